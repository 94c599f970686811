def fX11_in (jx0 : Int32) (jx1 : Int32) (jx2 : Int32) : Option (Int32) := if jx0 < jx1 then some (0 : Int32) else if jx2 < jx0 then some (0 : Int32) else some (1 : Int32)
abbrev rmX11_in : Room := { frames := 0, cells := 0, slots := 0, locals := 0 }
theorem hdX11_in : yX11_in.cls ≠ "java/lang/invoke/MethodHandle" ∧ yX11_in.cls ≠ "java/lang/invoke/VarHandle" ∧ (parseMethodDescriptor yX11_in.desc).map (fun d => d.parameters.length) = some 3 := by decide +kernel
set_option maxHeartbeats 4000000 in
set_option maxRecDepth 100000 in
theorem ctX11_in (l : Launch) (D : va_G) (cI cZ : ClassId) (jx0 : Int32) (jx1 : Int32) (jx2 : Int32) (r : Int32) (hf : fX11_in jx0 jx1 jx2 = some r) : cR l yX11_in wsX11_in rmX11_in [.int jx0, .int jx1, .int jx2] D [] (KX D cI cZ) r := by
  refine cR_of (cc := cX11_in) (maxL := 3) (ret := some .boolean) (by decide +kernel) rfl _ (Nat.le_of_ble_eq_true rfl) ?_
  intro p e s m below meth c ls S hr hlk hP hK hl
  obtain ⟨hx, hb, hml, hown, hts⟩ := id S
  have hl : lv_has ls 3 [(0, .int jx0), (1, .int jx1), (2, .int jx2)] := hl
  unfold fX11_in at hf
  refine lv_iload_n hx hb dX11_in_0 rfl (lv_at hl 0 rfl) ?_
  refine lv_iload_n hx hb dX11_in_1 rfl (lv_at hl 1 rfl) ?_
  refine lv_icmp_lt (tgt := 14) hx hb dX11_in_2 (by decide) (fun jc1 => ?_) (fun jc1 => ?_)
  · have hf := ite_t jc1 hf
    refine lv_iconst (v := 0) hx hb dX11_in_14 (by decide) ?_
    obtain rfl := Option.some.inj hf
    exact retRz hx hb hr hlk (by decide) dX11_in_15
  · have hf := ite_f jc1 hf
    refine lv_iload_n hx hb dX11_in_5 rfl (lv_at hl 0 rfl) ?_
    refine lv_iload_n hx hb dX11_in_6 rfl (lv_at hl 2 rfl) ?_
    refine lv_icmp_gt (tgt := 14) hx hb dX11_in_7 (by decide) (fun jc2 => ?_) (fun jc2 => ?_)
    · have hf := ite_t jc2 hf
      refine lv_iconst (v := 0) hx hb dX11_in_14 (by decide) ?_
      obtain rfl := Option.some.inj hf
      exact retRz hx hb hr hlk (by decide) dX11_in_15
    · have hf := ite_f jc2 hf
      refine lv_iconst (v := 1) hx hb dX11_in_10 (by decide) ?_
      refine lv_goto (tgt := 15) hx hb dX11_in_11 (by decide) ?_
      obtain rfl := Option.some.inj hf
      exact retRz hx hb hr hlk (by decide) dX11_in_15
def fX11_has (jx0 : Int32) (jx1 : Int32) : Option (Int32) := if ((jx0 >>> (jx1 &&& 31)) &&& (1 : Int32)) = (1 : Int32) then some (1 : Int32) else some (0 : Int32)
abbrev rmX11_has : Room := { frames := 0, cells := 0, slots := 0, locals := 0 }
theorem hdX11_has : yX11_has.cls ≠ "java/lang/invoke/MethodHandle" ∧ yX11_has.cls ≠ "java/lang/invoke/VarHandle" ∧ (parseMethodDescriptor yX11_has.desc).map (fun d => d.parameters.length) = some 2 := by decide +kernel
set_option maxHeartbeats 4000000 in
set_option maxRecDepth 100000 in
theorem ctX11_has (l : Launch) (D : va_G) (cI cZ : ClassId) (jx0 : Int32) (jx1 : Int32) (r : Int32) (hf : fX11_has jx0 jx1 = some r) : cR l yX11_has wsX11_has rmX11_has [.int jx0, .int jx1] D [] (KX D cI cZ) r := by
  refine cR_of (cc := cX11_has) (maxL := 2) (ret := some .boolean) (by decide +kernel) rfl _ (Nat.le_of_ble_eq_true rfl) ?_
  intro p e s m below meth c ls S hr hlk hP hK hl
  obtain ⟨hx, hb, hml, hown, hts⟩ := id S
  have hl : lv_has ls 2 [(0, .int jx0), (1, .int jx1)] := hl
  unfold fX11_has at hf
  refine lv_iload_n hx hb dX11_has_0 rfl (lv_at hl 0 rfl) ?_
  refine lv_iload_n hx hb dX11_has_1 rfl (lv_at hl 1 rfl) ?_
  refine lv_ishr hx hb dX11_has_2 ?_
  refine lv_iconst (v := 1) hx hb dX11_has_3 (by decide) ?_
  refine lv_iand hx hb dX11_has_4 ?_
  refine lv_iconst (v := 1) hx hb dX11_has_5 (by decide) ?_
  refine lv_icmp_ne (tgt := 13) hx hb dX11_has_6 (by decide) (fun jc1 => ?_) (fun jc1 => ?_)
  · have hf := ite_f jc1 hf
    refine lv_iconst (v := 0) hx hb dX11_has_13 (by decide) ?_
    obtain rfl := Option.some.inj hf
    exact retRz hx hb hr hlk (by decide) dX11_has_14
  · have hf := ite_t jc1 hf
    refine lv_iconst (v := 1) hx hb dX11_has_9 (by decide) ?_
    refine lv_goto (tgt := 14) hx hb dX11_has_10 (by decide) ?_
    obtain rfl := Option.some.inj hf
    exact retRz hx hb hr hlk (by decide) dX11_has_14
def fX11_ones_4  : Nat → Int32 → Int32 → Option (Int32)
  | 0, _, _ => none
  | n + 1, jx1, jx2 => if jx2 = 0 then some jx1 else (fX11_ones_4 n) (jx1 + (1 : Int32)) (jx2 &&& (jx2 - (1 : Int32)))
theorem fX11_ones_4_s  (n : Nat) (jx1 : Int32) (jx2 : Int32) : fX11_ones_4  (n + 1) jx1 jx2 = if jx2 = 0 then some jx1 else (fX11_ones_4 n) (jx1 + (1 : Int32)) (jx2 &&& (jx2 - (1 : Int32))) := rfl
def fX11_ones (jx0 : Int32) : Option (Int32) := fX11_ones_4 fuel (0 : Int32) jx0
abbrev rmX11_ones : Room := { frames := 0, cells := 0, slots := 0, locals := 0 }
set_option maxHeartbeats 4000000 in
set_option maxRecDepth 100000 in
theorem wX11_ones_4 {p : Program} {l : Launch} {e : Env} {s : State} {m : MethodId} {args : Array Value} {below : List Frame} {meth : Method} {c : Code} {D : va_G} {cI cZ : ClassId} (S : CallFix p m c cX11_ones 3 s args wsX11_ones RX11) (hr : meth.sig.returnType = some .int) (hlk : meth.locks = false) (hK : KX D cI cZ s) {r : Int32} (hP : va_P D vwCl [] s.heap) : ∀ (n : Nat), ∀ (jx1 : Int32) (jx2 : Int32) (ls : Array Slot), fX11_ones_4  n jx1 jx2 = some r → lv_has ls 3 [(1, .int jx1), (2, .int jx2)] → W p l e rmX11_ones s m args below meth c s.heap [] 0 0 (MQ below (QcRead r) args s 0 0 (fun _ => False)) (F0 m 4 ls []) := by
  obtain ⟨hx, hb, hml, hown, hts⟩ := id S
  intro n
  induction n with
  | zero =>
    intro jx1 jx2 ls hf hl
    cases (show (none : Option _) = some _ from hf)
  | succ n ih =>
    intro jx1 jx2 ls hf hl
    have hf := (fX11_ones_4_s  n _ _).symm.trans hf
    refine lv_iload_n hx hb dX11_ones_4 rfl (lv_at hl 1 rfl) ?_
    refine lv_if_eq (tgt := 20) hx hb dX11_ones_5 (by decide) (fun jc1 => ?_) (fun jc1 => ?_)
    · have hf := ite_t jc1 hf
      refine lv_iload_n hx hb dX11_ones_20 rfl (lv_at hl 0 rfl) ?_
      obtain rfl := Option.some.inj hf
      exact retR hx hb hr hlk dX11_ones_21
    · have hf := ite_f jc1 hf
      refine lv_iinc (v := (jx1 + (1 : Int32))) (lv' := [(1, .int (jx1 + (1 : Int32))), (2, .int jx2)]) hx hb dX11_ones_8 hl (k := 0) rfl rfl (by decide) rfl (fun ls hl => ?_)
      refine lv_iload_n hx hb dX11_ones_11 rfl (lv_at hl 1 rfl) ?_
      refine lv_iload_n hx hb dX11_ones_12 rfl (lv_at hl 1 rfl) ?_
      refine lv_iconst (v := 1) hx hb dX11_ones_13 (by decide) ?_
      refine lv_isub hx hb dX11_ones_14 ?_
      refine lv_iand hx hb dX11_ones_15 ?_
      refine lv_istore_n (lv' := [(2, .int (jx2 &&& (jx2 - (1 : Int32)))), (1, .int (jx1 + (1 : Int32)))]) hx hb dX11_ones_16 rfl hl (by decide) rfl (fun ls hl => ?_)
      refine lv_goto (tgt := 4) hx hb dX11_ones_17 (by decide) ?_
      exact ih (jx1 + (1 : Int32)) (jx2 &&& (jx2 - (1 : Int32))) ls hf (lv_sub hl [1, 0] rfl)
theorem hdX11_ones : yX11_ones.cls ≠ "java/lang/invoke/MethodHandle" ∧ yX11_ones.cls ≠ "java/lang/invoke/VarHandle" ∧ (parseMethodDescriptor yX11_ones.desc).map (fun d => d.parameters.length) = some 1 := by decide +kernel
set_option maxHeartbeats 4000000 in
set_option maxRecDepth 100000 in
theorem ctX11_ones (l : Launch) (D : va_G) (cI cZ : ClassId) (jx0 : Int32) (r : Int32) (hf : fX11_ones jx0 = some r) : cR l yX11_ones wsX11_ones rmX11_ones [.int jx0] D [] (KX D cI cZ) r := by
  refine cR_of (cc := cX11_ones) (maxL := 3) (ret := some .int) (by decide +kernel) rfl _ (Nat.le_of_ble_eq_true rfl) ?_
  intro p e s m below meth c ls S hr hlk hP hK hl
  obtain ⟨hx, hb, hml, hown, hts⟩ := id S
  have hl : lv_has ls 3 [(0, .int jx0)] := hl
  unfold fX11_ones at hf
  refine lv_iconst (v := 0) hx hb dX11_ones_0 (by decide) ?_
  refine lv_istore_n (lv' := [(1, .int (0 : Int32)), (0, .int jx0)]) hx hb dX11_ones_1 rfl hl (by decide) rfl (fun ls hl => ?_)
  refine lv_iload_n hx hb dX11_ones_2 rfl (lv_at hl 1 rfl) ?_
  refine lv_istore_n (lv' := [(2, .int jx0), (1, .int (0 : Int32)), (0, .int jx0)]) hx hb dX11_ones_3 rfl hl (by decide) rfl (fun ls hl => ?_)
  exact wX11_ones_4 S hr hlk hK hP fuel (0 : Int32) jx0 ls hf (lv_sub hl [1, 0] rfl)
def fX11_type (jx1 : Int32) (v_t_thrown : Int32) (v_t_typed : Int32) (v_t_text : (Nat → Int32)) : Option (Int32 × Int32 × Int32 × (Nat → Int32)) := bd1 (fX11_in jx1 (0 : Int32) (255 : Int32)) (fun jr1 => if jr1 = 0 then some ((-1 : Int32), (0 : Int32), v_t_typed, v_t_text) else if v_t_typed = (120 : Int32) then some ((-3 : Int32), (0 : Int32), v_t_typed, v_t_text) else ckI 120 v_t_typed (some ((v_t_typed + (1 : Int32)), (0 : Int32), (v_t_typed + (1 : Int32)), (upd v_t_text (Int32.toNatClampNeg v_t_typed) jx1))))
abbrev rmX11_type : Room := { frames := 1, cells := 0, slots := 0, locals := 22 }
theorem iX11_type_X11 : ∀ w ∈ wsX110, w ∈ wsX11_type := fun _ h => List.mem_cons_of_mem _ (List.mem_append_right _ h)
theorem mX11_type_1 : (Cond.fieldLink RX11 50 "VoteFilesModel" "thrown" "I") ∈ wsX11_type := List.mem_of_getElem? (i := 1) rfl
theorem mX11_type_2 : (Cond.fieldLink RX11 58 "VoteFilesModel" "typed" "I") ∈ wsX11_type := List.mem_of_getElem? (i := 2) rfl
theorem mX11_type_3 : (Cond.fieldLink RX11 7 "VoteFilesModel" "text" "[I") ∈ wsX11_type := List.mem_of_getElem? (i := 3) rfl
theorem hdX11_type : yX11_type.cls ≠ "java/lang/invoke/MethodHandle" ∧ yX11_type.cls ≠ "java/lang/invoke/VarHandle" ∧ (parseMethodDescriptor yX11_type.desc).map (fun d => d.parameters.length) = some 1 := by decide +kernel
set_option maxHeartbeats 4000000 in
set_option maxRecDepth 100000 in
theorem ctX11_type (l : Launch) (D : va_G) (cI cZ : ClassId) (a_t a_t_text a_t_draft a_t_s a_t_undos a_t_kept a_t_isKept a_t_seenWay a_t_seenIs a_t_sums a_t_parts a_t_heaps : Nat) (jx1 : Int32) (v_t_thrown : Int32) (v_t_typed : Int32) (v_t_text : (Nat → Int32)) (v_t_spot : Int32) (v_t_token : Int32) (v_t_place : Int32) (v_t_value : Int32) (v_t_fault : Int32) (v_t_copies : Int32) (v_t_draftCopies : Int32) (v_t_undoMany : Int32) (v_t_seenMany : Int32) (v_t_asked : Int32) (r : Int32) (o_t_thrown : Int32) (o_t_typed : Int32) (o_t_text : (Nat → Int32)) (hf : fX11_type jx1 v_t_thrown v_t_typed v_t_text = some (r, o_t_thrown, o_t_typed, o_t_text)) : cM l yX11_type wsX11_type rmX11_type [.ref a_t, .int jx1] D [(a_t, .inr (11, [.int v_t_thrown, .ref a_t_text, .int v_t_typed, .int v_t_spot, .int v_t_token, .int v_t_place, .int v_t_value, .int v_t_fault, .int v_t_copies, .int v_t_draftCopies, .ref a_t_draft, .ref a_t_s, .ref a_t_undos, .int v_t_undoMany, .ref a_t_kept, .ref a_t_isKept, .ref a_t_seenWay, .ref a_t_seenIs, .int v_t_seenMany, .int v_t_asked, .ref a_t_sums, .ref a_t_parts, .ref a_t_heaps])), (a_t_text, .inl (cI, 120, .inl v_t_text))] [(a_t, .inr (11, [.int o_t_thrown, .ref a_t_text, .int o_t_typed, .int v_t_spot, .int v_t_token, .int v_t_place, .int v_t_value, .int v_t_fault, .int v_t_copies, .int v_t_draftCopies, .ref a_t_draft, .ref a_t_s, .ref a_t_undos, .int v_t_undoMany, .ref a_t_kept, .ref a_t_isKept, .ref a_t_seenWay, .ref a_t_seenIs, .int v_t_seenMany, .int v_t_asked, .ref a_t_sums, .ref a_t_parts, .ref a_t_heaps])), (a_t_text, .inl (cI, 120, .inl o_t_text))] (KX D cI cZ) (some (.int r)) := by
  refine cM_of (cc := cX11_type) (maxL := 2) (ret := some .int) (by decide +kernel) rfl _ (Nat.le_of_ble_eq_true rfl) ?_
  intro p e s m below meth c ls A S hr hlk hP hK hl hD hA hS
  obtain ⟨hx, hb, hml, hown, hts⟩ := id S
  have hl : lv_has ls 2 [(0, .ref a_t), (1, .int jx1)] := hl
  unfold fX11_type at hf
  refine lv_aload_n hx hb dX11_type_0 rfl (lv_at hl 0 rfl) ?_
  refine lv_iconst (v := 0) hx hb dX11_type_1 (by decide) ?_
  refine va_put (D := D) (ci := 11) (v := .int (0 : Int32)) (ty := .int) (C := RX11) (T := TX11) (N := 23) hx hb hts iX11_type_X11 tyX11 tyX11_ok nmX11 hown hK.1 hP hD hS 0 rfl rfl 0 (by decide) (hts _ mX11_type_1) (fun _ h9 => h9) rfl (tyX11_ok 0 (by decide)) rfl rfl (Nat.le_of_ble_eq_true rfl) dX11_type_2 (fun H locs hP hD hS => ?_)
  have hP : va_P D vwCl [(a_t, .inr (11, [.int (0 : Int32), .ref a_t_text, .int v_t_typed, .int v_t_spot, .int v_t_token, .int v_t_place, .int v_t_value, .int v_t_fault, .int v_t_copies, .int v_t_draftCopies, .ref a_t_draft, .ref a_t_s, .ref a_t_undos, .int v_t_undoMany, .ref a_t_kept, .ref a_t_isKept, .ref a_t_seenWay, .ref a_t_seenIs, .int v_t_seenMany, .int v_t_asked, .ref a_t_sums, .ref a_t_parts, .ref a_t_heaps])), (a_t_text, .inl (cI, 120, .inl v_t_text))] H := hP
  have hD : va_D A [(a_t, .inr (11, [.int (0 : Int32), .ref a_t_text, .int v_t_typed, .int v_t_spot, .int v_t_token, .int v_t_place, .int v_t_value, .int v_t_fault, .int v_t_copies, .int v_t_draftCopies, .ref a_t_draft, .ref a_t_s, .ref a_t_undos, .int v_t_undoMany, .ref a_t_kept, .ref a_t_isKept, .ref a_t_seenWay, .ref a_t_seenIs, .int v_t_seenMany, .int v_t_asked, .ref a_t_sums, .ref a_t_parts, .ref a_t_heaps])), (a_t_text, .inl (cI, 120, .inl v_t_text))] := hD
  refine lv_iload_n hx hb dX11_type_5 rfl (lv_at hl 1 rfl) ?_
  refine lv_iconst (v := 0) hx hb dX11_type_6 (by decide) ?_
  refine lv_sipush (v := 255) hx hb dX11_type_7 (by decide) ?_
  obtain ⟨jr1, je2, hf⟩ := bd1_inv hf
  refine callRS (As := [.int jx1, .int (0 : Int32), .int (255 : Int32)]) (rest := []) S (ctX11_in l D cI cZ jx1 (0 : Int32) (255 : Int32) jr1 je2) (va_cwS 3 hts gX11_type_X11_in rfl rfl rfl hdX11_in ⟨Nat.le_of_ble_eq_true rfl, Nat.le_of_ble_eq_true rfl⟩) hP [] rfl KX.xs (fun U _ hW => hK.warm hW) rfl hl.1 rfl (Nat.le_of_ble_eq_true rfl) dX11_type_10 ⟨Nat.zero_le _, Nat.zero_le _⟩ ?_
  refine lv_if_ne (tgt := 18) hx hb dX11_type_13 (by decide) (fun jc3 => ?_) (fun jc3 => ?_)
  · have hf := ite_f jc3 hf
    refine lv_aload_n hx hb dX11_type_18 rfl (lv_at hl 0 rfl) ?_
    refine va_get (D := D) (ci := 11) (v := .int v_t_typed) (C := RX11) (T := TX11) (N := 23) hx hb hts iX11_type_X11 hown hK.1 hP 0 rfl rfl 2 (by decide) (hts _ mX11_type_2) (fun _ h9 => h9) rfl dX11_type_19 ?_
    refine lv_bipush (v := 120) hx hb dX11_type_22 (by decide) ?_
    refine lv_icmp_ne (tgt := 30) hx hb dX11_type_24 (by decide) (fun jc4 => ?_) (fun jc4 => ?_)
    · have hf := ite_f jc4 hf
      refine lv_aload_n hx hb dX11_type_30 rfl (lv_at hl 0 rfl) ?_
      refine va_get (D := D) (ci := 11) (v := .ref a_t_text) (C := RX11) (T := TX11) (N := 23) hx hb hts iX11_type_X11 hown hK.1 hP 0 rfl rfl 1 (by decide) (hts _ mX11_type_3) (fun _ h9 => h9) rfl dX11_type_31 ?_
      refine lv_aload_n hx hb dX11_type_34 rfl (lv_at hl 0 rfl) ?_
      refine va_get (D := D) (ci := 11) (v := .int v_t_typed) (C := RX11) (T := TX11) (N := 23) hx hb hts iX11_type_X11 hown hK.1 hP 0 rfl rfl 2 (by decide) (hts _ mX11_type_2) (fun _ h9 => h9) rfl dX11_type_35 ?_
      refine lv_iload_n hx hb dX11_type_38 rfl (lv_at hl 1 rfl) ?_
      obtain ⟨jh5, hf⟩ := ckI_inv hf
      refine va_iast hx hb hK.1 hP hD hS 1 0 rfl rfl jh5 dX11_type_39 (fun H locs hP hD hS => ?_)
      have hP : va_P D vwCl [(a_t, .inr (11, [.int (0 : Int32), .ref a_t_text, .int v_t_typed, .int v_t_spot, .int v_t_token, .int v_t_place, .int v_t_value, .int v_t_fault, .int v_t_copies, .int v_t_draftCopies, .ref a_t_draft, .ref a_t_s, .ref a_t_undos, .int v_t_undoMany, .ref a_t_kept, .ref a_t_isKept, .ref a_t_seenWay, .ref a_t_seenIs, .int v_t_seenMany, .int v_t_asked, .ref a_t_sums, .ref a_t_parts, .ref a_t_heaps])), (a_t_text, .inl (cI, 120, .inl (upd v_t_text (Int32.toNatClampNeg v_t_typed) jx1)))] H := hP
      have hD : va_D A [(a_t, .inr (11, [.int (0 : Int32), .ref a_t_text, .int v_t_typed, .int v_t_spot, .int v_t_token, .int v_t_place, .int v_t_value, .int v_t_fault, .int v_t_copies, .int v_t_draftCopies, .ref a_t_draft, .ref a_t_s, .ref a_t_undos, .int v_t_undoMany, .ref a_t_kept, .ref a_t_isKept, .ref a_t_seenWay, .ref a_t_seenIs, .int v_t_seenMany, .int v_t_asked, .ref a_t_sums, .ref a_t_parts, .ref a_t_heaps])), (a_t_text, .inl (cI, 120, .inl (upd v_t_text (Int32.toNatClampNeg v_t_typed) jx1)))] := hD
      refine lv_aload_n hx hb dX11_type_40 rfl (lv_at hl 0 rfl) ?_
      refine lv_dup hx hb dX11_type_41 rfl ?_
      refine va_get (D := D) (ci := 11) (v := .int v_t_typed) (C := RX11) (T := TX11) (N := 23) hx hb hts iX11_type_X11 hown hK.1 hP 0 rfl rfl 2 (by decide) (hts _ mX11_type_2) (fun _ h9 => h9) rfl dX11_type_42 ?_
      refine lv_iconst (v := 1) hx hb dX11_type_45 (by decide) ?_
      refine lv_iadd hx hb dX11_type_46 ?_
      refine va_put (D := D) (ci := 11) (v := .int (v_t_typed + (1 : Int32))) (ty := .int) (C := RX11) (T := TX11) (N := 23) hx hb hts iX11_type_X11 tyX11 tyX11_ok nmX11 hown hK.1 hP hD hS 0 rfl rfl 2 (by decide) (hts _ mX11_type_2) (fun _ h9 => h9) rfl (tyX11_ok 2 (by decide)) rfl rfl (Nat.le_of_ble_eq_true rfl) dX11_type_47 (fun H locs hP hD hS => ?_)
      have hP : va_P D vwCl [(a_t, .inr (11, [.int (0 : Int32), .ref a_t_text, .int (v_t_typed + (1 : Int32)), .int v_t_spot, .int v_t_token, .int v_t_place, .int v_t_value, .int v_t_fault, .int v_t_copies, .int v_t_draftCopies, .ref a_t_draft, .ref a_t_s, .ref a_t_undos, .int v_t_undoMany, .ref a_t_kept, .ref a_t_isKept, .ref a_t_seenWay, .ref a_t_seenIs, .int v_t_seenMany, .int v_t_asked, .ref a_t_sums, .ref a_t_parts, .ref a_t_heaps])), (a_t_text, .inl (cI, 120, .inl (upd v_t_text (Int32.toNatClampNeg v_t_typed) jx1)))] H := hP
      have hD : va_D A [(a_t, .inr (11, [.int (0 : Int32), .ref a_t_text, .int (v_t_typed + (1 : Int32)), .int v_t_spot, .int v_t_token, .int v_t_place, .int v_t_value, .int v_t_fault, .int v_t_copies, .int v_t_draftCopies, .ref a_t_draft, .ref a_t_s, .ref a_t_undos, .int v_t_undoMany, .ref a_t_kept, .ref a_t_isKept, .ref a_t_seenWay, .ref a_t_seenIs, .int v_t_seenMany, .int v_t_asked, .ref a_t_sums, .ref a_t_parts, .ref a_t_heaps])), (a_t_text, .inl (cI, 120, .inl (upd v_t_text (Int32.toNatClampNeg v_t_typed) jx1)))] := hD
      refine lv_aload_n hx hb dX11_type_50 rfl (lv_at hl 0 rfl) ?_
      refine va_get (D := D) (ci := 11) (v := .int (v_t_typed + (1 : Int32))) (C := RX11) (T := TX11) (N := 23) hx hb hts iX11_type_X11 hown hK.1 hP 0 rfl rfl 2 (by decide) (hts _ mX11_type_2) (fun _ h9 => h9) rfl dX11_type_51 ?_
      obtain ⟨rfl, rfl, rfl, rfl⟩ := pr4_inv hf
      exact retM hx hb hr hlk hP hD hS dX11_type_54
    · have hf := ite_t jc4 hf
      refine lv_bipush (v := -3) hx hb dX11_type_27 (by decide) ?_
      obtain ⟨rfl, rfl, rfl, rfl⟩ := pr4_inv hf
      exact retM hx hb hr hlk hP hD hS dX11_type_29
  · have hf := ite_t jc3 hf
    refine lv_iconst (v := -1) hx hb dX11_type_16 (by decide) ?_
    obtain ⟨rfl, rfl, rfl, rfl⟩ := pr4_inv hf
    exact retM hx hb hr hlk hP hD hS dX11_type_17
def fX11_clear (v_t_thrown : Int32) (v_t_typed : Int32) : Option (Int32 × Int32 × Int32) := some (v_t_typed, (0 : Int32), (0 : Int32))
abbrev rmX11_clear : Room := { frames := 0, cells := 0, slots := 0, locals := 0 }
theorem iX11_clear_X11 : ∀ w ∈ wsX110, w ∈ wsX11_clear := fun _ h => List.mem_cons_of_mem _ (List.mem_append_right _ h)
theorem mX11_clear_1 : (Cond.fieldLink RX11 50 "VoteFilesModel" "thrown" "I") ∈ wsX11_clear := List.mem_of_getElem? (i := 1) rfl
theorem mX11_clear_2 : (Cond.fieldLink RX11 58 "VoteFilesModel" "typed" "I") ∈ wsX11_clear := List.mem_of_getElem? (i := 2) rfl
theorem hdX11_clear : yX11_clear.cls ≠ "java/lang/invoke/MethodHandle" ∧ yX11_clear.cls ≠ "java/lang/invoke/VarHandle" ∧ (parseMethodDescriptor yX11_clear.desc).map (fun d => d.parameters.length) = some 0 := by decide +kernel
set_option maxHeartbeats 4000000 in
set_option maxRecDepth 100000 in
theorem ctX11_clear (l : Launch) (D : va_G) (cI cZ : ClassId) (a_t a_t_text a_t_draft a_t_s a_t_undos a_t_kept a_t_isKept a_t_seenWay a_t_seenIs a_t_sums a_t_parts a_t_heaps : Nat) (v_t_thrown : Int32) (v_t_typed : Int32) (v_t_spot : Int32) (v_t_token : Int32) (v_t_place : Int32) (v_t_value : Int32) (v_t_fault : Int32) (v_t_copies : Int32) (v_t_draftCopies : Int32) (v_t_undoMany : Int32) (v_t_seenMany : Int32) (v_t_asked : Int32) (r : Int32) (o_t_thrown : Int32) (o_t_typed : Int32) (hf : fX11_clear v_t_thrown v_t_typed = some (r, o_t_thrown, o_t_typed)) : cM l yX11_clear wsX11_clear rmX11_clear [.ref a_t] D [(a_t, .inr (11, [.int v_t_thrown, .ref a_t_text, .int v_t_typed, .int v_t_spot, .int v_t_token, .int v_t_place, .int v_t_value, .int v_t_fault, .int v_t_copies, .int v_t_draftCopies, .ref a_t_draft, .ref a_t_s, .ref a_t_undos, .int v_t_undoMany, .ref a_t_kept, .ref a_t_isKept, .ref a_t_seenWay, .ref a_t_seenIs, .int v_t_seenMany, .int v_t_asked, .ref a_t_sums, .ref a_t_parts, .ref a_t_heaps]))] [(a_t, .inr (11, [.int o_t_thrown, .ref a_t_text, .int o_t_typed, .int v_t_spot, .int v_t_token, .int v_t_place, .int v_t_value, .int v_t_fault, .int v_t_copies, .int v_t_draftCopies, .ref a_t_draft, .ref a_t_s, .ref a_t_undos, .int v_t_undoMany, .ref a_t_kept, .ref a_t_isKept, .ref a_t_seenWay, .ref a_t_seenIs, .int v_t_seenMany, .int v_t_asked, .ref a_t_sums, .ref a_t_parts, .ref a_t_heaps]))] (KX D cI cZ) (some (.int r)) := by
  refine cM_of (cc := cX11_clear) (maxL := 2) (ret := some .int) (by decide +kernel) rfl _ (Nat.le_of_ble_eq_true rfl) ?_
  intro p e s m below meth c ls A S hr hlk hP hK hl hD hA hS
  obtain ⟨hx, hb, hml, hown, hts⟩ := id S
  have hl : lv_has ls 2 [(0, .ref a_t)] := hl
  unfold fX11_clear at hf
  refine lv_aload_n hx hb dX11_clear_0 rfl (lv_at hl 0 rfl) ?_
  refine lv_iconst (v := 0) hx hb dX11_clear_1 (by decide) ?_
  refine va_put (D := D) (ci := 11) (v := .int (0 : Int32)) (ty := .int) (C := RX11) (T := TX11) (N := 23) hx hb hts iX11_clear_X11 tyX11 tyX11_ok nmX11 hown hK.1 hP hD hS 0 rfl rfl 0 (by decide) (hts _ mX11_clear_1) (fun _ h9 => h9) rfl (tyX11_ok 0 (by decide)) rfl rfl (Nat.le_of_ble_eq_true rfl) dX11_clear_2 (fun H locs hP hD hS => ?_)
  have hP : va_P D vwCl [(a_t, .inr (11, [.int (0 : Int32), .ref a_t_text, .int v_t_typed, .int v_t_spot, .int v_t_token, .int v_t_place, .int v_t_value, .int v_t_fault, .int v_t_copies, .int v_t_draftCopies, .ref a_t_draft, .ref a_t_s, .ref a_t_undos, .int v_t_undoMany, .ref a_t_kept, .ref a_t_isKept, .ref a_t_seenWay, .ref a_t_seenIs, .int v_t_seenMany, .int v_t_asked, .ref a_t_sums, .ref a_t_parts, .ref a_t_heaps]))] H := hP
  have hD : va_D A [(a_t, .inr (11, [.int (0 : Int32), .ref a_t_text, .int v_t_typed, .int v_t_spot, .int v_t_token, .int v_t_place, .int v_t_value, .int v_t_fault, .int v_t_copies, .int v_t_draftCopies, .ref a_t_draft, .ref a_t_s, .ref a_t_undos, .int v_t_undoMany, .ref a_t_kept, .ref a_t_isKept, .ref a_t_seenWay, .ref a_t_seenIs, .int v_t_seenMany, .int v_t_asked, .ref a_t_sums, .ref a_t_parts, .ref a_t_heaps]))] := hD
  refine lv_aload_n hx hb dX11_clear_5 rfl (lv_at hl 0 rfl) ?_
  refine va_get (D := D) (ci := 11) (v := .int v_t_typed) (C := RX11) (T := TX11) (N := 23) hx hb hts iX11_clear_X11 hown hK.1 hP 0 rfl rfl 2 (by decide) (hts _ mX11_clear_2) (fun _ h9 => h9) rfl dX11_clear_6 ?_
  refine lv_istore_n (lv' := [(1, .int v_t_typed), (0, .ref a_t)]) hx hb dX11_clear_9 rfl hl (by decide) rfl (fun ls hl => ?_)
  refine lv_aload_n hx hb dX11_clear_10 rfl (lv_at hl 1 rfl) ?_
  refine lv_iconst (v := 0) hx hb dX11_clear_11 (by decide) ?_
  refine va_put (D := D) (ci := 11) (v := .int (0 : Int32)) (ty := .int) (C := RX11) (T := TX11) (N := 23) hx hb hts iX11_clear_X11 tyX11 tyX11_ok nmX11 hown hK.1 hP hD hS 0 rfl rfl 2 (by decide) (hts _ mX11_clear_2) (fun _ h9 => h9) rfl (tyX11_ok 2 (by decide)) rfl rfl (Nat.le_of_ble_eq_true rfl) dX11_clear_12 (fun H locs hP hD hS => ?_)
  have hP : va_P D vwCl [(a_t, .inr (11, [.int (0 : Int32), .ref a_t_text, .int (0 : Int32), .int v_t_spot, .int v_t_token, .int v_t_place, .int v_t_value, .int v_t_fault, .int v_t_copies, .int v_t_draftCopies, .ref a_t_draft, .ref a_t_s, .ref a_t_undos, .int v_t_undoMany, .ref a_t_kept, .ref a_t_isKept, .ref a_t_seenWay, .ref a_t_seenIs, .int v_t_seenMany, .int v_t_asked, .ref a_t_sums, .ref a_t_parts, .ref a_t_heaps]))] H := hP
  have hD : va_D A [(a_t, .inr (11, [.int (0 : Int32), .ref a_t_text, .int (0 : Int32), .int v_t_spot, .int v_t_token, .int v_t_place, .int v_t_value, .int v_t_fault, .int v_t_copies, .int v_t_draftCopies, .ref a_t_draft, .ref a_t_s, .ref a_t_undos, .int v_t_undoMany, .ref a_t_kept, .ref a_t_isKept, .ref a_t_seenWay, .ref a_t_seenIs, .int v_t_seenMany, .int v_t_asked, .ref a_t_sums, .ref a_t_parts, .ref a_t_heaps]))] := hD
  refine lv_iload_n hx hb dX11_clear_15 rfl (lv_at hl 0 rfl) ?_
  obtain ⟨rfl, rfl, rfl⟩ := pr3_inv hf
  exact retM hx hb hr hlk hP hD hS dX11_clear_16
def fX11_letterAt (jx1 : Int32) (v_t_typed : Int32) (v_t_text : (Nat → Int32)) : Option (Int32) := if v_t_typed ≤ jx1 then some (-1 : Int32) else ckI 120 jx1 (some (v_t_text (Int32.toNatClampNeg jx1)))
abbrev rmX11_letterAt : Room := { frames := 0, cells := 0, slots := 0, locals := 0 }
theorem iX11_letterAt_X11 : ∀ w ∈ wsX110, w ∈ wsX11_letterAt := fun _ h => List.mem_cons_of_mem _ (List.mem_append_right _ h)
theorem mX11_letterAt_1 : (Cond.fieldLink RX11 58 "VoteFilesModel" "typed" "I") ∈ wsX11_letterAt := List.mem_of_getElem? (i := 1) rfl
theorem mX11_letterAt_2 : (Cond.fieldLink RX11 7 "VoteFilesModel" "text" "[I") ∈ wsX11_letterAt := List.mem_of_getElem? (i := 2) rfl
theorem hdX11_letterAt : yX11_letterAt.cls ≠ "java/lang/invoke/MethodHandle" ∧ yX11_letterAt.cls ≠ "java/lang/invoke/VarHandle" ∧ (parseMethodDescriptor yX11_letterAt.desc).map (fun d => d.parameters.length) = some 1 := by decide +kernel
set_option maxHeartbeats 4000000 in
set_option maxRecDepth 100000 in
theorem ctX11_letterAt (l : Launch) (D : va_G) (cI cZ : ClassId) (a_t a_t_text a_t_draft a_t_s a_t_undos a_t_kept a_t_isKept a_t_seenWay a_t_seenIs a_t_sums a_t_parts a_t_heaps : Nat) (jx1 : Int32) (v_t_typed : Int32) (v_t_text : (Nat → Int32)) (v_t_thrown : Int32) (v_t_spot : Int32) (v_t_token : Int32) (v_t_place : Int32) (v_t_value : Int32) (v_t_fault : Int32) (v_t_copies : Int32) (v_t_draftCopies : Int32) (v_t_undoMany : Int32) (v_t_seenMany : Int32) (v_t_asked : Int32) (r : Int32) (hf : fX11_letterAt jx1 v_t_typed v_t_text = some r) : cR l yX11_letterAt wsX11_letterAt rmX11_letterAt [.ref a_t, .int jx1] D [(a_t, .inr (11, [.int v_t_thrown, .ref a_t_text, .int v_t_typed, .int v_t_spot, .int v_t_token, .int v_t_place, .int v_t_value, .int v_t_fault, .int v_t_copies, .int v_t_draftCopies, .ref a_t_draft, .ref a_t_s, .ref a_t_undos, .int v_t_undoMany, .ref a_t_kept, .ref a_t_isKept, .ref a_t_seenWay, .ref a_t_seenIs, .int v_t_seenMany, .int v_t_asked, .ref a_t_sums, .ref a_t_parts, .ref a_t_heaps])), (a_t_text, .inl (cI, 120, .inl v_t_text))] (KX D cI cZ) r := by
  refine cR_of (cc := cX11_letterAt) (maxL := 2) (ret := some .int) (by decide +kernel) rfl _ (Nat.le_of_ble_eq_true rfl) ?_
  intro p e s m below meth c ls S hr hlk hP hK hl
  obtain ⟨hx, hb, hml, hown, hts⟩ := id S
  have hl : lv_has ls 2 [(0, .ref a_t), (1, .int jx1)] := hl
  unfold fX11_letterAt at hf
  refine lv_iload_n hx hb dX11_letterAt_0 rfl (lv_at hl 1 rfl) ?_
  refine lv_aload_n hx hb dX11_letterAt_1 rfl (lv_at hl 0 rfl) ?_
  refine va_get (D := D) (ci := 11) (v := .int v_t_typed) (C := RX11) (T := TX11) (N := 23) hx hb hts iX11_letterAt_X11 hown hK.1 hP 0 rfl rfl 2 (by decide) (hts _ mX11_letterAt_1) (fun _ h9 => h9) rfl dX11_letterAt_2 ?_
  refine lv_icmp_ge (tgt := 17) hx hb dX11_letterAt_5 (by decide) (fun jc1 => ?_) (fun jc1 => ?_)
  · have hf := ite_t jc1 hf
    refine lv_iconst (v := -1) hx hb dX11_letterAt_17 (by decide) ?_
    obtain rfl := Option.some.inj hf
    exact retR hx hb hr hlk dX11_letterAt_18
  · have hf := ite_f jc1 hf
    refine lv_aload_n hx hb dX11_letterAt_8 rfl (lv_at hl 0 rfl) ?_
    refine va_get (D := D) (ci := 11) (v := .ref a_t_text) (C := RX11) (T := TX11) (N := 23) hx hb hts iX11_letterAt_X11 hown hK.1 hP 0 rfl rfl 1 (by decide) (hts _ mX11_letterAt_2) (fun _ h9 => h9) rfl dX11_letterAt_9 ?_
    refine lv_iload_n hx hb dX11_letterAt_12 rfl (lv_at hl 1 rfl) ?_
    obtain ⟨jh2, hf⟩ := ckI_inv hf
    refine va_iald hx hb hK.1 hP 1 0 rfl rfl jh2 dX11_letterAt_13 ?_
    refine lv_goto (tgt := 18) hx hb dX11_letterAt_14 (by decide) ?_
    obtain rfl := Option.some.inj hf
    exact retR hx hb hr hlk dX11_letterAt_18
def fX11_isRow_75 (v_t_typed : Int32) (v_t_place : Int32) (v_t_text : (Nat → Int32)) (jx6 : Int32) (jx7 : Int32) : Option (Int32) := if jx6 = 0 then some (1 : Int32) else bd1 (fX11_letterAt (v_t_place + (5 : Int32)) v_t_typed v_t_text) (fun jr2 => if jr2 = jx6 then bd1 (fX11_letterAt (v_t_place + (6 : Int32)) v_t_typed v_t_text) (fun jr5 => if jr5 = jx7 then some (1 : Int32) else some (0 : Int32)) else some (0 : Int32))
def fX11_isRow (jx1 : Int32) (jx2 : Int32) (jx3 : Int32) (jx4 : Int32) (jx5 : Int32) (jx6 : Int32) (jx7 : Int32) (v_t_typed : Int32) (v_t_place : Int32) (v_t_text : (Nat → Int32)) : Option (Int32) := bd1 (fX11_letterAt v_t_place v_t_typed v_t_text) (fun jr1 => if jr1 = jx1 then bd1 (fX11_letterAt (v_t_place + (1 : Int32)) v_t_typed v_t_text) (fun jr4 => if jr4 = jx2 then bd1 (fX11_letterAt (v_t_place + (2 : Int32)) v_t_typed v_t_text) (fun jr7 => if jr7 = jx3 then bd1 (fX11_letterAt (v_t_place + (3 : Int32)) v_t_typed v_t_text) (fun jr10 => if jr10 = jx4 then if jx5 = 0 then fX11_isRow_75 v_t_typed v_t_place v_t_text jx6 jx7 else bd1 (fX11_letterAt (v_t_place + (4 : Int32)) v_t_typed v_t_text) (fun jr14 => if jr14 = jx5 then fX11_isRow_75 v_t_typed v_t_place v_t_text jx6 jx7 else some (0 : Int32)) else some (0 : Int32)) else some (0 : Int32)) else some (0 : Int32)) else some (0 : Int32))
abbrev rmX11_isRow : Room := { frames := 1, cells := 0, slots := 0, locals := 21 }
theorem iX11_isRow_X11 : ∀ w ∈ wsX110, w ∈ wsX11_isRow := fun _ h => List.mem_cons_of_mem _ (List.mem_append_right _ h)
theorem mX11_isRow_1 : (Cond.fieldLink RX11 61 "VoteFilesModel" "place" "I") ∈ wsX11_isRow := List.mem_of_getElem? (i := 1) rfl
set_option maxHeartbeats 4000000 in
set_option maxRecDepth 100000 in
theorem wX11_isRow_75 {p : Program} {l : Launch} {e : Env} {s : State} {m : MethodId} {args : Array Value} {below : List Frame} {meth : Method} {c : Code} {D : va_G} {cI cZ : ClassId} (S : CallFix p m c cX11_isRow 8 s args wsX11_isRow RX11) (hr : meth.sig.returnType = some .boolean) (hlk : meth.locks = false) (hK : KX D cI cZ s) {a_t a_t_text a_t_draft a_t_s a_t_undos a_t_kept a_t_isKept a_t_seenWay a_t_seenIs a_t_sums a_t_parts a_t_heaps : Nat} {v_t_typed : Int32} {v_t_place : Int32} {v_t_text : (Nat → Int32)} {v_t_thrown : Int32} {v_t_spot : Int32} {v_t_token : Int32} {v_t_value : Int32} {v_t_fault : Int32} {v_t_copies : Int32} {v_t_draftCopies : Int32} {v_t_undoMany : Int32} {v_t_seenMany : Int32} {v_t_asked : Int32} {r : Int32} (hP : va_P D vwCl [(a_t, .inr (11, [.int v_t_thrown, .ref a_t_text, .int v_t_typed, .int v_t_spot, .int v_t_token, .int v_t_place, .int v_t_value, .int v_t_fault, .int v_t_copies, .int v_t_draftCopies, .ref a_t_draft, .ref a_t_s, .ref a_t_undos, .int v_t_undoMany, .ref a_t_kept, .ref a_t_isKept, .ref a_t_seenWay, .ref a_t_seenIs, .int v_t_seenMany, .int v_t_asked, .ref a_t_sums, .ref a_t_parts, .ref a_t_heaps])), (a_t_text, .inl (cI, 120, .inl v_t_text))] s.heap) : ∀ (jx6 : Int32) (jx7 : Int32) (ls : Array Slot), fX11_isRow_75 v_t_typed v_t_place v_t_text jx6 jx7 = some r → lv_has ls 8 [(0, .ref a_t), (6, .int jx6), (7, .int jx7)] → W p l e rmX11_isRow s m args below meth c s.heap [] 0 0 (MQ below (QcRead r) args s 0 0 (fun _ => False)) (F0 m 75 ls []) := by
  obtain ⟨hx, hb, hml, hown, hts⟩ := id S
  intro jx6 jx7 ls hf hl
  unfold fX11_isRow_75 at hf
  refine lv_iload hx hb dX11_isRow_75 (lv_at hl 1 rfl) ?_
  refine lv_if_eq (tgt := 111) hx hb dX11_isRow_77 (by decide) (fun jc1 => ?_) (fun jc1 => ?_)
  · have hf := ite_t jc1 hf
    refine lv_iconst (v := 1) hx hb dX11_isRow_111 (by decide) ?_
    refine lv_goto (tgt := 116) hx hb dX11_isRow_112 (by decide) ?_
    obtain rfl := Option.some.inj hf
    exact retRz hx hb hr hlk (by decide) dX11_isRow_116
  · have hf := ite_f jc1 hf
    refine lv_aload_n hx hb dX11_isRow_80 rfl (lv_at hl 0 rfl) ?_
    refine lv_aload_n hx hb dX11_isRow_81 rfl (lv_at hl 0 rfl) ?_
    refine va_get (D := D) (ci := 11) (v := .int v_t_place) (C := RX11) (T := TX11) (N := 23) hx hb hts iX11_isRow_X11 hown hK.1 hP 0 rfl rfl 5 (by decide) (hts _ mX11_isRow_1) (fun _ h9 => h9) rfl dX11_isRow_82 ?_
    refine lv_iconst (v := 5) hx hb dX11_isRow_85 (by decide) ?_
    refine lv_iadd hx hb dX11_isRow_86 ?_
    obtain ⟨jr2, je3, hf⟩ := bd1_inv hf
    refine callRV (As := [.int (v_t_place + (5 : Int32))]) (rest := []) S (ctX11_letterAt l D cI cZ a_t a_t_text a_t_draft a_t_s a_t_undos a_t_kept a_t_isKept a_t_seenWay a_t_seenIs a_t_sums a_t_parts a_t_heaps (v_t_place + (5 : Int32)) v_t_typed v_t_text v_t_thrown v_t_spot v_t_token v_t_place v_t_value v_t_fault v_t_copies v_t_draftCopies v_t_undoMany v_t_seenMany v_t_asked jr2 je3) (cwV 1 hts gX11_isRow_X11_letterAt rfl rfl rfl ⟨rfl, hdX11_letterAt⟩ ⟨Nat.le_of_ble_eq_true rfl, Nat.le_of_ble_eq_true rfl⟩) hP [0, 1] rfl KX.xs (fun U _ hW => hK.warm hW) (va_recv hK.1 hP (ci := 11) (q0 := 0) rfl rfl) rfl hl.1 rfl (Nat.le_of_ble_eq_true rfl) dX11_isRow_87 ⟨Nat.zero_le _, Nat.zero_le _⟩ ?_
    refine lv_iload hx hb dX11_isRow_90 (lv_at hl 1 rfl) ?_
    refine lv_icmp_ne (tgt := 115) hx hb dX11_isRow_92 (by decide) (fun jc4 => ?_) (fun jc4 => ?_)
    · have hf := ite_f jc4 hf
      refine lv_iconst (v := 0) hx hb dX11_isRow_115 (by decide) ?_
      obtain rfl := Option.some.inj hf
      exact retRz hx hb hr hlk (by decide) dX11_isRow_116
    · have hf := ite_t jc4 hf
      refine lv_aload_n hx hb dX11_isRow_95 rfl (lv_at hl 0 rfl) ?_
      refine lv_aload_n hx hb dX11_isRow_96 rfl (lv_at hl 0 rfl) ?_
      refine va_get (D := D) (ci := 11) (v := .int v_t_place) (C := RX11) (T := TX11) (N := 23) hx hb hts iX11_isRow_X11 hown hK.1 hP 0 rfl rfl 5 (by decide) (hts _ mX11_isRow_1) (fun _ h9 => h9) rfl dX11_isRow_97 ?_
      refine lv_bipush (v := 6) hx hb dX11_isRow_100 (by decide) ?_
      refine lv_iadd hx hb dX11_isRow_102 ?_
      obtain ⟨jr5, je6, hf⟩ := bd1_inv hf
      refine callRV (As := [.int (v_t_place + (6 : Int32))]) (rest := []) S (ctX11_letterAt l D cI cZ a_t a_t_text a_t_draft a_t_s a_t_undos a_t_kept a_t_isKept a_t_seenWay a_t_seenIs a_t_sums a_t_parts a_t_heaps (v_t_place + (6 : Int32)) v_t_typed v_t_text v_t_thrown v_t_spot v_t_token v_t_place v_t_value v_t_fault v_t_copies v_t_draftCopies v_t_undoMany v_t_seenMany v_t_asked jr5 je6) (cwV 1 hts gX11_isRow_X11_letterAt rfl rfl rfl ⟨rfl, hdX11_letterAt⟩ ⟨Nat.le_of_ble_eq_true rfl, Nat.le_of_ble_eq_true rfl⟩) hP [0, 1] rfl KX.xs (fun U _ hW => hK.warm hW) (va_recv hK.1 hP (ci := 11) (q0 := 0) rfl rfl) rfl hl.1 rfl (Nat.le_of_ble_eq_true rfl) dX11_isRow_103 ⟨Nat.zero_le _, Nat.zero_le _⟩ ?_
      refine lv_iload hx hb dX11_isRow_106 (lv_at hl 2 rfl) ?_
      refine lv_icmp_ne (tgt := 115) hx hb dX11_isRow_108 (by decide) (fun jc7 => ?_) (fun jc7 => ?_)
      · have hf := ite_f jc7 hf
        refine lv_iconst (v := 0) hx hb dX11_isRow_115 (by decide) ?_
        obtain rfl := Option.some.inj hf
        exact retRz hx hb hr hlk (by decide) dX11_isRow_116
      · have hf := ite_t jc7 hf
        refine lv_iconst (v := 1) hx hb dX11_isRow_111 (by decide) ?_
        refine lv_goto (tgt := 116) hx hb dX11_isRow_112 (by decide) ?_
        obtain rfl := Option.some.inj hf
        exact retRz hx hb hr hlk (by decide) dX11_isRow_116
theorem hdX11_isRow : yX11_isRow.cls ≠ "java/lang/invoke/MethodHandle" ∧ yX11_isRow.cls ≠ "java/lang/invoke/VarHandle" ∧ (parseMethodDescriptor yX11_isRow.desc).map (fun d => d.parameters.length) = some 7 := by decide +kernel
set_option maxHeartbeats 4000000 in
set_option maxRecDepth 100000 in
theorem ctX11_isRow (l : Launch) (D : va_G) (cI cZ : ClassId) (a_t a_t_text a_t_draft a_t_s a_t_undos a_t_kept a_t_isKept a_t_seenWay a_t_seenIs a_t_sums a_t_parts a_t_heaps : Nat) (jx1 : Int32) (jx2 : Int32) (jx3 : Int32) (jx4 : Int32) (jx5 : Int32) (jx6 : Int32) (jx7 : Int32) (v_t_typed : Int32) (v_t_place : Int32) (v_t_text : (Nat → Int32)) (v_t_thrown : Int32) (v_t_spot : Int32) (v_t_token : Int32) (v_t_value : Int32) (v_t_fault : Int32) (v_t_copies : Int32) (v_t_draftCopies : Int32) (v_t_undoMany : Int32) (v_t_seenMany : Int32) (v_t_asked : Int32) (r : Int32) (hf : fX11_isRow jx1 jx2 jx3 jx4 jx5 jx6 jx7 v_t_typed v_t_place v_t_text = some r) : cR l yX11_isRow wsX11_isRow rmX11_isRow [.ref a_t, .int jx1, .int jx2, .int jx3, .int jx4, .int jx5, .int jx6, .int jx7] D [(a_t, .inr (11, [.int v_t_thrown, .ref a_t_text, .int v_t_typed, .int v_t_spot, .int v_t_token, .int v_t_place, .int v_t_value, .int v_t_fault, .int v_t_copies, .int v_t_draftCopies, .ref a_t_draft, .ref a_t_s, .ref a_t_undos, .int v_t_undoMany, .ref a_t_kept, .ref a_t_isKept, .ref a_t_seenWay, .ref a_t_seenIs, .int v_t_seenMany, .int v_t_asked, .ref a_t_sums, .ref a_t_parts, .ref a_t_heaps])), (a_t_text, .inl (cI, 120, .inl v_t_text))] (KX D cI cZ) r := by
  refine cR_of (cc := cX11_isRow) (maxL := 8) (ret := some .boolean) (by decide +kernel) rfl _ (Nat.le_of_ble_eq_true rfl) ?_
  intro p e s m below meth c ls S hr hlk hP hK hl
  obtain ⟨hx, hb, hml, hown, hts⟩ := id S
  have hl : lv_has ls 8 [(0, .ref a_t), (1, .int jx1), (2, .int jx2), (3, .int jx3), (4, .int jx4), (5, .int jx5), (6, .int jx6), (7, .int jx7)] := hl
  unfold fX11_isRow at hf
  refine lv_aload_n hx hb dX11_isRow_0 rfl (lv_at hl 0 rfl) ?_
  refine lv_aload_n hx hb dX11_isRow_1 rfl (lv_at hl 0 rfl) ?_
  refine va_get (D := D) (ci := 11) (v := .int v_t_place) (C := RX11) (T := TX11) (N := 23) hx hb hts iX11_isRow_X11 hown hK.1 hP 0 rfl rfl 5 (by decide) (hts _ mX11_isRow_1) (fun _ h9 => h9) rfl dX11_isRow_2 ?_
  obtain ⟨jr1, je2, hf⟩ := bd1_inv hf
  refine callRV (As := [.int v_t_place]) (rest := []) S (ctX11_letterAt l D cI cZ a_t a_t_text a_t_draft a_t_s a_t_undos a_t_kept a_t_isKept a_t_seenWay a_t_seenIs a_t_sums a_t_parts a_t_heaps v_t_place v_t_typed v_t_text v_t_thrown v_t_spot v_t_token v_t_place v_t_value v_t_fault v_t_copies v_t_draftCopies v_t_undoMany v_t_seenMany v_t_asked jr1 je2) (cwV 1 hts gX11_isRow_X11_letterAt rfl rfl rfl ⟨rfl, hdX11_letterAt⟩ ⟨Nat.le_of_ble_eq_true rfl, Nat.le_of_ble_eq_true rfl⟩) hP [0, 1] rfl KX.xs (fun U _ hW => hK.warm hW) (va_recv hK.1 hP (ci := 11) (q0 := 0) rfl rfl) rfl hl.1 rfl (Nat.le_of_ble_eq_true rfl) dX11_isRow_5 ⟨Nat.zero_le _, Nat.zero_le _⟩ ?_
  refine lv_iload_n hx hb dX11_isRow_8 rfl (lv_at hl 1 rfl) ?_
  refine lv_icmp_ne (tgt := 115) hx hb dX11_isRow_9 (by decide) (fun jc3 => ?_) (fun jc3 => ?_)
  · have hf := ite_f jc3 hf
    refine lv_iconst (v := 0) hx hb dX11_isRow_115 (by decide) ?_
    obtain rfl := Option.some.inj hf
    exact retRz hx hb hr hlk (by decide) dX11_isRow_116
  · have hf := ite_t jc3 hf
    refine lv_aload_n hx hb dX11_isRow_12 rfl (lv_at hl 0 rfl) ?_
    refine lv_aload_n hx hb dX11_isRow_13 rfl (lv_at hl 0 rfl) ?_
    refine va_get (D := D) (ci := 11) (v := .int v_t_place) (C := RX11) (T := TX11) (N := 23) hx hb hts iX11_isRow_X11 hown hK.1 hP 0 rfl rfl 5 (by decide) (hts _ mX11_isRow_1) (fun _ h9 => h9) rfl dX11_isRow_14 ?_
    refine lv_iconst (v := 1) hx hb dX11_isRow_17 (by decide) ?_
    refine lv_iadd hx hb dX11_isRow_18 ?_
    obtain ⟨jr4, je5, hf⟩ := bd1_inv hf
    refine callRV (As := [.int (v_t_place + (1 : Int32))]) (rest := []) S (ctX11_letterAt l D cI cZ a_t a_t_text a_t_draft a_t_s a_t_undos a_t_kept a_t_isKept a_t_seenWay a_t_seenIs a_t_sums a_t_parts a_t_heaps (v_t_place + (1 : Int32)) v_t_typed v_t_text v_t_thrown v_t_spot v_t_token v_t_place v_t_value v_t_fault v_t_copies v_t_draftCopies v_t_undoMany v_t_seenMany v_t_asked jr4 je5) (cwV 1 hts gX11_isRow_X11_letterAt rfl rfl rfl ⟨rfl, hdX11_letterAt⟩ ⟨Nat.le_of_ble_eq_true rfl, Nat.le_of_ble_eq_true rfl⟩) hP [0, 1] rfl KX.xs (fun U _ hW => hK.warm hW) (va_recv hK.1 hP (ci := 11) (q0 := 0) rfl rfl) rfl hl.1 rfl (Nat.le_of_ble_eq_true rfl) dX11_isRow_19 ⟨Nat.zero_le _, Nat.zero_le _⟩ ?_
    refine lv_iload_n hx hb dX11_isRow_22 rfl (lv_at hl 2 rfl) ?_
    refine lv_icmp_ne (tgt := 115) hx hb dX11_isRow_23 (by decide) (fun jc6 => ?_) (fun jc6 => ?_)
    · have hf := ite_f jc6 hf
      refine lv_iconst (v := 0) hx hb dX11_isRow_115 (by decide) ?_
      obtain rfl := Option.some.inj hf
      exact retRz hx hb hr hlk (by decide) dX11_isRow_116
    · have hf := ite_t jc6 hf
      refine lv_aload_n hx hb dX11_isRow_26 rfl (lv_at hl 0 rfl) ?_
      refine lv_aload_n hx hb dX11_isRow_27 rfl (lv_at hl 0 rfl) ?_
      refine va_get (D := D) (ci := 11) (v := .int v_t_place) (C := RX11) (T := TX11) (N := 23) hx hb hts iX11_isRow_X11 hown hK.1 hP 0 rfl rfl 5 (by decide) (hts _ mX11_isRow_1) (fun _ h9 => h9) rfl dX11_isRow_28 ?_
      refine lv_iconst (v := 2) hx hb dX11_isRow_31 (by decide) ?_
      refine lv_iadd hx hb dX11_isRow_32 ?_
      obtain ⟨jr7, je8, hf⟩ := bd1_inv hf
      refine callRV (As := [.int (v_t_place + (2 : Int32))]) (rest := []) S (ctX11_letterAt l D cI cZ a_t a_t_text a_t_draft a_t_s a_t_undos a_t_kept a_t_isKept a_t_seenWay a_t_seenIs a_t_sums a_t_parts a_t_heaps (v_t_place + (2 : Int32)) v_t_typed v_t_text v_t_thrown v_t_spot v_t_token v_t_place v_t_value v_t_fault v_t_copies v_t_draftCopies v_t_undoMany v_t_seenMany v_t_asked jr7 je8) (cwV 1 hts gX11_isRow_X11_letterAt rfl rfl rfl ⟨rfl, hdX11_letterAt⟩ ⟨Nat.le_of_ble_eq_true rfl, Nat.le_of_ble_eq_true rfl⟩) hP [0, 1] rfl KX.xs (fun U _ hW => hK.warm hW) (va_recv hK.1 hP (ci := 11) (q0 := 0) rfl rfl) rfl hl.1 rfl (Nat.le_of_ble_eq_true rfl) dX11_isRow_33 ⟨Nat.zero_le _, Nat.zero_le _⟩ ?_
      refine lv_iload_n hx hb dX11_isRow_36 rfl (lv_at hl 3 rfl) ?_
      refine lv_icmp_ne (tgt := 115) hx hb dX11_isRow_37 (by decide) (fun jc9 => ?_) (fun jc9 => ?_)
      · have hf := ite_f jc9 hf
        refine lv_iconst (v := 0) hx hb dX11_isRow_115 (by decide) ?_
        obtain rfl := Option.some.inj hf
        exact retRz hx hb hr hlk (by decide) dX11_isRow_116
      · have hf := ite_t jc9 hf
        refine lv_aload_n hx hb dX11_isRow_40 rfl (lv_at hl 0 rfl) ?_
        refine lv_aload_n hx hb dX11_isRow_41 rfl (lv_at hl 0 rfl) ?_
        refine va_get (D := D) (ci := 11) (v := .int v_t_place) (C := RX11) (T := TX11) (N := 23) hx hb hts iX11_isRow_X11 hown hK.1 hP 0 rfl rfl 5 (by decide) (hts _ mX11_isRow_1) (fun _ h9 => h9) rfl dX11_isRow_42 ?_
        refine lv_iconst (v := 3) hx hb dX11_isRow_45 (by decide) ?_
        refine lv_iadd hx hb dX11_isRow_46 ?_
        obtain ⟨jr10, je11, hf⟩ := bd1_inv hf
        refine callRV (As := [.int (v_t_place + (3 : Int32))]) (rest := []) S (ctX11_letterAt l D cI cZ a_t a_t_text a_t_draft a_t_s a_t_undos a_t_kept a_t_isKept a_t_seenWay a_t_seenIs a_t_sums a_t_parts a_t_heaps (v_t_place + (3 : Int32)) v_t_typed v_t_text v_t_thrown v_t_spot v_t_token v_t_place v_t_value v_t_fault v_t_copies v_t_draftCopies v_t_undoMany v_t_seenMany v_t_asked jr10 je11) (cwV 1 hts gX11_isRow_X11_letterAt rfl rfl rfl ⟨rfl, hdX11_letterAt⟩ ⟨Nat.le_of_ble_eq_true rfl, Nat.le_of_ble_eq_true rfl⟩) hP [0, 1] rfl KX.xs (fun U _ hW => hK.warm hW) (va_recv hK.1 hP (ci := 11) (q0 := 0) rfl rfl) rfl hl.1 rfl (Nat.le_of_ble_eq_true rfl) dX11_isRow_47 ⟨Nat.zero_le _, Nat.zero_le _⟩ ?_
        refine lv_iload hx hb dX11_isRow_50 (lv_at hl 4 rfl) ?_
        refine lv_icmp_ne (tgt := 115) hx hb dX11_isRow_52 (by decide) (fun jc12 => ?_) (fun jc12 => ?_)
        · have hf := ite_f jc12 hf
          refine lv_iconst (v := 0) hx hb dX11_isRow_115 (by decide) ?_
          obtain rfl := Option.some.inj hf
          exact retRz hx hb hr hlk (by decide) dX11_isRow_116
        · have hf := ite_t jc12 hf
          refine lv_iload hx hb dX11_isRow_55 (lv_at hl 5 rfl) ?_
          refine lv_if_eq (tgt := 75) hx hb dX11_isRow_57 (by decide) (fun jc13 => ?_) (fun jc13 => ?_)
          · have hf := ite_t jc13 hf
            exact wX11_isRow_75 S hr hlk hK hP jx6 jx7 ls hf (lv_sub hl [0, 6, 7] rfl)
          · have hf := ite_f jc13 hf
            refine lv_aload_n hx hb dX11_isRow_60 rfl (lv_at hl 0 rfl) ?_
            refine lv_aload_n hx hb dX11_isRow_61 rfl (lv_at hl 0 rfl) ?_
            refine va_get (D := D) (ci := 11) (v := .int v_t_place) (C := RX11) (T := TX11) (N := 23) hx hb hts iX11_isRow_X11 hown hK.1 hP 0 rfl rfl 5 (by decide) (hts _ mX11_isRow_1) (fun _ h9 => h9) rfl dX11_isRow_62 ?_
            refine lv_iconst (v := 4) hx hb dX11_isRow_65 (by decide) ?_
            refine lv_iadd hx hb dX11_isRow_66 ?_
            obtain ⟨jr14, je15, hf⟩ := bd1_inv hf
            refine callRV (As := [.int (v_t_place + (4 : Int32))]) (rest := []) S (ctX11_letterAt l D cI cZ a_t a_t_text a_t_draft a_t_s a_t_undos a_t_kept a_t_isKept a_t_seenWay a_t_seenIs a_t_sums a_t_parts a_t_heaps (v_t_place + (4 : Int32)) v_t_typed v_t_text v_t_thrown v_t_spot v_t_token v_t_place v_t_value v_t_fault v_t_copies v_t_draftCopies v_t_undoMany v_t_seenMany v_t_asked jr14 je15) (cwV 1 hts gX11_isRow_X11_letterAt rfl rfl rfl ⟨rfl, hdX11_letterAt⟩ ⟨Nat.le_of_ble_eq_true rfl, Nat.le_of_ble_eq_true rfl⟩) hP [0, 1] rfl KX.xs (fun U _ hW => hK.warm hW) (va_recv hK.1 hP (ci := 11) (q0 := 0) rfl rfl) rfl hl.1 rfl (Nat.le_of_ble_eq_true rfl) dX11_isRow_67 ⟨Nat.zero_le _, Nat.zero_le _⟩ ?_
            refine lv_iload hx hb dX11_isRow_70 (lv_at hl 5 rfl) ?_
            refine lv_icmp_ne (tgt := 115) hx hb dX11_isRow_72 (by decide) (fun jc16 => ?_) (fun jc16 => ?_)
            · have hf := ite_f jc16 hf
              refine lv_iconst (v := 0) hx hb dX11_isRow_115 (by decide) ?_
              obtain rfl := Option.some.inj hf
              exact retRz hx hb hr hlk (by decide) dX11_isRow_116
            · have hf := ite_t jc16 hf
              exact wX11_isRow_75 S hr hlk hK hP jx6 jx7 ls hf (lv_sub hl [0, 6, 7] rfl)
def fX11_reads_156 (v_t_typed : Int32) (v_t_place : Int32) (v_t_text : (Nat → Int32)) (jy0 : Int32) (v_t_spot : Int32) (v_t_token : Int32) (v_t_value : Int32) : Option (Int32 × Int32 × Int32) := if jy0 = 0 then some (v_t_spot, (4 : Int32), jy0) else some (v_t_spot, (1 : Int32), jy0)
def fX11_reads_127 (v_t_typed : Int32) (v_t_place : Int32) (v_t_text : (Nat → Int32)) (jx1 : Int32) (v_t_spot : Int32) (v_t_token : Int32) (v_t_value : Int32) : Option (Int32 × Int32 × Int32) := if jx1 = (5 : Int32) then bd1 (fX11_isRow (119 : Int32) (114 : Int32) (105 : Int32) (116 : Int32) (101 : Int32) (0 : Int32) (0 : Int32) v_t_typed v_t_place v_t_text) (fun jr2 => if jr2 = 0 then fX11_reads_156 v_t_typed v_t_place v_t_text (0 : Int32) v_t_spot v_t_token v_t_value else fX11_reads_156 v_t_typed v_t_place v_t_text (4 : Int32) v_t_spot v_t_token v_t_value) else fX11_reads_156 v_t_typed v_t_place v_t_text (0 : Int32) v_t_spot v_t_token v_t_value
def fX11_reads_100 (v_t_typed : Int32) (v_t_place : Int32) (v_t_text : (Nat → Int32)) (jx1 : Int32) (v_t_spot : Int32) (v_t_token : Int32) (v_t_value : Int32) : Option (Int32 × Int32 × Int32) := if jx1 = (4 : Int32) then bd1 (fX11_isRow (114 : Int32) (101 : Int32) (97 : Int32) (100 : Int32) (0 : Int32) (0 : Int32) (0 : Int32) v_t_typed v_t_place v_t_text) (fun jr2 => if jr2 = 0 then fX11_reads_127 v_t_typed v_t_place v_t_text jx1 v_t_spot v_t_token v_t_value else fX11_reads_156 v_t_typed v_t_place v_t_text (3 : Int32) v_t_spot v_t_token v_t_value) else fX11_reads_127 v_t_typed v_t_place v_t_text jx1 v_t_spot v_t_token v_t_value
def fX11_reads_69 (v_t_typed : Int32) (v_t_place : Int32) (v_t_text : (Nat → Int32)) (jx1 : Int32) (v_t_spot : Int32) (v_t_token : Int32) (v_t_value : Int32) : Option (Int32 × Int32 × Int32) := if jx1 = (7 : Int32) then bd1 (fX11_isRow (119 : Int32) (105 : Int32) (116 : Int32) (110 : Int32) (101 : Int32) (115 : Int32) (115 : Int32) v_t_typed v_t_place v_t_text) (fun jr2 => if jr2 = 0 then fX11_reads_100 v_t_typed v_t_place v_t_text jx1 v_t_spot v_t_token v_t_value else fX11_reads_156 v_t_typed v_t_place v_t_text (2 : Int32) v_t_spot v_t_token v_t_value) else fX11_reads_100 v_t_typed v_t_place v_t_text jx1 v_t_spot v_t_token v_t_value
def fX11_reads_0 (v_t_typed : Int32) (v_t_place : Int32) (v_t_text : (Nat → Int32)) : Nat → Int32 → Int32 → Int32 → Option (Int32 × Int32 × Int32)
  | 0, _, _, _ => none
  | n + 1, v_t_spot, v_t_token, v_t_value => bd1 (fX11_letterAt v_t_spot v_t_typed v_t_text) (fun jr1 => bd1 (fX11_in jr1 (97 : Int32) (122 : Int32)) (fun jr3 => if jr3 = 0 then if (v_t_spot - v_t_place) = (4 : Int32) then bd1 (fX11_isRow (99 : Int32) (111 : Int32) (112 : Int32) (121 : Int32) (0 : Int32) (0 : Int32) (0 : Int32) v_t_typed v_t_place v_t_text) (fun jr7 => if jr7 = 0 then fX11_reads_69 v_t_typed v_t_place v_t_text (v_t_spot - v_t_place) v_t_spot v_t_token v_t_value else fX11_reads_156 v_t_typed v_t_place v_t_text (1 : Int32) v_t_spot v_t_token v_t_value) else fX11_reads_69 v_t_typed v_t_place v_t_text (v_t_spot - v_t_place) v_t_spot v_t_token v_t_value else (fX11_reads_0 v_t_typed v_t_place v_t_text n) (v_t_spot + (1 : Int32)) v_t_token v_t_value))
theorem fX11_reads_0_s (v_t_typed : Int32) (v_t_place : Int32) (v_t_text : (Nat → Int32)) (n : Nat) (v_t_spot : Int32) (v_t_token : Int32) (v_t_value : Int32) : fX11_reads_0 v_t_typed v_t_place v_t_text (n + 1) v_t_spot v_t_token v_t_value = bd1 (fX11_letterAt v_t_spot v_t_typed v_t_text) (fun jr1 => bd1 (fX11_in jr1 (97 : Int32) (122 : Int32)) (fun jr3 => if jr3 = 0 then if (v_t_spot - v_t_place) = (4 : Int32) then bd1 (fX11_isRow (99 : Int32) (111 : Int32) (112 : Int32) (121 : Int32) (0 : Int32) (0 : Int32) (0 : Int32) v_t_typed v_t_place v_t_text) (fun jr7 => if jr7 = 0 then fX11_reads_69 v_t_typed v_t_place v_t_text (v_t_spot - v_t_place) v_t_spot v_t_token v_t_value else fX11_reads_156 v_t_typed v_t_place v_t_text (1 : Int32) v_t_spot v_t_token v_t_value) else fX11_reads_69 v_t_typed v_t_place v_t_text (v_t_spot - v_t_place) v_t_spot v_t_token v_t_value else (fX11_reads_0 v_t_typed v_t_place v_t_text n) (v_t_spot + (1 : Int32)) v_t_token v_t_value)) := rfl
def fX11_reads (v_t_typed : Int32) (v_t_spot : Int32) (v_t_token : Int32) (v_t_place : Int32) (v_t_value : Int32) (v_t_text : (Nat → Int32)) : Option (Int32 × Int32 × Int32) := fX11_reads_0 v_t_typed v_t_place v_t_text fuel v_t_spot v_t_token v_t_value
abbrev rmX11_reads : Room := { frames := 2, cells := 0, slots := 0, locals := 48 }
theorem iX11_reads_X11 : ∀ w ∈ wsX110, w ∈ wsX11_reads := fun _ h => List.mem_cons_of_mem _ (List.mem_append_right _ h)
theorem mX11_reads_3 : (Cond.fieldLink RX11 75 "VoteFilesModel" "value" "I") ∈ wsX11_reads := List.mem_of_getElem? (i := 3) rfl
theorem mX11_reads_4 : (Cond.fieldLink RX11 78 "VoteFilesModel" "token" "I") ∈ wsX11_reads := List.mem_of_getElem? (i := 4) rfl
theorem mX11_reads_1 : (Cond.fieldLink RX11 68 "VoteFilesModel" "spot" "I") ∈ wsX11_reads := List.mem_of_getElem? (i := 1) rfl
theorem mX11_reads_2 : (Cond.fieldLink RX11 61 "VoteFilesModel" "place" "I") ∈ wsX11_reads := List.mem_of_getElem? (i := 2) rfl
set_option maxHeartbeats 4000000 in
set_option maxRecDepth 100000 in
theorem wX11_reads_156 {p : Program} {l : Launch} {e : Env} {s : State} {m : MethodId} {args : Array Value} {below : List Frame} {meth : Method} {c : Code} {D : va_G} {cI cZ : ClassId} (S : CallFix p m c cX11_reads 2 s args wsX11_reads RX11) (hr : meth.sig.returnType = none) (hlk : meth.locks = false) (hK : KX D cI cZ s) {a_t a_t_text a_t_draft a_t_s a_t_undos a_t_kept a_t_isKept a_t_seenWay a_t_seenIs a_t_sums a_t_parts a_t_heaps : Nat} {v_t_typed : Int32} {v_t_place : Int32} {v_t_text : (Nat → Int32)} {v_t_thrown : Int32} {v_t_fault : Int32} {v_t_copies : Int32} {v_t_draftCopies : Int32} {v_t_undoMany : Int32} {v_t_seenMany : Int32} {v_t_asked : Int32} {o_t_spot : Int32} {o_t_token : Int32} {o_t_value : Int32} {A : Nat → Prop} (hA : ∀ q : Nat, s.heap.size ≤ q → A q) : ∀ (jy0 : Int32) (v_t_spot : Int32) (v_t_token : Int32) (v_t_value : Int32) (ls : Array Slot) (H : Heap) (locs : List Loc), fX11_reads_156 v_t_typed v_t_place v_t_text jy0 v_t_spot v_t_token v_t_value = some (o_t_spot, o_t_token, o_t_value) → lv_has ls 2 [(0, .ref a_t)] → va_P D vwCl [(a_t, .inr (11, [.int v_t_thrown, .ref a_t_text, .int v_t_typed, .int v_t_spot, .int v_t_token, .int v_t_place, .int v_t_value, .int v_t_fault, .int v_t_copies, .int v_t_draftCopies, .ref a_t_draft, .ref a_t_s, .ref a_t_undos, .int v_t_undoMany, .ref a_t_kept, .ref a_t_isKept, .ref a_t_seenWay, .ref a_t_seenIs, .int v_t_seenMany, .int v_t_asked, .ref a_t_sums, .ref a_t_parts, .ref a_t_heaps])), (a_t_text, .inl (cI, 120, .inl v_t_text))] H → va_D A [(a_t, .inr (11, [.int v_t_thrown, .ref a_t_text, .int v_t_typed, .int v_t_spot, .int v_t_token, .int v_t_place, .int v_t_value, .int v_t_fault, .int v_t_copies, .int v_t_draftCopies, .ref a_t_draft, .ref a_t_s, .ref a_t_undos, .int v_t_undoMany, .ref a_t_kept, .ref a_t_isKept, .ref a_t_seenWay, .ref a_t_seenIs, .int v_t_seenMany, .int v_t_asked, .ref a_t_sums, .ref a_t_parts, .ref a_t_heaps])), (a_t_text, .inl (cI, 120, .inl v_t_text))] → va_S A s.heap H locs → W p l e rmX11_reads s m args below meth c H locs 0 0 (MQ below (qM D none [(a_t, .inr (11, [.int v_t_thrown, .ref a_t_text, .int v_t_typed, .int o_t_spot, .int o_t_token, .int v_t_place, .int o_t_value, .int v_t_fault, .int v_t_copies, .int v_t_draftCopies, .ref a_t_draft, .ref a_t_s, .ref a_t_undos, .int v_t_undoMany, .ref a_t_kept, .ref a_t_isKept, .ref a_t_seenWay, .ref a_t_seenIs, .int v_t_seenMany, .int v_t_asked, .ref a_t_sums, .ref a_t_parts, .ref a_t_heaps])), (a_t_text, .inl (cI, 120, .inl v_t_text))] A) args s 0 0 A) (F0 m 156 ls [.int jy0, .ref a_t]) := by
  obtain ⟨hx, hb, hml, hown, hts⟩ := id S
  intro jy0 v_t_spot v_t_token v_t_value ls H locs hf hl hP hD hS
  unfold fX11_reads_156 at hf
  refine va_put (D := D) (ci := 11) (v := .int jy0) (ty := .int) (C := RX11) (T := TX11) (N := 23) hx hb hts iX11_reads_X11 tyX11 tyX11_ok nmX11 hown hK.1 hP hD hS 0 rfl rfl 6 (by decide) (hts _ mX11_reads_3) (fun _ h9 => h9) rfl (tyX11_ok 6 (by decide)) rfl rfl (Nat.le_of_ble_eq_true rfl) dX11_reads_156 (fun H locs hP hD hS => ?_)
  have hP : va_P D vwCl [(a_t, .inr (11, [.int v_t_thrown, .ref a_t_text, .int v_t_typed, .int v_t_spot, .int v_t_token, .int v_t_place, .int jy0, .int v_t_fault, .int v_t_copies, .int v_t_draftCopies, .ref a_t_draft, .ref a_t_s, .ref a_t_undos, .int v_t_undoMany, .ref a_t_kept, .ref a_t_isKept, .ref a_t_seenWay, .ref a_t_seenIs, .int v_t_seenMany, .int v_t_asked, .ref a_t_sums, .ref a_t_parts, .ref a_t_heaps])), (a_t_text, .inl (cI, 120, .inl v_t_text))] H := hP
  have hD : va_D A [(a_t, .inr (11, [.int v_t_thrown, .ref a_t_text, .int v_t_typed, .int v_t_spot, .int v_t_token, .int v_t_place, .int jy0, .int v_t_fault, .int v_t_copies, .int v_t_draftCopies, .ref a_t_draft, .ref a_t_s, .ref a_t_undos, .int v_t_undoMany, .ref a_t_kept, .ref a_t_isKept, .ref a_t_seenWay, .ref a_t_seenIs, .int v_t_seenMany, .int v_t_asked, .ref a_t_sums, .ref a_t_parts, .ref a_t_heaps])), (a_t_text, .inl (cI, 120, .inl v_t_text))] := hD
  refine lv_aload_n hx hb dX11_reads_159 rfl (lv_at hl 0 rfl) ?_
  refine lv_aload_n hx hb dX11_reads_160 rfl (lv_at hl 0 rfl) ?_
  refine va_get (D := D) (ci := 11) (v := .int jy0) (C := RX11) (T := TX11) (N := 23) hx hb hts iX11_reads_X11 hown hK.1 hP 0 rfl rfl 6 (by decide) (hts _ mX11_reads_3) (fun _ h9 => h9) rfl dX11_reads_161 ?_
  refine lv_if_ne (tgt := 171) hx hb dX11_reads_164 (by decide) (fun jc1 => ?_) (fun jc1 => ?_)
  · have hf := ite_f jc1 hf
    refine lv_iconst (v := 1) hx hb dX11_reads_171 (by decide) ?_
    refine va_put (D := D) (ci := 11) (v := .int (1 : Int32)) (ty := .int) (C := RX11) (T := TX11) (N := 23) hx hb hts iX11_reads_X11 tyX11 tyX11_ok nmX11 hown hK.1 hP hD hS 0 rfl rfl 4 (by decide) (hts _ mX11_reads_4) (fun _ h9 => h9) rfl (tyX11_ok 4 (by decide)) rfl rfl (Nat.le_of_ble_eq_true rfl) dX11_reads_172 (fun H locs hP hD hS => ?_)
    have hP : va_P D vwCl [(a_t, .inr (11, [.int v_t_thrown, .ref a_t_text, .int v_t_typed, .int v_t_spot, .int (1 : Int32), .int v_t_place, .int jy0, .int v_t_fault, .int v_t_copies, .int v_t_draftCopies, .ref a_t_draft, .ref a_t_s, .ref a_t_undos, .int v_t_undoMany, .ref a_t_kept, .ref a_t_isKept, .ref a_t_seenWay, .ref a_t_seenIs, .int v_t_seenMany, .int v_t_asked, .ref a_t_sums, .ref a_t_parts, .ref a_t_heaps])), (a_t_text, .inl (cI, 120, .inl v_t_text))] H := hP
    have hD : va_D A [(a_t, .inr (11, [.int v_t_thrown, .ref a_t_text, .int v_t_typed, .int v_t_spot, .int (1 : Int32), .int v_t_place, .int jy0, .int v_t_fault, .int v_t_copies, .int v_t_draftCopies, .ref a_t_draft, .ref a_t_s, .ref a_t_undos, .int v_t_undoMany, .ref a_t_kept, .ref a_t_isKept, .ref a_t_seenWay, .ref a_t_seenIs, .int v_t_seenMany, .int v_t_asked, .ref a_t_sums, .ref a_t_parts, .ref a_t_heaps])), (a_t_text, .inl (cI, 120, .inl v_t_text))] := hD
    obtain ⟨rfl, rfl, rfl⟩ := pr3_inv hf
    exact retMv hx hb hr hlk hP hD hS dX11_reads_175
  · have hf := ite_t jc1 hf
    refine lv_iconst (v := 4) hx hb dX11_reads_167 (by decide) ?_
    refine lv_goto (tgt := 172) hx hb dX11_reads_168 (by decide) ?_
    refine va_put (D := D) (ci := 11) (v := .int (4 : Int32)) (ty := .int) (C := RX11) (T := TX11) (N := 23) hx hb hts iX11_reads_X11 tyX11 tyX11_ok nmX11 hown hK.1 hP hD hS 0 rfl rfl 4 (by decide) (hts _ mX11_reads_4) (fun _ h9 => h9) rfl (tyX11_ok 4 (by decide)) rfl rfl (Nat.le_of_ble_eq_true rfl) dX11_reads_172 (fun H locs hP hD hS => ?_)
    have hP : va_P D vwCl [(a_t, .inr (11, [.int v_t_thrown, .ref a_t_text, .int v_t_typed, .int v_t_spot, .int (4 : Int32), .int v_t_place, .int jy0, .int v_t_fault, .int v_t_copies, .int v_t_draftCopies, .ref a_t_draft, .ref a_t_s, .ref a_t_undos, .int v_t_undoMany, .ref a_t_kept, .ref a_t_isKept, .ref a_t_seenWay, .ref a_t_seenIs, .int v_t_seenMany, .int v_t_asked, .ref a_t_sums, .ref a_t_parts, .ref a_t_heaps])), (a_t_text, .inl (cI, 120, .inl v_t_text))] H := hP
    have hD : va_D A [(a_t, .inr (11, [.int v_t_thrown, .ref a_t_text, .int v_t_typed, .int v_t_spot, .int (4 : Int32), .int v_t_place, .int jy0, .int v_t_fault, .int v_t_copies, .int v_t_draftCopies, .ref a_t_draft, .ref a_t_s, .ref a_t_undos, .int v_t_undoMany, .ref a_t_kept, .ref a_t_isKept, .ref a_t_seenWay, .ref a_t_seenIs, .int v_t_seenMany, .int v_t_asked, .ref a_t_sums, .ref a_t_parts, .ref a_t_heaps])), (a_t_text, .inl (cI, 120, .inl v_t_text))] := hD
    obtain ⟨rfl, rfl, rfl⟩ := pr3_inv hf
    exact retMv hx hb hr hlk hP hD hS dX11_reads_175
set_option maxHeartbeats 4000000 in
set_option maxRecDepth 100000 in
theorem wX11_reads_127 {p : Program} {l : Launch} {e : Env} {s : State} {m : MethodId} {args : Array Value} {below : List Frame} {meth : Method} {c : Code} {D : va_G} {cI cZ : ClassId} (S : CallFix p m c cX11_reads 2 s args wsX11_reads RX11) (hr : meth.sig.returnType = none) (hlk : meth.locks = false) (hK : KX D cI cZ s) {a_t a_t_text a_t_draft a_t_s a_t_undos a_t_kept a_t_isKept a_t_seenWay a_t_seenIs a_t_sums a_t_parts a_t_heaps : Nat} {v_t_typed : Int32} {v_t_place : Int32} {v_t_text : (Nat → Int32)} {v_t_thrown : Int32} {v_t_fault : Int32} {v_t_copies : Int32} {v_t_draftCopies : Int32} {v_t_undoMany : Int32} {v_t_seenMany : Int32} {v_t_asked : Int32} {o_t_spot : Int32} {o_t_token : Int32} {o_t_value : Int32} {A : Nat → Prop} (hA : ∀ q : Nat, s.heap.size ≤ q → A q) : ∀ (jx1 : Int32) (v_t_spot : Int32) (v_t_token : Int32) (v_t_value : Int32) (ls : Array Slot) (H : Heap) (locs : List Loc), fX11_reads_127 v_t_typed v_t_place v_t_text jx1 v_t_spot v_t_token v_t_value = some (o_t_spot, o_t_token, o_t_value) → lv_has ls 2 [(0, .ref a_t), (1, .int jx1)] → va_P D vwCl [(a_t, .inr (11, [.int v_t_thrown, .ref a_t_text, .int v_t_typed, .int v_t_spot, .int v_t_token, .int v_t_place, .int v_t_value, .int v_t_fault, .int v_t_copies, .int v_t_draftCopies, .ref a_t_draft, .ref a_t_s, .ref a_t_undos, .int v_t_undoMany, .ref a_t_kept, .ref a_t_isKept, .ref a_t_seenWay, .ref a_t_seenIs, .int v_t_seenMany, .int v_t_asked, .ref a_t_sums, .ref a_t_parts, .ref a_t_heaps])), (a_t_text, .inl (cI, 120, .inl v_t_text))] H → va_D A [(a_t, .inr (11, [.int v_t_thrown, .ref a_t_text, .int v_t_typed, .int v_t_spot, .int v_t_token, .int v_t_place, .int v_t_value, .int v_t_fault, .int v_t_copies, .int v_t_draftCopies, .ref a_t_draft, .ref a_t_s, .ref a_t_undos, .int v_t_undoMany, .ref a_t_kept, .ref a_t_isKept, .ref a_t_seenWay, .ref a_t_seenIs, .int v_t_seenMany, .int v_t_asked, .ref a_t_sums, .ref a_t_parts, .ref a_t_heaps])), (a_t_text, .inl (cI, 120, .inl v_t_text))] → va_S A s.heap H locs → W p l e rmX11_reads s m args below meth c H locs 0 0 (MQ below (qM D none [(a_t, .inr (11, [.int v_t_thrown, .ref a_t_text, .int v_t_typed, .int o_t_spot, .int o_t_token, .int v_t_place, .int o_t_value, .int v_t_fault, .int v_t_copies, .int v_t_draftCopies, .ref a_t_draft, .ref a_t_s, .ref a_t_undos, .int v_t_undoMany, .ref a_t_kept, .ref a_t_isKept, .ref a_t_seenWay, .ref a_t_seenIs, .int v_t_seenMany, .int v_t_asked, .ref a_t_sums, .ref a_t_parts, .ref a_t_heaps])), (a_t_text, .inl (cI, 120, .inl v_t_text))] A) args s 0 0 A) (F0 m 127 ls [.ref a_t]) := by
  obtain ⟨hx, hb, hml, hown, hts⟩ := id S
  intro jx1 v_t_spot v_t_token v_t_value ls H locs hf hl hP hD hS
  unfold fX11_reads_127 at hf
  refine lv_iload_n hx hb dX11_reads_127 rfl (lv_at hl 1 rfl) ?_
  refine lv_iconst (v := 5) hx hb dX11_reads_128 (by decide) ?_
  refine lv_icmp_ne (tgt := 155) hx hb dX11_reads_129 (by decide) (fun jc1 => ?_) (fun jc1 => ?_)
  · have hf := ite_f jc1 hf
    refine lv_iconst (v := 0) hx hb dX11_reads_155 (by decide) ?_
    exact wX11_reads_156 S hr hlk hK hA (0 : Int32) v_t_spot v_t_token v_t_value ls _ _ hf (lv_sub hl [0] rfl) hP hD hS
  · have hf := ite_t jc1 hf
    refine lv_aload_n hx hb dX11_reads_132 rfl (lv_at hl 0 rfl) ?_
    refine lv_bipush (v := 119) hx hb dX11_reads_133 (by decide) ?_
    refine lv_bipush (v := 114) hx hb dX11_reads_135 (by decide) ?_
    refine lv_bipush (v := 105) hx hb dX11_reads_137 (by decide) ?_
    refine lv_bipush (v := 116) hx hb dX11_reads_139 (by decide) ?_
    refine lv_bipush (v := 101) hx hb dX11_reads_141 (by decide) ?_
    refine lv_iconst (v := 0) hx hb dX11_reads_143 (by decide) ?_
    refine lv_iconst (v := 0) hx hb dX11_reads_144 (by decide) ?_
    obtain ⟨jr2, je3, hf⟩ := bd1_inv hf
    refine callRV (As := [.int (119 : Int32), .int (114 : Int32), .int (105 : Int32), .int (116 : Int32), .int (101 : Int32), .int (0 : Int32), .int (0 : Int32)]) (rest := [.ref a_t]) S (ctX11_isRow l D cI cZ a_t a_t_text a_t_draft a_t_s a_t_undos a_t_kept a_t_isKept a_t_seenWay a_t_seenIs a_t_sums a_t_parts a_t_heaps (119 : Int32) (114 : Int32) (105 : Int32) (116 : Int32) (101 : Int32) (0 : Int32) (0 : Int32) v_t_typed v_t_place v_t_text v_t_thrown v_t_spot v_t_token v_t_value v_t_fault v_t_copies v_t_draftCopies v_t_undoMany v_t_seenMany v_t_asked jr2 je3) (cwV 7 hts gX11_reads_X11_isRow rfl rfl rfl ⟨rfl, hdX11_isRow⟩ ⟨Nat.le_of_ble_eq_true rfl, Nat.le_of_ble_eq_true rfl⟩) hP [0, 1] rfl KX.xs (fun U _ hW => hK.warm hW) (va_recv hK.1 hP (ci := 11) (q0 := 0) rfl rfl) rfl hl.1 rfl (Nat.le_of_ble_eq_true rfl) dX11_reads_145 ⟨Nat.zero_le _, Nat.zero_le _⟩ ?_
    refine lv_if_eq (tgt := 155) hx hb dX11_reads_148 (by decide) (fun jc4 => ?_) (fun jc4 => ?_)
    · have hf := ite_t jc4 hf
      refine lv_iconst (v := 0) hx hb dX11_reads_155 (by decide) ?_
      exact wX11_reads_156 S hr hlk hK hA (0 : Int32) v_t_spot v_t_token v_t_value ls _ _ hf (lv_sub hl [0] rfl) hP hD hS
    · have hf := ite_f jc4 hf
      refine lv_iconst (v := 4) hx hb dX11_reads_151 (by decide) ?_
      refine lv_goto (tgt := 156) hx hb dX11_reads_152 (by decide) ?_
      exact wX11_reads_156 S hr hlk hK hA (4 : Int32) v_t_spot v_t_token v_t_value ls _ _ hf (lv_sub hl [0] rfl) hP hD hS
set_option maxHeartbeats 4000000 in
set_option maxRecDepth 100000 in
theorem wX11_reads_100 {p : Program} {l : Launch} {e : Env} {s : State} {m : MethodId} {args : Array Value} {below : List Frame} {meth : Method} {c : Code} {D : va_G} {cI cZ : ClassId} (S : CallFix p m c cX11_reads 2 s args wsX11_reads RX11) (hr : meth.sig.returnType = none) (hlk : meth.locks = false) (hK : KX D cI cZ s) {a_t a_t_text a_t_draft a_t_s a_t_undos a_t_kept a_t_isKept a_t_seenWay a_t_seenIs a_t_sums a_t_parts a_t_heaps : Nat} {v_t_typed : Int32} {v_t_place : Int32} {v_t_text : (Nat → Int32)} {v_t_thrown : Int32} {v_t_fault : Int32} {v_t_copies : Int32} {v_t_draftCopies : Int32} {v_t_undoMany : Int32} {v_t_seenMany : Int32} {v_t_asked : Int32} {o_t_spot : Int32} {o_t_token : Int32} {o_t_value : Int32} {A : Nat → Prop} (hA : ∀ q : Nat, s.heap.size ≤ q → A q) : ∀ (jx1 : Int32) (v_t_spot : Int32) (v_t_token : Int32) (v_t_value : Int32) (ls : Array Slot) (H : Heap) (locs : List Loc), fX11_reads_100 v_t_typed v_t_place v_t_text jx1 v_t_spot v_t_token v_t_value = some (o_t_spot, o_t_token, o_t_value) → lv_has ls 2 [(0, .ref a_t), (1, .int jx1)] → va_P D vwCl [(a_t, .inr (11, [.int v_t_thrown, .ref a_t_text, .int v_t_typed, .int v_t_spot, .int v_t_token, .int v_t_place, .int v_t_value, .int v_t_fault, .int v_t_copies, .int v_t_draftCopies, .ref a_t_draft, .ref a_t_s, .ref a_t_undos, .int v_t_undoMany, .ref a_t_kept, .ref a_t_isKept, .ref a_t_seenWay, .ref a_t_seenIs, .int v_t_seenMany, .int v_t_asked, .ref a_t_sums, .ref a_t_parts, .ref a_t_heaps])), (a_t_text, .inl (cI, 120, .inl v_t_text))] H → va_D A [(a_t, .inr (11, [.int v_t_thrown, .ref a_t_text, .int v_t_typed, .int v_t_spot, .int v_t_token, .int v_t_place, .int v_t_value, .int v_t_fault, .int v_t_copies, .int v_t_draftCopies, .ref a_t_draft, .ref a_t_s, .ref a_t_undos, .int v_t_undoMany, .ref a_t_kept, .ref a_t_isKept, .ref a_t_seenWay, .ref a_t_seenIs, .int v_t_seenMany, .int v_t_asked, .ref a_t_sums, .ref a_t_parts, .ref a_t_heaps])), (a_t_text, .inl (cI, 120, .inl v_t_text))] → va_S A s.heap H locs → W p l e rmX11_reads s m args below meth c H locs 0 0 (MQ below (qM D none [(a_t, .inr (11, [.int v_t_thrown, .ref a_t_text, .int v_t_typed, .int o_t_spot, .int o_t_token, .int v_t_place, .int o_t_value, .int v_t_fault, .int v_t_copies, .int v_t_draftCopies, .ref a_t_draft, .ref a_t_s, .ref a_t_undos, .int v_t_undoMany, .ref a_t_kept, .ref a_t_isKept, .ref a_t_seenWay, .ref a_t_seenIs, .int v_t_seenMany, .int v_t_asked, .ref a_t_sums, .ref a_t_parts, .ref a_t_heaps])), (a_t_text, .inl (cI, 120, .inl v_t_text))] A) args s 0 0 A) (F0 m 100 ls [.ref a_t]) := by
  obtain ⟨hx, hb, hml, hown, hts⟩ := id S
  intro jx1 v_t_spot v_t_token v_t_value ls H locs hf hl hP hD hS
  unfold fX11_reads_100 at hf
  refine lv_iload_n hx hb dX11_reads_100 rfl (lv_at hl 1 rfl) ?_
  refine lv_iconst (v := 4) hx hb dX11_reads_101 (by decide) ?_
  refine lv_icmp_ne (tgt := 127) hx hb dX11_reads_102 (by decide) (fun jc1 => ?_) (fun jc1 => ?_)
  · have hf := ite_f jc1 hf
    exact wX11_reads_127 S hr hlk hK hA jx1 v_t_spot v_t_token v_t_value ls _ _ hf (lv_sub hl [0, 1] rfl) hP hD hS
  · have hf := ite_t jc1 hf
    refine lv_aload_n hx hb dX11_reads_105 rfl (lv_at hl 0 rfl) ?_
    refine lv_bipush (v := 114) hx hb dX11_reads_106 (by decide) ?_
    refine lv_bipush (v := 101) hx hb dX11_reads_108 (by decide) ?_
    refine lv_bipush (v := 97) hx hb dX11_reads_110 (by decide) ?_
    refine lv_bipush (v := 100) hx hb dX11_reads_112 (by decide) ?_
    refine lv_iconst (v := 0) hx hb dX11_reads_114 (by decide) ?_
    refine lv_iconst (v := 0) hx hb dX11_reads_115 (by decide) ?_
    refine lv_iconst (v := 0) hx hb dX11_reads_116 (by decide) ?_
    obtain ⟨jr2, je3, hf⟩ := bd1_inv hf
    refine callRV (As := [.int (114 : Int32), .int (101 : Int32), .int (97 : Int32), .int (100 : Int32), .int (0 : Int32), .int (0 : Int32), .int (0 : Int32)]) (rest := [.ref a_t]) S (ctX11_isRow l D cI cZ a_t a_t_text a_t_draft a_t_s a_t_undos a_t_kept a_t_isKept a_t_seenWay a_t_seenIs a_t_sums a_t_parts a_t_heaps (114 : Int32) (101 : Int32) (97 : Int32) (100 : Int32) (0 : Int32) (0 : Int32) (0 : Int32) v_t_typed v_t_place v_t_text v_t_thrown v_t_spot v_t_token v_t_value v_t_fault v_t_copies v_t_draftCopies v_t_undoMany v_t_seenMany v_t_asked jr2 je3) (cwV 7 hts gX11_reads_X11_isRow rfl rfl rfl ⟨rfl, hdX11_isRow⟩ ⟨Nat.le_of_ble_eq_true rfl, Nat.le_of_ble_eq_true rfl⟩) hP [0, 1] rfl KX.xs (fun U _ hW => hK.warm hW) (va_recv hK.1 hP (ci := 11) (q0 := 0) rfl rfl) rfl hl.1 rfl (Nat.le_of_ble_eq_true rfl) dX11_reads_117 ⟨Nat.zero_le _, Nat.zero_le _⟩ ?_
    refine lv_if_eq (tgt := 127) hx hb dX11_reads_120 (by decide) (fun jc4 => ?_) (fun jc4 => ?_)
    · have hf := ite_t jc4 hf
      exact wX11_reads_127 S hr hlk hK hA jx1 v_t_spot v_t_token v_t_value ls _ _ hf (lv_sub hl [0, 1] rfl) hP hD hS
    · have hf := ite_f jc4 hf
      refine lv_iconst (v := 3) hx hb dX11_reads_123 (by decide) ?_
      refine lv_goto (tgt := 156) hx hb dX11_reads_124 (by decide) ?_
      exact wX11_reads_156 S hr hlk hK hA (3 : Int32) v_t_spot v_t_token v_t_value ls _ _ hf (lv_sub hl [0] rfl) hP hD hS
set_option maxHeartbeats 4000000 in
set_option maxRecDepth 100000 in
theorem wX11_reads_69 {p : Program} {l : Launch} {e : Env} {s : State} {m : MethodId} {args : Array Value} {below : List Frame} {meth : Method} {c : Code} {D : va_G} {cI cZ : ClassId} (S : CallFix p m c cX11_reads 2 s args wsX11_reads RX11) (hr : meth.sig.returnType = none) (hlk : meth.locks = false) (hK : KX D cI cZ s) {a_t a_t_text a_t_draft a_t_s a_t_undos a_t_kept a_t_isKept a_t_seenWay a_t_seenIs a_t_sums a_t_parts a_t_heaps : Nat} {v_t_typed : Int32} {v_t_place : Int32} {v_t_text : (Nat → Int32)} {v_t_thrown : Int32} {v_t_fault : Int32} {v_t_copies : Int32} {v_t_draftCopies : Int32} {v_t_undoMany : Int32} {v_t_seenMany : Int32} {v_t_asked : Int32} {o_t_spot : Int32} {o_t_token : Int32} {o_t_value : Int32} {A : Nat → Prop} (hA : ∀ q : Nat, s.heap.size ≤ q → A q) : ∀ (jx1 : Int32) (v_t_spot : Int32) (v_t_token : Int32) (v_t_value : Int32) (ls : Array Slot) (H : Heap) (locs : List Loc), fX11_reads_69 v_t_typed v_t_place v_t_text jx1 v_t_spot v_t_token v_t_value = some (o_t_spot, o_t_token, o_t_value) → lv_has ls 2 [(0, .ref a_t), (1, .int jx1)] → va_P D vwCl [(a_t, .inr (11, [.int v_t_thrown, .ref a_t_text, .int v_t_typed, .int v_t_spot, .int v_t_token, .int v_t_place, .int v_t_value, .int v_t_fault, .int v_t_copies, .int v_t_draftCopies, .ref a_t_draft, .ref a_t_s, .ref a_t_undos, .int v_t_undoMany, .ref a_t_kept, .ref a_t_isKept, .ref a_t_seenWay, .ref a_t_seenIs, .int v_t_seenMany, .int v_t_asked, .ref a_t_sums, .ref a_t_parts, .ref a_t_heaps])), (a_t_text, .inl (cI, 120, .inl v_t_text))] H → va_D A [(a_t, .inr (11, [.int v_t_thrown, .ref a_t_text, .int v_t_typed, .int v_t_spot, .int v_t_token, .int v_t_place, .int v_t_value, .int v_t_fault, .int v_t_copies, .int v_t_draftCopies, .ref a_t_draft, .ref a_t_s, .ref a_t_undos, .int v_t_undoMany, .ref a_t_kept, .ref a_t_isKept, .ref a_t_seenWay, .ref a_t_seenIs, .int v_t_seenMany, .int v_t_asked, .ref a_t_sums, .ref a_t_parts, .ref a_t_heaps])), (a_t_text, .inl (cI, 120, .inl v_t_text))] → va_S A s.heap H locs → W p l e rmX11_reads s m args below meth c H locs 0 0 (MQ below (qM D none [(a_t, .inr (11, [.int v_t_thrown, .ref a_t_text, .int v_t_typed, .int o_t_spot, .int o_t_token, .int v_t_place, .int o_t_value, .int v_t_fault, .int v_t_copies, .int v_t_draftCopies, .ref a_t_draft, .ref a_t_s, .ref a_t_undos, .int v_t_undoMany, .ref a_t_kept, .ref a_t_isKept, .ref a_t_seenWay, .ref a_t_seenIs, .int v_t_seenMany, .int v_t_asked, .ref a_t_sums, .ref a_t_parts, .ref a_t_heaps])), (a_t_text, .inl (cI, 120, .inl v_t_text))] A) args s 0 0 A) (F0 m 69 ls [.ref a_t]) := by
  obtain ⟨hx, hb, hml, hown, hts⟩ := id S
  intro jx1 v_t_spot v_t_token v_t_value ls H locs hf hl hP hD hS
  unfold fX11_reads_69 at hf
  refine lv_iload_n hx hb dX11_reads_69 rfl (lv_at hl 1 rfl) ?_
  refine lv_bipush (v := 7) hx hb dX11_reads_70 (by decide) ?_
  refine lv_icmp_ne (tgt := 100) hx hb dX11_reads_72 (by decide) (fun jc1 => ?_) (fun jc1 => ?_)
  · have hf := ite_f jc1 hf
    exact wX11_reads_100 S hr hlk hK hA jx1 v_t_spot v_t_token v_t_value ls _ _ hf (lv_sub hl [0, 1] rfl) hP hD hS
  · have hf := ite_t jc1 hf
    refine lv_aload_n hx hb dX11_reads_75 rfl (lv_at hl 0 rfl) ?_
    refine lv_bipush (v := 119) hx hb dX11_reads_76 (by decide) ?_
    refine lv_bipush (v := 105) hx hb dX11_reads_78 (by decide) ?_
    refine lv_bipush (v := 116) hx hb dX11_reads_80 (by decide) ?_
    refine lv_bipush (v := 110) hx hb dX11_reads_82 (by decide) ?_
    refine lv_bipush (v := 101) hx hb dX11_reads_84 (by decide) ?_
    refine lv_bipush (v := 115) hx hb dX11_reads_86 (by decide) ?_
    refine lv_bipush (v := 115) hx hb dX11_reads_88 (by decide) ?_
    obtain ⟨jr2, je3, hf⟩ := bd1_inv hf
    refine callRV (As := [.int (119 : Int32), .int (105 : Int32), .int (116 : Int32), .int (110 : Int32), .int (101 : Int32), .int (115 : Int32), .int (115 : Int32)]) (rest := [.ref a_t]) S (ctX11_isRow l D cI cZ a_t a_t_text a_t_draft a_t_s a_t_undos a_t_kept a_t_isKept a_t_seenWay a_t_seenIs a_t_sums a_t_parts a_t_heaps (119 : Int32) (105 : Int32) (116 : Int32) (110 : Int32) (101 : Int32) (115 : Int32) (115 : Int32) v_t_typed v_t_place v_t_text v_t_thrown v_t_spot v_t_token v_t_value v_t_fault v_t_copies v_t_draftCopies v_t_undoMany v_t_seenMany v_t_asked jr2 je3) (cwV 7 hts gX11_reads_X11_isRow rfl rfl rfl ⟨rfl, hdX11_isRow⟩ ⟨Nat.le_of_ble_eq_true rfl, Nat.le_of_ble_eq_true rfl⟩) hP [0, 1] rfl KX.xs (fun U _ hW => hK.warm hW) (va_recv hK.1 hP (ci := 11) (q0 := 0) rfl rfl) rfl hl.1 rfl (Nat.le_of_ble_eq_true rfl) dX11_reads_90 ⟨Nat.zero_le _, Nat.zero_le _⟩ ?_
    refine lv_if_eq (tgt := 100) hx hb dX11_reads_93 (by decide) (fun jc4 => ?_) (fun jc4 => ?_)
    · have hf := ite_t jc4 hf
      exact wX11_reads_100 S hr hlk hK hA jx1 v_t_spot v_t_token v_t_value ls _ _ hf (lv_sub hl [0, 1] rfl) hP hD hS
    · have hf := ite_f jc4 hf
      refine lv_iconst (v := 2) hx hb dX11_reads_96 (by decide) ?_
      refine lv_goto (tgt := 156) hx hb dX11_reads_97 (by decide) ?_
      exact wX11_reads_156 S hr hlk hK hA (2 : Int32) v_t_spot v_t_token v_t_value ls _ _ hf (lv_sub hl [0] rfl) hP hD hS
set_option maxHeartbeats 4000000 in
set_option maxRecDepth 100000 in
theorem wX11_reads_0 {p : Program} {l : Launch} {e : Env} {s : State} {m : MethodId} {args : Array Value} {below : List Frame} {meth : Method} {c : Code} {D : va_G} {cI cZ : ClassId} (S : CallFix p m c cX11_reads 2 s args wsX11_reads RX11) (hr : meth.sig.returnType = none) (hlk : meth.locks = false) (hK : KX D cI cZ s) {a_t a_t_text a_t_draft a_t_s a_t_undos a_t_kept a_t_isKept a_t_seenWay a_t_seenIs a_t_sums a_t_parts a_t_heaps : Nat} {v_t_typed : Int32} {v_t_place : Int32} {v_t_text : (Nat → Int32)} {v_t_thrown : Int32} {v_t_fault : Int32} {v_t_copies : Int32} {v_t_draftCopies : Int32} {v_t_undoMany : Int32} {v_t_seenMany : Int32} {v_t_asked : Int32} {o_t_spot : Int32} {o_t_token : Int32} {o_t_value : Int32} {A : Nat → Prop} (hA : ∀ q : Nat, s.heap.size ≤ q → A q) : ∀ (n : Nat), ∀ (v_t_spot : Int32) (v_t_token : Int32) (v_t_value : Int32) (ls : Array Slot) (H : Heap) (locs : List Loc), fX11_reads_0 v_t_typed v_t_place v_t_text n v_t_spot v_t_token v_t_value = some (o_t_spot, o_t_token, o_t_value) → lv_has ls 2 [(0, .ref a_t)] → va_P D vwCl [(a_t, .inr (11, [.int v_t_thrown, .ref a_t_text, .int v_t_typed, .int v_t_spot, .int v_t_token, .int v_t_place, .int v_t_value, .int v_t_fault, .int v_t_copies, .int v_t_draftCopies, .ref a_t_draft, .ref a_t_s, .ref a_t_undos, .int v_t_undoMany, .ref a_t_kept, .ref a_t_isKept, .ref a_t_seenWay, .ref a_t_seenIs, .int v_t_seenMany, .int v_t_asked, .ref a_t_sums, .ref a_t_parts, .ref a_t_heaps])), (a_t_text, .inl (cI, 120, .inl v_t_text))] H → va_D A [(a_t, .inr (11, [.int v_t_thrown, .ref a_t_text, .int v_t_typed, .int v_t_spot, .int v_t_token, .int v_t_place, .int v_t_value, .int v_t_fault, .int v_t_copies, .int v_t_draftCopies, .ref a_t_draft, .ref a_t_s, .ref a_t_undos, .int v_t_undoMany, .ref a_t_kept, .ref a_t_isKept, .ref a_t_seenWay, .ref a_t_seenIs, .int v_t_seenMany, .int v_t_asked, .ref a_t_sums, .ref a_t_parts, .ref a_t_heaps])), (a_t_text, .inl (cI, 120, .inl v_t_text))] → va_S A s.heap H locs → W p l e rmX11_reads s m args below meth c H locs 0 0 (MQ below (qM D none [(a_t, .inr (11, [.int v_t_thrown, .ref a_t_text, .int v_t_typed, .int o_t_spot, .int o_t_token, .int v_t_place, .int o_t_value, .int v_t_fault, .int v_t_copies, .int v_t_draftCopies, .ref a_t_draft, .ref a_t_s, .ref a_t_undos, .int v_t_undoMany, .ref a_t_kept, .ref a_t_isKept, .ref a_t_seenWay, .ref a_t_seenIs, .int v_t_seenMany, .int v_t_asked, .ref a_t_sums, .ref a_t_parts, .ref a_t_heaps])), (a_t_text, .inl (cI, 120, .inl v_t_text))] A) args s 0 0 A) (F0 m 0 ls []) := by
  obtain ⟨hx, hb, hml, hown, hts⟩ := id S
  intro n
  induction n with
  | zero =>
    intro v_t_spot v_t_token v_t_value ls H locs hf hl hP hD hS
    cases (show (none : Option _) = some _ from hf)
  | succ n ih =>
    intro v_t_spot v_t_token v_t_value ls H locs hf hl hP hD hS
    have hf := (fX11_reads_0_s _ _ _ n _ _ _).symm.trans hf
    refine lv_aload_n hx hb dX11_reads_0 rfl (lv_at hl 0 rfl) ?_
    refine lv_aload_n hx hb dX11_reads_1 rfl (lv_at hl 0 rfl) ?_
    refine va_get (D := D) (ci := 11) (v := .int v_t_spot) (C := RX11) (T := TX11) (N := 23) hx hb hts iX11_reads_X11 hown hK.1 hP 0 rfl rfl 3 (by decide) (hts _ mX11_reads_1) (fun _ h9 => h9) rfl dX11_reads_2 ?_
    obtain ⟨jr1, je2, hf⟩ := bd1_inv hf
    refine callRV (As := [.int v_t_spot]) (rest := []) S (ctX11_letterAt l D cI cZ a_t a_t_text a_t_draft a_t_s a_t_undos a_t_kept a_t_isKept a_t_seenWay a_t_seenIs a_t_sums a_t_parts a_t_heaps v_t_spot v_t_typed v_t_text v_t_thrown v_t_spot v_t_token v_t_place v_t_value v_t_fault v_t_copies v_t_draftCopies v_t_undoMany v_t_seenMany v_t_asked jr1 je2) (cwV 1 hts gX11_reads_X11_letterAt rfl rfl rfl ⟨rfl, hdX11_letterAt⟩ ⟨Nat.le_of_ble_eq_true rfl, Nat.le_of_ble_eq_true rfl⟩) hP [0, 1] rfl KX.xs (fun U _ hW => hK.warm hW) (va_recv hK.1 hP (ci := 11) (q0 := 0) rfl rfl) rfl hl.1 rfl (Nat.le_of_ble_eq_true rfl) dX11_reads_5 ⟨Nat.zero_le _, Nat.zero_le _⟩ ?_
    refine lv_bipush (v := 97) hx hb dX11_reads_8 (by decide) ?_
    refine lv_bipush (v := 122) hx hb dX11_reads_10 (by decide) ?_
    obtain ⟨jr3, je4, hf⟩ := bd1_inv hf
    refine callRS (As := [.int jr1, .int (97 : Int32), .int (122 : Int32)]) (rest := []) S (ctX11_in l D cI cZ jr1 (97 : Int32) (122 : Int32) jr3 je4) (va_cwS 3 hts gX11_reads_X11_in rfl rfl rfl hdX11_in ⟨Nat.le_of_ble_eq_true rfl, Nat.le_of_ble_eq_true rfl⟩) hP [] rfl KX.xs (fun U _ hW => hK.warm hW) rfl hl.1 rfl (Nat.le_of_ble_eq_true rfl) dX11_reads_12 ⟨Nat.zero_le _, Nat.zero_le _⟩ ?_
    refine lv_if_eq (tgt := 31) hx hb dX11_reads_15 (by decide) (fun jc5 => ?_) (fun jc5 => ?_)
    · have hf := ite_t jc5 hf
      refine lv_aload_n hx hb dX11_reads_31 rfl (lv_at hl 0 rfl) ?_
      refine va_get (D := D) (ci := 11) (v := .int v_t_spot) (C := RX11) (T := TX11) (N := 23) hx hb hts iX11_reads_X11 hown hK.1 hP 0 rfl rfl 3 (by decide) (hts _ mX11_reads_1) (fun _ h9 => h9) rfl dX11_reads_32 ?_
      refine lv_aload_n hx hb dX11_reads_35 rfl (lv_at hl 0 rfl) ?_
      refine va_get (D := D) (ci := 11) (v := .int v_t_place) (C := RX11) (T := TX11) (N := 23) hx hb hts iX11_reads_X11 hown hK.1 hP 0 rfl rfl 5 (by decide) (hts _ mX11_reads_2) (fun _ h9 => h9) rfl dX11_reads_36 ?_
      refine lv_isub hx hb dX11_reads_39 ?_
      refine lv_istore_n (lv' := [(1, .int (v_t_spot - v_t_place)), (0, .ref a_t)]) hx hb dX11_reads_40 rfl hl (by decide) rfl (fun ls hl => ?_)
      refine lv_aload_n hx hb dX11_reads_41 rfl (lv_at hl 1 rfl) ?_
      refine lv_iload_n hx hb dX11_reads_42 rfl (lv_at hl 0 rfl) ?_
      refine lv_iconst (v := 4) hx hb dX11_reads_43 (by decide) ?_
      refine lv_icmp_ne (tgt := 69) hx hb dX11_reads_44 (by decide) (fun jc6 => ?_) (fun jc6 => ?_)
      · have hf := ite_f jc6 hf
        exact wX11_reads_69 S hr hlk hK hA (v_t_spot - v_t_place) v_t_spot v_t_token v_t_value ls _ _ hf (lv_sub hl [1, 0] rfl) hP hD hS
      · have hf := ite_t jc6 hf
        refine lv_aload_n hx hb dX11_reads_47 rfl (lv_at hl 1 rfl) ?_
        refine lv_bipush (v := 99) hx hb dX11_reads_48 (by decide) ?_
        refine lv_bipush (v := 111) hx hb dX11_reads_50 (by decide) ?_
        refine lv_bipush (v := 112) hx hb dX11_reads_52 (by decide) ?_
        refine lv_bipush (v := 121) hx hb dX11_reads_54 (by decide) ?_
        refine lv_iconst (v := 0) hx hb dX11_reads_56 (by decide) ?_
        refine lv_iconst (v := 0) hx hb dX11_reads_57 (by decide) ?_
        refine lv_iconst (v := 0) hx hb dX11_reads_58 (by decide) ?_
        obtain ⟨jr7, je8, hf⟩ := bd1_inv hf
        refine callRV (As := [.int (99 : Int32), .int (111 : Int32), .int (112 : Int32), .int (121 : Int32), .int (0 : Int32), .int (0 : Int32), .int (0 : Int32)]) (rest := [.ref a_t]) S (ctX11_isRow l D cI cZ a_t a_t_text a_t_draft a_t_s a_t_undos a_t_kept a_t_isKept a_t_seenWay a_t_seenIs a_t_sums a_t_parts a_t_heaps (99 : Int32) (111 : Int32) (112 : Int32) (121 : Int32) (0 : Int32) (0 : Int32) (0 : Int32) v_t_typed v_t_place v_t_text v_t_thrown v_t_spot v_t_token v_t_value v_t_fault v_t_copies v_t_draftCopies v_t_undoMany v_t_seenMany v_t_asked jr7 je8) (cwV 7 hts gX11_reads_X11_isRow rfl rfl rfl ⟨rfl, hdX11_isRow⟩ ⟨Nat.le_of_ble_eq_true rfl, Nat.le_of_ble_eq_true rfl⟩) hP [0, 1] rfl KX.xs (fun U _ hW => hK.warm hW) (va_recv hK.1 hP (ci := 11) (q0 := 0) rfl rfl) rfl hl.1 rfl (Nat.le_of_ble_eq_true rfl) dX11_reads_59 ⟨Nat.zero_le _, Nat.zero_le _⟩ ?_
        refine lv_if_eq (tgt := 69) hx hb dX11_reads_62 (by decide) (fun jc9 => ?_) (fun jc9 => ?_)
        · have hf := ite_t jc9 hf
          exact wX11_reads_69 S hr hlk hK hA (v_t_spot - v_t_place) v_t_spot v_t_token v_t_value ls _ _ hf (lv_sub hl [1, 0] rfl) hP hD hS
        · have hf := ite_f jc9 hf
          refine lv_iconst (v := 1) hx hb dX11_reads_65 (by decide) ?_
          refine lv_goto (tgt := 156) hx hb dX11_reads_66 (by decide) ?_
          exact wX11_reads_156 S hr hlk hK hA (1 : Int32) v_t_spot v_t_token v_t_value ls _ _ hf (lv_sub hl [1] rfl) hP hD hS
    · have hf := ite_f jc5 hf
      refine lv_aload_n hx hb dX11_reads_18 rfl (lv_at hl 0 rfl) ?_
      refine lv_dup hx hb dX11_reads_19 rfl ?_
      refine va_get (D := D) (ci := 11) (v := .int v_t_spot) (C := RX11) (T := TX11) (N := 23) hx hb hts iX11_reads_X11 hown hK.1 hP 0 rfl rfl 3 (by decide) (hts _ mX11_reads_1) (fun _ h9 => h9) rfl dX11_reads_20 ?_
      refine lv_iconst (v := 1) hx hb dX11_reads_23 (by decide) ?_
      refine lv_iadd hx hb dX11_reads_24 ?_
      refine va_put (D := D) (ci := 11) (v := .int (v_t_spot + (1 : Int32))) (ty := .int) (C := RX11) (T := TX11) (N := 23) hx hb hts iX11_reads_X11 tyX11 tyX11_ok nmX11 hown hK.1 hP hD hS 0 rfl rfl 3 (by decide) (hts _ mX11_reads_1) (fun _ h9 => h9) rfl (tyX11_ok 3 (by decide)) rfl rfl (Nat.le_of_ble_eq_true rfl) dX11_reads_25 (fun H locs hP hD hS => ?_)
      have hP : va_P D vwCl [(a_t, .inr (11, [.int v_t_thrown, .ref a_t_text, .int v_t_typed, .int (v_t_spot + (1 : Int32)), .int v_t_token, .int v_t_place, .int v_t_value, .int v_t_fault, .int v_t_copies, .int v_t_draftCopies, .ref a_t_draft, .ref a_t_s, .ref a_t_undos, .int v_t_undoMany, .ref a_t_kept, .ref a_t_isKept, .ref a_t_seenWay, .ref a_t_seenIs, .int v_t_seenMany, .int v_t_asked, .ref a_t_sums, .ref a_t_parts, .ref a_t_heaps])), (a_t_text, .inl (cI, 120, .inl v_t_text))] H := hP
      have hD : va_D A [(a_t, .inr (11, [.int v_t_thrown, .ref a_t_text, .int v_t_typed, .int (v_t_spot + (1 : Int32)), .int v_t_token, .int v_t_place, .int v_t_value, .int v_t_fault, .int v_t_copies, .int v_t_draftCopies, .ref a_t_draft, .ref a_t_s, .ref a_t_undos, .int v_t_undoMany, .ref a_t_kept, .ref a_t_isKept, .ref a_t_seenWay, .ref a_t_seenIs, .int v_t_seenMany, .int v_t_asked, .ref a_t_sums, .ref a_t_parts, .ref a_t_heaps])), (a_t_text, .inl (cI, 120, .inl v_t_text))] := hD
      refine lv_goto (tgt := 0) hx hb dX11_reads_28 (by decide) ?_
      exact ih (v_t_spot + (1 : Int32)) v_t_token v_t_value ls _ _ hf (lv_sub hl [0] rfl) hP hD hS
theorem hdX11_reads : yX11_reads.cls ≠ "java/lang/invoke/MethodHandle" ∧ yX11_reads.cls ≠ "java/lang/invoke/VarHandle" ∧ (parseMethodDescriptor yX11_reads.desc).map (fun d => d.parameters.length) = some 0 := by decide +kernel
set_option maxHeartbeats 4000000 in
set_option maxRecDepth 100000 in
theorem ctX11_reads (l : Launch) (D : va_G) (cI cZ : ClassId) (a_t a_t_text a_t_draft a_t_s a_t_undos a_t_kept a_t_isKept a_t_seenWay a_t_seenIs a_t_sums a_t_parts a_t_heaps : Nat) (v_t_typed : Int32) (v_t_spot : Int32) (v_t_token : Int32) (v_t_place : Int32) (v_t_value : Int32) (v_t_text : (Nat → Int32)) (v_t_thrown : Int32) (v_t_fault : Int32) (v_t_copies : Int32) (v_t_draftCopies : Int32) (v_t_undoMany : Int32) (v_t_seenMany : Int32) (v_t_asked : Int32) (o_t_spot : Int32) (o_t_token : Int32) (o_t_value : Int32) (hf : fX11_reads v_t_typed v_t_spot v_t_token v_t_place v_t_value v_t_text = some (o_t_spot, o_t_token, o_t_value)) : cM l yX11_reads wsX11_reads rmX11_reads [.ref a_t] D [(a_t, .inr (11, [.int v_t_thrown, .ref a_t_text, .int v_t_typed, .int v_t_spot, .int v_t_token, .int v_t_place, .int v_t_value, .int v_t_fault, .int v_t_copies, .int v_t_draftCopies, .ref a_t_draft, .ref a_t_s, .ref a_t_undos, .int v_t_undoMany, .ref a_t_kept, .ref a_t_isKept, .ref a_t_seenWay, .ref a_t_seenIs, .int v_t_seenMany, .int v_t_asked, .ref a_t_sums, .ref a_t_parts, .ref a_t_heaps])), (a_t_text, .inl (cI, 120, .inl v_t_text))] [(a_t, .inr (11, [.int v_t_thrown, .ref a_t_text, .int v_t_typed, .int o_t_spot, .int o_t_token, .int v_t_place, .int o_t_value, .int v_t_fault, .int v_t_copies, .int v_t_draftCopies, .ref a_t_draft, .ref a_t_s, .ref a_t_undos, .int v_t_undoMany, .ref a_t_kept, .ref a_t_isKept, .ref a_t_seenWay, .ref a_t_seenIs, .int v_t_seenMany, .int v_t_asked, .ref a_t_sums, .ref a_t_parts, .ref a_t_heaps])), (a_t_text, .inl (cI, 120, .inl v_t_text))] (KX D cI cZ) none := by
  refine cM_of (cc := cX11_reads) (maxL := 2) (ret := none) (by decide +kernel) rfl _ (Nat.le_of_ble_eq_true rfl) ?_
  intro p e s m below meth c ls A S hr hlk hP hK hl hD hA hS
  obtain ⟨hx, hb, hml, hown, hts⟩ := id S
  have hl : lv_has ls 2 [(0, .ref a_t)] := hl
  unfold fX11_reads at hf
  exact wX11_reads_0 S hr hlk hK hA fuel v_t_spot v_t_token v_t_value ls _ _ hf (lv_sub hl [0] rfl) hP hD hS
def fX11_advances_71 (jx1 : Int32) (v_t_typed : Int32) (v_t_text : (Nat → Int32)) : Nat → Int32 → Int32 → Int32 → Int32 → Option (Int32 × Int32 × Int32 × Int32)
  | 0, _, _, _, _ => none
  | n + 1, v_t_spot, v_t_token, v_t_place, v_t_value => bd1 (fX11_letterAt v_t_spot v_t_typed v_t_text) (fun jr1 => bd1 (fX11_in jr1 (48 : Int32) (57 : Int32)) (fun jr3 => if jr3 = 0 then if (99 : Int32) < v_t_value then some (v_t_spot, (4 : Int32), v_t_place, v_t_value) else if jx1 = (48 : Int32) then if (v_t_spot - v_t_place) ≤ (1 : Int32) then some (v_t_spot, (2 : Int32), v_t_place, v_t_value) else some (v_t_spot, (4 : Int32), v_t_place, v_t_value) else some (v_t_spot, (2 : Int32), v_t_place, v_t_value) else if v_t_value ≤ (99 : Int32) then bd1 (fX11_letterAt v_t_spot v_t_typed v_t_text) (fun jr10 => (fX11_advances_71 jx1 v_t_typed v_t_text n) (v_t_spot + (1 : Int32)) v_t_token v_t_place ((((10 : Int32) * v_t_value) + jr10) - (48 : Int32))) else (fX11_advances_71 jx1 v_t_typed v_t_text n) (v_t_spot + (1 : Int32)) v_t_token v_t_place v_t_value))
theorem fX11_advances_71_s (jx1 : Int32) (v_t_typed : Int32) (v_t_text : (Nat → Int32)) (n : Nat) (v_t_spot : Int32) (v_t_token : Int32) (v_t_place : Int32) (v_t_value : Int32) : fX11_advances_71 jx1 v_t_typed v_t_text (n + 1) v_t_spot v_t_token v_t_place v_t_value = bd1 (fX11_letterAt v_t_spot v_t_typed v_t_text) (fun jr1 => bd1 (fX11_in jr1 (48 : Int32) (57 : Int32)) (fun jr3 => if jr3 = 0 then if (99 : Int32) < v_t_value then some (v_t_spot, (4 : Int32), v_t_place, v_t_value) else if jx1 = (48 : Int32) then if (v_t_spot - v_t_place) ≤ (1 : Int32) then some (v_t_spot, (2 : Int32), v_t_place, v_t_value) else some (v_t_spot, (4 : Int32), v_t_place, v_t_value) else some (v_t_spot, (2 : Int32), v_t_place, v_t_value) else if v_t_value ≤ (99 : Int32) then bd1 (fX11_letterAt v_t_spot v_t_typed v_t_text) (fun jr10 => (fX11_advances_71 jx1 v_t_typed v_t_text n) (v_t_spot + (1 : Int32)) v_t_token v_t_place ((((10 : Int32) * v_t_value) + jr10) - (48 : Int32))) else (fX11_advances_71 jx1 v_t_typed v_t_text n) (v_t_spot + (1 : Int32)) v_t_token v_t_place v_t_value)) := rfl
def fX11_advances_0 (v_t_typed : Int32) (v_t_text : (Nat → Int32)) : Nat → Int32 → Int32 → Int32 → Int32 → Option (Int32 × Int32 × Int32 × Int32)
  | 0, _, _, _, _ => none
  | n + 1, v_t_spot, v_t_token, v_t_place, v_t_value => bd1 (fX11_letterAt v_t_spot v_t_typed v_t_text) (fun jr1 => if jr1 = (32 : Int32) then (fX11_advances_0 v_t_typed v_t_text n) (v_t_spot + (1 : Int32)) v_t_token v_t_place v_t_value else bd1 (fX11_letterAt v_t_spot v_t_typed v_t_text) (fun jr4 => if 0 ≤ jr4 then bd1 (fX11_in jr4 (48 : Int32) (57 : Int32)) (fun jr7 => if jr7 = 0 then bd1 (fX11_in jr4 (97 : Int32) (122 : Int32)) (fun jr10 => if jr10 = 0 then if jr4 = (59 : Int32) then some ((v_t_spot + (1 : Int32)), (3 : Int32), v_t_spot, v_t_value) else some ((v_t_spot + (1 : Int32)), (4 : Int32), v_t_spot, v_t_value) else bd3 (fX11_reads v_t_typed v_t_spot v_t_token v_t_spot v_t_value v_t_text) (fun jg14 jg15 jg16 => some (jg14, jg15, v_t_spot, jg16))) else fX11_advances_71 jr4 v_t_typed v_t_text fuel v_t_spot v_t_token v_t_spot (0 : Int32)) else some (v_t_spot, (0 : Int32), v_t_spot, v_t_value)))
theorem fX11_advances_0_s (v_t_typed : Int32) (v_t_text : (Nat → Int32)) (n : Nat) (v_t_spot : Int32) (v_t_token : Int32) (v_t_place : Int32) (v_t_value : Int32) : fX11_advances_0 v_t_typed v_t_text (n + 1) v_t_spot v_t_token v_t_place v_t_value = bd1 (fX11_letterAt v_t_spot v_t_typed v_t_text) (fun jr1 => if jr1 = (32 : Int32) then (fX11_advances_0 v_t_typed v_t_text n) (v_t_spot + (1 : Int32)) v_t_token v_t_place v_t_value else bd1 (fX11_letterAt v_t_spot v_t_typed v_t_text) (fun jr4 => if 0 ≤ jr4 then bd1 (fX11_in jr4 (48 : Int32) (57 : Int32)) (fun jr7 => if jr7 = 0 then bd1 (fX11_in jr4 (97 : Int32) (122 : Int32)) (fun jr10 => if jr10 = 0 then if jr4 = (59 : Int32) then some ((v_t_spot + (1 : Int32)), (3 : Int32), v_t_spot, v_t_value) else some ((v_t_spot + (1 : Int32)), (4 : Int32), v_t_spot, v_t_value) else bd3 (fX11_reads v_t_typed v_t_spot v_t_token v_t_spot v_t_value v_t_text) (fun jg14 jg15 jg16 => some (jg14, jg15, v_t_spot, jg16))) else fX11_advances_71 jr4 v_t_typed v_t_text fuel v_t_spot v_t_token v_t_spot (0 : Int32)) else some (v_t_spot, (0 : Int32), v_t_spot, v_t_value))) := rfl
def fX11_advances (v_t_typed : Int32) (v_t_spot : Int32) (v_t_token : Int32) (v_t_place : Int32) (v_t_value : Int32) (v_t_text : (Nat → Int32)) : Option (Int32 × Int32 × Int32 × Int32) := fX11_advances_0 v_t_typed v_t_text fuel v_t_spot v_t_token v_t_place v_t_value
abbrev rmX11_advances : Room := { frames := 3, cells := 0, slots := 0, locals := 69 }
theorem iX11_advances_X11 : ∀ w ∈ wsX110, w ∈ wsX11_advances := fun _ h => List.mem_cons_of_mem _ (List.mem_append_right _ h)
theorem mX11_advances_1 : (Cond.fieldLink RX11 68 "VoteFilesModel" "spot" "I") ∈ wsX11_advances := List.mem_of_getElem? (i := 1) rfl
theorem mX11_advances_4 : (Cond.fieldLink RX11 75 "VoteFilesModel" "value" "I") ∈ wsX11_advances := List.mem_of_getElem? (i := 4) rfl
theorem mX11_advances_3 : (Cond.fieldLink RX11 78 "VoteFilesModel" "token" "I") ∈ wsX11_advances := List.mem_of_getElem? (i := 3) rfl
theorem mX11_advances_2 : (Cond.fieldLink RX11 61 "VoteFilesModel" "place" "I") ∈ wsX11_advances := List.mem_of_getElem? (i := 2) rfl
set_option maxHeartbeats 4000000 in
set_option maxRecDepth 100000 in
theorem wX11_advances_71 {p : Program} {l : Launch} {e : Env} {s : State} {m : MethodId} {args : Array Value} {below : List Frame} {meth : Method} {c : Code} {D : va_G} {cI cZ : ClassId} (S : CallFix p m c cX11_advances 2 s args wsX11_advances RX11) (hr : meth.sig.returnType = none) (hlk : meth.locks = false) (hK : KX D cI cZ s) {a_t a_t_text a_t_draft a_t_s a_t_undos a_t_kept a_t_isKept a_t_seenWay a_t_seenIs a_t_sums a_t_parts a_t_heaps : Nat} {jx1 : Int32} {v_t_typed : Int32} {v_t_text : (Nat → Int32)} {v_t_thrown : Int32} {v_t_fault : Int32} {v_t_copies : Int32} {v_t_draftCopies : Int32} {v_t_undoMany : Int32} {v_t_seenMany : Int32} {v_t_asked : Int32} {o_t_spot : Int32} {o_t_token : Int32} {o_t_place : Int32} {o_t_value : Int32} {A : Nat → Prop} (hA : ∀ q : Nat, s.heap.size ≤ q → A q) : ∀ (n : Nat), ∀ (v_t_spot : Int32) (v_t_token : Int32) (v_t_place : Int32) (v_t_value : Int32) (ls : Array Slot) (H : Heap) (locs : List Loc), fX11_advances_71 jx1 v_t_typed v_t_text n v_t_spot v_t_token v_t_place v_t_value = some (o_t_spot, o_t_token, o_t_place, o_t_value) → lv_has ls 2 [(0, .ref a_t), (1, .int jx1)] → va_P D vwCl [(a_t, .inr (11, [.int v_t_thrown, .ref a_t_text, .int v_t_typed, .int v_t_spot, .int v_t_token, .int v_t_place, .int v_t_value, .int v_t_fault, .int v_t_copies, .int v_t_draftCopies, .ref a_t_draft, .ref a_t_s, .ref a_t_undos, .int v_t_undoMany, .ref a_t_kept, .ref a_t_isKept, .ref a_t_seenWay, .ref a_t_seenIs, .int v_t_seenMany, .int v_t_asked, .ref a_t_sums, .ref a_t_parts, .ref a_t_heaps])), (a_t_text, .inl (cI, 120, .inl v_t_text))] H → va_D A [(a_t, .inr (11, [.int v_t_thrown, .ref a_t_text, .int v_t_typed, .int v_t_spot, .int v_t_token, .int v_t_place, .int v_t_value, .int v_t_fault, .int v_t_copies, .int v_t_draftCopies, .ref a_t_draft, .ref a_t_s, .ref a_t_undos, .int v_t_undoMany, .ref a_t_kept, .ref a_t_isKept, .ref a_t_seenWay, .ref a_t_seenIs, .int v_t_seenMany, .int v_t_asked, .ref a_t_sums, .ref a_t_parts, .ref a_t_heaps])), (a_t_text, .inl (cI, 120, .inl v_t_text))] → va_S A s.heap H locs → W p l e rmX11_advances s m args below meth c H locs 0 0 (MQ below (qM D none [(a_t, .inr (11, [.int v_t_thrown, .ref a_t_text, .int v_t_typed, .int o_t_spot, .int o_t_token, .int o_t_place, .int o_t_value, .int v_t_fault, .int v_t_copies, .int v_t_draftCopies, .ref a_t_draft, .ref a_t_s, .ref a_t_undos, .int v_t_undoMany, .ref a_t_kept, .ref a_t_isKept, .ref a_t_seenWay, .ref a_t_seenIs, .int v_t_seenMany, .int v_t_asked, .ref a_t_sums, .ref a_t_parts, .ref a_t_heaps])), (a_t_text, .inl (cI, 120, .inl v_t_text))] A) args s 0 0 A) (F0 m 71 ls []) := by
  obtain ⟨hx, hb, hml, hown, hts⟩ := id S
  intro n
  induction n with
  | zero =>
    intro v_t_spot v_t_token v_t_place v_t_value ls H locs hf hl hP hD hS
    cases (show (none : Option _) = some _ from hf)
  | succ n ih =>
    intro v_t_spot v_t_token v_t_place v_t_value ls H locs hf hl hP hD hS
    have hf := (fX11_advances_71_s _ _ _ n _ _ _ _).symm.trans hf
    refine lv_aload_n hx hb dX11_advances_71 rfl (lv_at hl 0 rfl) ?_
    refine lv_aload_n hx hb dX11_advances_72 rfl (lv_at hl 0 rfl) ?_
    refine va_get (D := D) (ci := 11) (v := .int v_t_spot) (C := RX11) (T := TX11) (N := 23) hx hb hts iX11_advances_X11 hown hK.1 hP 0 rfl rfl 3 (by decide) (hts _ mX11_advances_1) (fun _ h9 => h9) rfl dX11_advances_73 ?_
    obtain ⟨jr1, je2, hf⟩ := bd1_inv hf
    refine callRV (As := [.int v_t_spot]) (rest := []) S (ctX11_letterAt l D cI cZ a_t a_t_text a_t_draft a_t_s a_t_undos a_t_kept a_t_isKept a_t_seenWay a_t_seenIs a_t_sums a_t_parts a_t_heaps v_t_spot v_t_typed v_t_text v_t_thrown v_t_spot v_t_token v_t_place v_t_value v_t_fault v_t_copies v_t_draftCopies v_t_undoMany v_t_seenMany v_t_asked jr1 je2) (cwV 1 hts gX11_advances_X11_letterAt rfl rfl rfl ⟨rfl, hdX11_letterAt⟩ ⟨Nat.le_of_ble_eq_true rfl, Nat.le_of_ble_eq_true rfl⟩) hP [0, 1] rfl KX.xs (fun U _ hW => hK.warm hW) (va_recv hK.1 hP (ci := 11) (q0 := 0) rfl rfl) rfl hl.1 rfl (Nat.le_of_ble_eq_true rfl) dX11_advances_76 ⟨Nat.zero_le _, Nat.zero_le _⟩ ?_
    refine lv_bipush (v := 48) hx hb dX11_advances_79 (by decide) ?_
    refine lv_bipush (v := 57) hx hb dX11_advances_81 (by decide) ?_
    obtain ⟨jr3, je4, hf⟩ := bd1_inv hf
    refine callRS (As := [.int jr1, .int (48 : Int32), .int (57 : Int32)]) (rest := []) S (ctX11_in l D cI cZ jr1 (48 : Int32) (57 : Int32) jr3 je4) (va_cwS 3 hts gX11_advances_X11_in rfl rfl rfl hdX11_in ⟨Nat.le_of_ble_eq_true rfl, Nat.le_of_ble_eq_true rfl⟩) hP [] rfl KX.xs (fun U _ hW => hK.warm hW) rfl hl.1 rfl (Nat.le_of_ble_eq_true rfl) dX11_advances_83 ⟨Nat.zero_le _, Nat.zero_le _⟩ ?_
    refine lv_if_eq (tgt := 141) hx hb dX11_advances_86 (by decide) (fun jc5 => ?_) (fun jc5 => ?_)
    · have hf := ite_t jc5 hf
      refine lv_aload_n hx hb dX11_advances_141 rfl (lv_at hl 0 rfl) ?_
      refine lv_aload_n hx hb dX11_advances_142 rfl (lv_at hl 0 rfl) ?_
      refine va_get (D := D) (ci := 11) (v := .int v_t_value) (C := RX11) (T := TX11) (N := 23) hx hb hts iX11_advances_X11 hown hK.1 hP 0 rfl rfl 6 (by decide) (hts _ mX11_advances_4) (fun _ h9 => h9) rfl dX11_advances_143 ?_
      refine lv_bipush (v := 99) hx hb dX11_advances_146 (by decide) ?_
      refine lv_icmp_gt (tgt := 170) hx hb dX11_advances_148 (by decide) (fun jc6 => ?_) (fun jc6 => ?_)
      · have hf := ite_t jc6 hf
        refine lv_iconst (v := 4) hx hb dX11_advances_170 (by decide) ?_
        refine lv_goto (tgt := 175) hx hb dX11_advances_171 (by decide) ?_
        refine va_put (D := D) (ci := 11) (v := .int (4 : Int32)) (ty := .int) (C := RX11) (T := TX11) (N := 23) hx hb hts iX11_advances_X11 tyX11 tyX11_ok nmX11 hown hK.1 hP hD hS 0 rfl rfl 4 (by decide) (hts _ mX11_advances_3) (fun _ h9 => h9) rfl (tyX11_ok 4 (by decide)) rfl rfl (Nat.le_of_ble_eq_true rfl) dX11_advances_175 (fun H locs hP hD hS => ?_)
        have hP : va_P D vwCl [(a_t, .inr (11, [.int v_t_thrown, .ref a_t_text, .int v_t_typed, .int v_t_spot, .int (4 : Int32), .int v_t_place, .int v_t_value, .int v_t_fault, .int v_t_copies, .int v_t_draftCopies, .ref a_t_draft, .ref a_t_s, .ref a_t_undos, .int v_t_undoMany, .ref a_t_kept, .ref a_t_isKept, .ref a_t_seenWay, .ref a_t_seenIs, .int v_t_seenMany, .int v_t_asked, .ref a_t_sums, .ref a_t_parts, .ref a_t_heaps])), (a_t_text, .inl (cI, 120, .inl v_t_text))] H := hP
        have hD : va_D A [(a_t, .inr (11, [.int v_t_thrown, .ref a_t_text, .int v_t_typed, .int v_t_spot, .int (4 : Int32), .int v_t_place, .int v_t_value, .int v_t_fault, .int v_t_copies, .int v_t_draftCopies, .ref a_t_draft, .ref a_t_s, .ref a_t_undos, .int v_t_undoMany, .ref a_t_kept, .ref a_t_isKept, .ref a_t_seenWay, .ref a_t_seenIs, .int v_t_seenMany, .int v_t_asked, .ref a_t_sums, .ref a_t_parts, .ref a_t_heaps])), (a_t_text, .inl (cI, 120, .inl v_t_text))] := hD
        refine lv_goto (tgt := 224) hx hb dX11_advances_178 (by decide) ?_
        obtain ⟨rfl, rfl, rfl, rfl⟩ := pr4_inv hf
        exact retMv hx hb hr hlk hP hD hS dX11_advances_224
      · have hf := ite_f jc6 hf
        refine lv_iload_n hx hb dX11_advances_151 rfl (lv_at hl 1 rfl) ?_
        refine lv_bipush (v := 48) hx hb dX11_advances_152 (by decide) ?_
        refine lv_icmp_ne (tgt := 174) hx hb dX11_advances_154 (by decide) (fun jc7 => ?_) (fun jc7 => ?_)
        · have hf := ite_f jc7 hf
          refine lv_iconst (v := 2) hx hb dX11_advances_174 (by decide) ?_
          refine va_put (D := D) (ci := 11) (v := .int (2 : Int32)) (ty := .int) (C := RX11) (T := TX11) (N := 23) hx hb hts iX11_advances_X11 tyX11 tyX11_ok nmX11 hown hK.1 hP hD hS 0 rfl rfl 4 (by decide) (hts _ mX11_advances_3) (fun _ h9 => h9) rfl (tyX11_ok 4 (by decide)) rfl rfl (Nat.le_of_ble_eq_true rfl) dX11_advances_175 (fun H locs hP hD hS => ?_)
          have hP : va_P D vwCl [(a_t, .inr (11, [.int v_t_thrown, .ref a_t_text, .int v_t_typed, .int v_t_spot, .int (2 : Int32), .int v_t_place, .int v_t_value, .int v_t_fault, .int v_t_copies, .int v_t_draftCopies, .ref a_t_draft, .ref a_t_s, .ref a_t_undos, .int v_t_undoMany, .ref a_t_kept, .ref a_t_isKept, .ref a_t_seenWay, .ref a_t_seenIs, .int v_t_seenMany, .int v_t_asked, .ref a_t_sums, .ref a_t_parts, .ref a_t_heaps])), (a_t_text, .inl (cI, 120, .inl v_t_text))] H := hP
          have hD : va_D A [(a_t, .inr (11, [.int v_t_thrown, .ref a_t_text, .int v_t_typed, .int v_t_spot, .int (2 : Int32), .int v_t_place, .int v_t_value, .int v_t_fault, .int v_t_copies, .int v_t_draftCopies, .ref a_t_draft, .ref a_t_s, .ref a_t_undos, .int v_t_undoMany, .ref a_t_kept, .ref a_t_isKept, .ref a_t_seenWay, .ref a_t_seenIs, .int v_t_seenMany, .int v_t_asked, .ref a_t_sums, .ref a_t_parts, .ref a_t_heaps])), (a_t_text, .inl (cI, 120, .inl v_t_text))] := hD
          refine lv_goto (tgt := 224) hx hb dX11_advances_178 (by decide) ?_
          obtain ⟨rfl, rfl, rfl, rfl⟩ := pr4_inv hf
          exact retMv hx hb hr hlk hP hD hS dX11_advances_224
        · have hf := ite_t jc7 hf
          refine lv_aload_n hx hb dX11_advances_157 rfl (lv_at hl 0 rfl) ?_
          refine va_get (D := D) (ci := 11) (v := .int v_t_spot) (C := RX11) (T := TX11) (N := 23) hx hb hts iX11_advances_X11 hown hK.1 hP 0 rfl rfl 3 (by decide) (hts _ mX11_advances_1) (fun _ h9 => h9) rfl dX11_advances_158 ?_
          refine lv_aload_n hx hb dX11_advances_161 rfl (lv_at hl 0 rfl) ?_
          refine va_get (D := D) (ci := 11) (v := .int v_t_place) (C := RX11) (T := TX11) (N := 23) hx hb hts iX11_advances_X11 hown hK.1 hP 0 rfl rfl 5 (by decide) (hts _ mX11_advances_2) (fun _ h9 => h9) rfl dX11_advances_162 ?_
          refine lv_isub hx hb dX11_advances_165 ?_
          refine lv_iconst (v := 1) hx hb dX11_advances_166 (by decide) ?_
          refine lv_icmp_le (tgt := 174) hx hb dX11_advances_167 (by decide) (fun jc8 => ?_) (fun jc8 => ?_)
          · have hf := ite_t jc8 hf
            refine lv_iconst (v := 2) hx hb dX11_advances_174 (by decide) ?_
            refine va_put (D := D) (ci := 11) (v := .int (2 : Int32)) (ty := .int) (C := RX11) (T := TX11) (N := 23) hx hb hts iX11_advances_X11 tyX11 tyX11_ok nmX11 hown hK.1 hP hD hS 0 rfl rfl 4 (by decide) (hts _ mX11_advances_3) (fun _ h9 => h9) rfl (tyX11_ok 4 (by decide)) rfl rfl (Nat.le_of_ble_eq_true rfl) dX11_advances_175 (fun H locs hP hD hS => ?_)
            have hP : va_P D vwCl [(a_t, .inr (11, [.int v_t_thrown, .ref a_t_text, .int v_t_typed, .int v_t_spot, .int (2 : Int32), .int v_t_place, .int v_t_value, .int v_t_fault, .int v_t_copies, .int v_t_draftCopies, .ref a_t_draft, .ref a_t_s, .ref a_t_undos, .int v_t_undoMany, .ref a_t_kept, .ref a_t_isKept, .ref a_t_seenWay, .ref a_t_seenIs, .int v_t_seenMany, .int v_t_asked, .ref a_t_sums, .ref a_t_parts, .ref a_t_heaps])), (a_t_text, .inl (cI, 120, .inl v_t_text))] H := hP
            have hD : va_D A [(a_t, .inr (11, [.int v_t_thrown, .ref a_t_text, .int v_t_typed, .int v_t_spot, .int (2 : Int32), .int v_t_place, .int v_t_value, .int v_t_fault, .int v_t_copies, .int v_t_draftCopies, .ref a_t_draft, .ref a_t_s, .ref a_t_undos, .int v_t_undoMany, .ref a_t_kept, .ref a_t_isKept, .ref a_t_seenWay, .ref a_t_seenIs, .int v_t_seenMany, .int v_t_asked, .ref a_t_sums, .ref a_t_parts, .ref a_t_heaps])), (a_t_text, .inl (cI, 120, .inl v_t_text))] := hD
            refine lv_goto (tgt := 224) hx hb dX11_advances_178 (by decide) ?_
            obtain ⟨rfl, rfl, rfl, rfl⟩ := pr4_inv hf
            exact retMv hx hb hr hlk hP hD hS dX11_advances_224
          · have hf := ite_f jc8 hf
            refine lv_iconst (v := 4) hx hb dX11_advances_170 (by decide) ?_
            refine lv_goto (tgt := 175) hx hb dX11_advances_171 (by decide) ?_
            refine va_put (D := D) (ci := 11) (v := .int (4 : Int32)) (ty := .int) (C := RX11) (T := TX11) (N := 23) hx hb hts iX11_advances_X11 tyX11 tyX11_ok nmX11 hown hK.1 hP hD hS 0 rfl rfl 4 (by decide) (hts _ mX11_advances_3) (fun _ h9 => h9) rfl (tyX11_ok 4 (by decide)) rfl rfl (Nat.le_of_ble_eq_true rfl) dX11_advances_175 (fun H locs hP hD hS => ?_)
            have hP : va_P D vwCl [(a_t, .inr (11, [.int v_t_thrown, .ref a_t_text, .int v_t_typed, .int v_t_spot, .int (4 : Int32), .int v_t_place, .int v_t_value, .int v_t_fault, .int v_t_copies, .int v_t_draftCopies, .ref a_t_draft, .ref a_t_s, .ref a_t_undos, .int v_t_undoMany, .ref a_t_kept, .ref a_t_isKept, .ref a_t_seenWay, .ref a_t_seenIs, .int v_t_seenMany, .int v_t_asked, .ref a_t_sums, .ref a_t_parts, .ref a_t_heaps])), (a_t_text, .inl (cI, 120, .inl v_t_text))] H := hP
            have hD : va_D A [(a_t, .inr (11, [.int v_t_thrown, .ref a_t_text, .int v_t_typed, .int v_t_spot, .int (4 : Int32), .int v_t_place, .int v_t_value, .int v_t_fault, .int v_t_copies, .int v_t_draftCopies, .ref a_t_draft, .ref a_t_s, .ref a_t_undos, .int v_t_undoMany, .ref a_t_kept, .ref a_t_isKept, .ref a_t_seenWay, .ref a_t_seenIs, .int v_t_seenMany, .int v_t_asked, .ref a_t_sums, .ref a_t_parts, .ref a_t_heaps])), (a_t_text, .inl (cI, 120, .inl v_t_text))] := hD
            refine lv_goto (tgt := 224) hx hb dX11_advances_178 (by decide) ?_
            obtain ⟨rfl, rfl, rfl, rfl⟩ := pr4_inv hf
            exact retMv hx hb hr hlk hP hD hS dX11_advances_224
    · have hf := ite_f jc5 hf
      refine lv_aload_n hx hb dX11_advances_89 rfl (lv_at hl 0 rfl) ?_
      refine lv_aload_n hx hb dX11_advances_90 rfl (lv_at hl 0 rfl) ?_
      refine va_get (D := D) (ci := 11) (v := .int v_t_value) (C := RX11) (T := TX11) (N := 23) hx hb hts iX11_advances_X11 hown hK.1 hP 0 rfl rfl 6 (by decide) (hts _ mX11_advances_4) (fun _ h9 => h9) rfl dX11_advances_91 ?_
      refine lv_bipush (v := 99) hx hb dX11_advances_94 (by decide) ?_
      refine lv_icmp_le (tgt := 106) hx hb dX11_advances_96 (by decide) (fun jc9 => ?_) (fun jc9 => ?_)
      · have hf := ite_t jc9 hf
        refine lv_bipush (v := 10) hx hb dX11_advances_106 (by decide) ?_
        refine lv_aload_n hx hb dX11_advances_108 rfl (lv_at hl 0 rfl) ?_
        refine va_get (D := D) (ci := 11) (v := .int v_t_value) (C := RX11) (T := TX11) (N := 23) hx hb hts iX11_advances_X11 hown hK.1 hP 0 rfl rfl 6 (by decide) (hts _ mX11_advances_4) (fun _ h9 => h9) rfl dX11_advances_109 ?_
        refine lv_imul hx hb dX11_advances_112 ?_
        refine lv_aload_n hx hb dX11_advances_113 rfl (lv_at hl 0 rfl) ?_
        refine lv_aload_n hx hb dX11_advances_114 rfl (lv_at hl 0 rfl) ?_
        refine va_get (D := D) (ci := 11) (v := .int v_t_spot) (C := RX11) (T := TX11) (N := 23) hx hb hts iX11_advances_X11 hown hK.1 hP 0 rfl rfl 3 (by decide) (hts _ mX11_advances_1) (fun _ h9 => h9) rfl dX11_advances_115 ?_
        obtain ⟨jr10, je11, hf⟩ := bd1_inv hf
        refine callRV (As := [.int v_t_spot]) (rest := [.int ((10 : Int32) * v_t_value), .ref a_t]) S (ctX11_letterAt l D cI cZ a_t a_t_text a_t_draft a_t_s a_t_undos a_t_kept a_t_isKept a_t_seenWay a_t_seenIs a_t_sums a_t_parts a_t_heaps v_t_spot v_t_typed v_t_text v_t_thrown v_t_spot v_t_token v_t_place v_t_value v_t_fault v_t_copies v_t_draftCopies v_t_undoMany v_t_seenMany v_t_asked jr10 je11) (cwV 1 hts gX11_advances_X11_letterAt rfl rfl rfl ⟨rfl, hdX11_letterAt⟩ ⟨Nat.le_of_ble_eq_true rfl, Nat.le_of_ble_eq_true rfl⟩) hP [0, 1] rfl KX.xs (fun U _ hW => hK.warm hW) (va_recv hK.1 hP (ci := 11) (q0 := 0) rfl rfl) rfl hl.1 rfl (Nat.le_of_ble_eq_true rfl) dX11_advances_118 ⟨Nat.zero_le _, Nat.zero_le _⟩ ?_
        refine lv_iadd hx hb dX11_advances_121 ?_
        refine lv_bipush (v := 48) hx hb dX11_advances_122 (by decide) ?_
        refine lv_isub hx hb dX11_advances_124 ?_
        refine va_put (D := D) (ci := 11) (v := .int ((((10 : Int32) * v_t_value) + jr10) - (48 : Int32))) (ty := .int) (C := RX11) (T := TX11) (N := 23) hx hb hts iX11_advances_X11 tyX11 tyX11_ok nmX11 hown hK.1 hP hD hS 0 rfl rfl 6 (by decide) (hts _ mX11_advances_4) (fun _ h9 => h9) rfl (tyX11_ok 6 (by decide)) rfl rfl (Nat.le_of_ble_eq_true rfl) dX11_advances_125 (fun H locs hP hD hS => ?_)
        have hP : va_P D vwCl [(a_t, .inr (11, [.int v_t_thrown, .ref a_t_text, .int v_t_typed, .int v_t_spot, .int v_t_token, .int v_t_place, .int ((((10 : Int32) * v_t_value) + jr10) - (48 : Int32)), .int v_t_fault, .int v_t_copies, .int v_t_draftCopies, .ref a_t_draft, .ref a_t_s, .ref a_t_undos, .int v_t_undoMany, .ref a_t_kept, .ref a_t_isKept, .ref a_t_seenWay, .ref a_t_seenIs, .int v_t_seenMany, .int v_t_asked, .ref a_t_sums, .ref a_t_parts, .ref a_t_heaps])), (a_t_text, .inl (cI, 120, .inl v_t_text))] H := hP
        have hD : va_D A [(a_t, .inr (11, [.int v_t_thrown, .ref a_t_text, .int v_t_typed, .int v_t_spot, .int v_t_token, .int v_t_place, .int ((((10 : Int32) * v_t_value) + jr10) - (48 : Int32)), .int v_t_fault, .int v_t_copies, .int v_t_draftCopies, .ref a_t_draft, .ref a_t_s, .ref a_t_undos, .int v_t_undoMany, .ref a_t_kept, .ref a_t_isKept, .ref a_t_seenWay, .ref a_t_seenIs, .int v_t_seenMany, .int v_t_asked, .ref a_t_sums, .ref a_t_parts, .ref a_t_heaps])), (a_t_text, .inl (cI, 120, .inl v_t_text))] := hD
        refine lv_aload_n hx hb dX11_advances_128 rfl (lv_at hl 0 rfl) ?_
        refine lv_dup hx hb dX11_advances_129 rfl ?_
        refine va_get (D := D) (ci := 11) (v := .int v_t_spot) (C := RX11) (T := TX11) (N := 23) hx hb hts iX11_advances_X11 hown hK.1 hP 0 rfl rfl 3 (by decide) (hts _ mX11_advances_1) (fun _ h9 => h9) rfl dX11_advances_130 ?_
        refine lv_iconst (v := 1) hx hb dX11_advances_133 (by decide) ?_
        refine lv_iadd hx hb dX11_advances_134 ?_
        refine va_put (D := D) (ci := 11) (v := .int (v_t_spot + (1 : Int32))) (ty := .int) (C := RX11) (T := TX11) (N := 23) hx hb hts iX11_advances_X11 tyX11 tyX11_ok nmX11 hown hK.1 hP hD hS 0 rfl rfl 3 (by decide) (hts _ mX11_advances_1) (fun _ h9 => h9) rfl (tyX11_ok 3 (by decide)) rfl rfl (Nat.le_of_ble_eq_true rfl) dX11_advances_135 (fun H locs hP hD hS => ?_)
        have hP : va_P D vwCl [(a_t, .inr (11, [.int v_t_thrown, .ref a_t_text, .int v_t_typed, .int (v_t_spot + (1 : Int32)), .int v_t_token, .int v_t_place, .int ((((10 : Int32) * v_t_value) + jr10) - (48 : Int32)), .int v_t_fault, .int v_t_copies, .int v_t_draftCopies, .ref a_t_draft, .ref a_t_s, .ref a_t_undos, .int v_t_undoMany, .ref a_t_kept, .ref a_t_isKept, .ref a_t_seenWay, .ref a_t_seenIs, .int v_t_seenMany, .int v_t_asked, .ref a_t_sums, .ref a_t_parts, .ref a_t_heaps])), (a_t_text, .inl (cI, 120, .inl v_t_text))] H := hP
        have hD : va_D A [(a_t, .inr (11, [.int v_t_thrown, .ref a_t_text, .int v_t_typed, .int (v_t_spot + (1 : Int32)), .int v_t_token, .int v_t_place, .int ((((10 : Int32) * v_t_value) + jr10) - (48 : Int32)), .int v_t_fault, .int v_t_copies, .int v_t_draftCopies, .ref a_t_draft, .ref a_t_s, .ref a_t_undos, .int v_t_undoMany, .ref a_t_kept, .ref a_t_isKept, .ref a_t_seenWay, .ref a_t_seenIs, .int v_t_seenMany, .int v_t_asked, .ref a_t_sums, .ref a_t_parts, .ref a_t_heaps])), (a_t_text, .inl (cI, 120, .inl v_t_text))] := hD
        refine lv_goto (tgt := 71) hx hb dX11_advances_138 (by decide) ?_
        exact ih (v_t_spot + (1 : Int32)) v_t_token v_t_place ((((10 : Int32) * v_t_value) + jr10) - (48 : Int32)) ls _ _ hf (lv_sub hl [0, 1] rfl) hP hD hS
      · have hf := ite_f jc9 hf
        refine lv_aload_n hx hb dX11_advances_99 rfl (lv_at hl 0 rfl) ?_
        refine va_get (D := D) (ci := 11) (v := .int v_t_value) (C := RX11) (T := TX11) (N := 23) hx hb hts iX11_advances_X11 hown hK.1 hP 0 rfl rfl 6 (by decide) (hts _ mX11_advances_4) (fun _ h9 => h9) rfl dX11_advances_100 ?_
        refine lv_goto (tgt := 125) hx hb dX11_advances_103 (by decide) ?_
        refine va_put (D := D) (ci := 11) (v := .int v_t_value) (ty := .int) (C := RX11) (T := TX11) (N := 23) hx hb hts iX11_advances_X11 tyX11 tyX11_ok nmX11 hown hK.1 hP hD hS 0 rfl rfl 6 (by decide) (hts _ mX11_advances_4) (fun _ h9 => h9) rfl (tyX11_ok 6 (by decide)) rfl rfl (Nat.le_of_ble_eq_true rfl) dX11_advances_125 (fun H locs hP hD hS => ?_)
        have hP : va_P D vwCl [(a_t, .inr (11, [.int v_t_thrown, .ref a_t_text, .int v_t_typed, .int v_t_spot, .int v_t_token, .int v_t_place, .int v_t_value, .int v_t_fault, .int v_t_copies, .int v_t_draftCopies, .ref a_t_draft, .ref a_t_s, .ref a_t_undos, .int v_t_undoMany, .ref a_t_kept, .ref a_t_isKept, .ref a_t_seenWay, .ref a_t_seenIs, .int v_t_seenMany, .int v_t_asked, .ref a_t_sums, .ref a_t_parts, .ref a_t_heaps])), (a_t_text, .inl (cI, 120, .inl v_t_text))] H := hP
        have hD : va_D A [(a_t, .inr (11, [.int v_t_thrown, .ref a_t_text, .int v_t_typed, .int v_t_spot, .int v_t_token, .int v_t_place, .int v_t_value, .int v_t_fault, .int v_t_copies, .int v_t_draftCopies, .ref a_t_draft, .ref a_t_s, .ref a_t_undos, .int v_t_undoMany, .ref a_t_kept, .ref a_t_isKept, .ref a_t_seenWay, .ref a_t_seenIs, .int v_t_seenMany, .int v_t_asked, .ref a_t_sums, .ref a_t_parts, .ref a_t_heaps])), (a_t_text, .inl (cI, 120, .inl v_t_text))] := hD
        refine lv_aload_n hx hb dX11_advances_128 rfl (lv_at hl 0 rfl) ?_
        refine lv_dup hx hb dX11_advances_129 rfl ?_
        refine va_get (D := D) (ci := 11) (v := .int v_t_spot) (C := RX11) (T := TX11) (N := 23) hx hb hts iX11_advances_X11 hown hK.1 hP 0 rfl rfl 3 (by decide) (hts _ mX11_advances_1) (fun _ h9 => h9) rfl dX11_advances_130 ?_
        refine lv_iconst (v := 1) hx hb dX11_advances_133 (by decide) ?_
        refine lv_iadd hx hb dX11_advances_134 ?_
        refine va_put (D := D) (ci := 11) (v := .int (v_t_spot + (1 : Int32))) (ty := .int) (C := RX11) (T := TX11) (N := 23) hx hb hts iX11_advances_X11 tyX11 tyX11_ok nmX11 hown hK.1 hP hD hS 0 rfl rfl 3 (by decide) (hts _ mX11_advances_1) (fun _ h9 => h9) rfl (tyX11_ok 3 (by decide)) rfl rfl (Nat.le_of_ble_eq_true rfl) dX11_advances_135 (fun H locs hP hD hS => ?_)
        have hP : va_P D vwCl [(a_t, .inr (11, [.int v_t_thrown, .ref a_t_text, .int v_t_typed, .int (v_t_spot + (1 : Int32)), .int v_t_token, .int v_t_place, .int v_t_value, .int v_t_fault, .int v_t_copies, .int v_t_draftCopies, .ref a_t_draft, .ref a_t_s, .ref a_t_undos, .int v_t_undoMany, .ref a_t_kept, .ref a_t_isKept, .ref a_t_seenWay, .ref a_t_seenIs, .int v_t_seenMany, .int v_t_asked, .ref a_t_sums, .ref a_t_parts, .ref a_t_heaps])), (a_t_text, .inl (cI, 120, .inl v_t_text))] H := hP
        have hD : va_D A [(a_t, .inr (11, [.int v_t_thrown, .ref a_t_text, .int v_t_typed, .int (v_t_spot + (1 : Int32)), .int v_t_token, .int v_t_place, .int v_t_value, .int v_t_fault, .int v_t_copies, .int v_t_draftCopies, .ref a_t_draft, .ref a_t_s, .ref a_t_undos, .int v_t_undoMany, .ref a_t_kept, .ref a_t_isKept, .ref a_t_seenWay, .ref a_t_seenIs, .int v_t_seenMany, .int v_t_asked, .ref a_t_sums, .ref a_t_parts, .ref a_t_heaps])), (a_t_text, .inl (cI, 120, .inl v_t_text))] := hD
        refine lv_goto (tgt := 71) hx hb dX11_advances_138 (by decide) ?_
        exact ih (v_t_spot + (1 : Int32)) v_t_token v_t_place v_t_value ls _ _ hf (lv_sub hl [0, 1] rfl) hP hD hS
set_option maxHeartbeats 4000000 in
set_option maxRecDepth 100000 in
theorem wX11_advances_0 {p : Program} {l : Launch} {e : Env} {s : State} {m : MethodId} {args : Array Value} {below : List Frame} {meth : Method} {c : Code} {D : va_G} {cI cZ : ClassId} (S : CallFix p m c cX11_advances 2 s args wsX11_advances RX11) (hr : meth.sig.returnType = none) (hlk : meth.locks = false) (hK : KX D cI cZ s) {a_t a_t_text a_t_draft a_t_s a_t_undos a_t_kept a_t_isKept a_t_seenWay a_t_seenIs a_t_sums a_t_parts a_t_heaps : Nat} {v_t_typed : Int32} {v_t_text : (Nat → Int32)} {v_t_thrown : Int32} {v_t_fault : Int32} {v_t_copies : Int32} {v_t_draftCopies : Int32} {v_t_undoMany : Int32} {v_t_seenMany : Int32} {v_t_asked : Int32} {o_t_spot : Int32} {o_t_token : Int32} {o_t_place : Int32} {o_t_value : Int32} {A : Nat → Prop} (hA : ∀ q : Nat, s.heap.size ≤ q → A q) : ∀ (n : Nat), ∀ (v_t_spot : Int32) (v_t_token : Int32) (v_t_place : Int32) (v_t_value : Int32) (ls : Array Slot) (H : Heap) (locs : List Loc), fX11_advances_0 v_t_typed v_t_text n v_t_spot v_t_token v_t_place v_t_value = some (o_t_spot, o_t_token, o_t_place, o_t_value) → lv_has ls 2 [(0, .ref a_t)] → va_P D vwCl [(a_t, .inr (11, [.int v_t_thrown, .ref a_t_text, .int v_t_typed, .int v_t_spot, .int v_t_token, .int v_t_place, .int v_t_value, .int v_t_fault, .int v_t_copies, .int v_t_draftCopies, .ref a_t_draft, .ref a_t_s, .ref a_t_undos, .int v_t_undoMany, .ref a_t_kept, .ref a_t_isKept, .ref a_t_seenWay, .ref a_t_seenIs, .int v_t_seenMany, .int v_t_asked, .ref a_t_sums, .ref a_t_parts, .ref a_t_heaps])), (a_t_text, .inl (cI, 120, .inl v_t_text))] H → va_D A [(a_t, .inr (11, [.int v_t_thrown, .ref a_t_text, .int v_t_typed, .int v_t_spot, .int v_t_token, .int v_t_place, .int v_t_value, .int v_t_fault, .int v_t_copies, .int v_t_draftCopies, .ref a_t_draft, .ref a_t_s, .ref a_t_undos, .int v_t_undoMany, .ref a_t_kept, .ref a_t_isKept, .ref a_t_seenWay, .ref a_t_seenIs, .int v_t_seenMany, .int v_t_asked, .ref a_t_sums, .ref a_t_parts, .ref a_t_heaps])), (a_t_text, .inl (cI, 120, .inl v_t_text))] → va_S A s.heap H locs → W p l e rmX11_advances s m args below meth c H locs 0 0 (MQ below (qM D none [(a_t, .inr (11, [.int v_t_thrown, .ref a_t_text, .int v_t_typed, .int o_t_spot, .int o_t_token, .int o_t_place, .int o_t_value, .int v_t_fault, .int v_t_copies, .int v_t_draftCopies, .ref a_t_draft, .ref a_t_s, .ref a_t_undos, .int v_t_undoMany, .ref a_t_kept, .ref a_t_isKept, .ref a_t_seenWay, .ref a_t_seenIs, .int v_t_seenMany, .int v_t_asked, .ref a_t_sums, .ref a_t_parts, .ref a_t_heaps])), (a_t_text, .inl (cI, 120, .inl v_t_text))] A) args s 0 0 A) (F0 m 0 ls []) := by
  obtain ⟨hx, hb, hml, hown, hts⟩ := id S
  intro n
  induction n with
  | zero =>
    intro v_t_spot v_t_token v_t_place v_t_value ls H locs hf hl hP hD hS
    cases (show (none : Option _) = some _ from hf)
  | succ n ih =>
    intro v_t_spot v_t_token v_t_place v_t_value ls H locs hf hl hP hD hS
    have hf := (fX11_advances_0_s _ _ n _ _ _ _).symm.trans hf
    refine lv_aload_n hx hb dX11_advances_0 rfl (lv_at hl 0 rfl) ?_
    refine lv_aload_n hx hb dX11_advances_1 rfl (lv_at hl 0 rfl) ?_
    refine va_get (D := D) (ci := 11) (v := .int v_t_spot) (C := RX11) (T := TX11) (N := 23) hx hb hts iX11_advances_X11 hown hK.1 hP 0 rfl rfl 3 (by decide) (hts _ mX11_advances_1) (fun _ h9 => h9) rfl dX11_advances_2 ?_
    obtain ⟨jr1, je2, hf⟩ := bd1_inv hf
    refine callRV (As := [.int v_t_spot]) (rest := []) S (ctX11_letterAt l D cI cZ a_t a_t_text a_t_draft a_t_s a_t_undos a_t_kept a_t_isKept a_t_seenWay a_t_seenIs a_t_sums a_t_parts a_t_heaps v_t_spot v_t_typed v_t_text v_t_thrown v_t_spot v_t_token v_t_place v_t_value v_t_fault v_t_copies v_t_draftCopies v_t_undoMany v_t_seenMany v_t_asked jr1 je2) (cwV 1 hts gX11_advances_X11_letterAt rfl rfl rfl ⟨rfl, hdX11_letterAt⟩ ⟨Nat.le_of_ble_eq_true rfl, Nat.le_of_ble_eq_true rfl⟩) hP [0, 1] rfl KX.xs (fun U _ hW => hK.warm hW) (va_recv hK.1 hP (ci := 11) (q0 := 0) rfl rfl) rfl hl.1 rfl (Nat.le_of_ble_eq_true rfl) dX11_advances_5 ⟨Nat.zero_le _, Nat.zero_le _⟩ ?_
    refine lv_bipush (v := 32) hx hb dX11_advances_8 (by decide) ?_
    refine lv_icmp_ne (tgt := 26) hx hb dX11_advances_10 (by decide) (fun jc3 => ?_) (fun jc3 => ?_)
    · have hf := ite_f jc3 hf
      refine lv_aload_n hx hb dX11_advances_26 rfl (lv_at hl 0 rfl) ?_
      refine lv_aload_n hx hb dX11_advances_27 rfl (lv_at hl 0 rfl) ?_
      refine va_get (D := D) (ci := 11) (v := .int v_t_spot) (C := RX11) (T := TX11) (N := 23) hx hb hts iX11_advances_X11 hown hK.1 hP 0 rfl rfl 3 (by decide) (hts _ mX11_advances_1) (fun _ h9 => h9) rfl dX11_advances_28 ?_
      refine va_put (D := D) (ci := 11) (v := .int v_t_spot) (ty := .int) (C := RX11) (T := TX11) (N := 23) hx hb hts iX11_advances_X11 tyX11 tyX11_ok nmX11 hown hK.1 hP hD hS 0 rfl rfl 5 (by decide) (hts _ mX11_advances_2) (fun _ h9 => h9) rfl (tyX11_ok 5 (by decide)) rfl rfl (Nat.le_of_ble_eq_true rfl) dX11_advances_31 (fun H locs hP hD hS => ?_)
      have hP : va_P D vwCl [(a_t, .inr (11, [.int v_t_thrown, .ref a_t_text, .int v_t_typed, .int v_t_spot, .int v_t_token, .int v_t_spot, .int v_t_value, .int v_t_fault, .int v_t_copies, .int v_t_draftCopies, .ref a_t_draft, .ref a_t_s, .ref a_t_undos, .int v_t_undoMany, .ref a_t_kept, .ref a_t_isKept, .ref a_t_seenWay, .ref a_t_seenIs, .int v_t_seenMany, .int v_t_asked, .ref a_t_sums, .ref a_t_parts, .ref a_t_heaps])), (a_t_text, .inl (cI, 120, .inl v_t_text))] H := hP
      have hD : va_D A [(a_t, .inr (11, [.int v_t_thrown, .ref a_t_text, .int v_t_typed, .int v_t_spot, .int v_t_token, .int v_t_spot, .int v_t_value, .int v_t_fault, .int v_t_copies, .int v_t_draftCopies, .ref a_t_draft, .ref a_t_s, .ref a_t_undos, .int v_t_undoMany, .ref a_t_kept, .ref a_t_isKept, .ref a_t_seenWay, .ref a_t_seenIs, .int v_t_seenMany, .int v_t_asked, .ref a_t_sums, .ref a_t_parts, .ref a_t_heaps])), (a_t_text, .inl (cI, 120, .inl v_t_text))] := hD
      refine lv_aload_n hx hb dX11_advances_34 rfl (lv_at hl 0 rfl) ?_
      refine lv_aload_n hx hb dX11_advances_35 rfl (lv_at hl 0 rfl) ?_
      refine va_get (D := D) (ci := 11) (v := .int v_t_spot) (C := RX11) (T := TX11) (N := 23) hx hb hts iX11_advances_X11 hown hK.1 hP 0 rfl rfl 3 (by decide) (hts _ mX11_advances_1) (fun _ h9 => h9) rfl dX11_advances_36 ?_
      obtain ⟨jr4, je5, hf⟩ := bd1_inv hf
      refine callRV (As := [.int v_t_spot]) (rest := []) S (ctX11_letterAt l D cI cZ a_t a_t_text a_t_draft a_t_s a_t_undos a_t_kept a_t_isKept a_t_seenWay a_t_seenIs a_t_sums a_t_parts a_t_heaps v_t_spot v_t_typed v_t_text v_t_thrown v_t_spot v_t_token v_t_spot v_t_value v_t_fault v_t_copies v_t_draftCopies v_t_undoMany v_t_seenMany v_t_asked jr4 je5) (cwV 1 hts gX11_advances_X11_letterAt rfl rfl rfl ⟨rfl, hdX11_letterAt⟩ ⟨Nat.le_of_ble_eq_true rfl, Nat.le_of_ble_eq_true rfl⟩) hP [0, 1] rfl KX.xs (fun U _ hW => hK.warm hW) (va_recv hK.1 hP (ci := 11) (q0 := 0) rfl rfl) rfl hl.1 rfl (Nat.le_of_ble_eq_true rfl) dX11_advances_39 ⟨Nat.zero_le _, Nat.zero_le _⟩ ?_
      refine lv_istore_n (lv' := [(1, .int jr4), (0, .ref a_t)]) hx hb dX11_advances_42 rfl hl (by decide) rfl (fun ls hl => ?_)
      refine lv_iload_n hx hb dX11_advances_43 rfl (lv_at hl 0 rfl) ?_
      refine lv_if_ge (tgt := 55) hx hb dX11_advances_44 (by decide) (fun jc6 => ?_) (fun jc6 => ?_)
      · have hf := ite_t jc6 hf
        refine lv_iload_n hx hb dX11_advances_55 rfl (lv_at hl 0 rfl) ?_
        refine lv_bipush (v := 48) hx hb dX11_advances_56 (by decide) ?_
        refine lv_bipush (v := 57) hx hb dX11_advances_58 (by decide) ?_
        obtain ⟨jr7, je8, hf⟩ := bd1_inv hf
        refine callRS (As := [.int jr4, .int (48 : Int32), .int (57 : Int32)]) (rest := []) S (ctX11_in l D cI cZ jr4 (48 : Int32) (57 : Int32) jr7 je8) (va_cwS 3 hts gX11_advances_X11_in rfl rfl rfl hdX11_in ⟨Nat.le_of_ble_eq_true rfl, Nat.le_of_ble_eq_true rfl⟩) hP [] rfl KX.xs (fun U _ hW => hK.warm hW) rfl hl.1 rfl (Nat.le_of_ble_eq_true rfl) dX11_advances_60 ⟨Nat.zero_le _, Nat.zero_le _⟩ ?_
        refine lv_if_eq (tgt := 181) hx hb dX11_advances_63 (by decide) (fun jc9 => ?_) (fun jc9 => ?_)
        · have hf := ite_t jc9 hf
          refine lv_iload_n hx hb dX11_advances_181 rfl (lv_at hl 0 rfl) ?_
          refine lv_bipush (v := 97) hx hb dX11_advances_182 (by decide) ?_
          refine lv_bipush (v := 122) hx hb dX11_advances_184 (by decide) ?_
          obtain ⟨jr10, je11, hf⟩ := bd1_inv hf
          refine callRS (As := [.int jr4, .int (97 : Int32), .int (122 : Int32)]) (rest := []) S (ctX11_in l D cI cZ jr4 (97 : Int32) (122 : Int32) jr10 je11) (va_cwS 3 hts gX11_advances_X11_in rfl rfl rfl hdX11_in ⟨Nat.le_of_ble_eq_true rfl, Nat.le_of_ble_eq_true rfl⟩) hP [] rfl KX.xs (fun U _ hW => hK.warm hW) rfl hl.1 rfl (Nat.le_of_ble_eq_true rfl) dX11_advances_186 ⟨Nat.zero_le _, Nat.zero_le _⟩ ?_
          refine lv_if_eq (tgt := 199) hx hb dX11_advances_189 (by decide) (fun jc12 => ?_) (fun jc12 => ?_)
          · have hf := ite_t jc12 hf
            refine lv_aload_n hx hb dX11_advances_199 rfl (lv_at hl 1 rfl) ?_
            refine lv_dup hx hb dX11_advances_200 rfl ?_
            refine va_get (D := D) (ci := 11) (v := .int v_t_spot) (C := RX11) (T := TX11) (N := 23) hx hb hts iX11_advances_X11 hown hK.1 hP 0 rfl rfl 3 (by decide) (hts _ mX11_advances_1) (fun _ h9 => h9) rfl dX11_advances_201 ?_
            refine lv_iconst (v := 1) hx hb dX11_advances_204 (by decide) ?_
            refine lv_iadd hx hb dX11_advances_205 ?_
            refine va_put (D := D) (ci := 11) (v := .int (v_t_spot + (1 : Int32))) (ty := .int) (C := RX11) (T := TX11) (N := 23) hx hb hts iX11_advances_X11 tyX11 tyX11_ok nmX11 hown hK.1 hP hD hS 0 rfl rfl 3 (by decide) (hts _ mX11_advances_1) (fun _ h9 => h9) rfl (tyX11_ok 3 (by decide)) rfl rfl (Nat.le_of_ble_eq_true rfl) dX11_advances_206 (fun H locs hP hD hS => ?_)
            have hP : va_P D vwCl [(a_t, .inr (11, [.int v_t_thrown, .ref a_t_text, .int v_t_typed, .int (v_t_spot + (1 : Int32)), .int v_t_token, .int v_t_spot, .int v_t_value, .int v_t_fault, .int v_t_copies, .int v_t_draftCopies, .ref a_t_draft, .ref a_t_s, .ref a_t_undos, .int v_t_undoMany, .ref a_t_kept, .ref a_t_isKept, .ref a_t_seenWay, .ref a_t_seenIs, .int v_t_seenMany, .int v_t_asked, .ref a_t_sums, .ref a_t_parts, .ref a_t_heaps])), (a_t_text, .inl (cI, 120, .inl v_t_text))] H := hP
            have hD : va_D A [(a_t, .inr (11, [.int v_t_thrown, .ref a_t_text, .int v_t_typed, .int (v_t_spot + (1 : Int32)), .int v_t_token, .int v_t_spot, .int v_t_value, .int v_t_fault, .int v_t_copies, .int v_t_draftCopies, .ref a_t_draft, .ref a_t_s, .ref a_t_undos, .int v_t_undoMany, .ref a_t_kept, .ref a_t_isKept, .ref a_t_seenWay, .ref a_t_seenIs, .int v_t_seenMany, .int v_t_asked, .ref a_t_sums, .ref a_t_parts, .ref a_t_heaps])), (a_t_text, .inl (cI, 120, .inl v_t_text))] := hD
            refine lv_aload_n hx hb dX11_advances_209 rfl (lv_at hl 1 rfl) ?_
            refine lv_iload_n hx hb dX11_advances_210 rfl (lv_at hl 0 rfl) ?_
            refine lv_bipush (v := 59) hx hb dX11_advances_211 (by decide) ?_
            refine lv_icmp_ne (tgt := 220) hx hb dX11_advances_213 (by decide) (fun jc13 => ?_) (fun jc13 => ?_)
            · have hf := ite_f jc13 hf
              refine lv_iconst (v := 4) hx hb dX11_advances_220 (by decide) ?_
              refine va_put (D := D) (ci := 11) (v := .int (4 : Int32)) (ty := .int) (C := RX11) (T := TX11) (N := 23) hx hb hts iX11_advances_X11 tyX11 tyX11_ok nmX11 hown hK.1 hP hD hS 0 rfl rfl 4 (by decide) (hts _ mX11_advances_3) (fun _ h9 => h9) rfl (tyX11_ok 4 (by decide)) rfl rfl (Nat.le_of_ble_eq_true rfl) dX11_advances_221 (fun H locs hP hD hS => ?_)
              have hP : va_P D vwCl [(a_t, .inr (11, [.int v_t_thrown, .ref a_t_text, .int v_t_typed, .int (v_t_spot + (1 : Int32)), .int (4 : Int32), .int v_t_spot, .int v_t_value, .int v_t_fault, .int v_t_copies, .int v_t_draftCopies, .ref a_t_draft, .ref a_t_s, .ref a_t_undos, .int v_t_undoMany, .ref a_t_kept, .ref a_t_isKept, .ref a_t_seenWay, .ref a_t_seenIs, .int v_t_seenMany, .int v_t_asked, .ref a_t_sums, .ref a_t_parts, .ref a_t_heaps])), (a_t_text, .inl (cI, 120, .inl v_t_text))] H := hP
              have hD : va_D A [(a_t, .inr (11, [.int v_t_thrown, .ref a_t_text, .int v_t_typed, .int (v_t_spot + (1 : Int32)), .int (4 : Int32), .int v_t_spot, .int v_t_value, .int v_t_fault, .int v_t_copies, .int v_t_draftCopies, .ref a_t_draft, .ref a_t_s, .ref a_t_undos, .int v_t_undoMany, .ref a_t_kept, .ref a_t_isKept, .ref a_t_seenWay, .ref a_t_seenIs, .int v_t_seenMany, .int v_t_asked, .ref a_t_sums, .ref a_t_parts, .ref a_t_heaps])), (a_t_text, .inl (cI, 120, .inl v_t_text))] := hD
              obtain ⟨rfl, rfl, rfl, rfl⟩ := pr4_inv hf
              exact retMv hx hb hr hlk hP hD hS dX11_advances_224
            · have hf := ite_t jc13 hf
              refine lv_iconst (v := 3) hx hb dX11_advances_216 (by decide) ?_
              refine lv_goto (tgt := 221) hx hb dX11_advances_217 (by decide) ?_
              refine va_put (D := D) (ci := 11) (v := .int (3 : Int32)) (ty := .int) (C := RX11) (T := TX11) (N := 23) hx hb hts iX11_advances_X11 tyX11 tyX11_ok nmX11 hown hK.1 hP hD hS 0 rfl rfl 4 (by decide) (hts _ mX11_advances_3) (fun _ h9 => h9) rfl (tyX11_ok 4 (by decide)) rfl rfl (Nat.le_of_ble_eq_true rfl) dX11_advances_221 (fun H locs hP hD hS => ?_)
              have hP : va_P D vwCl [(a_t, .inr (11, [.int v_t_thrown, .ref a_t_text, .int v_t_typed, .int (v_t_spot + (1 : Int32)), .int (3 : Int32), .int v_t_spot, .int v_t_value, .int v_t_fault, .int v_t_copies, .int v_t_draftCopies, .ref a_t_draft, .ref a_t_s, .ref a_t_undos, .int v_t_undoMany, .ref a_t_kept, .ref a_t_isKept, .ref a_t_seenWay, .ref a_t_seenIs, .int v_t_seenMany, .int v_t_asked, .ref a_t_sums, .ref a_t_parts, .ref a_t_heaps])), (a_t_text, .inl (cI, 120, .inl v_t_text))] H := hP
              have hD : va_D A [(a_t, .inr (11, [.int v_t_thrown, .ref a_t_text, .int v_t_typed, .int (v_t_spot + (1 : Int32)), .int (3 : Int32), .int v_t_spot, .int v_t_value, .int v_t_fault, .int v_t_copies, .int v_t_draftCopies, .ref a_t_draft, .ref a_t_s, .ref a_t_undos, .int v_t_undoMany, .ref a_t_kept, .ref a_t_isKept, .ref a_t_seenWay, .ref a_t_seenIs, .int v_t_seenMany, .int v_t_asked, .ref a_t_sums, .ref a_t_parts, .ref a_t_heaps])), (a_t_text, .inl (cI, 120, .inl v_t_text))] := hD
              obtain ⟨rfl, rfl, rfl, rfl⟩ := pr4_inv hf
              exact retMv hx hb hr hlk hP hD hS dX11_advances_224
          · have hf := ite_f jc12 hf
            refine lv_aload_n hx hb dX11_advances_192 rfl (lv_at hl 1 rfl) ?_
            obtain ⟨jg14, jg15, jg16, je17, hf⟩ := bd3_inv hf
            refine callMV (As := []) (rest := []) (wr := []) (wn := [(a_t, .inr (11, [.int v_t_thrown, .ref a_t_text, .int v_t_typed, .int jg14, .int jg15, .int v_t_spot, .int jg16, .int v_t_fault, .int v_t_copies, .int v_t_draftCopies, .ref a_t_draft, .ref a_t_s, .ref a_t_undos, .int v_t_undoMany, .ref a_t_kept, .ref a_t_isKept, .ref a_t_seenWay, .ref a_t_seenIs, .int v_t_seenMany, .int v_t_asked, .ref a_t_sums, .ref a_t_parts, .ref a_t_heaps])), (a_t_text, .inl (cI, 120, .inl v_t_text))]) S (ctX11_reads l D cI cZ a_t a_t_text a_t_draft a_t_s a_t_undos a_t_kept a_t_isKept a_t_seenWay a_t_seenIs a_t_sums a_t_parts a_t_heaps v_t_typed v_t_spot v_t_token v_t_spot v_t_value v_t_text v_t_thrown v_t_fault v_t_copies v_t_draftCopies v_t_undoMany v_t_seenMany v_t_asked jg14 jg15 jg16 je17) (cwV 0 hts gX11_advances_X11_reads rfl rfl rfl ⟨rfl, hdX11_reads⟩ ⟨Nat.le_of_ble_eq_true rfl, Nat.le_of_ble_eq_true rfl⟩) hP hD hS hA [0, 1] [] [0, 1] rfl rfl (by decide) (by decide) (by decide) (by decide) rfl KX.xs (fun U _ hW => hK.warm hW) (va_recv hK.1 hP (ci := 11) (q0 := 0) rfl rfl) rfl hl.1 rfl (Nat.le_of_ble_eq_true rfl) dX11_advances_193 ⟨Nat.zero_le _, Nat.zero_le _⟩ (fun H locs hP hD hS => ?_)
            refine W.eq (g2 := F0 m 196 ls []) rfl ?_
            refine lv_goto (tgt := 224) hx hb dX11_advances_196 (by decide) ?_
            obtain ⟨rfl, rfl, rfl, rfl⟩ := pr4_inv hf
            exact retMv hx hb hr hlk hP hD hS dX11_advances_224
        · have hf := ite_f jc9 hf
          refine lv_aload_n hx hb dX11_advances_66 rfl (lv_at hl 1 rfl) ?_
          refine lv_iconst (v := 0) hx hb dX11_advances_67 (by decide) ?_
          refine va_put (D := D) (ci := 11) (v := .int (0 : Int32)) (ty := .int) (C := RX11) (T := TX11) (N := 23) hx hb hts iX11_advances_X11 tyX11 tyX11_ok nmX11 hown hK.1 hP hD hS 0 rfl rfl 6 (by decide) (hts _ mX11_advances_4) (fun _ h9 => h9) rfl (tyX11_ok 6 (by decide)) rfl rfl (Nat.le_of_ble_eq_true rfl) dX11_advances_68 (fun H locs hP hD hS => ?_)
          have hP : va_P D vwCl [(a_t, .inr (11, [.int v_t_thrown, .ref a_t_text, .int v_t_typed, .int v_t_spot, .int v_t_token, .int v_t_spot, .int (0 : Int32), .int v_t_fault, .int v_t_copies, .int v_t_draftCopies, .ref a_t_draft, .ref a_t_s, .ref a_t_undos, .int v_t_undoMany, .ref a_t_kept, .ref a_t_isKept, .ref a_t_seenWay, .ref a_t_seenIs, .int v_t_seenMany, .int v_t_asked, .ref a_t_sums, .ref a_t_parts, .ref a_t_heaps])), (a_t_text, .inl (cI, 120, .inl v_t_text))] H := hP
          have hD : va_D A [(a_t, .inr (11, [.int v_t_thrown, .ref a_t_text, .int v_t_typed, .int v_t_spot, .int v_t_token, .int v_t_spot, .int (0 : Int32), .int v_t_fault, .int v_t_copies, .int v_t_draftCopies, .ref a_t_draft, .ref a_t_s, .ref a_t_undos, .int v_t_undoMany, .ref a_t_kept, .ref a_t_isKept, .ref a_t_seenWay, .ref a_t_seenIs, .int v_t_seenMany, .int v_t_asked, .ref a_t_sums, .ref a_t_parts, .ref a_t_heaps])), (a_t_text, .inl (cI, 120, .inl v_t_text))] := hD
          exact wX11_advances_71 S hr hlk hK hA fuel v_t_spot v_t_token v_t_spot (0 : Int32) ls _ _ hf (lv_sub hl [1, 0] rfl) hP hD hS
      · have hf := ite_f jc6 hf
        refine lv_aload_n hx hb dX11_advances_47 rfl (lv_at hl 1 rfl) ?_
        refine lv_iconst (v := 0) hx hb dX11_advances_48 (by decide) ?_
        refine va_put (D := D) (ci := 11) (v := .int (0 : Int32)) (ty := .int) (C := RX11) (T := TX11) (N := 23) hx hb hts iX11_advances_X11 tyX11 tyX11_ok nmX11 hown hK.1 hP hD hS 0 rfl rfl 4 (by decide) (hts _ mX11_advances_3) (fun _ h9 => h9) rfl (tyX11_ok 4 (by decide)) rfl rfl (Nat.le_of_ble_eq_true rfl) dX11_advances_49 (fun H locs hP hD hS => ?_)
        have hP : va_P D vwCl [(a_t, .inr (11, [.int v_t_thrown, .ref a_t_text, .int v_t_typed, .int v_t_spot, .int (0 : Int32), .int v_t_spot, .int v_t_value, .int v_t_fault, .int v_t_copies, .int v_t_draftCopies, .ref a_t_draft, .ref a_t_s, .ref a_t_undos, .int v_t_undoMany, .ref a_t_kept, .ref a_t_isKept, .ref a_t_seenWay, .ref a_t_seenIs, .int v_t_seenMany, .int v_t_asked, .ref a_t_sums, .ref a_t_parts, .ref a_t_heaps])), (a_t_text, .inl (cI, 120, .inl v_t_text))] H := hP
        have hD : va_D A [(a_t, .inr (11, [.int v_t_thrown, .ref a_t_text, .int v_t_typed, .int v_t_spot, .int (0 : Int32), .int v_t_spot, .int v_t_value, .int v_t_fault, .int v_t_copies, .int v_t_draftCopies, .ref a_t_draft, .ref a_t_s, .ref a_t_undos, .int v_t_undoMany, .ref a_t_kept, .ref a_t_isKept, .ref a_t_seenWay, .ref a_t_seenIs, .int v_t_seenMany, .int v_t_asked, .ref a_t_sums, .ref a_t_parts, .ref a_t_heaps])), (a_t_text, .inl (cI, 120, .inl v_t_text))] := hD
        refine lv_goto (tgt := 224) hx hb dX11_advances_52 (by decide) ?_
        obtain ⟨rfl, rfl, rfl, rfl⟩ := pr4_inv hf
        exact retMv hx hb hr hlk hP hD hS dX11_advances_224
    · have hf := ite_t jc3 hf
      refine lv_aload_n hx hb dX11_advances_13 rfl (lv_at hl 0 rfl) ?_
      refine lv_dup hx hb dX11_advances_14 rfl ?_
      refine va_get (D := D) (ci := 11) (v := .int v_t_spot) (C := RX11) (T := TX11) (N := 23) hx hb hts iX11_advances_X11 hown hK.1 hP 0 rfl rfl 3 (by decide) (hts _ mX11_advances_1) (fun _ h9 => h9) rfl dX11_advances_15 ?_
      refine lv_iconst (v := 1) hx hb dX11_advances_18 (by decide) ?_
      refine lv_iadd hx hb dX11_advances_19 ?_
      refine va_put (D := D) (ci := 11) (v := .int (v_t_spot + (1 : Int32))) (ty := .int) (C := RX11) (T := TX11) (N := 23) hx hb hts iX11_advances_X11 tyX11 tyX11_ok nmX11 hown hK.1 hP hD hS 0 rfl rfl 3 (by decide) (hts _ mX11_advances_1) (fun _ h9 => h9) rfl (tyX11_ok 3 (by decide)) rfl rfl (Nat.le_of_ble_eq_true rfl) dX11_advances_20 (fun H locs hP hD hS => ?_)
      have hP : va_P D vwCl [(a_t, .inr (11, [.int v_t_thrown, .ref a_t_text, .int v_t_typed, .int (v_t_spot + (1 : Int32)), .int v_t_token, .int v_t_place, .int v_t_value, .int v_t_fault, .int v_t_copies, .int v_t_draftCopies, .ref a_t_draft, .ref a_t_s, .ref a_t_undos, .int v_t_undoMany, .ref a_t_kept, .ref a_t_isKept, .ref a_t_seenWay, .ref a_t_seenIs, .int v_t_seenMany, .int v_t_asked, .ref a_t_sums, .ref a_t_parts, .ref a_t_heaps])), (a_t_text, .inl (cI, 120, .inl v_t_text))] H := hP
      have hD : va_D A [(a_t, .inr (11, [.int v_t_thrown, .ref a_t_text, .int v_t_typed, .int (v_t_spot + (1 : Int32)), .int v_t_token, .int v_t_place, .int v_t_value, .int v_t_fault, .int v_t_copies, .int v_t_draftCopies, .ref a_t_draft, .ref a_t_s, .ref a_t_undos, .int v_t_undoMany, .ref a_t_kept, .ref a_t_isKept, .ref a_t_seenWay, .ref a_t_seenIs, .int v_t_seenMany, .int v_t_asked, .ref a_t_sums, .ref a_t_parts, .ref a_t_heaps])), (a_t_text, .inl (cI, 120, .inl v_t_text))] := hD
      refine lv_goto (tgt := 0) hx hb dX11_advances_23 (by decide) ?_
      exact ih (v_t_spot + (1 : Int32)) v_t_token v_t_place v_t_value ls _ _ hf (lv_sub hl [0] rfl) hP hD hS
theorem hdX11_advances : yX11_advances.cls ≠ "java/lang/invoke/MethodHandle" ∧ yX11_advances.cls ≠ "java/lang/invoke/VarHandle" ∧ (parseMethodDescriptor yX11_advances.desc).map (fun d => d.parameters.length) = some 0 := by decide +kernel
set_option maxHeartbeats 4000000 in
set_option maxRecDepth 100000 in
theorem ctX11_advances (l : Launch) (D : va_G) (cI cZ : ClassId) (a_t a_t_text a_t_draft a_t_s a_t_undos a_t_kept a_t_isKept a_t_seenWay a_t_seenIs a_t_sums a_t_parts a_t_heaps : Nat) (v_t_typed : Int32) (v_t_spot : Int32) (v_t_token : Int32) (v_t_place : Int32) (v_t_value : Int32) (v_t_text : (Nat → Int32)) (v_t_thrown : Int32) (v_t_fault : Int32) (v_t_copies : Int32) (v_t_draftCopies : Int32) (v_t_undoMany : Int32) (v_t_seenMany : Int32) (v_t_asked : Int32) (o_t_spot : Int32) (o_t_token : Int32) (o_t_place : Int32) (o_t_value : Int32) (hf : fX11_advances v_t_typed v_t_spot v_t_token v_t_place v_t_value v_t_text = some (o_t_spot, o_t_token, o_t_place, o_t_value)) : cM l yX11_advances wsX11_advances rmX11_advances [.ref a_t] D [(a_t, .inr (11, [.int v_t_thrown, .ref a_t_text, .int v_t_typed, .int v_t_spot, .int v_t_token, .int v_t_place, .int v_t_value, .int v_t_fault, .int v_t_copies, .int v_t_draftCopies, .ref a_t_draft, .ref a_t_s, .ref a_t_undos, .int v_t_undoMany, .ref a_t_kept, .ref a_t_isKept, .ref a_t_seenWay, .ref a_t_seenIs, .int v_t_seenMany, .int v_t_asked, .ref a_t_sums, .ref a_t_parts, .ref a_t_heaps])), (a_t_text, .inl (cI, 120, .inl v_t_text))] [(a_t, .inr (11, [.int v_t_thrown, .ref a_t_text, .int v_t_typed, .int o_t_spot, .int o_t_token, .int o_t_place, .int o_t_value, .int v_t_fault, .int v_t_copies, .int v_t_draftCopies, .ref a_t_draft, .ref a_t_s, .ref a_t_undos, .int v_t_undoMany, .ref a_t_kept, .ref a_t_isKept, .ref a_t_seenWay, .ref a_t_seenIs, .int v_t_seenMany, .int v_t_asked, .ref a_t_sums, .ref a_t_parts, .ref a_t_heaps])), (a_t_text, .inl (cI, 120, .inl v_t_text))] (KX D cI cZ) none := by
  refine cM_of (cc := cX11_advances) (maxL := 2) (ret := none) (by decide +kernel) rfl _ (Nat.le_of_ble_eq_true rfl) ?_
  intro p e s m below meth c ls A S hr hlk hP hK hl hD hA hS
  obtain ⟨hx, hb, hml, hown, hts⟩ := id S
  have hl : lv_has ls 2 [(0, .ref a_t)] := hl
  unfold fX11_advances at hf
  exact wX11_advances_0 S hr hlk hK hA fuel v_t_spot v_t_token v_t_place v_t_value ls _ _ hf (lv_sub hl [0] rfl) hP hD hS
def fX11_isWell (v_t_fault : Int32) : Option (Int32) := if 0 ≤ v_t_fault then some (0 : Int32) else some (1 : Int32)
abbrev rmX11_isWell : Room := { frames := 0, cells := 0, slots := 0, locals := 0 }
theorem iX11_isWell_X11 : ∀ w ∈ wsX110, w ∈ wsX11_isWell := fun _ h => List.mem_cons_of_mem _ (List.mem_append_right _ h)
theorem mX11_isWell_1 : (Cond.fieldLink RX11 84 "VoteFilesModel" "fault" "I") ∈ wsX11_isWell := List.mem_of_getElem? (i := 1) rfl
theorem hdX11_isWell : yX11_isWell.cls ≠ "java/lang/invoke/MethodHandle" ∧ yX11_isWell.cls ≠ "java/lang/invoke/VarHandle" ∧ (parseMethodDescriptor yX11_isWell.desc).map (fun d => d.parameters.length) = some 0 := by decide +kernel
set_option maxHeartbeats 4000000 in
set_option maxRecDepth 100000 in
theorem ctX11_isWell (l : Launch) (D : va_G) (cI cZ : ClassId) (a_t a_t_text a_t_draft a_t_s a_t_undos a_t_kept a_t_isKept a_t_seenWay a_t_seenIs a_t_sums a_t_parts a_t_heaps : Nat) (v_t_fault : Int32) (v_t_thrown : Int32) (v_t_typed : Int32) (v_t_spot : Int32) (v_t_token : Int32) (v_t_place : Int32) (v_t_value : Int32) (v_t_copies : Int32) (v_t_draftCopies : Int32) (v_t_undoMany : Int32) (v_t_seenMany : Int32) (v_t_asked : Int32) (r : Int32) (hf : fX11_isWell v_t_fault = some r) : cR l yX11_isWell wsX11_isWell rmX11_isWell [.ref a_t] D [(a_t, .inr (11, [.int v_t_thrown, .ref a_t_text, .int v_t_typed, .int v_t_spot, .int v_t_token, .int v_t_place, .int v_t_value, .int v_t_fault, .int v_t_copies, .int v_t_draftCopies, .ref a_t_draft, .ref a_t_s, .ref a_t_undos, .int v_t_undoMany, .ref a_t_kept, .ref a_t_isKept, .ref a_t_seenWay, .ref a_t_seenIs, .int v_t_seenMany, .int v_t_asked, .ref a_t_sums, .ref a_t_parts, .ref a_t_heaps]))] (KX D cI cZ) r := by
  refine cR_of (cc := cX11_isWell) (maxL := 1) (ret := some .boolean) (by decide +kernel) rfl _ (Nat.le_of_ble_eq_true rfl) ?_
  intro p e s m below meth c ls S hr hlk hP hK hl
  obtain ⟨hx, hb, hml, hown, hts⟩ := id S
  have hl : lv_has ls 1 [(0, .ref a_t)] := hl
  unfold fX11_isWell at hf
  refine lv_aload_n hx hb dX11_isWell_0 rfl (lv_at hl 0 rfl) ?_
  refine va_get (D := D) (ci := 11) (v := .int v_t_fault) (C := RX11) (T := TX11) (N := 23) hx hb hts iX11_isWell_X11 hown hK.1 hP 0 rfl rfl 7 (by decide) (hts _ mX11_isWell_1) (fun _ h9 => h9) rfl dX11_isWell_1 ?_
  refine lv_if_ge (tgt := 11) hx hb dX11_isWell_4 (by decide) (fun jc1 => ?_) (fun jc1 => ?_)
  · have hf := ite_t jc1 hf
    refine lv_iconst (v := 0) hx hb dX11_isWell_11 (by decide) ?_
    obtain rfl := Option.some.inj hf
    exact retRz hx hb hr hlk (by decide) dX11_isWell_12
  · have hf := ite_f jc1 hf
    refine lv_iconst (v := 1) hx hb dX11_isWell_7 (by decide) ?_
    refine lv_goto (tgt := 12) hx hb dX11_isWell_8 (by decide) ?_
    obtain rfl := Option.some.inj hf
    exact retRz hx hb hr hlk (by decide) dX11_isWell_12
def fX11_takes (jx1 : Int32) (v_t_typed : Int32) (v_t_spot : Int32) (v_t_token : Int32) (v_t_place : Int32) (v_t_value : Int32) (v_t_fault : Int32) (v_t_text : (Nat → Int32)) : Option (Int32 × Int32 × Int32 × Int32 × Int32 × Int32) := bd1 (fX11_isWell v_t_fault) (fun jr1 => if jr1 = 0 then some ((0 : Int32), v_t_spot, v_t_token, v_t_place, v_t_value, v_t_fault) else if jx1 = 0 then some ((0 : Int32), v_t_spot, v_t_token, v_t_place, v_t_value, v_t_place) else bd4 (fX11_advances v_t_typed v_t_spot v_t_token v_t_place v_t_value v_t_text) (fun jg5 jg6 jg7 jg8 => some (v_t_value, jg5, jg6, jg7, jg8, v_t_fault)))
abbrev rmX11_takes : Room := { frames := 4, cells := 0, slots := 0, locals := 90 }
theorem iX11_takes_X11 : ∀ w ∈ wsX110, w ∈ wsX11_takes := fun _ h => List.mem_cons_of_mem _ (List.mem_append_right _ h)
theorem mX11_takes_3 : (Cond.fieldLink RX11 75 "VoteFilesModel" "value" "I") ∈ wsX11_takes := List.mem_of_getElem? (i := 3) rfl
theorem mX11_takes_1 : (Cond.fieldLink RX11 61 "VoteFilesModel" "place" "I") ∈ wsX11_takes := List.mem_of_getElem? (i := 1) rfl
theorem mX11_takes_2 : (Cond.fieldLink RX11 84 "VoteFilesModel" "fault" "I") ∈ wsX11_takes := List.mem_of_getElem? (i := 2) rfl
theorem hdX11_takes : yX11_takes.cls ≠ "java/lang/invoke/MethodHandle" ∧ yX11_takes.cls ≠ "java/lang/invoke/VarHandle" ∧ (parseMethodDescriptor yX11_takes.desc).map (fun d => d.parameters.length) = some 1 := by decide +kernel
set_option maxHeartbeats 4000000 in
set_option maxRecDepth 100000 in
theorem ctX11_takes (l : Launch) (D : va_G) (cI cZ : ClassId) (a_t a_t_text a_t_draft a_t_s a_t_undos a_t_kept a_t_isKept a_t_seenWay a_t_seenIs a_t_sums a_t_parts a_t_heaps : Nat) (jx1 : Int32) (v_t_typed : Int32) (v_t_spot : Int32) (v_t_token : Int32) (v_t_place : Int32) (v_t_value : Int32) (v_t_fault : Int32) (v_t_text : (Nat → Int32)) (v_t_thrown : Int32) (v_t_copies : Int32) (v_t_draftCopies : Int32) (v_t_undoMany : Int32) (v_t_seenMany : Int32) (v_t_asked : Int32) (r : Int32) (o_t_spot : Int32) (o_t_token : Int32) (o_t_place : Int32) (o_t_value : Int32) (o_t_fault : Int32) (hf : fX11_takes jx1 v_t_typed v_t_spot v_t_token v_t_place v_t_value v_t_fault v_t_text = some (r, o_t_spot, o_t_token, o_t_place, o_t_value, o_t_fault)) : cM l yX11_takes wsX11_takes rmX11_takes [.ref a_t, .int jx1] D [(a_t, .inr (11, [.int v_t_thrown, .ref a_t_text, .int v_t_typed, .int v_t_spot, .int v_t_token, .int v_t_place, .int v_t_value, .int v_t_fault, .int v_t_copies, .int v_t_draftCopies, .ref a_t_draft, .ref a_t_s, .ref a_t_undos, .int v_t_undoMany, .ref a_t_kept, .ref a_t_isKept, .ref a_t_seenWay, .ref a_t_seenIs, .int v_t_seenMany, .int v_t_asked, .ref a_t_sums, .ref a_t_parts, .ref a_t_heaps])), (a_t_text, .inl (cI, 120, .inl v_t_text))] [(a_t, .inr (11, [.int v_t_thrown, .ref a_t_text, .int v_t_typed, .int o_t_spot, .int o_t_token, .int o_t_place, .int o_t_value, .int o_t_fault, .int v_t_copies, .int v_t_draftCopies, .ref a_t_draft, .ref a_t_s, .ref a_t_undos, .int v_t_undoMany, .ref a_t_kept, .ref a_t_isKept, .ref a_t_seenWay, .ref a_t_seenIs, .int v_t_seenMany, .int v_t_asked, .ref a_t_sums, .ref a_t_parts, .ref a_t_heaps])), (a_t_text, .inl (cI, 120, .inl v_t_text))] (KX D cI cZ) (some (.int r)) := by
  refine cM_of (cc := cX11_takes) (maxL := 3) (ret := some .int) (by decide +kernel) rfl _ (Nat.le_of_ble_eq_true rfl) ?_
  intro p e s m below meth c ls A S hr hlk hP hK hl hD hA hS
  obtain ⟨hx, hb, hml, hown, hts⟩ := id S
  have hl : lv_has ls 3 [(0, .ref a_t), (1, .int jx1)] := hl
  unfold fX11_takes at hf
  refine lv_aload_n hx hb dX11_takes_0 rfl (lv_at hl 0 rfl) ?_
  obtain ⟨jr1, je2, hf⟩ := bd1_inv hf
  refine callRV (As := []) (rest := []) S (ctX11_isWell l D cI cZ a_t a_t_text a_t_draft a_t_s a_t_undos a_t_kept a_t_isKept a_t_seenWay a_t_seenIs a_t_sums a_t_parts a_t_heaps v_t_fault v_t_thrown v_t_typed v_t_spot v_t_token v_t_place v_t_value v_t_copies v_t_draftCopies v_t_undoMany v_t_seenMany v_t_asked jr1 je2) (cwV 0 hts gX11_takes_X11_isWell rfl rfl rfl ⟨rfl, hdX11_isWell⟩ ⟨Nat.le_of_ble_eq_true rfl, Nat.le_of_ble_eq_true rfl⟩) hP [0] rfl KX.xs (fun U _ hW => hK.warm hW) (va_recv hK.1 hP (ci := 11) (q0 := 0) rfl rfl) rfl hl.1 rfl (Nat.le_of_ble_eq_true rfl) dX11_takes_1 ⟨Nat.zero_le _, Nat.zero_le _⟩ ?_
  refine lv_if_ne (tgt := 9) hx hb dX11_takes_4 (by decide) (fun jc3 => ?_) (fun jc3 => ?_)
  · have hf := ite_f jc3 hf
    refine lv_iload_n hx hb dX11_takes_9 rfl (lv_at hl 1 rfl) ?_
    refine lv_if_ne (tgt := 23) hx hb dX11_takes_10 (by decide) (fun jc4 => ?_) (fun jc4 => ?_)
    · have hf := ite_f jc4 hf
      refine lv_aload_n hx hb dX11_takes_23 rfl (lv_at hl 0 rfl) ?_
      refine va_get (D := D) (ci := 11) (v := .int v_t_value) (C := RX11) (T := TX11) (N := 23) hx hb hts iX11_takes_X11 hown hK.1 hP 0 rfl rfl 6 (by decide) (hts _ mX11_takes_3) (fun _ h9 => h9) rfl dX11_takes_24 ?_
      refine lv_istore_n (lv' := [(2, .int v_t_value), (0, .ref a_t), (1, .int jx1)]) hx hb dX11_takes_27 rfl hl (by decide) rfl (fun ls hl => ?_)
      refine lv_aload_n hx hb dX11_takes_28 rfl (lv_at hl 1 rfl) ?_
      obtain ⟨jg5, jg6, jg7, jg8, je9, hf⟩ := bd4_inv hf
      refine callMV (As := []) (rest := []) (wr := []) (wn := [(a_t, .inr (11, [.int v_t_thrown, .ref a_t_text, .int v_t_typed, .int jg5, .int jg6, .int jg7, .int jg8, .int v_t_fault, .int v_t_copies, .int v_t_draftCopies, .ref a_t_draft, .ref a_t_s, .ref a_t_undos, .int v_t_undoMany, .ref a_t_kept, .ref a_t_isKept, .ref a_t_seenWay, .ref a_t_seenIs, .int v_t_seenMany, .int v_t_asked, .ref a_t_sums, .ref a_t_parts, .ref a_t_heaps])), (a_t_text, .inl (cI, 120, .inl v_t_text))]) S (ctX11_advances l D cI cZ a_t a_t_text a_t_draft a_t_s a_t_undos a_t_kept a_t_isKept a_t_seenWay a_t_seenIs a_t_sums a_t_parts a_t_heaps v_t_typed v_t_spot v_t_token v_t_place v_t_value v_t_text v_t_thrown v_t_fault v_t_copies v_t_draftCopies v_t_undoMany v_t_seenMany v_t_asked jg5 jg6 jg7 jg8 je9) (cwV 0 hts gX11_takes_X11_advances rfl rfl rfl ⟨rfl, hdX11_advances⟩ ⟨Nat.le_of_ble_eq_true rfl, Nat.le_of_ble_eq_true rfl⟩) hP hD hS hA [0, 1] [] [0, 1] rfl rfl (by decide) (by decide) (by decide) (by decide) rfl KX.xs (fun U _ hW => hK.warm hW) (va_recv hK.1 hP (ci := 11) (q0 := 0) rfl rfl) rfl hl.1 rfl (Nat.le_of_ble_eq_true rfl) dX11_takes_29 ⟨Nat.zero_le _, Nat.zero_le _⟩ (fun H locs hP hD hS => ?_)
      refine W.eq (g2 := F0 m 32 ls []) rfl ?_
      refine lv_iload_n hx hb dX11_takes_32 rfl (lv_at hl 0 rfl) ?_
      obtain ⟨rfl, rfl, rfl, rfl, rfl, rfl⟩ := pr6_inv hf
      exact retM hx hb hr hlk hP hD hS dX11_takes_33
    · have hf := ite_t jc4 hf
      refine lv_aload_n hx hb dX11_takes_13 rfl (lv_at hl 0 rfl) ?_
      refine lv_aload_n hx hb dX11_takes_14 rfl (lv_at hl 0 rfl) ?_
      refine va_get (D := D) (ci := 11) (v := .int v_t_place) (C := RX11) (T := TX11) (N := 23) hx hb hts iX11_takes_X11 hown hK.1 hP 0 rfl rfl 5 (by decide) (hts _ mX11_takes_1) (fun _ h9 => h9) rfl dX11_takes_15 ?_
      refine va_put (D := D) (ci := 11) (v := .int v_t_place) (ty := .int) (C := RX11) (T := TX11) (N := 23) hx hb hts iX11_takes_X11 tyX11 tyX11_ok nmX11 hown hK.1 hP hD hS 0 rfl rfl 7 (by decide) (hts _ mX11_takes_2) (fun _ h9 => h9) rfl (tyX11_ok 7 (by decide)) rfl rfl (Nat.le_of_ble_eq_true rfl) dX11_takes_18 (fun H locs hP hD hS => ?_)
      have hP : va_P D vwCl [(a_t, .inr (11, [.int v_t_thrown, .ref a_t_text, .int v_t_typed, .int v_t_spot, .int v_t_token, .int v_t_place, .int v_t_value, .int v_t_place, .int v_t_copies, .int v_t_draftCopies, .ref a_t_draft, .ref a_t_s, .ref a_t_undos, .int v_t_undoMany, .ref a_t_kept, .ref a_t_isKept, .ref a_t_seenWay, .ref a_t_seenIs, .int v_t_seenMany, .int v_t_asked, .ref a_t_sums, .ref a_t_parts, .ref a_t_heaps])), (a_t_text, .inl (cI, 120, .inl v_t_text))] H := hP
      have hD : va_D A [(a_t, .inr (11, [.int v_t_thrown, .ref a_t_text, .int v_t_typed, .int v_t_spot, .int v_t_token, .int v_t_place, .int v_t_value, .int v_t_place, .int v_t_copies, .int v_t_draftCopies, .ref a_t_draft, .ref a_t_s, .ref a_t_undos, .int v_t_undoMany, .ref a_t_kept, .ref a_t_isKept, .ref a_t_seenWay, .ref a_t_seenIs, .int v_t_seenMany, .int v_t_asked, .ref a_t_sums, .ref a_t_parts, .ref a_t_heaps])), (a_t_text, .inl (cI, 120, .inl v_t_text))] := hD
      refine lv_iconst (v := 0) hx hb dX11_takes_21 (by decide) ?_
      obtain ⟨rfl, rfl, rfl, rfl, rfl, rfl⟩ := pr6_inv hf
      exact retM hx hb hr hlk hP hD hS dX11_takes_22
  · have hf := ite_t jc3 hf
    refine lv_iconst (v := 0) hx hb dX11_takes_7 (by decide) ?_
    obtain ⟨rfl, rfl, rfl, rfl, rfl, rfl⟩ := pr6_inv hf
    exact retM hx hb hr hlk hP hD hS dX11_takes_8
def fX11_number (jx1 : Int32) (jx2 : Int32) (v_t_typed : Int32) (v_t_spot : Int32) (v_t_token : Int32) (v_t_place : Int32) (v_t_value : Int32) (v_t_fault : Int32) (v_t_text : (Nat → Int32)) : Option (Int32 × Int32 × Int32 × Int32 × Int32 × Int32) := if v_t_token = (2 : Int32) then bd1 (fX11_in v_t_value jx1 jx2) (fun jr9 => if jr9 = 0 then bd6 (fX11_takes (0 : Int32) v_t_typed v_t_spot v_t_token v_t_place v_t_value v_t_fault v_t_text) (fun jr12 jg13 jg14 jg15 jg16 jg17 => some (jr12, jg13, jg14, jg15, jg16, jg17)) else bd6 (fX11_takes (1 : Int32) v_t_typed v_t_spot v_t_token v_t_place v_t_value v_t_fault v_t_text) (fun jr19 jg20 jg21 jg22 jg23 jg24 => some (jr19, jg20, jg21, jg22, jg23, jg24))) else bd6 (fX11_takes (0 : Int32) v_t_typed v_t_spot v_t_token v_t_place v_t_value v_t_fault v_t_text) (fun jr2 jg3 jg4 jg5 jg6 jg7 => some (jr2, jg3, jg4, jg5, jg6, jg7))
abbrev rmX11_number : Room := { frames := 5, cells := 0, slots := 0, locals := 112 }
theorem iX11_number_X11 : ∀ w ∈ wsX110, w ∈ wsX11_number := fun _ h => List.mem_cons_of_mem _ (List.mem_append_right _ h)
theorem mX11_number_1 : (Cond.fieldLink RX11 78 "VoteFilesModel" "token" "I") ∈ wsX11_number := List.mem_of_getElem? (i := 1) rfl
theorem mX11_number_2 : (Cond.fieldLink RX11 75 "VoteFilesModel" "value" "I") ∈ wsX11_number := List.mem_of_getElem? (i := 2) rfl
theorem hdX11_number : yX11_number.cls ≠ "java/lang/invoke/MethodHandle" ∧ yX11_number.cls ≠ "java/lang/invoke/VarHandle" ∧ (parseMethodDescriptor yX11_number.desc).map (fun d => d.parameters.length) = some 2 := by decide +kernel
set_option maxHeartbeats 4000000 in
set_option maxRecDepth 100000 in
theorem ctX11_number (l : Launch) (D : va_G) (cI cZ : ClassId) (a_t a_t_text a_t_draft a_t_s a_t_undos a_t_kept a_t_isKept a_t_seenWay a_t_seenIs a_t_sums a_t_parts a_t_heaps : Nat) (jx1 : Int32) (jx2 : Int32) (v_t_typed : Int32) (v_t_spot : Int32) (v_t_token : Int32) (v_t_place : Int32) (v_t_value : Int32) (v_t_fault : Int32) (v_t_text : (Nat → Int32)) (v_t_thrown : Int32) (v_t_copies : Int32) (v_t_draftCopies : Int32) (v_t_undoMany : Int32) (v_t_seenMany : Int32) (v_t_asked : Int32) (r : Int32) (o_t_spot : Int32) (o_t_token : Int32) (o_t_place : Int32) (o_t_value : Int32) (o_t_fault : Int32) (hf : fX11_number jx1 jx2 v_t_typed v_t_spot v_t_token v_t_place v_t_value v_t_fault v_t_text = some (r, o_t_spot, o_t_token, o_t_place, o_t_value, o_t_fault)) : cM l yX11_number wsX11_number rmX11_number [.ref a_t, .int jx1, .int jx2] D [(a_t, .inr (11, [.int v_t_thrown, .ref a_t_text, .int v_t_typed, .int v_t_spot, .int v_t_token, .int v_t_place, .int v_t_value, .int v_t_fault, .int v_t_copies, .int v_t_draftCopies, .ref a_t_draft, .ref a_t_s, .ref a_t_undos, .int v_t_undoMany, .ref a_t_kept, .ref a_t_isKept, .ref a_t_seenWay, .ref a_t_seenIs, .int v_t_seenMany, .int v_t_asked, .ref a_t_sums, .ref a_t_parts, .ref a_t_heaps])), (a_t_text, .inl (cI, 120, .inl v_t_text))] [(a_t, .inr (11, [.int v_t_thrown, .ref a_t_text, .int v_t_typed, .int o_t_spot, .int o_t_token, .int o_t_place, .int o_t_value, .int o_t_fault, .int v_t_copies, .int v_t_draftCopies, .ref a_t_draft, .ref a_t_s, .ref a_t_undos, .int v_t_undoMany, .ref a_t_kept, .ref a_t_isKept, .ref a_t_seenWay, .ref a_t_seenIs, .int v_t_seenMany, .int v_t_asked, .ref a_t_sums, .ref a_t_parts, .ref a_t_heaps])), (a_t_text, .inl (cI, 120, .inl v_t_text))] (KX D cI cZ) (some (.int r)) := by
  refine cM_of (cc := cX11_number) (maxL := 3) (ret := some .int) (by decide +kernel) rfl _ (Nat.le_of_ble_eq_true rfl) ?_
  intro p e s m below meth c ls A S hr hlk hP hK hl hD hA hS
  obtain ⟨hx, hb, hml, hown, hts⟩ := id S
  have hl : lv_has ls 3 [(0, .ref a_t), (1, .int jx1), (2, .int jx2)] := hl
  unfold fX11_number at hf
  refine lv_aload_n hx hb dX11_number_0 rfl (lv_at hl 0 rfl) ?_
  refine lv_aload_n hx hb dX11_number_1 rfl (lv_at hl 0 rfl) ?_
  refine va_get (D := D) (ci := 11) (v := .int v_t_token) (C := RX11) (T := TX11) (N := 23) hx hb hts iX11_number_X11 hown hK.1 hP 0 rfl rfl 4 (by decide) (hts _ mX11_number_1) (fun _ h9 => h9) rfl dX11_number_2 ?_
  refine lv_iconst (v := 2) hx hb dX11_number_5 (by decide) ?_
  refine lv_icmp_ne (tgt := 25) hx hb dX11_number_6 (by decide) (fun jc1 => ?_) (fun jc1 => ?_)
  · have hf := ite_f jc1 hf
    refine lv_iconst (v := 0) hx hb dX11_number_25 (by decide) ?_
    obtain ⟨jr2, jg3, jg4, jg5, jg6, jg7, je8, hf⟩ := bd6_inv hf
    refine callMV (As := [.int (0 : Int32)]) (rest := []) (wr := []) (wn := [(a_t, .inr (11, [.int v_t_thrown, .ref a_t_text, .int v_t_typed, .int jg3, .int jg4, .int jg5, .int jg6, .int jg7, .int v_t_copies, .int v_t_draftCopies, .ref a_t_draft, .ref a_t_s, .ref a_t_undos, .int v_t_undoMany, .ref a_t_kept, .ref a_t_isKept, .ref a_t_seenWay, .ref a_t_seenIs, .int v_t_seenMany, .int v_t_asked, .ref a_t_sums, .ref a_t_parts, .ref a_t_heaps])), (a_t_text, .inl (cI, 120, .inl v_t_text))]) S (ctX11_takes l D cI cZ a_t a_t_text a_t_draft a_t_s a_t_undos a_t_kept a_t_isKept a_t_seenWay a_t_seenIs a_t_sums a_t_parts a_t_heaps (0 : Int32) v_t_typed v_t_spot v_t_token v_t_place v_t_value v_t_fault v_t_text v_t_thrown v_t_copies v_t_draftCopies v_t_undoMany v_t_seenMany v_t_asked jr2 jg3 jg4 jg5 jg6 jg7 je8) (cwV 1 hts gX11_number_X11_takes rfl rfl rfl ⟨rfl, hdX11_takes⟩ ⟨Nat.le_of_ble_eq_true rfl, Nat.le_of_ble_eq_true rfl⟩) hP hD hS hA [0, 1] [] [0, 1] rfl rfl (by decide) (by decide) (by decide) (by decide) rfl KX.xs (fun U _ hW => hK.warm hW) (va_recv hK.1 hP (ci := 11) (q0 := 0) rfl rfl) rfl hl.1 rfl (Nat.le_of_ble_eq_true rfl) dX11_number_26 ⟨Nat.zero_le _, Nat.zero_le _⟩ (fun H locs hP hD hS => ?_)
    refine W.eq (g2 := F0 m 29 ls [.int jr2]) rfl ?_
    obtain ⟨rfl, rfl, rfl, rfl, rfl, rfl⟩ := pr6_inv hf
    exact retM hx hb hr hlk hP hD hS dX11_number_29
  · have hf := ite_t jc1 hf
    refine lv_aload_n hx hb dX11_number_9 rfl (lv_at hl 0 rfl) ?_
    refine va_get (D := D) (ci := 11) (v := .int v_t_value) (C := RX11) (T := TX11) (N := 23) hx hb hts iX11_number_X11 hown hK.1 hP 0 rfl rfl 6 (by decide) (hts _ mX11_number_2) (fun _ h9 => h9) rfl dX11_number_10 ?_
    refine lv_iload_n hx hb dX11_number_13 rfl (lv_at hl 1 rfl) ?_
    refine lv_iload_n hx hb dX11_number_14 rfl (lv_at hl 2 rfl) ?_
    obtain ⟨jr9, je10, hf⟩ := bd1_inv hf
    refine callRS (As := [.int v_t_value, .int jx1, .int jx2]) (rest := [.ref a_t]) S (ctX11_in l D cI cZ v_t_value jx1 jx2 jr9 je10) (va_cwS 3 hts gX11_number_X11_in rfl rfl rfl hdX11_in ⟨Nat.le_of_ble_eq_true rfl, Nat.le_of_ble_eq_true rfl⟩) hP [] rfl KX.xs (fun U _ hW => hK.warm hW) rfl hl.1 rfl (Nat.le_of_ble_eq_true rfl) dX11_number_15 ⟨Nat.zero_le _, Nat.zero_le _⟩ ?_
    refine lv_if_eq (tgt := 25) hx hb dX11_number_18 (by decide) (fun jc11 => ?_) (fun jc11 => ?_)
    · have hf := ite_t jc11 hf
      refine lv_iconst (v := 0) hx hb dX11_number_25 (by decide) ?_
      obtain ⟨jr12, jg13, jg14, jg15, jg16, jg17, je18, hf⟩ := bd6_inv hf
      refine callMV (As := [.int (0 : Int32)]) (rest := []) (wr := []) (wn := [(a_t, .inr (11, [.int v_t_thrown, .ref a_t_text, .int v_t_typed, .int jg13, .int jg14, .int jg15, .int jg16, .int jg17, .int v_t_copies, .int v_t_draftCopies, .ref a_t_draft, .ref a_t_s, .ref a_t_undos, .int v_t_undoMany, .ref a_t_kept, .ref a_t_isKept, .ref a_t_seenWay, .ref a_t_seenIs, .int v_t_seenMany, .int v_t_asked, .ref a_t_sums, .ref a_t_parts, .ref a_t_heaps])), (a_t_text, .inl (cI, 120, .inl v_t_text))]) S (ctX11_takes l D cI cZ a_t a_t_text a_t_draft a_t_s a_t_undos a_t_kept a_t_isKept a_t_seenWay a_t_seenIs a_t_sums a_t_parts a_t_heaps (0 : Int32) v_t_typed v_t_spot v_t_token v_t_place v_t_value v_t_fault v_t_text v_t_thrown v_t_copies v_t_draftCopies v_t_undoMany v_t_seenMany v_t_asked jr12 jg13 jg14 jg15 jg16 jg17 je18) (cwV 1 hts gX11_number_X11_takes rfl rfl rfl ⟨rfl, hdX11_takes⟩ ⟨Nat.le_of_ble_eq_true rfl, Nat.le_of_ble_eq_true rfl⟩) hP hD hS hA [0, 1] [] [0, 1] rfl rfl (by decide) (by decide) (by decide) (by decide) rfl KX.xs (fun U _ hW => hK.warm hW) (va_recv hK.1 hP (ci := 11) (q0 := 0) rfl rfl) rfl hl.1 rfl (Nat.le_of_ble_eq_true rfl) dX11_number_26 ⟨Nat.zero_le _, Nat.zero_le _⟩ (fun H locs hP hD hS => ?_)
      refine W.eq (g2 := F0 m 29 ls [.int jr12]) rfl ?_
      obtain ⟨rfl, rfl, rfl, rfl, rfl, rfl⟩ := pr6_inv hf
      exact retM hx hb hr hlk hP hD hS dX11_number_29
    · have hf := ite_f jc11 hf
      refine lv_iconst (v := 1) hx hb dX11_number_21 (by decide) ?_
      refine lv_goto (tgt := 26) hx hb dX11_number_22 (by decide) ?_
      obtain ⟨jr19, jg20, jg21, jg22, jg23, jg24, je25, hf⟩ := bd6_inv hf
      refine callMV (As := [.int (1 : Int32)]) (rest := []) (wr := []) (wn := [(a_t, .inr (11, [.int v_t_thrown, .ref a_t_text, .int v_t_typed, .int jg20, .int jg21, .int jg22, .int jg23, .int jg24, .int v_t_copies, .int v_t_draftCopies, .ref a_t_draft, .ref a_t_s, .ref a_t_undos, .int v_t_undoMany, .ref a_t_kept, .ref a_t_isKept, .ref a_t_seenWay, .ref a_t_seenIs, .int v_t_seenMany, .int v_t_asked, .ref a_t_sums, .ref a_t_parts, .ref a_t_heaps])), (a_t_text, .inl (cI, 120, .inl v_t_text))]) S (ctX11_takes l D cI cZ a_t a_t_text a_t_draft a_t_s a_t_undos a_t_kept a_t_isKept a_t_seenWay a_t_seenIs a_t_sums a_t_parts a_t_heaps (1 : Int32) v_t_typed v_t_spot v_t_token v_t_place v_t_value v_t_fault v_t_text v_t_thrown v_t_copies v_t_draftCopies v_t_undoMany v_t_seenMany v_t_asked jr19 jg20 jg21 jg22 jg23 jg24 je25) (cwV 1 hts gX11_number_X11_takes rfl rfl rfl ⟨rfl, hdX11_takes⟩ ⟨Nat.le_of_ble_eq_true rfl, Nat.le_of_ble_eq_true rfl⟩) hP hD hS hA [0, 1] [] [0, 1] rfl rfl (by decide) (by decide) (by decide) (by decide) rfl KX.xs (fun U _ hW => hK.warm hW) (va_recv hK.1 hP (ci := 11) (q0 := 0) rfl rfl) rfl hl.1 rfl (Nat.le_of_ble_eq_true rfl) dX11_number_26 ⟨Nat.zero_le _, Nat.zero_le _⟩ (fun H locs hP hD hS => ?_)
      refine W.eq (g2 := F0 m 29 ls [.int jr19]) rfl ?_
      obtain ⟨rfl, rfl, rfl, rfl, rfl, rfl⟩ := pr6_inv hf
      exact retM hx hb hr hlk hP hD hS dX11_number_29
def fX11_begins_2  : Nat → Int32 → Int32 → (Nat → Int32) → Option (Int32 × (Nat → Int32))
  | 0, _, _, _ => none
  | n + 1, jx1, v_t_draftCopies, v_t_draft => if (103 : Int32) ≤ jx1 then ckI 103 (30 : Int32) (some ((0 : Int32), (upd v_t_draft (Int32.toNatClampNeg (30 : Int32)) (1 : Int32)))) else ckI 103 jx1 ((fX11_begins_2 n) (jx1 + (1 : Int32)) v_t_draftCopies (upd v_t_draft (Int32.toNatClampNeg jx1) (0 : Int32)))
theorem fX11_begins_2_s  (n : Nat) (jx1 : Int32) (v_t_draftCopies : Int32) (v_t_draft : (Nat → Int32)) : fX11_begins_2  (n + 1) jx1 v_t_draftCopies v_t_draft = if (103 : Int32) ≤ jx1 then ckI 103 (30 : Int32) (some ((0 : Int32), (upd v_t_draft (Int32.toNatClampNeg (30 : Int32)) (1 : Int32)))) else ckI 103 jx1 ((fX11_begins_2 n) (jx1 + (1 : Int32)) v_t_draftCopies (upd v_t_draft (Int32.toNatClampNeg jx1) (0 : Int32))) := rfl
def fX11_begins (v_t_draftCopies : Int32) (v_t_draft : (Nat → Int32)) : Option (Int32 × (Nat → Int32)) := fX11_begins_2 fuel (0 : Int32) v_t_draftCopies v_t_draft
abbrev rmX11_begins : Room := { frames := 0, cells := 0, slots := 0, locals := 0 }
theorem iX11_begins_X11 : ∀ w ∈ wsX110, w ∈ wsX11_begins := fun _ h => List.mem_cons_of_mem _ (List.mem_append_right _ h)
theorem mX11_begins_1 : (Cond.fieldLink RX11 13 "VoteFilesModel" "draft" "[I") ∈ wsX11_begins := List.mem_of_getElem? (i := 1) rfl
theorem mX11_begins_2 : (Cond.fieldLink RX11 98 "VoteFilesModel" "draftCopies" "I") ∈ wsX11_begins := List.mem_of_getElem? (i := 2) rfl
set_option maxHeartbeats 4000000 in
set_option maxRecDepth 100000 in
theorem wX11_begins_2 {p : Program} {l : Launch} {e : Env} {s : State} {m : MethodId} {args : Array Value} {below : List Frame} {meth : Method} {c : Code} {D : va_G} {cI cZ : ClassId} (S : CallFix p m c cX11_begins 2 s args wsX11_begins RX11) (hr : meth.sig.returnType = none) (hlk : meth.locks = false) (hK : KX D cI cZ s) {a_t a_t_text a_t_draft a_t_s a_t_undos a_t_kept a_t_isKept a_t_seenWay a_t_seenIs a_t_sums a_t_parts a_t_heaps : Nat} {v_t_thrown : Int32} {v_t_typed : Int32} {v_t_spot : Int32} {v_t_token : Int32} {v_t_place : Int32} {v_t_value : Int32} {v_t_fault : Int32} {v_t_copies : Int32} {v_t_undoMany : Int32} {v_t_seenMany : Int32} {v_t_asked : Int32} {o_t_draftCopies : Int32} {o_t_draft : (Nat → Int32)} {A : Nat → Prop} (hA : ∀ q : Nat, s.heap.size ≤ q → A q) : ∀ (n : Nat), ∀ (jx1 : Int32) (v_t_draftCopies : Int32) (v_t_draft : (Nat → Int32)) (ls : Array Slot) (H : Heap) (locs : List Loc), fX11_begins_2  n jx1 v_t_draftCopies v_t_draft = some (o_t_draftCopies, o_t_draft) → lv_has ls 2 [(0, .ref a_t), (1, .int jx1)] → va_P D vwCl [(a_t, .inr (11, [.int v_t_thrown, .ref a_t_text, .int v_t_typed, .int v_t_spot, .int v_t_token, .int v_t_place, .int v_t_value, .int v_t_fault, .int v_t_copies, .int v_t_draftCopies, .ref a_t_draft, .ref a_t_s, .ref a_t_undos, .int v_t_undoMany, .ref a_t_kept, .ref a_t_isKept, .ref a_t_seenWay, .ref a_t_seenIs, .int v_t_seenMany, .int v_t_asked, .ref a_t_sums, .ref a_t_parts, .ref a_t_heaps])), (a_t_draft, .inl (cI, 103, .inl v_t_draft))] H → va_D A [(a_t, .inr (11, [.int v_t_thrown, .ref a_t_text, .int v_t_typed, .int v_t_spot, .int v_t_token, .int v_t_place, .int v_t_value, .int v_t_fault, .int v_t_copies, .int v_t_draftCopies, .ref a_t_draft, .ref a_t_s, .ref a_t_undos, .int v_t_undoMany, .ref a_t_kept, .ref a_t_isKept, .ref a_t_seenWay, .ref a_t_seenIs, .int v_t_seenMany, .int v_t_asked, .ref a_t_sums, .ref a_t_parts, .ref a_t_heaps])), (a_t_draft, .inl (cI, 103, .inl v_t_draft))] → va_S A s.heap H locs → W p l e rmX11_begins s m args below meth c H locs 0 0 (MQ below (qM D none [(a_t, .inr (11, [.int v_t_thrown, .ref a_t_text, .int v_t_typed, .int v_t_spot, .int v_t_token, .int v_t_place, .int v_t_value, .int v_t_fault, .int v_t_copies, .int o_t_draftCopies, .ref a_t_draft, .ref a_t_s, .ref a_t_undos, .int v_t_undoMany, .ref a_t_kept, .ref a_t_isKept, .ref a_t_seenWay, .ref a_t_seenIs, .int v_t_seenMany, .int v_t_asked, .ref a_t_sums, .ref a_t_parts, .ref a_t_heaps])), (a_t_draft, .inl (cI, 103, .inl o_t_draft))] A) args s 0 0 A) (F0 m 2 ls []) := by
  obtain ⟨hx, hb, hml, hown, hts⟩ := id S
  intro n
  induction n with
  | zero =>
    intro jx1 v_t_draftCopies v_t_draft ls H locs hf hl hP hD hS
    cases (show (none : Option _) = some _ from hf)
  | succ n ih =>
    intro jx1 v_t_draftCopies v_t_draft ls H locs hf hl hP hD hS
    have hf := (fX11_begins_2_s  n _ _ _).symm.trans hf
    refine lv_iload_n hx hb dX11_begins_2 rfl (lv_at hl 1 rfl) ?_
    refine lv_bipush (v := 103) hx hb dX11_begins_3 (by decide) ?_
    refine lv_icmp_ge (tgt := 21) hx hb dX11_begins_5 (by decide) (fun jc1 => ?_) (fun jc1 => ?_)
    · have hf := ite_t jc1 hf
      refine lv_aload_n hx hb dX11_begins_21 rfl (lv_at hl 0 rfl) ?_
      refine va_get (D := D) (ci := 11) (v := .ref a_t_draft) (C := RX11) (T := TX11) (N := 23) hx hb hts iX11_begins_X11 hown hK.1 hP 0 rfl rfl 10 (by decide) (hts _ mX11_begins_1) (fun _ h9 => h9) rfl dX11_begins_22 ?_
      refine lv_bipush (v := 30) hx hb dX11_begins_25 (by decide) ?_
      refine lv_iconst (v := 1) hx hb dX11_begins_27 (by decide) ?_
      obtain ⟨jh2, hf⟩ := ckI_inv hf
      refine va_iast hx hb hK.1 hP hD hS 1 0 rfl rfl jh2 dX11_begins_28 (fun H locs hP hD hS => ?_)
      have hP : va_P D vwCl [(a_t, .inr (11, [.int v_t_thrown, .ref a_t_text, .int v_t_typed, .int v_t_spot, .int v_t_token, .int v_t_place, .int v_t_value, .int v_t_fault, .int v_t_copies, .int v_t_draftCopies, .ref a_t_draft, .ref a_t_s, .ref a_t_undos, .int v_t_undoMany, .ref a_t_kept, .ref a_t_isKept, .ref a_t_seenWay, .ref a_t_seenIs, .int v_t_seenMany, .int v_t_asked, .ref a_t_sums, .ref a_t_parts, .ref a_t_heaps])), (a_t_draft, .inl (cI, 103, .inl (upd v_t_draft (Int32.toNatClampNeg (30 : Int32)) (1 : Int32))))] H := hP
      have hD : va_D A [(a_t, .inr (11, [.int v_t_thrown, .ref a_t_text, .int v_t_typed, .int v_t_spot, .int v_t_token, .int v_t_place, .int v_t_value, .int v_t_fault, .int v_t_copies, .int v_t_draftCopies, .ref a_t_draft, .ref a_t_s, .ref a_t_undos, .int v_t_undoMany, .ref a_t_kept, .ref a_t_isKept, .ref a_t_seenWay, .ref a_t_seenIs, .int v_t_seenMany, .int v_t_asked, .ref a_t_sums, .ref a_t_parts, .ref a_t_heaps])), (a_t_draft, .inl (cI, 103, .inl (upd v_t_draft (Int32.toNatClampNeg (30 : Int32)) (1 : Int32))))] := hD
      refine lv_aload_n hx hb dX11_begins_29 rfl (lv_at hl 0 rfl) ?_
      refine lv_iconst (v := 0) hx hb dX11_begins_30 (by decide) ?_
      refine va_put (D := D) (ci := 11) (v := .int (0 : Int32)) (ty := .int) (C := RX11) (T := TX11) (N := 23) hx hb hts iX11_begins_X11 tyX11 tyX11_ok nmX11 hown hK.1 hP hD hS 0 rfl rfl 9 (by decide) (hts _ mX11_begins_2) (fun _ h9 => h9) rfl (tyX11_ok 9 (by decide)) rfl rfl (Nat.le_of_ble_eq_true rfl) dX11_begins_31 (fun H locs hP hD hS => ?_)
      have hP : va_P D vwCl [(a_t, .inr (11, [.int v_t_thrown, .ref a_t_text, .int v_t_typed, .int v_t_spot, .int v_t_token, .int v_t_place, .int v_t_value, .int v_t_fault, .int v_t_copies, .int (0 : Int32), .ref a_t_draft, .ref a_t_s, .ref a_t_undos, .int v_t_undoMany, .ref a_t_kept, .ref a_t_isKept, .ref a_t_seenWay, .ref a_t_seenIs, .int v_t_seenMany, .int v_t_asked, .ref a_t_sums, .ref a_t_parts, .ref a_t_heaps])), (a_t_draft, .inl (cI, 103, .inl (upd v_t_draft (Int32.toNatClampNeg (30 : Int32)) (1 : Int32))))] H := hP
      have hD : va_D A [(a_t, .inr (11, [.int v_t_thrown, .ref a_t_text, .int v_t_typed, .int v_t_spot, .int v_t_token, .int v_t_place, .int v_t_value, .int v_t_fault, .int v_t_copies, .int (0 : Int32), .ref a_t_draft, .ref a_t_s, .ref a_t_undos, .int v_t_undoMany, .ref a_t_kept, .ref a_t_isKept, .ref a_t_seenWay, .ref a_t_seenIs, .int v_t_seenMany, .int v_t_asked, .ref a_t_sums, .ref a_t_parts, .ref a_t_heaps])), (a_t_draft, .inl (cI, 103, .inl (upd v_t_draft (Int32.toNatClampNeg (30 : Int32)) (1 : Int32))))] := hD
      obtain ⟨rfl, rfl⟩ := pr2_inv hf
      exact retMv hx hb hr hlk hP hD hS dX11_begins_34
    · have hf := ite_f jc1 hf
      refine lv_aload_n hx hb dX11_begins_8 rfl (lv_at hl 0 rfl) ?_
      refine va_get (D := D) (ci := 11) (v := .ref a_t_draft) (C := RX11) (T := TX11) (N := 23) hx hb hts iX11_begins_X11 hown hK.1 hP 0 rfl rfl 10 (by decide) (hts _ mX11_begins_1) (fun _ h9 => h9) rfl dX11_begins_9 ?_
      refine lv_iload_n hx hb dX11_begins_12 rfl (lv_at hl 1 rfl) ?_
      refine lv_iconst (v := 0) hx hb dX11_begins_13 (by decide) ?_
      obtain ⟨jh3, hf⟩ := ckI_inv hf
      refine va_iast hx hb hK.1 hP hD hS 1 0 rfl rfl jh3 dX11_begins_14 (fun H locs hP hD hS => ?_)
      have hP : va_P D vwCl [(a_t, .inr (11, [.int v_t_thrown, .ref a_t_text, .int v_t_typed, .int v_t_spot, .int v_t_token, .int v_t_place, .int v_t_value, .int v_t_fault, .int v_t_copies, .int v_t_draftCopies, .ref a_t_draft, .ref a_t_s, .ref a_t_undos, .int v_t_undoMany, .ref a_t_kept, .ref a_t_isKept, .ref a_t_seenWay, .ref a_t_seenIs, .int v_t_seenMany, .int v_t_asked, .ref a_t_sums, .ref a_t_parts, .ref a_t_heaps])), (a_t_draft, .inl (cI, 103, .inl (upd v_t_draft (Int32.toNatClampNeg jx1) (0 : Int32))))] H := hP
      have hD : va_D A [(a_t, .inr (11, [.int v_t_thrown, .ref a_t_text, .int v_t_typed, .int v_t_spot, .int v_t_token, .int v_t_place, .int v_t_value, .int v_t_fault, .int v_t_copies, .int v_t_draftCopies, .ref a_t_draft, .ref a_t_s, .ref a_t_undos, .int v_t_undoMany, .ref a_t_kept, .ref a_t_isKept, .ref a_t_seenWay, .ref a_t_seenIs, .int v_t_seenMany, .int v_t_asked, .ref a_t_sums, .ref a_t_parts, .ref a_t_heaps])), (a_t_draft, .inl (cI, 103, .inl (upd v_t_draft (Int32.toNatClampNeg jx1) (0 : Int32))))] := hD
      refine lv_iinc (v := (jx1 + (1 : Int32))) (lv' := [(1, .int (jx1 + (1 : Int32))), (0, .ref a_t)]) hx hb dX11_begins_15 hl (k := 1) rfl rfl (by decide) rfl (fun ls hl => ?_)
      refine lv_goto (tgt := 2) hx hb dX11_begins_18 (by decide) ?_
      exact ih (jx1 + (1 : Int32)) v_t_draftCopies (upd v_t_draft (Int32.toNatClampNeg jx1) (0 : Int32)) ls _ _ hf (lv_sub hl [1, 0] rfl) hP hD hS
theorem hdX11_begins : yX11_begins.cls ≠ "java/lang/invoke/MethodHandle" ∧ yX11_begins.cls ≠ "java/lang/invoke/VarHandle" ∧ (parseMethodDescriptor yX11_begins.desc).map (fun d => d.parameters.length) = some 0 := by decide +kernel
set_option maxHeartbeats 4000000 in
set_option maxRecDepth 100000 in
theorem ctX11_begins (l : Launch) (D : va_G) (cI cZ : ClassId) (a_t a_t_text a_t_draft a_t_s a_t_undos a_t_kept a_t_isKept a_t_seenWay a_t_seenIs a_t_sums a_t_parts a_t_heaps : Nat) (v_t_draftCopies : Int32) (v_t_draft : (Nat → Int32)) (v_t_thrown : Int32) (v_t_typed : Int32) (v_t_spot : Int32) (v_t_token : Int32) (v_t_place : Int32) (v_t_value : Int32) (v_t_fault : Int32) (v_t_copies : Int32) (v_t_undoMany : Int32) (v_t_seenMany : Int32) (v_t_asked : Int32) (o_t_draftCopies : Int32) (o_t_draft : (Nat → Int32)) (hf : fX11_begins v_t_draftCopies v_t_draft = some (o_t_draftCopies, o_t_draft)) : cM l yX11_begins wsX11_begins rmX11_begins [.ref a_t] D [(a_t, .inr (11, [.int v_t_thrown, .ref a_t_text, .int v_t_typed, .int v_t_spot, .int v_t_token, .int v_t_place, .int v_t_value, .int v_t_fault, .int v_t_copies, .int v_t_draftCopies, .ref a_t_draft, .ref a_t_s, .ref a_t_undos, .int v_t_undoMany, .ref a_t_kept, .ref a_t_isKept, .ref a_t_seenWay, .ref a_t_seenIs, .int v_t_seenMany, .int v_t_asked, .ref a_t_sums, .ref a_t_parts, .ref a_t_heaps])), (a_t_draft, .inl (cI, 103, .inl v_t_draft))] [(a_t, .inr (11, [.int v_t_thrown, .ref a_t_text, .int v_t_typed, .int v_t_spot, .int v_t_token, .int v_t_place, .int v_t_value, .int v_t_fault, .int v_t_copies, .int o_t_draftCopies, .ref a_t_draft, .ref a_t_s, .ref a_t_undos, .int v_t_undoMany, .ref a_t_kept, .ref a_t_isKept, .ref a_t_seenWay, .ref a_t_seenIs, .int v_t_seenMany, .int v_t_asked, .ref a_t_sums, .ref a_t_parts, .ref a_t_heaps])), (a_t_draft, .inl (cI, 103, .inl o_t_draft))] (KX D cI cZ) none := by
  refine cM_of (cc := cX11_begins) (maxL := 2) (ret := none) (by decide +kernel) rfl _ (Nat.le_of_ble_eq_true rfl) ?_
  intro p e s m below meth c ls A S hr hlk hP hK hl hD hA hS
  obtain ⟨hx, hb, hml, hown, hts⟩ := id S
  have hl : lv_has ls 2 [(0, .ref a_t)] := hl
  unfold fX11_begins at hf
  refine lv_iconst (v := 0) hx hb dX11_begins_0 (by decide) ?_
  refine lv_istore_n (lv' := [(1, .int (0 : Int32)), (0, .ref a_t)]) hx hb dX11_begins_1 rfl hl (by decide) rfl (fun ls hl => ?_)
  exact wX11_begins_2 S hr hlk hK hA fuel (0 : Int32) v_t_draftCopies v_t_draft ls _ _ hf (lv_sub hl [1, 0] rfl) hP hD hS
def fX11_mayBegin (v_t_value : Int32) (v_t_draftCopies : Int32) (v_t_draft : (Nat → Int32)) : Option (Int32) := if (3 : Int32) ≤ v_t_value then if v_t_value = (3 : Int32) then ckI 103 ((31 : Int32) + (6 : Int32)) (if (v_t_draft (Int32.toNatClampNeg ((31 : Int32) + (6 : Int32)))) = 0 then some (1 : Int32) else some (0 : Int32)) else ckI 103 ((31 : Int32) + (7 : Int32)) (if (v_t_draft (Int32.toNatClampNeg ((31 : Int32) + (7 : Int32)))) = 0 then some (1 : Int32) else some (0 : Int32)) else if (6 : Int32) ≤ v_t_draftCopies then some (0 : Int32) else some (1 : Int32)
abbrev rmX11_mayBegin : Room := { frames := 0, cells := 0, slots := 0, locals := 0 }
theorem iX11_mayBegin_X11 : ∀ w ∈ wsX110, w ∈ wsX11_mayBegin := fun _ h => List.mem_cons_of_mem _ (List.mem_append_right _ h)
theorem mX11_mayBegin_1 : (Cond.fieldLink RX11 75 "VoteFilesModel" "value" "I") ∈ wsX11_mayBegin := List.mem_of_getElem? (i := 1) rfl
theorem mX11_mayBegin_3 : (Cond.fieldLink RX11 13 "VoteFilesModel" "draft" "[I") ∈ wsX11_mayBegin := List.mem_of_getElem? (i := 3) rfl
theorem mX11_mayBegin_2 : (Cond.fieldLink RX11 98 "VoteFilesModel" "draftCopies" "I") ∈ wsX11_mayBegin := List.mem_of_getElem? (i := 2) rfl
theorem hdX11_mayBegin : yX11_mayBegin.cls ≠ "java/lang/invoke/MethodHandle" ∧ yX11_mayBegin.cls ≠ "java/lang/invoke/VarHandle" ∧ (parseMethodDescriptor yX11_mayBegin.desc).map (fun d => d.parameters.length) = some 0 := by decide +kernel
set_option maxHeartbeats 4000000 in
set_option maxRecDepth 100000 in
theorem ctX11_mayBegin (l : Launch) (D : va_G) (cI cZ : ClassId) (a_t a_t_text a_t_draft a_t_s a_t_undos a_t_kept a_t_isKept a_t_seenWay a_t_seenIs a_t_sums a_t_parts a_t_heaps : Nat) (v_t_value : Int32) (v_t_draftCopies : Int32) (v_t_draft : (Nat → Int32)) (v_t_thrown : Int32) (v_t_typed : Int32) (v_t_spot : Int32) (v_t_token : Int32) (v_t_place : Int32) (v_t_fault : Int32) (v_t_copies : Int32) (v_t_undoMany : Int32) (v_t_seenMany : Int32) (v_t_asked : Int32) (r : Int32) (hf : fX11_mayBegin v_t_value v_t_draftCopies v_t_draft = some r) : cR l yX11_mayBegin wsX11_mayBegin rmX11_mayBegin [.ref a_t] D [(a_t, .inr (11, [.int v_t_thrown, .ref a_t_text, .int v_t_typed, .int v_t_spot, .int v_t_token, .int v_t_place, .int v_t_value, .int v_t_fault, .int v_t_copies, .int v_t_draftCopies, .ref a_t_draft, .ref a_t_s, .ref a_t_undos, .int v_t_undoMany, .ref a_t_kept, .ref a_t_isKept, .ref a_t_seenWay, .ref a_t_seenIs, .int v_t_seenMany, .int v_t_asked, .ref a_t_sums, .ref a_t_parts, .ref a_t_heaps])), (a_t_draft, .inl (cI, 103, .inl v_t_draft))] (KX D cI cZ) r := by
  refine cR_of (cc := cX11_mayBegin) (maxL := 1) (ret := some .boolean) (by decide +kernel) rfl _ (Nat.le_of_ble_eq_true rfl) ?_
  intro p e s m below meth c ls S hr hlk hP hK hl
  obtain ⟨hx, hb, hml, hown, hts⟩ := id S
  have hl : lv_has ls 1 [(0, .ref a_t)] := hl
  unfold fX11_mayBegin at hf
  refine lv_aload_n hx hb dX11_mayBegin_0 rfl (lv_at hl 0 rfl) ?_
  refine va_get (D := D) (ci := 11) (v := .int v_t_value) (C := RX11) (T := TX11) (N := 23) hx hb hts iX11_mayBegin_X11 hown hK.1 hP 0 rfl rfl 6 (by decide) (hts _ mX11_mayBegin_1) (fun _ h9 => h9) rfl dX11_mayBegin_1 ?_
  refine lv_iconst (v := 3) hx hb dX11_mayBegin_4 (by decide) ?_
  refine lv_icmp_ge (tgt := 25) hx hb dX11_mayBegin_5 (by decide) (fun jc1 => ?_) (fun jc1 => ?_)
  · have hf := ite_t jc1 hf
    refine lv_aload_n hx hb dX11_mayBegin_25 rfl (lv_at hl 0 rfl) ?_
    refine va_get (D := D) (ci := 11) (v := .ref a_t_draft) (C := RX11) (T := TX11) (N := 23) hx hb hts iX11_mayBegin_X11 hown hK.1 hP 0 rfl rfl 10 (by decide) (hts _ mX11_mayBegin_3) (fun _ h9 => h9) rfl dX11_mayBegin_26 ?_
    refine lv_bipush (v := 31) hx hb dX11_mayBegin_29 (by decide) ?_
    refine lv_aload_n hx hb dX11_mayBegin_31 rfl (lv_at hl 0 rfl) ?_
    refine va_get (D := D) (ci := 11) (v := .int v_t_value) (C := RX11) (T := TX11) (N := 23) hx hb hts iX11_mayBegin_X11 hown hK.1 hP 0 rfl rfl 6 (by decide) (hts _ mX11_mayBegin_1) (fun _ h9 => h9) rfl dX11_mayBegin_32 ?_
    refine lv_iconst (v := 3) hx hb dX11_mayBegin_35 (by decide) ?_
    refine lv_icmp_ne (tgt := 44) hx hb dX11_mayBegin_36 (by decide) (fun jc2 => ?_) (fun jc2 => ?_)
    · have hf := ite_f jc2 hf
      refine lv_bipush (v := 7) hx hb dX11_mayBegin_44 (by decide) ?_
      refine lv_iadd hx hb dX11_mayBegin_46 ?_
      obtain ⟨jh3, hf⟩ := ckI_inv hf
      refine va_iald hx hb hK.1 hP 1 0 rfl rfl jh3 dX11_mayBegin_47 ?_
      refine lv_if_ne (tgt := 55) hx hb dX11_mayBegin_48 (by decide) (fun jc4 => ?_) (fun jc4 => ?_)
      · have hf := ite_f jc4 hf
        refine lv_iconst (v := 0) hx hb dX11_mayBegin_55 (by decide) ?_
        obtain rfl := Option.some.inj hf
        exact retRz hx hb hr hlk (by decide) dX11_mayBegin_56
      · have hf := ite_t jc4 hf
        refine lv_iconst (v := 1) hx hb dX11_mayBegin_51 (by decide) ?_
        refine lv_goto (tgt := 56) hx hb dX11_mayBegin_52 (by decide) ?_
        obtain rfl := Option.some.inj hf
        exact retRz hx hb hr hlk (by decide) dX11_mayBegin_56
    · have hf := ite_t jc2 hf
      refine lv_bipush (v := 6) hx hb dX11_mayBegin_39 (by decide) ?_
      refine lv_goto (tgt := 46) hx hb dX11_mayBegin_41 (by decide) ?_
      refine lv_iadd hx hb dX11_mayBegin_46 ?_
      obtain ⟨jh5, hf⟩ := ckI_inv hf
      refine va_iald hx hb hK.1 hP 1 0 rfl rfl jh5 dX11_mayBegin_47 ?_
      refine lv_if_ne (tgt := 55) hx hb dX11_mayBegin_48 (by decide) (fun jc6 => ?_) (fun jc6 => ?_)
      · have hf := ite_f jc6 hf
        refine lv_iconst (v := 0) hx hb dX11_mayBegin_55 (by decide) ?_
        obtain rfl := Option.some.inj hf
        exact retRz hx hb hr hlk (by decide) dX11_mayBegin_56
      · have hf := ite_t jc6 hf
        refine lv_iconst (v := 1) hx hb dX11_mayBegin_51 (by decide) ?_
        refine lv_goto (tgt := 56) hx hb dX11_mayBegin_52 (by decide) ?_
        obtain rfl := Option.some.inj hf
        exact retRz hx hb hr hlk (by decide) dX11_mayBegin_56
  · have hf := ite_f jc1 hf
    refine lv_aload_n hx hb dX11_mayBegin_8 rfl (lv_at hl 0 rfl) ?_
    refine va_get (D := D) (ci := 11) (v := .int v_t_draftCopies) (C := RX11) (T := TX11) (N := 23) hx hb hts iX11_mayBegin_X11 hown hK.1 hP 0 rfl rfl 9 (by decide) (hts _ mX11_mayBegin_2) (fun _ h9 => h9) rfl dX11_mayBegin_9 ?_
    refine lv_bipush (v := 6) hx hb dX11_mayBegin_12 (by decide) ?_
    refine lv_icmp_ge (tgt := 21) hx hb dX11_mayBegin_14 (by decide) (fun jc7 => ?_) (fun jc7 => ?_)
    · have hf := ite_t jc7 hf
      refine lv_iconst (v := 0) hx hb dX11_mayBegin_21 (by decide) ?_
      refine lv_goto (tgt := 56) hx hb dX11_mayBegin_22 (by decide) ?_
      obtain rfl := Option.some.inj hf
      exact retRz hx hb hr hlk (by decide) dX11_mayBegin_56
    · have hf := ite_f jc7 hf
      refine lv_iconst (v := 1) hx hb dX11_mayBegin_17 (by decide) ?_
      refine lv_goto (tgt := 56) hx hb dX11_mayBegin_18 (by decide) ?_
      obtain rfl := Option.some.inj hf
      exact retRz hx hb hr hlk (by decide) dX11_mayBegin_56
def fX11_readsItem_81 (v_t_typed : Int32) (v_t_text : (Nat → Int32)) (jx1 : Int32) (jx2 : Int32) (jy0 : Int32) (jy1 : Int32) (v_t_spot : Int32) (v_t_token : Int32) (v_t_place : Int32) (v_t_value : Int32) (v_t_fault : Int32) (v_t_draftCopies : Int32) (v_t_draft : (Nat → Int32)) : Option (Int32 × Int32 × Int32 × Int32 × Int32 × Int32 × (Nat → Int32)) := ckI 103 jy1 (ckI 103 (39 : Int32) (if jx1 = (2 : Int32) then ckI 103 (39 : Int32) (some (v_t_spot, v_t_token, v_t_place, v_t_value, v_t_fault, (v_t_draftCopies + (1 : Int32)), (upd (upd v_t_draft (Int32.toNatClampNeg jy1) jy0) (Int32.toNatClampNeg (39 : Int32)) (((upd v_t_draft (Int32.toNatClampNeg jy1) jy0) (Int32.toNatClampNeg (39 : Int32))) ||| ((1 : Int32) <<< (jx2 &&& 31)))))) else ckI 103 (39 : Int32) (some (v_t_spot, v_t_token, v_t_place, v_t_value, v_t_fault, (v_t_draftCopies + (1 : Int32)), (upd (upd v_t_draft (Int32.toNatClampNeg jy1) jy0) (Int32.toNatClampNeg (39 : Int32)) (((upd v_t_draft (Int32.toNatClampNeg jy1) jy0) (Int32.toNatClampNeg (39 : Int32))) ||| (0 : Int32)))))))
def fX11_readsItem (jx1 : Int32) (v_t_typed : Int32) (v_t_spot : Int32) (v_t_token : Int32) (v_t_place : Int32) (v_t_value : Int32) (v_t_fault : Int32) (v_t_draftCopies : Int32) (v_t_text : (Nat → Int32)) (v_t_draft : (Nat → Int32)) : Option (Int32 × Int32 × Int32 × Int32 × Int32 × Int32 × (Nat → Int32)) := if jx1 ≤ (2 : Int32) then bd6 (fX11_number (0 : Int32) (5 : Int32) v_t_typed v_t_spot v_t_token v_t_place v_t_value v_t_fault v_t_text) (fun jr2 jg3 jg4 jg5 jg6 jg7 => ckI 103 ((31 : Int32) + v_t_draftCopies) (ckI 103 ((0 : Int32) + v_t_draftCopies) (if jx1 = (2 : Int32) then fX11_readsItem_81 v_t_typed v_t_text jx1 v_t_draftCopies (-9 : Int32) ((18 : Int32) + v_t_draftCopies) jg3 jg4 jg5 jg6 jg7 v_t_draftCopies (upd (upd v_t_draft (Int32.toNatClampNeg ((31 : Int32) + v_t_draftCopies)) jr2) (Int32.toNatClampNeg ((0 : Int32) + v_t_draftCopies)) (1 : Int32)) else fX11_readsItem_81 v_t_typed v_t_text jx1 v_t_draftCopies (0 : Int32) ((18 : Int32) + v_t_draftCopies) jg3 jg4 jg5 jg6 jg7 v_t_draftCopies (upd (upd v_t_draft (Int32.toNatClampNeg ((31 : Int32) + v_t_draftCopies)) jr2) (Int32.toNatClampNeg ((0 : Int32) + v_t_draftCopies)) (1 : Int32))))) else if jx1 = (3 : Int32) then bd6 (fX11_number (1 : Int32) (30 : Int32) v_t_typed v_t_spot v_t_token v_t_place v_t_value v_t_fault v_t_text) (fun jr21 jg22 jg23 jg24 jg25 jg26 => ckI 103 ((31 : Int32) + (6 : Int32)) (some (jg22, jg23, jg24, jg25, jg26, v_t_draftCopies, (upd v_t_draft (Int32.toNatClampNeg ((31 : Int32) + (6 : Int32))) jr21)))) else bd6 (fX11_number (1 : Int32) (30 : Int32) v_t_typed v_t_spot v_t_token v_t_place v_t_value v_t_fault v_t_text) (fun jr13 jg14 jg15 jg16 jg17 jg18 => ckI 103 ((31 : Int32) + (7 : Int32)) (some (jg14, jg15, jg16, jg17, jg18, v_t_draftCopies, (upd v_t_draft (Int32.toNatClampNeg ((31 : Int32) + (7 : Int32))) jr13))))
abbrev rmX11_readsItem : Room := { frames := 6, cells := 0, slots := 0, locals := 134 }
theorem iX11_readsItem_X11 : ∀ w ∈ wsX110, w ∈ wsX11_readsItem := fun _ h => List.mem_cons_of_mem _ (List.mem_append_right _ h)
theorem mX11_readsItem_1 : (Cond.fieldLink RX11 13 "VoteFilesModel" "draft" "[I") ∈ wsX11_readsItem := List.mem_of_getElem? (i := 1) rfl
theorem mX11_readsItem_2 : (Cond.fieldLink RX11 98 "VoteFilesModel" "draftCopies" "I") ∈ wsX11_readsItem := List.mem_of_getElem? (i := 2) rfl
set_option maxHeartbeats 4000000 in
set_option maxRecDepth 100000 in
theorem wX11_readsItem_81 {p : Program} {l : Launch} {e : Env} {s : State} {m : MethodId} {args : Array Value} {below : List Frame} {meth : Method} {c : Code} {D : va_G} {cI cZ : ClassId} (S : CallFix p m c cX11_readsItem 3 s args wsX11_readsItem RX11) (hr : meth.sig.returnType = none) (hlk : meth.locks = false) (hK : KX D cI cZ s) {a_t a_t_text a_t_draft a_t_s a_t_undos a_t_kept a_t_isKept a_t_seenWay a_t_seenIs a_t_sums a_t_parts a_t_heaps : Nat} {v_t_typed : Int32} {v_t_text : (Nat → Int32)} {v_t_thrown : Int32} {v_t_copies : Int32} {v_t_undoMany : Int32} {v_t_seenMany : Int32} {v_t_asked : Int32} {o_t_spot : Int32} {o_t_token : Int32} {o_t_place : Int32} {o_t_value : Int32} {o_t_fault : Int32} {o_t_draftCopies : Int32} {o_t_draft : (Nat → Int32)} {A : Nat → Prop} (hA : ∀ q : Nat, s.heap.size ≤ q → A q) : ∀ (jx1 : Int32) (jx2 : Int32) (jy0 : Int32) (jy1 : Int32) (v_t_spot : Int32) (v_t_token : Int32) (v_t_place : Int32) (v_t_value : Int32) (v_t_fault : Int32) (v_t_draftCopies : Int32) (v_t_draft : (Nat → Int32)) (ls : Array Slot) (H : Heap) (locs : List Loc), fX11_readsItem_81 v_t_typed v_t_text jx1 jx2 jy0 jy1 v_t_spot v_t_token v_t_place v_t_value v_t_fault v_t_draftCopies v_t_draft = some (o_t_spot, o_t_token, o_t_place, o_t_value, o_t_fault, o_t_draftCopies, o_t_draft) → lv_has ls 3 [(0, .ref a_t), (1, .int jx1), (2, .int jx2)] → va_P D vwCl [(a_t, .inr (11, [.int v_t_thrown, .ref a_t_text, .int v_t_typed, .int v_t_spot, .int v_t_token, .int v_t_place, .int v_t_value, .int v_t_fault, .int v_t_copies, .int v_t_draftCopies, .ref a_t_draft, .ref a_t_s, .ref a_t_undos, .int v_t_undoMany, .ref a_t_kept, .ref a_t_isKept, .ref a_t_seenWay, .ref a_t_seenIs, .int v_t_seenMany, .int v_t_asked, .ref a_t_sums, .ref a_t_parts, .ref a_t_heaps])), (a_t_text, .inl (cI, 120, .inl v_t_text)), (a_t_draft, .inl (cI, 103, .inl v_t_draft))] H → va_D A [(a_t, .inr (11, [.int v_t_thrown, .ref a_t_text, .int v_t_typed, .int v_t_spot, .int v_t_token, .int v_t_place, .int v_t_value, .int v_t_fault, .int v_t_copies, .int v_t_draftCopies, .ref a_t_draft, .ref a_t_s, .ref a_t_undos, .int v_t_undoMany, .ref a_t_kept, .ref a_t_isKept, .ref a_t_seenWay, .ref a_t_seenIs, .int v_t_seenMany, .int v_t_asked, .ref a_t_sums, .ref a_t_parts, .ref a_t_heaps])), (a_t_text, .inl (cI, 120, .inl v_t_text)), (a_t_draft, .inl (cI, 103, .inl v_t_draft))] → va_S A s.heap H locs → W p l e rmX11_readsItem s m args below meth c H locs 0 0 (MQ below (qM D none [(a_t, .inr (11, [.int v_t_thrown, .ref a_t_text, .int v_t_typed, .int o_t_spot, .int o_t_token, .int o_t_place, .int o_t_value, .int o_t_fault, .int v_t_copies, .int o_t_draftCopies, .ref a_t_draft, .ref a_t_s, .ref a_t_undos, .int v_t_undoMany, .ref a_t_kept, .ref a_t_isKept, .ref a_t_seenWay, .ref a_t_seenIs, .int v_t_seenMany, .int v_t_asked, .ref a_t_sums, .ref a_t_parts, .ref a_t_heaps])), (a_t_text, .inl (cI, 120, .inl v_t_text)), (a_t_draft, .inl (cI, 103, .inl o_t_draft))] A) args s 0 0 A) (F0 m 81 ls [.int jy0, .int jy1, .ref a_t_draft]) := by
  obtain ⟨hx, hb, hml, hown, hts⟩ := id S
  intro jx1 jx2 jy0 jy1 v_t_spot v_t_token v_t_place v_t_value v_t_fault v_t_draftCopies v_t_draft ls H locs hf hl hP hD hS
  unfold fX11_readsItem_81 at hf
  obtain ⟨jh1, hf⟩ := ckI_inv hf
  refine va_iast hx hb hK.1 hP hD hS 2 0 rfl rfl jh1 dX11_readsItem_81 (fun H locs hP hD hS => ?_)
  have hP : va_P D vwCl [(a_t, .inr (11, [.int v_t_thrown, .ref a_t_text, .int v_t_typed, .int v_t_spot, .int v_t_token, .int v_t_place, .int v_t_value, .int v_t_fault, .int v_t_copies, .int v_t_draftCopies, .ref a_t_draft, .ref a_t_s, .ref a_t_undos, .int v_t_undoMany, .ref a_t_kept, .ref a_t_isKept, .ref a_t_seenWay, .ref a_t_seenIs, .int v_t_seenMany, .int v_t_asked, .ref a_t_sums, .ref a_t_parts, .ref a_t_heaps])), (a_t_text, .inl (cI, 120, .inl v_t_text)), (a_t_draft, .inl (cI, 103, .inl (upd v_t_draft (Int32.toNatClampNeg jy1) jy0)))] H := hP
  have hD : va_D A [(a_t, .inr (11, [.int v_t_thrown, .ref a_t_text, .int v_t_typed, .int v_t_spot, .int v_t_token, .int v_t_place, .int v_t_value, .int v_t_fault, .int v_t_copies, .int v_t_draftCopies, .ref a_t_draft, .ref a_t_s, .ref a_t_undos, .int v_t_undoMany, .ref a_t_kept, .ref a_t_isKept, .ref a_t_seenWay, .ref a_t_seenIs, .int v_t_seenMany, .int v_t_asked, .ref a_t_sums, .ref a_t_parts, .ref a_t_heaps])), (a_t_text, .inl (cI, 120, .inl v_t_text)), (a_t_draft, .inl (cI, 103, .inl (upd v_t_draft (Int32.toNatClampNeg jy1) jy0)))] := hD
  refine lv_aload_n hx hb dX11_readsItem_82 rfl (lv_at hl 0 rfl) ?_
  refine va_get (D := D) (ci := 11) (v := .ref a_t_draft) (C := RX11) (T := TX11) (N := 23) hx hb hts iX11_readsItem_X11 hown hK.1 hP 0 rfl rfl 10 (by decide) (hts _ mX11_readsItem_1) (fun _ h9 => h9) rfl dX11_readsItem_83 ?_
  refine lv_bipush (v := 39) hx hb dX11_readsItem_86 (by decide) ?_
  refine lv_dup2_11 hx hb dX11_readsItem_88 rfl rfl ?_
  obtain ⟨jh2, hf⟩ := ckI_inv hf
  refine va_iald hx hb hK.1 hP 2 0 rfl rfl jh2 dX11_readsItem_89 ?_
  refine lv_iload_n hx hb dX11_readsItem_90 rfl (lv_at hl 1 rfl) ?_
  refine lv_iconst (v := 2) hx hb dX11_readsItem_91 (by decide) ?_
  refine lv_icmp_ne (tgt := 101) hx hb dX11_readsItem_92 (by decide) (fun jc3 => ?_) (fun jc3 => ?_)
  · have hf := ite_f jc3 hf
    refine lv_iconst (v := 0) hx hb dX11_readsItem_101 (by decide) ?_
    refine lv_ior hx hb dX11_readsItem_102 ?_
    obtain ⟨jh4, hf⟩ := ckI_inv hf
    refine va_iast hx hb hK.1 hP hD hS 2 0 rfl rfl jh4 dX11_readsItem_103 (fun H locs hP hD hS => ?_)
    have hP : va_P D vwCl [(a_t, .inr (11, [.int v_t_thrown, .ref a_t_text, .int v_t_typed, .int v_t_spot, .int v_t_token, .int v_t_place, .int v_t_value, .int v_t_fault, .int v_t_copies, .int v_t_draftCopies, .ref a_t_draft, .ref a_t_s, .ref a_t_undos, .int v_t_undoMany, .ref a_t_kept, .ref a_t_isKept, .ref a_t_seenWay, .ref a_t_seenIs, .int v_t_seenMany, .int v_t_asked, .ref a_t_sums, .ref a_t_parts, .ref a_t_heaps])), (a_t_text, .inl (cI, 120, .inl v_t_text)), (a_t_draft, .inl (cI, 103, .inl (upd (upd v_t_draft (Int32.toNatClampNeg jy1) jy0) (Int32.toNatClampNeg (39 : Int32)) (((upd v_t_draft (Int32.toNatClampNeg jy1) jy0) (Int32.toNatClampNeg (39 : Int32))) ||| (0 : Int32)))))] H := hP
    have hD : va_D A [(a_t, .inr (11, [.int v_t_thrown, .ref a_t_text, .int v_t_typed, .int v_t_spot, .int v_t_token, .int v_t_place, .int v_t_value, .int v_t_fault, .int v_t_copies, .int v_t_draftCopies, .ref a_t_draft, .ref a_t_s, .ref a_t_undos, .int v_t_undoMany, .ref a_t_kept, .ref a_t_isKept, .ref a_t_seenWay, .ref a_t_seenIs, .int v_t_seenMany, .int v_t_asked, .ref a_t_sums, .ref a_t_parts, .ref a_t_heaps])), (a_t_text, .inl (cI, 120, .inl v_t_text)), (a_t_draft, .inl (cI, 103, .inl (upd (upd v_t_draft (Int32.toNatClampNeg jy1) jy0) (Int32.toNatClampNeg (39 : Int32)) (((upd v_t_draft (Int32.toNatClampNeg jy1) jy0) (Int32.toNatClampNeg (39 : Int32))) ||| (0 : Int32)))))] := hD
    refine lv_aload_n hx hb dX11_readsItem_104 rfl (lv_at hl 0 rfl) ?_
    refine lv_dup hx hb dX11_readsItem_105 rfl ?_
    refine va_get (D := D) (ci := 11) (v := .int v_t_draftCopies) (C := RX11) (T := TX11) (N := 23) hx hb hts iX11_readsItem_X11 hown hK.1 hP 0 rfl rfl 9 (by decide) (hts _ mX11_readsItem_2) (fun _ h9 => h9) rfl dX11_readsItem_106 ?_
    refine lv_iconst (v := 1) hx hb dX11_readsItem_109 (by decide) ?_
    refine lv_iadd hx hb dX11_readsItem_110 ?_
    refine va_put (D := D) (ci := 11) (v := .int (v_t_draftCopies + (1 : Int32))) (ty := .int) (C := RX11) (T := TX11) (N := 23) hx hb hts iX11_readsItem_X11 tyX11 tyX11_ok nmX11 hown hK.1 hP hD hS 0 rfl rfl 9 (by decide) (hts _ mX11_readsItem_2) (fun _ h9 => h9) rfl (tyX11_ok 9 (by decide)) rfl rfl (Nat.le_of_ble_eq_true rfl) dX11_readsItem_111 (fun H locs hP hD hS => ?_)
    have hP : va_P D vwCl [(a_t, .inr (11, [.int v_t_thrown, .ref a_t_text, .int v_t_typed, .int v_t_spot, .int v_t_token, .int v_t_place, .int v_t_value, .int v_t_fault, .int v_t_copies, .int (v_t_draftCopies + (1 : Int32)), .ref a_t_draft, .ref a_t_s, .ref a_t_undos, .int v_t_undoMany, .ref a_t_kept, .ref a_t_isKept, .ref a_t_seenWay, .ref a_t_seenIs, .int v_t_seenMany, .int v_t_asked, .ref a_t_sums, .ref a_t_parts, .ref a_t_heaps])), (a_t_text, .inl (cI, 120, .inl v_t_text)), (a_t_draft, .inl (cI, 103, .inl (upd (upd v_t_draft (Int32.toNatClampNeg jy1) jy0) (Int32.toNatClampNeg (39 : Int32)) (((upd v_t_draft (Int32.toNatClampNeg jy1) jy0) (Int32.toNatClampNeg (39 : Int32))) ||| (0 : Int32)))))] H := hP
    have hD : va_D A [(a_t, .inr (11, [.int v_t_thrown, .ref a_t_text, .int v_t_typed, .int v_t_spot, .int v_t_token, .int v_t_place, .int v_t_value, .int v_t_fault, .int v_t_copies, .int (v_t_draftCopies + (1 : Int32)), .ref a_t_draft, .ref a_t_s, .ref a_t_undos, .int v_t_undoMany, .ref a_t_kept, .ref a_t_isKept, .ref a_t_seenWay, .ref a_t_seenIs, .int v_t_seenMany, .int v_t_asked, .ref a_t_sums, .ref a_t_parts, .ref a_t_heaps])), (a_t_text, .inl (cI, 120, .inl v_t_text)), (a_t_draft, .inl (cI, 103, .inl (upd (upd v_t_draft (Int32.toNatClampNeg jy1) jy0) (Int32.toNatClampNeg (39 : Int32)) (((upd v_t_draft (Int32.toNatClampNeg jy1) jy0) (Int32.toNatClampNeg (39 : Int32))) ||| (0 : Int32)))))] := hD
    obtain ⟨rfl, rfl, rfl, rfl, rfl, rfl, rfl⟩ := pr7_inv hf
    exact retMv hx hb hr hlk hP hD hS dX11_readsItem_114
  · have hf := ite_t jc3 hf
    refine lv_iconst (v := 1) hx hb dX11_readsItem_95 (by decide) ?_
    refine lv_iload_n hx hb dX11_readsItem_96 rfl (lv_at hl 2 rfl) ?_
    refine lv_ishl hx hb dX11_readsItem_97 ?_
    refine lv_goto (tgt := 102) hx hb dX11_readsItem_98 (by decide) ?_
    refine lv_ior hx hb dX11_readsItem_102 ?_
    obtain ⟨jh5, hf⟩ := ckI_inv hf
    refine va_iast hx hb hK.1 hP hD hS 2 0 rfl rfl jh5 dX11_readsItem_103 (fun H locs hP hD hS => ?_)
    have hP : va_P D vwCl [(a_t, .inr (11, [.int v_t_thrown, .ref a_t_text, .int v_t_typed, .int v_t_spot, .int v_t_token, .int v_t_place, .int v_t_value, .int v_t_fault, .int v_t_copies, .int v_t_draftCopies, .ref a_t_draft, .ref a_t_s, .ref a_t_undos, .int v_t_undoMany, .ref a_t_kept, .ref a_t_isKept, .ref a_t_seenWay, .ref a_t_seenIs, .int v_t_seenMany, .int v_t_asked, .ref a_t_sums, .ref a_t_parts, .ref a_t_heaps])), (a_t_text, .inl (cI, 120, .inl v_t_text)), (a_t_draft, .inl (cI, 103, .inl (upd (upd v_t_draft (Int32.toNatClampNeg jy1) jy0) (Int32.toNatClampNeg (39 : Int32)) (((upd v_t_draft (Int32.toNatClampNeg jy1) jy0) (Int32.toNatClampNeg (39 : Int32))) ||| ((1 : Int32) <<< (jx2 &&& 31))))))] H := hP
    have hD : va_D A [(a_t, .inr (11, [.int v_t_thrown, .ref a_t_text, .int v_t_typed, .int v_t_spot, .int v_t_token, .int v_t_place, .int v_t_value, .int v_t_fault, .int v_t_copies, .int v_t_draftCopies, .ref a_t_draft, .ref a_t_s, .ref a_t_undos, .int v_t_undoMany, .ref a_t_kept, .ref a_t_isKept, .ref a_t_seenWay, .ref a_t_seenIs, .int v_t_seenMany, .int v_t_asked, .ref a_t_sums, .ref a_t_parts, .ref a_t_heaps])), (a_t_text, .inl (cI, 120, .inl v_t_text)), (a_t_draft, .inl (cI, 103, .inl (upd (upd v_t_draft (Int32.toNatClampNeg jy1) jy0) (Int32.toNatClampNeg (39 : Int32)) (((upd v_t_draft (Int32.toNatClampNeg jy1) jy0) (Int32.toNatClampNeg (39 : Int32))) ||| ((1 : Int32) <<< (jx2 &&& 31))))))] := hD
    refine lv_aload_n hx hb dX11_readsItem_104 rfl (lv_at hl 0 rfl) ?_
    refine lv_dup hx hb dX11_readsItem_105 rfl ?_
    refine va_get (D := D) (ci := 11) (v := .int v_t_draftCopies) (C := RX11) (T := TX11) (N := 23) hx hb hts iX11_readsItem_X11 hown hK.1 hP 0 rfl rfl 9 (by decide) (hts _ mX11_readsItem_2) (fun _ h9 => h9) rfl dX11_readsItem_106 ?_
    refine lv_iconst (v := 1) hx hb dX11_readsItem_109 (by decide) ?_
    refine lv_iadd hx hb dX11_readsItem_110 ?_
    refine va_put (D := D) (ci := 11) (v := .int (v_t_draftCopies + (1 : Int32))) (ty := .int) (C := RX11) (T := TX11) (N := 23) hx hb hts iX11_readsItem_X11 tyX11 tyX11_ok nmX11 hown hK.1 hP hD hS 0 rfl rfl 9 (by decide) (hts _ mX11_readsItem_2) (fun _ h9 => h9) rfl (tyX11_ok 9 (by decide)) rfl rfl (Nat.le_of_ble_eq_true rfl) dX11_readsItem_111 (fun H locs hP hD hS => ?_)
    have hP : va_P D vwCl [(a_t, .inr (11, [.int v_t_thrown, .ref a_t_text, .int v_t_typed, .int v_t_spot, .int v_t_token, .int v_t_place, .int v_t_value, .int v_t_fault, .int v_t_copies, .int (v_t_draftCopies + (1 : Int32)), .ref a_t_draft, .ref a_t_s, .ref a_t_undos, .int v_t_undoMany, .ref a_t_kept, .ref a_t_isKept, .ref a_t_seenWay, .ref a_t_seenIs, .int v_t_seenMany, .int v_t_asked, .ref a_t_sums, .ref a_t_parts, .ref a_t_heaps])), (a_t_text, .inl (cI, 120, .inl v_t_text)), (a_t_draft, .inl (cI, 103, .inl (upd (upd v_t_draft (Int32.toNatClampNeg jy1) jy0) (Int32.toNatClampNeg (39 : Int32)) (((upd v_t_draft (Int32.toNatClampNeg jy1) jy0) (Int32.toNatClampNeg (39 : Int32))) ||| ((1 : Int32) <<< (jx2 &&& 31))))))] H := hP
    have hD : va_D A [(a_t, .inr (11, [.int v_t_thrown, .ref a_t_text, .int v_t_typed, .int v_t_spot, .int v_t_token, .int v_t_place, .int v_t_value, .int v_t_fault, .int v_t_copies, .int (v_t_draftCopies + (1 : Int32)), .ref a_t_draft, .ref a_t_s, .ref a_t_undos, .int v_t_undoMany, .ref a_t_kept, .ref a_t_isKept, .ref a_t_seenWay, .ref a_t_seenIs, .int v_t_seenMany, .int v_t_asked, .ref a_t_sums, .ref a_t_parts, .ref a_t_heaps])), (a_t_text, .inl (cI, 120, .inl v_t_text)), (a_t_draft, .inl (cI, 103, .inl (upd (upd v_t_draft (Int32.toNatClampNeg jy1) jy0) (Int32.toNatClampNeg (39 : Int32)) (((upd v_t_draft (Int32.toNatClampNeg jy1) jy0) (Int32.toNatClampNeg (39 : Int32))) ||| ((1 : Int32) <<< (jx2 &&& 31))))))] := hD
    obtain ⟨rfl, rfl, rfl, rfl, rfl, rfl, rfl⟩ := pr7_inv hf
    exact retMv hx hb hr hlk hP hD hS dX11_readsItem_114
theorem hdX11_readsItem : yX11_readsItem.cls ≠ "java/lang/invoke/MethodHandle" ∧ yX11_readsItem.cls ≠ "java/lang/invoke/VarHandle" ∧ (parseMethodDescriptor yX11_readsItem.desc).map (fun d => d.parameters.length) = some 1 := by decide +kernel
set_option maxHeartbeats 4000000 in
set_option maxRecDepth 100000 in
theorem ctX11_readsItem (l : Launch) (D : va_G) (cI cZ : ClassId) (a_t a_t_text a_t_draft a_t_s a_t_undos a_t_kept a_t_isKept a_t_seenWay a_t_seenIs a_t_sums a_t_parts a_t_heaps : Nat) (jx1 : Int32) (v_t_typed : Int32) (v_t_spot : Int32) (v_t_token : Int32) (v_t_place : Int32) (v_t_value : Int32) (v_t_fault : Int32) (v_t_draftCopies : Int32) (v_t_text : (Nat → Int32)) (v_t_draft : (Nat → Int32)) (v_t_thrown : Int32) (v_t_copies : Int32) (v_t_undoMany : Int32) (v_t_seenMany : Int32) (v_t_asked : Int32) (o_t_spot : Int32) (o_t_token : Int32) (o_t_place : Int32) (o_t_value : Int32) (o_t_fault : Int32) (o_t_draftCopies : Int32) (o_t_draft : (Nat → Int32)) (hf : fX11_readsItem jx1 v_t_typed v_t_spot v_t_token v_t_place v_t_value v_t_fault v_t_draftCopies v_t_text v_t_draft = some (o_t_spot, o_t_token, o_t_place, o_t_value, o_t_fault, o_t_draftCopies, o_t_draft)) : cM l yX11_readsItem wsX11_readsItem rmX11_readsItem [.ref a_t, .int jx1] D [(a_t, .inr (11, [.int v_t_thrown, .ref a_t_text, .int v_t_typed, .int v_t_spot, .int v_t_token, .int v_t_place, .int v_t_value, .int v_t_fault, .int v_t_copies, .int v_t_draftCopies, .ref a_t_draft, .ref a_t_s, .ref a_t_undos, .int v_t_undoMany, .ref a_t_kept, .ref a_t_isKept, .ref a_t_seenWay, .ref a_t_seenIs, .int v_t_seenMany, .int v_t_asked, .ref a_t_sums, .ref a_t_parts, .ref a_t_heaps])), (a_t_text, .inl (cI, 120, .inl v_t_text)), (a_t_draft, .inl (cI, 103, .inl v_t_draft))] [(a_t, .inr (11, [.int v_t_thrown, .ref a_t_text, .int v_t_typed, .int o_t_spot, .int o_t_token, .int o_t_place, .int o_t_value, .int o_t_fault, .int v_t_copies, .int o_t_draftCopies, .ref a_t_draft, .ref a_t_s, .ref a_t_undos, .int v_t_undoMany, .ref a_t_kept, .ref a_t_isKept, .ref a_t_seenWay, .ref a_t_seenIs, .int v_t_seenMany, .int v_t_asked, .ref a_t_sums, .ref a_t_parts, .ref a_t_heaps])), (a_t_text, .inl (cI, 120, .inl v_t_text)), (a_t_draft, .inl (cI, 103, .inl o_t_draft))] (KX D cI cZ) none := by
  refine cM_of (cc := cX11_readsItem) (maxL := 3) (ret := none) (by decide +kernel) rfl _ (Nat.le_of_ble_eq_true rfl) ?_
  intro p e s m below meth c ls A S hr hlk hP hK hl hD hA hS
  obtain ⟨hx, hb, hml, hown, hts⟩ := id S
  have hl : lv_has ls 3 [(0, .ref a_t), (1, .int jx1)] := hl
  unfold fX11_readsItem at hf
  refine lv_iload_n hx hb dX11_readsItem_0 rfl (lv_at hl 1 rfl) ?_
  refine lv_iconst (v := 2) hx hb dX11_readsItem_1 (by decide) ?_
  refine lv_icmp_le (tgt := 33) hx hb dX11_readsItem_2 (by decide) (fun jc1 => ?_) (fun jc1 => ?_)
  · have hf := ite_t jc1 hf
    refine lv_aload_n hx hb dX11_readsItem_33 rfl (lv_at hl 0 rfl) ?_
    refine va_get (D := D) (ci := 11) (v := .int v_t_draftCopies) (C := RX11) (T := TX11) (N := 23) hx hb hts iX11_readsItem_X11 hown hK.1 hP 0 rfl rfl 9 (by decide) (hts _ mX11_readsItem_2) (fun _ h9 => h9) rfl dX11_readsItem_34 ?_
    refine lv_istore_n (lv' := [(2, .int v_t_draftCopies), (0, .ref a_t), (1, .int jx1)]) hx hb dX11_readsItem_37 rfl hl (by decide) rfl (fun ls hl => ?_)
    refine lv_aload_n hx hb dX11_readsItem_38 rfl (lv_at hl 1 rfl) ?_
    refine va_get (D := D) (ci := 11) (v := .ref a_t_draft) (C := RX11) (T := TX11) (N := 23) hx hb hts iX11_readsItem_X11 hown hK.1 hP 0 rfl rfl 10 (by decide) (hts _ mX11_readsItem_1) (fun _ h9 => h9) rfl dX11_readsItem_39 ?_
    refine lv_bipush (v := 31) hx hb dX11_readsItem_42 (by decide) ?_
    refine lv_iload_n hx hb dX11_readsItem_44 rfl (lv_at hl 0 rfl) ?_
    refine lv_iadd hx hb dX11_readsItem_45 ?_
    refine lv_aload_n hx hb dX11_readsItem_46 rfl (lv_at hl 1 rfl) ?_
    refine lv_iconst (v := 0) hx hb dX11_readsItem_47 (by decide) ?_
    refine lv_iconst (v := 5) hx hb dX11_readsItem_48 (by decide) ?_
    obtain ⟨jr2, jg3, jg4, jg5, jg6, jg7, je8, hf⟩ := bd6_inv hf
    refine callMV (As := [.int (0 : Int32), .int (5 : Int32)]) (rest := [.int ((31 : Int32) + v_t_draftCopies), .ref a_t_draft]) (wr := [(a_t_draft, .inl (cI, 103, .inl v_t_draft))]) (wn := [(a_t, .inr (11, [.int v_t_thrown, .ref a_t_text, .int v_t_typed, .int jg3, .int jg4, .int jg5, .int jg6, .int jg7, .int v_t_copies, .int v_t_draftCopies, .ref a_t_draft, .ref a_t_s, .ref a_t_undos, .int v_t_undoMany, .ref a_t_kept, .ref a_t_isKept, .ref a_t_seenWay, .ref a_t_seenIs, .int v_t_seenMany, .int v_t_asked, .ref a_t_sums, .ref a_t_parts, .ref a_t_heaps])), (a_t_text, .inl (cI, 120, .inl v_t_text)), (a_t_draft, .inl (cI, 103, .inl v_t_draft))]) S (ctX11_number l D cI cZ a_t a_t_text a_t_draft a_t_s a_t_undos a_t_kept a_t_isKept a_t_seenWay a_t_seenIs a_t_sums a_t_parts a_t_heaps (0 : Int32) (5 : Int32) v_t_typed v_t_spot v_t_token v_t_place v_t_value v_t_fault v_t_text v_t_thrown v_t_copies v_t_draftCopies v_t_undoMany v_t_seenMany v_t_asked jr2 jg3 jg4 jg5 jg6 jg7 je8) (cwV 2 hts gX11_readsItem_X11_number rfl rfl rfl ⟨rfl, hdX11_number⟩ ⟨Nat.le_of_ble_eq_true rfl, Nat.le_of_ble_eq_true rfl⟩) hP hD hS hA [0, 1] [2] [1, 2, 0] rfl rfl (by decide) (by decide) (by decide) (by decide) rfl KX.xs (fun U _ hW => hK.warm hW) (va_recv hK.1 hP (ci := 11) (q0 := 0) rfl rfl) rfl hl.1 rfl (Nat.le_of_ble_eq_true rfl) dX11_readsItem_49 ⟨Nat.zero_le _, Nat.zero_le _⟩ (fun H locs hP hD hS => ?_)
    refine W.eq (g2 := F0 m 52 ls [.int jr2, .int ((31 : Int32) + v_t_draftCopies), .ref a_t_draft]) rfl ?_
    obtain ⟨jh9, hf⟩ := ckI_inv hf
    refine va_iast hx hb hK.1 hP hD hS 2 0 rfl rfl jh9 dX11_readsItem_52 (fun H locs hP hD hS => ?_)
    have hP : va_P D vwCl [(a_t, .inr (11, [.int v_t_thrown, .ref a_t_text, .int v_t_typed, .int jg3, .int jg4, .int jg5, .int jg6, .int jg7, .int v_t_copies, .int v_t_draftCopies, .ref a_t_draft, .ref a_t_s, .ref a_t_undos, .int v_t_undoMany, .ref a_t_kept, .ref a_t_isKept, .ref a_t_seenWay, .ref a_t_seenIs, .int v_t_seenMany, .int v_t_asked, .ref a_t_sums, .ref a_t_parts, .ref a_t_heaps])), (a_t_text, .inl (cI, 120, .inl v_t_text)), (a_t_draft, .inl (cI, 103, .inl (upd v_t_draft (Int32.toNatClampNeg ((31 : Int32) + v_t_draftCopies)) jr2)))] H := hP
    have hD : va_D A [(a_t, .inr (11, [.int v_t_thrown, .ref a_t_text, .int v_t_typed, .int jg3, .int jg4, .int jg5, .int jg6, .int jg7, .int v_t_copies, .int v_t_draftCopies, .ref a_t_draft, .ref a_t_s, .ref a_t_undos, .int v_t_undoMany, .ref a_t_kept, .ref a_t_isKept, .ref a_t_seenWay, .ref a_t_seenIs, .int v_t_seenMany, .int v_t_asked, .ref a_t_sums, .ref a_t_parts, .ref a_t_heaps])), (a_t_text, .inl (cI, 120, .inl v_t_text)), (a_t_draft, .inl (cI, 103, .inl (upd v_t_draft (Int32.toNatClampNeg ((31 : Int32) + v_t_draftCopies)) jr2)))] := hD
    refine lv_aload_n hx hb dX11_readsItem_53 rfl (lv_at hl 1 rfl) ?_
    refine va_get (D := D) (ci := 11) (v := .ref a_t_draft) (C := RX11) (T := TX11) (N := 23) hx hb hts iX11_readsItem_X11 hown hK.1 hP 0 rfl rfl 10 (by decide) (hts _ mX11_readsItem_1) (fun _ h9 => h9) rfl dX11_readsItem_54 ?_
    refine lv_iconst (v := 0) hx hb dX11_readsItem_57 (by decide) ?_
    refine lv_iload_n hx hb dX11_readsItem_58 rfl (lv_at hl 0 rfl) ?_
    refine lv_iadd hx hb dX11_readsItem_59 ?_
    refine lv_iconst (v := 1) hx hb dX11_readsItem_60 (by decide) ?_
    obtain ⟨jh10, hf⟩ := ckI_inv hf
    refine va_iast hx hb hK.1 hP hD hS 2 0 rfl rfl jh10 dX11_readsItem_61 (fun H locs hP hD hS => ?_)
    have hP : va_P D vwCl [(a_t, .inr (11, [.int v_t_thrown, .ref a_t_text, .int v_t_typed, .int jg3, .int jg4, .int jg5, .int jg6, .int jg7, .int v_t_copies, .int v_t_draftCopies, .ref a_t_draft, .ref a_t_s, .ref a_t_undos, .int v_t_undoMany, .ref a_t_kept, .ref a_t_isKept, .ref a_t_seenWay, .ref a_t_seenIs, .int v_t_seenMany, .int v_t_asked, .ref a_t_sums, .ref a_t_parts, .ref a_t_heaps])), (a_t_text, .inl (cI, 120, .inl v_t_text)), (a_t_draft, .inl (cI, 103, .inl (upd (upd v_t_draft (Int32.toNatClampNeg ((31 : Int32) + v_t_draftCopies)) jr2) (Int32.toNatClampNeg ((0 : Int32) + v_t_draftCopies)) (1 : Int32))))] H := hP
    have hD : va_D A [(a_t, .inr (11, [.int v_t_thrown, .ref a_t_text, .int v_t_typed, .int jg3, .int jg4, .int jg5, .int jg6, .int jg7, .int v_t_copies, .int v_t_draftCopies, .ref a_t_draft, .ref a_t_s, .ref a_t_undos, .int v_t_undoMany, .ref a_t_kept, .ref a_t_isKept, .ref a_t_seenWay, .ref a_t_seenIs, .int v_t_seenMany, .int v_t_asked, .ref a_t_sums, .ref a_t_parts, .ref a_t_heaps])), (a_t_text, .inl (cI, 120, .inl v_t_text)), (a_t_draft, .inl (cI, 103, .inl (upd (upd v_t_draft (Int32.toNatClampNeg ((31 : Int32) + v_t_draftCopies)) jr2) (Int32.toNatClampNeg ((0 : Int32) + v_t_draftCopies)) (1 : Int32))))] := hD
    refine lv_aload_n hx hb dX11_readsItem_62 rfl (lv_at hl 1 rfl) ?_
    refine va_get (D := D) (ci := 11) (v := .ref a_t_draft) (C := RX11) (T := TX11) (N := 23) hx hb hts iX11_readsItem_X11 hown hK.1 hP 0 rfl rfl 10 (by decide) (hts _ mX11_readsItem_1) (fun _ h9 => h9) rfl dX11_readsItem_63 ?_
    refine lv_bipush (v := 18) hx hb dX11_readsItem_66 (by decide) ?_
    refine lv_iload_n hx hb dX11_readsItem_68 rfl (lv_at hl 0 rfl) ?_
    refine lv_iadd hx hb dX11_readsItem_69 ?_
    refine lv_iload_n hx hb dX11_readsItem_70 rfl (lv_at hl 2 rfl) ?_
    refine lv_iconst (v := 2) hx hb dX11_readsItem_71 (by decide) ?_
    refine lv_icmp_ne (tgt := 80) hx hb dX11_readsItem_72 (by decide) (fun jc11 => ?_) (fun jc11 => ?_)
    · have hf := ite_f jc11 hf
      refine lv_iconst (v := 0) hx hb dX11_readsItem_80 (by decide) ?_
      exact wX11_readsItem_81 S hr hlk hK hA jx1 v_t_draftCopies (0 : Int32) ((18 : Int32) + v_t_draftCopies) jg3 jg4 jg5 jg6 jg7 v_t_draftCopies (upd (upd v_t_draft (Int32.toNatClampNeg ((31 : Int32) + v_t_draftCopies)) jr2) (Int32.toNatClampNeg ((0 : Int32) + v_t_draftCopies)) (1 : Int32)) ls _ _ hf (lv_sub hl [1, 2, 0] rfl) hP hD hS
    · have hf := ite_t jc11 hf
      refine lv_bipush (v := -9) hx hb dX11_readsItem_75 (by decide) ?_
      refine lv_goto (tgt := 81) hx hb dX11_readsItem_77 (by decide) ?_
      exact wX11_readsItem_81 S hr hlk hK hA jx1 v_t_draftCopies (-9 : Int32) ((18 : Int32) + v_t_draftCopies) jg3 jg4 jg5 jg6 jg7 v_t_draftCopies (upd (upd v_t_draft (Int32.toNatClampNeg ((31 : Int32) + v_t_draftCopies)) jr2) (Int32.toNatClampNeg ((0 : Int32) + v_t_draftCopies)) (1 : Int32)) ls _ _ hf (lv_sub hl [1, 2, 0] rfl) hP hD hS
  · have hf := ite_f jc1 hf
    refine lv_aload_n hx hb dX11_readsItem_5 rfl (lv_at hl 0 rfl) ?_
    refine va_get (D := D) (ci := 11) (v := .ref a_t_draft) (C := RX11) (T := TX11) (N := 23) hx hb hts iX11_readsItem_X11 hown hK.1 hP 0 rfl rfl 10 (by decide) (hts _ mX11_readsItem_1) (fun _ h9 => h9) rfl dX11_readsItem_6 ?_
    refine lv_bipush (v := 31) hx hb dX11_readsItem_9 (by decide) ?_
    refine lv_iload_n hx hb dX11_readsItem_11 rfl (lv_at hl 1 rfl) ?_
    refine lv_iconst (v := 3) hx hb dX11_readsItem_12 (by decide) ?_
    refine lv_icmp_ne (tgt := 21) hx hb dX11_readsItem_13 (by decide) (fun jc12 => ?_) (fun jc12 => ?_)
    · have hf := ite_f jc12 hf
      refine lv_bipush (v := 7) hx hb dX11_readsItem_21 (by decide) ?_
      refine lv_iadd hx hb dX11_readsItem_23 ?_
      refine lv_aload_n hx hb dX11_readsItem_24 rfl (lv_at hl 0 rfl) ?_
      refine lv_iconst (v := 1) hx hb dX11_readsItem_25 (by decide) ?_
      refine lv_bipush (v := 30) hx hb dX11_readsItem_26 (by decide) ?_
      obtain ⟨jr13, jg14, jg15, jg16, jg17, jg18, je19, hf⟩ := bd6_inv hf
      refine callMV (As := [.int (1 : Int32), .int (30 : Int32)]) (rest := [.int ((31 : Int32) + (7 : Int32)), .ref a_t_draft]) (wr := [(a_t_draft, .inl (cI, 103, .inl v_t_draft))]) (wn := [(a_t, .inr (11, [.int v_t_thrown, .ref a_t_text, .int v_t_typed, .int jg14, .int jg15, .int jg16, .int jg17, .int jg18, .int v_t_copies, .int v_t_draftCopies, .ref a_t_draft, .ref a_t_s, .ref a_t_undos, .int v_t_undoMany, .ref a_t_kept, .ref a_t_isKept, .ref a_t_seenWay, .ref a_t_seenIs, .int v_t_seenMany, .int v_t_asked, .ref a_t_sums, .ref a_t_parts, .ref a_t_heaps])), (a_t_text, .inl (cI, 120, .inl v_t_text)), (a_t_draft, .inl (cI, 103, .inl v_t_draft))]) S (ctX11_number l D cI cZ a_t a_t_text a_t_draft a_t_s a_t_undos a_t_kept a_t_isKept a_t_seenWay a_t_seenIs a_t_sums a_t_parts a_t_heaps (1 : Int32) (30 : Int32) v_t_typed v_t_spot v_t_token v_t_place v_t_value v_t_fault v_t_text v_t_thrown v_t_copies v_t_draftCopies v_t_undoMany v_t_seenMany v_t_asked jr13 jg14 jg15 jg16 jg17 jg18 je19) (cwV 2 hts gX11_readsItem_X11_number rfl rfl rfl ⟨rfl, hdX11_number⟩ ⟨Nat.le_of_ble_eq_true rfl, Nat.le_of_ble_eq_true rfl⟩) hP hD hS hA [0, 1] [2] [1, 2, 0] rfl rfl (by decide) (by decide) (by decide) (by decide) rfl KX.xs (fun U _ hW => hK.warm hW) (va_recv hK.1 hP (ci := 11) (q0 := 0) rfl rfl) rfl hl.1 rfl (Nat.le_of_ble_eq_true rfl) dX11_readsItem_28 ⟨Nat.zero_le _, Nat.zero_le _⟩ (fun H locs hP hD hS => ?_)
      refine W.eq (g2 := F0 m 31 ls [.int jr13, .int ((31 : Int32) + (7 : Int32)), .ref a_t_draft]) rfl ?_
      obtain ⟨jh20, hf⟩ := ckI_inv hf
      refine va_iast hx hb hK.1 hP hD hS 2 0 rfl rfl jh20 dX11_readsItem_31 (fun H locs hP hD hS => ?_)
      have hP : va_P D vwCl [(a_t, .inr (11, [.int v_t_thrown, .ref a_t_text, .int v_t_typed, .int jg14, .int jg15, .int jg16, .int jg17, .int jg18, .int v_t_copies, .int v_t_draftCopies, .ref a_t_draft, .ref a_t_s, .ref a_t_undos, .int v_t_undoMany, .ref a_t_kept, .ref a_t_isKept, .ref a_t_seenWay, .ref a_t_seenIs, .int v_t_seenMany, .int v_t_asked, .ref a_t_sums, .ref a_t_parts, .ref a_t_heaps])), (a_t_text, .inl (cI, 120, .inl v_t_text)), (a_t_draft, .inl (cI, 103, .inl (upd v_t_draft (Int32.toNatClampNeg ((31 : Int32) + (7 : Int32))) jr13)))] H := hP
      have hD : va_D A [(a_t, .inr (11, [.int v_t_thrown, .ref a_t_text, .int v_t_typed, .int jg14, .int jg15, .int jg16, .int jg17, .int jg18, .int v_t_copies, .int v_t_draftCopies, .ref a_t_draft, .ref a_t_s, .ref a_t_undos, .int v_t_undoMany, .ref a_t_kept, .ref a_t_isKept, .ref a_t_seenWay, .ref a_t_seenIs, .int v_t_seenMany, .int v_t_asked, .ref a_t_sums, .ref a_t_parts, .ref a_t_heaps])), (a_t_text, .inl (cI, 120, .inl v_t_text)), (a_t_draft, .inl (cI, 103, .inl (upd v_t_draft (Int32.toNatClampNeg ((31 : Int32) + (7 : Int32))) jr13)))] := hD
      obtain ⟨rfl, rfl, rfl, rfl, rfl, rfl, rfl⟩ := pr7_inv hf
      exact retMv hx hb hr hlk hP hD hS dX11_readsItem_32
    · have hf := ite_t jc12 hf
      refine lv_bipush (v := 6) hx hb dX11_readsItem_16 (by decide) ?_
      refine lv_goto (tgt := 23) hx hb dX11_readsItem_18 (by decide) ?_
      refine lv_iadd hx hb dX11_readsItem_23 ?_
      refine lv_aload_n hx hb dX11_readsItem_24 rfl (lv_at hl 0 rfl) ?_
      refine lv_iconst (v := 1) hx hb dX11_readsItem_25 (by decide) ?_
      refine lv_bipush (v := 30) hx hb dX11_readsItem_26 (by decide) ?_
      obtain ⟨jr21, jg22, jg23, jg24, jg25, jg26, je27, hf⟩ := bd6_inv hf
      refine callMV (As := [.int (1 : Int32), .int (30 : Int32)]) (rest := [.int ((31 : Int32) + (6 : Int32)), .ref a_t_draft]) (wr := [(a_t_draft, .inl (cI, 103, .inl v_t_draft))]) (wn := [(a_t, .inr (11, [.int v_t_thrown, .ref a_t_text, .int v_t_typed, .int jg22, .int jg23, .int jg24, .int jg25, .int jg26, .int v_t_copies, .int v_t_draftCopies, .ref a_t_draft, .ref a_t_s, .ref a_t_undos, .int v_t_undoMany, .ref a_t_kept, .ref a_t_isKept, .ref a_t_seenWay, .ref a_t_seenIs, .int v_t_seenMany, .int v_t_asked, .ref a_t_sums, .ref a_t_parts, .ref a_t_heaps])), (a_t_text, .inl (cI, 120, .inl v_t_text)), (a_t_draft, .inl (cI, 103, .inl v_t_draft))]) S (ctX11_number l D cI cZ a_t a_t_text a_t_draft a_t_s a_t_undos a_t_kept a_t_isKept a_t_seenWay a_t_seenIs a_t_sums a_t_parts a_t_heaps (1 : Int32) (30 : Int32) v_t_typed v_t_spot v_t_token v_t_place v_t_value v_t_fault v_t_text v_t_thrown v_t_copies v_t_draftCopies v_t_undoMany v_t_seenMany v_t_asked jr21 jg22 jg23 jg24 jg25 jg26 je27) (cwV 2 hts gX11_readsItem_X11_number rfl rfl rfl ⟨rfl, hdX11_number⟩ ⟨Nat.le_of_ble_eq_true rfl, Nat.le_of_ble_eq_true rfl⟩) hP hD hS hA [0, 1] [2] [1, 2, 0] rfl rfl (by decide) (by decide) (by decide) (by decide) rfl KX.xs (fun U _ hW => hK.warm hW) (va_recv hK.1 hP (ci := 11) (q0 := 0) rfl rfl) rfl hl.1 rfl (Nat.le_of_ble_eq_true rfl) dX11_readsItem_28 ⟨Nat.zero_le _, Nat.zero_le _⟩ (fun H locs hP hD hS => ?_)
      refine W.eq (g2 := F0 m 31 ls [.int jr21, .int ((31 : Int32) + (6 : Int32)), .ref a_t_draft]) rfl ?_
      obtain ⟨jh28, hf⟩ := ckI_inv hf
      refine va_iast hx hb hK.1 hP hD hS 2 0 rfl rfl jh28 dX11_readsItem_31 (fun H locs hP hD hS => ?_)
      have hP : va_P D vwCl [(a_t, .inr (11, [.int v_t_thrown, .ref a_t_text, .int v_t_typed, .int jg22, .int jg23, .int jg24, .int jg25, .int jg26, .int v_t_copies, .int v_t_draftCopies, .ref a_t_draft, .ref a_t_s, .ref a_t_undos, .int v_t_undoMany, .ref a_t_kept, .ref a_t_isKept, .ref a_t_seenWay, .ref a_t_seenIs, .int v_t_seenMany, .int v_t_asked, .ref a_t_sums, .ref a_t_parts, .ref a_t_heaps])), (a_t_text, .inl (cI, 120, .inl v_t_text)), (a_t_draft, .inl (cI, 103, .inl (upd v_t_draft (Int32.toNatClampNeg ((31 : Int32) + (6 : Int32))) jr21)))] H := hP
      have hD : va_D A [(a_t, .inr (11, [.int v_t_thrown, .ref a_t_text, .int v_t_typed, .int jg22, .int jg23, .int jg24, .int jg25, .int jg26, .int v_t_copies, .int v_t_draftCopies, .ref a_t_draft, .ref a_t_s, .ref a_t_undos, .int v_t_undoMany, .ref a_t_kept, .ref a_t_isKept, .ref a_t_seenWay, .ref a_t_seenIs, .int v_t_seenMany, .int v_t_asked, .ref a_t_sums, .ref a_t_parts, .ref a_t_heaps])), (a_t_text, .inl (cI, 120, .inl v_t_text)), (a_t_draft, .inl (cI, 103, .inl (upd v_t_draft (Int32.toNatClampNeg ((31 : Int32) + (6 : Int32))) jr21)))] := hD
      obtain ⟨rfl, rfl, rfl, rfl, rfl, rfl, rfl⟩ := pr7_inv hf
      exact retMv hx hb hr hlk hP hD hS dX11_readsItem_32
def fX11_totalOf_4 (n_p0 : Nat) (jx1 : Int32) (v_p0 : (Nat → Int32)) : Nat → Int32 → Int32 → Option (Int32)
  | 0, _, _ => none
  | n + 1, jx2, jx3 => if (6 : Int32) ≤ jx3 then some jx2 else ckI n_p0 (jx1 + jx3) ((fX11_totalOf_4 n_p0 jx1 v_p0 n) (jx2 + (v_p0 (Int32.toNatClampNeg (jx1 + jx3)))) (jx3 + (1 : Int32)))
theorem fX11_totalOf_4_s (n_p0 : Nat) (jx1 : Int32) (v_p0 : (Nat → Int32)) (n : Nat) (jx2 : Int32) (jx3 : Int32) : fX11_totalOf_4 n_p0 jx1 v_p0 (n + 1) jx2 jx3 = if (6 : Int32) ≤ jx3 then some jx2 else ckI n_p0 (jx1 + jx3) ((fX11_totalOf_4 n_p0 jx1 v_p0 n) (jx2 + (v_p0 (Int32.toNatClampNeg (jx1 + jx3)))) (jx3 + (1 : Int32))) := rfl
def fX11_totalOf (n_p0 : Nat) (jx1 : Int32) (v_p0 : (Nat → Int32)) : Option (Int32) := fX11_totalOf_4 n_p0 jx1 v_p0 fuel (0 : Int32) (0 : Int32)
abbrev rmX11_totalOf : Room := { frames := 0, cells := 0, slots := 0, locals := 0 }
set_option maxHeartbeats 4000000 in
set_option maxRecDepth 100000 in
theorem wX11_totalOf_4 {p : Program} {l : Launch} {e : Env} {s : State} {m : MethodId} {args : Array Value} {below : List Frame} {meth : Method} {c : Code} {D : va_G} {cI cZ : ClassId} (S : CallFix p m c cX11_totalOf 4 s args wsX11_totalOf RX11) (hr : meth.sig.returnType = some .int) (hlk : meth.locks = false) (hK : KX D cI cZ s) {a_p0 : Nat} {n_p0 : Nat} {jx1 : Int32} {v_p0 : (Nat → Int32)} {r : Int32} (hP : va_P D vwCl [(a_p0, .inl (cI, n_p0, .inl v_p0))] s.heap) : ∀ (n : Nat), ∀ (jx2 : Int32) (jx3 : Int32) (ls : Array Slot), fX11_totalOf_4 n_p0 jx1 v_p0 n jx2 jx3 = some r → lv_has ls 4 [(0, .ref a_p0), (1, .int jx1), (2, .int jx2), (3, .int jx3)] → W p l e rmX11_totalOf s m args below meth c s.heap [] 0 0 (MQ below (QcRead r) args s 0 0 (fun _ => False)) (F0 m 4 ls []) := by
  obtain ⟨hx, hb, hml, hown, hts⟩ := id S
  intro n
  induction n with
  | zero =>
    intro jx2 jx3 ls hf hl
    cases (show (none : Option _) = some _ from hf)
  | succ n ih =>
    intro jx2 jx3 ls hf hl
    have hf := (fX11_totalOf_4_s _ _ _ n _ _).symm.trans hf
    refine lv_iload_n hx hb dX11_totalOf_4 rfl (lv_at hl 3 rfl) ?_
    refine lv_bipush (v := 6) hx hb dX11_totalOf_5 (by decide) ?_
    refine lv_icmp_ge (tgt := 24) hx hb dX11_totalOf_7 (by decide) (fun jc1 => ?_) (fun jc1 => ?_)
    · have hf := ite_t jc1 hf
      refine lv_iload_n hx hb dX11_totalOf_24 rfl (lv_at hl 2 rfl) ?_
      obtain rfl := Option.some.inj hf
      exact retR hx hb hr hlk dX11_totalOf_25
    · have hf := ite_f jc1 hf
      refine lv_iload_n hx hb dX11_totalOf_10 rfl (lv_at hl 2 rfl) ?_
      refine lv_aload_n hx hb dX11_totalOf_11 rfl (lv_at hl 0 rfl) ?_
      refine lv_iload_n hx hb dX11_totalOf_12 rfl (lv_at hl 1 rfl) ?_
      refine lv_iload_n hx hb dX11_totalOf_13 rfl (lv_at hl 3 rfl) ?_
      refine lv_iadd hx hb dX11_totalOf_14 ?_
      obtain ⟨jh2, hf⟩ := ckI_inv hf
      refine va_iald hx hb hK.1 hP 0 0 rfl rfl jh2 dX11_totalOf_15 ?_
      refine lv_iadd hx hb dX11_totalOf_16 ?_
      refine lv_istore_n (lv' := [(2, .int (jx2 + (v_p0 (Int32.toNatClampNeg (jx1 + jx3))))), (0, .ref a_p0), (1, .int jx1), (3, .int jx3)]) hx hb dX11_totalOf_17 rfl hl (by decide) rfl (fun ls hl => ?_)
      refine lv_iinc (v := (jx3 + (1 : Int32))) (lv' := [(3, .int (jx3 + (1 : Int32))), (2, .int (jx2 + (v_p0 (Int32.toNatClampNeg (jx1 + jx3))))), (0, .ref a_p0), (1, .int jx1)]) hx hb dX11_totalOf_18 hl (k := 3) rfl rfl (by decide) rfl (fun ls hl => ?_)
      refine lv_goto (tgt := 4) hx hb dX11_totalOf_21 (by decide) ?_
      exact ih (jx2 + (v_p0 (Int32.toNatClampNeg (jx1 + jx3)))) (jx3 + (1 : Int32)) ls hf (lv_sub hl [2, 3, 1, 0] rfl)
theorem hdX11_totalOf : yX11_totalOf.cls ≠ "java/lang/invoke/MethodHandle" ∧ yX11_totalOf.cls ≠ "java/lang/invoke/VarHandle" ∧ (parseMethodDescriptor yX11_totalOf.desc).map (fun d => d.parameters.length) = some 2 := by decide +kernel
set_option maxHeartbeats 4000000 in
set_option maxRecDepth 100000 in
theorem ctX11_totalOf (l : Launch) (D : va_G) (cI cZ : ClassId) (a_p0 : Nat) (n_p0 : Nat) (jx1 : Int32) (v_p0 : (Nat → Int32)) (r : Int32) (hf : fX11_totalOf n_p0 jx1 v_p0 = some r) : cR l yX11_totalOf wsX11_totalOf rmX11_totalOf [.ref a_p0, .int jx1] D [(a_p0, .inl (cI, n_p0, .inl v_p0))] (KX D cI cZ) r := by
  refine cR_of (cc := cX11_totalOf) (maxL := 4) (ret := some .int) (by decide +kernel) rfl _ (Nat.le_of_ble_eq_true rfl) ?_
  intro p e s m below meth c ls S hr hlk hP hK hl
  obtain ⟨hx, hb, hml, hown, hts⟩ := id S
  have hl : lv_has ls 4 [(0, .ref a_p0), (1, .int jx1)] := hl
  unfold fX11_totalOf at hf
  refine lv_iconst (v := 0) hx hb dX11_totalOf_0 (by decide) ?_
  refine lv_istore_n (lv' := [(2, .int (0 : Int32)), (0, .ref a_p0), (1, .int jx1)]) hx hb dX11_totalOf_1 rfl hl (by decide) rfl (fun ls hl => ?_)
  refine lv_iconst (v := 0) hx hb dX11_totalOf_2 (by decide) ?_
  refine lv_istore_n (lv' := [(3, .int (0 : Int32)), (2, .int (0 : Int32)), (0, .ref a_p0), (1, .int jx1)]) hx hb dX11_totalOf_3 rfl hl (by decide) rfl (fun ls hl => ?_)
  exact wX11_totalOf_4 S hr hlk hK hP fuel (0 : Int32) (0 : Int32) ls hf (lv_sub hl [2, 3, 1, 0] rfl)
def fX11_isLawful (jx0 : Int32) (jx1 : Int32) (jx2 : Int32) : Option (Int32) := if (jx1 + jx2) ≤ jx0 then some (0 : Int32) else if ((2 : Int32) * jx2) ≤ jx0 then some (0 : Int32) else bd1 (fX11_in jx1 (1 : Int32) jx0) (fun jr3 => if jr3 = 0 then some (0 : Int32) else bd1 (fX11_in jx2 (1 : Int32) jx0) (fun jr6 => if jr6 = 0 then some (0 : Int32) else some (1 : Int32)))
abbrev rmX11_isLawful : Room := { frames := 1, cells := 0, slots := 0, locals := 22 }
theorem hdX11_isLawful : yX11_isLawful.cls ≠ "java/lang/invoke/MethodHandle" ∧ yX11_isLawful.cls ≠ "java/lang/invoke/VarHandle" ∧ (parseMethodDescriptor yX11_isLawful.desc).map (fun d => d.parameters.length) = some 3 := by decide +kernel
set_option maxHeartbeats 4000000 in
set_option maxRecDepth 100000 in
theorem ctX11_isLawful (l : Launch) (D : va_G) (cI cZ : ClassId) (jx0 : Int32) (jx1 : Int32) (jx2 : Int32) (r : Int32) (hf : fX11_isLawful jx0 jx1 jx2 = some r) : cR l yX11_isLawful wsX11_isLawful rmX11_isLawful [.int jx0, .int jx1, .int jx2] D [] (KX D cI cZ) r := by
  refine cR_of (cc := cX11_isLawful) (maxL := 3) (ret := some .boolean) (by decide +kernel) rfl _ (Nat.le_of_ble_eq_true rfl) ?_
  intro p e s m below meth c ls S hr hlk hP hK hl
  obtain ⟨hx, hb, hml, hown, hts⟩ := id S
  have hl : lv_has ls 3 [(0, .int jx0), (1, .int jx1), (2, .int jx2)] := hl
  unfold fX11_isLawful at hf
  refine lv_iload_n hx hb dX11_isLawful_0 rfl (lv_at hl 1 rfl) ?_
  refine lv_iload_n hx hb dX11_isLawful_1 rfl (lv_at hl 2 rfl) ?_
  refine lv_iadd hx hb dX11_isLawful_2 ?_
  refine lv_iload_n hx hb dX11_isLawful_3 rfl (lv_at hl 0 rfl) ?_
  refine lv_icmp_le (tgt := 36) hx hb dX11_isLawful_4 (by decide) (fun jc1 => ?_) (fun jc1 => ?_)
  · have hf := ite_t jc1 hf
    refine lv_iconst (v := 0) hx hb dX11_isLawful_36 (by decide) ?_
    obtain rfl := Option.some.inj hf
    exact retRz hx hb hr hlk (by decide) dX11_isLawful_37
  · have hf := ite_f jc1 hf
    refine lv_iconst (v := 2) hx hb dX11_isLawful_7 (by decide) ?_
    refine lv_iload_n hx hb dX11_isLawful_8 rfl (lv_at hl 2 rfl) ?_
    refine lv_imul hx hb dX11_isLawful_9 ?_
    refine lv_iload_n hx hb dX11_isLawful_10 rfl (lv_at hl 0 rfl) ?_
    refine lv_icmp_le (tgt := 36) hx hb dX11_isLawful_11 (by decide) (fun jc2 => ?_) (fun jc2 => ?_)
    · have hf := ite_t jc2 hf
      refine lv_iconst (v := 0) hx hb dX11_isLawful_36 (by decide) ?_
      obtain rfl := Option.some.inj hf
      exact retRz hx hb hr hlk (by decide) dX11_isLawful_37
    · have hf := ite_f jc2 hf
      refine lv_iload_n hx hb dX11_isLawful_14 rfl (lv_at hl 1 rfl) ?_
      refine lv_iconst (v := 1) hx hb dX11_isLawful_15 (by decide) ?_
      refine lv_iload_n hx hb dX11_isLawful_16 rfl (lv_at hl 0 rfl) ?_
      obtain ⟨jr3, je4, hf⟩ := bd1_inv hf
      refine callRS (As := [.int jx1, .int (1 : Int32), .int jx0]) (rest := []) S (ctX11_in l D cI cZ jx1 (1 : Int32) jx0 jr3 je4) (va_cwS 3 hts gX11_isLawful_X11_in rfl rfl rfl hdX11_in ⟨Nat.le_of_ble_eq_true rfl, Nat.le_of_ble_eq_true rfl⟩) hP [] rfl KX.xs (fun U _ hW => hK.warm hW) rfl hl.1 rfl (Nat.le_of_ble_eq_true rfl) dX11_isLawful_17 ⟨Nat.zero_le _, Nat.zero_le _⟩ ?_
      refine lv_if_eq (tgt := 36) hx hb dX11_isLawful_20 (by decide) (fun jc5 => ?_) (fun jc5 => ?_)
      · have hf := ite_t jc5 hf
        refine lv_iconst (v := 0) hx hb dX11_isLawful_36 (by decide) ?_
        obtain rfl := Option.some.inj hf
        exact retRz hx hb hr hlk (by decide) dX11_isLawful_37
      · have hf := ite_f jc5 hf
        refine lv_iload_n hx hb dX11_isLawful_23 rfl (lv_at hl 2 rfl) ?_
        refine lv_iconst (v := 1) hx hb dX11_isLawful_24 (by decide) ?_
        refine lv_iload_n hx hb dX11_isLawful_25 rfl (lv_at hl 0 rfl) ?_
        obtain ⟨jr6, je7, hf⟩ := bd1_inv hf
        refine callRS (As := [.int jx2, .int (1 : Int32), .int jx0]) (rest := []) S (ctX11_in l D cI cZ jx2 (1 : Int32) jx0 jr6 je7) (va_cwS 3 hts gX11_isLawful_X11_in rfl rfl rfl hdX11_in ⟨Nat.le_of_ble_eq_true rfl, Nat.le_of_ble_eq_true rfl⟩) hP [] rfl KX.xs (fun U _ hW => hK.warm hW) rfl hl.1 rfl (Nat.le_of_ble_eq_true rfl) dX11_isLawful_26 ⟨Nat.zero_le _, Nat.zero_le _⟩ ?_
        refine lv_if_eq (tgt := 36) hx hb dX11_isLawful_29 (by decide) (fun jc8 => ?_) (fun jc8 => ?_)
        · have hf := ite_t jc8 hf
          refine lv_iconst (v := 0) hx hb dX11_isLawful_36 (by decide) ?_
          obtain rfl := Option.some.inj hf
          exact retRz hx hb hr hlk (by decide) dX11_isLawful_37
        · have hf := ite_f jc8 hf
          refine lv_iconst (v := 1) hx hb dX11_isLawful_32 (by decide) ?_
          refine lv_goto (tgt := 37) hx hb dX11_isLawful_33 (by decide) ?_
          obtain rfl := Option.some.inj hf
          exact retRz hx hb hr hlk (by decide) dX11_isLawful_37
def fX11_settles_36 (v_t_draftCopies : Int32) : Nat → Int32 → Int32 → Int32 → Int32 → Int32 → (Nat → Int32) → (Nat → Int32) → (Nat → Int32) → Option (Int32 × Int32 × Int32 × Int32 × (Nat → Int32) × (Nat → Int32) × (Nat → Int32))
  | 0, _, _, _, _, _, _, _, _ => none
  | n + 1, jx1, v_t_typed, v_t_copies, v_t_undoMany, v_t_seenMany, v_t_draft, v_t_s, v_t_isKept => if (103 : Int32) ≤ jx1 then ckI 2 (0 : Int32) (ckI 2 (1 : Int32) (some ((0 : Int32), v_t_copies, (0 : Int32), (0 : Int32), v_t_draft, v_t_s, (upd (upd v_t_isKept (Int32.toNatClampNeg (0 : Int32)) (vp_nar .boolean (0 : Int32))) (Int32.toNatClampNeg (1 : Int32)) (vp_nar .boolean (0 : Int32)))))) else ckI 103 jx1 (ckI 103 jx1 ((fX11_settles_36 v_t_draftCopies n) (jx1 + (1 : Int32)) v_t_typed v_t_copies v_t_undoMany v_t_seenMany v_t_draft (upd v_t_s (Int32.toNatClampNeg jx1) (v_t_draft (Int32.toNatClampNeg jx1))) v_t_isKept))
theorem fX11_settles_36_s (v_t_draftCopies : Int32) (n : Nat) (jx1 : Int32) (v_t_typed : Int32) (v_t_copies : Int32) (v_t_undoMany : Int32) (v_t_seenMany : Int32) (v_t_draft : (Nat → Int32)) (v_t_s : (Nat → Int32)) (v_t_isKept : (Nat → Int32)) : fX11_settles_36 v_t_draftCopies (n + 1) jx1 v_t_typed v_t_copies v_t_undoMany v_t_seenMany v_t_draft v_t_s v_t_isKept = if (103 : Int32) ≤ jx1 then ckI 2 (0 : Int32) (ckI 2 (1 : Int32) (some ((0 : Int32), v_t_copies, (0 : Int32), (0 : Int32), v_t_draft, v_t_s, (upd (upd v_t_isKept (Int32.toNatClampNeg (0 : Int32)) (vp_nar .boolean (0 : Int32))) (Int32.toNatClampNeg (1 : Int32)) (vp_nar .boolean (0 : Int32)))))) else ckI 103 jx1 (ckI 103 jx1 ((fX11_settles_36 v_t_draftCopies n) (jx1 + (1 : Int32)) v_t_typed v_t_copies v_t_undoMany v_t_seenMany v_t_draft (upd v_t_s (Int32.toNatClampNeg jx1) (v_t_draft (Int32.toNatClampNeg jx1))) v_t_isKept)) := rfl
def fX11_settles (v_t_typed : Int32) (v_t_copies : Int32) (v_t_draftCopies : Int32) (v_t_undoMany : Int32) (v_t_seenMany : Int32) (v_t_draft : (Nat → Int32)) (v_t_s : (Nat → Int32)) (v_t_isKept : (Nat → Int32)) : Option (Int32 × Int32 × Int32 × Int32 × (Nat → Int32) × (Nat → Int32) × (Nat → Int32)) := ckI 103 (37 : Int32) (if (v_t_draft (Int32.toNatClampNeg (37 : Int32))) = 0 then ckI 103 (37 : Int32) (ckI 103 (38 : Int32) (fX11_settles_36 v_t_draftCopies fuel (0 : Int32) v_t_typed v_t_draftCopies v_t_undoMany v_t_seenMany (upd (upd v_t_draft (Int32.toNatClampNeg (37 : Int32)) (1 : Int32)) (Int32.toNatClampNeg (38 : Int32)) (1 : Int32)) v_t_s v_t_isKept)) else fX11_settles_36 v_t_draftCopies fuel (0 : Int32) v_t_typed v_t_draftCopies v_t_undoMany v_t_seenMany v_t_draft v_t_s v_t_isKept)
abbrev rmX11_settles : Room := { frames := 0, cells := 0, slots := 0, locals := 0 }
theorem iX11_settles_X11 : ∀ w ∈ wsX110, w ∈ wsX11_settles := fun _ h => List.mem_cons_of_mem _ (List.mem_append_right _ h)
theorem mX11_settles_5 : (Cond.fieldLink RX11 58 "VoteFilesModel" "typed" "I") ∈ wsX11_settles := List.mem_of_getElem? (i := 5) rfl
theorem mX11_settles_6 : (Cond.fieldLink RX11 122 "VoteFilesModel" "seenMany" "I") ∈ wsX11_settles := List.mem_of_getElem? (i := 6) rfl
theorem mX11_settles_7 : (Cond.fieldLink RX11 125 "VoteFilesModel" "undoMany" "I") ∈ wsX11_settles := List.mem_of_getElem? (i := 7) rfl
theorem mX11_settles_8 : (Cond.fieldLink RX11 25 "VoteFilesModel" "isKept" "[Z") ∈ wsX11_settles := List.mem_of_getElem? (i := 8) rfl
theorem mX11_settles_4 : (Cond.fieldLink RX11 16 "VoteFilesModel" "s" "[I") ∈ wsX11_settles := List.mem_of_getElem? (i := 4) rfl
theorem mX11_settles_1 : (Cond.fieldLink RX11 13 "VoteFilesModel" "draft" "[I") ∈ wsX11_settles := List.mem_of_getElem? (i := 1) rfl
theorem mX11_settles_2 : (Cond.fieldLink RX11 98 "VoteFilesModel" "draftCopies" "I") ∈ wsX11_settles := List.mem_of_getElem? (i := 2) rfl
theorem mX11_settles_3 : (Cond.fieldLink RX11 119 "VoteFilesModel" "copies" "I") ∈ wsX11_settles := List.mem_of_getElem? (i := 3) rfl
set_option maxHeartbeats 4000000 in
set_option maxRecDepth 100000 in
theorem wX11_settles_36 {p : Program} {l : Launch} {e : Env} {s : State} {m : MethodId} {args : Array Value} {below : List Frame} {meth : Method} {c : Code} {D : va_G} {cI cZ : ClassId} (S : CallFix p m c cX11_settles 2 s args wsX11_settles RX11) (hr : meth.sig.returnType = none) (hlk : meth.locks = false) (hK : KX D cI cZ s) {a_t a_t_text a_t_draft a_t_s a_t_undos a_t_kept a_t_isKept a_t_seenWay a_t_seenIs a_t_sums a_t_parts a_t_heaps : Nat} {v_t_draftCopies : Int32} {v_t_thrown : Int32} {v_t_spot : Int32} {v_t_token : Int32} {v_t_place : Int32} {v_t_value : Int32} {v_t_fault : Int32} {v_t_asked : Int32} {o_t_typed : Int32} {o_t_copies : Int32} {o_t_undoMany : Int32} {o_t_seenMany : Int32} {o_t_draft : (Nat → Int32)} {o_t_s : (Nat → Int32)} {o_t_isKept : (Nat → Int32)} {A : Nat → Prop} (hA : ∀ q : Nat, s.heap.size ≤ q → A q) : ∀ (n : Nat), ∀ (jx1 : Int32) (v_t_typed : Int32) (v_t_copies : Int32) (v_t_undoMany : Int32) (v_t_seenMany : Int32) (v_t_draft : (Nat → Int32)) (v_t_s : (Nat → Int32)) (v_t_isKept : (Nat → Int32)) (ls : Array Slot) (H : Heap) (locs : List Loc), fX11_settles_36 v_t_draftCopies n jx1 v_t_typed v_t_copies v_t_undoMany v_t_seenMany v_t_draft v_t_s v_t_isKept = some (o_t_typed, o_t_copies, o_t_undoMany, o_t_seenMany, o_t_draft, o_t_s, o_t_isKept) → lv_has ls 2 [(0, .ref a_t), (1, .int jx1)] → va_P D vwCl [(a_t, .inr (11, [.int v_t_thrown, .ref a_t_text, .int v_t_typed, .int v_t_spot, .int v_t_token, .int v_t_place, .int v_t_value, .int v_t_fault, .int v_t_copies, .int v_t_draftCopies, .ref a_t_draft, .ref a_t_s, .ref a_t_undos, .int v_t_undoMany, .ref a_t_kept, .ref a_t_isKept, .ref a_t_seenWay, .ref a_t_seenIs, .int v_t_seenMany, .int v_t_asked, .ref a_t_sums, .ref a_t_parts, .ref a_t_heaps])), (a_t_draft, .inl (cI, 103, .inl v_t_draft)), (a_t_s, .inl (cI, 103, .inl v_t_s)), (a_t_isKept, .inl (cZ, 2, .inl v_t_isKept))] H → va_D A [(a_t, .inr (11, [.int v_t_thrown, .ref a_t_text, .int v_t_typed, .int v_t_spot, .int v_t_token, .int v_t_place, .int v_t_value, .int v_t_fault, .int v_t_copies, .int v_t_draftCopies, .ref a_t_draft, .ref a_t_s, .ref a_t_undos, .int v_t_undoMany, .ref a_t_kept, .ref a_t_isKept, .ref a_t_seenWay, .ref a_t_seenIs, .int v_t_seenMany, .int v_t_asked, .ref a_t_sums, .ref a_t_parts, .ref a_t_heaps])), (a_t_draft, .inl (cI, 103, .inl v_t_draft)), (a_t_s, .inl (cI, 103, .inl v_t_s)), (a_t_isKept, .inl (cZ, 2, .inl v_t_isKept))] → va_S A s.heap H locs → W p l e rmX11_settles s m args below meth c H locs 0 0 (MQ below (qM D none [(a_t, .inr (11, [.int v_t_thrown, .ref a_t_text, .int o_t_typed, .int v_t_spot, .int v_t_token, .int v_t_place, .int v_t_value, .int v_t_fault, .int o_t_copies, .int v_t_draftCopies, .ref a_t_draft, .ref a_t_s, .ref a_t_undos, .int o_t_undoMany, .ref a_t_kept, .ref a_t_isKept, .ref a_t_seenWay, .ref a_t_seenIs, .int o_t_seenMany, .int v_t_asked, .ref a_t_sums, .ref a_t_parts, .ref a_t_heaps])), (a_t_draft, .inl (cI, 103, .inl o_t_draft)), (a_t_s, .inl (cI, 103, .inl o_t_s)), (a_t_isKept, .inl (cZ, 2, .inl o_t_isKept))] A) args s 0 0 A) (F0 m 36 ls []) := by
  obtain ⟨hx, hb, hml, hown, hts⟩ := id S
  intro n
  induction n with
  | zero =>
    intro jx1 v_t_typed v_t_copies v_t_undoMany v_t_seenMany v_t_draft v_t_s v_t_isKept ls H locs hf hl hP hD hS
    cases (show (none : Option _) = some _ from hf)
  | succ n ih =>
    intro jx1 v_t_typed v_t_copies v_t_undoMany v_t_seenMany v_t_draft v_t_s v_t_isKept ls H locs hf hl hP hD hS
    have hf := (fX11_settles_36_s _ n _ _ _ _ _ _ _ _).symm.trans hf
    refine lv_iload_n hx hb dX11_settles_36 rfl (lv_at hl 1 rfl) ?_
    refine lv_bipush (v := 103) hx hb dX11_settles_37 (by decide) ?_
    refine lv_icmp_ge (tgt := 60) hx hb dX11_settles_39 (by decide) (fun jc1 => ?_) (fun jc1 => ?_)
    · have hf := ite_t jc1 hf
      refine lv_aload_n hx hb dX11_settles_60 rfl (lv_at hl 0 rfl) ?_
      refine lv_iconst (v := 0) hx hb dX11_settles_61 (by decide) ?_
      refine va_put (D := D) (ci := 11) (v := .int (0 : Int32)) (ty := .int) (C := RX11) (T := TX11) (N := 23) hx hb hts iX11_settles_X11 tyX11 tyX11_ok nmX11 hown hK.1 hP hD hS 0 rfl rfl 2 (by decide) (hts _ mX11_settles_5) (fun _ h9 => h9) rfl (tyX11_ok 2 (by decide)) rfl rfl (Nat.le_of_ble_eq_true rfl) dX11_settles_62 (fun H locs hP hD hS => ?_)
      have hP : va_P D vwCl [(a_t, .inr (11, [.int v_t_thrown, .ref a_t_text, .int (0 : Int32), .int v_t_spot, .int v_t_token, .int v_t_place, .int v_t_value, .int v_t_fault, .int v_t_copies, .int v_t_draftCopies, .ref a_t_draft, .ref a_t_s, .ref a_t_undos, .int v_t_undoMany, .ref a_t_kept, .ref a_t_isKept, .ref a_t_seenWay, .ref a_t_seenIs, .int v_t_seenMany, .int v_t_asked, .ref a_t_sums, .ref a_t_parts, .ref a_t_heaps])), (a_t_draft, .inl (cI, 103, .inl v_t_draft)), (a_t_s, .inl (cI, 103, .inl v_t_s)), (a_t_isKept, .inl (cZ, 2, .inl v_t_isKept))] H := hP
      have hD : va_D A [(a_t, .inr (11, [.int v_t_thrown, .ref a_t_text, .int (0 : Int32), .int v_t_spot, .int v_t_token, .int v_t_place, .int v_t_value, .int v_t_fault, .int v_t_copies, .int v_t_draftCopies, .ref a_t_draft, .ref a_t_s, .ref a_t_undos, .int v_t_undoMany, .ref a_t_kept, .ref a_t_isKept, .ref a_t_seenWay, .ref a_t_seenIs, .int v_t_seenMany, .int v_t_asked, .ref a_t_sums, .ref a_t_parts, .ref a_t_heaps])), (a_t_draft, .inl (cI, 103, .inl v_t_draft)), (a_t_s, .inl (cI, 103, .inl v_t_s)), (a_t_isKept, .inl (cZ, 2, .inl v_t_isKept))] := hD
      refine lv_aload_n hx hb dX11_settles_65 rfl (lv_at hl 0 rfl) ?_
      refine lv_iconst (v := 0) hx hb dX11_settles_66 (by decide) ?_
      refine va_put (D := D) (ci := 11) (v := .int (0 : Int32)) (ty := .int) (C := RX11) (T := TX11) (N := 23) hx hb hts iX11_settles_X11 tyX11 tyX11_ok nmX11 hown hK.1 hP hD hS 0 rfl rfl 18 (by decide) (hts _ mX11_settles_6) (fun _ h9 => h9) rfl (tyX11_ok 18 (by decide)) rfl rfl (Nat.le_of_ble_eq_true rfl) dX11_settles_67 (fun H locs hP hD hS => ?_)
      have hP : va_P D vwCl [(a_t, .inr (11, [.int v_t_thrown, .ref a_t_text, .int (0 : Int32), .int v_t_spot, .int v_t_token, .int v_t_place, .int v_t_value, .int v_t_fault, .int v_t_copies, .int v_t_draftCopies, .ref a_t_draft, .ref a_t_s, .ref a_t_undos, .int v_t_undoMany, .ref a_t_kept, .ref a_t_isKept, .ref a_t_seenWay, .ref a_t_seenIs, .int (0 : Int32), .int v_t_asked, .ref a_t_sums, .ref a_t_parts, .ref a_t_heaps])), (a_t_draft, .inl (cI, 103, .inl v_t_draft)), (a_t_s, .inl (cI, 103, .inl v_t_s)), (a_t_isKept, .inl (cZ, 2, .inl v_t_isKept))] H := hP
      have hD : va_D A [(a_t, .inr (11, [.int v_t_thrown, .ref a_t_text, .int (0 : Int32), .int v_t_spot, .int v_t_token, .int v_t_place, .int v_t_value, .int v_t_fault, .int v_t_copies, .int v_t_draftCopies, .ref a_t_draft, .ref a_t_s, .ref a_t_undos, .int v_t_undoMany, .ref a_t_kept, .ref a_t_isKept, .ref a_t_seenWay, .ref a_t_seenIs, .int (0 : Int32), .int v_t_asked, .ref a_t_sums, .ref a_t_parts, .ref a_t_heaps])), (a_t_draft, .inl (cI, 103, .inl v_t_draft)), (a_t_s, .inl (cI, 103, .inl v_t_s)), (a_t_isKept, .inl (cZ, 2, .inl v_t_isKept))] := hD
      refine lv_aload_n hx hb dX11_settles_70 rfl (lv_at hl 0 rfl) ?_
      refine lv_iconst (v := 0) hx hb dX11_settles_71 (by decide) ?_
      refine va_put (D := D) (ci := 11) (v := .int (0 : Int32)) (ty := .int) (C := RX11) (T := TX11) (N := 23) hx hb hts iX11_settles_X11 tyX11 tyX11_ok nmX11 hown hK.1 hP hD hS 0 rfl rfl 13 (by decide) (hts _ mX11_settles_7) (fun _ h9 => h9) rfl (tyX11_ok 13 (by decide)) rfl rfl (Nat.le_of_ble_eq_true rfl) dX11_settles_72 (fun H locs hP hD hS => ?_)
      have hP : va_P D vwCl [(a_t, .inr (11, [.int v_t_thrown, .ref a_t_text, .int (0 : Int32), .int v_t_spot, .int v_t_token, .int v_t_place, .int v_t_value, .int v_t_fault, .int v_t_copies, .int v_t_draftCopies, .ref a_t_draft, .ref a_t_s, .ref a_t_undos, .int (0 : Int32), .ref a_t_kept, .ref a_t_isKept, .ref a_t_seenWay, .ref a_t_seenIs, .int (0 : Int32), .int v_t_asked, .ref a_t_sums, .ref a_t_parts, .ref a_t_heaps])), (a_t_draft, .inl (cI, 103, .inl v_t_draft)), (a_t_s, .inl (cI, 103, .inl v_t_s)), (a_t_isKept, .inl (cZ, 2, .inl v_t_isKept))] H := hP
      have hD : va_D A [(a_t, .inr (11, [.int v_t_thrown, .ref a_t_text, .int (0 : Int32), .int v_t_spot, .int v_t_token, .int v_t_place, .int v_t_value, .int v_t_fault, .int v_t_copies, .int v_t_draftCopies, .ref a_t_draft, .ref a_t_s, .ref a_t_undos, .int (0 : Int32), .ref a_t_kept, .ref a_t_isKept, .ref a_t_seenWay, .ref a_t_seenIs, .int (0 : Int32), .int v_t_asked, .ref a_t_sums, .ref a_t_parts, .ref a_t_heaps])), (a_t_draft, .inl (cI, 103, .inl v_t_draft)), (a_t_s, .inl (cI, 103, .inl v_t_s)), (a_t_isKept, .inl (cZ, 2, .inl v_t_isKept))] := hD
      refine lv_aload_n hx hb dX11_settles_75 rfl (lv_at hl 0 rfl) ?_
      refine va_get (D := D) (ci := 11) (v := .ref a_t_isKept) (C := RX11) (T := TX11) (N := 23) hx hb hts iX11_settles_X11 hown hK.1 hP 0 rfl rfl 15 (by decide) (hts _ mX11_settles_8) (fun _ h9 => h9) rfl dX11_settles_76 ?_
      refine lv_iconst (v := 0) hx hb dX11_settles_79 (by decide) ?_
      refine lv_iconst (v := 0) hx hb dX11_settles_80 (by decide) ?_
      obtain ⟨jh2, hf⟩ := ckI_inv hf
      refine va_zast hx hb hK.1 hP hD hS 3 1 rfl rfl jh2 dX11_settles_81 (fun H locs hP hD hS => ?_)
      have hP : va_P D vwCl [(a_t, .inr (11, [.int v_t_thrown, .ref a_t_text, .int (0 : Int32), .int v_t_spot, .int v_t_token, .int v_t_place, .int v_t_value, .int v_t_fault, .int v_t_copies, .int v_t_draftCopies, .ref a_t_draft, .ref a_t_s, .ref a_t_undos, .int (0 : Int32), .ref a_t_kept, .ref a_t_isKept, .ref a_t_seenWay, .ref a_t_seenIs, .int (0 : Int32), .int v_t_asked, .ref a_t_sums, .ref a_t_parts, .ref a_t_heaps])), (a_t_draft, .inl (cI, 103, .inl v_t_draft)), (a_t_s, .inl (cI, 103, .inl v_t_s)), (a_t_isKept, .inl (cZ, 2, .inl (upd v_t_isKept (Int32.toNatClampNeg (0 : Int32)) (vp_nar .boolean (0 : Int32)))))] H := hP
      have hD : va_D A [(a_t, .inr (11, [.int v_t_thrown, .ref a_t_text, .int (0 : Int32), .int v_t_spot, .int v_t_token, .int v_t_place, .int v_t_value, .int v_t_fault, .int v_t_copies, .int v_t_draftCopies, .ref a_t_draft, .ref a_t_s, .ref a_t_undos, .int (0 : Int32), .ref a_t_kept, .ref a_t_isKept, .ref a_t_seenWay, .ref a_t_seenIs, .int (0 : Int32), .int v_t_asked, .ref a_t_sums, .ref a_t_parts, .ref a_t_heaps])), (a_t_draft, .inl (cI, 103, .inl v_t_draft)), (a_t_s, .inl (cI, 103, .inl v_t_s)), (a_t_isKept, .inl (cZ, 2, .inl (upd v_t_isKept (Int32.toNatClampNeg (0 : Int32)) (vp_nar .boolean (0 : Int32)))))] := hD
      refine lv_aload_n hx hb dX11_settles_82 rfl (lv_at hl 0 rfl) ?_
      refine va_get (D := D) (ci := 11) (v := .ref a_t_isKept) (C := RX11) (T := TX11) (N := 23) hx hb hts iX11_settles_X11 hown hK.1 hP 0 rfl rfl 15 (by decide) (hts _ mX11_settles_8) (fun _ h9 => h9) rfl dX11_settles_83 ?_
      refine lv_iconst (v := 1) hx hb dX11_settles_86 (by decide) ?_
      refine lv_iconst (v := 0) hx hb dX11_settles_87 (by decide) ?_
      obtain ⟨jh3, hf⟩ := ckI_inv hf
      refine va_zast hx hb hK.1 hP hD hS 3 1 rfl rfl jh3 dX11_settles_88 (fun H locs hP hD hS => ?_)
      have hP : va_P D vwCl [(a_t, .inr (11, [.int v_t_thrown, .ref a_t_text, .int (0 : Int32), .int v_t_spot, .int v_t_token, .int v_t_place, .int v_t_value, .int v_t_fault, .int v_t_copies, .int v_t_draftCopies, .ref a_t_draft, .ref a_t_s, .ref a_t_undos, .int (0 : Int32), .ref a_t_kept, .ref a_t_isKept, .ref a_t_seenWay, .ref a_t_seenIs, .int (0 : Int32), .int v_t_asked, .ref a_t_sums, .ref a_t_parts, .ref a_t_heaps])), (a_t_draft, .inl (cI, 103, .inl v_t_draft)), (a_t_s, .inl (cI, 103, .inl v_t_s)), (a_t_isKept, .inl (cZ, 2, .inl (upd (upd v_t_isKept (Int32.toNatClampNeg (0 : Int32)) (vp_nar .boolean (0 : Int32))) (Int32.toNatClampNeg (1 : Int32)) (vp_nar .boolean (0 : Int32)))))] H := hP
      have hD : va_D A [(a_t, .inr (11, [.int v_t_thrown, .ref a_t_text, .int (0 : Int32), .int v_t_spot, .int v_t_token, .int v_t_place, .int v_t_value, .int v_t_fault, .int v_t_copies, .int v_t_draftCopies, .ref a_t_draft, .ref a_t_s, .ref a_t_undos, .int (0 : Int32), .ref a_t_kept, .ref a_t_isKept, .ref a_t_seenWay, .ref a_t_seenIs, .int (0 : Int32), .int v_t_asked, .ref a_t_sums, .ref a_t_parts, .ref a_t_heaps])), (a_t_draft, .inl (cI, 103, .inl v_t_draft)), (a_t_s, .inl (cI, 103, .inl v_t_s)), (a_t_isKept, .inl (cZ, 2, .inl (upd (upd v_t_isKept (Int32.toNatClampNeg (0 : Int32)) (vp_nar .boolean (0 : Int32))) (Int32.toNatClampNeg (1 : Int32)) (vp_nar .boolean (0 : Int32)))))] := hD
      obtain ⟨rfl, rfl, rfl, rfl, rfl, rfl, rfl⟩ := pr7_inv hf
      exact retMv hx hb hr hlk hP hD hS dX11_settles_89
    · have hf := ite_f jc1 hf
      refine lv_aload_n hx hb dX11_settles_42 rfl (lv_at hl 0 rfl) ?_
      refine va_get (D := D) (ci := 11) (v := .ref a_t_s) (C := RX11) (T := TX11) (N := 23) hx hb hts iX11_settles_X11 hown hK.1 hP 0 rfl rfl 11 (by decide) (hts _ mX11_settles_4) (fun _ h9 => h9) rfl dX11_settles_43 ?_
      refine lv_iload_n hx hb dX11_settles_46 rfl (lv_at hl 1 rfl) ?_
      refine lv_aload_n hx hb dX11_settles_47 rfl (lv_at hl 0 rfl) ?_
      refine va_get (D := D) (ci := 11) (v := .ref a_t_draft) (C := RX11) (T := TX11) (N := 23) hx hb hts iX11_settles_X11 hown hK.1 hP 0 rfl rfl 10 (by decide) (hts _ mX11_settles_1) (fun _ h9 => h9) rfl dX11_settles_48 ?_
      refine lv_iload_n hx hb dX11_settles_51 rfl (lv_at hl 1 rfl) ?_
      obtain ⟨jh4, hf⟩ := ckI_inv hf
      refine va_iald hx hb hK.1 hP 1 0 rfl rfl jh4 dX11_settles_52 ?_
      obtain ⟨jh5, hf⟩ := ckI_inv hf
      refine va_iast hx hb hK.1 hP hD hS 2 0 rfl rfl jh5 dX11_settles_53 (fun H locs hP hD hS => ?_)
      have hP : va_P D vwCl [(a_t, .inr (11, [.int v_t_thrown, .ref a_t_text, .int v_t_typed, .int v_t_spot, .int v_t_token, .int v_t_place, .int v_t_value, .int v_t_fault, .int v_t_copies, .int v_t_draftCopies, .ref a_t_draft, .ref a_t_s, .ref a_t_undos, .int v_t_undoMany, .ref a_t_kept, .ref a_t_isKept, .ref a_t_seenWay, .ref a_t_seenIs, .int v_t_seenMany, .int v_t_asked, .ref a_t_sums, .ref a_t_parts, .ref a_t_heaps])), (a_t_draft, .inl (cI, 103, .inl v_t_draft)), (a_t_s, .inl (cI, 103, .inl (upd v_t_s (Int32.toNatClampNeg jx1) (v_t_draft (Int32.toNatClampNeg jx1))))), (a_t_isKept, .inl (cZ, 2, .inl v_t_isKept))] H := hP
      have hD : va_D A [(a_t, .inr (11, [.int v_t_thrown, .ref a_t_text, .int v_t_typed, .int v_t_spot, .int v_t_token, .int v_t_place, .int v_t_value, .int v_t_fault, .int v_t_copies, .int v_t_draftCopies, .ref a_t_draft, .ref a_t_s, .ref a_t_undos, .int v_t_undoMany, .ref a_t_kept, .ref a_t_isKept, .ref a_t_seenWay, .ref a_t_seenIs, .int v_t_seenMany, .int v_t_asked, .ref a_t_sums, .ref a_t_parts, .ref a_t_heaps])), (a_t_draft, .inl (cI, 103, .inl v_t_draft)), (a_t_s, .inl (cI, 103, .inl (upd v_t_s (Int32.toNatClampNeg jx1) (v_t_draft (Int32.toNatClampNeg jx1))))), (a_t_isKept, .inl (cZ, 2, .inl v_t_isKept))] := hD
      refine lv_iinc (v := (jx1 + (1 : Int32))) (lv' := [(1, .int (jx1 + (1 : Int32))), (0, .ref a_t)]) hx hb dX11_settles_54 hl (k := 1) rfl rfl (by decide) rfl (fun ls hl => ?_)
      refine lv_goto (tgt := 36) hx hb dX11_settles_57 (by decide) ?_
      exact ih (jx1 + (1 : Int32)) v_t_typed v_t_copies v_t_undoMany v_t_seenMany v_t_draft (upd v_t_s (Int32.toNatClampNeg jx1) (v_t_draft (Int32.toNatClampNeg jx1))) v_t_isKept ls _ _ hf (lv_sub hl [1, 0] rfl) hP hD hS
theorem hdX11_settles : yX11_settles.cls ≠ "java/lang/invoke/MethodHandle" ∧ yX11_settles.cls ≠ "java/lang/invoke/VarHandle" ∧ (parseMethodDescriptor yX11_settles.desc).map (fun d => d.parameters.length) = some 0 := by decide +kernel
set_option maxHeartbeats 4000000 in
set_option maxRecDepth 100000 in
theorem ctX11_settles (l : Launch) (D : va_G) (cI cZ : ClassId) (a_t a_t_text a_t_draft a_t_s a_t_undos a_t_kept a_t_isKept a_t_seenWay a_t_seenIs a_t_sums a_t_parts a_t_heaps : Nat) (v_t_typed : Int32) (v_t_copies : Int32) (v_t_draftCopies : Int32) (v_t_undoMany : Int32) (v_t_seenMany : Int32) (v_t_draft : (Nat → Int32)) (v_t_s : (Nat → Int32)) (v_t_isKept : (Nat → Int32)) (v_t_thrown : Int32) (v_t_spot : Int32) (v_t_token : Int32) (v_t_place : Int32) (v_t_value : Int32) (v_t_fault : Int32) (v_t_asked : Int32) (o_t_typed : Int32) (o_t_copies : Int32) (o_t_undoMany : Int32) (o_t_seenMany : Int32) (o_t_draft : (Nat → Int32)) (o_t_s : (Nat → Int32)) (o_t_isKept : (Nat → Int32)) (hf : fX11_settles v_t_typed v_t_copies v_t_draftCopies v_t_undoMany v_t_seenMany v_t_draft v_t_s v_t_isKept = some (o_t_typed, o_t_copies, o_t_undoMany, o_t_seenMany, o_t_draft, o_t_s, o_t_isKept)) : cM l yX11_settles wsX11_settles rmX11_settles [.ref a_t] D [(a_t, .inr (11, [.int v_t_thrown, .ref a_t_text, .int v_t_typed, .int v_t_spot, .int v_t_token, .int v_t_place, .int v_t_value, .int v_t_fault, .int v_t_copies, .int v_t_draftCopies, .ref a_t_draft, .ref a_t_s, .ref a_t_undos, .int v_t_undoMany, .ref a_t_kept, .ref a_t_isKept, .ref a_t_seenWay, .ref a_t_seenIs, .int v_t_seenMany, .int v_t_asked, .ref a_t_sums, .ref a_t_parts, .ref a_t_heaps])), (a_t_draft, .inl (cI, 103, .inl v_t_draft)), (a_t_s, .inl (cI, 103, .inl v_t_s)), (a_t_isKept, .inl (cZ, 2, .inl v_t_isKept))] [(a_t, .inr (11, [.int v_t_thrown, .ref a_t_text, .int o_t_typed, .int v_t_spot, .int v_t_token, .int v_t_place, .int v_t_value, .int v_t_fault, .int o_t_copies, .int v_t_draftCopies, .ref a_t_draft, .ref a_t_s, .ref a_t_undos, .int o_t_undoMany, .ref a_t_kept, .ref a_t_isKept, .ref a_t_seenWay, .ref a_t_seenIs, .int o_t_seenMany, .int v_t_asked, .ref a_t_sums, .ref a_t_parts, .ref a_t_heaps])), (a_t_draft, .inl (cI, 103, .inl o_t_draft)), (a_t_s, .inl (cI, 103, .inl o_t_s)), (a_t_isKept, .inl (cZ, 2, .inl o_t_isKept))] (KX D cI cZ) none := by
  refine cM_of (cc := cX11_settles) (maxL := 2) (ret := none) (by decide +kernel) rfl _ (Nat.le_of_ble_eq_true rfl) ?_
  intro p e s m below meth c ls A S hr hlk hP hK hl hD hA hS
  obtain ⟨hx, hb, hml, hown, hts⟩ := id S
  have hl : lv_has ls 2 [(0, .ref a_t)] := hl
  unfold fX11_settles at hf
  refine lv_aload_n hx hb dX11_settles_0 rfl (lv_at hl 0 rfl) ?_
  refine va_get (D := D) (ci := 11) (v := .ref a_t_draft) (C := RX11) (T := TX11) (N := 23) hx hb hts iX11_settles_X11 hown hK.1 hP 0 rfl rfl 10 (by decide) (hts _ mX11_settles_1) (fun _ h9 => h9) rfl dX11_settles_1 ?_
  refine lv_bipush (v := 37) hx hb dX11_settles_4 (by decide) ?_
  obtain ⟨jh1, hf⟩ := ckI_inv hf
  refine va_iald hx hb hK.1 hP 1 0 rfl rfl jh1 dX11_settles_6 ?_
  refine lv_if_ne (tgt := 26) hx hb dX11_settles_7 (by decide) (fun jc2 => ?_) (fun jc2 => ?_)
  · have hf := ite_f jc2 hf
    refine lv_aload_n hx hb dX11_settles_26 rfl (lv_at hl 0 rfl) ?_
    refine lv_aload_n hx hb dX11_settles_27 rfl (lv_at hl 0 rfl) ?_
    refine va_get (D := D) (ci := 11) (v := .int v_t_draftCopies) (C := RX11) (T := TX11) (N := 23) hx hb hts iX11_settles_X11 hown hK.1 hP 0 rfl rfl 9 (by decide) (hts _ mX11_settles_2) (fun _ h9 => h9) rfl dX11_settles_28 ?_
    refine va_put (D := D) (ci := 11) (v := .int v_t_draftCopies) (ty := .int) (C := RX11) (T := TX11) (N := 23) hx hb hts iX11_settles_X11 tyX11 tyX11_ok nmX11 hown hK.1 hP hD hS 0 rfl rfl 8 (by decide) (hts _ mX11_settles_3) (fun _ h9 => h9) rfl (tyX11_ok 8 (by decide)) rfl rfl (Nat.le_of_ble_eq_true rfl) dX11_settles_31 (fun H locs hP hD hS => ?_)
    have hP : va_P D vwCl [(a_t, .inr (11, [.int v_t_thrown, .ref a_t_text, .int v_t_typed, .int v_t_spot, .int v_t_token, .int v_t_place, .int v_t_value, .int v_t_fault, .int v_t_draftCopies, .int v_t_draftCopies, .ref a_t_draft, .ref a_t_s, .ref a_t_undos, .int v_t_undoMany, .ref a_t_kept, .ref a_t_isKept, .ref a_t_seenWay, .ref a_t_seenIs, .int v_t_seenMany, .int v_t_asked, .ref a_t_sums, .ref a_t_parts, .ref a_t_heaps])), (a_t_draft, .inl (cI, 103, .inl v_t_draft)), (a_t_s, .inl (cI, 103, .inl v_t_s)), (a_t_isKept, .inl (cZ, 2, .inl v_t_isKept))] H := hP
    have hD : va_D A [(a_t, .inr (11, [.int v_t_thrown, .ref a_t_text, .int v_t_typed, .int v_t_spot, .int v_t_token, .int v_t_place, .int v_t_value, .int v_t_fault, .int v_t_draftCopies, .int v_t_draftCopies, .ref a_t_draft, .ref a_t_s, .ref a_t_undos, .int v_t_undoMany, .ref a_t_kept, .ref a_t_isKept, .ref a_t_seenWay, .ref a_t_seenIs, .int v_t_seenMany, .int v_t_asked, .ref a_t_sums, .ref a_t_parts, .ref a_t_heaps])), (a_t_draft, .inl (cI, 103, .inl v_t_draft)), (a_t_s, .inl (cI, 103, .inl v_t_s)), (a_t_isKept, .inl (cZ, 2, .inl v_t_isKept))] := hD
    refine lv_iconst (v := 0) hx hb dX11_settles_34 (by decide) ?_
    refine lv_istore_n (lv' := [(1, .int (0 : Int32)), (0, .ref a_t)]) hx hb dX11_settles_35 rfl hl (by decide) rfl (fun ls hl => ?_)
    exact wX11_settles_36 S hr hlk hK hA fuel (0 : Int32) v_t_typed v_t_draftCopies v_t_undoMany v_t_seenMany v_t_draft v_t_s v_t_isKept ls _ _ hf (lv_sub hl [1, 0] rfl) hP hD hS
  · have hf := ite_t jc2 hf
    refine lv_aload_n hx hb dX11_settles_10 rfl (lv_at hl 0 rfl) ?_
    refine va_get (D := D) (ci := 11) (v := .ref a_t_draft) (C := RX11) (T := TX11) (N := 23) hx hb hts iX11_settles_X11 hown hK.1 hP 0 rfl rfl 10 (by decide) (hts _ mX11_settles_1) (fun _ h9 => h9) rfl dX11_settles_11 ?_
    refine lv_bipush (v := 37) hx hb dX11_settles_14 (by decide) ?_
    refine lv_iconst (v := 1) hx hb dX11_settles_16 (by decide) ?_
    obtain ⟨jh3, hf⟩ := ckI_inv hf
    refine va_iast hx hb hK.1 hP hD hS 1 0 rfl rfl jh3 dX11_settles_17 (fun H locs hP hD hS => ?_)
    have hP : va_P D vwCl [(a_t, .inr (11, [.int v_t_thrown, .ref a_t_text, .int v_t_typed, .int v_t_spot, .int v_t_token, .int v_t_place, .int v_t_value, .int v_t_fault, .int v_t_copies, .int v_t_draftCopies, .ref a_t_draft, .ref a_t_s, .ref a_t_undos, .int v_t_undoMany, .ref a_t_kept, .ref a_t_isKept, .ref a_t_seenWay, .ref a_t_seenIs, .int v_t_seenMany, .int v_t_asked, .ref a_t_sums, .ref a_t_parts, .ref a_t_heaps])), (a_t_draft, .inl (cI, 103, .inl (upd v_t_draft (Int32.toNatClampNeg (37 : Int32)) (1 : Int32)))), (a_t_s, .inl (cI, 103, .inl v_t_s)), (a_t_isKept, .inl (cZ, 2, .inl v_t_isKept))] H := hP
    have hD : va_D A [(a_t, .inr (11, [.int v_t_thrown, .ref a_t_text, .int v_t_typed, .int v_t_spot, .int v_t_token, .int v_t_place, .int v_t_value, .int v_t_fault, .int v_t_copies, .int v_t_draftCopies, .ref a_t_draft, .ref a_t_s, .ref a_t_undos, .int v_t_undoMany, .ref a_t_kept, .ref a_t_isKept, .ref a_t_seenWay, .ref a_t_seenIs, .int v_t_seenMany, .int v_t_asked, .ref a_t_sums, .ref a_t_parts, .ref a_t_heaps])), (a_t_draft, .inl (cI, 103, .inl (upd v_t_draft (Int32.toNatClampNeg (37 : Int32)) (1 : Int32)))), (a_t_s, .inl (cI, 103, .inl v_t_s)), (a_t_isKept, .inl (cZ, 2, .inl v_t_isKept))] := hD
    refine lv_aload_n hx hb dX11_settles_18 rfl (lv_at hl 0 rfl) ?_
    refine va_get (D := D) (ci := 11) (v := .ref a_t_draft) (C := RX11) (T := TX11) (N := 23) hx hb hts iX11_settles_X11 hown hK.1 hP 0 rfl rfl 10 (by decide) (hts _ mX11_settles_1) (fun _ h9 => h9) rfl dX11_settles_19 ?_
    refine lv_bipush (v := 38) hx hb dX11_settles_22 (by decide) ?_
    refine lv_iconst (v := 1) hx hb dX11_settles_24 (by decide) ?_
    obtain ⟨jh4, hf⟩ := ckI_inv hf
    refine va_iast hx hb hK.1 hP hD hS 1 0 rfl rfl jh4 dX11_settles_25 (fun H locs hP hD hS => ?_)
    have hP : va_P D vwCl [(a_t, .inr (11, [.int v_t_thrown, .ref a_t_text, .int v_t_typed, .int v_t_spot, .int v_t_token, .int v_t_place, .int v_t_value, .int v_t_fault, .int v_t_copies, .int v_t_draftCopies, .ref a_t_draft, .ref a_t_s, .ref a_t_undos, .int v_t_undoMany, .ref a_t_kept, .ref a_t_isKept, .ref a_t_seenWay, .ref a_t_seenIs, .int v_t_seenMany, .int v_t_asked, .ref a_t_sums, .ref a_t_parts, .ref a_t_heaps])), (a_t_draft, .inl (cI, 103, .inl (upd (upd v_t_draft (Int32.toNatClampNeg (37 : Int32)) (1 : Int32)) (Int32.toNatClampNeg (38 : Int32)) (1 : Int32)))), (a_t_s, .inl (cI, 103, .inl v_t_s)), (a_t_isKept, .inl (cZ, 2, .inl v_t_isKept))] H := hP
    have hD : va_D A [(a_t, .inr (11, [.int v_t_thrown, .ref a_t_text, .int v_t_typed, .int v_t_spot, .int v_t_token, .int v_t_place, .int v_t_value, .int v_t_fault, .int v_t_copies, .int v_t_draftCopies, .ref a_t_draft, .ref a_t_s, .ref a_t_undos, .int v_t_undoMany, .ref a_t_kept, .ref a_t_isKept, .ref a_t_seenWay, .ref a_t_seenIs, .int v_t_seenMany, .int v_t_asked, .ref a_t_sums, .ref a_t_parts, .ref a_t_heaps])), (a_t_draft, .inl (cI, 103, .inl (upd (upd v_t_draft (Int32.toNatClampNeg (37 : Int32)) (1 : Int32)) (Int32.toNatClampNeg (38 : Int32)) (1 : Int32)))), (a_t_s, .inl (cI, 103, .inl v_t_s)), (a_t_isKept, .inl (cZ, 2, .inl v_t_isKept))] := hD
    refine lv_aload_n hx hb dX11_settles_26 rfl (lv_at hl 0 rfl) ?_
    refine lv_aload_n hx hb dX11_settles_27 rfl (lv_at hl 0 rfl) ?_
    refine va_get (D := D) (ci := 11) (v := .int v_t_draftCopies) (C := RX11) (T := TX11) (N := 23) hx hb hts iX11_settles_X11 hown hK.1 hP 0 rfl rfl 9 (by decide) (hts _ mX11_settles_2) (fun _ h9 => h9) rfl dX11_settles_28 ?_
    refine va_put (D := D) (ci := 11) (v := .int v_t_draftCopies) (ty := .int) (C := RX11) (T := TX11) (N := 23) hx hb hts iX11_settles_X11 tyX11 tyX11_ok nmX11 hown hK.1 hP hD hS 0 rfl rfl 8 (by decide) (hts _ mX11_settles_3) (fun _ h9 => h9) rfl (tyX11_ok 8 (by decide)) rfl rfl (Nat.le_of_ble_eq_true rfl) dX11_settles_31 (fun H locs hP hD hS => ?_)
    have hP : va_P D vwCl [(a_t, .inr (11, [.int v_t_thrown, .ref a_t_text, .int v_t_typed, .int v_t_spot, .int v_t_token, .int v_t_place, .int v_t_value, .int v_t_fault, .int v_t_draftCopies, .int v_t_draftCopies, .ref a_t_draft, .ref a_t_s, .ref a_t_undos, .int v_t_undoMany, .ref a_t_kept, .ref a_t_isKept, .ref a_t_seenWay, .ref a_t_seenIs, .int v_t_seenMany, .int v_t_asked, .ref a_t_sums, .ref a_t_parts, .ref a_t_heaps])), (a_t_draft, .inl (cI, 103, .inl (upd (upd v_t_draft (Int32.toNatClampNeg (37 : Int32)) (1 : Int32)) (Int32.toNatClampNeg (38 : Int32)) (1 : Int32)))), (a_t_s, .inl (cI, 103, .inl v_t_s)), (a_t_isKept, .inl (cZ, 2, .inl v_t_isKept))] H := hP
    have hD : va_D A [(a_t, .inr (11, [.int v_t_thrown, .ref a_t_text, .int v_t_typed, .int v_t_spot, .int v_t_token, .int v_t_place, .int v_t_value, .int v_t_fault, .int v_t_draftCopies, .int v_t_draftCopies, .ref a_t_draft, .ref a_t_s, .ref a_t_undos, .int v_t_undoMany, .ref a_t_kept, .ref a_t_isKept, .ref a_t_seenWay, .ref a_t_seenIs, .int v_t_seenMany, .int v_t_asked, .ref a_t_sums, .ref a_t_parts, .ref a_t_heaps])), (a_t_draft, .inl (cI, 103, .inl (upd (upd v_t_draft (Int32.toNatClampNeg (37 : Int32)) (1 : Int32)) (Int32.toNatClampNeg (38 : Int32)) (1 : Int32)))), (a_t_s, .inl (cI, 103, .inl v_t_s)), (a_t_isKept, .inl (cZ, 2, .inl v_t_isKept))] := hD
    refine lv_iconst (v := 0) hx hb dX11_settles_34 (by decide) ?_
    refine lv_istore_n (lv' := [(1, .int (0 : Int32)), (0, .ref a_t)]) hx hb dX11_settles_35 rfl hl (by decide) rfl (fun ls hl => ?_)
    exact wX11_settles_36 S hr hlk hK hA fuel (0 : Int32) v_t_typed v_t_draftCopies v_t_undoMany v_t_seenMany (upd (upd v_t_draft (Int32.toNatClampNeg (37 : Int32)) (1 : Int32)) (Int32.toNatClampNeg (38 : Int32)) (1 : Int32)) v_t_s v_t_isKept ls _ _ hf (lv_sub hl [1, 0] rfl) hP hD hS
def fX11_file_174 (v_t_text : (Nat → Int32)) (jx1 : Int32) (v_t_thrown : Int32) (v_t_typed : Int32) (v_t_spot : Int32) (v_t_token : Int32) (v_t_place : Int32) (v_t_value : Int32) (v_t_fault : Int32) (v_t_copies : Int32) (v_t_draftCopies : Int32) (v_t_undoMany : Int32) (v_t_seenMany : Int32) (v_t_draft : (Nat → Int32)) (v_t_s : (Nat → Int32)) (v_t_isKept : (Nat → Int32)) : Option (Int32 × Int32 × Int32 × Int32 × Int32 × Int32 × Int32 × Int32 × Int32 × Int32 × Int32 × Int32 × (Nat → Int32) × (Nat → Int32) × (Nat → Int32)) := bd1 (fX11_isWell v_t_fault) (fun jr1 => if jr1 = 0 then some (((-10 : Int32) - v_t_fault), v_t_thrown, v_t_typed, v_t_spot, v_t_token, v_t_place, v_t_value, v_t_fault, v_t_copies, v_t_draftCopies, v_t_undoMany, v_t_seenMany, v_t_draft, v_t_s, v_t_isKept) else bd7 (fX11_settles v_t_typed v_t_copies v_t_draftCopies v_t_undoMany v_t_seenMany v_t_draft v_t_s v_t_isKept) (fun jg4 jg5 jg6 jg7 jg8 jg9 jg10 => some (jx1, v_t_thrown, jg4, v_t_spot, v_t_token, v_t_place, v_t_value, v_t_fault, jg5, v_t_draftCopies, jg6, jg7, jg8, jg9, jg10)))
def fX11_file_130 (v_t_text : (Nat → Int32)) (jx1 : Int32) (v_t_thrown : Int32) (v_t_typed : Int32) (v_t_spot : Int32) (v_t_token : Int32) (v_t_place : Int32) (v_t_value : Int32) (v_t_fault : Int32) (v_t_copies : Int32) (v_t_draftCopies : Int32) (v_t_undoMany : Int32) (v_t_seenMany : Int32) (v_t_draft : (Nat → Int32)) (v_t_s : (Nat → Int32)) (v_t_isKept : (Nat → Int32)) : Option (Int32 × Int32 × Int32 × Int32 × Int32 × Int32 × Int32 × Int32 × Int32 × Int32 × Int32 × Int32 × (Nat → Int32) × (Nat → Int32) × (Nat → Int32)) := bd1 (fX11_isWell v_t_fault) (fun jr1 => if jr1 = 0 then fX11_file_174 v_t_text jx1 v_t_thrown v_t_typed v_t_spot v_t_token v_t_place v_t_value v_t_fault v_t_copies v_t_draftCopies v_t_undoMany v_t_seenMany v_t_draft v_t_s v_t_isKept else bd1 (fX11_totalOf 103 (31 : Int32) v_t_draft) (fun jr4 => ckI 103 (37 : Int32) (ckI 103 (38 : Int32) (bd1 (fX11_isLawful jr4 (v_t_draft (Int32.toNatClampNeg (37 : Int32))) (v_t_draft (Int32.toNatClampNeg (38 : Int32)))) (fun jr8 => if jr8 = 0 then fX11_file_174 v_t_text jx1 v_t_thrown v_t_typed v_t_spot v_t_token v_t_place v_t_value v_t_typed v_t_copies v_t_draftCopies v_t_undoMany v_t_seenMany v_t_draft v_t_s v_t_isKept else fX11_file_174 v_t_text jx1 v_t_thrown v_t_typed v_t_spot v_t_token v_t_place v_t_value v_t_fault v_t_copies v_t_draftCopies v_t_undoMany v_t_seenMany v_t_draft v_t_s v_t_isKept)))))
def fX11_file_100 (v_t_text : (Nat → Int32)) (jx1 : Int32) (v_t_thrown : Int32) (v_t_typed : Int32) (v_t_spot : Int32) (v_t_token : Int32) (v_t_place : Int32) (v_t_value : Int32) (v_t_fault : Int32) (v_t_copies : Int32) (v_t_draftCopies : Int32) (v_t_undoMany : Int32) (v_t_seenMany : Int32) (v_t_draft : (Nat → Int32)) (v_t_s : (Nat → Int32)) (v_t_isKept : (Nat → Int32)) : Option (Int32 × Int32 × Int32 × Int32 × Int32 × Int32 × Int32 × Int32 × Int32 × Int32 × Int32 × Int32 × (Nat → Int32) × (Nat → Int32) × (Nat → Int32)) := bd1 (fX11_isWell v_t_fault) (fun jr1 => if jr1 = 0 then fX11_file_130 v_t_text jx1 v_t_thrown v_t_typed v_t_spot v_t_token v_t_place v_t_value v_t_fault v_t_copies v_t_draftCopies v_t_undoMany v_t_seenMany v_t_draft v_t_s v_t_isKept else if jx1 = 0 then ckI 103 (37 : Int32) (ckI 103 (38 : Int32) (fX11_file_174 v_t_text jx1 v_t_thrown v_t_typed v_t_spot v_t_token v_t_place v_t_value v_t_fault v_t_copies v_t_draftCopies v_t_undoMany v_t_seenMany (upd (upd v_t_draft (Int32.toNatClampNeg (37 : Int32)) (1 : Int32)) (Int32.toNatClampNeg (38 : Int32)) (1 : Int32)) v_t_s v_t_isKept)) else fX11_file_130 v_t_text jx1 v_t_thrown v_t_typed v_t_spot v_t_token v_t_place v_t_value v_t_fault v_t_copies v_t_draftCopies v_t_undoMany v_t_seenMany v_t_draft v_t_s v_t_isKept)
def fX11_file_76 (jk25 : Int32 → Int32 → Int32 → Int32 → Int32 → Int32 → Int32 → Int32 → Int32 → Int32 → Int32 → Int32 → (Nat → Int32) → (Nat → Int32) → (Nat → Int32) → Option (Int32 × Int32 × Int32 × Int32 × Int32 × Int32 × Int32 × Int32 × Int32 × Int32 × Int32 × Int32 × (Nat → Int32) × (Nat → Int32) × (Nat → Int32))) (v_t_text : (Nat → Int32)) (jx1 : Int32) (v_t_thrown : Int32) (v_t_typed : Int32) (v_t_spot : Int32) (v_t_token : Int32) (v_t_place : Int32) (v_t_value : Int32) (v_t_fault : Int32) (v_t_copies : Int32) (v_t_draftCopies : Int32) (v_t_undoMany : Int32) (v_t_seenMany : Int32) (v_t_draft : (Nat → Int32)) (v_t_s : (Nat → Int32)) (v_t_isKept : (Nat → Int32)) : Option (Int32 × Int32 × Int32 × Int32 × Int32 × Int32 × Int32 × Int32 × Int32 × Int32 × Int32 × Int32 × (Nat → Int32) × (Nat → Int32) × (Nat → Int32)) := if v_t_token = (3 : Int32) then bd6 (fX11_takes (1 : Int32) v_t_typed v_t_spot v_t_token v_t_place v_t_value v_t_fault v_t_text) (fun jr9 jg10 jg11 jg12 jg13 jg14 => jk25 (jx1 + (1 : Int32)) v_t_thrown v_t_typed jg10 jg11 jg12 jg13 jg14 v_t_copies v_t_draftCopies v_t_undoMany v_t_seenMany v_t_draft v_t_s v_t_isKept) else bd6 (fX11_takes (0 : Int32) v_t_typed v_t_spot v_t_token v_t_place v_t_value v_t_fault v_t_text) (fun jr2 jg3 jg4 jg5 jg6 jg7 => jk25 (jx1 + (1 : Int32)) v_t_thrown v_t_typed jg3 jg4 jg5 jg6 jg7 v_t_copies v_t_draftCopies v_t_undoMany v_t_seenMany v_t_draft v_t_s v_t_isKept)
def fX11_file_60 (jk25 : Int32 → Int32 → Int32 → Int32 → Int32 → Int32 → Int32 → Int32 → Int32 → Int32 → Int32 → Int32 → (Nat → Int32) → (Nat → Int32) → (Nat → Int32) → Option (Int32 × Int32 × Int32 × Int32 × Int32 × Int32 × Int32 × Int32 × Int32 × Int32 × Int32 × Int32 × (Nat → Int32) × (Nat → Int32) × (Nat → Int32))) (v_t_text : (Nat → Int32)) (jx1 : Int32) (jy0 : Int32) (v_t_thrown : Int32) (v_t_typed : Int32) (v_t_spot : Int32) (v_t_token : Int32) (v_t_place : Int32) (v_t_value : Int32) (v_t_fault : Int32) (v_t_copies : Int32) (v_t_draftCopies : Int32) (v_t_undoMany : Int32) (v_t_seenMany : Int32) (v_t_draft : (Nat → Int32)) (v_t_s : (Nat → Int32)) (v_t_isKept : (Nat → Int32)) : Option (Int32 × Int32 × Int32 × Int32 × Int32 × Int32 × Int32 × Int32 × Int32 × Int32 × Int32 × Int32 × (Nat → Int32) × (Nat → Int32) × (Nat → Int32)) := bd6 (fX11_takes jy0 v_t_typed v_t_spot v_t_token v_t_place v_t_value v_t_fault v_t_text) (fun jr1 jg2 jg3 jg4 jg5 jg6 => bd1 (fX11_isWell jg6) (fun jr8 => if jr8 = 0 then fX11_file_76 jk25 v_t_text jx1 v_t_thrown v_t_typed jg2 jg3 jg4 jg5 jg6 v_t_copies v_t_draftCopies v_t_undoMany v_t_seenMany v_t_draft v_t_s v_t_isKept else bd7 (fX11_readsItem jr1 v_t_typed jg2 jg3 jg4 jg5 jg6 v_t_draftCopies v_t_text v_t_draft) (fun jg11 jg12 jg13 jg14 jg15 jg16 jg17 => fX11_file_76 jk25 v_t_text jx1 v_t_thrown v_t_typed jg11 jg12 jg13 jg14 jg15 v_t_copies jg16 v_t_undoMany v_t_seenMany jg17 v_t_s v_t_isKept)))
def fX11_file_25 (v_t_text : (Nat → Int32)) : Nat → Int32 → Int32 → Int32 → Int32 → Int32 → Int32 → Int32 → Int32 → Int32 → Int32 → Int32 → Int32 → (Nat → Int32) → (Nat → Int32) → (Nat → Int32) → Option (Int32 × Int32 × Int32 × Int32 × Int32 × Int32 × Int32 × Int32 × Int32 × Int32 × Int32 × Int32 × (Nat → Int32) × (Nat → Int32) × (Nat → Int32))
  | 0, _, _, _, _, _, _, _, _, _, _, _, _, _, _, _ => none
  | n + 1, jx1, v_t_thrown, v_t_typed, v_t_spot, v_t_token, v_t_place, v_t_value, v_t_fault, v_t_copies, v_t_draftCopies, v_t_undoMany, v_t_seenMany, v_t_draft, v_t_s, v_t_isKept => bd1 (fX11_isWell v_t_fault) (fun jr1 => if jr1 = 0 then fX11_file_100 v_t_text jx1 v_t_thrown v_t_typed v_t_spot v_t_token v_t_place v_t_value v_t_fault v_t_copies v_t_draftCopies v_t_undoMany v_t_seenMany v_t_draft v_t_s v_t_isKept else if v_t_token = 0 then fX11_file_100 v_t_text jx1 v_t_thrown v_t_typed v_t_spot v_t_token v_t_place v_t_value v_t_fault v_t_copies v_t_draftCopies v_t_undoMany v_t_seenMany v_t_draft v_t_s v_t_isKept else if v_t_token = (1 : Int32) then bd1 (fX11_mayBegin v_t_value v_t_draftCopies v_t_draft) (fun jr6 => if jr6 = 0 then fX11_file_60 (fX11_file_25 v_t_text n) v_t_text jx1 (0 : Int32) v_t_thrown v_t_typed v_t_spot v_t_token v_t_place v_t_value v_t_fault v_t_copies v_t_draftCopies v_t_undoMany v_t_seenMany v_t_draft v_t_s v_t_isKept else fX11_file_60 (fX11_file_25 v_t_text n) v_t_text jx1 (1 : Int32) v_t_thrown v_t_typed v_t_spot v_t_token v_t_place v_t_value v_t_fault v_t_copies v_t_draftCopies v_t_undoMany v_t_seenMany v_t_draft v_t_s v_t_isKept) else fX11_file_60 (fX11_file_25 v_t_text n) v_t_text jx1 (0 : Int32) v_t_thrown v_t_typed v_t_spot v_t_token v_t_place v_t_value v_t_fault v_t_copies v_t_draftCopies v_t_undoMany v_t_seenMany v_t_draft v_t_s v_t_isKept)
theorem fX11_file_25_s (v_t_text : (Nat → Int32)) (n : Nat) (jx1 : Int32) (v_t_thrown : Int32) (v_t_typed : Int32) (v_t_spot : Int32) (v_t_token : Int32) (v_t_place : Int32) (v_t_value : Int32) (v_t_fault : Int32) (v_t_copies : Int32) (v_t_draftCopies : Int32) (v_t_undoMany : Int32) (v_t_seenMany : Int32) (v_t_draft : (Nat → Int32)) (v_t_s : (Nat → Int32)) (v_t_isKept : (Nat → Int32)) : fX11_file_25 v_t_text (n + 1) jx1 v_t_thrown v_t_typed v_t_spot v_t_token v_t_place v_t_value v_t_fault v_t_copies v_t_draftCopies v_t_undoMany v_t_seenMany v_t_draft v_t_s v_t_isKept = bd1 (fX11_isWell v_t_fault) (fun jr1 => if jr1 = 0 then fX11_file_100 v_t_text jx1 v_t_thrown v_t_typed v_t_spot v_t_token v_t_place v_t_value v_t_fault v_t_copies v_t_draftCopies v_t_undoMany v_t_seenMany v_t_draft v_t_s v_t_isKept else if v_t_token = 0 then fX11_file_100 v_t_text jx1 v_t_thrown v_t_typed v_t_spot v_t_token v_t_place v_t_value v_t_fault v_t_copies v_t_draftCopies v_t_undoMany v_t_seenMany v_t_draft v_t_s v_t_isKept else if v_t_token = (1 : Int32) then bd1 (fX11_mayBegin v_t_value v_t_draftCopies v_t_draft) (fun jr6 => if jr6 = 0 then fX11_file_60 (fX11_file_25 v_t_text n) v_t_text jx1 (0 : Int32) v_t_thrown v_t_typed v_t_spot v_t_token v_t_place v_t_value v_t_fault v_t_copies v_t_draftCopies v_t_undoMany v_t_seenMany v_t_draft v_t_s v_t_isKept else fX11_file_60 (fX11_file_25 v_t_text n) v_t_text jx1 (1 : Int32) v_t_thrown v_t_typed v_t_spot v_t_token v_t_place v_t_value v_t_fault v_t_copies v_t_draftCopies v_t_undoMany v_t_seenMany v_t_draft v_t_s v_t_isKept) else fX11_file_60 (fX11_file_25 v_t_text n) v_t_text jx1 (0 : Int32) v_t_thrown v_t_typed v_t_spot v_t_token v_t_place v_t_value v_t_fault v_t_copies v_t_draftCopies v_t_undoMany v_t_seenMany v_t_draft v_t_s v_t_isKept) := rfl
def fX11_file (v_t_thrown : Int32) (v_t_typed : Int32) (v_t_spot : Int32) (v_t_token : Int32) (v_t_place : Int32) (v_t_value : Int32) (v_t_fault : Int32) (v_t_copies : Int32) (v_t_draftCopies : Int32) (v_t_undoMany : Int32) (v_t_seenMany : Int32) (v_t_text : (Nat → Int32)) (v_t_draft : (Nat → Int32)) (v_t_s : (Nat → Int32)) (v_t_isKept : (Nat → Int32)) : Option (Int32 × Int32 × Int32 × Int32 × Int32 × Int32 × Int32 × Int32 × Int32 × Int32 × Int32 × Int32 × (Nat → Int32) × (Nat → Int32) × (Nat → Int32)) := bd2 (fX11_begins v_t_draftCopies v_t_draft) (fun jg1 jg2 => bd4 (fX11_advances v_t_typed (0 : Int32) v_t_token v_t_place v_t_value v_t_text) (fun jg4 jg5 jg6 jg7 => fX11_file_25 v_t_text fuel (0 : Int32) (0 : Int32) v_t_typed jg4 jg5 jg6 jg7 (-1 : Int32) v_t_copies jg1 v_t_undoMany v_t_seenMany jg2 v_t_s v_t_isKept))
abbrev rmX11_file : Room := { frames := 7, cells := 0, slots := 0, locals := 156 }
theorem iX11_file_X11 : ∀ w ∈ wsX110, w ∈ wsX11_file := fun _ h => List.mem_cons_of_mem _ (List.mem_append_right _ h)
theorem mX11_file_2 : (Cond.fieldLink RX11 84 "VoteFilesModel" "fault" "I") ∈ wsX11_file := List.mem_of_getElem? (i := 2) rfl
theorem mX11_file_5 : (Cond.fieldLink RX11 13 "VoteFilesModel" "draft" "[I") ∈ wsX11_file := List.mem_of_getElem? (i := 5) rfl
theorem mX11_file_6 : (Cond.fieldLink RX11 58 "VoteFilesModel" "typed" "I") ∈ wsX11_file := List.mem_of_getElem? (i := 6) rfl
theorem mX11_file_4 : (Cond.fieldLink RX11 78 "VoteFilesModel" "token" "I") ∈ wsX11_file := List.mem_of_getElem? (i := 4) rfl
theorem mX11_file_1 : (Cond.fieldLink RX11 50 "VoteFilesModel" "thrown" "I") ∈ wsX11_file := List.mem_of_getElem? (i := 1) rfl
theorem mX11_file_3 : (Cond.fieldLink RX11 68 "VoteFilesModel" "spot" "I") ∈ wsX11_file := List.mem_of_getElem? (i := 3) rfl
set_option maxHeartbeats 4000000 in
set_option maxRecDepth 100000 in
theorem wX11_file_174 {p : Program} {l : Launch} {e : Env} {s : State} {m : MethodId} {args : Array Value} {below : List Frame} {meth : Method} {c : Code} {D : va_G} {cI cZ : ClassId} (S : CallFix p m c cX11_file 3 s args wsX11_file RX11) (hr : meth.sig.returnType = some .int) (hlk : meth.locks = false) (hK : KX D cI cZ s) {a_t a_t_text a_t_draft a_t_s a_t_undos a_t_kept a_t_isKept a_t_seenWay a_t_seenIs a_t_sums a_t_parts a_t_heaps : Nat} {v_t_text : (Nat → Int32)} {v_t_asked : Int32} {r : Int32} {o_t_thrown : Int32} {o_t_typed : Int32} {o_t_spot : Int32} {o_t_token : Int32} {o_t_place : Int32} {o_t_value : Int32} {o_t_fault : Int32} {o_t_copies : Int32} {o_t_draftCopies : Int32} {o_t_undoMany : Int32} {o_t_seenMany : Int32} {o_t_draft : (Nat → Int32)} {o_t_s : (Nat → Int32)} {o_t_isKept : (Nat → Int32)} {A : Nat → Prop} (hA : ∀ q : Nat, s.heap.size ≤ q → A q) : ∀ (jx1 : Int32) (v_t_thrown : Int32) (v_t_typed : Int32) (v_t_spot : Int32) (v_t_token : Int32) (v_t_place : Int32) (v_t_value : Int32) (v_t_fault : Int32) (v_t_copies : Int32) (v_t_draftCopies : Int32) (v_t_undoMany : Int32) (v_t_seenMany : Int32) (v_t_draft : (Nat → Int32)) (v_t_s : (Nat → Int32)) (v_t_isKept : (Nat → Int32)) (ls : Array Slot) (H : Heap) (locs : List Loc), fX11_file_174 v_t_text jx1 v_t_thrown v_t_typed v_t_spot v_t_token v_t_place v_t_value v_t_fault v_t_copies v_t_draftCopies v_t_undoMany v_t_seenMany v_t_draft v_t_s v_t_isKept = some (r, o_t_thrown, o_t_typed, o_t_spot, o_t_token, o_t_place, o_t_value, o_t_fault, o_t_copies, o_t_draftCopies, o_t_undoMany, o_t_seenMany, o_t_draft, o_t_s, o_t_isKept) → lv_has ls 3 [(0, .ref a_t), (1, .int jx1)] → va_P D vwCl [(a_t, .inr (11, [.int v_t_thrown, .ref a_t_text, .int v_t_typed, .int v_t_spot, .int v_t_token, .int v_t_place, .int v_t_value, .int v_t_fault, .int v_t_copies, .int v_t_draftCopies, .ref a_t_draft, .ref a_t_s, .ref a_t_undos, .int v_t_undoMany, .ref a_t_kept, .ref a_t_isKept, .ref a_t_seenWay, .ref a_t_seenIs, .int v_t_seenMany, .int v_t_asked, .ref a_t_sums, .ref a_t_parts, .ref a_t_heaps])), (a_t_text, .inl (cI, 120, .inl v_t_text)), (a_t_draft, .inl (cI, 103, .inl v_t_draft)), (a_t_s, .inl (cI, 103, .inl v_t_s)), (a_t_isKept, .inl (cZ, 2, .inl v_t_isKept))] H → va_D A [(a_t, .inr (11, [.int v_t_thrown, .ref a_t_text, .int v_t_typed, .int v_t_spot, .int v_t_token, .int v_t_place, .int v_t_value, .int v_t_fault, .int v_t_copies, .int v_t_draftCopies, .ref a_t_draft, .ref a_t_s, .ref a_t_undos, .int v_t_undoMany, .ref a_t_kept, .ref a_t_isKept, .ref a_t_seenWay, .ref a_t_seenIs, .int v_t_seenMany, .int v_t_asked, .ref a_t_sums, .ref a_t_parts, .ref a_t_heaps])), (a_t_text, .inl (cI, 120, .inl v_t_text)), (a_t_draft, .inl (cI, 103, .inl v_t_draft)), (a_t_s, .inl (cI, 103, .inl v_t_s)), (a_t_isKept, .inl (cZ, 2, .inl v_t_isKept))] → va_S A s.heap H locs → W p l e rmX11_file s m args below meth c H locs 0 0 (MQ below (qM D (some (.int r)) [(a_t, .inr (11, [.int o_t_thrown, .ref a_t_text, .int o_t_typed, .int o_t_spot, .int o_t_token, .int o_t_place, .int o_t_value, .int o_t_fault, .int o_t_copies, .int o_t_draftCopies, .ref a_t_draft, .ref a_t_s, .ref a_t_undos, .int o_t_undoMany, .ref a_t_kept, .ref a_t_isKept, .ref a_t_seenWay, .ref a_t_seenIs, .int o_t_seenMany, .int v_t_asked, .ref a_t_sums, .ref a_t_parts, .ref a_t_heaps])), (a_t_text, .inl (cI, 120, .inl v_t_text)), (a_t_draft, .inl (cI, 103, .inl o_t_draft)), (a_t_s, .inl (cI, 103, .inl o_t_s)), (a_t_isKept, .inl (cZ, 2, .inl o_t_isKept))] A) args s 0 0 A) (F0 m 174 ls []) := by
  obtain ⟨hx, hb, hml, hown, hts⟩ := id S
  intro jx1 v_t_thrown v_t_typed v_t_spot v_t_token v_t_place v_t_value v_t_fault v_t_copies v_t_draftCopies v_t_undoMany v_t_seenMany v_t_draft v_t_s v_t_isKept ls H locs hf hl hP hD hS
  unfold fX11_file_174 at hf
  refine lv_aload_n hx hb dX11_file_174 rfl (lv_at hl 0 rfl) ?_
  obtain ⟨jr1, je2, hf⟩ := bd1_inv hf
  refine callRV (As := []) (rest := []) S (ctX11_isWell l D cI cZ a_t a_t_text a_t_draft a_t_s a_t_undos a_t_kept a_t_isKept a_t_seenWay a_t_seenIs a_t_sums a_t_parts a_t_heaps v_t_fault v_t_thrown v_t_typed v_t_spot v_t_token v_t_place v_t_value v_t_copies v_t_draftCopies v_t_undoMany v_t_seenMany v_t_asked jr1 je2) (cwV 0 hts gX11_file_X11_isWell rfl rfl rfl ⟨rfl, hdX11_isWell⟩ ⟨Nat.le_of_ble_eq_true rfl, Nat.le_of_ble_eq_true rfl⟩) hP [0] rfl KX.xs (fun U _ hW => hK.warm hW) (va_recv hK.1 hP (ci := 11) (q0 := 0) rfl rfl) rfl hl.1 rfl (Nat.le_of_ble_eq_true rfl) dX11_file_175 ⟨Nat.zero_le _, Nat.zero_le _⟩ ?_
  refine lv_if_ne (tgt := 189) hx hb dX11_file_178 (by decide) (fun jc3 => ?_) (fun jc3 => ?_)
  · have hf := ite_f jc3 hf
    refine lv_aload_n hx hb dX11_file_189 rfl (lv_at hl 0 rfl) ?_
    obtain ⟨jg4, jg5, jg6, jg7, jg8, jg9, jg10, je11, hf⟩ := bd7_inv hf
    refine callMV (As := []) (rest := []) (wr := [(a_t_text, .inl (cI, 120, .inl v_t_text))]) (wn := [(a_t, .inr (11, [.int v_t_thrown, .ref a_t_text, .int jg4, .int v_t_spot, .int v_t_token, .int v_t_place, .int v_t_value, .int v_t_fault, .int jg5, .int v_t_draftCopies, .ref a_t_draft, .ref a_t_s, .ref a_t_undos, .int jg6, .ref a_t_kept, .ref a_t_isKept, .ref a_t_seenWay, .ref a_t_seenIs, .int jg7, .int v_t_asked, .ref a_t_sums, .ref a_t_parts, .ref a_t_heaps])), (a_t_text, .inl (cI, 120, .inl v_t_text)), (a_t_draft, .inl (cI, 103, .inl jg8)), (a_t_s, .inl (cI, 103, .inl jg9)), (a_t_isKept, .inl (cZ, 2, .inl jg10))]) S (ctX11_settles l D cI cZ a_t a_t_text a_t_draft a_t_s a_t_undos a_t_kept a_t_isKept a_t_seenWay a_t_seenIs a_t_sums a_t_parts a_t_heaps v_t_typed v_t_copies v_t_draftCopies v_t_undoMany v_t_seenMany v_t_draft v_t_s v_t_isKept v_t_thrown v_t_spot v_t_token v_t_place v_t_value v_t_fault v_t_asked jg4 jg5 jg6 jg7 jg8 jg9 jg10 je11) (cwV 0 hts gX11_file_X11_settles rfl rfl rfl ⟨rfl, hdX11_settles⟩ ⟨Nat.le_of_ble_eq_true rfl, Nat.le_of_ble_eq_true rfl⟩) hP hD hS hA [0, 2, 3, 4] [1] [1, 0, 2, 3, 4] rfl rfl (by decide) (by decide) (by decide) (by decide) rfl KX.xs (fun U _ hW => hK.warm hW) (va_recv hK.1 hP (ci := 11) (q0 := 0) rfl rfl) rfl hl.1 rfl (Nat.le_of_ble_eq_true rfl) dX11_file_190 ⟨Nat.zero_le _, Nat.zero_le _⟩ (fun H locs hP hD hS => ?_)
    refine W.eq (g2 := F0 m 193 ls []) rfl ?_
    refine lv_iload_n hx hb dX11_file_193 rfl (lv_at hl 1 rfl) ?_
    obtain ⟨rfl, rfl, rfl, rfl, rfl, rfl, rfl, rfl, rfl, rfl, rfl, rfl, rfl, rfl, rfl⟩ := pr15_inv hf
    exact retM hx hb hr hlk hP hD hS dX11_file_194
  · have hf := ite_t jc3 hf
    refine lv_bipush (v := -10) hx hb dX11_file_181 (by decide) ?_
    refine lv_aload_n hx hb dX11_file_183 rfl (lv_at hl 0 rfl) ?_
    refine va_get (D := D) (ci := 11) (v := .int v_t_fault) (C := RX11) (T := TX11) (N := 23) hx hb hts iX11_file_X11 hown hK.1 hP 0 rfl rfl 7 (by decide) (hts _ mX11_file_2) (fun _ h9 => h9) rfl dX11_file_184 ?_
    refine lv_isub hx hb dX11_file_187 ?_
    obtain ⟨rfl, rfl, rfl, rfl, rfl, rfl, rfl, rfl, rfl, rfl, rfl, rfl, rfl, rfl, rfl⟩ := pr15_inv hf
    exact retM hx hb hr hlk hP hD hS dX11_file_188
set_option maxHeartbeats 4000000 in
set_option maxRecDepth 100000 in
theorem wX11_file_130 {p : Program} {l : Launch} {e : Env} {s : State} {m : MethodId} {args : Array Value} {below : List Frame} {meth : Method} {c : Code} {D : va_G} {cI cZ : ClassId} (S : CallFix p m c cX11_file 3 s args wsX11_file RX11) (hr : meth.sig.returnType = some .int) (hlk : meth.locks = false) (hK : KX D cI cZ s) {a_t a_t_text a_t_draft a_t_s a_t_undos a_t_kept a_t_isKept a_t_seenWay a_t_seenIs a_t_sums a_t_parts a_t_heaps : Nat} {v_t_text : (Nat → Int32)} {v_t_asked : Int32} {r : Int32} {o_t_thrown : Int32} {o_t_typed : Int32} {o_t_spot : Int32} {o_t_token : Int32} {o_t_place : Int32} {o_t_value : Int32} {o_t_fault : Int32} {o_t_copies : Int32} {o_t_draftCopies : Int32} {o_t_undoMany : Int32} {o_t_seenMany : Int32} {o_t_draft : (Nat → Int32)} {o_t_s : (Nat → Int32)} {o_t_isKept : (Nat → Int32)} {A : Nat → Prop} (hA : ∀ q : Nat, s.heap.size ≤ q → A q) : ∀ (jx1 : Int32) (v_t_thrown : Int32) (v_t_typed : Int32) (v_t_spot : Int32) (v_t_token : Int32) (v_t_place : Int32) (v_t_value : Int32) (v_t_fault : Int32) (v_t_copies : Int32) (v_t_draftCopies : Int32) (v_t_undoMany : Int32) (v_t_seenMany : Int32) (v_t_draft : (Nat → Int32)) (v_t_s : (Nat → Int32)) (v_t_isKept : (Nat → Int32)) (ls : Array Slot) (H : Heap) (locs : List Loc), fX11_file_130 v_t_text jx1 v_t_thrown v_t_typed v_t_spot v_t_token v_t_place v_t_value v_t_fault v_t_copies v_t_draftCopies v_t_undoMany v_t_seenMany v_t_draft v_t_s v_t_isKept = some (r, o_t_thrown, o_t_typed, o_t_spot, o_t_token, o_t_place, o_t_value, o_t_fault, o_t_copies, o_t_draftCopies, o_t_undoMany, o_t_seenMany, o_t_draft, o_t_s, o_t_isKept) → lv_has ls 3 [(0, .ref a_t), (1, .int jx1)] → va_P D vwCl [(a_t, .inr (11, [.int v_t_thrown, .ref a_t_text, .int v_t_typed, .int v_t_spot, .int v_t_token, .int v_t_place, .int v_t_value, .int v_t_fault, .int v_t_copies, .int v_t_draftCopies, .ref a_t_draft, .ref a_t_s, .ref a_t_undos, .int v_t_undoMany, .ref a_t_kept, .ref a_t_isKept, .ref a_t_seenWay, .ref a_t_seenIs, .int v_t_seenMany, .int v_t_asked, .ref a_t_sums, .ref a_t_parts, .ref a_t_heaps])), (a_t_text, .inl (cI, 120, .inl v_t_text)), (a_t_draft, .inl (cI, 103, .inl v_t_draft)), (a_t_s, .inl (cI, 103, .inl v_t_s)), (a_t_isKept, .inl (cZ, 2, .inl v_t_isKept))] H → va_D A [(a_t, .inr (11, [.int v_t_thrown, .ref a_t_text, .int v_t_typed, .int v_t_spot, .int v_t_token, .int v_t_place, .int v_t_value, .int v_t_fault, .int v_t_copies, .int v_t_draftCopies, .ref a_t_draft, .ref a_t_s, .ref a_t_undos, .int v_t_undoMany, .ref a_t_kept, .ref a_t_isKept, .ref a_t_seenWay, .ref a_t_seenIs, .int v_t_seenMany, .int v_t_asked, .ref a_t_sums, .ref a_t_parts, .ref a_t_heaps])), (a_t_text, .inl (cI, 120, .inl v_t_text)), (a_t_draft, .inl (cI, 103, .inl v_t_draft)), (a_t_s, .inl (cI, 103, .inl v_t_s)), (a_t_isKept, .inl (cZ, 2, .inl v_t_isKept))] → va_S A s.heap H locs → W p l e rmX11_file s m args below meth c H locs 0 0 (MQ below (qM D (some (.int r)) [(a_t, .inr (11, [.int o_t_thrown, .ref a_t_text, .int o_t_typed, .int o_t_spot, .int o_t_token, .int o_t_place, .int o_t_value, .int o_t_fault, .int o_t_copies, .int o_t_draftCopies, .ref a_t_draft, .ref a_t_s, .ref a_t_undos, .int o_t_undoMany, .ref a_t_kept, .ref a_t_isKept, .ref a_t_seenWay, .ref a_t_seenIs, .int o_t_seenMany, .int v_t_asked, .ref a_t_sums, .ref a_t_parts, .ref a_t_heaps])), (a_t_text, .inl (cI, 120, .inl v_t_text)), (a_t_draft, .inl (cI, 103, .inl o_t_draft)), (a_t_s, .inl (cI, 103, .inl o_t_s)), (a_t_isKept, .inl (cZ, 2, .inl o_t_isKept))] A) args s 0 0 A) (F0 m 130 ls []) := by
  obtain ⟨hx, hb, hml, hown, hts⟩ := id S
  intro jx1 v_t_thrown v_t_typed v_t_spot v_t_token v_t_place v_t_value v_t_fault v_t_copies v_t_draftCopies v_t_undoMany v_t_seenMany v_t_draft v_t_s v_t_isKept ls H locs hf hl hP hD hS
  unfold fX11_file_130 at hf
  refine lv_aload_n hx hb dX11_file_130 rfl (lv_at hl 0 rfl) ?_
  obtain ⟨jr1, je2, hf⟩ := bd1_inv hf
  refine callRV (As := []) (rest := []) S (ctX11_isWell l D cI cZ a_t a_t_text a_t_draft a_t_s a_t_undos a_t_kept a_t_isKept a_t_seenWay a_t_seenIs a_t_sums a_t_parts a_t_heaps v_t_fault v_t_thrown v_t_typed v_t_spot v_t_token v_t_place v_t_value v_t_copies v_t_draftCopies v_t_undoMany v_t_seenMany v_t_asked jr1 je2) (cwV 0 hts gX11_file_X11_isWell rfl rfl rfl ⟨rfl, hdX11_isWell⟩ ⟨Nat.le_of_ble_eq_true rfl, Nat.le_of_ble_eq_true rfl⟩) hP [0] rfl KX.xs (fun U _ hW => hK.warm hW) (va_recv hK.1 hP (ci := 11) (q0 := 0) rfl rfl) rfl hl.1 rfl (Nat.le_of_ble_eq_true rfl) dX11_file_131 ⟨Nat.zero_le _, Nat.zero_le _⟩ ?_
  refine lv_if_eq (tgt := 174) hx hb dX11_file_134 (by decide) (fun jc3 => ?_) (fun jc3 => ?_)
  · have hf := ite_t jc3 hf
    exact wX11_file_174 S hr hlk hK hA jx1 v_t_thrown v_t_typed v_t_spot v_t_token v_t_place v_t_value v_t_fault v_t_copies v_t_draftCopies v_t_undoMany v_t_seenMany v_t_draft v_t_s v_t_isKept ls _ _ hf (lv_sub hl [0, 1] rfl) hP hD hS
  · have hf := ite_f jc3 hf
    refine lv_aload_n hx hb dX11_file_137 rfl (lv_at hl 0 rfl) ?_
    refine va_get (D := D) (ci := 11) (v := .ref a_t_draft) (C := RX11) (T := TX11) (N := 23) hx hb hts iX11_file_X11 hown hK.1 hP 0 rfl rfl 10 (by decide) (hts _ mX11_file_5) (fun _ h9 => h9) rfl dX11_file_138 ?_
    refine lv_bipush (v := 31) hx hb dX11_file_141 (by decide) ?_
    obtain ⟨jr4, je5, hf⟩ := bd1_inv hf
    refine callRS (As := [.ref a_t_draft, .int (31 : Int32)]) (rest := []) S (ctX11_totalOf l D cI cZ a_t_draft 103 (31 : Int32) v_t_draft jr4 je5) (va_cwS 2 hts gX11_file_X11_totalOf rfl rfl rfl hdX11_totalOf ⟨Nat.le_of_ble_eq_true rfl, Nat.le_of_ble_eq_true rfl⟩) hP [2] rfl KX.xs (fun U _ hW => hK.warm hW) rfl hl.1 rfl (Nat.le_of_ble_eq_true rfl) dX11_file_143 ⟨Nat.zero_le _, Nat.zero_le _⟩ ?_
    refine lv_aload_n hx hb dX11_file_146 rfl (lv_at hl 0 rfl) ?_
    refine va_get (D := D) (ci := 11) (v := .ref a_t_draft) (C := RX11) (T := TX11) (N := 23) hx hb hts iX11_file_X11 hown hK.1 hP 0 rfl rfl 10 (by decide) (hts _ mX11_file_5) (fun _ h9 => h9) rfl dX11_file_147 ?_
    refine lv_bipush (v := 37) hx hb dX11_file_150 (by decide) ?_
    obtain ⟨jh6, hf⟩ := ckI_inv hf
    refine va_iald hx hb hK.1 hP 2 0 rfl rfl jh6 dX11_file_152 ?_
    refine lv_aload_n hx hb dX11_file_153 rfl (lv_at hl 0 rfl) ?_
    refine va_get (D := D) (ci := 11) (v := .ref a_t_draft) (C := RX11) (T := TX11) (N := 23) hx hb hts iX11_file_X11 hown hK.1 hP 0 rfl rfl 10 (by decide) (hts _ mX11_file_5) (fun _ h9 => h9) rfl dX11_file_154 ?_
    refine lv_bipush (v := 38) hx hb dX11_file_157 (by decide) ?_
    obtain ⟨jh7, hf⟩ := ckI_inv hf
    refine va_iald hx hb hK.1 hP 2 0 rfl rfl jh7 dX11_file_159 ?_
    obtain ⟨jr8, je9, hf⟩ := bd1_inv hf
    refine callRS (As := [.int jr4, .int (v_t_draft (Int32.toNatClampNeg (37 : Int32))), .int (v_t_draft (Int32.toNatClampNeg (38 : Int32)))]) (rest := []) S (ctX11_isLawful l D cI cZ jr4 (v_t_draft (Int32.toNatClampNeg (37 : Int32))) (v_t_draft (Int32.toNatClampNeg (38 : Int32))) jr8 je9) (va_cwS 3 hts gX11_file_X11_isLawful rfl rfl rfl hdX11_isLawful ⟨Nat.le_of_ble_eq_true rfl, Nat.le_of_ble_eq_true rfl⟩) hP [] rfl KX.xs (fun U _ hW => hK.warm hW) rfl hl.1 rfl (Nat.le_of_ble_eq_true rfl) dX11_file_160 ⟨Nat.zero_le _, Nat.zero_le _⟩ ?_
    refine lv_if_ne (tgt := 174) hx hb dX11_file_163 (by decide) (fun jc10 => ?_) (fun jc10 => ?_)
    · have hf := ite_f jc10 hf
      exact wX11_file_174 S hr hlk hK hA jx1 v_t_thrown v_t_typed v_t_spot v_t_token v_t_place v_t_value v_t_fault v_t_copies v_t_draftCopies v_t_undoMany v_t_seenMany v_t_draft v_t_s v_t_isKept ls _ _ hf (lv_sub hl [0, 1] rfl) hP hD hS
    · have hf := ite_t jc10 hf
      refine lv_aload_n hx hb dX11_file_166 rfl (lv_at hl 0 rfl) ?_
      refine lv_aload_n hx hb dX11_file_167 rfl (lv_at hl 0 rfl) ?_
      refine va_get (D := D) (ci := 11) (v := .int v_t_typed) (C := RX11) (T := TX11) (N := 23) hx hb hts iX11_file_X11 hown hK.1 hP 0 rfl rfl 2 (by decide) (hts _ mX11_file_6) (fun _ h9 => h9) rfl dX11_file_168 ?_
      refine va_put (D := D) (ci := 11) (v := .int v_t_typed) (ty := .int) (C := RX11) (T := TX11) (N := 23) hx hb hts iX11_file_X11 tyX11 tyX11_ok nmX11 hown hK.1 hP hD hS 0 rfl rfl 7 (by decide) (hts _ mX11_file_2) (fun _ h9 => h9) rfl (tyX11_ok 7 (by decide)) rfl rfl (Nat.le_of_ble_eq_true rfl) dX11_file_171 (fun H locs hP hD hS => ?_)
      have hP : va_P D vwCl [(a_t, .inr (11, [.int v_t_thrown, .ref a_t_text, .int v_t_typed, .int v_t_spot, .int v_t_token, .int v_t_place, .int v_t_value, .int v_t_typed, .int v_t_copies, .int v_t_draftCopies, .ref a_t_draft, .ref a_t_s, .ref a_t_undos, .int v_t_undoMany, .ref a_t_kept, .ref a_t_isKept, .ref a_t_seenWay, .ref a_t_seenIs, .int v_t_seenMany, .int v_t_asked, .ref a_t_sums, .ref a_t_parts, .ref a_t_heaps])), (a_t_text, .inl (cI, 120, .inl v_t_text)), (a_t_draft, .inl (cI, 103, .inl v_t_draft)), (a_t_s, .inl (cI, 103, .inl v_t_s)), (a_t_isKept, .inl (cZ, 2, .inl v_t_isKept))] H := hP
      have hD : va_D A [(a_t, .inr (11, [.int v_t_thrown, .ref a_t_text, .int v_t_typed, .int v_t_spot, .int v_t_token, .int v_t_place, .int v_t_value, .int v_t_typed, .int v_t_copies, .int v_t_draftCopies, .ref a_t_draft, .ref a_t_s, .ref a_t_undos, .int v_t_undoMany, .ref a_t_kept, .ref a_t_isKept, .ref a_t_seenWay, .ref a_t_seenIs, .int v_t_seenMany, .int v_t_asked, .ref a_t_sums, .ref a_t_parts, .ref a_t_heaps])), (a_t_text, .inl (cI, 120, .inl v_t_text)), (a_t_draft, .inl (cI, 103, .inl v_t_draft)), (a_t_s, .inl (cI, 103, .inl v_t_s)), (a_t_isKept, .inl (cZ, 2, .inl v_t_isKept))] := hD
      exact wX11_file_174 S hr hlk hK hA jx1 v_t_thrown v_t_typed v_t_spot v_t_token v_t_place v_t_value v_t_typed v_t_copies v_t_draftCopies v_t_undoMany v_t_seenMany v_t_draft v_t_s v_t_isKept ls _ _ hf (lv_sub hl [0, 1] rfl) hP hD hS
set_option maxHeartbeats 4000000 in
set_option maxRecDepth 100000 in
theorem wX11_file_100 {p : Program} {l : Launch} {e : Env} {s : State} {m : MethodId} {args : Array Value} {below : List Frame} {meth : Method} {c : Code} {D : va_G} {cI cZ : ClassId} (S : CallFix p m c cX11_file 3 s args wsX11_file RX11) (hr : meth.sig.returnType = some .int) (hlk : meth.locks = false) (hK : KX D cI cZ s) {a_t a_t_text a_t_draft a_t_s a_t_undos a_t_kept a_t_isKept a_t_seenWay a_t_seenIs a_t_sums a_t_parts a_t_heaps : Nat} {v_t_text : (Nat → Int32)} {v_t_asked : Int32} {r : Int32} {o_t_thrown : Int32} {o_t_typed : Int32} {o_t_spot : Int32} {o_t_token : Int32} {o_t_place : Int32} {o_t_value : Int32} {o_t_fault : Int32} {o_t_copies : Int32} {o_t_draftCopies : Int32} {o_t_undoMany : Int32} {o_t_seenMany : Int32} {o_t_draft : (Nat → Int32)} {o_t_s : (Nat → Int32)} {o_t_isKept : (Nat → Int32)} {A : Nat → Prop} (hA : ∀ q : Nat, s.heap.size ≤ q → A q) : ∀ (jx1 : Int32) (v_t_thrown : Int32) (v_t_typed : Int32) (v_t_spot : Int32) (v_t_token : Int32) (v_t_place : Int32) (v_t_value : Int32) (v_t_fault : Int32) (v_t_copies : Int32) (v_t_draftCopies : Int32) (v_t_undoMany : Int32) (v_t_seenMany : Int32) (v_t_draft : (Nat → Int32)) (v_t_s : (Nat → Int32)) (v_t_isKept : (Nat → Int32)) (ls : Array Slot) (H : Heap) (locs : List Loc), fX11_file_100 v_t_text jx1 v_t_thrown v_t_typed v_t_spot v_t_token v_t_place v_t_value v_t_fault v_t_copies v_t_draftCopies v_t_undoMany v_t_seenMany v_t_draft v_t_s v_t_isKept = some (r, o_t_thrown, o_t_typed, o_t_spot, o_t_token, o_t_place, o_t_value, o_t_fault, o_t_copies, o_t_draftCopies, o_t_undoMany, o_t_seenMany, o_t_draft, o_t_s, o_t_isKept) → lv_has ls 3 [(0, .ref a_t), (1, .int jx1)] → va_P D vwCl [(a_t, .inr (11, [.int v_t_thrown, .ref a_t_text, .int v_t_typed, .int v_t_spot, .int v_t_token, .int v_t_place, .int v_t_value, .int v_t_fault, .int v_t_copies, .int v_t_draftCopies, .ref a_t_draft, .ref a_t_s, .ref a_t_undos, .int v_t_undoMany, .ref a_t_kept, .ref a_t_isKept, .ref a_t_seenWay, .ref a_t_seenIs, .int v_t_seenMany, .int v_t_asked, .ref a_t_sums, .ref a_t_parts, .ref a_t_heaps])), (a_t_text, .inl (cI, 120, .inl v_t_text)), (a_t_draft, .inl (cI, 103, .inl v_t_draft)), (a_t_s, .inl (cI, 103, .inl v_t_s)), (a_t_isKept, .inl (cZ, 2, .inl v_t_isKept))] H → va_D A [(a_t, .inr (11, [.int v_t_thrown, .ref a_t_text, .int v_t_typed, .int v_t_spot, .int v_t_token, .int v_t_place, .int v_t_value, .int v_t_fault, .int v_t_copies, .int v_t_draftCopies, .ref a_t_draft, .ref a_t_s, .ref a_t_undos, .int v_t_undoMany, .ref a_t_kept, .ref a_t_isKept, .ref a_t_seenWay, .ref a_t_seenIs, .int v_t_seenMany, .int v_t_asked, .ref a_t_sums, .ref a_t_parts, .ref a_t_heaps])), (a_t_text, .inl (cI, 120, .inl v_t_text)), (a_t_draft, .inl (cI, 103, .inl v_t_draft)), (a_t_s, .inl (cI, 103, .inl v_t_s)), (a_t_isKept, .inl (cZ, 2, .inl v_t_isKept))] → va_S A s.heap H locs → W p l e rmX11_file s m args below meth c H locs 0 0 (MQ below (qM D (some (.int r)) [(a_t, .inr (11, [.int o_t_thrown, .ref a_t_text, .int o_t_typed, .int o_t_spot, .int o_t_token, .int o_t_place, .int o_t_value, .int o_t_fault, .int o_t_copies, .int o_t_draftCopies, .ref a_t_draft, .ref a_t_s, .ref a_t_undos, .int o_t_undoMany, .ref a_t_kept, .ref a_t_isKept, .ref a_t_seenWay, .ref a_t_seenIs, .int o_t_seenMany, .int v_t_asked, .ref a_t_sums, .ref a_t_parts, .ref a_t_heaps])), (a_t_text, .inl (cI, 120, .inl v_t_text)), (a_t_draft, .inl (cI, 103, .inl o_t_draft)), (a_t_s, .inl (cI, 103, .inl o_t_s)), (a_t_isKept, .inl (cZ, 2, .inl o_t_isKept))] A) args s 0 0 A) (F0 m 100 ls []) := by
  obtain ⟨hx, hb, hml, hown, hts⟩ := id S
  intro jx1 v_t_thrown v_t_typed v_t_spot v_t_token v_t_place v_t_value v_t_fault v_t_copies v_t_draftCopies v_t_undoMany v_t_seenMany v_t_draft v_t_s v_t_isKept ls H locs hf hl hP hD hS
  unfold fX11_file_100 at hf
  refine lv_aload_n hx hb dX11_file_100 rfl (lv_at hl 0 rfl) ?_
  obtain ⟨jr1, je2, hf⟩ := bd1_inv hf
  refine callRV (As := []) (rest := []) S (ctX11_isWell l D cI cZ a_t a_t_text a_t_draft a_t_s a_t_undos a_t_kept a_t_isKept a_t_seenWay a_t_seenIs a_t_sums a_t_parts a_t_heaps v_t_fault v_t_thrown v_t_typed v_t_spot v_t_token v_t_place v_t_value v_t_copies v_t_draftCopies v_t_undoMany v_t_seenMany v_t_asked jr1 je2) (cwV 0 hts gX11_file_X11_isWell rfl rfl rfl ⟨rfl, hdX11_isWell⟩ ⟨Nat.le_of_ble_eq_true rfl, Nat.le_of_ble_eq_true rfl⟩) hP [0] rfl KX.xs (fun U _ hW => hK.warm hW) (va_recv hK.1 hP (ci := 11) (q0 := 0) rfl rfl) rfl hl.1 rfl (Nat.le_of_ble_eq_true rfl) dX11_file_101 ⟨Nat.zero_le _, Nat.zero_le _⟩ ?_
  refine lv_if_eq (tgt := 130) hx hb dX11_file_104 (by decide) (fun jc3 => ?_) (fun jc3 => ?_)
  · have hf := ite_t jc3 hf
    exact wX11_file_130 S hr hlk hK hA jx1 v_t_thrown v_t_typed v_t_spot v_t_token v_t_place v_t_value v_t_fault v_t_copies v_t_draftCopies v_t_undoMany v_t_seenMany v_t_draft v_t_s v_t_isKept ls _ _ hf (lv_sub hl [0, 1] rfl) hP hD hS
  · have hf := ite_f jc3 hf
    refine lv_iload_n hx hb dX11_file_107 rfl (lv_at hl 1 rfl) ?_
    refine lv_if_ne (tgt := 130) hx hb dX11_file_108 (by decide) (fun jc4 => ?_) (fun jc4 => ?_)
    · have hf := ite_f jc4 hf
      exact wX11_file_130 S hr hlk hK hA jx1 v_t_thrown v_t_typed v_t_spot v_t_token v_t_place v_t_value v_t_fault v_t_copies v_t_draftCopies v_t_undoMany v_t_seenMany v_t_draft v_t_s v_t_isKept ls _ _ hf (lv_sub hl [0, 1] rfl) hP hD hS
    · have hf := ite_t jc4 hf
      refine lv_aload_n hx hb dX11_file_111 rfl (lv_at hl 0 rfl) ?_
      refine va_get (D := D) (ci := 11) (v := .ref a_t_draft) (C := RX11) (T := TX11) (N := 23) hx hb hts iX11_file_X11 hown hK.1 hP 0 rfl rfl 10 (by decide) (hts _ mX11_file_5) (fun _ h9 => h9) rfl dX11_file_112 ?_
      refine lv_bipush (v := 37) hx hb dX11_file_115 (by decide) ?_
      refine lv_iconst (v := 1) hx hb dX11_file_117 (by decide) ?_
      obtain ⟨jh5, hf⟩ := ckI_inv hf
      refine va_iast hx hb hK.1 hP hD hS 2 0 rfl rfl jh5 dX11_file_118 (fun H locs hP hD hS => ?_)
      have hP : va_P D vwCl [(a_t, .inr (11, [.int v_t_thrown, .ref a_t_text, .int v_t_typed, .int v_t_spot, .int v_t_token, .int v_t_place, .int v_t_value, .int v_t_fault, .int v_t_copies, .int v_t_draftCopies, .ref a_t_draft, .ref a_t_s, .ref a_t_undos, .int v_t_undoMany, .ref a_t_kept, .ref a_t_isKept, .ref a_t_seenWay, .ref a_t_seenIs, .int v_t_seenMany, .int v_t_asked, .ref a_t_sums, .ref a_t_parts, .ref a_t_heaps])), (a_t_text, .inl (cI, 120, .inl v_t_text)), (a_t_draft, .inl (cI, 103, .inl (upd v_t_draft (Int32.toNatClampNeg (37 : Int32)) (1 : Int32)))), (a_t_s, .inl (cI, 103, .inl v_t_s)), (a_t_isKept, .inl (cZ, 2, .inl v_t_isKept))] H := hP
      have hD : va_D A [(a_t, .inr (11, [.int v_t_thrown, .ref a_t_text, .int v_t_typed, .int v_t_spot, .int v_t_token, .int v_t_place, .int v_t_value, .int v_t_fault, .int v_t_copies, .int v_t_draftCopies, .ref a_t_draft, .ref a_t_s, .ref a_t_undos, .int v_t_undoMany, .ref a_t_kept, .ref a_t_isKept, .ref a_t_seenWay, .ref a_t_seenIs, .int v_t_seenMany, .int v_t_asked, .ref a_t_sums, .ref a_t_parts, .ref a_t_heaps])), (a_t_text, .inl (cI, 120, .inl v_t_text)), (a_t_draft, .inl (cI, 103, .inl (upd v_t_draft (Int32.toNatClampNeg (37 : Int32)) (1 : Int32)))), (a_t_s, .inl (cI, 103, .inl v_t_s)), (a_t_isKept, .inl (cZ, 2, .inl v_t_isKept))] := hD
      refine lv_aload_n hx hb dX11_file_119 rfl (lv_at hl 0 rfl) ?_
      refine va_get (D := D) (ci := 11) (v := .ref a_t_draft) (C := RX11) (T := TX11) (N := 23) hx hb hts iX11_file_X11 hown hK.1 hP 0 rfl rfl 10 (by decide) (hts _ mX11_file_5) (fun _ h9 => h9) rfl dX11_file_120 ?_
      refine lv_bipush (v := 38) hx hb dX11_file_123 (by decide) ?_
      refine lv_iconst (v := 1) hx hb dX11_file_125 (by decide) ?_
      obtain ⟨jh6, hf⟩ := ckI_inv hf
      refine va_iast hx hb hK.1 hP hD hS 2 0 rfl rfl jh6 dX11_file_126 (fun H locs hP hD hS => ?_)
      have hP : va_P D vwCl [(a_t, .inr (11, [.int v_t_thrown, .ref a_t_text, .int v_t_typed, .int v_t_spot, .int v_t_token, .int v_t_place, .int v_t_value, .int v_t_fault, .int v_t_copies, .int v_t_draftCopies, .ref a_t_draft, .ref a_t_s, .ref a_t_undos, .int v_t_undoMany, .ref a_t_kept, .ref a_t_isKept, .ref a_t_seenWay, .ref a_t_seenIs, .int v_t_seenMany, .int v_t_asked, .ref a_t_sums, .ref a_t_parts, .ref a_t_heaps])), (a_t_text, .inl (cI, 120, .inl v_t_text)), (a_t_draft, .inl (cI, 103, .inl (upd (upd v_t_draft (Int32.toNatClampNeg (37 : Int32)) (1 : Int32)) (Int32.toNatClampNeg (38 : Int32)) (1 : Int32)))), (a_t_s, .inl (cI, 103, .inl v_t_s)), (a_t_isKept, .inl (cZ, 2, .inl v_t_isKept))] H := hP
      have hD : va_D A [(a_t, .inr (11, [.int v_t_thrown, .ref a_t_text, .int v_t_typed, .int v_t_spot, .int v_t_token, .int v_t_place, .int v_t_value, .int v_t_fault, .int v_t_copies, .int v_t_draftCopies, .ref a_t_draft, .ref a_t_s, .ref a_t_undos, .int v_t_undoMany, .ref a_t_kept, .ref a_t_isKept, .ref a_t_seenWay, .ref a_t_seenIs, .int v_t_seenMany, .int v_t_asked, .ref a_t_sums, .ref a_t_parts, .ref a_t_heaps])), (a_t_text, .inl (cI, 120, .inl v_t_text)), (a_t_draft, .inl (cI, 103, .inl (upd (upd v_t_draft (Int32.toNatClampNeg (37 : Int32)) (1 : Int32)) (Int32.toNatClampNeg (38 : Int32)) (1 : Int32)))), (a_t_s, .inl (cI, 103, .inl v_t_s)), (a_t_isKept, .inl (cZ, 2, .inl v_t_isKept))] := hD
      refine lv_goto (tgt := 174) hx hb dX11_file_127 (by decide) ?_
      exact wX11_file_174 S hr hlk hK hA jx1 v_t_thrown v_t_typed v_t_spot v_t_token v_t_place v_t_value v_t_fault v_t_copies v_t_draftCopies v_t_undoMany v_t_seenMany (upd (upd v_t_draft (Int32.toNatClampNeg (37 : Int32)) (1 : Int32)) (Int32.toNatClampNeg (38 : Int32)) (1 : Int32)) v_t_s v_t_isKept ls _ _ hf (lv_sub hl [0, 1] rfl) hP hD hS
set_option maxHeartbeats 4000000 in
set_option maxRecDepth 100000 in
theorem wX11_file_76 {p : Program} {l : Launch} {e : Env} {s : State} {m : MethodId} {args : Array Value} {below : List Frame} {meth : Method} {c : Code} {D : va_G} {cI cZ : ClassId} (S : CallFix p m c cX11_file 3 s args wsX11_file RX11) (hr : meth.sig.returnType = some .int) (hlk : meth.locks = false) (hK : KX D cI cZ s) {a_t a_t_text a_t_draft a_t_s a_t_undos a_t_kept a_t_isKept a_t_seenWay a_t_seenIs a_t_sums a_t_parts a_t_heaps : Nat} {jk25 : Int32 → Int32 → Int32 → Int32 → Int32 → Int32 → Int32 → Int32 → Int32 → Int32 → Int32 → Int32 → (Nat → Int32) → (Nat → Int32) → (Nat → Int32) → Option (Int32 × Int32 × Int32 × Int32 × Int32 × Int32 × Int32 × Int32 × Int32 × Int32 × Int32 × Int32 × (Nat → Int32) × (Nat → Int32) × (Nat → Int32))} {v_t_text : (Nat → Int32)} {v_t_asked : Int32} {r : Int32} {o_t_thrown : Int32} {o_t_typed : Int32} {o_t_spot : Int32} {o_t_token : Int32} {o_t_place : Int32} {o_t_value : Int32} {o_t_fault : Int32} {o_t_copies : Int32} {o_t_draftCopies : Int32} {o_t_undoMany : Int32} {o_t_seenMany : Int32} {o_t_draft : (Nat → Int32)} {o_t_s : (Nat → Int32)} {o_t_isKept : (Nat → Int32)} {A : Nat → Prop} (hA : ∀ q : Nat, s.heap.size ≤ q → A q) (hk25 : ∀ (jx1 : Int32) (v_t_thrown : Int32) (v_t_typed : Int32) (v_t_spot : Int32) (v_t_token : Int32) (v_t_place : Int32) (v_t_value : Int32) (v_t_fault : Int32) (v_t_copies : Int32) (v_t_draftCopies : Int32) (v_t_undoMany : Int32) (v_t_seenMany : Int32) (v_t_draft : (Nat → Int32)) (v_t_s : (Nat → Int32)) (v_t_isKept : (Nat → Int32)) (ls : Array Slot) (H : Heap) (locs : List Loc), jk25 jx1 v_t_thrown v_t_typed v_t_spot v_t_token v_t_place v_t_value v_t_fault v_t_copies v_t_draftCopies v_t_undoMany v_t_seenMany v_t_draft v_t_s v_t_isKept = some (r, o_t_thrown, o_t_typed, o_t_spot, o_t_token, o_t_place, o_t_value, o_t_fault, o_t_copies, o_t_draftCopies, o_t_undoMany, o_t_seenMany, o_t_draft, o_t_s, o_t_isKept) → lv_has ls 3 [(0, .ref a_t), (1, .int jx1)] → va_P D vwCl [(a_t, .inr (11, [.int v_t_thrown, .ref a_t_text, .int v_t_typed, .int v_t_spot, .int v_t_token, .int v_t_place, .int v_t_value, .int v_t_fault, .int v_t_copies, .int v_t_draftCopies, .ref a_t_draft, .ref a_t_s, .ref a_t_undos, .int v_t_undoMany, .ref a_t_kept, .ref a_t_isKept, .ref a_t_seenWay, .ref a_t_seenIs, .int v_t_seenMany, .int v_t_asked, .ref a_t_sums, .ref a_t_parts, .ref a_t_heaps])), (a_t_text, .inl (cI, 120, .inl v_t_text)), (a_t_draft, .inl (cI, 103, .inl v_t_draft)), (a_t_s, .inl (cI, 103, .inl v_t_s)), (a_t_isKept, .inl (cZ, 2, .inl v_t_isKept))] H → va_D A [(a_t, .inr (11, [.int v_t_thrown, .ref a_t_text, .int v_t_typed, .int v_t_spot, .int v_t_token, .int v_t_place, .int v_t_value, .int v_t_fault, .int v_t_copies, .int v_t_draftCopies, .ref a_t_draft, .ref a_t_s, .ref a_t_undos, .int v_t_undoMany, .ref a_t_kept, .ref a_t_isKept, .ref a_t_seenWay, .ref a_t_seenIs, .int v_t_seenMany, .int v_t_asked, .ref a_t_sums, .ref a_t_parts, .ref a_t_heaps])), (a_t_text, .inl (cI, 120, .inl v_t_text)), (a_t_draft, .inl (cI, 103, .inl v_t_draft)), (a_t_s, .inl (cI, 103, .inl v_t_s)), (a_t_isKept, .inl (cZ, 2, .inl v_t_isKept))] → va_S A s.heap H locs → W p l e rmX11_file s m args below meth c H locs 0 0 (MQ below (qM D (some (.int r)) [(a_t, .inr (11, [.int o_t_thrown, .ref a_t_text, .int o_t_typed, .int o_t_spot, .int o_t_token, .int o_t_place, .int o_t_value, .int o_t_fault, .int o_t_copies, .int o_t_draftCopies, .ref a_t_draft, .ref a_t_s, .ref a_t_undos, .int o_t_undoMany, .ref a_t_kept, .ref a_t_isKept, .ref a_t_seenWay, .ref a_t_seenIs, .int o_t_seenMany, .int v_t_asked, .ref a_t_sums, .ref a_t_parts, .ref a_t_heaps])), (a_t_text, .inl (cI, 120, .inl v_t_text)), (a_t_draft, .inl (cI, 103, .inl o_t_draft)), (a_t_s, .inl (cI, 103, .inl o_t_s)), (a_t_isKept, .inl (cZ, 2, .inl o_t_isKept))] A) args s 0 0 A) (F0 m 25 ls [])) : ∀ (jx1 : Int32) (v_t_thrown : Int32) (v_t_typed : Int32) (v_t_spot : Int32) (v_t_token : Int32) (v_t_place : Int32) (v_t_value : Int32) (v_t_fault : Int32) (v_t_copies : Int32) (v_t_draftCopies : Int32) (v_t_undoMany : Int32) (v_t_seenMany : Int32) (v_t_draft : (Nat → Int32)) (v_t_s : (Nat → Int32)) (v_t_isKept : (Nat → Int32)) (ls : Array Slot) (H : Heap) (locs : List Loc), fX11_file_76 jk25 v_t_text jx1 v_t_thrown v_t_typed v_t_spot v_t_token v_t_place v_t_value v_t_fault v_t_copies v_t_draftCopies v_t_undoMany v_t_seenMany v_t_draft v_t_s v_t_isKept = some (r, o_t_thrown, o_t_typed, o_t_spot, o_t_token, o_t_place, o_t_value, o_t_fault, o_t_copies, o_t_draftCopies, o_t_undoMany, o_t_seenMany, o_t_draft, o_t_s, o_t_isKept) → lv_has ls 3 [(0, .ref a_t), (1, .int jx1)] → va_P D vwCl [(a_t, .inr (11, [.int v_t_thrown, .ref a_t_text, .int v_t_typed, .int v_t_spot, .int v_t_token, .int v_t_place, .int v_t_value, .int v_t_fault, .int v_t_copies, .int v_t_draftCopies, .ref a_t_draft, .ref a_t_s, .ref a_t_undos, .int v_t_undoMany, .ref a_t_kept, .ref a_t_isKept, .ref a_t_seenWay, .ref a_t_seenIs, .int v_t_seenMany, .int v_t_asked, .ref a_t_sums, .ref a_t_parts, .ref a_t_heaps])), (a_t_text, .inl (cI, 120, .inl v_t_text)), (a_t_draft, .inl (cI, 103, .inl v_t_draft)), (a_t_s, .inl (cI, 103, .inl v_t_s)), (a_t_isKept, .inl (cZ, 2, .inl v_t_isKept))] H → va_D A [(a_t, .inr (11, [.int v_t_thrown, .ref a_t_text, .int v_t_typed, .int v_t_spot, .int v_t_token, .int v_t_place, .int v_t_value, .int v_t_fault, .int v_t_copies, .int v_t_draftCopies, .ref a_t_draft, .ref a_t_s, .ref a_t_undos, .int v_t_undoMany, .ref a_t_kept, .ref a_t_isKept, .ref a_t_seenWay, .ref a_t_seenIs, .int v_t_seenMany, .int v_t_asked, .ref a_t_sums, .ref a_t_parts, .ref a_t_heaps])), (a_t_text, .inl (cI, 120, .inl v_t_text)), (a_t_draft, .inl (cI, 103, .inl v_t_draft)), (a_t_s, .inl (cI, 103, .inl v_t_s)), (a_t_isKept, .inl (cZ, 2, .inl v_t_isKept))] → va_S A s.heap H locs → W p l e rmX11_file s m args below meth c H locs 0 0 (MQ below (qM D (some (.int r)) [(a_t, .inr (11, [.int o_t_thrown, .ref a_t_text, .int o_t_typed, .int o_t_spot, .int o_t_token, .int o_t_place, .int o_t_value, .int o_t_fault, .int o_t_copies, .int o_t_draftCopies, .ref a_t_draft, .ref a_t_s, .ref a_t_undos, .int o_t_undoMany, .ref a_t_kept, .ref a_t_isKept, .ref a_t_seenWay, .ref a_t_seenIs, .int o_t_seenMany, .int v_t_asked, .ref a_t_sums, .ref a_t_parts, .ref a_t_heaps])), (a_t_text, .inl (cI, 120, .inl v_t_text)), (a_t_draft, .inl (cI, 103, .inl o_t_draft)), (a_t_s, .inl (cI, 103, .inl o_t_s)), (a_t_isKept, .inl (cZ, 2, .inl o_t_isKept))] A) args s 0 0 A) (F0 m 76 ls []) := by
  obtain ⟨hx, hb, hml, hown, hts⟩ := id S
  intro jx1 v_t_thrown v_t_typed v_t_spot v_t_token v_t_place v_t_value v_t_fault v_t_copies v_t_draftCopies v_t_undoMany v_t_seenMany v_t_draft v_t_s v_t_isKept ls H locs hf hl hP hD hS
  unfold fX11_file_76 at hf
  refine lv_aload_n hx hb dX11_file_76 rfl (lv_at hl 0 rfl) ?_
  refine lv_aload_n hx hb dX11_file_77 rfl (lv_at hl 0 rfl) ?_
  refine va_get (D := D) (ci := 11) (v := .int v_t_token) (C := RX11) (T := TX11) (N := 23) hx hb hts iX11_file_X11 hown hK.1 hP 0 rfl rfl 4 (by decide) (hts _ mX11_file_4) (fun _ h9 => h9) rfl dX11_file_78 ?_
  refine lv_iconst (v := 3) hx hb dX11_file_81 (by decide) ?_
  refine lv_icmp_ne (tgt := 89) hx hb dX11_file_82 (by decide) (fun jc1 => ?_) (fun jc1 => ?_)
  · have hf := ite_f jc1 hf
    refine lv_iconst (v := 0) hx hb dX11_file_89 (by decide) ?_
    obtain ⟨jr2, jg3, jg4, jg5, jg6, jg7, je8, hf⟩ := bd6_inv hf
    refine callMV (As := [.int (0 : Int32)]) (rest := []) (wr := [(a_t_draft, .inl (cI, 103, .inl v_t_draft)), (a_t_s, .inl (cI, 103, .inl v_t_s)), (a_t_isKept, .inl (cZ, 2, .inl v_t_isKept))]) (wn := [(a_t, .inr (11, [.int v_t_thrown, .ref a_t_text, .int v_t_typed, .int jg3, .int jg4, .int jg5, .int jg6, .int jg7, .int v_t_copies, .int v_t_draftCopies, .ref a_t_draft, .ref a_t_s, .ref a_t_undos, .int v_t_undoMany, .ref a_t_kept, .ref a_t_isKept, .ref a_t_seenWay, .ref a_t_seenIs, .int v_t_seenMany, .int v_t_asked, .ref a_t_sums, .ref a_t_parts, .ref a_t_heaps])), (a_t_text, .inl (cI, 120, .inl v_t_text)), (a_t_draft, .inl (cI, 103, .inl v_t_draft)), (a_t_s, .inl (cI, 103, .inl v_t_s)), (a_t_isKept, .inl (cZ, 2, .inl v_t_isKept))]) S (ctX11_takes l D cI cZ a_t a_t_text a_t_draft a_t_s a_t_undos a_t_kept a_t_isKept a_t_seenWay a_t_seenIs a_t_sums a_t_parts a_t_heaps (0 : Int32) v_t_typed v_t_spot v_t_token v_t_place v_t_value v_t_fault v_t_text v_t_thrown v_t_copies v_t_draftCopies v_t_undoMany v_t_seenMany v_t_asked jr2 jg3 jg4 jg5 jg6 jg7 je8) (cwV 1 hts gX11_file_X11_takes rfl rfl rfl ⟨rfl, hdX11_takes⟩ ⟨Nat.le_of_ble_eq_true rfl, Nat.le_of_ble_eq_true rfl⟩) hP hD hS hA [0, 1] [2, 3, 4] [3, 4, 0, 1, 2] rfl rfl (by decide) (by decide) (by decide) (by decide) rfl KX.xs (fun U _ hW => hK.warm hW) (va_recv hK.1 hP (ci := 11) (q0 := 0) rfl rfl) rfl hl.1 rfl (Nat.le_of_ble_eq_true rfl) dX11_file_90 ⟨Nat.zero_le _, Nat.zero_le _⟩ (fun H locs hP hD hS => ?_)
    refine W.eq (g2 := F0 m 93 ls [.int jr2]) rfl ?_
    refine lv_pop hx hb dX11_file_93 rfl ?_
    refine lv_iinc (v := (jx1 + (1 : Int32))) (lv' := [(1, .int (jx1 + (1 : Int32))), (0, .ref a_t)]) hx hb dX11_file_94 hl (k := 1) rfl rfl (by decide) rfl (fun ls hl => ?_)
    refine lv_goto (tgt := 25) hx hb dX11_file_97 (by decide) ?_
    exact hk25 (jx1 + (1 : Int32)) v_t_thrown v_t_typed jg3 jg4 jg5 jg6 jg7 v_t_copies v_t_draftCopies v_t_undoMany v_t_seenMany v_t_draft v_t_s v_t_isKept ls _ _ hf (lv_sub hl [1, 0] rfl) hP hD hS
  · have hf := ite_t jc1 hf
    refine lv_iconst (v := 1) hx hb dX11_file_85 (by decide) ?_
    refine lv_goto (tgt := 90) hx hb dX11_file_86 (by decide) ?_
    obtain ⟨jr9, jg10, jg11, jg12, jg13, jg14, je15, hf⟩ := bd6_inv hf
    refine callMV (As := [.int (1 : Int32)]) (rest := []) (wr := [(a_t_draft, .inl (cI, 103, .inl v_t_draft)), (a_t_s, .inl (cI, 103, .inl v_t_s)), (a_t_isKept, .inl (cZ, 2, .inl v_t_isKept))]) (wn := [(a_t, .inr (11, [.int v_t_thrown, .ref a_t_text, .int v_t_typed, .int jg10, .int jg11, .int jg12, .int jg13, .int jg14, .int v_t_copies, .int v_t_draftCopies, .ref a_t_draft, .ref a_t_s, .ref a_t_undos, .int v_t_undoMany, .ref a_t_kept, .ref a_t_isKept, .ref a_t_seenWay, .ref a_t_seenIs, .int v_t_seenMany, .int v_t_asked, .ref a_t_sums, .ref a_t_parts, .ref a_t_heaps])), (a_t_text, .inl (cI, 120, .inl v_t_text)), (a_t_draft, .inl (cI, 103, .inl v_t_draft)), (a_t_s, .inl (cI, 103, .inl v_t_s)), (a_t_isKept, .inl (cZ, 2, .inl v_t_isKept))]) S (ctX11_takes l D cI cZ a_t a_t_text a_t_draft a_t_s a_t_undos a_t_kept a_t_isKept a_t_seenWay a_t_seenIs a_t_sums a_t_parts a_t_heaps (1 : Int32) v_t_typed v_t_spot v_t_token v_t_place v_t_value v_t_fault v_t_text v_t_thrown v_t_copies v_t_draftCopies v_t_undoMany v_t_seenMany v_t_asked jr9 jg10 jg11 jg12 jg13 jg14 je15) (cwV 1 hts gX11_file_X11_takes rfl rfl rfl ⟨rfl, hdX11_takes⟩ ⟨Nat.le_of_ble_eq_true rfl, Nat.le_of_ble_eq_true rfl⟩) hP hD hS hA [0, 1] [2, 3, 4] [3, 4, 0, 1, 2] rfl rfl (by decide) (by decide) (by decide) (by decide) rfl KX.xs (fun U _ hW => hK.warm hW) (va_recv hK.1 hP (ci := 11) (q0 := 0) rfl rfl) rfl hl.1 rfl (Nat.le_of_ble_eq_true rfl) dX11_file_90 ⟨Nat.zero_le _, Nat.zero_le _⟩ (fun H locs hP hD hS => ?_)
    refine W.eq (g2 := F0 m 93 ls [.int jr9]) rfl ?_
    refine lv_pop hx hb dX11_file_93 rfl ?_
    refine lv_iinc (v := (jx1 + (1 : Int32))) (lv' := [(1, .int (jx1 + (1 : Int32))), (0, .ref a_t)]) hx hb dX11_file_94 hl (k := 1) rfl rfl (by decide) rfl (fun ls hl => ?_)
    refine lv_goto (tgt := 25) hx hb dX11_file_97 (by decide) ?_
    exact hk25 (jx1 + (1 : Int32)) v_t_thrown v_t_typed jg10 jg11 jg12 jg13 jg14 v_t_copies v_t_draftCopies v_t_undoMany v_t_seenMany v_t_draft v_t_s v_t_isKept ls _ _ hf (lv_sub hl [1, 0] rfl) hP hD hS
set_option maxHeartbeats 4000000 in
set_option maxRecDepth 100000 in
theorem wX11_file_60 {p : Program} {l : Launch} {e : Env} {s : State} {m : MethodId} {args : Array Value} {below : List Frame} {meth : Method} {c : Code} {D : va_G} {cI cZ : ClassId} (S : CallFix p m c cX11_file 3 s args wsX11_file RX11) (hr : meth.sig.returnType = some .int) (hlk : meth.locks = false) (hK : KX D cI cZ s) {a_t a_t_text a_t_draft a_t_s a_t_undos a_t_kept a_t_isKept a_t_seenWay a_t_seenIs a_t_sums a_t_parts a_t_heaps : Nat} {jk25 : Int32 → Int32 → Int32 → Int32 → Int32 → Int32 → Int32 → Int32 → Int32 → Int32 → Int32 → Int32 → (Nat → Int32) → (Nat → Int32) → (Nat → Int32) → Option (Int32 × Int32 × Int32 × Int32 × Int32 × Int32 × Int32 × Int32 × Int32 × Int32 × Int32 × Int32 × (Nat → Int32) × (Nat → Int32) × (Nat → Int32))} {v_t_text : (Nat → Int32)} {v_t_asked : Int32} {r : Int32} {o_t_thrown : Int32} {o_t_typed : Int32} {o_t_spot : Int32} {o_t_token : Int32} {o_t_place : Int32} {o_t_value : Int32} {o_t_fault : Int32} {o_t_copies : Int32} {o_t_draftCopies : Int32} {o_t_undoMany : Int32} {o_t_seenMany : Int32} {o_t_draft : (Nat → Int32)} {o_t_s : (Nat → Int32)} {o_t_isKept : (Nat → Int32)} {A : Nat → Prop} (hA : ∀ q : Nat, s.heap.size ≤ q → A q) (hk25 : ∀ (jx1 : Int32) (v_t_thrown : Int32) (v_t_typed : Int32) (v_t_spot : Int32) (v_t_token : Int32) (v_t_place : Int32) (v_t_value : Int32) (v_t_fault : Int32) (v_t_copies : Int32) (v_t_draftCopies : Int32) (v_t_undoMany : Int32) (v_t_seenMany : Int32) (v_t_draft : (Nat → Int32)) (v_t_s : (Nat → Int32)) (v_t_isKept : (Nat → Int32)) (ls : Array Slot) (H : Heap) (locs : List Loc), jk25 jx1 v_t_thrown v_t_typed v_t_spot v_t_token v_t_place v_t_value v_t_fault v_t_copies v_t_draftCopies v_t_undoMany v_t_seenMany v_t_draft v_t_s v_t_isKept = some (r, o_t_thrown, o_t_typed, o_t_spot, o_t_token, o_t_place, o_t_value, o_t_fault, o_t_copies, o_t_draftCopies, o_t_undoMany, o_t_seenMany, o_t_draft, o_t_s, o_t_isKept) → lv_has ls 3 [(0, .ref a_t), (1, .int jx1)] → va_P D vwCl [(a_t, .inr (11, [.int v_t_thrown, .ref a_t_text, .int v_t_typed, .int v_t_spot, .int v_t_token, .int v_t_place, .int v_t_value, .int v_t_fault, .int v_t_copies, .int v_t_draftCopies, .ref a_t_draft, .ref a_t_s, .ref a_t_undos, .int v_t_undoMany, .ref a_t_kept, .ref a_t_isKept, .ref a_t_seenWay, .ref a_t_seenIs, .int v_t_seenMany, .int v_t_asked, .ref a_t_sums, .ref a_t_parts, .ref a_t_heaps])), (a_t_text, .inl (cI, 120, .inl v_t_text)), (a_t_draft, .inl (cI, 103, .inl v_t_draft)), (a_t_s, .inl (cI, 103, .inl v_t_s)), (a_t_isKept, .inl (cZ, 2, .inl v_t_isKept))] H → va_D A [(a_t, .inr (11, [.int v_t_thrown, .ref a_t_text, .int v_t_typed, .int v_t_spot, .int v_t_token, .int v_t_place, .int v_t_value, .int v_t_fault, .int v_t_copies, .int v_t_draftCopies, .ref a_t_draft, .ref a_t_s, .ref a_t_undos, .int v_t_undoMany, .ref a_t_kept, .ref a_t_isKept, .ref a_t_seenWay, .ref a_t_seenIs, .int v_t_seenMany, .int v_t_asked, .ref a_t_sums, .ref a_t_parts, .ref a_t_heaps])), (a_t_text, .inl (cI, 120, .inl v_t_text)), (a_t_draft, .inl (cI, 103, .inl v_t_draft)), (a_t_s, .inl (cI, 103, .inl v_t_s)), (a_t_isKept, .inl (cZ, 2, .inl v_t_isKept))] → va_S A s.heap H locs → W p l e rmX11_file s m args below meth c H locs 0 0 (MQ below (qM D (some (.int r)) [(a_t, .inr (11, [.int o_t_thrown, .ref a_t_text, .int o_t_typed, .int o_t_spot, .int o_t_token, .int o_t_place, .int o_t_value, .int o_t_fault, .int o_t_copies, .int o_t_draftCopies, .ref a_t_draft, .ref a_t_s, .ref a_t_undos, .int o_t_undoMany, .ref a_t_kept, .ref a_t_isKept, .ref a_t_seenWay, .ref a_t_seenIs, .int o_t_seenMany, .int v_t_asked, .ref a_t_sums, .ref a_t_parts, .ref a_t_heaps])), (a_t_text, .inl (cI, 120, .inl v_t_text)), (a_t_draft, .inl (cI, 103, .inl o_t_draft)), (a_t_s, .inl (cI, 103, .inl o_t_s)), (a_t_isKept, .inl (cZ, 2, .inl o_t_isKept))] A) args s 0 0 A) (F0 m 25 ls [])) : ∀ (jx1 : Int32) (jy0 : Int32) (v_t_thrown : Int32) (v_t_typed : Int32) (v_t_spot : Int32) (v_t_token : Int32) (v_t_place : Int32) (v_t_value : Int32) (v_t_fault : Int32) (v_t_copies : Int32) (v_t_draftCopies : Int32) (v_t_undoMany : Int32) (v_t_seenMany : Int32) (v_t_draft : (Nat → Int32)) (v_t_s : (Nat → Int32)) (v_t_isKept : (Nat → Int32)) (ls : Array Slot) (H : Heap) (locs : List Loc), fX11_file_60 jk25 v_t_text jx1 jy0 v_t_thrown v_t_typed v_t_spot v_t_token v_t_place v_t_value v_t_fault v_t_copies v_t_draftCopies v_t_undoMany v_t_seenMany v_t_draft v_t_s v_t_isKept = some (r, o_t_thrown, o_t_typed, o_t_spot, o_t_token, o_t_place, o_t_value, o_t_fault, o_t_copies, o_t_draftCopies, o_t_undoMany, o_t_seenMany, o_t_draft, o_t_s, o_t_isKept) → lv_has ls 3 [(0, .ref a_t), (1, .int jx1)] → va_P D vwCl [(a_t, .inr (11, [.int v_t_thrown, .ref a_t_text, .int v_t_typed, .int v_t_spot, .int v_t_token, .int v_t_place, .int v_t_value, .int v_t_fault, .int v_t_copies, .int v_t_draftCopies, .ref a_t_draft, .ref a_t_s, .ref a_t_undos, .int v_t_undoMany, .ref a_t_kept, .ref a_t_isKept, .ref a_t_seenWay, .ref a_t_seenIs, .int v_t_seenMany, .int v_t_asked, .ref a_t_sums, .ref a_t_parts, .ref a_t_heaps])), (a_t_text, .inl (cI, 120, .inl v_t_text)), (a_t_draft, .inl (cI, 103, .inl v_t_draft)), (a_t_s, .inl (cI, 103, .inl v_t_s)), (a_t_isKept, .inl (cZ, 2, .inl v_t_isKept))] H → va_D A [(a_t, .inr (11, [.int v_t_thrown, .ref a_t_text, .int v_t_typed, .int v_t_spot, .int v_t_token, .int v_t_place, .int v_t_value, .int v_t_fault, .int v_t_copies, .int v_t_draftCopies, .ref a_t_draft, .ref a_t_s, .ref a_t_undos, .int v_t_undoMany, .ref a_t_kept, .ref a_t_isKept, .ref a_t_seenWay, .ref a_t_seenIs, .int v_t_seenMany, .int v_t_asked, .ref a_t_sums, .ref a_t_parts, .ref a_t_heaps])), (a_t_text, .inl (cI, 120, .inl v_t_text)), (a_t_draft, .inl (cI, 103, .inl v_t_draft)), (a_t_s, .inl (cI, 103, .inl v_t_s)), (a_t_isKept, .inl (cZ, 2, .inl v_t_isKept))] → va_S A s.heap H locs → W p l e rmX11_file s m args below meth c H locs 0 0 (MQ below (qM D (some (.int r)) [(a_t, .inr (11, [.int o_t_thrown, .ref a_t_text, .int o_t_typed, .int o_t_spot, .int o_t_token, .int o_t_place, .int o_t_value, .int o_t_fault, .int o_t_copies, .int o_t_draftCopies, .ref a_t_draft, .ref a_t_s, .ref a_t_undos, .int o_t_undoMany, .ref a_t_kept, .ref a_t_isKept, .ref a_t_seenWay, .ref a_t_seenIs, .int o_t_seenMany, .int v_t_asked, .ref a_t_sums, .ref a_t_parts, .ref a_t_heaps])), (a_t_text, .inl (cI, 120, .inl v_t_text)), (a_t_draft, .inl (cI, 103, .inl o_t_draft)), (a_t_s, .inl (cI, 103, .inl o_t_s)), (a_t_isKept, .inl (cZ, 2, .inl o_t_isKept))] A) args s 0 0 A) (F0 m 60 ls [.int jy0, .ref a_t]) := by
  obtain ⟨hx, hb, hml, hown, hts⟩ := id S
  intro jx1 jy0 v_t_thrown v_t_typed v_t_spot v_t_token v_t_place v_t_value v_t_fault v_t_copies v_t_draftCopies v_t_undoMany v_t_seenMany v_t_draft v_t_s v_t_isKept ls H locs hf hl hP hD hS
  unfold fX11_file_60 at hf
  obtain ⟨jr1, jg2, jg3, jg4, jg5, jg6, je7, hf⟩ := bd6_inv hf
  refine callMV (As := [.int jy0]) (rest := []) (wr := [(a_t_draft, .inl (cI, 103, .inl v_t_draft)), (a_t_s, .inl (cI, 103, .inl v_t_s)), (a_t_isKept, .inl (cZ, 2, .inl v_t_isKept))]) (wn := [(a_t, .inr (11, [.int v_t_thrown, .ref a_t_text, .int v_t_typed, .int jg2, .int jg3, .int jg4, .int jg5, .int jg6, .int v_t_copies, .int v_t_draftCopies, .ref a_t_draft, .ref a_t_s, .ref a_t_undos, .int v_t_undoMany, .ref a_t_kept, .ref a_t_isKept, .ref a_t_seenWay, .ref a_t_seenIs, .int v_t_seenMany, .int v_t_asked, .ref a_t_sums, .ref a_t_parts, .ref a_t_heaps])), (a_t_text, .inl (cI, 120, .inl v_t_text)), (a_t_draft, .inl (cI, 103, .inl v_t_draft)), (a_t_s, .inl (cI, 103, .inl v_t_s)), (a_t_isKept, .inl (cZ, 2, .inl v_t_isKept))]) S (ctX11_takes l D cI cZ a_t a_t_text a_t_draft a_t_s a_t_undos a_t_kept a_t_isKept a_t_seenWay a_t_seenIs a_t_sums a_t_parts a_t_heaps jy0 v_t_typed v_t_spot v_t_token v_t_place v_t_value v_t_fault v_t_text v_t_thrown v_t_copies v_t_draftCopies v_t_undoMany v_t_seenMany v_t_asked jr1 jg2 jg3 jg4 jg5 jg6 je7) (cwV 1 hts gX11_file_X11_takes rfl rfl rfl ⟨rfl, hdX11_takes⟩ ⟨Nat.le_of_ble_eq_true rfl, Nat.le_of_ble_eq_true rfl⟩) hP hD hS hA [0, 1] [2, 3, 4] [3, 4, 0, 1, 2] rfl rfl (by decide) (by decide) (by decide) (by decide) rfl KX.xs (fun U _ hW => hK.warm hW) (va_recv hK.1 hP (ci := 11) (q0 := 0) rfl rfl) rfl hl.1 rfl (Nat.le_of_ble_eq_true rfl) dX11_file_60 ⟨Nat.zero_le _, Nat.zero_le _⟩ (fun H locs hP hD hS => ?_)
  refine W.eq (g2 := F0 m 63 ls [.int jr1]) rfl ?_
  refine lv_istore_n (lv' := [(2, .int jr1), (0, .ref a_t), (1, .int jx1)]) hx hb dX11_file_63 rfl hl (by decide) rfl (fun ls hl => ?_)
  refine lv_aload_n hx hb dX11_file_64 rfl (lv_at hl 1 rfl) ?_
  obtain ⟨jr8, je9, hf⟩ := bd1_inv hf
  refine callRV (As := []) (rest := []) S (ctX11_isWell l D cI cZ a_t a_t_text a_t_draft a_t_s a_t_undos a_t_kept a_t_isKept a_t_seenWay a_t_seenIs a_t_sums a_t_parts a_t_heaps jg6 v_t_thrown v_t_typed jg2 jg3 jg4 jg5 v_t_copies v_t_draftCopies v_t_undoMany v_t_seenMany v_t_asked jr8 je9) (cwV 0 hts gX11_file_X11_isWell rfl rfl rfl ⟨rfl, hdX11_isWell⟩ ⟨Nat.le_of_ble_eq_true rfl, Nat.le_of_ble_eq_true rfl⟩) hP [0] rfl KX.xs (fun U _ hW => hK.warm hW) (va_recv hK.1 hP (ci := 11) (q0 := 0) rfl rfl) rfl hl.1 rfl (Nat.le_of_ble_eq_true rfl) dX11_file_65 ⟨Nat.zero_le _, Nat.zero_le _⟩ ?_
  refine lv_if_eq (tgt := 76) hx hb dX11_file_68 (by decide) (fun jc10 => ?_) (fun jc10 => ?_)
  · have hf := ite_t jc10 hf
    exact wX11_file_76 S hr hlk hK hA hk25 jx1 v_t_thrown v_t_typed jg2 jg3 jg4 jg5 jg6 v_t_copies v_t_draftCopies v_t_undoMany v_t_seenMany v_t_draft v_t_s v_t_isKept ls _ _ hf (lv_sub hl [1, 2] rfl) hP hD hS
  · have hf := ite_f jc10 hf
    refine lv_aload_n hx hb dX11_file_71 rfl (lv_at hl 1 rfl) ?_
    refine lv_iload_n hx hb dX11_file_72 rfl (lv_at hl 0 rfl) ?_
    obtain ⟨jg11, jg12, jg13, jg14, jg15, jg16, jg17, je18, hf⟩ := bd7_inv hf
    refine callMV (As := [.int jr1]) (rest := []) (wr := [(a_t_s, .inl (cI, 103, .inl v_t_s)), (a_t_isKept, .inl (cZ, 2, .inl v_t_isKept))]) (wn := [(a_t, .inr (11, [.int v_t_thrown, .ref a_t_text, .int v_t_typed, .int jg11, .int jg12, .int jg13, .int jg14, .int jg15, .int v_t_copies, .int jg16, .ref a_t_draft, .ref a_t_s, .ref a_t_undos, .int v_t_undoMany, .ref a_t_kept, .ref a_t_isKept, .ref a_t_seenWay, .ref a_t_seenIs, .int v_t_seenMany, .int v_t_asked, .ref a_t_sums, .ref a_t_parts, .ref a_t_heaps])), (a_t_text, .inl (cI, 120, .inl v_t_text)), (a_t_draft, .inl (cI, 103, .inl jg17)), (a_t_s, .inl (cI, 103, .inl v_t_s)), (a_t_isKept, .inl (cZ, 2, .inl v_t_isKept))]) S (ctX11_readsItem l D cI cZ a_t a_t_text a_t_draft a_t_s a_t_undos a_t_kept a_t_isKept a_t_seenWay a_t_seenIs a_t_sums a_t_parts a_t_heaps jr1 v_t_typed jg2 jg3 jg4 jg5 jg6 v_t_draftCopies v_t_text v_t_draft v_t_thrown v_t_copies v_t_undoMany v_t_seenMany v_t_asked jg11 jg12 jg13 jg14 jg15 jg16 jg17 je18) (cwV 1 hts gX11_file_X11_readsItem rfl rfl rfl ⟨rfl, hdX11_readsItem⟩ ⟨Nat.le_of_ble_eq_true rfl, Nat.le_of_ble_eq_true rfl⟩) hP hD hS hA [0, 1, 2] [3, 4] [2, 3, 4, 0, 1] rfl rfl (by decide) (by decide) (by decide) (by decide) rfl KX.xs (fun U _ hW => hK.warm hW) (va_recv hK.1 hP (ci := 11) (q0 := 0) rfl rfl) rfl hl.1 rfl (Nat.le_of_ble_eq_true rfl) dX11_file_73 ⟨Nat.zero_le _, Nat.zero_le _⟩ (fun H locs hP hD hS => ?_)
    refine W.eq (g2 := F0 m 76 ls []) rfl ?_
    exact wX11_file_76 S hr hlk hK hA hk25 jx1 v_t_thrown v_t_typed jg11 jg12 jg13 jg14 jg15 v_t_copies jg16 v_t_undoMany v_t_seenMany jg17 v_t_s v_t_isKept ls _ _ hf (lv_sub hl [1, 2] rfl) hP hD hS
set_option maxHeartbeats 4000000 in
set_option maxRecDepth 100000 in
theorem wX11_file_25 {p : Program} {l : Launch} {e : Env} {s : State} {m : MethodId} {args : Array Value} {below : List Frame} {meth : Method} {c : Code} {D : va_G} {cI cZ : ClassId} (S : CallFix p m c cX11_file 3 s args wsX11_file RX11) (hr : meth.sig.returnType = some .int) (hlk : meth.locks = false) (hK : KX D cI cZ s) {a_t a_t_text a_t_draft a_t_s a_t_undos a_t_kept a_t_isKept a_t_seenWay a_t_seenIs a_t_sums a_t_parts a_t_heaps : Nat} {v_t_text : (Nat → Int32)} {v_t_asked : Int32} {r : Int32} {o_t_thrown : Int32} {o_t_typed : Int32} {o_t_spot : Int32} {o_t_token : Int32} {o_t_place : Int32} {o_t_value : Int32} {o_t_fault : Int32} {o_t_copies : Int32} {o_t_draftCopies : Int32} {o_t_undoMany : Int32} {o_t_seenMany : Int32} {o_t_draft : (Nat → Int32)} {o_t_s : (Nat → Int32)} {o_t_isKept : (Nat → Int32)} {A : Nat → Prop} (hA : ∀ q : Nat, s.heap.size ≤ q → A q) : ∀ (n : Nat), ∀ (jx1 : Int32) (v_t_thrown : Int32) (v_t_typed : Int32) (v_t_spot : Int32) (v_t_token : Int32) (v_t_place : Int32) (v_t_value : Int32) (v_t_fault : Int32) (v_t_copies : Int32) (v_t_draftCopies : Int32) (v_t_undoMany : Int32) (v_t_seenMany : Int32) (v_t_draft : (Nat → Int32)) (v_t_s : (Nat → Int32)) (v_t_isKept : (Nat → Int32)) (ls : Array Slot) (H : Heap) (locs : List Loc), fX11_file_25 v_t_text n jx1 v_t_thrown v_t_typed v_t_spot v_t_token v_t_place v_t_value v_t_fault v_t_copies v_t_draftCopies v_t_undoMany v_t_seenMany v_t_draft v_t_s v_t_isKept = some (r, o_t_thrown, o_t_typed, o_t_spot, o_t_token, o_t_place, o_t_value, o_t_fault, o_t_copies, o_t_draftCopies, o_t_undoMany, o_t_seenMany, o_t_draft, o_t_s, o_t_isKept) → lv_has ls 3 [(0, .ref a_t), (1, .int jx1)] → va_P D vwCl [(a_t, .inr (11, [.int v_t_thrown, .ref a_t_text, .int v_t_typed, .int v_t_spot, .int v_t_token, .int v_t_place, .int v_t_value, .int v_t_fault, .int v_t_copies, .int v_t_draftCopies, .ref a_t_draft, .ref a_t_s, .ref a_t_undos, .int v_t_undoMany, .ref a_t_kept, .ref a_t_isKept, .ref a_t_seenWay, .ref a_t_seenIs, .int v_t_seenMany, .int v_t_asked, .ref a_t_sums, .ref a_t_parts, .ref a_t_heaps])), (a_t_text, .inl (cI, 120, .inl v_t_text)), (a_t_draft, .inl (cI, 103, .inl v_t_draft)), (a_t_s, .inl (cI, 103, .inl v_t_s)), (a_t_isKept, .inl (cZ, 2, .inl v_t_isKept))] H → va_D A [(a_t, .inr (11, [.int v_t_thrown, .ref a_t_text, .int v_t_typed, .int v_t_spot, .int v_t_token, .int v_t_place, .int v_t_value, .int v_t_fault, .int v_t_copies, .int v_t_draftCopies, .ref a_t_draft, .ref a_t_s, .ref a_t_undos, .int v_t_undoMany, .ref a_t_kept, .ref a_t_isKept, .ref a_t_seenWay, .ref a_t_seenIs, .int v_t_seenMany, .int v_t_asked, .ref a_t_sums, .ref a_t_parts, .ref a_t_heaps])), (a_t_text, .inl (cI, 120, .inl v_t_text)), (a_t_draft, .inl (cI, 103, .inl v_t_draft)), (a_t_s, .inl (cI, 103, .inl v_t_s)), (a_t_isKept, .inl (cZ, 2, .inl v_t_isKept))] → va_S A s.heap H locs → W p l e rmX11_file s m args below meth c H locs 0 0 (MQ below (qM D (some (.int r)) [(a_t, .inr (11, [.int o_t_thrown, .ref a_t_text, .int o_t_typed, .int o_t_spot, .int o_t_token, .int o_t_place, .int o_t_value, .int o_t_fault, .int o_t_copies, .int o_t_draftCopies, .ref a_t_draft, .ref a_t_s, .ref a_t_undos, .int o_t_undoMany, .ref a_t_kept, .ref a_t_isKept, .ref a_t_seenWay, .ref a_t_seenIs, .int o_t_seenMany, .int v_t_asked, .ref a_t_sums, .ref a_t_parts, .ref a_t_heaps])), (a_t_text, .inl (cI, 120, .inl v_t_text)), (a_t_draft, .inl (cI, 103, .inl o_t_draft)), (a_t_s, .inl (cI, 103, .inl o_t_s)), (a_t_isKept, .inl (cZ, 2, .inl o_t_isKept))] A) args s 0 0 A) (F0 m 25 ls []) := by
  obtain ⟨hx, hb, hml, hown, hts⟩ := id S
  intro n
  induction n with
  | zero =>
    intro jx1 v_t_thrown v_t_typed v_t_spot v_t_token v_t_place v_t_value v_t_fault v_t_copies v_t_draftCopies v_t_undoMany v_t_seenMany v_t_draft v_t_s v_t_isKept ls H locs hf hl hP hD hS
    cases (show (none : Option _) = some _ from hf)
  | succ n ih =>
    intro jx1 v_t_thrown v_t_typed v_t_spot v_t_token v_t_place v_t_value v_t_fault v_t_copies v_t_draftCopies v_t_undoMany v_t_seenMany v_t_draft v_t_s v_t_isKept ls H locs hf hl hP hD hS
    have hf := (fX11_file_25_s _ n _ _ _ _ _ _ _ _ _ _ _ _ _ _ _).symm.trans hf
    refine lv_aload_n hx hb dX11_file_25 rfl (lv_at hl 0 rfl) ?_
    obtain ⟨jr1, je2, hf⟩ := bd1_inv hf
    refine callRV (As := []) (rest := []) S (ctX11_isWell l D cI cZ a_t a_t_text a_t_draft a_t_s a_t_undos a_t_kept a_t_isKept a_t_seenWay a_t_seenIs a_t_sums a_t_parts a_t_heaps v_t_fault v_t_thrown v_t_typed v_t_spot v_t_token v_t_place v_t_value v_t_copies v_t_draftCopies v_t_undoMany v_t_seenMany v_t_asked jr1 je2) (cwV 0 hts gX11_file_X11_isWell rfl rfl rfl ⟨rfl, hdX11_isWell⟩ ⟨Nat.le_of_ble_eq_true rfl, Nat.le_of_ble_eq_true rfl⟩) hP [0] rfl KX.xs (fun U _ hW => hK.warm hW) (va_recv hK.1 hP (ci := 11) (q0 := 0) rfl rfl) rfl hl.1 rfl (Nat.le_of_ble_eq_true rfl) dX11_file_26 ⟨Nat.zero_le _, Nat.zero_le _⟩ ?_
    refine lv_if_eq (tgt := 100) hx hb dX11_file_29 (by decide) (fun jc3 => ?_) (fun jc3 => ?_)
    · have hf := ite_t jc3 hf
      exact wX11_file_100 S hr hlk hK hA jx1 v_t_thrown v_t_typed v_t_spot v_t_token v_t_place v_t_value v_t_fault v_t_copies v_t_draftCopies v_t_undoMany v_t_seenMany v_t_draft v_t_s v_t_isKept ls _ _ hf (lv_sub hl [0, 1] rfl) hP hD hS
    · have hf := ite_f jc3 hf
      refine lv_aload_n hx hb dX11_file_32 rfl (lv_at hl 0 rfl) ?_
      refine va_get (D := D) (ci := 11) (v := .int v_t_token) (C := RX11) (T := TX11) (N := 23) hx hb hts iX11_file_X11 hown hK.1 hP 0 rfl rfl 4 (by decide) (hts _ mX11_file_4) (fun _ h9 => h9) rfl dX11_file_33 ?_
      refine lv_if_eq (tgt := 100) hx hb dX11_file_36 (by decide) (fun jc4 => ?_) (fun jc4 => ?_)
      · have hf := ite_t jc4 hf
        exact wX11_file_100 S hr hlk hK hA jx1 v_t_thrown v_t_typed v_t_spot v_t_token v_t_place v_t_value v_t_fault v_t_copies v_t_draftCopies v_t_undoMany v_t_seenMany v_t_draft v_t_s v_t_isKept ls _ _ hf (lv_sub hl [0, 1] rfl) hP hD hS
      · have hf := ite_f jc4 hf
        refine lv_aload_n hx hb dX11_file_39 rfl (lv_at hl 0 rfl) ?_
        refine lv_aload_n hx hb dX11_file_40 rfl (lv_at hl 0 rfl) ?_
        refine va_get (D := D) (ci := 11) (v := .int v_t_token) (C := RX11) (T := TX11) (N := 23) hx hb hts iX11_file_X11 hown hK.1 hP 0 rfl rfl 4 (by decide) (hts _ mX11_file_4) (fun _ h9 => h9) rfl dX11_file_41 ?_
        refine lv_iconst (v := 1) hx hb dX11_file_44 (by decide) ?_
        refine lv_icmp_ne (tgt := 59) hx hb dX11_file_45 (by decide) (fun jc5 => ?_) (fun jc5 => ?_)
        · have hf := ite_f jc5 hf
          refine lv_iconst (v := 0) hx hb dX11_file_59 (by decide) ?_
          exact wX11_file_60 S hr hlk hK hA ih jx1 (0 : Int32) v_t_thrown v_t_typed v_t_spot v_t_token v_t_place v_t_value v_t_fault v_t_copies v_t_draftCopies v_t_undoMany v_t_seenMany v_t_draft v_t_s v_t_isKept ls _ _ hf (lv_sub hl [0, 1] rfl) hP hD hS
        · have hf := ite_t jc5 hf
          refine lv_aload_n hx hb dX11_file_48 rfl (lv_at hl 0 rfl) ?_
          obtain ⟨jr6, je7, hf⟩ := bd1_inv hf
          refine callRV (As := []) (rest := [.ref a_t]) S (ctX11_mayBegin l D cI cZ a_t a_t_text a_t_draft a_t_s a_t_undos a_t_kept a_t_isKept a_t_seenWay a_t_seenIs a_t_sums a_t_parts a_t_heaps v_t_value v_t_draftCopies v_t_draft v_t_thrown v_t_typed v_t_spot v_t_token v_t_place v_t_fault v_t_copies v_t_undoMany v_t_seenMany v_t_asked jr6 je7) (cwV 0 hts gX11_file_X11_mayBegin rfl rfl rfl ⟨rfl, hdX11_mayBegin⟩ ⟨Nat.le_of_ble_eq_true rfl, Nat.le_of_ble_eq_true rfl⟩) hP [0, 2] rfl KX.xs (fun U _ hW => hK.warm hW) (va_recv hK.1 hP (ci := 11) (q0 := 0) rfl rfl) rfl hl.1 rfl (Nat.le_of_ble_eq_true rfl) dX11_file_49 ⟨Nat.zero_le _, Nat.zero_le _⟩ ?_
          refine lv_if_eq (tgt := 59) hx hb dX11_file_52 (by decide) (fun jc8 => ?_) (fun jc8 => ?_)
          · have hf := ite_t jc8 hf
            refine lv_iconst (v := 0) hx hb dX11_file_59 (by decide) ?_
            exact wX11_file_60 S hr hlk hK hA ih jx1 (0 : Int32) v_t_thrown v_t_typed v_t_spot v_t_token v_t_place v_t_value v_t_fault v_t_copies v_t_draftCopies v_t_undoMany v_t_seenMany v_t_draft v_t_s v_t_isKept ls _ _ hf (lv_sub hl [0, 1] rfl) hP hD hS
          · have hf := ite_f jc8 hf
            refine lv_iconst (v := 1) hx hb dX11_file_55 (by decide) ?_
            refine lv_goto (tgt := 60) hx hb dX11_file_56 (by decide) ?_
            exact wX11_file_60 S hr hlk hK hA ih jx1 (1 : Int32) v_t_thrown v_t_typed v_t_spot v_t_token v_t_place v_t_value v_t_fault v_t_copies v_t_draftCopies v_t_undoMany v_t_seenMany v_t_draft v_t_s v_t_isKept ls _ _ hf (lv_sub hl [0, 1] rfl) hP hD hS
theorem hdX11_file : yX11_file.cls ≠ "java/lang/invoke/MethodHandle" ∧ yX11_file.cls ≠ "java/lang/invoke/VarHandle" ∧ (parseMethodDescriptor yX11_file.desc).map (fun d => d.parameters.length) = some 0 := by decide +kernel
set_option maxHeartbeats 4000000 in
set_option maxRecDepth 100000 in
theorem ctX11_file (l : Launch) (D : va_G) (cI cZ : ClassId) (a_t a_t_text a_t_draft a_t_s a_t_undos a_t_kept a_t_isKept a_t_seenWay a_t_seenIs a_t_sums a_t_parts a_t_heaps : Nat) (v_t_thrown : Int32) (v_t_typed : Int32) (v_t_spot : Int32) (v_t_token : Int32) (v_t_place : Int32) (v_t_value : Int32) (v_t_fault : Int32) (v_t_copies : Int32) (v_t_draftCopies : Int32) (v_t_undoMany : Int32) (v_t_seenMany : Int32) (v_t_text : (Nat → Int32)) (v_t_draft : (Nat → Int32)) (v_t_s : (Nat → Int32)) (v_t_isKept : (Nat → Int32)) (v_t_asked : Int32) (r : Int32) (o_t_thrown : Int32) (o_t_typed : Int32) (o_t_spot : Int32) (o_t_token : Int32) (o_t_place : Int32) (o_t_value : Int32) (o_t_fault : Int32) (o_t_copies : Int32) (o_t_draftCopies : Int32) (o_t_undoMany : Int32) (o_t_seenMany : Int32) (o_t_draft : (Nat → Int32)) (o_t_s : (Nat → Int32)) (o_t_isKept : (Nat → Int32)) (hf : fX11_file v_t_thrown v_t_typed v_t_spot v_t_token v_t_place v_t_value v_t_fault v_t_copies v_t_draftCopies v_t_undoMany v_t_seenMany v_t_text v_t_draft v_t_s v_t_isKept = some (r, o_t_thrown, o_t_typed, o_t_spot, o_t_token, o_t_place, o_t_value, o_t_fault, o_t_copies, o_t_draftCopies, o_t_undoMany, o_t_seenMany, o_t_draft, o_t_s, o_t_isKept)) : cM l yX11_file wsX11_file rmX11_file [.ref a_t] D [(a_t, .inr (11, [.int v_t_thrown, .ref a_t_text, .int v_t_typed, .int v_t_spot, .int v_t_token, .int v_t_place, .int v_t_value, .int v_t_fault, .int v_t_copies, .int v_t_draftCopies, .ref a_t_draft, .ref a_t_s, .ref a_t_undos, .int v_t_undoMany, .ref a_t_kept, .ref a_t_isKept, .ref a_t_seenWay, .ref a_t_seenIs, .int v_t_seenMany, .int v_t_asked, .ref a_t_sums, .ref a_t_parts, .ref a_t_heaps])), (a_t_text, .inl (cI, 120, .inl v_t_text)), (a_t_draft, .inl (cI, 103, .inl v_t_draft)), (a_t_s, .inl (cI, 103, .inl v_t_s)), (a_t_isKept, .inl (cZ, 2, .inl v_t_isKept))] [(a_t, .inr (11, [.int o_t_thrown, .ref a_t_text, .int o_t_typed, .int o_t_spot, .int o_t_token, .int o_t_place, .int o_t_value, .int o_t_fault, .int o_t_copies, .int o_t_draftCopies, .ref a_t_draft, .ref a_t_s, .ref a_t_undos, .int o_t_undoMany, .ref a_t_kept, .ref a_t_isKept, .ref a_t_seenWay, .ref a_t_seenIs, .int o_t_seenMany, .int v_t_asked, .ref a_t_sums, .ref a_t_parts, .ref a_t_heaps])), (a_t_text, .inl (cI, 120, .inl v_t_text)), (a_t_draft, .inl (cI, 103, .inl o_t_draft)), (a_t_s, .inl (cI, 103, .inl o_t_s)), (a_t_isKept, .inl (cZ, 2, .inl o_t_isKept))] (KX D cI cZ) (some (.int r)) := by
  refine cM_of (cc := cX11_file) (maxL := 3) (ret := some .int) (by decide +kernel) rfl _ (Nat.le_of_ble_eq_true rfl) ?_
  intro p e s m below meth c ls A S hr hlk hP hK hl hD hA hS
  obtain ⟨hx, hb, hml, hown, hts⟩ := id S
  have hl : lv_has ls 3 [(0, .ref a_t)] := hl
  unfold fX11_file at hf
  refine lv_aload_n hx hb dX11_file_0 rfl (lv_at hl 0 rfl) ?_
  refine lv_iconst (v := 0) hx hb dX11_file_1 (by decide) ?_
  refine va_put (D := D) (ci := 11) (v := .int (0 : Int32)) (ty := .int) (C := RX11) (T := TX11) (N := 23) hx hb hts iX11_file_X11 tyX11 tyX11_ok nmX11 hown hK.1 hP hD hS 0 rfl rfl 0 (by decide) (hts _ mX11_file_1) (fun _ h9 => h9) rfl (tyX11_ok 0 (by decide)) rfl rfl (Nat.le_of_ble_eq_true rfl) dX11_file_2 (fun H locs hP hD hS => ?_)
  have hP : va_P D vwCl [(a_t, .inr (11, [.int (0 : Int32), .ref a_t_text, .int v_t_typed, .int v_t_spot, .int v_t_token, .int v_t_place, .int v_t_value, .int v_t_fault, .int v_t_copies, .int v_t_draftCopies, .ref a_t_draft, .ref a_t_s, .ref a_t_undos, .int v_t_undoMany, .ref a_t_kept, .ref a_t_isKept, .ref a_t_seenWay, .ref a_t_seenIs, .int v_t_seenMany, .int v_t_asked, .ref a_t_sums, .ref a_t_parts, .ref a_t_heaps])), (a_t_text, .inl (cI, 120, .inl v_t_text)), (a_t_draft, .inl (cI, 103, .inl v_t_draft)), (a_t_s, .inl (cI, 103, .inl v_t_s)), (a_t_isKept, .inl (cZ, 2, .inl v_t_isKept))] H := hP
  have hD : va_D A [(a_t, .inr (11, [.int (0 : Int32), .ref a_t_text, .int v_t_typed, .int v_t_spot, .int v_t_token, .int v_t_place, .int v_t_value, .int v_t_fault, .int v_t_copies, .int v_t_draftCopies, .ref a_t_draft, .ref a_t_s, .ref a_t_undos, .int v_t_undoMany, .ref a_t_kept, .ref a_t_isKept, .ref a_t_seenWay, .ref a_t_seenIs, .int v_t_seenMany, .int v_t_asked, .ref a_t_sums, .ref a_t_parts, .ref a_t_heaps])), (a_t_text, .inl (cI, 120, .inl v_t_text)), (a_t_draft, .inl (cI, 103, .inl v_t_draft)), (a_t_s, .inl (cI, 103, .inl v_t_s)), (a_t_isKept, .inl (cZ, 2, .inl v_t_isKept))] := hD
  refine lv_aload_n hx hb dX11_file_5 rfl (lv_at hl 0 rfl) ?_
  refine lv_iconst (v := -1) hx hb dX11_file_6 (by decide) ?_
  refine va_put (D := D) (ci := 11) (v := .int (-1 : Int32)) (ty := .int) (C := RX11) (T := TX11) (N := 23) hx hb hts iX11_file_X11 tyX11 tyX11_ok nmX11 hown hK.1 hP hD hS 0 rfl rfl 7 (by decide) (hts _ mX11_file_2) (fun _ h9 => h9) rfl (tyX11_ok 7 (by decide)) rfl rfl (Nat.le_of_ble_eq_true rfl) dX11_file_7 (fun H locs hP hD hS => ?_)
  have hP : va_P D vwCl [(a_t, .inr (11, [.int (0 : Int32), .ref a_t_text, .int v_t_typed, .int v_t_spot, .int v_t_token, .int v_t_place, .int v_t_value, .int (-1 : Int32), .int v_t_copies, .int v_t_draftCopies, .ref a_t_draft, .ref a_t_s, .ref a_t_undos, .int v_t_undoMany, .ref a_t_kept, .ref a_t_isKept, .ref a_t_seenWay, .ref a_t_seenIs, .int v_t_seenMany, .int v_t_asked, .ref a_t_sums, .ref a_t_parts, .ref a_t_heaps])), (a_t_text, .inl (cI, 120, .inl v_t_text)), (a_t_draft, .inl (cI, 103, .inl v_t_draft)), (a_t_s, .inl (cI, 103, .inl v_t_s)), (a_t_isKept, .inl (cZ, 2, .inl v_t_isKept))] H := hP
  have hD : va_D A [(a_t, .inr (11, [.int (0 : Int32), .ref a_t_text, .int v_t_typed, .int v_t_spot, .int v_t_token, .int v_t_place, .int v_t_value, .int (-1 : Int32), .int v_t_copies, .int v_t_draftCopies, .ref a_t_draft, .ref a_t_s, .ref a_t_undos, .int v_t_undoMany, .ref a_t_kept, .ref a_t_isKept, .ref a_t_seenWay, .ref a_t_seenIs, .int v_t_seenMany, .int v_t_asked, .ref a_t_sums, .ref a_t_parts, .ref a_t_heaps])), (a_t_text, .inl (cI, 120, .inl v_t_text)), (a_t_draft, .inl (cI, 103, .inl v_t_draft)), (a_t_s, .inl (cI, 103, .inl v_t_s)), (a_t_isKept, .inl (cZ, 2, .inl v_t_isKept))] := hD
  refine lv_aload_n hx hb dX11_file_10 rfl (lv_at hl 0 rfl) ?_
  refine lv_iconst (v := 0) hx hb dX11_file_11 (by decide) ?_
  refine va_put (D := D) (ci := 11) (v := .int (0 : Int32)) (ty := .int) (C := RX11) (T := TX11) (N := 23) hx hb hts iX11_file_X11 tyX11 tyX11_ok nmX11 hown hK.1 hP hD hS 0 rfl rfl 3 (by decide) (hts _ mX11_file_3) (fun _ h9 => h9) rfl (tyX11_ok 3 (by decide)) rfl rfl (Nat.le_of_ble_eq_true rfl) dX11_file_12 (fun H locs hP hD hS => ?_)
  have hP : va_P D vwCl [(a_t, .inr (11, [.int (0 : Int32), .ref a_t_text, .int v_t_typed, .int (0 : Int32), .int v_t_token, .int v_t_place, .int v_t_value, .int (-1 : Int32), .int v_t_copies, .int v_t_draftCopies, .ref a_t_draft, .ref a_t_s, .ref a_t_undos, .int v_t_undoMany, .ref a_t_kept, .ref a_t_isKept, .ref a_t_seenWay, .ref a_t_seenIs, .int v_t_seenMany, .int v_t_asked, .ref a_t_sums, .ref a_t_parts, .ref a_t_heaps])), (a_t_text, .inl (cI, 120, .inl v_t_text)), (a_t_draft, .inl (cI, 103, .inl v_t_draft)), (a_t_s, .inl (cI, 103, .inl v_t_s)), (a_t_isKept, .inl (cZ, 2, .inl v_t_isKept))] H := hP
  have hD : va_D A [(a_t, .inr (11, [.int (0 : Int32), .ref a_t_text, .int v_t_typed, .int (0 : Int32), .int v_t_token, .int v_t_place, .int v_t_value, .int (-1 : Int32), .int v_t_copies, .int v_t_draftCopies, .ref a_t_draft, .ref a_t_s, .ref a_t_undos, .int v_t_undoMany, .ref a_t_kept, .ref a_t_isKept, .ref a_t_seenWay, .ref a_t_seenIs, .int v_t_seenMany, .int v_t_asked, .ref a_t_sums, .ref a_t_parts, .ref a_t_heaps])), (a_t_text, .inl (cI, 120, .inl v_t_text)), (a_t_draft, .inl (cI, 103, .inl v_t_draft)), (a_t_s, .inl (cI, 103, .inl v_t_s)), (a_t_isKept, .inl (cZ, 2, .inl v_t_isKept))] := hD
  refine lv_aload_n hx hb dX11_file_15 rfl (lv_at hl 0 rfl) ?_
  obtain ⟨jg1, jg2, je3, hf⟩ := bd2_inv hf
  refine callMV (As := []) (rest := []) (wr := [(a_t_text, .inl (cI, 120, .inl v_t_text)), (a_t_s, .inl (cI, 103, .inl v_t_s)), (a_t_isKept, .inl (cZ, 2, .inl v_t_isKept))]) (wn := [(a_t, .inr (11, [.int (0 : Int32), .ref a_t_text, .int v_t_typed, .int (0 : Int32), .int v_t_token, .int v_t_place, .int v_t_value, .int (-1 : Int32), .int v_t_copies, .int jg1, .ref a_t_draft, .ref a_t_s, .ref a_t_undos, .int v_t_undoMany, .ref a_t_kept, .ref a_t_isKept, .ref a_t_seenWay, .ref a_t_seenIs, .int v_t_seenMany, .int v_t_asked, .ref a_t_sums, .ref a_t_parts, .ref a_t_heaps])), (a_t_text, .inl (cI, 120, .inl v_t_text)), (a_t_draft, .inl (cI, 103, .inl jg2)), (a_t_s, .inl (cI, 103, .inl v_t_s)), (a_t_isKept, .inl (cZ, 2, .inl v_t_isKept))]) S (ctX11_begins l D cI cZ a_t a_t_text a_t_draft a_t_s a_t_undos a_t_kept a_t_isKept a_t_seenWay a_t_seenIs a_t_sums a_t_parts a_t_heaps v_t_draftCopies v_t_draft (0 : Int32) v_t_typed (0 : Int32) v_t_token v_t_place v_t_value (-1 : Int32) v_t_copies v_t_undoMany v_t_seenMany v_t_asked jg1 jg2 je3) (cwV 0 hts gX11_file_X11_begins rfl rfl rfl ⟨rfl, hdX11_begins⟩ ⟨Nat.le_of_ble_eq_true rfl, Nat.le_of_ble_eq_true rfl⟩) hP hD hS hA [0, 2] [1, 3, 4] [3, 0, 4, 1, 2] rfl rfl (by decide) (by decide) (by decide) (by decide) rfl KX.xs (fun U _ hW => hK.warm hW) (va_recv hK.1 hP (ci := 11) (q0 := 0) rfl rfl) rfl hl.1 rfl (Nat.le_of_ble_eq_true rfl) dX11_file_16 ⟨Nat.zero_le _, Nat.zero_le _⟩ (fun H locs hP hD hS => ?_)
  refine W.eq (g2 := F0 m 19 ls []) rfl ?_
  refine lv_iconst (v := 0) hx hb dX11_file_19 (by decide) ?_
  refine lv_istore_n (lv' := [(1, .int (0 : Int32)), (0, .ref a_t)]) hx hb dX11_file_20 rfl hl (by decide) rfl (fun ls hl => ?_)
  refine lv_aload_n hx hb dX11_file_21 rfl (lv_at hl 1 rfl) ?_
  obtain ⟨jg4, jg5, jg6, jg7, je8, hf⟩ := bd4_inv hf
  refine callMV (As := []) (rest := []) (wr := [(a_t_draft, .inl (cI, 103, .inl jg2)), (a_t_s, .inl (cI, 103, .inl v_t_s)), (a_t_isKept, .inl (cZ, 2, .inl v_t_isKept))]) (wn := [(a_t, .inr (11, [.int (0 : Int32), .ref a_t_text, .int v_t_typed, .int jg4, .int jg5, .int jg6, .int jg7, .int (-1 : Int32), .int v_t_copies, .int jg1, .ref a_t_draft, .ref a_t_s, .ref a_t_undos, .int v_t_undoMany, .ref a_t_kept, .ref a_t_isKept, .ref a_t_seenWay, .ref a_t_seenIs, .int v_t_seenMany, .int v_t_asked, .ref a_t_sums, .ref a_t_parts, .ref a_t_heaps])), (a_t_text, .inl (cI, 120, .inl v_t_text)), (a_t_draft, .inl (cI, 103, .inl jg2)), (a_t_s, .inl (cI, 103, .inl v_t_s)), (a_t_isKept, .inl (cZ, 2, .inl v_t_isKept))]) S (ctX11_advances l D cI cZ a_t a_t_text a_t_draft a_t_s a_t_undos a_t_kept a_t_isKept a_t_seenWay a_t_seenIs a_t_sums a_t_parts a_t_heaps v_t_typed (0 : Int32) v_t_token v_t_place v_t_value v_t_text (0 : Int32) (-1 : Int32) v_t_copies jg1 v_t_undoMany v_t_seenMany v_t_asked jg4 jg5 jg6 jg7 je8) (cwV 0 hts gX11_file_X11_advances rfl rfl rfl ⟨rfl, hdX11_advances⟩ ⟨Nat.le_of_ble_eq_true rfl, Nat.le_of_ble_eq_true rfl⟩) hP hD hS hA [0, 1] [2, 3, 4] [3, 4, 0, 1, 2] rfl rfl (by decide) (by decide) (by decide) (by decide) rfl KX.xs (fun U _ hW => hK.warm hW) (va_recv hK.1 hP (ci := 11) (q0 := 0) rfl rfl) rfl hl.1 rfl (Nat.le_of_ble_eq_true rfl) dX11_file_22 ⟨Nat.zero_le _, Nat.zero_le _⟩ (fun H locs hP hD hS => ?_)
  refine W.eq (g2 := F0 m 25 ls []) rfl ?_
  exact wX11_file_25 S hr hlk hK hA fuel (0 : Int32) (0 : Int32) v_t_typed jg4 jg5 jg6 jg7 (-1 : Int32) v_t_copies jg1 v_t_undoMany v_t_seenMany jg2 v_t_s v_t_isKept ls _ _ hf (lv_sub hl [1, 0] rfl) hP hD hS
def fX11_isCopy (jx1 : Int32) (v_t_copies : Int32) : Option (Int32) := bd1 (fX11_in jx1 (0 : Int32) (v_t_copies - (1 : Int32))) (fun jr1 => zcI jr1 (some jr1))
abbrev rmX11_isCopy : Room := { frames := 1, cells := 0, slots := 0, locals := 22 }
theorem iX11_isCopy_X11 : ∀ w ∈ wsX110, w ∈ wsX11_isCopy := fun _ h => List.mem_cons_of_mem _ (List.mem_append_right _ h)
theorem mX11_isCopy_1 : (Cond.fieldLink RX11 119 "VoteFilesModel" "copies" "I") ∈ wsX11_isCopy := List.mem_of_getElem? (i := 1) rfl
theorem hdX11_isCopy : yX11_isCopy.cls ≠ "java/lang/invoke/MethodHandle" ∧ yX11_isCopy.cls ≠ "java/lang/invoke/VarHandle" ∧ (parseMethodDescriptor yX11_isCopy.desc).map (fun d => d.parameters.length) = some 1 := by decide +kernel
set_option maxHeartbeats 4000000 in
set_option maxRecDepth 100000 in
theorem ctX11_isCopy (l : Launch) (D : va_G) (cI cZ : ClassId) (a_t a_t_text a_t_draft a_t_s a_t_undos a_t_kept a_t_isKept a_t_seenWay a_t_seenIs a_t_sums a_t_parts a_t_heaps : Nat) (jx1 : Int32) (v_t_copies : Int32) (v_t_thrown : Int32) (v_t_typed : Int32) (v_t_spot : Int32) (v_t_token : Int32) (v_t_place : Int32) (v_t_value : Int32) (v_t_fault : Int32) (v_t_draftCopies : Int32) (v_t_undoMany : Int32) (v_t_seenMany : Int32) (v_t_asked : Int32) (r : Int32) (hf : fX11_isCopy jx1 v_t_copies = some r) : cR l yX11_isCopy wsX11_isCopy rmX11_isCopy [.ref a_t, .int jx1] D [(a_t, .inr (11, [.int v_t_thrown, .ref a_t_text, .int v_t_typed, .int v_t_spot, .int v_t_token, .int v_t_place, .int v_t_value, .int v_t_fault, .int v_t_copies, .int v_t_draftCopies, .ref a_t_draft, .ref a_t_s, .ref a_t_undos, .int v_t_undoMany, .ref a_t_kept, .ref a_t_isKept, .ref a_t_seenWay, .ref a_t_seenIs, .int v_t_seenMany, .int v_t_asked, .ref a_t_sums, .ref a_t_parts, .ref a_t_heaps]))] (KX D cI cZ) r := by
  refine cR_of (cc := cX11_isCopy) (maxL := 2) (ret := some .boolean) (by decide +kernel) rfl _ (Nat.le_of_ble_eq_true rfl) ?_
  intro p e s m below meth c ls S hr hlk hP hK hl
  obtain ⟨hx, hb, hml, hown, hts⟩ := id S
  have hl : lv_has ls 2 [(0, .ref a_t), (1, .int jx1)] := hl
  unfold fX11_isCopy at hf
  refine lv_iload_n hx hb dX11_isCopy_0 rfl (lv_at hl 1 rfl) ?_
  refine lv_iconst (v := 0) hx hb dX11_isCopy_1 (by decide) ?_
  refine lv_aload_n hx hb dX11_isCopy_2 rfl (lv_at hl 0 rfl) ?_
  refine va_get (D := D) (ci := 11) (v := .int v_t_copies) (C := RX11) (T := TX11) (N := 23) hx hb hts iX11_isCopy_X11 hown hK.1 hP 0 rfl rfl 8 (by decide) (hts _ mX11_isCopy_1) (fun _ h9 => h9) rfl dX11_isCopy_3 ?_
  refine lv_iconst (v := 1) hx hb dX11_isCopy_6 (by decide) ?_
  refine lv_isub hx hb dX11_isCopy_7 ?_
  obtain ⟨jr1, je2, hf⟩ := bd1_inv hf
  refine callRS (As := [.int jx1, .int (0 : Int32), .int (v_t_copies - (1 : Int32))]) (rest := []) S (ctX11_in l D cI cZ jx1 (0 : Int32) (v_t_copies - (1 : Int32)) jr1 je2) (va_cwS 3 hts gX11_isCopy_X11_in rfl rfl rfl hdX11_in ⟨Nat.le_of_ble_eq_true rfl, Nat.le_of_ble_eq_true rfl⟩) hP [] rfl KX.xs (fun U _ hW => hK.warm hW) rfl hl.1 rfl (Nat.le_of_ble_eq_true rfl) dX11_isCopy_8 ⟨Nat.zero_le _, Nat.zero_le _⟩ ?_
  obtain ⟨jh3, hf⟩ := zcI_inv hf
  obtain rfl := Option.some.inj hf
  exact retRz hx hb hr hlk (nar_z jh3) dX11_isCopy_11
def fX11_isGroup (jx0 : Int32) : Option (Int32) := bd1 (fX11_in jx0 (0 : Int32) (2 : Int32)) (fun jr1 => zcI jr1 (some jr1))
abbrev rmX11_isGroup : Room := { frames := 1, cells := 0, slots := 0, locals := 22 }
theorem hdX11_isGroup : yX11_isGroup.cls ≠ "java/lang/invoke/MethodHandle" ∧ yX11_isGroup.cls ≠ "java/lang/invoke/VarHandle" ∧ (parseMethodDescriptor yX11_isGroup.desc).map (fun d => d.parameters.length) = some 1 := by decide +kernel
set_option maxHeartbeats 4000000 in
set_option maxRecDepth 100000 in
theorem ctX11_isGroup (l : Launch) (D : va_G) (cI cZ : ClassId) (jx0 : Int32) (r : Int32) (hf : fX11_isGroup jx0 = some r) : cR l yX11_isGroup wsX11_isGroup rmX11_isGroup [.int jx0] D [] (KX D cI cZ) r := by
  refine cR_of (cc := cX11_isGroup) (maxL := 1) (ret := some .boolean) (by decide +kernel) rfl _ (Nat.le_of_ble_eq_true rfl) ?_
  intro p e s m below meth c ls S hr hlk hP hK hl
  obtain ⟨hx, hb, hml, hown, hts⟩ := id S
  have hl : lv_has ls 1 [(0, .int jx0)] := hl
  unfold fX11_isGroup at hf
  refine lv_iload_n hx hb dX11_isGroup_0 rfl (lv_at hl 0 rfl) ?_
  refine lv_iconst (v := 0) hx hb dX11_isGroup_1 (by decide) ?_
  refine lv_iconst (v := 2) hx hb dX11_isGroup_2 (by decide) ?_
  obtain ⟨jr1, je2, hf⟩ := bd1_inv hf
  refine callRS (As := [.int jx0, .int (0 : Int32), .int (2 : Int32)]) (rest := []) S (ctX11_in l D cI cZ jx0 (0 : Int32) (2 : Int32) jr1 je2) (va_cwS 3 hts gX11_isGroup_X11_in rfl rfl rfl hdX11_in ⟨Nat.le_of_ble_eq_true rfl, Nat.le_of_ble_eq_true rfl⟩) hP [] rfl KX.xs (fun U _ hW => hK.warm hW) rfl hl.1 rfl (Nat.le_of_ble_eq_true rfl) dX11_isGroup_3 ⟨Nat.zero_le _, Nat.zero_le _⟩ ?_
  obtain ⟨jh3, hf⟩ := zcI_inv hf
  obtain rfl := Option.some.inj hf
  exact retRz hx hb hr hlk (nar_z jh3) dX11_isGroup_6
def fX11_confAt (jx0 : Int32) : Option (Int32) := some ((31 : Int32) + ((9 : Int32) * jx0))
abbrev rmX11_confAt : Room := { frames := 0, cells := 0, slots := 0, locals := 0 }
theorem hdX11_confAt : yX11_confAt.cls ≠ "java/lang/invoke/MethodHandle" ∧ yX11_confAt.cls ≠ "java/lang/invoke/VarHandle" ∧ (parseMethodDescriptor yX11_confAt.desc).map (fun d => d.parameters.length) = some 1 := by decide +kernel
set_option maxHeartbeats 4000000 in
set_option maxRecDepth 100000 in
theorem ctX11_confAt (l : Launch) (D : va_G) (cI cZ : ClassId) (jx0 : Int32) (r : Int32) (hf : fX11_confAt jx0 = some r) : cR l yX11_confAt wsX11_confAt rmX11_confAt [.int jx0] D [] (KX D cI cZ) r := by
  refine cR_of (cc := cX11_confAt) (maxL := 1) (ret := some .int) (by decide +kernel) rfl _ (Nat.le_of_ble_eq_true rfl) ?_
  intro p e s m below meth c ls S hr hlk hP hK hl
  obtain ⟨hx, hb, hml, hown, hts⟩ := id S
  have hl : lv_has ls 1 [(0, .int jx0)] := hl
  unfold fX11_confAt at hf
  refine lv_bipush (v := 31) hx hb dX11_confAt_0 (by decide) ?_
  refine lv_bipush (v := 9) hx hb dX11_confAt_2 (by decide) ?_
  refine lv_iload_n hx hb dX11_confAt_4 rfl (lv_at hl 0 rfl) ?_
  refine lv_imul hx hb dX11_confAt_5 ?_
  refine lv_iadd hx hb dX11_confAt_6 ?_
  obtain rfl := Option.some.inj hf
  exact retR hx hb hr hlk dX11_confAt_7
def fX11_newest (v_t_s : (Nat → Int32)) : Option (Int32) := ckI 103 (30 : Int32) (bd1 (fX11_confAt ((v_t_s (Int32.toNatClampNeg (30 : Int32))) - (1 : Int32))) (fun jr2 => some jr2))
abbrev rmX11_newest : Room := { frames := 1, cells := 0, slots := 0, locals := 20 }
theorem iX11_newest_X11 : ∀ w ∈ wsX110, w ∈ wsX11_newest := fun _ h => List.mem_cons_of_mem _ (List.mem_append_right _ h)
theorem mX11_newest_1 : (Cond.fieldLink RX11 16 "VoteFilesModel" "s" "[I") ∈ wsX11_newest := List.mem_of_getElem? (i := 1) rfl
theorem hdX11_newest : yX11_newest.cls ≠ "java/lang/invoke/MethodHandle" ∧ yX11_newest.cls ≠ "java/lang/invoke/VarHandle" ∧ (parseMethodDescriptor yX11_newest.desc).map (fun d => d.parameters.length) = some 0 := by decide +kernel
set_option maxHeartbeats 4000000 in
set_option maxRecDepth 100000 in
theorem ctX11_newest (l : Launch) (D : va_G) (cI cZ : ClassId) (a_t a_t_text a_t_draft a_t_s a_t_undos a_t_kept a_t_isKept a_t_seenWay a_t_seenIs a_t_sums a_t_parts a_t_heaps : Nat) (v_t_s : (Nat → Int32)) (v_t_thrown : Int32) (v_t_typed : Int32) (v_t_spot : Int32) (v_t_token : Int32) (v_t_place : Int32) (v_t_value : Int32) (v_t_fault : Int32) (v_t_copies : Int32) (v_t_draftCopies : Int32) (v_t_undoMany : Int32) (v_t_seenMany : Int32) (v_t_asked : Int32) (r : Int32) (hf : fX11_newest v_t_s = some r) : cR l yX11_newest wsX11_newest rmX11_newest [.ref a_t] D [(a_t, .inr (11, [.int v_t_thrown, .ref a_t_text, .int v_t_typed, .int v_t_spot, .int v_t_token, .int v_t_place, .int v_t_value, .int v_t_fault, .int v_t_copies, .int v_t_draftCopies, .ref a_t_draft, .ref a_t_s, .ref a_t_undos, .int v_t_undoMany, .ref a_t_kept, .ref a_t_isKept, .ref a_t_seenWay, .ref a_t_seenIs, .int v_t_seenMany, .int v_t_asked, .ref a_t_sums, .ref a_t_parts, .ref a_t_heaps])), (a_t_s, .inl (cI, 103, .inl v_t_s))] (KX D cI cZ) r := by
  refine cR_of (cc := cX11_newest) (maxL := 1) (ret := some .int) (by decide +kernel) rfl _ (Nat.le_of_ble_eq_true rfl) ?_
  intro p e s m below meth c ls S hr hlk hP hK hl
  obtain ⟨hx, hb, hml, hown, hts⟩ := id S
  have hl : lv_has ls 1 [(0, .ref a_t)] := hl
  unfold fX11_newest at hf
  refine lv_aload_n hx hb dX11_newest_0 rfl (lv_at hl 0 rfl) ?_
  refine va_get (D := D) (ci := 11) (v := .ref a_t_s) (C := RX11) (T := TX11) (N := 23) hx hb hts iX11_newest_X11 hown hK.1 hP 0 rfl rfl 11 (by decide) (hts _ mX11_newest_1) (fun _ h9 => h9) rfl dX11_newest_1 ?_
  refine lv_bipush (v := 30) hx hb dX11_newest_4 (by decide) ?_
  obtain ⟨jh1, hf⟩ := ckI_inv hf
  refine va_iald hx hb hK.1 hP 1 0 rfl rfl jh1 dX11_newest_6 ?_
  refine lv_iconst (v := 1) hx hb dX11_newest_7 (by decide) ?_
  refine lv_isub hx hb dX11_newest_8 ?_
  obtain ⟨jr2, je3, hf⟩ := bd1_inv hf
  refine callRS (As := [.int ((v_t_s (Int32.toNatClampNeg (30 : Int32))) - (1 : Int32))]) (rest := []) S (ctX11_confAt l D cI cZ ((v_t_s (Int32.toNatClampNeg (30 : Int32))) - (1 : Int32)) jr2 je3) (va_cwS 1 hts gX11_newest_X11_confAt rfl rfl rfl hdX11_confAt ⟨Nat.le_of_ble_eq_true rfl, Nat.le_of_ble_eq_true rfl⟩) hP [] rfl KX.xs (fun U _ hW => hK.warm hW) rfl hl.1 rfl (Nat.le_of_ble_eq_true rfl) dX11_newest_9 ⟨Nat.zero_le _, Nat.zero_le _⟩ ?_
  obtain rfl := Option.some.inj hf
  exact retR hx hb hr hlk dX11_newest_12
def fX11_present_4 (jx1 : Int32) (v_t_copies : Int32) (v_t_s : (Nat → Int32)) : Nat → Int32 → Int32 → Option (Int32)
  | 0, _, _ => none
  | n + 1, jx2, jx3 => if v_t_copies ≤ jx3 then some jx2 else ckI 103 ((0 : Int32) + jx3) (if (v_t_s (Int32.toNatClampNeg ((0 : Int32) + jx3))) = (1 : Int32) then ckI 103 ((6 : Int32) + jx3) (if (v_t_s (Int32.toNatClampNeg ((6 : Int32) + jx3))) = jx1 then (fX11_present_4 jx1 v_t_copies v_t_s n) (jx2 ||| ((1 : Int32) <<< (jx3 &&& 31))) (jx3 + (1 : Int32)) else (fX11_present_4 jx1 v_t_copies v_t_s n) (jx2 ||| (0 : Int32)) (jx3 + (1 : Int32))) else (fX11_present_4 jx1 v_t_copies v_t_s n) (jx2 ||| (0 : Int32)) (jx3 + (1 : Int32)))
theorem fX11_present_4_s (jx1 : Int32) (v_t_copies : Int32) (v_t_s : (Nat → Int32)) (n : Nat) (jx2 : Int32) (jx3 : Int32) : fX11_present_4 jx1 v_t_copies v_t_s (n + 1) jx2 jx3 = if v_t_copies ≤ jx3 then some jx2 else ckI 103 ((0 : Int32) + jx3) (if (v_t_s (Int32.toNatClampNeg ((0 : Int32) + jx3))) = (1 : Int32) then ckI 103 ((6 : Int32) + jx3) (if (v_t_s (Int32.toNatClampNeg ((6 : Int32) + jx3))) = jx1 then (fX11_present_4 jx1 v_t_copies v_t_s n) (jx2 ||| ((1 : Int32) <<< (jx3 &&& 31))) (jx3 + (1 : Int32)) else (fX11_present_4 jx1 v_t_copies v_t_s n) (jx2 ||| (0 : Int32)) (jx3 + (1 : Int32))) else (fX11_present_4 jx1 v_t_copies v_t_s n) (jx2 ||| (0 : Int32)) (jx3 + (1 : Int32))) := rfl
def fX11_present (jx1 : Int32) (v_t_copies : Int32) (v_t_s : (Nat → Int32)) : Option (Int32) := fX11_present_4 jx1 v_t_copies v_t_s fuel (0 : Int32) (0 : Int32)
abbrev rmX11_present : Room := { frames := 0, cells := 0, slots := 0, locals := 0 }
theorem iX11_present_X11 : ∀ w ∈ wsX110, w ∈ wsX11_present := fun _ h => List.mem_cons_of_mem _ (List.mem_append_right _ h)
theorem mX11_present_1 : (Cond.fieldLink RX11 119 "VoteFilesModel" "copies" "I") ∈ wsX11_present := List.mem_of_getElem? (i := 1) rfl
theorem mX11_present_2 : (Cond.fieldLink RX11 16 "VoteFilesModel" "s" "[I") ∈ wsX11_present := List.mem_of_getElem? (i := 2) rfl
set_option maxHeartbeats 4000000 in
set_option maxRecDepth 100000 in
theorem wX11_present_4 {p : Program} {l : Launch} {e : Env} {s : State} {m : MethodId} {args : Array Value} {below : List Frame} {meth : Method} {c : Code} {D : va_G} {cI cZ : ClassId} (S : CallFix p m c cX11_present 4 s args wsX11_present RX11) (hr : meth.sig.returnType = some .int) (hlk : meth.locks = false) (hK : KX D cI cZ s) {a_t a_t_text a_t_draft a_t_s a_t_undos a_t_kept a_t_isKept a_t_seenWay a_t_seenIs a_t_sums a_t_parts a_t_heaps : Nat} {jx1 : Int32} {v_t_copies : Int32} {v_t_s : (Nat → Int32)} {v_t_thrown : Int32} {v_t_typed : Int32} {v_t_spot : Int32} {v_t_token : Int32} {v_t_place : Int32} {v_t_value : Int32} {v_t_fault : Int32} {v_t_draftCopies : Int32} {v_t_undoMany : Int32} {v_t_seenMany : Int32} {v_t_asked : Int32} {r : Int32} (hP : va_P D vwCl [(a_t, .inr (11, [.int v_t_thrown, .ref a_t_text, .int v_t_typed, .int v_t_spot, .int v_t_token, .int v_t_place, .int v_t_value, .int v_t_fault, .int v_t_copies, .int v_t_draftCopies, .ref a_t_draft, .ref a_t_s, .ref a_t_undos, .int v_t_undoMany, .ref a_t_kept, .ref a_t_isKept, .ref a_t_seenWay, .ref a_t_seenIs, .int v_t_seenMany, .int v_t_asked, .ref a_t_sums, .ref a_t_parts, .ref a_t_heaps])), (a_t_s, .inl (cI, 103, .inl v_t_s))] s.heap) : ∀ (n : Nat), ∀ (jx2 : Int32) (jx3 : Int32) (ls : Array Slot), fX11_present_4 jx1 v_t_copies v_t_s n jx2 jx3 = some r → lv_has ls 4 [(0, .ref a_t), (1, .int jx1), (2, .int jx2), (3, .int jx3)] → W p l e rmX11_present s m args below meth c s.heap [] 0 0 (MQ below (QcRead r) args s 0 0 (fun _ => False)) (F0 m 4 ls []) := by
  obtain ⟨hx, hb, hml, hown, hts⟩ := id S
  intro n
  induction n with
  | zero =>
    intro jx2 jx3 ls hf hl
    cases (show (none : Option _) = some _ from hf)
  | succ n ih =>
    intro jx2 jx3 ls hf hl
    have hf := (fX11_present_4_s _ _ _ n _ _).symm.trans hf
    refine lv_iload_n hx hb dX11_present_4 rfl (lv_at hl 3 rfl) ?_
    refine lv_aload_n hx hb dX11_present_5 rfl (lv_at hl 0 rfl) ?_
    refine va_get (D := D) (ci := 11) (v := .int v_t_copies) (C := RX11) (T := TX11) (N := 23) hx hb hts iX11_present_X11 hown hK.1 hP 0 rfl rfl 8 (by decide) (hts _ mX11_present_1) (fun _ h9 => h9) rfl dX11_present_6 ?_
    refine lv_icmp_ge (tgt := 53) hx hb dX11_present_9 (by decide) (fun jc1 => ?_) (fun jc1 => ?_)
    · have hf := ite_t jc1 hf
      refine lv_iload_n hx hb dX11_present_53 rfl (lv_at hl 2 rfl) ?_
      obtain rfl := Option.some.inj hf
      exact retR hx hb hr hlk dX11_present_54
    · have hf := ite_f jc1 hf
      refine lv_iload_n hx hb dX11_present_12 rfl (lv_at hl 2 rfl) ?_
      refine lv_aload_n hx hb dX11_present_13 rfl (lv_at hl 0 rfl) ?_
      refine va_get (D := D) (ci := 11) (v := .ref a_t_s) (C := RX11) (T := TX11) (N := 23) hx hb hts iX11_present_X11 hown hK.1 hP 0 rfl rfl 11 (by decide) (hts _ mX11_present_2) (fun _ h9 => h9) rfl dX11_present_14 ?_
      refine lv_iconst (v := 0) hx hb dX11_present_17 (by decide) ?_
      refine lv_iload_n hx hb dX11_present_18 rfl (lv_at hl 3 rfl) ?_
      refine lv_iadd hx hb dX11_present_19 ?_
      obtain ⟨jh2, hf⟩ := ckI_inv hf
      refine va_iald hx hb hK.1 hP 1 0 rfl rfl jh2 dX11_present_20 ?_
      refine lv_iconst (v := 1) hx hb dX11_present_21 (by decide) ?_
      refine lv_icmp_ne (tgt := 44) hx hb dX11_present_22 (by decide) (fun jc3 => ?_) (fun jc3 => ?_)
      · have hf := ite_f jc3 hf
        refine lv_iconst (v := 0) hx hb dX11_present_44 (by decide) ?_
        refine lv_ior hx hb dX11_present_45 ?_
        refine lv_istore_n (lv' := [(2, .int (jx2 ||| (0 : Int32))), (0, .ref a_t), (1, .int jx1), (3, .int jx3)]) hx hb dX11_present_46 rfl hl (by decide) rfl (fun ls hl => ?_)
        refine lv_iinc (v := (jx3 + (1 : Int32))) (lv' := [(3, .int (jx3 + (1 : Int32))), (2, .int (jx2 ||| (0 : Int32))), (0, .ref a_t), (1, .int jx1)]) hx hb dX11_present_47 hl (k := 3) rfl rfl (by decide) rfl (fun ls hl => ?_)
        refine lv_goto (tgt := 4) hx hb dX11_present_50 (by decide) ?_
        exact ih (jx2 ||| (0 : Int32)) (jx3 + (1 : Int32)) ls hf (lv_sub hl [2, 3, 1, 0] rfl)
      · have hf := ite_t jc3 hf
        refine lv_aload_n hx hb dX11_present_25 rfl (lv_at hl 0 rfl) ?_
        refine va_get (D := D) (ci := 11) (v := .ref a_t_s) (C := RX11) (T := TX11) (N := 23) hx hb hts iX11_present_X11 hown hK.1 hP 0 rfl rfl 11 (by decide) (hts _ mX11_present_2) (fun _ h9 => h9) rfl dX11_present_26 ?_
        refine lv_bipush (v := 6) hx hb dX11_present_29 (by decide) ?_
        refine lv_iload_n hx hb dX11_present_31 rfl (lv_at hl 3 rfl) ?_
        refine lv_iadd hx hb dX11_present_32 ?_
        obtain ⟨jh4, hf⟩ := ckI_inv hf
        refine va_iald hx hb hK.1 hP 1 0 rfl rfl jh4 dX11_present_33 ?_
        refine lv_iload_n hx hb dX11_present_34 rfl (lv_at hl 1 rfl) ?_
        refine lv_icmp_ne (tgt := 44) hx hb dX11_present_35 (by decide) (fun jc5 => ?_) (fun jc5 => ?_)
        · have hf := ite_f jc5 hf
          refine lv_iconst (v := 0) hx hb dX11_present_44 (by decide) ?_
          refine lv_ior hx hb dX11_present_45 ?_
          refine lv_istore_n (lv' := [(2, .int (jx2 ||| (0 : Int32))), (0, .ref a_t), (1, .int jx1), (3, .int jx3)]) hx hb dX11_present_46 rfl hl (by decide) rfl (fun ls hl => ?_)
          refine lv_iinc (v := (jx3 + (1 : Int32))) (lv' := [(3, .int (jx3 + (1 : Int32))), (2, .int (jx2 ||| (0 : Int32))), (0, .ref a_t), (1, .int jx1)]) hx hb dX11_present_47 hl (k := 3) rfl rfl (by decide) rfl (fun ls hl => ?_)
          refine lv_goto (tgt := 4) hx hb dX11_present_50 (by decide) ?_
          exact ih (jx2 ||| (0 : Int32)) (jx3 + (1 : Int32)) ls hf (lv_sub hl [2, 3, 1, 0] rfl)
        · have hf := ite_t jc5 hf
          refine lv_iconst (v := 1) hx hb dX11_present_38 (by decide) ?_
          refine lv_iload_n hx hb dX11_present_39 rfl (lv_at hl 3 rfl) ?_
          refine lv_ishl hx hb dX11_present_40 ?_
          refine lv_goto (tgt := 45) hx hb dX11_present_41 (by decide) ?_
          refine lv_ior hx hb dX11_present_45 ?_
          refine lv_istore_n (lv' := [(2, .int (jx2 ||| ((1 : Int32) <<< (jx3 &&& 31)))), (0, .ref a_t), (1, .int jx1), (3, .int jx3)]) hx hb dX11_present_46 rfl hl (by decide) rfl (fun ls hl => ?_)
          refine lv_iinc (v := (jx3 + (1 : Int32))) (lv' := [(3, .int (jx3 + (1 : Int32))), (2, .int (jx2 ||| ((1 : Int32) <<< (jx3 &&& 31)))), (0, .ref a_t), (1, .int jx1)]) hx hb dX11_present_47 hl (k := 3) rfl rfl (by decide) rfl (fun ls hl => ?_)
          refine lv_goto (tgt := 4) hx hb dX11_present_50 (by decide) ?_
          exact ih (jx2 ||| ((1 : Int32) <<< (jx3 &&& 31))) (jx3 + (1 : Int32)) ls hf (lv_sub hl [2, 3, 1, 0] rfl)
theorem hdX11_present : yX11_present.cls ≠ "java/lang/invoke/MethodHandle" ∧ yX11_present.cls ≠ "java/lang/invoke/VarHandle" ∧ (parseMethodDescriptor yX11_present.desc).map (fun d => d.parameters.length) = some 1 := by decide +kernel
set_option maxHeartbeats 4000000 in
set_option maxRecDepth 100000 in
theorem ctX11_present (l : Launch) (D : va_G) (cI cZ : ClassId) (a_t a_t_text a_t_draft a_t_s a_t_undos a_t_kept a_t_isKept a_t_seenWay a_t_seenIs a_t_sums a_t_parts a_t_heaps : Nat) (jx1 : Int32) (v_t_copies : Int32) (v_t_s : (Nat → Int32)) (v_t_thrown : Int32) (v_t_typed : Int32) (v_t_spot : Int32) (v_t_token : Int32) (v_t_place : Int32) (v_t_value : Int32) (v_t_fault : Int32) (v_t_draftCopies : Int32) (v_t_undoMany : Int32) (v_t_seenMany : Int32) (v_t_asked : Int32) (r : Int32) (hf : fX11_present jx1 v_t_copies v_t_s = some r) : cR l yX11_present wsX11_present rmX11_present [.ref a_t, .int jx1] D [(a_t, .inr (11, [.int v_t_thrown, .ref a_t_text, .int v_t_typed, .int v_t_spot, .int v_t_token, .int v_t_place, .int v_t_value, .int v_t_fault, .int v_t_copies, .int v_t_draftCopies, .ref a_t_draft, .ref a_t_s, .ref a_t_undos, .int v_t_undoMany, .ref a_t_kept, .ref a_t_isKept, .ref a_t_seenWay, .ref a_t_seenIs, .int v_t_seenMany, .int v_t_asked, .ref a_t_sums, .ref a_t_parts, .ref a_t_heaps])), (a_t_s, .inl (cI, 103, .inl v_t_s))] (KX D cI cZ) r := by
  refine cR_of (cc := cX11_present) (maxL := 4) (ret := some .int) (by decide +kernel) rfl _ (Nat.le_of_ble_eq_true rfl) ?_
  intro p e s m below meth c ls S hr hlk hP hK hl
  obtain ⟨hx, hb, hml, hown, hts⟩ := id S
  have hl : lv_has ls 4 [(0, .ref a_t), (1, .int jx1)] := hl
  unfold fX11_present at hf
  refine lv_iconst (v := 0) hx hb dX11_present_0 (by decide) ?_
  refine lv_istore_n (lv' := [(2, .int (0 : Int32)), (0, .ref a_t), (1, .int jx1)]) hx hb dX11_present_1 rfl hl (by decide) rfl (fun ls hl => ?_)
  refine lv_iconst (v := 0) hx hb dX11_present_2 (by decide) ?_
  refine lv_istore_n (lv' := [(3, .int (0 : Int32)), (2, .int (0 : Int32)), (0, .ref a_t), (1, .int jx1)]) hx hb dX11_present_3 rfl hl (by decide) rfl (fun ls hl => ?_)
  exact wX11_present_4 S hr hlk hK hP fuel (0 : Int32) (0 : Int32) ls hf (lv_sub hl [2, 3, 1, 0] rfl)
def fX11_greatest_6 (jx1 : Int32) (jx2 : Int32) (v_t_copies : Int32) (v_t_s : (Nat → Int32)) : Nat → Int32 → Int32 → Option (Int32)
  | 0, _, _ => none
  | n + 1, jx3, jx4 => if v_t_copies ≤ jx4 then some jx3 else bd1 (fX11_has jx1 jx4) (fun jr2 => if jr2 = 0 then (fX11_greatest_6 jx1 jx2 v_t_copies v_t_s n) jx3 (jx4 + (1 : Int32)) else ckI 103 (jx2 + jx4) (if (v_t_s (Int32.toNatClampNeg (jx2 + jx4))) ≤ jx3 then (fX11_greatest_6 jx1 jx2 v_t_copies v_t_s n) jx3 (jx4 + (1 : Int32)) else ckI 103 (jx2 + jx4) ((fX11_greatest_6 jx1 jx2 v_t_copies v_t_s n) (v_t_s (Int32.toNatClampNeg (jx2 + jx4))) (jx4 + (1 : Int32)))))
theorem fX11_greatest_6_s (jx1 : Int32) (jx2 : Int32) (v_t_copies : Int32) (v_t_s : (Nat → Int32)) (n : Nat) (jx3 : Int32) (jx4 : Int32) : fX11_greatest_6 jx1 jx2 v_t_copies v_t_s (n + 1) jx3 jx4 = if v_t_copies ≤ jx4 then some jx3 else bd1 (fX11_has jx1 jx4) (fun jr2 => if jr2 = 0 then (fX11_greatest_6 jx1 jx2 v_t_copies v_t_s n) jx3 (jx4 + (1 : Int32)) else ckI 103 (jx2 + jx4) (if (v_t_s (Int32.toNatClampNeg (jx2 + jx4))) ≤ jx3 then (fX11_greatest_6 jx1 jx2 v_t_copies v_t_s n) jx3 (jx4 + (1 : Int32)) else ckI 103 (jx2 + jx4) ((fX11_greatest_6 jx1 jx2 v_t_copies v_t_s n) (v_t_s (Int32.toNatClampNeg (jx2 + jx4))) (jx4 + (1 : Int32))))) := rfl
def fX11_greatest (jx1 : Int32) (jx2 : Int32) (v_t_copies : Int32) (v_t_s : (Nat → Int32)) : Option (Int32) := fX11_greatest_6 jx1 jx2 v_t_copies v_t_s fuel (-9 : Int32) (0 : Int32)
abbrev rmX11_greatest : Room := { frames := 1, cells := 0, slots := 0, locals := 21 }
theorem iX11_greatest_X11 : ∀ w ∈ wsX110, w ∈ wsX11_greatest := fun _ h => List.mem_cons_of_mem _ (List.mem_append_right _ h)
theorem mX11_greatest_1 : (Cond.fieldLink RX11 119 "VoteFilesModel" "copies" "I") ∈ wsX11_greatest := List.mem_of_getElem? (i := 1) rfl
theorem mX11_greatest_2 : (Cond.fieldLink RX11 16 "VoteFilesModel" "s" "[I") ∈ wsX11_greatest := List.mem_of_getElem? (i := 2) rfl
set_option maxHeartbeats 4000000 in
set_option maxRecDepth 100000 in
theorem wX11_greatest_6 {p : Program} {l : Launch} {e : Env} {s : State} {m : MethodId} {args : Array Value} {below : List Frame} {meth : Method} {c : Code} {D : va_G} {cI cZ : ClassId} (S : CallFix p m c cX11_greatest 5 s args wsX11_greatest RX11) (hr : meth.sig.returnType = some .int) (hlk : meth.locks = false) (hK : KX D cI cZ s) {a_t a_t_text a_t_draft a_t_s a_t_undos a_t_kept a_t_isKept a_t_seenWay a_t_seenIs a_t_sums a_t_parts a_t_heaps : Nat} {jx1 : Int32} {jx2 : Int32} {v_t_copies : Int32} {v_t_s : (Nat → Int32)} {v_t_thrown : Int32} {v_t_typed : Int32} {v_t_spot : Int32} {v_t_token : Int32} {v_t_place : Int32} {v_t_value : Int32} {v_t_fault : Int32} {v_t_draftCopies : Int32} {v_t_undoMany : Int32} {v_t_seenMany : Int32} {v_t_asked : Int32} {r : Int32} (hP : va_P D vwCl [(a_t, .inr (11, [.int v_t_thrown, .ref a_t_text, .int v_t_typed, .int v_t_spot, .int v_t_token, .int v_t_place, .int v_t_value, .int v_t_fault, .int v_t_copies, .int v_t_draftCopies, .ref a_t_draft, .ref a_t_s, .ref a_t_undos, .int v_t_undoMany, .ref a_t_kept, .ref a_t_isKept, .ref a_t_seenWay, .ref a_t_seenIs, .int v_t_seenMany, .int v_t_asked, .ref a_t_sums, .ref a_t_parts, .ref a_t_heaps])), (a_t_s, .inl (cI, 103, .inl v_t_s))] s.heap) : ∀ (n : Nat), ∀ (jx3 : Int32) (jx4 : Int32) (ls : Array Slot), fX11_greatest_6 jx1 jx2 v_t_copies v_t_s n jx3 jx4 = some r → lv_has ls 5 [(0, .ref a_t), (1, .int jx1), (2, .int jx2), (3, .int jx3), (4, .int jx4)] → W p l e rmX11_greatest s m args below meth c s.heap [] 0 0 (MQ below (QcRead r) args s 0 0 (fun _ => False)) (F0 m 6 ls []) := by
  obtain ⟨hx, hb, hml, hown, hts⟩ := id S
  intro n
  induction n with
  | zero =>
    intro jx3 jx4 ls hf hl
    cases (show (none : Option _) = some _ from hf)
  | succ n ih =>
    intro jx3 jx4 ls hf hl
    have hf := (fX11_greatest_6_s _ _ _ _ n _ _).symm.trans hf
    refine lv_iload hx hb dX11_greatest_6 (lv_at hl 4 rfl) ?_
    refine lv_aload_n hx hb dX11_greatest_8 rfl (lv_at hl 0 rfl) ?_
    refine va_get (D := D) (ci := 11) (v := .int v_t_copies) (C := RX11) (T := TX11) (N := 23) hx hb hts iX11_greatest_X11 hown hK.1 hP 0 rfl rfl 8 (by decide) (hts _ mX11_greatest_1) (fun _ h9 => h9) rfl dX11_greatest_9 ?_
    refine lv_icmp_ge (tgt := 57) hx hb dX11_greatest_12 (by decide) (fun jc1 => ?_) (fun jc1 => ?_)
    · have hf := ite_t jc1 hf
      refine lv_iload_n hx hb dX11_greatest_57 rfl (lv_at hl 3 rfl) ?_
      obtain rfl := Option.some.inj hf
      exact retR hx hb hr hlk dX11_greatest_58
    · have hf := ite_f jc1 hf
      refine lv_iload_n hx hb dX11_greatest_15 rfl (lv_at hl 1 rfl) ?_
      refine lv_iload hx hb dX11_greatest_16 (lv_at hl 4 rfl) ?_
      obtain ⟨jr2, je3, hf⟩ := bd1_inv hf
      refine callRS (As := [.int jx1, .int jx4]) (rest := []) S (ctX11_has l D cI cZ jx1 jx4 jr2 je3) (va_cwS 2 hts gX11_greatest_X11_has rfl rfl rfl hdX11_has ⟨Nat.le_of_ble_eq_true rfl, Nat.le_of_ble_eq_true rfl⟩) hP [] rfl KX.xs (fun U _ hW => hK.warm hW) rfl hl.1 rfl (Nat.le_of_ble_eq_true rfl) dX11_greatest_18 ⟨Nat.zero_le _, Nat.zero_le _⟩ ?_
      refine lv_if_eq (tgt := 49) hx hb dX11_greatest_21 (by decide) (fun jc4 => ?_) (fun jc4 => ?_)
      · have hf := ite_t jc4 hf
        refine lv_iload_n hx hb dX11_greatest_49 rfl (lv_at hl 3 rfl) ?_
        refine lv_istore_n (lv' := [(3, .int jx3), (0, .ref a_t), (1, .int jx1), (2, .int jx2), (4, .int jx4)]) hx hb dX11_greatest_50 rfl hl (by decide) rfl (fun ls hl => ?_)
        refine lv_iinc (v := (jx4 + (1 : Int32))) (lv' := [(4, .int (jx4 + (1 : Int32))), (3, .int jx3), (0, .ref a_t), (1, .int jx1), (2, .int jx2)]) hx hb dX11_greatest_51 hl (k := 4) rfl rfl (by decide) rfl (fun ls hl => ?_)
        refine lv_goto (tgt := 6) hx hb dX11_greatest_54 (by decide) ?_
        exact ih jx3 (jx4 + (1 : Int32)) ls hf (lv_sub hl [2, 3, 4, 1, 0] rfl)
      · have hf := ite_f jc4 hf
        refine lv_aload_n hx hb dX11_greatest_24 rfl (lv_at hl 0 rfl) ?_
        refine va_get (D := D) (ci := 11) (v := .ref a_t_s) (C := RX11) (T := TX11) (N := 23) hx hb hts iX11_greatest_X11 hown hK.1 hP 0 rfl rfl 11 (by decide) (hts _ mX11_greatest_2) (fun _ h9 => h9) rfl dX11_greatest_25 ?_
        refine lv_iload_n hx hb dX11_greatest_28 rfl (lv_at hl 2 rfl) ?_
        refine lv_iload hx hb dX11_greatest_29 (lv_at hl 4 rfl) ?_
        refine lv_iadd hx hb dX11_greatest_31 ?_
        obtain ⟨jh5, hf⟩ := ckI_inv hf
        refine va_iald hx hb hK.1 hP 1 0 rfl rfl jh5 dX11_greatest_32 ?_
        refine lv_iload_n hx hb dX11_greatest_33 rfl (lv_at hl 3 rfl) ?_
        refine lv_icmp_le (tgt := 49) hx hb dX11_greatest_34 (by decide) (fun jc6 => ?_) (fun jc6 => ?_)
        · have hf := ite_t jc6 hf
          refine lv_iload_n hx hb dX11_greatest_49 rfl (lv_at hl 3 rfl) ?_
          refine lv_istore_n (lv' := [(3, .int jx3), (0, .ref a_t), (1, .int jx1), (2, .int jx2), (4, .int jx4)]) hx hb dX11_greatest_50 rfl hl (by decide) rfl (fun ls hl => ?_)
          refine lv_iinc (v := (jx4 + (1 : Int32))) (lv' := [(4, .int (jx4 + (1 : Int32))), (3, .int jx3), (0, .ref a_t), (1, .int jx1), (2, .int jx2)]) hx hb dX11_greatest_51 hl (k := 4) rfl rfl (by decide) rfl (fun ls hl => ?_)
          refine lv_goto (tgt := 6) hx hb dX11_greatest_54 (by decide) ?_
          exact ih jx3 (jx4 + (1 : Int32)) ls hf (lv_sub hl [2, 3, 4, 1, 0] rfl)
        · have hf := ite_f jc6 hf
          refine lv_aload_n hx hb dX11_greatest_37 rfl (lv_at hl 0 rfl) ?_
          refine va_get (D := D) (ci := 11) (v := .ref a_t_s) (C := RX11) (T := TX11) (N := 23) hx hb hts iX11_greatest_X11 hown hK.1 hP 0 rfl rfl 11 (by decide) (hts _ mX11_greatest_2) (fun _ h9 => h9) rfl dX11_greatest_38 ?_
          refine lv_iload_n hx hb dX11_greatest_41 rfl (lv_at hl 2 rfl) ?_
          refine lv_iload hx hb dX11_greatest_42 (lv_at hl 4 rfl) ?_
          refine lv_iadd hx hb dX11_greatest_44 ?_
          obtain ⟨jh7, hf⟩ := ckI_inv hf
          refine va_iald hx hb hK.1 hP 1 0 rfl rfl jh7 dX11_greatest_45 ?_
          refine lv_goto (tgt := 50) hx hb dX11_greatest_46 (by decide) ?_
          refine lv_istore_n (lv' := [(3, .int (v_t_s (Int32.toNatClampNeg (jx2 + jx4)))), (0, .ref a_t), (1, .int jx1), (2, .int jx2), (4, .int jx4)]) hx hb dX11_greatest_50 rfl hl (by decide) rfl (fun ls hl => ?_)
          refine lv_iinc (v := (jx4 + (1 : Int32))) (lv' := [(4, .int (jx4 + (1 : Int32))), (3, .int (v_t_s (Int32.toNatClampNeg (jx2 + jx4)))), (0, .ref a_t), (1, .int jx1), (2, .int jx2)]) hx hb dX11_greatest_51 hl (k := 4) rfl rfl (by decide) rfl (fun ls hl => ?_)
          refine lv_goto (tgt := 6) hx hb dX11_greatest_54 (by decide) ?_
          exact ih (v_t_s (Int32.toNatClampNeg (jx2 + jx4))) (jx4 + (1 : Int32)) ls hf (lv_sub hl [2, 3, 4, 1, 0] rfl)
theorem hdX11_greatest : yX11_greatest.cls ≠ "java/lang/invoke/MethodHandle" ∧ yX11_greatest.cls ≠ "java/lang/invoke/VarHandle" ∧ (parseMethodDescriptor yX11_greatest.desc).map (fun d => d.parameters.length) = some 2 := by decide +kernel
set_option maxHeartbeats 4000000 in
set_option maxRecDepth 100000 in
theorem ctX11_greatest (l : Launch) (D : va_G) (cI cZ : ClassId) (a_t a_t_text a_t_draft a_t_s a_t_undos a_t_kept a_t_isKept a_t_seenWay a_t_seenIs a_t_sums a_t_parts a_t_heaps : Nat) (jx1 : Int32) (jx2 : Int32) (v_t_copies : Int32) (v_t_s : (Nat → Int32)) (v_t_thrown : Int32) (v_t_typed : Int32) (v_t_spot : Int32) (v_t_token : Int32) (v_t_place : Int32) (v_t_value : Int32) (v_t_fault : Int32) (v_t_draftCopies : Int32) (v_t_undoMany : Int32) (v_t_seenMany : Int32) (v_t_asked : Int32) (r : Int32) (hf : fX11_greatest jx1 jx2 v_t_copies v_t_s = some r) : cR l yX11_greatest wsX11_greatest rmX11_greatest [.ref a_t, .int jx1, .int jx2] D [(a_t, .inr (11, [.int v_t_thrown, .ref a_t_text, .int v_t_typed, .int v_t_spot, .int v_t_token, .int v_t_place, .int v_t_value, .int v_t_fault, .int v_t_copies, .int v_t_draftCopies, .ref a_t_draft, .ref a_t_s, .ref a_t_undos, .int v_t_undoMany, .ref a_t_kept, .ref a_t_isKept, .ref a_t_seenWay, .ref a_t_seenIs, .int v_t_seenMany, .int v_t_asked, .ref a_t_sums, .ref a_t_parts, .ref a_t_heaps])), (a_t_s, .inl (cI, 103, .inl v_t_s))] (KX D cI cZ) r := by
  refine cR_of (cc := cX11_greatest) (maxL := 5) (ret := some .int) (by decide +kernel) rfl _ (Nat.le_of_ble_eq_true rfl) ?_
  intro p e s m below meth c ls S hr hlk hP hK hl
  obtain ⟨hx, hb, hml, hown, hts⟩ := id S
  have hl : lv_has ls 5 [(0, .ref a_t), (1, .int jx1), (2, .int jx2)] := hl
  unfold fX11_greatest at hf
  refine lv_bipush (v := -9) hx hb dX11_greatest_0 (by decide) ?_
  refine lv_istore_n (lv' := [(3, .int (-9 : Int32)), (0, .ref a_t), (1, .int jx1), (2, .int jx2)]) hx hb dX11_greatest_2 rfl hl (by decide) rfl (fun ls hl => ?_)
  refine lv_iconst (v := 0) hx hb dX11_greatest_3 (by decide) ?_
  refine lv_istore (lv' := [(4, .int (0 : Int32)), (3, .int (-9 : Int32)), (0, .ref a_t), (1, .int jx1), (2, .int jx2)]) hx hb dX11_greatest_4 hl (by decide) rfl (fun ls hl => ?_)
  exact wX11_greatest_6 S hr hlk hK hP fuel (-9 : Int32) (0 : Int32) ls hf (lv_sub hl [2, 3, 4, 1, 0] rfl)
def fX11_votesOf_5 (jx1 : Int32) (jx2 : Int32) (v_t_copies : Int32) (v_t_s : (Nat → Int32)) : Nat → Int32 → Int32 → Option (Int32)
  | 0, _, _ => none
  | n + 1, jx3, jx4 => if v_t_copies ≤ jx4 then some jx3 else bd1 (fX11_has jx1 jx4) (fun jr2 => if jr2 = 0 then (fX11_votesOf_5 jx1 jx2 v_t_copies v_t_s n) (jx3 + (0 : Int32)) (jx4 + (1 : Int32)) else ckI 103 (jx2 + jx4) ((fX11_votesOf_5 jx1 jx2 v_t_copies v_t_s n) (jx3 + (v_t_s (Int32.toNatClampNeg (jx2 + jx4)))) (jx4 + (1 : Int32))))
theorem fX11_votesOf_5_s (jx1 : Int32) (jx2 : Int32) (v_t_copies : Int32) (v_t_s : (Nat → Int32)) (n : Nat) (jx3 : Int32) (jx4 : Int32) : fX11_votesOf_5 jx1 jx2 v_t_copies v_t_s (n + 1) jx3 jx4 = if v_t_copies ≤ jx4 then some jx3 else bd1 (fX11_has jx1 jx4) (fun jr2 => if jr2 = 0 then (fX11_votesOf_5 jx1 jx2 v_t_copies v_t_s n) (jx3 + (0 : Int32)) (jx4 + (1 : Int32)) else ckI 103 (jx2 + jx4) ((fX11_votesOf_5 jx1 jx2 v_t_copies v_t_s n) (jx3 + (v_t_s (Int32.toNatClampNeg (jx2 + jx4)))) (jx4 + (1 : Int32)))) := rfl
def fX11_votesOf (jx1 : Int32) (jx2 : Int32) (v_t_copies : Int32) (v_t_s : (Nat → Int32)) : Option (Int32) := fX11_votesOf_5 jx1 jx2 v_t_copies v_t_s fuel (0 : Int32) (0 : Int32)
abbrev rmX11_votesOf : Room := { frames := 1, cells := 0, slots := 0, locals := 21 }
theorem iX11_votesOf_X11 : ∀ w ∈ wsX110, w ∈ wsX11_votesOf := fun _ h => List.mem_cons_of_mem _ (List.mem_append_right _ h)
theorem mX11_votesOf_1 : (Cond.fieldLink RX11 119 "VoteFilesModel" "copies" "I") ∈ wsX11_votesOf := List.mem_of_getElem? (i := 1) rfl
theorem mX11_votesOf_2 : (Cond.fieldLink RX11 16 "VoteFilesModel" "s" "[I") ∈ wsX11_votesOf := List.mem_of_getElem? (i := 2) rfl
set_option maxHeartbeats 4000000 in
set_option maxRecDepth 100000 in
theorem wX11_votesOf_5 {p : Program} {l : Launch} {e : Env} {s : State} {m : MethodId} {args : Array Value} {below : List Frame} {meth : Method} {c : Code} {D : va_G} {cI cZ : ClassId} (S : CallFix p m c cX11_votesOf 5 s args wsX11_votesOf RX11) (hr : meth.sig.returnType = some .int) (hlk : meth.locks = false) (hK : KX D cI cZ s) {a_t a_t_text a_t_draft a_t_s a_t_undos a_t_kept a_t_isKept a_t_seenWay a_t_seenIs a_t_sums a_t_parts a_t_heaps : Nat} {jx1 : Int32} {jx2 : Int32} {v_t_copies : Int32} {v_t_s : (Nat → Int32)} {v_t_thrown : Int32} {v_t_typed : Int32} {v_t_spot : Int32} {v_t_token : Int32} {v_t_place : Int32} {v_t_value : Int32} {v_t_fault : Int32} {v_t_draftCopies : Int32} {v_t_undoMany : Int32} {v_t_seenMany : Int32} {v_t_asked : Int32} {r : Int32} (hP : va_P D vwCl [(a_t, .inr (11, [.int v_t_thrown, .ref a_t_text, .int v_t_typed, .int v_t_spot, .int v_t_token, .int v_t_place, .int v_t_value, .int v_t_fault, .int v_t_copies, .int v_t_draftCopies, .ref a_t_draft, .ref a_t_s, .ref a_t_undos, .int v_t_undoMany, .ref a_t_kept, .ref a_t_isKept, .ref a_t_seenWay, .ref a_t_seenIs, .int v_t_seenMany, .int v_t_asked, .ref a_t_sums, .ref a_t_parts, .ref a_t_heaps])), (a_t_s, .inl (cI, 103, .inl v_t_s))] s.heap) : ∀ (n : Nat), ∀ (jx3 : Int32) (jx4 : Int32) (ls : Array Slot), fX11_votesOf_5 jx1 jx2 v_t_copies v_t_s n jx3 jx4 = some r → lv_has ls 5 [(0, .ref a_t), (1, .int jx1), (2, .int jx2), (3, .int jx3), (4, .int jx4)] → W p l e rmX11_votesOf s m args below meth c s.heap [] 0 0 (MQ below (QcRead r) args s 0 0 (fun _ => False)) (F0 m 5 ls []) := by
  obtain ⟨hx, hb, hml, hown, hts⟩ := id S
  intro n
  induction n with
  | zero =>
    intro jx3 jx4 ls hf hl
    cases (show (none : Option _) = some _ from hf)
  | succ n ih =>
    intro jx3 jx4 ls hf hl
    have hf := (fX11_votesOf_5_s _ _ _ _ n _ _).symm.trans hf
    refine lv_iload hx hb dX11_votesOf_5 (lv_at hl 4 rfl) ?_
    refine lv_aload_n hx hb dX11_votesOf_7 rfl (lv_at hl 0 rfl) ?_
    refine va_get (D := D) (ci := 11) (v := .int v_t_copies) (C := RX11) (T := TX11) (N := 23) hx hb hts iX11_votesOf_X11 hown hK.1 hP 0 rfl rfl 8 (by decide) (hts _ mX11_votesOf_1) (fun _ h9 => h9) rfl dX11_votesOf_8 ?_
    refine lv_icmp_ge (tgt := 45) hx hb dX11_votesOf_11 (by decide) (fun jc1 => ?_) (fun jc1 => ?_)
    · have hf := ite_t jc1 hf
      refine lv_iload_n hx hb dX11_votesOf_45 rfl (lv_at hl 3 rfl) ?_
      obtain rfl := Option.some.inj hf
      exact retR hx hb hr hlk dX11_votesOf_46
    · have hf := ite_f jc1 hf
      refine lv_iload_n hx hb dX11_votesOf_14 rfl (lv_at hl 3 rfl) ?_
      refine lv_iload_n hx hb dX11_votesOf_15 rfl (lv_at hl 1 rfl) ?_
      refine lv_iload hx hb dX11_votesOf_16 (lv_at hl 4 rfl) ?_
      obtain ⟨jr2, je3, hf⟩ := bd1_inv hf
      refine callRS (As := [.int jx1, .int jx4]) (rest := [.int jx3]) S (ctX11_has l D cI cZ jx1 jx4 jr2 je3) (va_cwS 2 hts gX11_votesOf_X11_has rfl rfl rfl hdX11_has ⟨Nat.le_of_ble_eq_true rfl, Nat.le_of_ble_eq_true rfl⟩) hP [] rfl KX.xs (fun U _ hW => hK.warm hW) rfl hl.1 rfl (Nat.le_of_ble_eq_true rfl) dX11_votesOf_18 ⟨Nat.zero_le _, Nat.zero_le _⟩ ?_
      refine lv_if_eq (tgt := 36) hx hb dX11_votesOf_21 (by decide) (fun jc4 => ?_) (fun jc4 => ?_)
      · have hf := ite_t jc4 hf
        refine lv_iconst (v := 0) hx hb dX11_votesOf_36 (by decide) ?_
        refine lv_iadd hx hb dX11_votesOf_37 ?_
        refine lv_istore_n (lv' := [(3, .int (jx3 + (0 : Int32))), (0, .ref a_t), (1, .int jx1), (2, .int jx2), (4, .int jx4)]) hx hb dX11_votesOf_38 rfl hl (by decide) rfl (fun ls hl => ?_)
        refine lv_iinc (v := (jx4 + (1 : Int32))) (lv' := [(4, .int (jx4 + (1 : Int32))), (3, .int (jx3 + (0 : Int32))), (0, .ref a_t), (1, .int jx1), (2, .int jx2)]) hx hb dX11_votesOf_39 hl (k := 4) rfl rfl (by decide) rfl (fun ls hl => ?_)
        refine lv_goto (tgt := 5) hx hb dX11_votesOf_42 (by decide) ?_
        exact ih (jx3 + (0 : Int32)) (jx4 + (1 : Int32)) ls hf (lv_sub hl [2, 3, 4, 1, 0] rfl)
      · have hf := ite_f jc4 hf
        refine lv_aload_n hx hb dX11_votesOf_24 rfl (lv_at hl 0 rfl) ?_
        refine va_get (D := D) (ci := 11) (v := .ref a_t_s) (C := RX11) (T := TX11) (N := 23) hx hb hts iX11_votesOf_X11 hown hK.1 hP 0 rfl rfl 11 (by decide) (hts _ mX11_votesOf_2) (fun _ h9 => h9) rfl dX11_votesOf_25 ?_
        refine lv_iload_n hx hb dX11_votesOf_28 rfl (lv_at hl 2 rfl) ?_
        refine lv_iload hx hb dX11_votesOf_29 (lv_at hl 4 rfl) ?_
        refine lv_iadd hx hb dX11_votesOf_31 ?_
        obtain ⟨jh5, hf⟩ := ckI_inv hf
        refine va_iald hx hb hK.1 hP 1 0 rfl rfl jh5 dX11_votesOf_32 ?_
        refine lv_goto (tgt := 37) hx hb dX11_votesOf_33 (by decide) ?_
        refine lv_iadd hx hb dX11_votesOf_37 ?_
        refine lv_istore_n (lv' := [(3, .int (jx3 + (v_t_s (Int32.toNatClampNeg (jx2 + jx4))))), (0, .ref a_t), (1, .int jx1), (2, .int jx2), (4, .int jx4)]) hx hb dX11_votesOf_38 rfl hl (by decide) rfl (fun ls hl => ?_)
        refine lv_iinc (v := (jx4 + (1 : Int32))) (lv' := [(4, .int (jx4 + (1 : Int32))), (3, .int (jx3 + (v_t_s (Int32.toNatClampNeg (jx2 + jx4))))), (0, .ref a_t), (1, .int jx1), (2, .int jx2)]) hx hb dX11_votesOf_39 hl (k := 4) rfl rfl (by decide) rfl (fun ls hl => ?_)
        refine lv_goto (tgt := 5) hx hb dX11_votesOf_42 (by decide) ?_
        exact ih (jx3 + (v_t_s (Int32.toNatClampNeg (jx2 + jx4)))) (jx4 + (1 : Int32)) ls hf (lv_sub hl [2, 3, 4, 1, 0] rfl)
theorem hdX11_votesOf : yX11_votesOf.cls ≠ "java/lang/invoke/MethodHandle" ∧ yX11_votesOf.cls ≠ "java/lang/invoke/VarHandle" ∧ (parseMethodDescriptor yX11_votesOf.desc).map (fun d => d.parameters.length) = some 2 := by decide +kernel
set_option maxHeartbeats 4000000 in
set_option maxRecDepth 100000 in
theorem ctX11_votesOf (l : Launch) (D : va_G) (cI cZ : ClassId) (a_t a_t_text a_t_draft a_t_s a_t_undos a_t_kept a_t_isKept a_t_seenWay a_t_seenIs a_t_sums a_t_parts a_t_heaps : Nat) (jx1 : Int32) (jx2 : Int32) (v_t_copies : Int32) (v_t_s : (Nat → Int32)) (v_t_thrown : Int32) (v_t_typed : Int32) (v_t_spot : Int32) (v_t_token : Int32) (v_t_place : Int32) (v_t_value : Int32) (v_t_fault : Int32) (v_t_draftCopies : Int32) (v_t_undoMany : Int32) (v_t_seenMany : Int32) (v_t_asked : Int32) (r : Int32) (hf : fX11_votesOf jx1 jx2 v_t_copies v_t_s = some r) : cR l yX11_votesOf wsX11_votesOf rmX11_votesOf [.ref a_t, .int jx1, .int jx2] D [(a_t, .inr (11, [.int v_t_thrown, .ref a_t_text, .int v_t_typed, .int v_t_spot, .int v_t_token, .int v_t_place, .int v_t_value, .int v_t_fault, .int v_t_copies, .int v_t_draftCopies, .ref a_t_draft, .ref a_t_s, .ref a_t_undos, .int v_t_undoMany, .ref a_t_kept, .ref a_t_isKept, .ref a_t_seenWay, .ref a_t_seenIs, .int v_t_seenMany, .int v_t_asked, .ref a_t_sums, .ref a_t_parts, .ref a_t_heaps])), (a_t_s, .inl (cI, 103, .inl v_t_s))] (KX D cI cZ) r := by
  refine cR_of (cc := cX11_votesOf) (maxL := 5) (ret := some .int) (by decide +kernel) rfl _ (Nat.le_of_ble_eq_true rfl) ?_
  intro p e s m below meth c ls S hr hlk hP hK hl
  obtain ⟨hx, hb, hml, hown, hts⟩ := id S
  have hl : lv_has ls 5 [(0, .ref a_t), (1, .int jx1), (2, .int jx2)] := hl
  unfold fX11_votesOf at hf
  refine lv_iconst (v := 0) hx hb dX11_votesOf_0 (by decide) ?_
  refine lv_istore_n (lv' := [(3, .int (0 : Int32)), (0, .ref a_t), (1, .int jx1), (2, .int jx2)]) hx hb dX11_votesOf_1 rfl hl (by decide) rfl (fun ls hl => ?_)
  refine lv_iconst (v := 0) hx hb dX11_votesOf_2 (by decide) ?_
  refine lv_istore (lv' := [(4, .int (0 : Int32)), (3, .int (0 : Int32)), (0, .ref a_t), (1, .int jx1), (2, .int jx2)]) hx hb dX11_votesOf_3 hl (by decide) rfl (fun ls hl => ?_)
  exact wX11_votesOf_5 S hr hlk hK hP fuel (0 : Int32) (0 : Int32) ls hf (lv_sub hl [2, 3, 4, 1, 0] rfl)
def fX11_data_19 (jx1 : Int32) (jx2 : Int32) (v_t_copies : Int32) (v_t_s : (Nat → Int32)) : Nat → Int32 → Int32 → Option (Int32)
  | 0, _, _ => none
  | n + 1, jx3, jx4 => if jx4 < 0 then some jx3 else bd1 (fX11_has jx1 jx4) (fun jr2 => if jr2 = 0 then (fX11_data_19 jx1 jx2 v_t_copies v_t_s n) jx3 (jx4 + (-1 : Int32)) else ckI 103 ((12 : Int32) + jx4) (if (v_t_s (Int32.toNatClampNeg ((12 : Int32) + jx4))) = jx2 then ckI 103 ((18 : Int32) + jx4) (if (v_t_s (Int32.toNatClampNeg ((18 : Int32) + jx4))) = (-9 : Int32) then (fX11_data_19 jx1 jx2 v_t_copies v_t_s n) jx3 (jx4 + (-1 : Int32)) else ckI 103 ((18 : Int32) + jx4) ((fX11_data_19 jx1 jx2 v_t_copies v_t_s n) (v_t_s (Int32.toNatClampNeg ((18 : Int32) + jx4))) (jx4 + (-1 : Int32)))) else (fX11_data_19 jx1 jx2 v_t_copies v_t_s n) jx3 (jx4 + (-1 : Int32))))
theorem fX11_data_19_s (jx1 : Int32) (jx2 : Int32) (v_t_copies : Int32) (v_t_s : (Nat → Int32)) (n : Nat) (jx3 : Int32) (jx4 : Int32) : fX11_data_19 jx1 jx2 v_t_copies v_t_s (n + 1) jx3 jx4 = if jx4 < 0 then some jx3 else bd1 (fX11_has jx1 jx4) (fun jr2 => if jr2 = 0 then (fX11_data_19 jx1 jx2 v_t_copies v_t_s n) jx3 (jx4 + (-1 : Int32)) else ckI 103 ((12 : Int32) + jx4) (if (v_t_s (Int32.toNatClampNeg ((12 : Int32) + jx4))) = jx2 then ckI 103 ((18 : Int32) + jx4) (if (v_t_s (Int32.toNatClampNeg ((18 : Int32) + jx4))) = (-9 : Int32) then (fX11_data_19 jx1 jx2 v_t_copies v_t_s n) jx3 (jx4 + (-1 : Int32)) else ckI 103 ((18 : Int32) + jx4) ((fX11_data_19 jx1 jx2 v_t_copies v_t_s n) (v_t_s (Int32.toNatClampNeg ((18 : Int32) + jx4))) (jx4 + (-1 : Int32)))) else (fX11_data_19 jx1 jx2 v_t_copies v_t_s n) jx3 (jx4 + (-1 : Int32)))) := rfl
def fX11_data (jx1 : Int32) (v_t_copies : Int32) (v_t_s : (Nat → Int32)) : Option (Int32) := bd1 (fX11_greatest jx1 (12 : Int32) v_t_copies v_t_s) (fun jr1 => fX11_data_19 jx1 jr1 v_t_copies v_t_s fuel (-9 : Int32) (v_t_copies - (1 : Int32)))
abbrev rmX11_data : Room := { frames := 2, cells := 0, slots := 0, locals := 45 }
theorem iX11_data_X11 : ∀ w ∈ wsX110, w ∈ wsX11_data := fun _ h => List.mem_cons_of_mem _ (List.mem_append_right _ h)
theorem mX11_data_2 : (Cond.fieldLink RX11 16 "VoteFilesModel" "s" "[I") ∈ wsX11_data := List.mem_of_getElem? (i := 2) rfl
theorem mX11_data_1 : (Cond.fieldLink RX11 119 "VoteFilesModel" "copies" "I") ∈ wsX11_data := List.mem_of_getElem? (i := 1) rfl
set_option maxHeartbeats 4000000 in
set_option maxRecDepth 100000 in
theorem wX11_data_19 {p : Program} {l : Launch} {e : Env} {s : State} {m : MethodId} {args : Array Value} {below : List Frame} {meth : Method} {c : Code} {D : va_G} {cI cZ : ClassId} (S : CallFix p m c cX11_data 5 s args wsX11_data RX11) (hr : meth.sig.returnType = some .int) (hlk : meth.locks = false) (hK : KX D cI cZ s) {a_t a_t_text a_t_draft a_t_s a_t_undos a_t_kept a_t_isKept a_t_seenWay a_t_seenIs a_t_sums a_t_parts a_t_heaps : Nat} {jx1 : Int32} {jx2 : Int32} {v_t_copies : Int32} {v_t_s : (Nat → Int32)} {v_t_thrown : Int32} {v_t_typed : Int32} {v_t_spot : Int32} {v_t_token : Int32} {v_t_place : Int32} {v_t_value : Int32} {v_t_fault : Int32} {v_t_draftCopies : Int32} {v_t_undoMany : Int32} {v_t_seenMany : Int32} {v_t_asked : Int32} {r : Int32} (hP : va_P D vwCl [(a_t, .inr (11, [.int v_t_thrown, .ref a_t_text, .int v_t_typed, .int v_t_spot, .int v_t_token, .int v_t_place, .int v_t_value, .int v_t_fault, .int v_t_copies, .int v_t_draftCopies, .ref a_t_draft, .ref a_t_s, .ref a_t_undos, .int v_t_undoMany, .ref a_t_kept, .ref a_t_isKept, .ref a_t_seenWay, .ref a_t_seenIs, .int v_t_seenMany, .int v_t_asked, .ref a_t_sums, .ref a_t_parts, .ref a_t_heaps])), (a_t_s, .inl (cI, 103, .inl v_t_s))] s.heap) : ∀ (n : Nat), ∀ (jx3 : Int32) (jx4 : Int32) (ls : Array Slot), fX11_data_19 jx1 jx2 v_t_copies v_t_s n jx3 jx4 = some r → lv_has ls 5 [(0, .ref a_t), (1, .int jx1), (2, .int jx2), (3, .int jx3), (4, .int jx4)] → W p l e rmX11_data s m args below meth c s.heap [] 0 0 (MQ below (QcRead r) args s 0 0 (fun _ => False)) (F0 m 19 ls []) := by
  obtain ⟨hx, hb, hml, hown, hts⟩ := id S
  intro n
  induction n with
  | zero =>
    intro jx3 jx4 ls hf hl
    cases (show (none : Option _) = some _ from hf)
  | succ n ih =>
    intro jx3 jx4 ls hf hl
    have hf := (fX11_data_19_s _ _ _ _ n _ _).symm.trans hf
    refine lv_iload hx hb dX11_data_19 (lv_at hl 4 rfl) ?_
    refine lv_if_lt (tgt := 83) hx hb dX11_data_21 (by decide) (fun jc1 => ?_) (fun jc1 => ?_)
    · have hf := ite_t jc1 hf
      refine lv_iload_n hx hb dX11_data_83 rfl (lv_at hl 3 rfl) ?_
      obtain rfl := Option.some.inj hf
      exact retR hx hb hr hlk dX11_data_84
    · have hf := ite_f jc1 hf
      refine lv_iload_n hx hb dX11_data_24 rfl (lv_at hl 1 rfl) ?_
      refine lv_iload hx hb dX11_data_25 (lv_at hl 4 rfl) ?_
      obtain ⟨jr2, je3, hf⟩ := bd1_inv hf
      refine callRS (As := [.int jx1, .int jx4]) (rest := []) S (ctX11_has l D cI cZ jx1 jx4 jr2 je3) (va_cwS 2 hts gX11_data_X11_has rfl rfl rfl hdX11_has ⟨Nat.le_of_ble_eq_true rfl, Nat.le_of_ble_eq_true rfl⟩) hP [] rfl KX.xs (fun U _ hW => hK.warm hW) rfl hl.1 rfl (Nat.le_of_ble_eq_true rfl) dX11_data_27 ⟨Nat.zero_le _, Nat.zero_le _⟩ ?_
      refine lv_if_eq (tgt := 75) hx hb dX11_data_30 (by decide) (fun jc4 => ?_) (fun jc4 => ?_)
      · have hf := ite_t jc4 hf
        refine lv_iload_n hx hb dX11_data_75 rfl (lv_at hl 3 rfl) ?_
        refine lv_istore_n (lv' := [(3, .int jx3), (0, .ref a_t), (1, .int jx1), (2, .int jx2), (4, .int jx4)]) hx hb dX11_data_76 rfl hl (by decide) rfl (fun ls hl => ?_)
        refine lv_iinc (v := (jx4 + (-1 : Int32))) (lv' := [(4, .int (jx4 + (-1 : Int32))), (3, .int jx3), (0, .ref a_t), (1, .int jx1), (2, .int jx2)]) hx hb dX11_data_77 hl (k := 4) rfl rfl (by decide) rfl (fun ls hl => ?_)
        refine lv_goto (tgt := 19) hx hb dX11_data_80 (by decide) ?_
        exact ih jx3 (jx4 + (-1 : Int32)) ls hf (lv_sub hl [2, 3, 4, 1, 0] rfl)
      · have hf := ite_f jc4 hf
        refine lv_aload_n hx hb dX11_data_33 rfl (lv_at hl 0 rfl) ?_
        refine va_get (D := D) (ci := 11) (v := .ref a_t_s) (C := RX11) (T := TX11) (N := 23) hx hb hts iX11_data_X11 hown hK.1 hP 0 rfl rfl 11 (by decide) (hts _ mX11_data_2) (fun _ h9 => h9) rfl dX11_data_34 ?_
        refine lv_bipush (v := 12) hx hb dX11_data_37 (by decide) ?_
        refine lv_iload hx hb dX11_data_39 (lv_at hl 4 rfl) ?_
        refine lv_iadd hx hb dX11_data_41 ?_
        obtain ⟨jh5, hf⟩ := ckI_inv hf
        refine va_iald hx hb hK.1 hP 1 0 rfl rfl jh5 dX11_data_42 ?_
        refine lv_iload_n hx hb dX11_data_43 rfl (lv_at hl 2 rfl) ?_
        refine lv_icmp_ne (tgt := 75) hx hb dX11_data_44 (by decide) (fun jc6 => ?_) (fun jc6 => ?_)
        · have hf := ite_f jc6 hf
          refine lv_iload_n hx hb dX11_data_75 rfl (lv_at hl 3 rfl) ?_
          refine lv_istore_n (lv' := [(3, .int jx3), (0, .ref a_t), (1, .int jx1), (2, .int jx2), (4, .int jx4)]) hx hb dX11_data_76 rfl hl (by decide) rfl (fun ls hl => ?_)
          refine lv_iinc (v := (jx4 + (-1 : Int32))) (lv' := [(4, .int (jx4 + (-1 : Int32))), (3, .int jx3), (0, .ref a_t), (1, .int jx1), (2, .int jx2)]) hx hb dX11_data_77 hl (k := 4) rfl rfl (by decide) rfl (fun ls hl => ?_)
          refine lv_goto (tgt := 19) hx hb dX11_data_80 (by decide) ?_
          exact ih jx3 (jx4 + (-1 : Int32)) ls hf (lv_sub hl [2, 3, 4, 1, 0] rfl)
        · have hf := ite_t jc6 hf
          refine lv_aload_n hx hb dX11_data_47 rfl (lv_at hl 0 rfl) ?_
          refine va_get (D := D) (ci := 11) (v := .ref a_t_s) (C := RX11) (T := TX11) (N := 23) hx hb hts iX11_data_X11 hown hK.1 hP 0 rfl rfl 11 (by decide) (hts _ mX11_data_2) (fun _ h9 => h9) rfl dX11_data_48 ?_
          refine lv_bipush (v := 18) hx hb dX11_data_51 (by decide) ?_
          refine lv_iload hx hb dX11_data_53 (lv_at hl 4 rfl) ?_
          refine lv_iadd hx hb dX11_data_55 ?_
          obtain ⟨jh7, hf⟩ := ckI_inv hf
          refine va_iald hx hb hK.1 hP 1 0 rfl rfl jh7 dX11_data_56 ?_
          refine lv_bipush (v := -9) hx hb dX11_data_57 (by decide) ?_
          refine lv_icmp_eq (tgt := 75) hx hb dX11_data_59 (by decide) (fun jc8 => ?_) (fun jc8 => ?_)
          · have hf := ite_t jc8 hf
            refine lv_iload_n hx hb dX11_data_75 rfl (lv_at hl 3 rfl) ?_
            refine lv_istore_n (lv' := [(3, .int jx3), (0, .ref a_t), (1, .int jx1), (2, .int jx2), (4, .int jx4)]) hx hb dX11_data_76 rfl hl (by decide) rfl (fun ls hl => ?_)
            refine lv_iinc (v := (jx4 + (-1 : Int32))) (lv' := [(4, .int (jx4 + (-1 : Int32))), (3, .int jx3), (0, .ref a_t), (1, .int jx1), (2, .int jx2)]) hx hb dX11_data_77 hl (k := 4) rfl rfl (by decide) rfl (fun ls hl => ?_)
            refine lv_goto (tgt := 19) hx hb dX11_data_80 (by decide) ?_
            exact ih jx3 (jx4 + (-1 : Int32)) ls hf (lv_sub hl [2, 3, 4, 1, 0] rfl)
          · have hf := ite_f jc8 hf
            refine lv_aload_n hx hb dX11_data_62 rfl (lv_at hl 0 rfl) ?_
            refine va_get (D := D) (ci := 11) (v := .ref a_t_s) (C := RX11) (T := TX11) (N := 23) hx hb hts iX11_data_X11 hown hK.1 hP 0 rfl rfl 11 (by decide) (hts _ mX11_data_2) (fun _ h9 => h9) rfl dX11_data_63 ?_
            refine lv_bipush (v := 18) hx hb dX11_data_66 (by decide) ?_
            refine lv_iload hx hb dX11_data_68 (lv_at hl 4 rfl) ?_
            refine lv_iadd hx hb dX11_data_70 ?_
            obtain ⟨jh9, hf⟩ := ckI_inv hf
            refine va_iald hx hb hK.1 hP 1 0 rfl rfl jh9 dX11_data_71 ?_
            refine lv_goto (tgt := 76) hx hb dX11_data_72 (by decide) ?_
            refine lv_istore_n (lv' := [(3, .int (v_t_s (Int32.toNatClampNeg ((18 : Int32) + jx4)))), (0, .ref a_t), (1, .int jx1), (2, .int jx2), (4, .int jx4)]) hx hb dX11_data_76 rfl hl (by decide) rfl (fun ls hl => ?_)
            refine lv_iinc (v := (jx4 + (-1 : Int32))) (lv' := [(4, .int (jx4 + (-1 : Int32))), (3, .int (v_t_s (Int32.toNatClampNeg ((18 : Int32) + jx4)))), (0, .ref a_t), (1, .int jx1), (2, .int jx2)]) hx hb dX11_data_77 hl (k := 4) rfl rfl (by decide) rfl (fun ls hl => ?_)
            refine lv_goto (tgt := 19) hx hb dX11_data_80 (by decide) ?_
            exact ih (v_t_s (Int32.toNatClampNeg ((18 : Int32) + jx4))) (jx4 + (-1 : Int32)) ls hf (lv_sub hl [2, 3, 4, 1, 0] rfl)
theorem hdX11_data : yX11_data.cls ≠ "java/lang/invoke/MethodHandle" ∧ yX11_data.cls ≠ "java/lang/invoke/VarHandle" ∧ (parseMethodDescriptor yX11_data.desc).map (fun d => d.parameters.length) = some 1 := by decide +kernel
set_option maxHeartbeats 4000000 in
set_option maxRecDepth 100000 in
theorem ctX11_data (l : Launch) (D : va_G) (cI cZ : ClassId) (a_t a_t_text a_t_draft a_t_s a_t_undos a_t_kept a_t_isKept a_t_seenWay a_t_seenIs a_t_sums a_t_parts a_t_heaps : Nat) (jx1 : Int32) (v_t_copies : Int32) (v_t_s : (Nat → Int32)) (v_t_thrown : Int32) (v_t_typed : Int32) (v_t_spot : Int32) (v_t_token : Int32) (v_t_place : Int32) (v_t_value : Int32) (v_t_fault : Int32) (v_t_draftCopies : Int32) (v_t_undoMany : Int32) (v_t_seenMany : Int32) (v_t_asked : Int32) (r : Int32) (hf : fX11_data jx1 v_t_copies v_t_s = some r) : cR l yX11_data wsX11_data rmX11_data [.ref a_t, .int jx1] D [(a_t, .inr (11, [.int v_t_thrown, .ref a_t_text, .int v_t_typed, .int v_t_spot, .int v_t_token, .int v_t_place, .int v_t_value, .int v_t_fault, .int v_t_copies, .int v_t_draftCopies, .ref a_t_draft, .ref a_t_s, .ref a_t_undos, .int v_t_undoMany, .ref a_t_kept, .ref a_t_isKept, .ref a_t_seenWay, .ref a_t_seenIs, .int v_t_seenMany, .int v_t_asked, .ref a_t_sums, .ref a_t_parts, .ref a_t_heaps])), (a_t_s, .inl (cI, 103, .inl v_t_s))] (KX D cI cZ) r := by
  refine cR_of (cc := cX11_data) (maxL := 5) (ret := some .int) (by decide +kernel) rfl _ (Nat.le_of_ble_eq_true rfl) ?_
  intro p e s m below meth c ls S hr hlk hP hK hl
  obtain ⟨hx, hb, hml, hown, hts⟩ := id S
  have hl : lv_has ls 5 [(0, .ref a_t), (1, .int jx1)] := hl
  unfold fX11_data at hf
  refine lv_aload_n hx hb dX11_data_0 rfl (lv_at hl 0 rfl) ?_
  refine lv_iload_n hx hb dX11_data_1 rfl (lv_at hl 1 rfl) ?_
  refine lv_bipush (v := 12) hx hb dX11_data_2 (by decide) ?_
  obtain ⟨jr1, je2, hf⟩ := bd1_inv hf
  refine callRV (As := [.int jx1, .int (12 : Int32)]) (rest := []) S (ctX11_greatest l D cI cZ a_t a_t_text a_t_draft a_t_s a_t_undos a_t_kept a_t_isKept a_t_seenWay a_t_seenIs a_t_sums a_t_parts a_t_heaps jx1 (12 : Int32) v_t_copies v_t_s v_t_thrown v_t_typed v_t_spot v_t_token v_t_place v_t_value v_t_fault v_t_draftCopies v_t_undoMany v_t_seenMany v_t_asked jr1 je2) (cwV 2 hts gX11_data_X11_greatest rfl rfl rfl ⟨rfl, hdX11_greatest⟩ ⟨Nat.le_of_ble_eq_true rfl, Nat.le_of_ble_eq_true rfl⟩) hP [0, 1] rfl KX.xs (fun U _ hW => hK.warm hW) (va_recv hK.1 hP (ci := 11) (q0 := 0) rfl rfl) rfl hl.1 rfl (Nat.le_of_ble_eq_true rfl) dX11_data_4 ⟨Nat.zero_le _, Nat.zero_le _⟩ ?_
  refine lv_istore_n (lv' := [(2, .int jr1), (0, .ref a_t), (1, .int jx1)]) hx hb dX11_data_7 rfl hl (by decide) rfl (fun ls hl => ?_)
  refine lv_bipush (v := -9) hx hb dX11_data_8 (by decide) ?_
  refine lv_istore_n (lv' := [(3, .int (-9 : Int32)), (2, .int jr1), (0, .ref a_t), (1, .int jx1)]) hx hb dX11_data_10 rfl hl (by decide) rfl (fun ls hl => ?_)
  refine lv_aload_n hx hb dX11_data_11 rfl (lv_at hl 2 rfl) ?_
  refine va_get (D := D) (ci := 11) (v := .int v_t_copies) (C := RX11) (T := TX11) (N := 23) hx hb hts iX11_data_X11 hown hK.1 hP 0 rfl rfl 8 (by decide) (hts _ mX11_data_1) (fun _ h9 => h9) rfl dX11_data_12 ?_
  refine lv_iconst (v := 1) hx hb dX11_data_15 (by decide) ?_
  refine lv_isub hx hb dX11_data_16 ?_
  refine lv_istore (lv' := [(4, .int (v_t_copies - (1 : Int32))), (3, .int (-9 : Int32)), (2, .int jr1), (0, .ref a_t), (1, .int jx1)]) hx hb dX11_data_17 hl (by decide) rfl (fun ls hl => ?_)
  exact wX11_data_19 S hr hlk hK hP fuel (-9 : Int32) (v_t_copies - (1 : Int32)) ls hf (lv_sub hl [3, 4, 2, 1, 0] rfl)
def fX11_isEnough (jx1 : Int32) (jx2 : Int32) (v_t_copies : Int32) (v_t_s : (Nat → Int32)) : Option (Int32) := if jx1 = 0 then some (0 : Int32) else bd1 (fX11_greatest jx1 (24 : Int32) v_t_copies v_t_s) (fun jr2 => bd1 (fX11_confAt jr2) (fun jr4 => bd1 (fX11_votesOf jx1 jr4 v_t_copies v_t_s) (fun jr6 => ckI 103 (jr4 + jx2) (if jr6 < (v_t_s (Int32.toNatClampNeg (jr4 + jx2))) then some (0 : Int32) else some (1 : Int32)))))
abbrev rmX11_isEnough : Room := { frames := 2, cells := 0, slots := 0, locals := 45 }
theorem iX11_isEnough_X11 : ∀ w ∈ wsX110, w ∈ wsX11_isEnough := fun _ h => List.mem_cons_of_mem _ (List.mem_append_right _ h)
theorem mX11_isEnough_1 : (Cond.fieldLink RX11 16 "VoteFilesModel" "s" "[I") ∈ wsX11_isEnough := List.mem_of_getElem? (i := 1) rfl
theorem hdX11_isEnough : yX11_isEnough.cls ≠ "java/lang/invoke/MethodHandle" ∧ yX11_isEnough.cls ≠ "java/lang/invoke/VarHandle" ∧ (parseMethodDescriptor yX11_isEnough.desc).map (fun d => d.parameters.length) = some 2 := by decide +kernel
set_option maxHeartbeats 4000000 in
set_option maxRecDepth 100000 in
theorem ctX11_isEnough (l : Launch) (D : va_G) (cI cZ : ClassId) (a_t a_t_text a_t_draft a_t_s a_t_undos a_t_kept a_t_isKept a_t_seenWay a_t_seenIs a_t_sums a_t_parts a_t_heaps : Nat) (jx1 : Int32) (jx2 : Int32) (v_t_copies : Int32) (v_t_s : (Nat → Int32)) (v_t_thrown : Int32) (v_t_typed : Int32) (v_t_spot : Int32) (v_t_token : Int32) (v_t_place : Int32) (v_t_value : Int32) (v_t_fault : Int32) (v_t_draftCopies : Int32) (v_t_undoMany : Int32) (v_t_seenMany : Int32) (v_t_asked : Int32) (r : Int32) (hf : fX11_isEnough jx1 jx2 v_t_copies v_t_s = some r) : cR l yX11_isEnough wsX11_isEnough rmX11_isEnough [.ref a_t, .int jx1, .int jx2] D [(a_t, .inr (11, [.int v_t_thrown, .ref a_t_text, .int v_t_typed, .int v_t_spot, .int v_t_token, .int v_t_place, .int v_t_value, .int v_t_fault, .int v_t_copies, .int v_t_draftCopies, .ref a_t_draft, .ref a_t_s, .ref a_t_undos, .int v_t_undoMany, .ref a_t_kept, .ref a_t_isKept, .ref a_t_seenWay, .ref a_t_seenIs, .int v_t_seenMany, .int v_t_asked, .ref a_t_sums, .ref a_t_parts, .ref a_t_heaps])), (a_t_s, .inl (cI, 103, .inl v_t_s))] (KX D cI cZ) r := by
  refine cR_of (cc := cX11_isEnough) (maxL := 4) (ret := some .boolean) (by decide +kernel) rfl _ (Nat.le_of_ble_eq_true rfl) ?_
  intro p e s m below meth c ls S hr hlk hP hK hl
  obtain ⟨hx, hb, hml, hown, hts⟩ := id S
  have hl : lv_has ls 4 [(0, .ref a_t), (1, .int jx1), (2, .int jx2)] := hl
  unfold fX11_isEnough at hf
  refine lv_iload_n hx hb dX11_isEnough_0 rfl (lv_at hl 1 rfl) ?_
  refine lv_if_ne (tgt := 6) hx hb dX11_isEnough_1 (by decide) (fun jc1 => ?_) (fun jc1 => ?_)
  · have hf := ite_f jc1 hf
    refine lv_aload_n hx hb dX11_isEnough_6 rfl (lv_at hl 0 rfl) ?_
    refine lv_iload_n hx hb dX11_isEnough_7 rfl (lv_at hl 1 rfl) ?_
    refine lv_bipush (v := 24) hx hb dX11_isEnough_8 (by decide) ?_
    obtain ⟨jr2, je3, hf⟩ := bd1_inv hf
    refine callRV (As := [.int jx1, .int (24 : Int32)]) (rest := []) S (ctX11_greatest l D cI cZ a_t a_t_text a_t_draft a_t_s a_t_undos a_t_kept a_t_isKept a_t_seenWay a_t_seenIs a_t_sums a_t_parts a_t_heaps jx1 (24 : Int32) v_t_copies v_t_s v_t_thrown v_t_typed v_t_spot v_t_token v_t_place v_t_value v_t_fault v_t_draftCopies v_t_undoMany v_t_seenMany v_t_asked jr2 je3) (cwV 2 hts gX11_isEnough_X11_greatest rfl rfl rfl ⟨rfl, hdX11_greatest⟩ ⟨Nat.le_of_ble_eq_true rfl, Nat.le_of_ble_eq_true rfl⟩) hP [0, 1] rfl KX.xs (fun U _ hW => hK.warm hW) (va_recv hK.1 hP (ci := 11) (q0 := 0) rfl rfl) rfl hl.1 rfl (Nat.le_of_ble_eq_true rfl) dX11_isEnough_10 ⟨Nat.zero_le _, Nat.zero_le _⟩ ?_
    obtain ⟨jr4, je5, hf⟩ := bd1_inv hf
    refine callRS (As := [.int jr2]) (rest := []) S (ctX11_confAt l D cI cZ jr2 jr4 je5) (va_cwS 1 hts gX11_isEnough_X11_confAt rfl rfl rfl hdX11_confAt ⟨Nat.le_of_ble_eq_true rfl, Nat.le_of_ble_eq_true rfl⟩) hP [] rfl KX.xs (fun U _ hW => hK.warm hW) rfl hl.1 rfl (Nat.le_of_ble_eq_true rfl) dX11_isEnough_13 ⟨Nat.zero_le _, Nat.zero_le _⟩ ?_
    refine lv_istore_n (lv' := [(3, .int jr4), (0, .ref a_t), (1, .int jx1), (2, .int jx2)]) hx hb dX11_isEnough_16 rfl hl (by decide) rfl (fun ls hl => ?_)
    refine lv_aload_n hx hb dX11_isEnough_17 rfl (lv_at hl 1 rfl) ?_
    refine lv_iload_n hx hb dX11_isEnough_18 rfl (lv_at hl 2 rfl) ?_
    refine lv_iload_n hx hb dX11_isEnough_19 rfl (lv_at hl 0 rfl) ?_
    obtain ⟨jr6, je7, hf⟩ := bd1_inv hf
    refine callRV (As := [.int jx1, .int jr4]) (rest := []) S (ctX11_votesOf l D cI cZ a_t a_t_text a_t_draft a_t_s a_t_undos a_t_kept a_t_isKept a_t_seenWay a_t_seenIs a_t_sums a_t_parts a_t_heaps jx1 jr4 v_t_copies v_t_s v_t_thrown v_t_typed v_t_spot v_t_token v_t_place v_t_value v_t_fault v_t_draftCopies v_t_undoMany v_t_seenMany v_t_asked jr6 je7) (cwV 2 hts gX11_isEnough_X11_votesOf rfl rfl rfl ⟨rfl, hdX11_votesOf⟩ ⟨Nat.le_of_ble_eq_true rfl, Nat.le_of_ble_eq_true rfl⟩) hP [0, 1] rfl KX.xs (fun U _ hW => hK.warm hW) (va_recv hK.1 hP (ci := 11) (q0 := 0) rfl rfl) rfl hl.1 rfl (Nat.le_of_ble_eq_true rfl) dX11_isEnough_20 ⟨Nat.zero_le _, Nat.zero_le _⟩ ?_
    refine lv_aload_n hx hb dX11_isEnough_23 rfl (lv_at hl 1 rfl) ?_
    refine va_get (D := D) (ci := 11) (v := .ref a_t_s) (C := RX11) (T := TX11) (N := 23) hx hb hts iX11_isEnough_X11 hown hK.1 hP 0 rfl rfl 11 (by decide) (hts _ mX11_isEnough_1) (fun _ h9 => h9) rfl dX11_isEnough_24 ?_
    refine lv_iload_n hx hb dX11_isEnough_27 rfl (lv_at hl 0 rfl) ?_
    refine lv_iload_n hx hb dX11_isEnough_28 rfl (lv_at hl 3 rfl) ?_
    refine lv_iadd hx hb dX11_isEnough_29 ?_
    obtain ⟨jh8, hf⟩ := ckI_inv hf
    refine va_iald hx hb hK.1 hP 1 0 rfl rfl jh8 dX11_isEnough_30 ?_
    refine lv_icmp_lt (tgt := 38) hx hb dX11_isEnough_31 (by decide) (fun jc9 => ?_) (fun jc9 => ?_)
    · have hf := ite_t jc9 hf
      refine lv_iconst (v := 0) hx hb dX11_isEnough_38 (by decide) ?_
      obtain rfl := Option.some.inj hf
      exact retRz hx hb hr hlk (by decide) dX11_isEnough_39
    · have hf := ite_f jc9 hf
      refine lv_iconst (v := 1) hx hb dX11_isEnough_34 (by decide) ?_
      refine lv_goto (tgt := 39) hx hb dX11_isEnough_35 (by decide) ?_
      obtain rfl := Option.some.inj hf
      exact retRz hx hb hr hlk (by decide) dX11_isEnough_39
  · have hf := ite_t jc1 hf
    refine lv_iconst (v := 0) hx hb dX11_isEnough_4 (by decide) ?_
    obtain rfl := Option.some.inj hf
    exact retRz hx hb hr hlk (by decide) dX11_isEnough_5
def fX11_gives_3 (jx1 : Int32) (jx2 : Int32) (jx3 : Int32) (jx4 : Int32) (v_t_copies : Int32) : Nat → Int32 → (Nat → Int32) → Option ((Nat → Int32))
  | 0, _, _ => none
  | n + 1, jx5, v_t_s => if v_t_copies ≤ jx5 then some v_t_s else bd1 (fX11_has jx1 jx5) (fun jr2 => if jr2 = 0 then (fX11_gives_3 jx1 jx2 jx3 jx4 v_t_copies n) (jx5 + (1 : Int32)) v_t_s else ckI 103 ((24 : Int32) + jx5) (ckI 103 ((12 : Int32) + jx5) (bd1 (fX11_confAt jx2) (fun jr7 => ckI 103 (jr7 + (8 : Int32)) (bd1 (fX11_has ((upd (upd v_t_s (Int32.toNatClampNeg ((24 : Int32) + jx5)) jx2) (Int32.toNatClampNeg ((12 : Int32) + jx5)) jx3) (Int32.toNatClampNeg (jr7 + (8 : Int32)))) jx5) (fun jr10 => if jr10 = 0 then ckI 103 ((18 : Int32) + jx5) ((fX11_gives_3 jx1 jx2 jx3 jx4 v_t_copies n) (jx5 + (1 : Int32)) (upd (upd (upd v_t_s (Int32.toNatClampNeg ((24 : Int32) + jx5)) jx2) (Int32.toNatClampNeg ((12 : Int32) + jx5)) jx3) (Int32.toNatClampNeg ((18 : Int32) + jx5)) jx4)) else ckI 103 ((18 : Int32) + jx5) ((fX11_gives_3 jx1 jx2 jx3 jx4 v_t_copies n) (jx5 + (1 : Int32)) (upd (upd (upd v_t_s (Int32.toNatClampNeg ((24 : Int32) + jx5)) jx2) (Int32.toNatClampNeg ((12 : Int32) + jx5)) jx3) (Int32.toNatClampNeg ((18 : Int32) + jx5)) (-9 : Int32)))))))))
theorem fX11_gives_3_s (jx1 : Int32) (jx2 : Int32) (jx3 : Int32) (jx4 : Int32) (v_t_copies : Int32) (n : Nat) (jx5 : Int32) (v_t_s : (Nat → Int32)) : fX11_gives_3 jx1 jx2 jx3 jx4 v_t_copies (n + 1) jx5 v_t_s = if v_t_copies ≤ jx5 then some v_t_s else bd1 (fX11_has jx1 jx5) (fun jr2 => if jr2 = 0 then (fX11_gives_3 jx1 jx2 jx3 jx4 v_t_copies n) (jx5 + (1 : Int32)) v_t_s else ckI 103 ((24 : Int32) + jx5) (ckI 103 ((12 : Int32) + jx5) (bd1 (fX11_confAt jx2) (fun jr7 => ckI 103 (jr7 + (8 : Int32)) (bd1 (fX11_has ((upd (upd v_t_s (Int32.toNatClampNeg ((24 : Int32) + jx5)) jx2) (Int32.toNatClampNeg ((12 : Int32) + jx5)) jx3) (Int32.toNatClampNeg (jr7 + (8 : Int32)))) jx5) (fun jr10 => if jr10 = 0 then ckI 103 ((18 : Int32) + jx5) ((fX11_gives_3 jx1 jx2 jx3 jx4 v_t_copies n) (jx5 + (1 : Int32)) (upd (upd (upd v_t_s (Int32.toNatClampNeg ((24 : Int32) + jx5)) jx2) (Int32.toNatClampNeg ((12 : Int32) + jx5)) jx3) (Int32.toNatClampNeg ((18 : Int32) + jx5)) jx4)) else ckI 103 ((18 : Int32) + jx5) ((fX11_gives_3 jx1 jx2 jx3 jx4 v_t_copies n) (jx5 + (1 : Int32)) (upd (upd (upd v_t_s (Int32.toNatClampNeg ((24 : Int32) + jx5)) jx2) (Int32.toNatClampNeg ((12 : Int32) + jx5)) jx3) (Int32.toNatClampNeg ((18 : Int32) + jx5)) (-9 : Int32))))))))) := rfl
def fX11_gives (jx1 : Int32) (jx2 : Int32) (jx3 : Int32) (jx4 : Int32) (v_t_copies : Int32) (v_t_s : (Nat → Int32)) : Option ((Nat → Int32)) := fX11_gives_3 jx1 jx2 jx3 jx4 v_t_copies fuel (0 : Int32) v_t_s
abbrev rmX11_gives : Room := { frames := 1, cells := 0, slots := 0, locals := 21 }
theorem iX11_gives_X11 : ∀ w ∈ wsX110, w ∈ wsX11_gives := fun _ h => List.mem_cons_of_mem _ (List.mem_append_right _ h)
theorem mX11_gives_1 : (Cond.fieldLink RX11 119 "VoteFilesModel" "copies" "I") ∈ wsX11_gives := List.mem_of_getElem? (i := 1) rfl
theorem mX11_gives_2 : (Cond.fieldLink RX11 16 "VoteFilesModel" "s" "[I") ∈ wsX11_gives := List.mem_of_getElem? (i := 2) rfl
set_option maxHeartbeats 4000000 in
set_option maxRecDepth 100000 in
theorem wX11_gives_3 {p : Program} {l : Launch} {e : Env} {s : State} {m : MethodId} {args : Array Value} {below : List Frame} {meth : Method} {c : Code} {D : va_G} {cI cZ : ClassId} (S : CallFix p m c cX11_gives 6 s args wsX11_gives RX11) (hr : meth.sig.returnType = none) (hlk : meth.locks = false) (hK : KX D cI cZ s) {a_t a_t_text a_t_draft a_t_s a_t_undos a_t_kept a_t_isKept a_t_seenWay a_t_seenIs a_t_sums a_t_parts a_t_heaps : Nat} {jx1 : Int32} {jx2 : Int32} {jx3 : Int32} {jx4 : Int32} {v_t_copies : Int32} {v_t_thrown : Int32} {v_t_typed : Int32} {v_t_spot : Int32} {v_t_token : Int32} {v_t_place : Int32} {v_t_value : Int32} {v_t_fault : Int32} {v_t_draftCopies : Int32} {v_t_undoMany : Int32} {v_t_seenMany : Int32} {v_t_asked : Int32} {o_t_s : (Nat → Int32)} {A : Nat → Prop} (hA : ∀ q : Nat, s.heap.size ≤ q → A q) : ∀ (n : Nat), ∀ (jx5 : Int32) (v_t_s : (Nat → Int32)) (ls : Array Slot) (H : Heap) (locs : List Loc), fX11_gives_3 jx1 jx2 jx3 jx4 v_t_copies n jx5 v_t_s = some o_t_s → lv_has ls 6 [(0, .ref a_t), (1, .int jx1), (2, .int jx2), (3, .int jx3), (4, .int jx4), (5, .int jx5)] → va_P D vwCl [(a_t, .inr (11, [.int v_t_thrown, .ref a_t_text, .int v_t_typed, .int v_t_spot, .int v_t_token, .int v_t_place, .int v_t_value, .int v_t_fault, .int v_t_copies, .int v_t_draftCopies, .ref a_t_draft, .ref a_t_s, .ref a_t_undos, .int v_t_undoMany, .ref a_t_kept, .ref a_t_isKept, .ref a_t_seenWay, .ref a_t_seenIs, .int v_t_seenMany, .int v_t_asked, .ref a_t_sums, .ref a_t_parts, .ref a_t_heaps])), (a_t_s, .inl (cI, 103, .inl v_t_s))] H → va_D A [(a_t, .inr (11, [.int v_t_thrown, .ref a_t_text, .int v_t_typed, .int v_t_spot, .int v_t_token, .int v_t_place, .int v_t_value, .int v_t_fault, .int v_t_copies, .int v_t_draftCopies, .ref a_t_draft, .ref a_t_s, .ref a_t_undos, .int v_t_undoMany, .ref a_t_kept, .ref a_t_isKept, .ref a_t_seenWay, .ref a_t_seenIs, .int v_t_seenMany, .int v_t_asked, .ref a_t_sums, .ref a_t_parts, .ref a_t_heaps])), (a_t_s, .inl (cI, 103, .inl v_t_s))] → va_S A s.heap H locs → W p l e rmX11_gives s m args below meth c H locs 0 0 (MQ below (qM D none [(a_t, .inr (11, [.int v_t_thrown, .ref a_t_text, .int v_t_typed, .int v_t_spot, .int v_t_token, .int v_t_place, .int v_t_value, .int v_t_fault, .int v_t_copies, .int v_t_draftCopies, .ref a_t_draft, .ref a_t_s, .ref a_t_undos, .int v_t_undoMany, .ref a_t_kept, .ref a_t_isKept, .ref a_t_seenWay, .ref a_t_seenIs, .int v_t_seenMany, .int v_t_asked, .ref a_t_sums, .ref a_t_parts, .ref a_t_heaps])), (a_t_s, .inl (cI, 103, .inl o_t_s))] A) args s 0 0 A) (F0 m 3 ls []) := by
  obtain ⟨hx, hb, hml, hown, hts⟩ := id S
  intro n
  induction n with
  | zero =>
    intro jx5 v_t_s ls H locs hf hl hP hD hS
    cases (show (none : Option _) = some _ from hf)
  | succ n ih =>
    intro jx5 v_t_s ls H locs hf hl hP hD hS
    have hf := (fX11_gives_3_s _ _ _ _ _ n _ _).symm.trans hf
    refine lv_iload hx hb dX11_gives_3 (lv_at hl 5 rfl) ?_
    refine lv_aload_n hx hb dX11_gives_5 rfl (lv_at hl 0 rfl) ?_
    refine va_get (D := D) (ci := 11) (v := .int v_t_copies) (C := RX11) (T := TX11) (N := 23) hx hb hts iX11_gives_X11 hown hK.1 hP 0 rfl rfl 8 (by decide) (hts _ mX11_gives_1) (fun _ h9 => h9) rfl dX11_gives_6 ?_
    refine lv_icmp_ge (tgt := 86) hx hb dX11_gives_9 (by decide) (fun jc1 => ?_) (fun jc1 => ?_)
    · have hf := ite_t jc1 hf
      obtain rfl := Option.some.inj hf
      exact retMv hx hb hr hlk hP hD hS dX11_gives_86
    · have hf := ite_f jc1 hf
      refine lv_iload_n hx hb dX11_gives_12 rfl (lv_at hl 1 rfl) ?_
      refine lv_iload hx hb dX11_gives_13 (lv_at hl 5 rfl) ?_
      obtain ⟨jr2, je3, hf⟩ := bd1_inv hf
      refine callRS (As := [.int jx1, .int jx5]) (rest := []) S (ctX11_has l D cI cZ jx1 jx5 jr2 je3) (va_cwS 2 hts gX11_gives_X11_has rfl rfl rfl hdX11_has ⟨Nat.le_of_ble_eq_true rfl, Nat.le_of_ble_eq_true rfl⟩) hP [] rfl KX.xs (fun U _ hW => hK.warm hW) rfl hl.1 rfl (Nat.le_of_ble_eq_true rfl) dX11_gives_15 ⟨Nat.zero_le _, Nat.zero_le _⟩ ?_
      refine lv_if_eq (tgt := 80) hx hb dX11_gives_18 (by decide) (fun jc4 => ?_) (fun jc4 => ?_)
      · have hf := ite_t jc4 hf
        refine lv_iinc (v := (jx5 + (1 : Int32))) (lv' := [(5, .int (jx5 + (1 : Int32))), (0, .ref a_t), (1, .int jx1), (2, .int jx2), (3, .int jx3), (4, .int jx4)]) hx hb dX11_gives_80 hl (k := 5) rfl rfl (by decide) rfl (fun ls hl => ?_)
        refine lv_goto (tgt := 3) hx hb dX11_gives_83 (by decide) ?_
        exact ih (jx5 + (1 : Int32)) v_t_s ls _ _ hf (lv_sub hl [1, 2, 3, 4, 5, 0] rfl) hP hD hS
      · have hf := ite_f jc4 hf
        refine lv_aload_n hx hb dX11_gives_21 rfl (lv_at hl 0 rfl) ?_
        refine va_get (D := D) (ci := 11) (v := .ref a_t_s) (C := RX11) (T := TX11) (N := 23) hx hb hts iX11_gives_X11 hown hK.1 hP 0 rfl rfl 11 (by decide) (hts _ mX11_gives_2) (fun _ h9 => h9) rfl dX11_gives_22 ?_
        refine lv_bipush (v := 24) hx hb dX11_gives_25 (by decide) ?_
        refine lv_iload hx hb dX11_gives_27 (lv_at hl 5 rfl) ?_
        refine lv_iadd hx hb dX11_gives_29 ?_
        refine lv_iload_n hx hb dX11_gives_30 rfl (lv_at hl 2 rfl) ?_
        obtain ⟨jh5, hf⟩ := ckI_inv hf
        refine va_iast hx hb hK.1 hP hD hS 1 0 rfl rfl jh5 dX11_gives_31 (fun H locs hP hD hS => ?_)
        have hP : va_P D vwCl [(a_t, .inr (11, [.int v_t_thrown, .ref a_t_text, .int v_t_typed, .int v_t_spot, .int v_t_token, .int v_t_place, .int v_t_value, .int v_t_fault, .int v_t_copies, .int v_t_draftCopies, .ref a_t_draft, .ref a_t_s, .ref a_t_undos, .int v_t_undoMany, .ref a_t_kept, .ref a_t_isKept, .ref a_t_seenWay, .ref a_t_seenIs, .int v_t_seenMany, .int v_t_asked, .ref a_t_sums, .ref a_t_parts, .ref a_t_heaps])), (a_t_s, .inl (cI, 103, .inl (upd v_t_s (Int32.toNatClampNeg ((24 : Int32) + jx5)) jx2)))] H := hP
        have hD : va_D A [(a_t, .inr (11, [.int v_t_thrown, .ref a_t_text, .int v_t_typed, .int v_t_spot, .int v_t_token, .int v_t_place, .int v_t_value, .int v_t_fault, .int v_t_copies, .int v_t_draftCopies, .ref a_t_draft, .ref a_t_s, .ref a_t_undos, .int v_t_undoMany, .ref a_t_kept, .ref a_t_isKept, .ref a_t_seenWay, .ref a_t_seenIs, .int v_t_seenMany, .int v_t_asked, .ref a_t_sums, .ref a_t_parts, .ref a_t_heaps])), (a_t_s, .inl (cI, 103, .inl (upd v_t_s (Int32.toNatClampNeg ((24 : Int32) + jx5)) jx2)))] := hD
        refine lv_aload_n hx hb dX11_gives_32 rfl (lv_at hl 0 rfl) ?_
        refine va_get (D := D) (ci := 11) (v := .ref a_t_s) (C := RX11) (T := TX11) (N := 23) hx hb hts iX11_gives_X11 hown hK.1 hP 0 rfl rfl 11 (by decide) (hts _ mX11_gives_2) (fun _ h9 => h9) rfl dX11_gives_33 ?_
        refine lv_bipush (v := 12) hx hb dX11_gives_36 (by decide) ?_
        refine lv_iload hx hb dX11_gives_38 (lv_at hl 5 rfl) ?_
        refine lv_iadd hx hb dX11_gives_40 ?_
        refine lv_iload_n hx hb dX11_gives_41 rfl (lv_at hl 3 rfl) ?_
        obtain ⟨jh6, hf⟩ := ckI_inv hf
        refine va_iast hx hb hK.1 hP hD hS 1 0 rfl rfl jh6 dX11_gives_42 (fun H locs hP hD hS => ?_)
        have hP : va_P D vwCl [(a_t, .inr (11, [.int v_t_thrown, .ref a_t_text, .int v_t_typed, .int v_t_spot, .int v_t_token, .int v_t_place, .int v_t_value, .int v_t_fault, .int v_t_copies, .int v_t_draftCopies, .ref a_t_draft, .ref a_t_s, .ref a_t_undos, .int v_t_undoMany, .ref a_t_kept, .ref a_t_isKept, .ref a_t_seenWay, .ref a_t_seenIs, .int v_t_seenMany, .int v_t_asked, .ref a_t_sums, .ref a_t_parts, .ref a_t_heaps])), (a_t_s, .inl (cI, 103, .inl (upd (upd v_t_s (Int32.toNatClampNeg ((24 : Int32) + jx5)) jx2) (Int32.toNatClampNeg ((12 : Int32) + jx5)) jx3)))] H := hP
        have hD : va_D A [(a_t, .inr (11, [.int v_t_thrown, .ref a_t_text, .int v_t_typed, .int v_t_spot, .int v_t_token, .int v_t_place, .int v_t_value, .int v_t_fault, .int v_t_copies, .int v_t_draftCopies, .ref a_t_draft, .ref a_t_s, .ref a_t_undos, .int v_t_undoMany, .ref a_t_kept, .ref a_t_isKept, .ref a_t_seenWay, .ref a_t_seenIs, .int v_t_seenMany, .int v_t_asked, .ref a_t_sums, .ref a_t_parts, .ref a_t_heaps])), (a_t_s, .inl (cI, 103, .inl (upd (upd v_t_s (Int32.toNatClampNeg ((24 : Int32) + jx5)) jx2) (Int32.toNatClampNeg ((12 : Int32) + jx5)) jx3)))] := hD
        refine lv_aload_n hx hb dX11_gives_43 rfl (lv_at hl 0 rfl) ?_
        refine va_get (D := D) (ci := 11) (v := .ref a_t_s) (C := RX11) (T := TX11) (N := 23) hx hb hts iX11_gives_X11 hown hK.1 hP 0 rfl rfl 11 (by decide) (hts _ mX11_gives_2) (fun _ h9 => h9) rfl dX11_gives_44 ?_
        refine lv_bipush (v := 18) hx hb dX11_gives_47 (by decide) ?_
        refine lv_iload hx hb dX11_gives_49 (lv_at hl 5 rfl) ?_
        refine lv_iadd hx hb dX11_gives_51 ?_
        refine lv_aload_n hx hb dX11_gives_52 rfl (lv_at hl 0 rfl) ?_
        refine va_get (D := D) (ci := 11) (v := .ref a_t_s) (C := RX11) (T := TX11) (N := 23) hx hb hts iX11_gives_X11 hown hK.1 hP 0 rfl rfl 11 (by decide) (hts _ mX11_gives_2) (fun _ h9 => h9) rfl dX11_gives_53 ?_
        refine lv_iload_n hx hb dX11_gives_56 rfl (lv_at hl 2 rfl) ?_
        obtain ⟨jr7, je8, hf⟩ := bd1_inv hf
        refine callRS (As := [.int jx2]) (rest := [.ref a_t_s, .int ((18 : Int32) + jx5), .ref a_t_s]) S (ctX11_confAt l D cI cZ jx2 jr7 je8) (va_cwS 1 hts gX11_gives_X11_confAt rfl rfl rfl hdX11_confAt ⟨Nat.le_of_ble_eq_true rfl, Nat.le_of_ble_eq_true rfl⟩) hP [] rfl KX.xs (fun U _ hW => hK.warm hW) rfl hl.1 rfl (Nat.le_of_ble_eq_true rfl) dX11_gives_57 ⟨Nat.zero_le _, Nat.zero_le _⟩ ?_
        refine lv_bipush (v := 8) hx hb dX11_gives_60 (by decide) ?_
        refine lv_iadd hx hb dX11_gives_62 ?_
        obtain ⟨jh9, hf⟩ := ckI_inv hf
        refine va_iald hx hb hK.1 hP 1 0 rfl rfl jh9 dX11_gives_63 ?_
        refine lv_iload hx hb dX11_gives_64 (lv_at hl 5 rfl) ?_
        obtain ⟨jr10, je11, hf⟩ := bd1_inv hf
        refine callRS (As := [.int ((upd (upd v_t_s (Int32.toNatClampNeg ((24 : Int32) + jx5)) jx2) (Int32.toNatClampNeg ((12 : Int32) + jx5)) jx3) (Int32.toNatClampNeg (jr7 + (8 : Int32)))), .int jx5]) (rest := [.int ((18 : Int32) + jx5), .ref a_t_s]) S (ctX11_has l D cI cZ ((upd (upd v_t_s (Int32.toNatClampNeg ((24 : Int32) + jx5)) jx2) (Int32.toNatClampNeg ((12 : Int32) + jx5)) jx3) (Int32.toNatClampNeg (jr7 + (8 : Int32)))) jx5 jr10 je11) (va_cwS 2 hts gX11_gives_X11_has rfl rfl rfl hdX11_has ⟨Nat.le_of_ble_eq_true rfl, Nat.le_of_ble_eq_true rfl⟩) hP [] rfl KX.xs (fun U _ hW => hK.warm hW) rfl hl.1 rfl (Nat.le_of_ble_eq_true rfl) dX11_gives_66 ⟨Nat.zero_le _, Nat.zero_le _⟩ ?_
        refine lv_if_eq (tgt := 77) hx hb dX11_gives_69 (by decide) (fun jc12 => ?_) (fun jc12 => ?_)
        · have hf := ite_t jc12 hf
          refine lv_iload hx hb dX11_gives_77 (lv_at hl 4 rfl) ?_
          obtain ⟨jh13, hf⟩ := ckI_inv hf
          refine va_iast hx hb hK.1 hP hD hS 1 0 rfl rfl jh13 dX11_gives_79 (fun H locs hP hD hS => ?_)
          have hP : va_P D vwCl [(a_t, .inr (11, [.int v_t_thrown, .ref a_t_text, .int v_t_typed, .int v_t_spot, .int v_t_token, .int v_t_place, .int v_t_value, .int v_t_fault, .int v_t_copies, .int v_t_draftCopies, .ref a_t_draft, .ref a_t_s, .ref a_t_undos, .int v_t_undoMany, .ref a_t_kept, .ref a_t_isKept, .ref a_t_seenWay, .ref a_t_seenIs, .int v_t_seenMany, .int v_t_asked, .ref a_t_sums, .ref a_t_parts, .ref a_t_heaps])), (a_t_s, .inl (cI, 103, .inl (upd (upd (upd v_t_s (Int32.toNatClampNeg ((24 : Int32) + jx5)) jx2) (Int32.toNatClampNeg ((12 : Int32) + jx5)) jx3) (Int32.toNatClampNeg ((18 : Int32) + jx5)) jx4)))] H := hP
          have hD : va_D A [(a_t, .inr (11, [.int v_t_thrown, .ref a_t_text, .int v_t_typed, .int v_t_spot, .int v_t_token, .int v_t_place, .int v_t_value, .int v_t_fault, .int v_t_copies, .int v_t_draftCopies, .ref a_t_draft, .ref a_t_s, .ref a_t_undos, .int v_t_undoMany, .ref a_t_kept, .ref a_t_isKept, .ref a_t_seenWay, .ref a_t_seenIs, .int v_t_seenMany, .int v_t_asked, .ref a_t_sums, .ref a_t_parts, .ref a_t_heaps])), (a_t_s, .inl (cI, 103, .inl (upd (upd (upd v_t_s (Int32.toNatClampNeg ((24 : Int32) + jx5)) jx2) (Int32.toNatClampNeg ((12 : Int32) + jx5)) jx3) (Int32.toNatClampNeg ((18 : Int32) + jx5)) jx4)))] := hD
          refine lv_iinc (v := (jx5 + (1 : Int32))) (lv' := [(5, .int (jx5 + (1 : Int32))), (0, .ref a_t), (1, .int jx1), (2, .int jx2), (3, .int jx3), (4, .int jx4)]) hx hb dX11_gives_80 hl (k := 5) rfl rfl (by decide) rfl (fun ls hl => ?_)
          refine lv_goto (tgt := 3) hx hb dX11_gives_83 (by decide) ?_
          exact ih (jx5 + (1 : Int32)) (upd (upd (upd v_t_s (Int32.toNatClampNeg ((24 : Int32) + jx5)) jx2) (Int32.toNatClampNeg ((12 : Int32) + jx5)) jx3) (Int32.toNatClampNeg ((18 : Int32) + jx5)) jx4) ls _ _ hf (lv_sub hl [1, 2, 3, 4, 5, 0] rfl) hP hD hS
        · have hf := ite_f jc12 hf
          refine lv_bipush (v := -9) hx hb dX11_gives_72 (by decide) ?_
          refine lv_goto (tgt := 79) hx hb dX11_gives_74 (by decide) ?_
          obtain ⟨jh14, hf⟩ := ckI_inv hf
          refine va_iast hx hb hK.1 hP hD hS 1 0 rfl rfl jh14 dX11_gives_79 (fun H locs hP hD hS => ?_)
          have hP : va_P D vwCl [(a_t, .inr (11, [.int v_t_thrown, .ref a_t_text, .int v_t_typed, .int v_t_spot, .int v_t_token, .int v_t_place, .int v_t_value, .int v_t_fault, .int v_t_copies, .int v_t_draftCopies, .ref a_t_draft, .ref a_t_s, .ref a_t_undos, .int v_t_undoMany, .ref a_t_kept, .ref a_t_isKept, .ref a_t_seenWay, .ref a_t_seenIs, .int v_t_seenMany, .int v_t_asked, .ref a_t_sums, .ref a_t_parts, .ref a_t_heaps])), (a_t_s, .inl (cI, 103, .inl (upd (upd (upd v_t_s (Int32.toNatClampNeg ((24 : Int32) + jx5)) jx2) (Int32.toNatClampNeg ((12 : Int32) + jx5)) jx3) (Int32.toNatClampNeg ((18 : Int32) + jx5)) (-9 : Int32))))] H := hP
          have hD : va_D A [(a_t, .inr (11, [.int v_t_thrown, .ref a_t_text, .int v_t_typed, .int v_t_spot, .int v_t_token, .int v_t_place, .int v_t_value, .int v_t_fault, .int v_t_copies, .int v_t_draftCopies, .ref a_t_draft, .ref a_t_s, .ref a_t_undos, .int v_t_undoMany, .ref a_t_kept, .ref a_t_isKept, .ref a_t_seenWay, .ref a_t_seenIs, .int v_t_seenMany, .int v_t_asked, .ref a_t_sums, .ref a_t_parts, .ref a_t_heaps])), (a_t_s, .inl (cI, 103, .inl (upd (upd (upd v_t_s (Int32.toNatClampNeg ((24 : Int32) + jx5)) jx2) (Int32.toNatClampNeg ((12 : Int32) + jx5)) jx3) (Int32.toNatClampNeg ((18 : Int32) + jx5)) (-9 : Int32))))] := hD
          refine lv_iinc (v := (jx5 + (1 : Int32))) (lv' := [(5, .int (jx5 + (1 : Int32))), (0, .ref a_t), (1, .int jx1), (2, .int jx2), (3, .int jx3), (4, .int jx4)]) hx hb dX11_gives_80 hl (k := 5) rfl rfl (by decide) rfl (fun ls hl => ?_)
          refine lv_goto (tgt := 3) hx hb dX11_gives_83 (by decide) ?_
          exact ih (jx5 + (1 : Int32)) (upd (upd (upd v_t_s (Int32.toNatClampNeg ((24 : Int32) + jx5)) jx2) (Int32.toNatClampNeg ((12 : Int32) + jx5)) jx3) (Int32.toNatClampNeg ((18 : Int32) + jx5)) (-9 : Int32)) ls _ _ hf (lv_sub hl [1, 2, 3, 4, 5, 0] rfl) hP hD hS
theorem hdX11_gives : yX11_gives.cls ≠ "java/lang/invoke/MethodHandle" ∧ yX11_gives.cls ≠ "java/lang/invoke/VarHandle" ∧ (parseMethodDescriptor yX11_gives.desc).map (fun d => d.parameters.length) = some 4 := by decide +kernel
set_option maxHeartbeats 4000000 in
set_option maxRecDepth 100000 in
theorem ctX11_gives (l : Launch) (D : va_G) (cI cZ : ClassId) (a_t a_t_text a_t_draft a_t_s a_t_undos a_t_kept a_t_isKept a_t_seenWay a_t_seenIs a_t_sums a_t_parts a_t_heaps : Nat) (jx1 : Int32) (jx2 : Int32) (jx3 : Int32) (jx4 : Int32) (v_t_copies : Int32) (v_t_s : (Nat → Int32)) (v_t_thrown : Int32) (v_t_typed : Int32) (v_t_spot : Int32) (v_t_token : Int32) (v_t_place : Int32) (v_t_value : Int32) (v_t_fault : Int32) (v_t_draftCopies : Int32) (v_t_undoMany : Int32) (v_t_seenMany : Int32) (v_t_asked : Int32) (o_t_s : (Nat → Int32)) (hf : fX11_gives jx1 jx2 jx3 jx4 v_t_copies v_t_s = some o_t_s) : cM l yX11_gives wsX11_gives rmX11_gives [.ref a_t, .int jx1, .int jx2, .int jx3, .int jx4] D [(a_t, .inr (11, [.int v_t_thrown, .ref a_t_text, .int v_t_typed, .int v_t_spot, .int v_t_token, .int v_t_place, .int v_t_value, .int v_t_fault, .int v_t_copies, .int v_t_draftCopies, .ref a_t_draft, .ref a_t_s, .ref a_t_undos, .int v_t_undoMany, .ref a_t_kept, .ref a_t_isKept, .ref a_t_seenWay, .ref a_t_seenIs, .int v_t_seenMany, .int v_t_asked, .ref a_t_sums, .ref a_t_parts, .ref a_t_heaps])), (a_t_s, .inl (cI, 103, .inl v_t_s))] [(a_t, .inr (11, [.int v_t_thrown, .ref a_t_text, .int v_t_typed, .int v_t_spot, .int v_t_token, .int v_t_place, .int v_t_value, .int v_t_fault, .int v_t_copies, .int v_t_draftCopies, .ref a_t_draft, .ref a_t_s, .ref a_t_undos, .int v_t_undoMany, .ref a_t_kept, .ref a_t_isKept, .ref a_t_seenWay, .ref a_t_seenIs, .int v_t_seenMany, .int v_t_asked, .ref a_t_sums, .ref a_t_parts, .ref a_t_heaps])), (a_t_s, .inl (cI, 103, .inl o_t_s))] (KX D cI cZ) none := by
  refine cM_of (cc := cX11_gives) (maxL := 6) (ret := none) (by decide +kernel) rfl _ (Nat.le_of_ble_eq_true rfl) ?_
  intro p e s m below meth c ls A S hr hlk hP hK hl hD hA hS
  obtain ⟨hx, hb, hml, hown, hts⟩ := id S
  have hl : lv_has ls 6 [(0, .ref a_t), (1, .int jx1), (2, .int jx2), (3, .int jx3), (4, .int jx4)] := hl
  unfold fX11_gives at hf
  refine lv_iconst (v := 0) hx hb dX11_gives_0 (by decide) ?_
  refine lv_istore (lv' := [(5, .int (0 : Int32)), (0, .ref a_t), (1, .int jx1), (2, .int jx2), (3, .int jx3), (4, .int jx4)]) hx hb dX11_gives_1 hl (by decide) rfl (fun ls hl => ?_)
  exact wX11_gives_3 S hr hlk hK hA fuel (0 : Int32) v_t_s ls _ _ hf (lv_sub hl [1, 2, 3, 4, 5, 0] rfl) hP hD hS
def fX11_notes_47 (v_t_s : (Nat → Int32)) : Nat → Int32 → Int32 → (Nat → Int32) → Option (Int32 × (Nat → Int32))
  | 0, _, _, _ => none
  | n + 1, jx1, v_t_undoMany, v_t_undos => if (103 : Int32) ≤ jx1 then some ((v_t_undoMany + (1 : Int32)), v_t_undos) else ckI 103 jx1 (ckI 1030 (((103 : Int32) * v_t_undoMany) + jx1) ((fX11_notes_47 v_t_s n) (jx1 + (1 : Int32)) v_t_undoMany (upd v_t_undos (Int32.toNatClampNeg (((103 : Int32) * v_t_undoMany) + jx1)) (v_t_s (Int32.toNatClampNeg jx1)))))
theorem fX11_notes_47_s (v_t_s : (Nat → Int32)) (n : Nat) (jx1 : Int32) (v_t_undoMany : Int32) (v_t_undos : (Nat → Int32)) : fX11_notes_47 v_t_s (n + 1) jx1 v_t_undoMany v_t_undos = if (103 : Int32) ≤ jx1 then some ((v_t_undoMany + (1 : Int32)), v_t_undos) else ckI 103 jx1 (ckI 1030 (((103 : Int32) * v_t_undoMany) + jx1) ((fX11_notes_47 v_t_s n) (jx1 + (1 : Int32)) v_t_undoMany (upd v_t_undos (Int32.toNatClampNeg (((103 : Int32) * v_t_undoMany) + jx1)) (v_t_s (Int32.toNatClampNeg jx1))))) := rfl
def fX11_notes_11 (v_t_s : (Nat → Int32)) : Nat → Int32 → Int32 → (Nat → Int32) → Option (Int32 × (Nat → Int32))
  | 0, _, _, _ => none
  | n + 1, jx1, v_t_undoMany, v_t_undos => if (927 : Int32) ≤ jx1 then fX11_notes_47 v_t_s fuel (0 : Int32) (9 : Int32) v_t_undos else ckI 1030 (jx1 + (103 : Int32)) (ckI 1030 jx1 ((fX11_notes_11 v_t_s n) (jx1 + (1 : Int32)) v_t_undoMany (upd v_t_undos (Int32.toNatClampNeg jx1) (v_t_undos (Int32.toNatClampNeg (jx1 + (103 : Int32)))))))
theorem fX11_notes_11_s (v_t_s : (Nat → Int32)) (n : Nat) (jx1 : Int32) (v_t_undoMany : Int32) (v_t_undos : (Nat → Int32)) : fX11_notes_11 v_t_s (n + 1) jx1 v_t_undoMany v_t_undos = if (927 : Int32) ≤ jx1 then fX11_notes_47 v_t_s fuel (0 : Int32) (9 : Int32) v_t_undos else ckI 1030 (jx1 + (103 : Int32)) (ckI 1030 jx1 ((fX11_notes_11 v_t_s n) (jx1 + (1 : Int32)) v_t_undoMany (upd v_t_undos (Int32.toNatClampNeg jx1) (v_t_undos (Int32.toNatClampNeg (jx1 + (103 : Int32))))))) := rfl
def fX11_notes (v_t_undoMany : Int32) (v_t_s : (Nat → Int32)) (v_t_undos : (Nat → Int32)) : Option (Int32 × (Nat → Int32)) := if v_t_undoMany = (10 : Int32) then fX11_notes_11 v_t_s fuel (0 : Int32) v_t_undoMany v_t_undos else fX11_notes_47 v_t_s fuel (0 : Int32) v_t_undoMany v_t_undos
abbrev rmX11_notes : Room := { frames := 0, cells := 0, slots := 0, locals := 0 }
theorem iX11_notes_X11 : ∀ w ∈ wsX110, w ∈ wsX11_notes := fun _ h => List.mem_cons_of_mem _ (List.mem_append_right _ h)
theorem mX11_notes_1 : (Cond.fieldLink RX11 125 "VoteFilesModel" "undoMany" "I") ∈ wsX11_notes := List.mem_of_getElem? (i := 1) rfl
theorem mX11_notes_2 : (Cond.fieldLink RX11 19 "VoteFilesModel" "undos" "[I") ∈ wsX11_notes := List.mem_of_getElem? (i := 2) rfl
theorem mX11_notes_3 : (Cond.fieldLink RX11 16 "VoteFilesModel" "s" "[I") ∈ wsX11_notes := List.mem_of_getElem? (i := 3) rfl
set_option maxHeartbeats 4000000 in
set_option maxRecDepth 100000 in
theorem wX11_notes_47 {p : Program} {l : Launch} {e : Env} {s : State} {m : MethodId} {args : Array Value} {below : List Frame} {meth : Method} {c : Code} {D : va_G} {cI cZ : ClassId} (S : CallFix p m c cX11_notes 2 s args wsX11_notes RX11) (hr : meth.sig.returnType = none) (hlk : meth.locks = false) (hK : KX D cI cZ s) {a_t a_t_text a_t_draft a_t_s a_t_undos a_t_kept a_t_isKept a_t_seenWay a_t_seenIs a_t_sums a_t_parts a_t_heaps : Nat} {v_t_s : (Nat → Int32)} {v_t_thrown : Int32} {v_t_typed : Int32} {v_t_spot : Int32} {v_t_token : Int32} {v_t_place : Int32} {v_t_value : Int32} {v_t_fault : Int32} {v_t_copies : Int32} {v_t_draftCopies : Int32} {v_t_seenMany : Int32} {v_t_asked : Int32} {o_t_undoMany : Int32} {o_t_undos : (Nat → Int32)} {A : Nat → Prop} (hA : ∀ q : Nat, s.heap.size ≤ q → A q) : ∀ (n : Nat), ∀ (jx1 : Int32) (v_t_undoMany : Int32) (v_t_undos : (Nat → Int32)) (ls : Array Slot) (H : Heap) (locs : List Loc), fX11_notes_47 v_t_s n jx1 v_t_undoMany v_t_undos = some (o_t_undoMany, o_t_undos) → lv_has ls 2 [(0, .ref a_t), (1, .int jx1)] → va_P D vwCl [(a_t, .inr (11, [.int v_t_thrown, .ref a_t_text, .int v_t_typed, .int v_t_spot, .int v_t_token, .int v_t_place, .int v_t_value, .int v_t_fault, .int v_t_copies, .int v_t_draftCopies, .ref a_t_draft, .ref a_t_s, .ref a_t_undos, .int v_t_undoMany, .ref a_t_kept, .ref a_t_isKept, .ref a_t_seenWay, .ref a_t_seenIs, .int v_t_seenMany, .int v_t_asked, .ref a_t_sums, .ref a_t_parts, .ref a_t_heaps])), (a_t_s, .inl (cI, 103, .inl v_t_s)), (a_t_undos, .inl (cI, 1030, .inl v_t_undos))] H → va_D A [(a_t, .inr (11, [.int v_t_thrown, .ref a_t_text, .int v_t_typed, .int v_t_spot, .int v_t_token, .int v_t_place, .int v_t_value, .int v_t_fault, .int v_t_copies, .int v_t_draftCopies, .ref a_t_draft, .ref a_t_s, .ref a_t_undos, .int v_t_undoMany, .ref a_t_kept, .ref a_t_isKept, .ref a_t_seenWay, .ref a_t_seenIs, .int v_t_seenMany, .int v_t_asked, .ref a_t_sums, .ref a_t_parts, .ref a_t_heaps])), (a_t_s, .inl (cI, 103, .inl v_t_s)), (a_t_undos, .inl (cI, 1030, .inl v_t_undos))] → va_S A s.heap H locs → W p l e rmX11_notes s m args below meth c H locs 0 0 (MQ below (qM D none [(a_t, .inr (11, [.int v_t_thrown, .ref a_t_text, .int v_t_typed, .int v_t_spot, .int v_t_token, .int v_t_place, .int v_t_value, .int v_t_fault, .int v_t_copies, .int v_t_draftCopies, .ref a_t_draft, .ref a_t_s, .ref a_t_undos, .int o_t_undoMany, .ref a_t_kept, .ref a_t_isKept, .ref a_t_seenWay, .ref a_t_seenIs, .int v_t_seenMany, .int v_t_asked, .ref a_t_sums, .ref a_t_parts, .ref a_t_heaps])), (a_t_s, .inl (cI, 103, .inl v_t_s)), (a_t_undos, .inl (cI, 1030, .inl o_t_undos))] A) args s 0 0 A) (F0 m 47 ls []) := by
  obtain ⟨hx, hb, hml, hown, hts⟩ := id S
  intro n
  induction n with
  | zero =>
    intro jx1 v_t_undoMany v_t_undos ls H locs hf hl hP hD hS
    cases (show (none : Option _) = some _ from hf)
  | succ n ih =>
    intro jx1 v_t_undoMany v_t_undos ls H locs hf hl hP hD hS
    have hf := (fX11_notes_47_s _ n _ _ _).symm.trans hf
    refine lv_iload_n hx hb dX11_notes_47 rfl (lv_at hl 1 rfl) ?_
    refine lv_bipush (v := 103) hx hb dX11_notes_48 (by decide) ?_
    refine lv_icmp_ge (tgt := 79) hx hb dX11_notes_50 (by decide) (fun jc1 => ?_) (fun jc1 => ?_)
    · have hf := ite_t jc1 hf
      refine lv_aload_n hx hb dX11_notes_79 rfl (lv_at hl 0 rfl) ?_
      refine lv_dup hx hb dX11_notes_80 rfl ?_
      refine va_get (D := D) (ci := 11) (v := .int v_t_undoMany) (C := RX11) (T := TX11) (N := 23) hx hb hts iX11_notes_X11 hown hK.1 hP 0 rfl rfl 13 (by decide) (hts _ mX11_notes_1) (fun _ h9 => h9) rfl dX11_notes_81 ?_
      refine lv_iconst (v := 1) hx hb dX11_notes_84 (by decide) ?_
      refine lv_iadd hx hb dX11_notes_85 ?_
      refine va_put (D := D) (ci := 11) (v := .int (v_t_undoMany + (1 : Int32))) (ty := .int) (C := RX11) (T := TX11) (N := 23) hx hb hts iX11_notes_X11 tyX11 tyX11_ok nmX11 hown hK.1 hP hD hS 0 rfl rfl 13 (by decide) (hts _ mX11_notes_1) (fun _ h9 => h9) rfl (tyX11_ok 13 (by decide)) rfl rfl (Nat.le_of_ble_eq_true rfl) dX11_notes_86 (fun H locs hP hD hS => ?_)
      have hP : va_P D vwCl [(a_t, .inr (11, [.int v_t_thrown, .ref a_t_text, .int v_t_typed, .int v_t_spot, .int v_t_token, .int v_t_place, .int v_t_value, .int v_t_fault, .int v_t_copies, .int v_t_draftCopies, .ref a_t_draft, .ref a_t_s, .ref a_t_undos, .int (v_t_undoMany + (1 : Int32)), .ref a_t_kept, .ref a_t_isKept, .ref a_t_seenWay, .ref a_t_seenIs, .int v_t_seenMany, .int v_t_asked, .ref a_t_sums, .ref a_t_parts, .ref a_t_heaps])), (a_t_s, .inl (cI, 103, .inl v_t_s)), (a_t_undos, .inl (cI, 1030, .inl v_t_undos))] H := hP
      have hD : va_D A [(a_t, .inr (11, [.int v_t_thrown, .ref a_t_text, .int v_t_typed, .int v_t_spot, .int v_t_token, .int v_t_place, .int v_t_value, .int v_t_fault, .int v_t_copies, .int v_t_draftCopies, .ref a_t_draft, .ref a_t_s, .ref a_t_undos, .int (v_t_undoMany + (1 : Int32)), .ref a_t_kept, .ref a_t_isKept, .ref a_t_seenWay, .ref a_t_seenIs, .int v_t_seenMany, .int v_t_asked, .ref a_t_sums, .ref a_t_parts, .ref a_t_heaps])), (a_t_s, .inl (cI, 103, .inl v_t_s)), (a_t_undos, .inl (cI, 1030, .inl v_t_undos))] := hD
      obtain ⟨rfl, rfl⟩ := pr2_inv hf
      exact retMv hx hb hr hlk hP hD hS dX11_notes_89
    · have hf := ite_f jc1 hf
      refine lv_aload_n hx hb dX11_notes_53 rfl (lv_at hl 0 rfl) ?_
      refine va_get (D := D) (ci := 11) (v := .ref a_t_undos) (C := RX11) (T := TX11) (N := 23) hx hb hts iX11_notes_X11 hown hK.1 hP 0 rfl rfl 12 (by decide) (hts _ mX11_notes_2) (fun _ h9 => h9) rfl dX11_notes_54 ?_
      refine lv_bipush (v := 103) hx hb dX11_notes_57 (by decide) ?_
      refine lv_aload_n hx hb dX11_notes_59 rfl (lv_at hl 0 rfl) ?_
      refine va_get (D := D) (ci := 11) (v := .int v_t_undoMany) (C := RX11) (T := TX11) (N := 23) hx hb hts iX11_notes_X11 hown hK.1 hP 0 rfl rfl 13 (by decide) (hts _ mX11_notes_1) (fun _ h9 => h9) rfl dX11_notes_60 ?_
      refine lv_imul hx hb dX11_notes_63 ?_
      refine lv_iload_n hx hb dX11_notes_64 rfl (lv_at hl 1 rfl) ?_
      refine lv_iadd hx hb dX11_notes_65 ?_
      refine lv_aload_n hx hb dX11_notes_66 rfl (lv_at hl 0 rfl) ?_
      refine va_get (D := D) (ci := 11) (v := .ref a_t_s) (C := RX11) (T := TX11) (N := 23) hx hb hts iX11_notes_X11 hown hK.1 hP 0 rfl rfl 11 (by decide) (hts _ mX11_notes_3) (fun _ h9 => h9) rfl dX11_notes_67 ?_
      refine lv_iload_n hx hb dX11_notes_70 rfl (lv_at hl 1 rfl) ?_
      obtain ⟨jh2, hf⟩ := ckI_inv hf
      refine va_iald hx hb hK.1 hP 1 0 rfl rfl jh2 dX11_notes_71 ?_
      obtain ⟨jh3, hf⟩ := ckI_inv hf
      refine va_iast hx hb hK.1 hP hD hS 2 0 rfl rfl jh3 dX11_notes_72 (fun H locs hP hD hS => ?_)
      have hP : va_P D vwCl [(a_t, .inr (11, [.int v_t_thrown, .ref a_t_text, .int v_t_typed, .int v_t_spot, .int v_t_token, .int v_t_place, .int v_t_value, .int v_t_fault, .int v_t_copies, .int v_t_draftCopies, .ref a_t_draft, .ref a_t_s, .ref a_t_undos, .int v_t_undoMany, .ref a_t_kept, .ref a_t_isKept, .ref a_t_seenWay, .ref a_t_seenIs, .int v_t_seenMany, .int v_t_asked, .ref a_t_sums, .ref a_t_parts, .ref a_t_heaps])), (a_t_s, .inl (cI, 103, .inl v_t_s)), (a_t_undos, .inl (cI, 1030, .inl (upd v_t_undos (Int32.toNatClampNeg (((103 : Int32) * v_t_undoMany) + jx1)) (v_t_s (Int32.toNatClampNeg jx1)))))] H := hP
      have hD : va_D A [(a_t, .inr (11, [.int v_t_thrown, .ref a_t_text, .int v_t_typed, .int v_t_spot, .int v_t_token, .int v_t_place, .int v_t_value, .int v_t_fault, .int v_t_copies, .int v_t_draftCopies, .ref a_t_draft, .ref a_t_s, .ref a_t_undos, .int v_t_undoMany, .ref a_t_kept, .ref a_t_isKept, .ref a_t_seenWay, .ref a_t_seenIs, .int v_t_seenMany, .int v_t_asked, .ref a_t_sums, .ref a_t_parts, .ref a_t_heaps])), (a_t_s, .inl (cI, 103, .inl v_t_s)), (a_t_undos, .inl (cI, 1030, .inl (upd v_t_undos (Int32.toNatClampNeg (((103 : Int32) * v_t_undoMany) + jx1)) (v_t_s (Int32.toNatClampNeg jx1)))))] := hD
      refine lv_iinc (v := (jx1 + (1 : Int32))) (lv' := [(1, .int (jx1 + (1 : Int32))), (0, .ref a_t)]) hx hb dX11_notes_73 hl (k := 1) rfl rfl (by decide) rfl (fun ls hl => ?_)
      refine lv_goto (tgt := 47) hx hb dX11_notes_76 (by decide) ?_
      exact ih (jx1 + (1 : Int32)) v_t_undoMany (upd v_t_undos (Int32.toNatClampNeg (((103 : Int32) * v_t_undoMany) + jx1)) (v_t_s (Int32.toNatClampNeg jx1))) ls _ _ hf (lv_sub hl [1, 0] rfl) hP hD hS
set_option maxHeartbeats 4000000 in
set_option maxRecDepth 100000 in
theorem wX11_notes_11 {p : Program} {l : Launch} {e : Env} {s : State} {m : MethodId} {args : Array Value} {below : List Frame} {meth : Method} {c : Code} {D : va_G} {cI cZ : ClassId} (S : CallFix p m c cX11_notes 2 s args wsX11_notes RX11) (hr : meth.sig.returnType = none) (hlk : meth.locks = false) (hK : KX D cI cZ s) {a_t a_t_text a_t_draft a_t_s a_t_undos a_t_kept a_t_isKept a_t_seenWay a_t_seenIs a_t_sums a_t_parts a_t_heaps : Nat} {v_t_s : (Nat → Int32)} {v_t_thrown : Int32} {v_t_typed : Int32} {v_t_spot : Int32} {v_t_token : Int32} {v_t_place : Int32} {v_t_value : Int32} {v_t_fault : Int32} {v_t_copies : Int32} {v_t_draftCopies : Int32} {v_t_seenMany : Int32} {v_t_asked : Int32} {o_t_undoMany : Int32} {o_t_undos : (Nat → Int32)} {A : Nat → Prop} (hA : ∀ q : Nat, s.heap.size ≤ q → A q) : ∀ (n : Nat), ∀ (jx1 : Int32) (v_t_undoMany : Int32) (v_t_undos : (Nat → Int32)) (ls : Array Slot) (H : Heap) (locs : List Loc), fX11_notes_11 v_t_s n jx1 v_t_undoMany v_t_undos = some (o_t_undoMany, o_t_undos) → lv_has ls 2 [(0, .ref a_t), (1, .int jx1)] → va_P D vwCl [(a_t, .inr (11, [.int v_t_thrown, .ref a_t_text, .int v_t_typed, .int v_t_spot, .int v_t_token, .int v_t_place, .int v_t_value, .int v_t_fault, .int v_t_copies, .int v_t_draftCopies, .ref a_t_draft, .ref a_t_s, .ref a_t_undos, .int v_t_undoMany, .ref a_t_kept, .ref a_t_isKept, .ref a_t_seenWay, .ref a_t_seenIs, .int v_t_seenMany, .int v_t_asked, .ref a_t_sums, .ref a_t_parts, .ref a_t_heaps])), (a_t_s, .inl (cI, 103, .inl v_t_s)), (a_t_undos, .inl (cI, 1030, .inl v_t_undos))] H → va_D A [(a_t, .inr (11, [.int v_t_thrown, .ref a_t_text, .int v_t_typed, .int v_t_spot, .int v_t_token, .int v_t_place, .int v_t_value, .int v_t_fault, .int v_t_copies, .int v_t_draftCopies, .ref a_t_draft, .ref a_t_s, .ref a_t_undos, .int v_t_undoMany, .ref a_t_kept, .ref a_t_isKept, .ref a_t_seenWay, .ref a_t_seenIs, .int v_t_seenMany, .int v_t_asked, .ref a_t_sums, .ref a_t_parts, .ref a_t_heaps])), (a_t_s, .inl (cI, 103, .inl v_t_s)), (a_t_undos, .inl (cI, 1030, .inl v_t_undos))] → va_S A s.heap H locs → W p l e rmX11_notes s m args below meth c H locs 0 0 (MQ below (qM D none [(a_t, .inr (11, [.int v_t_thrown, .ref a_t_text, .int v_t_typed, .int v_t_spot, .int v_t_token, .int v_t_place, .int v_t_value, .int v_t_fault, .int v_t_copies, .int v_t_draftCopies, .ref a_t_draft, .ref a_t_s, .ref a_t_undos, .int o_t_undoMany, .ref a_t_kept, .ref a_t_isKept, .ref a_t_seenWay, .ref a_t_seenIs, .int v_t_seenMany, .int v_t_asked, .ref a_t_sums, .ref a_t_parts, .ref a_t_heaps])), (a_t_s, .inl (cI, 103, .inl v_t_s)), (a_t_undos, .inl (cI, 1030, .inl o_t_undos))] A) args s 0 0 A) (F0 m 11 ls []) := by
  obtain ⟨hx, hb, hml, hown, hts⟩ := id S
  intro n
  induction n with
  | zero =>
    intro jx1 v_t_undoMany v_t_undos ls H locs hf hl hP hD hS
    cases (show (none : Option _) = some _ from hf)
  | succ n ih =>
    intro jx1 v_t_undoMany v_t_undos ls H locs hf hl hP hD hS
    have hf := (fX11_notes_11_s _ n _ _ _).symm.trans hf
    refine lv_iload_n hx hb dX11_notes_11 rfl (lv_at hl 1 rfl) ?_
    refine lv_sipush (v := 927) hx hb dX11_notes_12 (by decide) ?_
    refine lv_icmp_ge (tgt := 39) hx hb dX11_notes_15 (by decide) (fun jc1 => ?_) (fun jc1 => ?_)
    · have hf := ite_t jc1 hf
      refine lv_aload_n hx hb dX11_notes_39 rfl (lv_at hl 0 rfl) ?_
      refine lv_bipush (v := 9) hx hb dX11_notes_40 (by decide) ?_
      refine va_put (D := D) (ci := 11) (v := .int (9 : Int32)) (ty := .int) (C := RX11) (T := TX11) (N := 23) hx hb hts iX11_notes_X11 tyX11 tyX11_ok nmX11 hown hK.1 hP hD hS 0 rfl rfl 13 (by decide) (hts _ mX11_notes_1) (fun _ h9 => h9) rfl (tyX11_ok 13 (by decide)) rfl rfl (Nat.le_of_ble_eq_true rfl) dX11_notes_42 (fun H locs hP hD hS => ?_)
      have hP : va_P D vwCl [(a_t, .inr (11, [.int v_t_thrown, .ref a_t_text, .int v_t_typed, .int v_t_spot, .int v_t_token, .int v_t_place, .int v_t_value, .int v_t_fault, .int v_t_copies, .int v_t_draftCopies, .ref a_t_draft, .ref a_t_s, .ref a_t_undos, .int (9 : Int32), .ref a_t_kept, .ref a_t_isKept, .ref a_t_seenWay, .ref a_t_seenIs, .int v_t_seenMany, .int v_t_asked, .ref a_t_sums, .ref a_t_parts, .ref a_t_heaps])), (a_t_s, .inl (cI, 103, .inl v_t_s)), (a_t_undos, .inl (cI, 1030, .inl v_t_undos))] H := hP
      have hD : va_D A [(a_t, .inr (11, [.int v_t_thrown, .ref a_t_text, .int v_t_typed, .int v_t_spot, .int v_t_token, .int v_t_place, .int v_t_value, .int v_t_fault, .int v_t_copies, .int v_t_draftCopies, .ref a_t_draft, .ref a_t_s, .ref a_t_undos, .int (9 : Int32), .ref a_t_kept, .ref a_t_isKept, .ref a_t_seenWay, .ref a_t_seenIs, .int v_t_seenMany, .int v_t_asked, .ref a_t_sums, .ref a_t_parts, .ref a_t_heaps])), (a_t_s, .inl (cI, 103, .inl v_t_s)), (a_t_undos, .inl (cI, 1030, .inl v_t_undos))] := hD
      refine lv_iconst (v := 0) hx hb dX11_notes_45 (by decide) ?_
      refine lv_istore_n (lv' := [(1, .int (0 : Int32)), (0, .ref a_t)]) hx hb dX11_notes_46 rfl hl (by decide) rfl (fun ls hl => ?_)
      exact wX11_notes_47 S hr hlk hK hA fuel (0 : Int32) (9 : Int32) v_t_undos ls _ _ hf (lv_sub hl [1, 0] rfl) hP hD hS
    · have hf := ite_f jc1 hf
      refine lv_aload_n hx hb dX11_notes_18 rfl (lv_at hl 0 rfl) ?_
      refine va_get (D := D) (ci := 11) (v := .ref a_t_undos) (C := RX11) (T := TX11) (N := 23) hx hb hts iX11_notes_X11 hown hK.1 hP 0 rfl rfl 12 (by decide) (hts _ mX11_notes_2) (fun _ h9 => h9) rfl dX11_notes_19 ?_
      refine lv_iload_n hx hb dX11_notes_22 rfl (lv_at hl 1 rfl) ?_
      refine lv_aload_n hx hb dX11_notes_23 rfl (lv_at hl 0 rfl) ?_
      refine va_get (D := D) (ci := 11) (v := .ref a_t_undos) (C := RX11) (T := TX11) (N := 23) hx hb hts iX11_notes_X11 hown hK.1 hP 0 rfl rfl 12 (by decide) (hts _ mX11_notes_2) (fun _ h9 => h9) rfl dX11_notes_24 ?_
      refine lv_iload_n hx hb dX11_notes_27 rfl (lv_at hl 1 rfl) ?_
      refine lv_bipush (v := 103) hx hb dX11_notes_28 (by decide) ?_
      refine lv_iadd hx hb dX11_notes_30 ?_
      obtain ⟨jh2, hf⟩ := ckI_inv hf
      refine va_iald hx hb hK.1 hP 2 0 rfl rfl jh2 dX11_notes_31 ?_
      obtain ⟨jh3, hf⟩ := ckI_inv hf
      refine va_iast hx hb hK.1 hP hD hS 2 0 rfl rfl jh3 dX11_notes_32 (fun H locs hP hD hS => ?_)
      have hP : va_P D vwCl [(a_t, .inr (11, [.int v_t_thrown, .ref a_t_text, .int v_t_typed, .int v_t_spot, .int v_t_token, .int v_t_place, .int v_t_value, .int v_t_fault, .int v_t_copies, .int v_t_draftCopies, .ref a_t_draft, .ref a_t_s, .ref a_t_undos, .int v_t_undoMany, .ref a_t_kept, .ref a_t_isKept, .ref a_t_seenWay, .ref a_t_seenIs, .int v_t_seenMany, .int v_t_asked, .ref a_t_sums, .ref a_t_parts, .ref a_t_heaps])), (a_t_s, .inl (cI, 103, .inl v_t_s)), (a_t_undos, .inl (cI, 1030, .inl (upd v_t_undos (Int32.toNatClampNeg jx1) (v_t_undos (Int32.toNatClampNeg (jx1 + (103 : Int32)))))))] H := hP
      have hD : va_D A [(a_t, .inr (11, [.int v_t_thrown, .ref a_t_text, .int v_t_typed, .int v_t_spot, .int v_t_token, .int v_t_place, .int v_t_value, .int v_t_fault, .int v_t_copies, .int v_t_draftCopies, .ref a_t_draft, .ref a_t_s, .ref a_t_undos, .int v_t_undoMany, .ref a_t_kept, .ref a_t_isKept, .ref a_t_seenWay, .ref a_t_seenIs, .int v_t_seenMany, .int v_t_asked, .ref a_t_sums, .ref a_t_parts, .ref a_t_heaps])), (a_t_s, .inl (cI, 103, .inl v_t_s)), (a_t_undos, .inl (cI, 1030, .inl (upd v_t_undos (Int32.toNatClampNeg jx1) (v_t_undos (Int32.toNatClampNeg (jx1 + (103 : Int32)))))))] := hD
      refine lv_iinc (v := (jx1 + (1 : Int32))) (lv' := [(1, .int (jx1 + (1 : Int32))), (0, .ref a_t)]) hx hb dX11_notes_33 hl (k := 1) rfl rfl (by decide) rfl (fun ls hl => ?_)
      refine lv_goto (tgt := 11) hx hb dX11_notes_36 (by decide) ?_
      exact ih (jx1 + (1 : Int32)) v_t_undoMany (upd v_t_undos (Int32.toNatClampNeg jx1) (v_t_undos (Int32.toNatClampNeg (jx1 + (103 : Int32))))) ls _ _ hf (lv_sub hl [1, 0] rfl) hP hD hS
theorem hdX11_notes : yX11_notes.cls ≠ "java/lang/invoke/MethodHandle" ∧ yX11_notes.cls ≠ "java/lang/invoke/VarHandle" ∧ (parseMethodDescriptor yX11_notes.desc).map (fun d => d.parameters.length) = some 0 := by decide +kernel
set_option maxHeartbeats 4000000 in
set_option maxRecDepth 100000 in
theorem ctX11_notes (l : Launch) (D : va_G) (cI cZ : ClassId) (a_t a_t_text a_t_draft a_t_s a_t_undos a_t_kept a_t_isKept a_t_seenWay a_t_seenIs a_t_sums a_t_parts a_t_heaps : Nat) (v_t_undoMany : Int32) (v_t_s : (Nat → Int32)) (v_t_undos : (Nat → Int32)) (v_t_thrown : Int32) (v_t_typed : Int32) (v_t_spot : Int32) (v_t_token : Int32) (v_t_place : Int32) (v_t_value : Int32) (v_t_fault : Int32) (v_t_copies : Int32) (v_t_draftCopies : Int32) (v_t_seenMany : Int32) (v_t_asked : Int32) (o_t_undoMany : Int32) (o_t_undos : (Nat → Int32)) (hf : fX11_notes v_t_undoMany v_t_s v_t_undos = some (o_t_undoMany, o_t_undos)) : cM l yX11_notes wsX11_notes rmX11_notes [.ref a_t] D [(a_t, .inr (11, [.int v_t_thrown, .ref a_t_text, .int v_t_typed, .int v_t_spot, .int v_t_token, .int v_t_place, .int v_t_value, .int v_t_fault, .int v_t_copies, .int v_t_draftCopies, .ref a_t_draft, .ref a_t_s, .ref a_t_undos, .int v_t_undoMany, .ref a_t_kept, .ref a_t_isKept, .ref a_t_seenWay, .ref a_t_seenIs, .int v_t_seenMany, .int v_t_asked, .ref a_t_sums, .ref a_t_parts, .ref a_t_heaps])), (a_t_s, .inl (cI, 103, .inl v_t_s)), (a_t_undos, .inl (cI, 1030, .inl v_t_undos))] [(a_t, .inr (11, [.int v_t_thrown, .ref a_t_text, .int v_t_typed, .int v_t_spot, .int v_t_token, .int v_t_place, .int v_t_value, .int v_t_fault, .int v_t_copies, .int v_t_draftCopies, .ref a_t_draft, .ref a_t_s, .ref a_t_undos, .int o_t_undoMany, .ref a_t_kept, .ref a_t_isKept, .ref a_t_seenWay, .ref a_t_seenIs, .int v_t_seenMany, .int v_t_asked, .ref a_t_sums, .ref a_t_parts, .ref a_t_heaps])), (a_t_s, .inl (cI, 103, .inl v_t_s)), (a_t_undos, .inl (cI, 1030, .inl o_t_undos))] (KX D cI cZ) none := by
  refine cM_of (cc := cX11_notes) (maxL := 2) (ret := none) (by decide +kernel) rfl _ (Nat.le_of_ble_eq_true rfl) ?_
  intro p e s m below meth c ls A S hr hlk hP hK hl hD hA hS
  obtain ⟨hx, hb, hml, hown, hts⟩ := id S
  have hl : lv_has ls 2 [(0, .ref a_t)] := hl
  unfold fX11_notes at hf
  refine lv_aload_n hx hb dX11_notes_0 rfl (lv_at hl 0 rfl) ?_
  refine va_get (D := D) (ci := 11) (v := .int v_t_undoMany) (C := RX11) (T := TX11) (N := 23) hx hb hts iX11_notes_X11 hown hK.1 hP 0 rfl rfl 13 (by decide) (hts _ mX11_notes_1) (fun _ h9 => h9) rfl dX11_notes_1 ?_
  refine lv_bipush (v := 10) hx hb dX11_notes_4 (by decide) ?_
  refine lv_icmp_ne (tgt := 45) hx hb dX11_notes_6 (by decide) (fun jc1 => ?_) (fun jc1 => ?_)
  · have hf := ite_f jc1 hf
    refine lv_iconst (v := 0) hx hb dX11_notes_45 (by decide) ?_
    refine lv_istore_n (lv' := [(1, .int (0 : Int32)), (0, .ref a_t)]) hx hb dX11_notes_46 rfl hl (by decide) rfl (fun ls hl => ?_)
    exact wX11_notes_47 S hr hlk hK hA fuel (0 : Int32) v_t_undoMany v_t_undos ls _ _ hf (lv_sub hl [1, 0] rfl) hP hD hS
  · have hf := ite_t jc1 hf
    refine lv_iconst (v := 0) hx hb dX11_notes_9 (by decide) ?_
    refine lv_istore_n (lv' := [(1, .int (0 : Int32)), (0, .ref a_t)]) hx hb dX11_notes_10 rfl hl (by decide) rfl (fun ls hl => ?_)
    exact wX11_notes_11 S hr hlk hK hA fuel (0 : Int32) v_t_undoMany v_t_undos ls _ _ hf (lv_sub hl [1, 0] rfl) hP hD hS
def fX11_reads_ (jx1 : Int32) (v_t_thrown : Int32) (v_t_copies : Int32) (v_t_asked : Int32) (v_t_s : (Nat → Int32)) : Option (Int32 × Int32 × Int32) := bd1 (fX11_isGroup jx1) (fun jr1 => if jr1 = 0 then some ((-1 : Int32), (0 : Int32), v_t_asked) else bd1 (fX11_present jx1 v_t_copies v_t_s) (fun jr4 => bd1 (fX11_isEnough jr4 (6 : Int32) v_t_copies v_t_s) (fun jr6 => if jr6 = 0 then some ((-4 : Int32), (0 : Int32), v_t_asked) else bd1 (fX11_data jr4 v_t_copies v_t_s) (fun jr9 => if jr9 = (-9 : Int32) then some ((-5 : Int32), (0 : Int32), v_t_asked) else bd1 (fX11_data jr4 v_t_copies v_t_s) (fun jr12 => bd1 (fX11_greatest jr4 (12 : Int32) v_t_copies v_t_s) (fun jr14 => some (jr14, (0 : Int32), jr12)))))))
abbrev rmX11_reads_ : Room := { frames := 3, cells := 0, slots := 0, locals := 69 }
theorem iX11_reads__X11 : ∀ w ∈ wsX110, w ∈ wsX11_reads_ := fun _ h => List.mem_cons_of_mem _ (List.mem_append_right _ h)
theorem mX11_reads__1 : (Cond.fieldLink RX11 50 "VoteFilesModel" "thrown" "I") ∈ wsX11_reads_ := List.mem_of_getElem? (i := 1) rfl
theorem mX11_reads__2 : (Cond.fieldLink RX11 154 "VoteFilesModel" "asked" "I") ∈ wsX11_reads_ := List.mem_of_getElem? (i := 2) rfl
theorem hdX11_reads_ : yX11_reads_.cls ≠ "java/lang/invoke/MethodHandle" ∧ yX11_reads_.cls ≠ "java/lang/invoke/VarHandle" ∧ (parseMethodDescriptor yX11_reads_.desc).map (fun d => d.parameters.length) = some 1 := by decide +kernel
set_option maxHeartbeats 4000000 in
set_option maxRecDepth 100000 in
theorem ctX11_reads_ (l : Launch) (D : va_G) (cI cZ : ClassId) (a_t a_t_text a_t_draft a_t_s a_t_undos a_t_kept a_t_isKept a_t_seenWay a_t_seenIs a_t_sums a_t_parts a_t_heaps : Nat) (jx1 : Int32) (v_t_thrown : Int32) (v_t_copies : Int32) (v_t_asked : Int32) (v_t_s : (Nat → Int32)) (v_t_typed : Int32) (v_t_spot : Int32) (v_t_token : Int32) (v_t_place : Int32) (v_t_value : Int32) (v_t_fault : Int32) (v_t_draftCopies : Int32) (v_t_undoMany : Int32) (v_t_seenMany : Int32) (r : Int32) (o_t_thrown : Int32) (o_t_asked : Int32) (hf : fX11_reads_ jx1 v_t_thrown v_t_copies v_t_asked v_t_s = some (r, o_t_thrown, o_t_asked)) : cM l yX11_reads_ wsX11_reads_ rmX11_reads_ [.ref a_t, .int jx1] D [(a_t, .inr (11, [.int v_t_thrown, .ref a_t_text, .int v_t_typed, .int v_t_spot, .int v_t_token, .int v_t_place, .int v_t_value, .int v_t_fault, .int v_t_copies, .int v_t_draftCopies, .ref a_t_draft, .ref a_t_s, .ref a_t_undos, .int v_t_undoMany, .ref a_t_kept, .ref a_t_isKept, .ref a_t_seenWay, .ref a_t_seenIs, .int v_t_seenMany, .int v_t_asked, .ref a_t_sums, .ref a_t_parts, .ref a_t_heaps])), (a_t_s, .inl (cI, 103, .inl v_t_s))] [(a_t, .inr (11, [.int o_t_thrown, .ref a_t_text, .int v_t_typed, .int v_t_spot, .int v_t_token, .int v_t_place, .int v_t_value, .int v_t_fault, .int v_t_copies, .int v_t_draftCopies, .ref a_t_draft, .ref a_t_s, .ref a_t_undos, .int v_t_undoMany, .ref a_t_kept, .ref a_t_isKept, .ref a_t_seenWay, .ref a_t_seenIs, .int v_t_seenMany, .int o_t_asked, .ref a_t_sums, .ref a_t_parts, .ref a_t_heaps])), (a_t_s, .inl (cI, 103, .inl v_t_s))] (KX D cI cZ) (some (.int r)) := by
  refine cM_of (cc := cX11_reads_) (maxL := 3) (ret := some .int) (by decide +kernel) rfl _ (Nat.le_of_ble_eq_true rfl) ?_
  intro p e s m below meth c ls A S hr hlk hP hK hl hD hA hS
  obtain ⟨hx, hb, hml, hown, hts⟩ := id S
  have hl : lv_has ls 3 [(0, .ref a_t), (1, .int jx1)] := hl
  unfold fX11_reads_ at hf
  refine lv_aload_n hx hb dX11_reads__0 rfl (lv_at hl 0 rfl) ?_
  refine lv_iconst (v := 0) hx hb dX11_reads__1 (by decide) ?_
  refine va_put (D := D) (ci := 11) (v := .int (0 : Int32)) (ty := .int) (C := RX11) (T := TX11) (N := 23) hx hb hts iX11_reads__X11 tyX11 tyX11_ok nmX11 hown hK.1 hP hD hS 0 rfl rfl 0 (by decide) (hts _ mX11_reads__1) (fun _ h9 => h9) rfl (tyX11_ok 0 (by decide)) rfl rfl (Nat.le_of_ble_eq_true rfl) dX11_reads__2 (fun H locs hP hD hS => ?_)
  have hP : va_P D vwCl [(a_t, .inr (11, [.int (0 : Int32), .ref a_t_text, .int v_t_typed, .int v_t_spot, .int v_t_token, .int v_t_place, .int v_t_value, .int v_t_fault, .int v_t_copies, .int v_t_draftCopies, .ref a_t_draft, .ref a_t_s, .ref a_t_undos, .int v_t_undoMany, .ref a_t_kept, .ref a_t_isKept, .ref a_t_seenWay, .ref a_t_seenIs, .int v_t_seenMany, .int v_t_asked, .ref a_t_sums, .ref a_t_parts, .ref a_t_heaps])), (a_t_s, .inl (cI, 103, .inl v_t_s))] H := hP
  have hD : va_D A [(a_t, .inr (11, [.int (0 : Int32), .ref a_t_text, .int v_t_typed, .int v_t_spot, .int v_t_token, .int v_t_place, .int v_t_value, .int v_t_fault, .int v_t_copies, .int v_t_draftCopies, .ref a_t_draft, .ref a_t_s, .ref a_t_undos, .int v_t_undoMany, .ref a_t_kept, .ref a_t_isKept, .ref a_t_seenWay, .ref a_t_seenIs, .int v_t_seenMany, .int v_t_asked, .ref a_t_sums, .ref a_t_parts, .ref a_t_heaps])), (a_t_s, .inl (cI, 103, .inl v_t_s))] := hD
  refine lv_iload_n hx hb dX11_reads__5 rfl (lv_at hl 1 rfl) ?_
  obtain ⟨jr1, je2, hf⟩ := bd1_inv hf
  refine callRS (As := [.int jx1]) (rest := []) S (ctX11_isGroup l D cI cZ jx1 jr1 je2) (va_cwS 1 hts gX11_reads__X11_isGroup rfl rfl rfl hdX11_isGroup ⟨Nat.le_of_ble_eq_true rfl, Nat.le_of_ble_eq_true rfl⟩) hP [] rfl KX.xs (fun U _ hW => hK.warm hW) rfl hl.1 rfl (Nat.le_of_ble_eq_true rfl) dX11_reads__6 ⟨Nat.zero_le _, Nat.zero_le _⟩ ?_
  refine lv_if_ne (tgt := 14) hx hb dX11_reads__9 (by decide) (fun jc3 => ?_) (fun jc3 => ?_)
  · have hf := ite_f jc3 hf
    refine lv_aload_n hx hb dX11_reads__14 rfl (lv_at hl 0 rfl) ?_
    refine lv_iload_n hx hb dX11_reads__15 rfl (lv_at hl 1 rfl) ?_
    obtain ⟨jr4, je5, hf⟩ := bd1_inv hf
    refine callRV (As := [.int jx1]) (rest := []) S (ctX11_present l D cI cZ a_t a_t_text a_t_draft a_t_s a_t_undos a_t_kept a_t_isKept a_t_seenWay a_t_seenIs a_t_sums a_t_parts a_t_heaps jx1 v_t_copies v_t_s (0 : Int32) v_t_typed v_t_spot v_t_token v_t_place v_t_value v_t_fault v_t_draftCopies v_t_undoMany v_t_seenMany v_t_asked jr4 je5) (cwV 1 hts gX11_reads__X11_present rfl rfl rfl ⟨rfl, hdX11_present⟩ ⟨Nat.le_of_ble_eq_true rfl, Nat.le_of_ble_eq_true rfl⟩) hP [0, 1] rfl KX.xs (fun U _ hW => hK.warm hW) (va_recv hK.1 hP (ci := 11) (q0 := 0) rfl rfl) rfl hl.1 rfl (Nat.le_of_ble_eq_true rfl) dX11_reads__16 ⟨Nat.zero_le _, Nat.zero_le _⟩ ?_
    refine lv_istore_n (lv' := [(2, .int jr4), (0, .ref a_t), (1, .int jx1)]) hx hb dX11_reads__19 rfl hl (by decide) rfl (fun ls hl => ?_)
    refine lv_aload_n hx hb dX11_reads__20 rfl (lv_at hl 1 rfl) ?_
    refine lv_iload_n hx hb dX11_reads__21 rfl (lv_at hl 0 rfl) ?_
    refine lv_bipush (v := 6) hx hb dX11_reads__22 (by decide) ?_
    obtain ⟨jr6, je7, hf⟩ := bd1_inv hf
    refine callRV (As := [.int jr4, .int (6 : Int32)]) (rest := []) S (ctX11_isEnough l D cI cZ a_t a_t_text a_t_draft a_t_s a_t_undos a_t_kept a_t_isKept a_t_seenWay a_t_seenIs a_t_sums a_t_parts a_t_heaps jr4 (6 : Int32) v_t_copies v_t_s (0 : Int32) v_t_typed v_t_spot v_t_token v_t_place v_t_value v_t_fault v_t_draftCopies v_t_undoMany v_t_seenMany v_t_asked jr6 je7) (cwV 2 hts gX11_reads__X11_isEnough rfl rfl rfl ⟨rfl, hdX11_isEnough⟩ ⟨Nat.le_of_ble_eq_true rfl, Nat.le_of_ble_eq_true rfl⟩) hP [0, 1] rfl KX.xs (fun U _ hW => hK.warm hW) (va_recv hK.1 hP (ci := 11) (q0 := 0) rfl rfl) rfl hl.1 rfl (Nat.le_of_ble_eq_true rfl) dX11_reads__24 ⟨Nat.zero_le _, Nat.zero_le _⟩ ?_
    refine lv_if_ne (tgt := 33) hx hb dX11_reads__27 (by decide) (fun jc8 => ?_) (fun jc8 => ?_)
    · have hf := ite_f jc8 hf
      refine lv_aload_n hx hb dX11_reads__33 rfl (lv_at hl 1 rfl) ?_
      refine lv_iload_n hx hb dX11_reads__34 rfl (lv_at hl 0 rfl) ?_
      obtain ⟨jr9, je10, hf⟩ := bd1_inv hf
      refine callRV (As := [.int jr4]) (rest := []) S (ctX11_data l D cI cZ a_t a_t_text a_t_draft a_t_s a_t_undos a_t_kept a_t_isKept a_t_seenWay a_t_seenIs a_t_sums a_t_parts a_t_heaps jr4 v_t_copies v_t_s (0 : Int32) v_t_typed v_t_spot v_t_token v_t_place v_t_value v_t_fault v_t_draftCopies v_t_undoMany v_t_seenMany v_t_asked jr9 je10) (cwV 1 hts gX11_reads__X11_data rfl rfl rfl ⟨rfl, hdX11_data⟩ ⟨Nat.le_of_ble_eq_true rfl, Nat.le_of_ble_eq_true rfl⟩) hP [0, 1] rfl KX.xs (fun U _ hW => hK.warm hW) (va_recv hK.1 hP (ci := 11) (q0 := 0) rfl rfl) rfl hl.1 rfl (Nat.le_of_ble_eq_true rfl) dX11_reads__35 ⟨Nat.zero_le _, Nat.zero_le _⟩ ?_
      refine lv_bipush (v := -9) hx hb dX11_reads__38 (by decide) ?_
      refine lv_icmp_ne (tgt := 46) hx hb dX11_reads__40 (by decide) (fun jc11 => ?_) (fun jc11 => ?_)
      · have hf := ite_f jc11 hf
        refine lv_aload_n hx hb dX11_reads__46 rfl (lv_at hl 1 rfl) ?_
        refine lv_aload_n hx hb dX11_reads__47 rfl (lv_at hl 1 rfl) ?_
        refine lv_iload_n hx hb dX11_reads__48 rfl (lv_at hl 0 rfl) ?_
        obtain ⟨jr12, je13, hf⟩ := bd1_inv hf
        refine callRV (As := [.int jr4]) (rest := [.ref a_t]) S (ctX11_data l D cI cZ a_t a_t_text a_t_draft a_t_s a_t_undos a_t_kept a_t_isKept a_t_seenWay a_t_seenIs a_t_sums a_t_parts a_t_heaps jr4 v_t_copies v_t_s (0 : Int32) v_t_typed v_t_spot v_t_token v_t_place v_t_value v_t_fault v_t_draftCopies v_t_undoMany v_t_seenMany v_t_asked jr12 je13) (cwV 1 hts gX11_reads__X11_data rfl rfl rfl ⟨rfl, hdX11_data⟩ ⟨Nat.le_of_ble_eq_true rfl, Nat.le_of_ble_eq_true rfl⟩) hP [0, 1] rfl KX.xs (fun U _ hW => hK.warm hW) (va_recv hK.1 hP (ci := 11) (q0 := 0) rfl rfl) rfl hl.1 rfl (Nat.le_of_ble_eq_true rfl) dX11_reads__49 ⟨Nat.zero_le _, Nat.zero_le _⟩ ?_
        refine va_put (D := D) (ci := 11) (v := .int jr12) (ty := .int) (C := RX11) (T := TX11) (N := 23) hx hb hts iX11_reads__X11 tyX11 tyX11_ok nmX11 hown hK.1 hP hD hS 0 rfl rfl 19 (by decide) (hts _ mX11_reads__2) (fun _ h9 => h9) rfl (tyX11_ok 19 (by decide)) rfl rfl (Nat.le_of_ble_eq_true rfl) dX11_reads__52 (fun H locs hP hD hS => ?_)
        have hP : va_P D vwCl [(a_t, .inr (11, [.int (0 : Int32), .ref a_t_text, .int v_t_typed, .int v_t_spot, .int v_t_token, .int v_t_place, .int v_t_value, .int v_t_fault, .int v_t_copies, .int v_t_draftCopies, .ref a_t_draft, .ref a_t_s, .ref a_t_undos, .int v_t_undoMany, .ref a_t_kept, .ref a_t_isKept, .ref a_t_seenWay, .ref a_t_seenIs, .int v_t_seenMany, .int jr12, .ref a_t_sums, .ref a_t_parts, .ref a_t_heaps])), (a_t_s, .inl (cI, 103, .inl v_t_s))] H := hP
        have hD : va_D A [(a_t, .inr (11, [.int (0 : Int32), .ref a_t_text, .int v_t_typed, .int v_t_spot, .int v_t_token, .int v_t_place, .int v_t_value, .int v_t_fault, .int v_t_copies, .int v_t_draftCopies, .ref a_t_draft, .ref a_t_s, .ref a_t_undos, .int v_t_undoMany, .ref a_t_kept, .ref a_t_isKept, .ref a_t_seenWay, .ref a_t_seenIs, .int v_t_seenMany, .int jr12, .ref a_t_sums, .ref a_t_parts, .ref a_t_heaps])), (a_t_s, .inl (cI, 103, .inl v_t_s))] := hD
        refine lv_aload_n hx hb dX11_reads__55 rfl (lv_at hl 1 rfl) ?_
        refine lv_iload_n hx hb dX11_reads__56 rfl (lv_at hl 0 rfl) ?_
        refine lv_bipush (v := 12) hx hb dX11_reads__57 (by decide) ?_
        obtain ⟨jr14, je15, hf⟩ := bd1_inv hf
        refine callRV (As := [.int jr4, .int (12 : Int32)]) (rest := []) S (ctX11_greatest l D cI cZ a_t a_t_text a_t_draft a_t_s a_t_undos a_t_kept a_t_isKept a_t_seenWay a_t_seenIs a_t_sums a_t_parts a_t_heaps jr4 (12 : Int32) v_t_copies v_t_s (0 : Int32) v_t_typed v_t_spot v_t_token v_t_place v_t_value v_t_fault v_t_draftCopies v_t_undoMany v_t_seenMany jr12 jr14 je15) (cwV 2 hts gX11_reads__X11_greatest rfl rfl rfl ⟨rfl, hdX11_greatest⟩ ⟨Nat.le_of_ble_eq_true rfl, Nat.le_of_ble_eq_true rfl⟩) hP [0, 1] rfl KX.xs (fun U _ hW => hK.warm hW) (va_recv hK.1 hP (ci := 11) (q0 := 0) rfl rfl) rfl hl.1 rfl (Nat.le_of_ble_eq_true rfl) dX11_reads__59 ⟨Nat.zero_le _, Nat.zero_le _⟩ ?_
        obtain ⟨rfl, rfl, rfl⟩ := pr3_inv hf
        exact retM hx hb hr hlk hP hD hS dX11_reads__62
      · have hf := ite_t jc11 hf
        refine lv_bipush (v := -5) hx hb dX11_reads__43 (by decide) ?_
        obtain ⟨rfl, rfl, rfl⟩ := pr3_inv hf
        exact retM hx hb hr hlk hP hD hS dX11_reads__45
    · have hf := ite_t jc8 hf
      refine lv_bipush (v := -4) hx hb dX11_reads__30 (by decide) ?_
      obtain ⟨rfl, rfl, rfl⟩ := pr3_inv hf
      exact retM hx hb hr hlk hP hD hS dX11_reads__32
  · have hf := ite_t jc3 hf
    refine lv_iconst (v := -1) hx hb dX11_reads__12 (by decide) ?_
    obtain ⟨rfl, rfl, rfl⟩ := pr3_inv hf
    exact retM hx hb hr hlk hP hD hS dX11_reads__13
def fX11_writes (jx1 : Int32) (jx2 : Int32) (v_t_thrown : Int32) (v_t_copies : Int32) (v_t_undoMany : Int32) (v_t_s : (Nat → Int32)) (v_t_undos : (Nat → Int32)) : Option (Int32 × Int32 × Int32 × (Nat → Int32) × (Nat → Int32)) := bd1 (fX11_isGroup jx1) (fun jr1 => if jr1 = 0 then some ((-1 : Int32), (0 : Int32), v_t_undoMany, v_t_s, v_t_undos) else bd1 (fX11_in jx2 (0 : Int32) (999 : Int32)) (fun jr4 => if jr4 = 0 then some ((-1 : Int32), (0 : Int32), v_t_undoMany, v_t_s, v_t_undos) else bd1 (fX11_present jx1 v_t_copies v_t_s) (fun jr7 => bd1 (fX11_isEnough jr7 (7 : Int32) v_t_copies v_t_s) (fun jr9 => if jr9 = 0 then some ((-4 : Int32), (0 : Int32), v_t_undoMany, v_t_s, v_t_undos) else bd2 (fX11_notes v_t_undoMany v_t_s v_t_undos) (fun jg12 jg13 => bd1 (fX11_greatest jr7 (12 : Int32) v_t_copies v_t_s) (fun jr15 => bd1 (fX11_greatest jr7 (24 : Int32) v_t_copies v_t_s) (fun jr17 => bd1 (fX11_gives jr7 jr17 (jr15 + (1 : Int32)) jx2 v_t_copies v_t_s) (fun jg19 => some ((jr15 + (1 : Int32)), (0 : Int32), jg12, jg19, jg13)))))))))
abbrev rmX11_writes : Room := { frames := 3, cells := 0, slots := 0, locals := 68 }
theorem iX11_writes_X11 : ∀ w ∈ wsX110, w ∈ wsX11_writes := fun _ h => List.mem_cons_of_mem _ (List.mem_append_right _ h)
theorem mX11_writes_1 : (Cond.fieldLink RX11 50 "VoteFilesModel" "thrown" "I") ∈ wsX11_writes := List.mem_of_getElem? (i := 1) rfl
theorem hdX11_writes : yX11_writes.cls ≠ "java/lang/invoke/MethodHandle" ∧ yX11_writes.cls ≠ "java/lang/invoke/VarHandle" ∧ (parseMethodDescriptor yX11_writes.desc).map (fun d => d.parameters.length) = some 2 := by decide +kernel
set_option maxHeartbeats 4000000 in
set_option maxRecDepth 100000 in
theorem ctX11_writes (l : Launch) (D : va_G) (cI cZ : ClassId) (a_t a_t_text a_t_draft a_t_s a_t_undos a_t_kept a_t_isKept a_t_seenWay a_t_seenIs a_t_sums a_t_parts a_t_heaps : Nat) (jx1 : Int32) (jx2 : Int32) (v_t_thrown : Int32) (v_t_copies : Int32) (v_t_undoMany : Int32) (v_t_s : (Nat → Int32)) (v_t_undos : (Nat → Int32)) (v_t_typed : Int32) (v_t_spot : Int32) (v_t_token : Int32) (v_t_place : Int32) (v_t_value : Int32) (v_t_fault : Int32) (v_t_draftCopies : Int32) (v_t_seenMany : Int32) (v_t_asked : Int32) (r : Int32) (o_t_thrown : Int32) (o_t_undoMany : Int32) (o_t_s : (Nat → Int32)) (o_t_undos : (Nat → Int32)) (hf : fX11_writes jx1 jx2 v_t_thrown v_t_copies v_t_undoMany v_t_s v_t_undos = some (r, o_t_thrown, o_t_undoMany, o_t_s, o_t_undos)) : cM l yX11_writes wsX11_writes rmX11_writes [.ref a_t, .int jx1, .int jx2] D [(a_t, .inr (11, [.int v_t_thrown, .ref a_t_text, .int v_t_typed, .int v_t_spot, .int v_t_token, .int v_t_place, .int v_t_value, .int v_t_fault, .int v_t_copies, .int v_t_draftCopies, .ref a_t_draft, .ref a_t_s, .ref a_t_undos, .int v_t_undoMany, .ref a_t_kept, .ref a_t_isKept, .ref a_t_seenWay, .ref a_t_seenIs, .int v_t_seenMany, .int v_t_asked, .ref a_t_sums, .ref a_t_parts, .ref a_t_heaps])), (a_t_s, .inl (cI, 103, .inl v_t_s)), (a_t_undos, .inl (cI, 1030, .inl v_t_undos))] [(a_t, .inr (11, [.int o_t_thrown, .ref a_t_text, .int v_t_typed, .int v_t_spot, .int v_t_token, .int v_t_place, .int v_t_value, .int v_t_fault, .int v_t_copies, .int v_t_draftCopies, .ref a_t_draft, .ref a_t_s, .ref a_t_undos, .int o_t_undoMany, .ref a_t_kept, .ref a_t_isKept, .ref a_t_seenWay, .ref a_t_seenIs, .int v_t_seenMany, .int v_t_asked, .ref a_t_sums, .ref a_t_parts, .ref a_t_heaps])), (a_t_s, .inl (cI, 103, .inl o_t_s)), (a_t_undos, .inl (cI, 1030, .inl o_t_undos))] (KX D cI cZ) (some (.int r)) := by
  refine cM_of (cc := cX11_writes) (maxL := 5) (ret := some .int) (by decide +kernel) rfl _ (Nat.le_of_ble_eq_true rfl) ?_
  intro p e s m below meth c ls A S hr hlk hP hK hl hD hA hS
  obtain ⟨hx, hb, hml, hown, hts⟩ := id S
  have hl : lv_has ls 5 [(0, .ref a_t), (1, .int jx1), (2, .int jx2)] := hl
  unfold fX11_writes at hf
  refine lv_aload_n hx hb dX11_writes_0 rfl (lv_at hl 0 rfl) ?_
  refine lv_iconst (v := 0) hx hb dX11_writes_1 (by decide) ?_
  refine va_put (D := D) (ci := 11) (v := .int (0 : Int32)) (ty := .int) (C := RX11) (T := TX11) (N := 23) hx hb hts iX11_writes_X11 tyX11 tyX11_ok nmX11 hown hK.1 hP hD hS 0 rfl rfl 0 (by decide) (hts _ mX11_writes_1) (fun _ h9 => h9) rfl (tyX11_ok 0 (by decide)) rfl rfl (Nat.le_of_ble_eq_true rfl) dX11_writes_2 (fun H locs hP hD hS => ?_)
  have hP : va_P D vwCl [(a_t, .inr (11, [.int (0 : Int32), .ref a_t_text, .int v_t_typed, .int v_t_spot, .int v_t_token, .int v_t_place, .int v_t_value, .int v_t_fault, .int v_t_copies, .int v_t_draftCopies, .ref a_t_draft, .ref a_t_s, .ref a_t_undos, .int v_t_undoMany, .ref a_t_kept, .ref a_t_isKept, .ref a_t_seenWay, .ref a_t_seenIs, .int v_t_seenMany, .int v_t_asked, .ref a_t_sums, .ref a_t_parts, .ref a_t_heaps])), (a_t_s, .inl (cI, 103, .inl v_t_s)), (a_t_undos, .inl (cI, 1030, .inl v_t_undos))] H := hP
  have hD : va_D A [(a_t, .inr (11, [.int (0 : Int32), .ref a_t_text, .int v_t_typed, .int v_t_spot, .int v_t_token, .int v_t_place, .int v_t_value, .int v_t_fault, .int v_t_copies, .int v_t_draftCopies, .ref a_t_draft, .ref a_t_s, .ref a_t_undos, .int v_t_undoMany, .ref a_t_kept, .ref a_t_isKept, .ref a_t_seenWay, .ref a_t_seenIs, .int v_t_seenMany, .int v_t_asked, .ref a_t_sums, .ref a_t_parts, .ref a_t_heaps])), (a_t_s, .inl (cI, 103, .inl v_t_s)), (a_t_undos, .inl (cI, 1030, .inl v_t_undos))] := hD
  refine lv_iload_n hx hb dX11_writes_5 rfl (lv_at hl 1 rfl) ?_
  obtain ⟨jr1, je2, hf⟩ := bd1_inv hf
  refine callRS (As := [.int jx1]) (rest := []) S (ctX11_isGroup l D cI cZ jx1 jr1 je2) (va_cwS 1 hts gX11_writes_X11_isGroup rfl rfl rfl hdX11_isGroup ⟨Nat.le_of_ble_eq_true rfl, Nat.le_of_ble_eq_true rfl⟩) hP [] rfl KX.xs (fun U _ hW => hK.warm hW) rfl hl.1 rfl (Nat.le_of_ble_eq_true rfl) dX11_writes_6 ⟨Nat.zero_le _, Nat.zero_le _⟩ ?_
  refine lv_if_eq (tgt := 23) hx hb dX11_writes_9 (by decide) (fun jc3 => ?_) (fun jc3 => ?_)
  · have hf := ite_t jc3 hf
    refine lv_iconst (v := -1) hx hb dX11_writes_23 (by decide) ?_
    obtain ⟨rfl, rfl, rfl, rfl, rfl⟩ := pr5_inv hf
    exact retM hx hb hr hlk hP hD hS dX11_writes_24
  · have hf := ite_f jc3 hf
    refine lv_iload_n hx hb dX11_writes_12 rfl (lv_at hl 2 rfl) ?_
    refine lv_iconst (v := 0) hx hb dX11_writes_13 (by decide) ?_
    refine lv_sipush (v := 999) hx hb dX11_writes_14 (by decide) ?_
    obtain ⟨jr4, je5, hf⟩ := bd1_inv hf
    refine callRS (As := [.int jx2, .int (0 : Int32), .int (999 : Int32)]) (rest := []) S (ctX11_in l D cI cZ jx2 (0 : Int32) (999 : Int32) jr4 je5) (va_cwS 3 hts gX11_writes_X11_in rfl rfl rfl hdX11_in ⟨Nat.le_of_ble_eq_true rfl, Nat.le_of_ble_eq_true rfl⟩) hP [] rfl KX.xs (fun U _ hW => hK.warm hW) rfl hl.1 rfl (Nat.le_of_ble_eq_true rfl) dX11_writes_17 ⟨Nat.zero_le _, Nat.zero_le _⟩ ?_
    refine lv_if_ne (tgt := 25) hx hb dX11_writes_20 (by decide) (fun jc6 => ?_) (fun jc6 => ?_)
    · have hf := ite_f jc6 hf
      refine lv_aload_n hx hb dX11_writes_25 rfl (lv_at hl 0 rfl) ?_
      refine lv_iload_n hx hb dX11_writes_26 rfl (lv_at hl 1 rfl) ?_
      obtain ⟨jr7, je8, hf⟩ := bd1_inv hf
      refine callRV (As := [.int jx1]) (rest := []) S (ctX11_present l D cI cZ a_t a_t_text a_t_draft a_t_s a_t_undos a_t_kept a_t_isKept a_t_seenWay a_t_seenIs a_t_sums a_t_parts a_t_heaps jx1 v_t_copies v_t_s (0 : Int32) v_t_typed v_t_spot v_t_token v_t_place v_t_value v_t_fault v_t_draftCopies v_t_undoMany v_t_seenMany v_t_asked jr7 je8) (cwV 1 hts gX11_writes_X11_present rfl rfl rfl ⟨rfl, hdX11_present⟩ ⟨Nat.le_of_ble_eq_true rfl, Nat.le_of_ble_eq_true rfl⟩) hP [0, 1] rfl KX.xs (fun U _ hW => hK.warm hW) (va_recv hK.1 hP (ci := 11) (q0 := 0) rfl rfl) rfl hl.1 rfl (Nat.le_of_ble_eq_true rfl) dX11_writes_27 ⟨Nat.zero_le _, Nat.zero_le _⟩ ?_
      refine lv_istore_n (lv' := [(3, .int jr7), (0, .ref a_t), (1, .int jx1), (2, .int jx2)]) hx hb dX11_writes_30 rfl hl (by decide) rfl (fun ls hl => ?_)
      refine lv_aload_n hx hb dX11_writes_31 rfl (lv_at hl 1 rfl) ?_
      refine lv_iload_n hx hb dX11_writes_32 rfl (lv_at hl 0 rfl) ?_
      refine lv_bipush (v := 7) hx hb dX11_writes_33 (by decide) ?_
      obtain ⟨jr9, je10, hf⟩ := bd1_inv hf
      refine callRV (As := [.int jr7, .int (7 : Int32)]) (rest := []) S (ctX11_isEnough l D cI cZ a_t a_t_text a_t_draft a_t_s a_t_undos a_t_kept a_t_isKept a_t_seenWay a_t_seenIs a_t_sums a_t_parts a_t_heaps jr7 (7 : Int32) v_t_copies v_t_s (0 : Int32) v_t_typed v_t_spot v_t_token v_t_place v_t_value v_t_fault v_t_draftCopies v_t_undoMany v_t_seenMany v_t_asked jr9 je10) (cwV 2 hts gX11_writes_X11_isEnough rfl rfl rfl ⟨rfl, hdX11_isEnough⟩ ⟨Nat.le_of_ble_eq_true rfl, Nat.le_of_ble_eq_true rfl⟩) hP [0, 1] rfl KX.xs (fun U _ hW => hK.warm hW) (va_recv hK.1 hP (ci := 11) (q0 := 0) rfl rfl) rfl hl.1 rfl (Nat.le_of_ble_eq_true rfl) dX11_writes_35 ⟨Nat.zero_le _, Nat.zero_le _⟩ ?_
      refine lv_if_ne (tgt := 44) hx hb dX11_writes_38 (by decide) (fun jc11 => ?_) (fun jc11 => ?_)
      · have hf := ite_f jc11 hf
        refine lv_aload_n hx hb dX11_writes_44 rfl (lv_at hl 1 rfl) ?_
        obtain ⟨jg12, jg13, je14, hf⟩ := bd2_inv hf
        refine callMV (As := []) (rest := []) (wr := []) (wn := [(a_t, .inr (11, [.int (0 : Int32), .ref a_t_text, .int v_t_typed, .int v_t_spot, .int v_t_token, .int v_t_place, .int v_t_value, .int v_t_fault, .int v_t_copies, .int v_t_draftCopies, .ref a_t_draft, .ref a_t_s, .ref a_t_undos, .int jg12, .ref a_t_kept, .ref a_t_isKept, .ref a_t_seenWay, .ref a_t_seenIs, .int v_t_seenMany, .int v_t_asked, .ref a_t_sums, .ref a_t_parts, .ref a_t_heaps])), (a_t_s, .inl (cI, 103, .inl v_t_s)), (a_t_undos, .inl (cI, 1030, .inl jg13))]) S (ctX11_notes l D cI cZ a_t a_t_text a_t_draft a_t_s a_t_undos a_t_kept a_t_isKept a_t_seenWay a_t_seenIs a_t_sums a_t_parts a_t_heaps v_t_undoMany v_t_s v_t_undos (0 : Int32) v_t_typed v_t_spot v_t_token v_t_place v_t_value v_t_fault v_t_copies v_t_draftCopies v_t_seenMany v_t_asked jg12 jg13 je14) (cwV 0 hts gX11_writes_X11_notes rfl rfl rfl ⟨rfl, hdX11_notes⟩ ⟨Nat.le_of_ble_eq_true rfl, Nat.le_of_ble_eq_true rfl⟩) hP hD hS hA [0, 1, 2] [] [0, 1, 2] rfl rfl (by decide) (by decide) (by decide) (by decide) rfl KX.xs (fun U _ hW => hK.warm hW) (va_recv hK.1 hP (ci := 11) (q0 := 0) rfl rfl) rfl hl.1 rfl (Nat.le_of_ble_eq_true rfl) dX11_writes_45 ⟨Nat.zero_le _, Nat.zero_le _⟩ (fun H locs hP hD hS => ?_)
        refine W.eq (g2 := F0 m 48 ls []) rfl ?_
        refine lv_aload_n hx hb dX11_writes_48 rfl (lv_at hl 1 rfl) ?_
        refine lv_iload_n hx hb dX11_writes_49 rfl (lv_at hl 0 rfl) ?_
        refine lv_bipush (v := 12) hx hb dX11_writes_50 (by decide) ?_
        obtain ⟨jr15, je16, hf⟩ := bd1_inv hf
        refine callRV (As := [.int jr7, .int (12 : Int32)]) (rest := []) S (ctX11_greatest l D cI cZ a_t a_t_text a_t_draft a_t_s a_t_undos a_t_kept a_t_isKept a_t_seenWay a_t_seenIs a_t_sums a_t_parts a_t_heaps jr7 (12 : Int32) v_t_copies v_t_s (0 : Int32) v_t_typed v_t_spot v_t_token v_t_place v_t_value v_t_fault v_t_draftCopies jg12 v_t_seenMany v_t_asked jr15 je16) (cwV 2 hts gX11_writes_X11_greatest rfl rfl rfl ⟨rfl, hdX11_greatest⟩ ⟨Nat.le_of_ble_eq_true rfl, Nat.le_of_ble_eq_true rfl⟩) hP [0, 1] rfl KX.xs (fun U _ hW => hK.warm hW) (va_recv hK.1 hP (ci := 11) (q0 := 0) rfl rfl) rfl hl.1 rfl (Nat.le_of_ble_eq_true rfl) dX11_writes_52 ⟨Nat.zero_le _, Nat.zero_le _⟩ ?_
        refine lv_iconst (v := 1) hx hb dX11_writes_55 (by decide) ?_
        refine lv_iadd hx hb dX11_writes_56 ?_
        refine lv_istore (lv' := [(4, .int (jr15 + (1 : Int32))), (3, .int jr7), (0, .ref a_t), (1, .int jx1), (2, .int jx2)]) hx hb dX11_writes_57 hl (by decide) rfl (fun ls hl => ?_)
        refine lv_aload_n hx hb dX11_writes_59 rfl (lv_at hl 2 rfl) ?_
        refine lv_iload_n hx hb dX11_writes_60 rfl (lv_at hl 1 rfl) ?_
        refine lv_aload_n hx hb dX11_writes_61 rfl (lv_at hl 2 rfl) ?_
        refine lv_iload_n hx hb dX11_writes_62 rfl (lv_at hl 1 rfl) ?_
        refine lv_bipush (v := 24) hx hb dX11_writes_63 (by decide) ?_
        obtain ⟨jr17, je18, hf⟩ := bd1_inv hf
        refine callRV (As := [.int jr7, .int (24 : Int32)]) (rest := [.int jr7, .ref a_t]) S (ctX11_greatest l D cI cZ a_t a_t_text a_t_draft a_t_s a_t_undos a_t_kept a_t_isKept a_t_seenWay a_t_seenIs a_t_sums a_t_parts a_t_heaps jr7 (24 : Int32) v_t_copies v_t_s (0 : Int32) v_t_typed v_t_spot v_t_token v_t_place v_t_value v_t_fault v_t_draftCopies jg12 v_t_seenMany v_t_asked jr17 je18) (cwV 2 hts gX11_writes_X11_greatest rfl rfl rfl ⟨rfl, hdX11_greatest⟩ ⟨Nat.le_of_ble_eq_true rfl, Nat.le_of_ble_eq_true rfl⟩) hP [0, 1] rfl KX.xs (fun U _ hW => hK.warm hW) (va_recv hK.1 hP (ci := 11) (q0 := 0) rfl rfl) rfl hl.1 rfl (Nat.le_of_ble_eq_true rfl) dX11_writes_65 ⟨Nat.zero_le _, Nat.zero_le _⟩ ?_
        refine lv_iload hx hb dX11_writes_68 (lv_at hl 0 rfl) ?_
        refine lv_iload_n hx hb dX11_writes_70 rfl (lv_at hl 4 rfl) ?_
        obtain ⟨jg19, je20, hf⟩ := bd1_inv hf
        refine callMV (As := [.int jr7, .int jr17, .int (jr15 + (1 : Int32)), .int jx2]) (rest := []) (wr := [(a_t_undos, .inl (cI, 1030, .inl jg13))]) (wn := [(a_t, .inr (11, [.int (0 : Int32), .ref a_t_text, .int v_t_typed, .int v_t_spot, .int v_t_token, .int v_t_place, .int v_t_value, .int v_t_fault, .int v_t_copies, .int v_t_draftCopies, .ref a_t_draft, .ref a_t_s, .ref a_t_undos, .int jg12, .ref a_t_kept, .ref a_t_isKept, .ref a_t_seenWay, .ref a_t_seenIs, .int v_t_seenMany, .int v_t_asked, .ref a_t_sums, .ref a_t_parts, .ref a_t_heaps])), (a_t_s, .inl (cI, 103, .inl jg19)), (a_t_undos, .inl (cI, 1030, .inl jg13))]) S (ctX11_gives l D cI cZ a_t a_t_text a_t_draft a_t_s a_t_undos a_t_kept a_t_isKept a_t_seenWay a_t_seenIs a_t_sums a_t_parts a_t_heaps jr7 jr17 (jr15 + (1 : Int32)) jx2 v_t_copies v_t_s (0 : Int32) v_t_typed v_t_spot v_t_token v_t_place v_t_value v_t_fault v_t_draftCopies jg12 v_t_seenMany v_t_asked jg19 je20) (cwV 4 hts gX11_writes_X11_gives rfl rfl rfl ⟨rfl, hdX11_gives⟩ ⟨Nat.le_of_ble_eq_true rfl, Nat.le_of_ble_eq_true rfl⟩) hP hD hS hA [0, 1] [2] [1, 2, 0] rfl rfl (by decide) (by decide) (by decide) (by decide) rfl KX.xs (fun U _ hW => hK.warm hW) (va_recv hK.1 hP (ci := 11) (q0 := 0) rfl rfl) rfl hl.1 rfl (Nat.le_of_ble_eq_true rfl) dX11_writes_71 ⟨Nat.zero_le _, Nat.zero_le _⟩ (fun H locs hP hD hS => ?_)
        refine W.eq (g2 := F0 m 74 ls []) rfl ?_
        refine lv_iload hx hb dX11_writes_74 (lv_at hl 0 rfl) ?_
        obtain ⟨rfl, rfl, rfl, rfl, rfl⟩ := pr5_inv hf
        exact retM hx hb hr hlk hP hD hS dX11_writes_76
      · have hf := ite_t jc11 hf
        refine lv_bipush (v := -4) hx hb dX11_writes_41 (by decide) ?_
        obtain ⟨rfl, rfl, rfl, rfl, rfl⟩ := pr5_inv hf
        exact retM hx hb hr hlk hP hD hS dX11_writes_43
    · have hf := ite_t jc6 hf
      refine lv_iconst (v := -1) hx hb dX11_writes_23 (by decide) ?_
      obtain ⟨rfl, rfl, rfl, rfl, rfl⟩ := pr5_inv hf
      exact retM hx hb hr hlk hP hD hS dX11_writes_24
def fX11_mends_67 (jx2 : Int32) (jx3 : Int32) (jx4 : Int32) (v_t_copies : Int32) : Nat → Int32 → Int32 → Int32 → Int32 → (Nat → Int32) → (Nat → Int32) → Option (Int32 × Int32 × Int32 × (Nat → Int32) × (Nat → Int32))
  | 0, _, _, _, _, _, _ => none
  | n + 1, jx5, jx6, v_t_thrown, v_t_undoMany, v_t_s, v_t_undos => if v_t_copies ≤ jx6 then bd1 (fX11_greatest jx2 (24 : Int32) v_t_copies v_t_s) (fun jr2 => bd1 (fX11_gives jx2 jr2 jx4 jx3 v_t_copies v_t_s) (fun jg4 => some (jx5, v_t_thrown, v_t_undoMany, jg4, v_t_undos))) else bd1 (fX11_has jx2 jx6) (fun jr6 => if jr6 = 0 then (fX11_mends_67 jx2 jx3 jx4 v_t_copies n) (jx5 + (0 : Int32)) (jx6 + (1 : Int32)) v_t_thrown v_t_undoMany v_t_s v_t_undos else ckI 103 ((12 : Int32) + jx6) (if (v_t_s (Int32.toNatClampNeg ((12 : Int32) + jx6))) = jx4 then (fX11_mends_67 jx2 jx3 jx4 v_t_copies n) (jx5 + (0 : Int32)) (jx6 + (1 : Int32)) v_t_thrown v_t_undoMany v_t_s v_t_undos else (fX11_mends_67 jx2 jx3 jx4 v_t_copies n) (jx5 + (1 : Int32)) (jx6 + (1 : Int32)) v_t_thrown v_t_undoMany v_t_s v_t_undos))
theorem fX11_mends_67_s (jx2 : Int32) (jx3 : Int32) (jx4 : Int32) (v_t_copies : Int32) (n : Nat) (jx5 : Int32) (jx6 : Int32) (v_t_thrown : Int32) (v_t_undoMany : Int32) (v_t_s : (Nat → Int32)) (v_t_undos : (Nat → Int32)) : fX11_mends_67 jx2 jx3 jx4 v_t_copies (n + 1) jx5 jx6 v_t_thrown v_t_undoMany v_t_s v_t_undos = if v_t_copies ≤ jx6 then bd1 (fX11_greatest jx2 (24 : Int32) v_t_copies v_t_s) (fun jr2 => bd1 (fX11_gives jx2 jr2 jx4 jx3 v_t_copies v_t_s) (fun jg4 => some (jx5, v_t_thrown, v_t_undoMany, jg4, v_t_undos))) else bd1 (fX11_has jx2 jx6) (fun jr6 => if jr6 = 0 then (fX11_mends_67 jx2 jx3 jx4 v_t_copies n) (jx5 + (0 : Int32)) (jx6 + (1 : Int32)) v_t_thrown v_t_undoMany v_t_s v_t_undos else ckI 103 ((12 : Int32) + jx6) (if (v_t_s (Int32.toNatClampNeg ((12 : Int32) + jx6))) = jx4 then (fX11_mends_67 jx2 jx3 jx4 v_t_copies n) (jx5 + (0 : Int32)) (jx6 + (1 : Int32)) v_t_thrown v_t_undoMany v_t_s v_t_undos else (fX11_mends_67 jx2 jx3 jx4 v_t_copies n) (jx5 + (1 : Int32)) (jx6 + (1 : Int32)) v_t_thrown v_t_undoMany v_t_s v_t_undos)) := rfl
def fX11_mends (jx1 : Int32) (v_t_thrown : Int32) (v_t_copies : Int32) (v_t_undoMany : Int32) (v_t_s : (Nat → Int32)) (v_t_undos : (Nat → Int32)) : Option (Int32 × Int32 × Int32 × (Nat → Int32) × (Nat → Int32)) := bd1 (fX11_isGroup jx1) (fun jr1 => if jr1 = 0 then some ((-1 : Int32), (0 : Int32), v_t_undoMany, v_t_s, v_t_undos) else bd1 (fX11_present jx1 v_t_copies v_t_s) (fun jr4 => bd1 (fX11_isEnough jr4 (6 : Int32) v_t_copies v_t_s) (fun jr6 => if jr6 = 0 then some ((-4 : Int32), (0 : Int32), v_t_undoMany, v_t_s, v_t_undos) else bd1 (fX11_data jr4 v_t_copies v_t_s) (fun jr9 => if jr9 = (-9 : Int32) then some ((-5 : Int32), (0 : Int32), v_t_undoMany, v_t_s, v_t_undos) else bd2 (fX11_notes v_t_undoMany v_t_s v_t_undos) (fun jg12 jg13 => bd1 (fX11_greatest jr4 (12 : Int32) v_t_copies v_t_s) (fun jr15 => fX11_mends_67 jr4 jr9 jr15 v_t_copies fuel (0 : Int32) (0 : Int32) (0 : Int32) jg12 v_t_s jg13))))))
abbrev rmX11_mends : Room := { frames := 3, cells := 0, slots := 0, locals := 69 }
theorem iX11_mends_X11 : ∀ w ∈ wsX110, w ∈ wsX11_mends := fun _ h => List.mem_cons_of_mem _ (List.mem_append_right _ h)
theorem mX11_mends_2 : (Cond.fieldLink RX11 119 "VoteFilesModel" "copies" "I") ∈ wsX11_mends := List.mem_of_getElem? (i := 2) rfl
theorem mX11_mends_3 : (Cond.fieldLink RX11 16 "VoteFilesModel" "s" "[I") ∈ wsX11_mends := List.mem_of_getElem? (i := 3) rfl
theorem mX11_mends_1 : (Cond.fieldLink RX11 50 "VoteFilesModel" "thrown" "I") ∈ wsX11_mends := List.mem_of_getElem? (i := 1) rfl
set_option maxHeartbeats 4000000 in
set_option maxRecDepth 100000 in
theorem wX11_mends_67 {p : Program} {l : Launch} {e : Env} {s : State} {m : MethodId} {args : Array Value} {below : List Frame} {meth : Method} {c : Code} {D : va_G} {cI cZ : ClassId} (S : CallFix p m c cX11_mends 7 s args wsX11_mends RX11) (hr : meth.sig.returnType = some .int) (hlk : meth.locks = false) (hK : KX D cI cZ s) {a_t a_t_text a_t_draft a_t_s a_t_undos a_t_kept a_t_isKept a_t_seenWay a_t_seenIs a_t_sums a_t_parts a_t_heaps : Nat} {jx2 : Int32} {jx3 : Int32} {jx4 : Int32} {v_t_copies : Int32} {v_t_typed : Int32} {v_t_spot : Int32} {v_t_token : Int32} {v_t_place : Int32} {v_t_value : Int32} {v_t_fault : Int32} {v_t_draftCopies : Int32} {v_t_seenMany : Int32} {v_t_asked : Int32} {r : Int32} {o_t_thrown : Int32} {o_t_undoMany : Int32} {o_t_s : (Nat → Int32)} {o_t_undos : (Nat → Int32)} {A : Nat → Prop} (hA : ∀ q : Nat, s.heap.size ≤ q → A q) : ∀ (n : Nat), ∀ (jx5 : Int32) (jx6 : Int32) (v_t_thrown : Int32) (v_t_undoMany : Int32) (v_t_s : (Nat → Int32)) (v_t_undos : (Nat → Int32)) (ls : Array Slot) (H : Heap) (locs : List Loc), fX11_mends_67 jx2 jx3 jx4 v_t_copies n jx5 jx6 v_t_thrown v_t_undoMany v_t_s v_t_undos = some (r, o_t_thrown, o_t_undoMany, o_t_s, o_t_undos) → lv_has ls 7 [(0, .ref a_t), (2, .int jx2), (3, .int jx3), (4, .int jx4), (5, .int jx5), (6, .int jx6)] → va_P D vwCl [(a_t, .inr (11, [.int v_t_thrown, .ref a_t_text, .int v_t_typed, .int v_t_spot, .int v_t_token, .int v_t_place, .int v_t_value, .int v_t_fault, .int v_t_copies, .int v_t_draftCopies, .ref a_t_draft, .ref a_t_s, .ref a_t_undos, .int v_t_undoMany, .ref a_t_kept, .ref a_t_isKept, .ref a_t_seenWay, .ref a_t_seenIs, .int v_t_seenMany, .int v_t_asked, .ref a_t_sums, .ref a_t_parts, .ref a_t_heaps])), (a_t_s, .inl (cI, 103, .inl v_t_s)), (a_t_undos, .inl (cI, 1030, .inl v_t_undos))] H → va_D A [(a_t, .inr (11, [.int v_t_thrown, .ref a_t_text, .int v_t_typed, .int v_t_spot, .int v_t_token, .int v_t_place, .int v_t_value, .int v_t_fault, .int v_t_copies, .int v_t_draftCopies, .ref a_t_draft, .ref a_t_s, .ref a_t_undos, .int v_t_undoMany, .ref a_t_kept, .ref a_t_isKept, .ref a_t_seenWay, .ref a_t_seenIs, .int v_t_seenMany, .int v_t_asked, .ref a_t_sums, .ref a_t_parts, .ref a_t_heaps])), (a_t_s, .inl (cI, 103, .inl v_t_s)), (a_t_undos, .inl (cI, 1030, .inl v_t_undos))] → va_S A s.heap H locs → W p l e rmX11_mends s m args below meth c H locs 0 0 (MQ below (qM D (some (.int r)) [(a_t, .inr (11, [.int o_t_thrown, .ref a_t_text, .int v_t_typed, .int v_t_spot, .int v_t_token, .int v_t_place, .int v_t_value, .int v_t_fault, .int v_t_copies, .int v_t_draftCopies, .ref a_t_draft, .ref a_t_s, .ref a_t_undos, .int o_t_undoMany, .ref a_t_kept, .ref a_t_isKept, .ref a_t_seenWay, .ref a_t_seenIs, .int v_t_seenMany, .int v_t_asked, .ref a_t_sums, .ref a_t_parts, .ref a_t_heaps])), (a_t_s, .inl (cI, 103, .inl o_t_s)), (a_t_undos, .inl (cI, 1030, .inl o_t_undos))] A) args s 0 0 A) (F0 m 67 ls []) := by
  obtain ⟨hx, hb, hml, hown, hts⟩ := id S
  intro n
  induction n with
  | zero =>
    intro jx5 jx6 v_t_thrown v_t_undoMany v_t_s v_t_undos ls H locs hf hl hP hD hS
    cases (show (none : Option _) = some _ from hf)
  | succ n ih =>
    intro jx5 jx6 v_t_thrown v_t_undoMany v_t_s v_t_undos ls H locs hf hl hP hD hS
    have hf := (fX11_mends_67_s _ _ _ _ n _ _ _ _ _ _).symm.trans hf
    refine lv_iload hx hb dX11_mends_67 (lv_at hl 5 rfl) ?_
    refine lv_aload_n hx hb dX11_mends_69 rfl (lv_at hl 0 rfl) ?_
    refine va_get (D := D) (ci := 11) (v := .int v_t_copies) (C := RX11) (T := TX11) (N := 23) hx hb hts iX11_mends_X11 hown hK.1 hP 0 rfl rfl 8 (by decide) (hts _ mX11_mends_2) (fun _ h9 => h9) rfl dX11_mends_70 ?_
    refine lv_icmp_ge (tgt := 116) hx hb dX11_mends_73 (by decide) (fun jc1 => ?_) (fun jc1 => ?_)
    · have hf := ite_t jc1 hf
      refine lv_aload_n hx hb dX11_mends_116 rfl (lv_at hl 0 rfl) ?_
      refine lv_iload_n hx hb dX11_mends_117 rfl (lv_at hl 1 rfl) ?_
      refine lv_aload_n hx hb dX11_mends_118 rfl (lv_at hl 0 rfl) ?_
      refine lv_iload_n hx hb dX11_mends_119 rfl (lv_at hl 1 rfl) ?_
      refine lv_bipush (v := 24) hx hb dX11_mends_120 (by decide) ?_
      obtain ⟨jr2, je3, hf⟩ := bd1_inv hf
      refine callRV (As := [.int jx2, .int (24 : Int32)]) (rest := [.int jx2, .ref a_t]) S (ctX11_greatest l D cI cZ a_t a_t_text a_t_draft a_t_s a_t_undos a_t_kept a_t_isKept a_t_seenWay a_t_seenIs a_t_sums a_t_parts a_t_heaps jx2 (24 : Int32) v_t_copies v_t_s v_t_thrown v_t_typed v_t_spot v_t_token v_t_place v_t_value v_t_fault v_t_draftCopies v_t_undoMany v_t_seenMany v_t_asked jr2 je3) (cwV 2 hts gX11_mends_X11_greatest rfl rfl rfl ⟨rfl, hdX11_greatest⟩ ⟨Nat.le_of_ble_eq_true rfl, Nat.le_of_ble_eq_true rfl⟩) hP [0, 1] rfl KX.xs (fun U _ hW => hK.warm hW) (va_recv hK.1 hP (ci := 11) (q0 := 0) rfl rfl) rfl hl.1 rfl (Nat.le_of_ble_eq_true rfl) dX11_mends_122 ⟨Nat.zero_le _, Nat.zero_le _⟩ ?_
      refine lv_iload hx hb dX11_mends_125 (lv_at hl 3 rfl) ?_
      refine lv_iload_n hx hb dX11_mends_127 rfl (lv_at hl 2 rfl) ?_
      obtain ⟨jg4, je5, hf⟩ := bd1_inv hf
      refine callMV (As := [.int jx2, .int jr2, .int jx4, .int jx3]) (rest := []) (wr := [(a_t_undos, .inl (cI, 1030, .inl v_t_undos))]) (wn := [(a_t, .inr (11, [.int v_t_thrown, .ref a_t_text, .int v_t_typed, .int v_t_spot, .int v_t_token, .int v_t_place, .int v_t_value, .int v_t_fault, .int v_t_copies, .int v_t_draftCopies, .ref a_t_draft, .ref a_t_s, .ref a_t_undos, .int v_t_undoMany, .ref a_t_kept, .ref a_t_isKept, .ref a_t_seenWay, .ref a_t_seenIs, .int v_t_seenMany, .int v_t_asked, .ref a_t_sums, .ref a_t_parts, .ref a_t_heaps])), (a_t_s, .inl (cI, 103, .inl jg4)), (a_t_undos, .inl (cI, 1030, .inl v_t_undos))]) S (ctX11_gives l D cI cZ a_t a_t_text a_t_draft a_t_s a_t_undos a_t_kept a_t_isKept a_t_seenWay a_t_seenIs a_t_sums a_t_parts a_t_heaps jx2 jr2 jx4 jx3 v_t_copies v_t_s v_t_thrown v_t_typed v_t_spot v_t_token v_t_place v_t_value v_t_fault v_t_draftCopies v_t_undoMany v_t_seenMany v_t_asked jg4 je5) (cwV 4 hts gX11_mends_X11_gives rfl rfl rfl ⟨rfl, hdX11_gives⟩ ⟨Nat.le_of_ble_eq_true rfl, Nat.le_of_ble_eq_true rfl⟩) hP hD hS hA [0, 1] [2] [1, 2, 0] rfl rfl (by decide) (by decide) (by decide) (by decide) rfl KX.xs (fun U _ hW => hK.warm hW) (va_recv hK.1 hP (ci := 11) (q0 := 0) rfl rfl) rfl hl.1 rfl (Nat.le_of_ble_eq_true rfl) dX11_mends_128 ⟨Nat.zero_le _, Nat.zero_le _⟩ (fun H locs hP hD hS => ?_)
      refine W.eq (g2 := F0 m 131 ls []) rfl ?_
      refine lv_iload hx hb dX11_mends_131 (lv_at hl 4 rfl) ?_
      obtain ⟨rfl, rfl, rfl, rfl, rfl⟩ := pr5_inv hf
      exact retM hx hb hr hlk hP hD hS dX11_mends_133
    · have hf := ite_f jc1 hf
      refine lv_iload hx hb dX11_mends_76 (lv_at hl 4 rfl) ?_
      refine lv_iload_n hx hb dX11_mends_78 rfl (lv_at hl 1 rfl) ?_
      refine lv_iload hx hb dX11_mends_79 (lv_at hl 5 rfl) ?_
      obtain ⟨jr6, je7, hf⟩ := bd1_inv hf
      refine callRS (As := [.int jx2, .int jx6]) (rest := [.int jx5]) S (ctX11_has l D cI cZ jx2 jx6 jr6 je7) (va_cwS 2 hts gX11_mends_X11_has rfl rfl rfl hdX11_has ⟨Nat.le_of_ble_eq_true rfl, Nat.le_of_ble_eq_true rfl⟩) hP [] rfl KX.xs (fun U _ hW => hK.warm hW) rfl hl.1 rfl (Nat.le_of_ble_eq_true rfl) dX11_mends_81 ⟨Nat.zero_le _, Nat.zero_le _⟩ ?_
      refine lv_if_eq (tgt := 106) hx hb dX11_mends_84 (by decide) (fun jc8 => ?_) (fun jc8 => ?_)
      · have hf := ite_t jc8 hf
        refine lv_iconst (v := 0) hx hb dX11_mends_106 (by decide) ?_
        refine lv_iadd hx hb dX11_mends_107 ?_
        refine lv_istore (lv' := [(5, .int (jx5 + (0 : Int32))), (0, .ref a_t), (2, .int jx2), (3, .int jx3), (4, .int jx4), (6, .int jx6)]) hx hb dX11_mends_108 hl (by decide) rfl (fun ls hl => ?_)
        refine lv_iinc (v := (jx6 + (1 : Int32))) (lv' := [(6, .int (jx6 + (1 : Int32))), (5, .int (jx5 + (0 : Int32))), (0, .ref a_t), (2, .int jx2), (3, .int jx3), (4, .int jx4)]) hx hb dX11_mends_110 hl (k := 5) rfl rfl (by decide) rfl (fun ls hl => ?_)
        refine lv_goto (tgt := 67) hx hb dX11_mends_113 (by decide) ?_
        exact ih (jx5 + (0 : Int32)) (jx6 + (1 : Int32)) v_t_thrown v_t_undoMany v_t_s v_t_undos ls _ _ hf (lv_sub hl [2, 3, 4, 5, 1, 0] rfl) hP hD hS
      · have hf := ite_f jc8 hf
        refine lv_aload_n hx hb dX11_mends_87 rfl (lv_at hl 0 rfl) ?_
        refine va_get (D := D) (ci := 11) (v := .ref a_t_s) (C := RX11) (T := TX11) (N := 23) hx hb hts iX11_mends_X11 hown hK.1 hP 0 rfl rfl 11 (by decide) (hts _ mX11_mends_3) (fun _ h9 => h9) rfl dX11_mends_88 ?_
        refine lv_bipush (v := 12) hx hb dX11_mends_91 (by decide) ?_
        refine lv_iload hx hb dX11_mends_93 (lv_at hl 5 rfl) ?_
        refine lv_iadd hx hb dX11_mends_95 ?_
        obtain ⟨jh9, hf⟩ := ckI_inv hf
        refine va_iald hx hb hK.1 hP 1 0 rfl rfl jh9 dX11_mends_96 ?_
        refine lv_iload hx hb dX11_mends_97 (lv_at hl 3 rfl) ?_
        refine lv_icmp_eq (tgt := 106) hx hb dX11_mends_99 (by decide) (fun jc10 => ?_) (fun jc10 => ?_)
        · have hf := ite_t jc10 hf
          refine lv_iconst (v := 0) hx hb dX11_mends_106 (by decide) ?_
          refine lv_iadd hx hb dX11_mends_107 ?_
          refine lv_istore (lv' := [(5, .int (jx5 + (0 : Int32))), (0, .ref a_t), (2, .int jx2), (3, .int jx3), (4, .int jx4), (6, .int jx6)]) hx hb dX11_mends_108 hl (by decide) rfl (fun ls hl => ?_)
          refine lv_iinc (v := (jx6 + (1 : Int32))) (lv' := [(6, .int (jx6 + (1 : Int32))), (5, .int (jx5 + (0 : Int32))), (0, .ref a_t), (2, .int jx2), (3, .int jx3), (4, .int jx4)]) hx hb dX11_mends_110 hl (k := 5) rfl rfl (by decide) rfl (fun ls hl => ?_)
          refine lv_goto (tgt := 67) hx hb dX11_mends_113 (by decide) ?_
          exact ih (jx5 + (0 : Int32)) (jx6 + (1 : Int32)) v_t_thrown v_t_undoMany v_t_s v_t_undos ls _ _ hf (lv_sub hl [2, 3, 4, 5, 1, 0] rfl) hP hD hS
        · have hf := ite_f jc10 hf
          refine lv_iconst (v := 1) hx hb dX11_mends_102 (by decide) ?_
          refine lv_goto (tgt := 107) hx hb dX11_mends_103 (by decide) ?_
          refine lv_iadd hx hb dX11_mends_107 ?_
          refine lv_istore (lv' := [(5, .int (jx5 + (1 : Int32))), (0, .ref a_t), (2, .int jx2), (3, .int jx3), (4, .int jx4), (6, .int jx6)]) hx hb dX11_mends_108 hl (by decide) rfl (fun ls hl => ?_)
          refine lv_iinc (v := (jx6 + (1 : Int32))) (lv' := [(6, .int (jx6 + (1 : Int32))), (5, .int (jx5 + (1 : Int32))), (0, .ref a_t), (2, .int jx2), (3, .int jx3), (4, .int jx4)]) hx hb dX11_mends_110 hl (k := 5) rfl rfl (by decide) rfl (fun ls hl => ?_)
          refine lv_goto (tgt := 67) hx hb dX11_mends_113 (by decide) ?_
          exact ih (jx5 + (1 : Int32)) (jx6 + (1 : Int32)) v_t_thrown v_t_undoMany v_t_s v_t_undos ls _ _ hf (lv_sub hl [2, 3, 4, 5, 1, 0] rfl) hP hD hS
theorem hdX11_mends : yX11_mends.cls ≠ "java/lang/invoke/MethodHandle" ∧ yX11_mends.cls ≠ "java/lang/invoke/VarHandle" ∧ (parseMethodDescriptor yX11_mends.desc).map (fun d => d.parameters.length) = some 1 := by decide +kernel
set_option maxHeartbeats 4000000 in
set_option maxRecDepth 100000 in
theorem ctX11_mends (l : Launch) (D : va_G) (cI cZ : ClassId) (a_t a_t_text a_t_draft a_t_s a_t_undos a_t_kept a_t_isKept a_t_seenWay a_t_seenIs a_t_sums a_t_parts a_t_heaps : Nat) (jx1 : Int32) (v_t_thrown : Int32) (v_t_copies : Int32) (v_t_undoMany : Int32) (v_t_s : (Nat → Int32)) (v_t_undos : (Nat → Int32)) (v_t_typed : Int32) (v_t_spot : Int32) (v_t_token : Int32) (v_t_place : Int32) (v_t_value : Int32) (v_t_fault : Int32) (v_t_draftCopies : Int32) (v_t_seenMany : Int32) (v_t_asked : Int32) (r : Int32) (o_t_thrown : Int32) (o_t_undoMany : Int32) (o_t_s : (Nat → Int32)) (o_t_undos : (Nat → Int32)) (hf : fX11_mends jx1 v_t_thrown v_t_copies v_t_undoMany v_t_s v_t_undos = some (r, o_t_thrown, o_t_undoMany, o_t_s, o_t_undos)) : cM l yX11_mends wsX11_mends rmX11_mends [.ref a_t, .int jx1] D [(a_t, .inr (11, [.int v_t_thrown, .ref a_t_text, .int v_t_typed, .int v_t_spot, .int v_t_token, .int v_t_place, .int v_t_value, .int v_t_fault, .int v_t_copies, .int v_t_draftCopies, .ref a_t_draft, .ref a_t_s, .ref a_t_undos, .int v_t_undoMany, .ref a_t_kept, .ref a_t_isKept, .ref a_t_seenWay, .ref a_t_seenIs, .int v_t_seenMany, .int v_t_asked, .ref a_t_sums, .ref a_t_parts, .ref a_t_heaps])), (a_t_s, .inl (cI, 103, .inl v_t_s)), (a_t_undos, .inl (cI, 1030, .inl v_t_undos))] [(a_t, .inr (11, [.int o_t_thrown, .ref a_t_text, .int v_t_typed, .int v_t_spot, .int v_t_token, .int v_t_place, .int v_t_value, .int v_t_fault, .int v_t_copies, .int v_t_draftCopies, .ref a_t_draft, .ref a_t_s, .ref a_t_undos, .int o_t_undoMany, .ref a_t_kept, .ref a_t_isKept, .ref a_t_seenWay, .ref a_t_seenIs, .int v_t_seenMany, .int v_t_asked, .ref a_t_sums, .ref a_t_parts, .ref a_t_heaps])), (a_t_s, .inl (cI, 103, .inl o_t_s)), (a_t_undos, .inl (cI, 1030, .inl o_t_undos))] (KX D cI cZ) (some (.int r)) := by
  refine cM_of (cc := cX11_mends) (maxL := 7) (ret := some .int) (by decide +kernel) rfl _ (Nat.le_of_ble_eq_true rfl) ?_
  intro p e s m below meth c ls A S hr hlk hP hK hl hD hA hS
  obtain ⟨hx, hb, hml, hown, hts⟩ := id S
  have hl : lv_has ls 7 [(0, .ref a_t), (1, .int jx1)] := hl
  unfold fX11_mends at hf
  refine lv_aload_n hx hb dX11_mends_0 rfl (lv_at hl 0 rfl) ?_
  refine lv_iconst (v := 0) hx hb dX11_mends_1 (by decide) ?_
  refine va_put (D := D) (ci := 11) (v := .int (0 : Int32)) (ty := .int) (C := RX11) (T := TX11) (N := 23) hx hb hts iX11_mends_X11 tyX11 tyX11_ok nmX11 hown hK.1 hP hD hS 0 rfl rfl 0 (by decide) (hts _ mX11_mends_1) (fun _ h9 => h9) rfl (tyX11_ok 0 (by decide)) rfl rfl (Nat.le_of_ble_eq_true rfl) dX11_mends_2 (fun H locs hP hD hS => ?_)
  have hP : va_P D vwCl [(a_t, .inr (11, [.int (0 : Int32), .ref a_t_text, .int v_t_typed, .int v_t_spot, .int v_t_token, .int v_t_place, .int v_t_value, .int v_t_fault, .int v_t_copies, .int v_t_draftCopies, .ref a_t_draft, .ref a_t_s, .ref a_t_undos, .int v_t_undoMany, .ref a_t_kept, .ref a_t_isKept, .ref a_t_seenWay, .ref a_t_seenIs, .int v_t_seenMany, .int v_t_asked, .ref a_t_sums, .ref a_t_parts, .ref a_t_heaps])), (a_t_s, .inl (cI, 103, .inl v_t_s)), (a_t_undos, .inl (cI, 1030, .inl v_t_undos))] H := hP
  have hD : va_D A [(a_t, .inr (11, [.int (0 : Int32), .ref a_t_text, .int v_t_typed, .int v_t_spot, .int v_t_token, .int v_t_place, .int v_t_value, .int v_t_fault, .int v_t_copies, .int v_t_draftCopies, .ref a_t_draft, .ref a_t_s, .ref a_t_undos, .int v_t_undoMany, .ref a_t_kept, .ref a_t_isKept, .ref a_t_seenWay, .ref a_t_seenIs, .int v_t_seenMany, .int v_t_asked, .ref a_t_sums, .ref a_t_parts, .ref a_t_heaps])), (a_t_s, .inl (cI, 103, .inl v_t_s)), (a_t_undos, .inl (cI, 1030, .inl v_t_undos))] := hD
  refine lv_iload_n hx hb dX11_mends_5 rfl (lv_at hl 1 rfl) ?_
  obtain ⟨jr1, je2, hf⟩ := bd1_inv hf
  refine callRS (As := [.int jx1]) (rest := []) S (ctX11_isGroup l D cI cZ jx1 jr1 je2) (va_cwS 1 hts gX11_mends_X11_isGroup rfl rfl rfl hdX11_isGroup ⟨Nat.le_of_ble_eq_true rfl, Nat.le_of_ble_eq_true rfl⟩) hP [] rfl KX.xs (fun U _ hW => hK.warm hW) rfl hl.1 rfl (Nat.le_of_ble_eq_true rfl) dX11_mends_6 ⟨Nat.zero_le _, Nat.zero_le _⟩ ?_
  refine lv_if_ne (tgt := 14) hx hb dX11_mends_9 (by decide) (fun jc3 => ?_) (fun jc3 => ?_)
  · have hf := ite_f jc3 hf
    refine lv_aload_n hx hb dX11_mends_14 rfl (lv_at hl 0 rfl) ?_
    refine lv_iload_n hx hb dX11_mends_15 rfl (lv_at hl 1 rfl) ?_
    obtain ⟨jr4, je5, hf⟩ := bd1_inv hf
    refine callRV (As := [.int jx1]) (rest := []) S (ctX11_present l D cI cZ a_t a_t_text a_t_draft a_t_s a_t_undos a_t_kept a_t_isKept a_t_seenWay a_t_seenIs a_t_sums a_t_parts a_t_heaps jx1 v_t_copies v_t_s (0 : Int32) v_t_typed v_t_spot v_t_token v_t_place v_t_value v_t_fault v_t_draftCopies v_t_undoMany v_t_seenMany v_t_asked jr4 je5) (cwV 1 hts gX11_mends_X11_present rfl rfl rfl ⟨rfl, hdX11_present⟩ ⟨Nat.le_of_ble_eq_true rfl, Nat.le_of_ble_eq_true rfl⟩) hP [0, 1] rfl KX.xs (fun U _ hW => hK.warm hW) (va_recv hK.1 hP (ci := 11) (q0 := 0) rfl rfl) rfl hl.1 rfl (Nat.le_of_ble_eq_true rfl) dX11_mends_16 ⟨Nat.zero_le _, Nat.zero_le _⟩ ?_
    refine lv_istore_n (lv' := [(2, .int jr4), (0, .ref a_t), (1, .int jx1)]) hx hb dX11_mends_19 rfl hl (by decide) rfl (fun ls hl => ?_)
    refine lv_aload_n hx hb dX11_mends_20 rfl (lv_at hl 1 rfl) ?_
    refine lv_iload_n hx hb dX11_mends_21 rfl (lv_at hl 0 rfl) ?_
    refine lv_bipush (v := 6) hx hb dX11_mends_22 (by decide) ?_
    obtain ⟨jr6, je7, hf⟩ := bd1_inv hf
    refine callRV (As := [.int jr4, .int (6 : Int32)]) (rest := []) S (ctX11_isEnough l D cI cZ a_t a_t_text a_t_draft a_t_s a_t_undos a_t_kept a_t_isKept a_t_seenWay a_t_seenIs a_t_sums a_t_parts a_t_heaps jr4 (6 : Int32) v_t_copies v_t_s (0 : Int32) v_t_typed v_t_spot v_t_token v_t_place v_t_value v_t_fault v_t_draftCopies v_t_undoMany v_t_seenMany v_t_asked jr6 je7) (cwV 2 hts gX11_mends_X11_isEnough rfl rfl rfl ⟨rfl, hdX11_isEnough⟩ ⟨Nat.le_of_ble_eq_true rfl, Nat.le_of_ble_eq_true rfl⟩) hP [0, 1] rfl KX.xs (fun U _ hW => hK.warm hW) (va_recv hK.1 hP (ci := 11) (q0 := 0) rfl rfl) rfl hl.1 rfl (Nat.le_of_ble_eq_true rfl) dX11_mends_24 ⟨Nat.zero_le _, Nat.zero_le _⟩ ?_
    refine lv_if_ne (tgt := 33) hx hb dX11_mends_27 (by decide) (fun jc8 => ?_) (fun jc8 => ?_)
    · have hf := ite_f jc8 hf
      refine lv_aload_n hx hb dX11_mends_33 rfl (lv_at hl 1 rfl) ?_
      refine lv_iload_n hx hb dX11_mends_34 rfl (lv_at hl 0 rfl) ?_
      obtain ⟨jr9, je10, hf⟩ := bd1_inv hf
      refine callRV (As := [.int jr4]) (rest := []) S (ctX11_data l D cI cZ a_t a_t_text a_t_draft a_t_s a_t_undos a_t_kept a_t_isKept a_t_seenWay a_t_seenIs a_t_sums a_t_parts a_t_heaps jr4 v_t_copies v_t_s (0 : Int32) v_t_typed v_t_spot v_t_token v_t_place v_t_value v_t_fault v_t_draftCopies v_t_undoMany v_t_seenMany v_t_asked jr9 je10) (cwV 1 hts gX11_mends_X11_data rfl rfl rfl ⟨rfl, hdX11_data⟩ ⟨Nat.le_of_ble_eq_true rfl, Nat.le_of_ble_eq_true rfl⟩) hP [0, 1] rfl KX.xs (fun U _ hW => hK.warm hW) (va_recv hK.1 hP (ci := 11) (q0 := 0) rfl rfl) rfl hl.1 rfl (Nat.le_of_ble_eq_true rfl) dX11_mends_35 ⟨Nat.zero_le _, Nat.zero_le _⟩ ?_
      refine lv_istore_n (lv' := [(3, .int jr9), (2, .int jr4), (0, .ref a_t), (1, .int jx1)]) hx hb dX11_mends_38 rfl hl (by decide) rfl (fun ls hl => ?_)
      refine lv_iload_n hx hb dX11_mends_39 rfl (lv_at hl 0 rfl) ?_
      refine lv_bipush (v := -9) hx hb dX11_mends_40 (by decide) ?_
      refine lv_icmp_ne (tgt := 48) hx hb dX11_mends_42 (by decide) (fun jc11 => ?_) (fun jc11 => ?_)
      · have hf := ite_f jc11 hf
        refine lv_aload_n hx hb dX11_mends_48 rfl (lv_at hl 2 rfl) ?_
        obtain ⟨jg12, jg13, je14, hf⟩ := bd2_inv hf
        refine callMV (As := []) (rest := []) (wr := []) (wn := [(a_t, .inr (11, [.int (0 : Int32), .ref a_t_text, .int v_t_typed, .int v_t_spot, .int v_t_token, .int v_t_place, .int v_t_value, .int v_t_fault, .int v_t_copies, .int v_t_draftCopies, .ref a_t_draft, .ref a_t_s, .ref a_t_undos, .int jg12, .ref a_t_kept, .ref a_t_isKept, .ref a_t_seenWay, .ref a_t_seenIs, .int v_t_seenMany, .int v_t_asked, .ref a_t_sums, .ref a_t_parts, .ref a_t_heaps])), (a_t_s, .inl (cI, 103, .inl v_t_s)), (a_t_undos, .inl (cI, 1030, .inl jg13))]) S (ctX11_notes l D cI cZ a_t a_t_text a_t_draft a_t_s a_t_undos a_t_kept a_t_isKept a_t_seenWay a_t_seenIs a_t_sums a_t_parts a_t_heaps v_t_undoMany v_t_s v_t_undos (0 : Int32) v_t_typed v_t_spot v_t_token v_t_place v_t_value v_t_fault v_t_copies v_t_draftCopies v_t_seenMany v_t_asked jg12 jg13 je14) (cwV 0 hts gX11_mends_X11_notes rfl rfl rfl ⟨rfl, hdX11_notes⟩ ⟨Nat.le_of_ble_eq_true rfl, Nat.le_of_ble_eq_true rfl⟩) hP hD hS hA [0, 1, 2] [] [0, 1, 2] rfl rfl (by decide) (by decide) (by decide) (by decide) rfl KX.xs (fun U _ hW => hK.warm hW) (va_recv hK.1 hP (ci := 11) (q0 := 0) rfl rfl) rfl hl.1 rfl (Nat.le_of_ble_eq_true rfl) dX11_mends_49 ⟨Nat.zero_le _, Nat.zero_le _⟩ (fun H locs hP hD hS => ?_)
        refine W.eq (g2 := F0 m 52 ls []) rfl ?_
        refine lv_aload_n hx hb dX11_mends_52 rfl (lv_at hl 2 rfl) ?_
        refine lv_iload_n hx hb dX11_mends_53 rfl (lv_at hl 1 rfl) ?_
        refine lv_bipush (v := 12) hx hb dX11_mends_54 (by decide) ?_
        obtain ⟨jr15, je16, hf⟩ := bd1_inv hf
        refine callRV (As := [.int jr4, .int (12 : Int32)]) (rest := []) S (ctX11_greatest l D cI cZ a_t a_t_text a_t_draft a_t_s a_t_undos a_t_kept a_t_isKept a_t_seenWay a_t_seenIs a_t_sums a_t_parts a_t_heaps jr4 (12 : Int32) v_t_copies v_t_s (0 : Int32) v_t_typed v_t_spot v_t_token v_t_place v_t_value v_t_fault v_t_draftCopies jg12 v_t_seenMany v_t_asked jr15 je16) (cwV 2 hts gX11_mends_X11_greatest rfl rfl rfl ⟨rfl, hdX11_greatest⟩ ⟨Nat.le_of_ble_eq_true rfl, Nat.le_of_ble_eq_true rfl⟩) hP [0, 1] rfl KX.xs (fun U _ hW => hK.warm hW) (va_recv hK.1 hP (ci := 11) (q0 := 0) rfl rfl) rfl hl.1 rfl (Nat.le_of_ble_eq_true rfl) dX11_mends_56 ⟨Nat.zero_le _, Nat.zero_le _⟩ ?_
        refine lv_istore (lv' := [(4, .int jr15), (3, .int jr9), (2, .int jr4), (0, .ref a_t), (1, .int jx1)]) hx hb dX11_mends_59 hl (by decide) rfl (fun ls hl => ?_)
        refine lv_iconst (v := 0) hx hb dX11_mends_61 (by decide) ?_
        refine lv_istore (lv' := [(5, .int (0 : Int32)), (4, .int jr15), (3, .int jr9), (2, .int jr4), (0, .ref a_t), (1, .int jx1)]) hx hb dX11_mends_62 hl (by decide) rfl (fun ls hl => ?_)
        refine lv_iconst (v := 0) hx hb dX11_mends_64 (by decide) ?_
        refine lv_istore (lv' := [(6, .int (0 : Int32)), (5, .int (0 : Int32)), (4, .int jr15), (3, .int jr9), (2, .int jr4), (0, .ref a_t), (1, .int jx1)]) hx hb dX11_mends_65 hl (by decide) rfl (fun ls hl => ?_)
        exact wX11_mends_67 S hr hlk hK hA fuel (0 : Int32) (0 : Int32) (0 : Int32) jg12 v_t_s jg13 ls _ _ hf (lv_sub hl [5, 4, 3, 2, 1, 0] rfl) hP hD hS
      · have hf := ite_t jc11 hf
        refine lv_bipush (v := -5) hx hb dX11_mends_45 (by decide) ?_
        obtain ⟨rfl, rfl, rfl, rfl, rfl⟩ := pr5_inv hf
        exact retM hx hb hr hlk hP hD hS dX11_mends_47
    · have hf := ite_t jc8 hf
      refine lv_bipush (v := -4) hx hb dX11_mends_30 (by decide) ?_
      obtain ⟨rfl, rfl, rfl, rfl, rfl⟩ := pr5_inv hf
      exact retM hx hb hr hlk hP hD hS dX11_mends_32
  · have hf := ite_t jc3 hf
    refine lv_iconst (v := -1) hx hb dX11_mends_12 (by decide) ?_
    obtain ⟨rfl, rfl, rfl, rfl, rfl⟩ := pr5_inv hf
    exact retM hx hb hr hlk hP hD hS dX11_mends_13
def fX11_votes_195 (jx2 : Int32) (jx3 : Int32) (jx4 : Int32) (jx5 : Int32) (jx6 : Int32) (jx7 : Int32) (jx8 : Int32) (jx9 : Int32) (jx10 : Int32) (jx11 : Int32) (v_t_copies : Int32) : Nat → Int32 → Int32 → Int32 → (Nat → Int32) → (Nat → Int32) → Option (Int32 × Int32 × Int32 × (Nat → Int32) × (Nat → Int32))
  | 0, _, _, _, _, _ => none
  | n + 1, jx12, v_t_thrown, v_t_undoMany, v_t_s, v_t_undos => if (9 : Int32) ≤ jx12 then ckI 103 (jx11 + jx2) (ckI 103 (jx11 + (6 : Int32)) (ckI 103 (jx11 + (7 : Int32)) (ckI 103 (jx11 + (8 : Int32)) (ckI 103 (jx11 + (8 : Int32)) (ckI 103 (jx11 + (8 : Int32)) (ckI 103 (jx11 + (8 : Int32)) (ckI 103 (30 : Int32) (ckI 103 (30 : Int32) (bd1 (fX11_greatest jx7 (12 : Int32) v_t_copies (upd (upd (upd (upd (upd (upd v_t_s (Int32.toNatClampNeg (jx11 + jx2)) jx3) (Int32.toNatClampNeg (jx11 + (6 : Int32))) jx5) (Int32.toNatClampNeg (jx11 + (7 : Int32))) jx6) (Int32.toNatClampNeg (jx11 + (8 : Int32))) (((upd (upd (upd v_t_s (Int32.toNatClampNeg (jx11 + jx2)) jx3) (Int32.toNatClampNeg (jx11 + (6 : Int32))) jx5) (Int32.toNatClampNeg (jx11 + (7 : Int32))) jx6) (Int32.toNatClampNeg (jx11 + (8 : Int32)))) &&& (((1 : Int32) <<< (jx2 &&& 31)) ^^^ (-1 : Int32)))) (Int32.toNatClampNeg (jx11 + (8 : Int32))) (((upd (upd (upd (upd v_t_s (Int32.toNatClampNeg (jx11 + jx2)) jx3) (Int32.toNatClampNeg (jx11 + (6 : Int32))) jx5) (Int32.toNatClampNeg (jx11 + (7 : Int32))) jx6) (Int32.toNatClampNeg (jx11 + (8 : Int32))) (((upd (upd (upd v_t_s (Int32.toNatClampNeg (jx11 + jx2)) jx3) (Int32.toNatClampNeg (jx11 + (6 : Int32))) jx5) (Int32.toNatClampNeg (jx11 + (7 : Int32))) jx6) (Int32.toNatClampNeg (jx11 + (8 : Int32)))) &&& (((1 : Int32) <<< (jx2 &&& 31)) ^^^ (-1 : Int32)))) (Int32.toNatClampNeg (jx11 + (8 : Int32)))) ||| (jx4 <<< (jx2 &&& 31)))) (Int32.toNatClampNeg (30 : Int32)) (((upd (upd (upd (upd (upd v_t_s (Int32.toNatClampNeg (jx11 + jx2)) jx3) (Int32.toNatClampNeg (jx11 + (6 : Int32))) jx5) (Int32.toNatClampNeg (jx11 + (7 : Int32))) jx6) (Int32.toNatClampNeg (jx11 + (8 : Int32))) (((upd (upd (upd v_t_s (Int32.toNatClampNeg (jx11 + jx2)) jx3) (Int32.toNatClampNeg (jx11 + (6 : Int32))) jx5) (Int32.toNatClampNeg (jx11 + (7 : Int32))) jx6) (Int32.toNatClampNeg (jx11 + (8 : Int32)))) &&& (((1 : Int32) <<< (jx2 &&& 31)) ^^^ (-1 : Int32)))) (Int32.toNatClampNeg (jx11 + (8 : Int32))) (((upd (upd (upd (upd v_t_s (Int32.toNatClampNeg (jx11 + jx2)) jx3) (Int32.toNatClampNeg (jx11 + (6 : Int32))) jx5) (Int32.toNatClampNeg (jx11 + (7 : Int32))) jx6) (Int32.toNatClampNeg (jx11 + (8 : Int32))) (((upd (upd (upd v_t_s (Int32.toNatClampNeg (jx11 + jx2)) jx3) (Int32.toNatClampNeg (jx11 + (6 : Int32))) jx5) (Int32.toNatClampNeg (jx11 + (7 : Int32))) jx6) (Int32.toNatClampNeg (jx11 + (8 : Int32)))) &&& (((1 : Int32) <<< (jx2 &&& 31)) ^^^ (-1 : Int32)))) (Int32.toNatClampNeg (jx11 + (8 : Int32)))) ||| (jx4 <<< (jx2 &&& 31)))) (Int32.toNatClampNeg (30 : Int32))) + (1 : Int32)))) (fun jr11 => bd1 (fX11_gives jx7 jx10 jr11 jx9 v_t_copies (upd (upd (upd (upd (upd (upd v_t_s (Int32.toNatClampNeg (jx11 + jx2)) jx3) (Int32.toNatClampNeg (jx11 + (6 : Int32))) jx5) (Int32.toNatClampNeg (jx11 + (7 : Int32))) jx6) (Int32.toNatClampNeg (jx11 + (8 : Int32))) (((upd (upd (upd v_t_s (Int32.toNatClampNeg (jx11 + jx2)) jx3) (Int32.toNatClampNeg (jx11 + (6 : Int32))) jx5) (Int32.toNatClampNeg (jx11 + (7 : Int32))) jx6) (Int32.toNatClampNeg (jx11 + (8 : Int32)))) &&& (((1 : Int32) <<< (jx2 &&& 31)) ^^^ (-1 : Int32)))) (Int32.toNatClampNeg (jx11 + (8 : Int32))) (((upd (upd (upd (upd v_t_s (Int32.toNatClampNeg (jx11 + jx2)) jx3) (Int32.toNatClampNeg (jx11 + (6 : Int32))) jx5) (Int32.toNatClampNeg (jx11 + (7 : Int32))) jx6) (Int32.toNatClampNeg (jx11 + (8 : Int32))) (((upd (upd (upd v_t_s (Int32.toNatClampNeg (jx11 + jx2)) jx3) (Int32.toNatClampNeg (jx11 + (6 : Int32))) jx5) (Int32.toNatClampNeg (jx11 + (7 : Int32))) jx6) (Int32.toNatClampNeg (jx11 + (8 : Int32)))) &&& (((1 : Int32) <<< (jx2 &&& 31)) ^^^ (-1 : Int32)))) (Int32.toNatClampNeg (jx11 + (8 : Int32)))) ||| (jx4 <<< (jx2 &&& 31)))) (Int32.toNatClampNeg (30 : Int32)) (((upd (upd (upd (upd (upd v_t_s (Int32.toNatClampNeg (jx11 + jx2)) jx3) (Int32.toNatClampNeg (jx11 + (6 : Int32))) jx5) (Int32.toNatClampNeg (jx11 + (7 : Int32))) jx6) (Int32.toNatClampNeg (jx11 + (8 : Int32))) (((upd (upd (upd v_t_s (Int32.toNatClampNeg (jx11 + jx2)) jx3) (Int32.toNatClampNeg (jx11 + (6 : Int32))) jx5) (Int32.toNatClampNeg (jx11 + (7 : Int32))) jx6) (Int32.toNatClampNeg (jx11 + (8 : Int32)))) &&& (((1 : Int32) <<< (jx2 &&& 31)) ^^^ (-1 : Int32)))) (Int32.toNatClampNeg (jx11 + (8 : Int32))) (((upd (upd (upd (upd v_t_s (Int32.toNatClampNeg (jx11 + jx2)) jx3) (Int32.toNatClampNeg (jx11 + (6 : Int32))) jx5) (Int32.toNatClampNeg (jx11 + (7 : Int32))) jx6) (Int32.toNatClampNeg (jx11 + (8 : Int32))) (((upd (upd (upd v_t_s (Int32.toNatClampNeg (jx11 + jx2)) jx3) (Int32.toNatClampNeg (jx11 + (6 : Int32))) jx5) (Int32.toNatClampNeg (jx11 + (7 : Int32))) jx6) (Int32.toNatClampNeg (jx11 + (8 : Int32)))) &&& (((1 : Int32) <<< (jx2 &&& 31)) ^^^ (-1 : Int32)))) (Int32.toNatClampNeg (jx11 + (8 : Int32)))) ||| (jx4 <<< (jx2 &&& 31)))) (Int32.toNatClampNeg (30 : Int32))) + (1 : Int32)))) (fun jg13 => some (jx10, v_t_thrown, v_t_undoMany, jg13, v_t_undos)))))))))))) else ckI 103 (jx8 + jx12) (ckI 103 (jx11 + jx12) ((fX11_votes_195 jx2 jx3 jx4 jx5 jx6 jx7 jx8 jx9 jx10 jx11 v_t_copies n) (jx12 + (1 : Int32)) v_t_thrown v_t_undoMany (upd v_t_s (Int32.toNatClampNeg (jx11 + jx12)) (v_t_s (Int32.toNatClampNeg (jx8 + jx12)))) v_t_undos))
theorem fX11_votes_195_s (jx2 : Int32) (jx3 : Int32) (jx4 : Int32) (jx5 : Int32) (jx6 : Int32) (jx7 : Int32) (jx8 : Int32) (jx9 : Int32) (jx10 : Int32) (jx11 : Int32) (v_t_copies : Int32) (n : Nat) (jx12 : Int32) (v_t_thrown : Int32) (v_t_undoMany : Int32) (v_t_s : (Nat → Int32)) (v_t_undos : (Nat → Int32)) : fX11_votes_195 jx2 jx3 jx4 jx5 jx6 jx7 jx8 jx9 jx10 jx11 v_t_copies (n + 1) jx12 v_t_thrown v_t_undoMany v_t_s v_t_undos = if (9 : Int32) ≤ jx12 then ckI 103 (jx11 + jx2) (ckI 103 (jx11 + (6 : Int32)) (ckI 103 (jx11 + (7 : Int32)) (ckI 103 (jx11 + (8 : Int32)) (ckI 103 (jx11 + (8 : Int32)) (ckI 103 (jx11 + (8 : Int32)) (ckI 103 (jx11 + (8 : Int32)) (ckI 103 (30 : Int32) (ckI 103 (30 : Int32) (bd1 (fX11_greatest jx7 (12 : Int32) v_t_copies (upd (upd (upd (upd (upd (upd v_t_s (Int32.toNatClampNeg (jx11 + jx2)) jx3) (Int32.toNatClampNeg (jx11 + (6 : Int32))) jx5) (Int32.toNatClampNeg (jx11 + (7 : Int32))) jx6) (Int32.toNatClampNeg (jx11 + (8 : Int32))) (((upd (upd (upd v_t_s (Int32.toNatClampNeg (jx11 + jx2)) jx3) (Int32.toNatClampNeg (jx11 + (6 : Int32))) jx5) (Int32.toNatClampNeg (jx11 + (7 : Int32))) jx6) (Int32.toNatClampNeg (jx11 + (8 : Int32)))) &&& (((1 : Int32) <<< (jx2 &&& 31)) ^^^ (-1 : Int32)))) (Int32.toNatClampNeg (jx11 + (8 : Int32))) (((upd (upd (upd (upd v_t_s (Int32.toNatClampNeg (jx11 + jx2)) jx3) (Int32.toNatClampNeg (jx11 + (6 : Int32))) jx5) (Int32.toNatClampNeg (jx11 + (7 : Int32))) jx6) (Int32.toNatClampNeg (jx11 + (8 : Int32))) (((upd (upd (upd v_t_s (Int32.toNatClampNeg (jx11 + jx2)) jx3) (Int32.toNatClampNeg (jx11 + (6 : Int32))) jx5) (Int32.toNatClampNeg (jx11 + (7 : Int32))) jx6) (Int32.toNatClampNeg (jx11 + (8 : Int32)))) &&& (((1 : Int32) <<< (jx2 &&& 31)) ^^^ (-1 : Int32)))) (Int32.toNatClampNeg (jx11 + (8 : Int32)))) ||| (jx4 <<< (jx2 &&& 31)))) (Int32.toNatClampNeg (30 : Int32)) (((upd (upd (upd (upd (upd v_t_s (Int32.toNatClampNeg (jx11 + jx2)) jx3) (Int32.toNatClampNeg (jx11 + (6 : Int32))) jx5) (Int32.toNatClampNeg (jx11 + (7 : Int32))) jx6) (Int32.toNatClampNeg (jx11 + (8 : Int32))) (((upd (upd (upd v_t_s (Int32.toNatClampNeg (jx11 + jx2)) jx3) (Int32.toNatClampNeg (jx11 + (6 : Int32))) jx5) (Int32.toNatClampNeg (jx11 + (7 : Int32))) jx6) (Int32.toNatClampNeg (jx11 + (8 : Int32)))) &&& (((1 : Int32) <<< (jx2 &&& 31)) ^^^ (-1 : Int32)))) (Int32.toNatClampNeg (jx11 + (8 : Int32))) (((upd (upd (upd (upd v_t_s (Int32.toNatClampNeg (jx11 + jx2)) jx3) (Int32.toNatClampNeg (jx11 + (6 : Int32))) jx5) (Int32.toNatClampNeg (jx11 + (7 : Int32))) jx6) (Int32.toNatClampNeg (jx11 + (8 : Int32))) (((upd (upd (upd v_t_s (Int32.toNatClampNeg (jx11 + jx2)) jx3) (Int32.toNatClampNeg (jx11 + (6 : Int32))) jx5) (Int32.toNatClampNeg (jx11 + (7 : Int32))) jx6) (Int32.toNatClampNeg (jx11 + (8 : Int32)))) &&& (((1 : Int32) <<< (jx2 &&& 31)) ^^^ (-1 : Int32)))) (Int32.toNatClampNeg (jx11 + (8 : Int32)))) ||| (jx4 <<< (jx2 &&& 31)))) (Int32.toNatClampNeg (30 : Int32))) + (1 : Int32)))) (fun jr11 => bd1 (fX11_gives jx7 jx10 jr11 jx9 v_t_copies (upd (upd (upd (upd (upd (upd v_t_s (Int32.toNatClampNeg (jx11 + jx2)) jx3) (Int32.toNatClampNeg (jx11 + (6 : Int32))) jx5) (Int32.toNatClampNeg (jx11 + (7 : Int32))) jx6) (Int32.toNatClampNeg (jx11 + (8 : Int32))) (((upd (upd (upd v_t_s (Int32.toNatClampNeg (jx11 + jx2)) jx3) (Int32.toNatClampNeg (jx11 + (6 : Int32))) jx5) (Int32.toNatClampNeg (jx11 + (7 : Int32))) jx6) (Int32.toNatClampNeg (jx11 + (8 : Int32)))) &&& (((1 : Int32) <<< (jx2 &&& 31)) ^^^ (-1 : Int32)))) (Int32.toNatClampNeg (jx11 + (8 : Int32))) (((upd (upd (upd (upd v_t_s (Int32.toNatClampNeg (jx11 + jx2)) jx3) (Int32.toNatClampNeg (jx11 + (6 : Int32))) jx5) (Int32.toNatClampNeg (jx11 + (7 : Int32))) jx6) (Int32.toNatClampNeg (jx11 + (8 : Int32))) (((upd (upd (upd v_t_s (Int32.toNatClampNeg (jx11 + jx2)) jx3) (Int32.toNatClampNeg (jx11 + (6 : Int32))) jx5) (Int32.toNatClampNeg (jx11 + (7 : Int32))) jx6) (Int32.toNatClampNeg (jx11 + (8 : Int32)))) &&& (((1 : Int32) <<< (jx2 &&& 31)) ^^^ (-1 : Int32)))) (Int32.toNatClampNeg (jx11 + (8 : Int32)))) ||| (jx4 <<< (jx2 &&& 31)))) (Int32.toNatClampNeg (30 : Int32)) (((upd (upd (upd (upd (upd v_t_s (Int32.toNatClampNeg (jx11 + jx2)) jx3) (Int32.toNatClampNeg (jx11 + (6 : Int32))) jx5) (Int32.toNatClampNeg (jx11 + (7 : Int32))) jx6) (Int32.toNatClampNeg (jx11 + (8 : Int32))) (((upd (upd (upd v_t_s (Int32.toNatClampNeg (jx11 + jx2)) jx3) (Int32.toNatClampNeg (jx11 + (6 : Int32))) jx5) (Int32.toNatClampNeg (jx11 + (7 : Int32))) jx6) (Int32.toNatClampNeg (jx11 + (8 : Int32)))) &&& (((1 : Int32) <<< (jx2 &&& 31)) ^^^ (-1 : Int32)))) (Int32.toNatClampNeg (jx11 + (8 : Int32))) (((upd (upd (upd (upd v_t_s (Int32.toNatClampNeg (jx11 + jx2)) jx3) (Int32.toNatClampNeg (jx11 + (6 : Int32))) jx5) (Int32.toNatClampNeg (jx11 + (7 : Int32))) jx6) (Int32.toNatClampNeg (jx11 + (8 : Int32))) (((upd (upd (upd v_t_s (Int32.toNatClampNeg (jx11 + jx2)) jx3) (Int32.toNatClampNeg (jx11 + (6 : Int32))) jx5) (Int32.toNatClampNeg (jx11 + (7 : Int32))) jx6) (Int32.toNatClampNeg (jx11 + (8 : Int32)))) &&& (((1 : Int32) <<< (jx2 &&& 31)) ^^^ (-1 : Int32)))) (Int32.toNatClampNeg (jx11 + (8 : Int32)))) ||| (jx4 <<< (jx2 &&& 31)))) (Int32.toNatClampNeg (30 : Int32))) + (1 : Int32)))) (fun jg13 => some (jx10, v_t_thrown, v_t_undoMany, jg13, v_t_undos)))))))))))) else ckI 103 (jx8 + jx12) (ckI 103 (jx11 + jx12) ((fX11_votes_195 jx2 jx3 jx4 jx5 jx6 jx7 jx8 jx9 jx10 jx11 v_t_copies n) (jx12 + (1 : Int32)) v_t_thrown v_t_undoMany (upd v_t_s (Int32.toNatClampNeg (jx11 + jx12)) (v_t_s (Int32.toNatClampNeg (jx8 + jx12)))) v_t_undos)) := rfl
def fX11_votes (jx1 : Int32) (jx2 : Int32) (jx3 : Int32) (jx4 : Int32) (jx5 : Int32) (jx6 : Int32) (v_t_thrown : Int32) (v_t_copies : Int32) (v_t_undoMany : Int32) (v_t_s : (Nat → Int32)) (v_t_undos : (Nat → Int32)) : Option (Int32 × Int32 × Int32 × (Nat → Int32) × (Nat → Int32)) := bd1 (fX11_isGroup jx1) (fun jr1 => if jr1 = 0 then some ((-1 : Int32), (0 : Int32), v_t_undoMany, v_t_s, v_t_undos) else bd1 (fX11_isCopy jx2 v_t_copies) (fun jr4 => if jr4 = 0 then some ((-1 : Int32), (0 : Int32), v_t_undoMany, v_t_s, v_t_undos) else bd1 (fX11_in jx3 (0 : Int32) (5 : Int32)) (fun jr7 => if jr7 = 0 then some ((-1 : Int32), (0 : Int32), v_t_undoMany, v_t_s, v_t_undos) else bd1 (fX11_in jx4 (0 : Int32) (1 : Int32)) (fun jr10 => if jr10 = 0 then some ((-1 : Int32), (0 : Int32), v_t_undoMany, v_t_s, v_t_undos) else bd1 (fX11_in jx5 (1 : Int32) (30 : Int32)) (fun jr13 => if jr13 = 0 then some ((-1 : Int32), (0 : Int32), v_t_undoMany, v_t_s, v_t_undos) else bd1 (fX11_in jx6 (1 : Int32) (30 : Int32)) (fun jr16 => if jr16 = 0 then some ((-1 : Int32), (0 : Int32), v_t_undoMany, v_t_s, v_t_undos) else ckI 103 (30 : Int32) (if (v_t_s (Int32.toNatClampNeg (30 : Int32))) = (8 : Int32) then some ((-3 : Int32), (0 : Int32), v_t_undoMany, v_t_s, v_t_undos) else bd1 (fX11_present jx1 v_t_copies v_t_s) (fun jr21 => if jr21 = 0 then some ((-4 : Int32), (0 : Int32), v_t_undoMany, v_t_s, v_t_undos) else bd1 (fX11_greatest jr21 (24 : Int32) v_t_copies v_t_s) (fun jr24 => bd1 (fX11_confAt jr24) (fun jr26 => bd1 (fX11_totalOf 103 jr26 v_t_s) (fun jr28 => ckI 103 (jr26 + jx2) (bd1 (fX11_isLawful ((jr28 - (v_t_s (Int32.toNatClampNeg (jr26 + jx2)))) + jx3) jx5 jx6) (fun jr31 => if jr31 = 0 then some ((-2 : Int32), (0 : Int32), v_t_undoMany, v_t_s, v_t_undos) else bd1 (fX11_isEnough jr21 (7 : Int32) v_t_copies v_t_s) (fun jr34 => if jr34 = 0 then some ((-4 : Int32), (0 : Int32), v_t_undoMany, v_t_s, v_t_undos) else bd1 (fX11_data jr21 v_t_copies v_t_s) (fun jr37 => if jr37 = (-9 : Int32) then some ((-5 : Int32), (0 : Int32), v_t_undoMany, v_t_s, v_t_undos) else bd2 (fX11_notes v_t_undoMany v_t_s v_t_undos) (fun jg40 jg41 => ckI 103 (30 : Int32) (bd1 (fX11_confAt (v_t_s (Int32.toNatClampNeg (30 : Int32)))) (fun jr44 => fX11_votes_195 jx2 jx3 jx4 jx5 jx6 jr21 jr26 jr37 (v_t_s (Int32.toNatClampNeg (30 : Int32))) jr44 v_t_copies fuel (0 : Int32) (0 : Int32) jg40 v_t_s jg41))))))))))))))))))
abbrev rmX11_votes : Room := { frames := 3, cells := 0, slots := 0, locals := 69 }
theorem iX11_votes_X11 : ∀ w ∈ wsX110, w ∈ wsX11_votes := fun _ h => List.mem_cons_of_mem _ (List.mem_append_right _ h)
theorem mX11_votes_2 : (Cond.fieldLink RX11 16 "VoteFilesModel" "s" "[I") ∈ wsX11_votes := List.mem_of_getElem? (i := 2) rfl
theorem mX11_votes_1 : (Cond.fieldLink RX11 50 "VoteFilesModel" "thrown" "I") ∈ wsX11_votes := List.mem_of_getElem? (i := 1) rfl
set_option maxHeartbeats 4000000 in
set_option maxRecDepth 100000 in
theorem wX11_votes_195 {p : Program} {l : Launch} {e : Env} {s : State} {m : MethodId} {args : Array Value} {below : List Frame} {meth : Method} {c : Code} {D : va_G} {cI cZ : ClassId} (S : CallFix p m c cX11_votes 13 s args wsX11_votes RX11) (hr : meth.sig.returnType = some .int) (hlk : meth.locks = false) (hK : KX D cI cZ s) {a_t a_t_text a_t_draft a_t_s a_t_undos a_t_kept a_t_isKept a_t_seenWay a_t_seenIs a_t_sums a_t_parts a_t_heaps : Nat} {jx2 : Int32} {jx3 : Int32} {jx4 : Int32} {jx5 : Int32} {jx6 : Int32} {jx7 : Int32} {jx8 : Int32} {jx9 : Int32} {jx10 : Int32} {jx11 : Int32} {v_t_copies : Int32} {v_t_typed : Int32} {v_t_spot : Int32} {v_t_token : Int32} {v_t_place : Int32} {v_t_value : Int32} {v_t_fault : Int32} {v_t_draftCopies : Int32} {v_t_seenMany : Int32} {v_t_asked : Int32} {r : Int32} {o_t_thrown : Int32} {o_t_undoMany : Int32} {o_t_s : (Nat → Int32)} {o_t_undos : (Nat → Int32)} {A : Nat → Prop} (hA : ∀ q : Nat, s.heap.size ≤ q → A q) : ∀ (n : Nat), ∀ (jx12 : Int32) (v_t_thrown : Int32) (v_t_undoMany : Int32) (v_t_s : (Nat → Int32)) (v_t_undos : (Nat → Int32)) (ls : Array Slot) (H : Heap) (locs : List Loc), fX11_votes_195 jx2 jx3 jx4 jx5 jx6 jx7 jx8 jx9 jx10 jx11 v_t_copies n jx12 v_t_thrown v_t_undoMany v_t_s v_t_undos = some (r, o_t_thrown, o_t_undoMany, o_t_s, o_t_undos) → lv_has ls 13 [(0, .ref a_t), (2, .int jx2), (3, .int jx3), (4, .int jx4), (5, .int jx5), (6, .int jx6), (7, .int jx7), (8, .int jx8), (9, .int jx9), (10, .int jx10), (11, .int jx11), (12, .int jx12)] → va_P D vwCl [(a_t, .inr (11, [.int v_t_thrown, .ref a_t_text, .int v_t_typed, .int v_t_spot, .int v_t_token, .int v_t_place, .int v_t_value, .int v_t_fault, .int v_t_copies, .int v_t_draftCopies, .ref a_t_draft, .ref a_t_s, .ref a_t_undos, .int v_t_undoMany, .ref a_t_kept, .ref a_t_isKept, .ref a_t_seenWay, .ref a_t_seenIs, .int v_t_seenMany, .int v_t_asked, .ref a_t_sums, .ref a_t_parts, .ref a_t_heaps])), (a_t_s, .inl (cI, 103, .inl v_t_s)), (a_t_undos, .inl (cI, 1030, .inl v_t_undos))] H → va_D A [(a_t, .inr (11, [.int v_t_thrown, .ref a_t_text, .int v_t_typed, .int v_t_spot, .int v_t_token, .int v_t_place, .int v_t_value, .int v_t_fault, .int v_t_copies, .int v_t_draftCopies, .ref a_t_draft, .ref a_t_s, .ref a_t_undos, .int v_t_undoMany, .ref a_t_kept, .ref a_t_isKept, .ref a_t_seenWay, .ref a_t_seenIs, .int v_t_seenMany, .int v_t_asked, .ref a_t_sums, .ref a_t_parts, .ref a_t_heaps])), (a_t_s, .inl (cI, 103, .inl v_t_s)), (a_t_undos, .inl (cI, 1030, .inl v_t_undos))] → va_S A s.heap H locs → W p l e rmX11_votes s m args below meth c H locs 0 0 (MQ below (qM D (some (.int r)) [(a_t, .inr (11, [.int o_t_thrown, .ref a_t_text, .int v_t_typed, .int v_t_spot, .int v_t_token, .int v_t_place, .int v_t_value, .int v_t_fault, .int v_t_copies, .int v_t_draftCopies, .ref a_t_draft, .ref a_t_s, .ref a_t_undos, .int o_t_undoMany, .ref a_t_kept, .ref a_t_isKept, .ref a_t_seenWay, .ref a_t_seenIs, .int v_t_seenMany, .int v_t_asked, .ref a_t_sums, .ref a_t_parts, .ref a_t_heaps])), (a_t_s, .inl (cI, 103, .inl o_t_s)), (a_t_undos, .inl (cI, 1030, .inl o_t_undos))] A) args s 0 0 A) (F0 m 195 ls []) := by
  obtain ⟨hx, hb, hml, hown, hts⟩ := id S
  intro n
  induction n with
  | zero =>
    intro jx12 v_t_thrown v_t_undoMany v_t_s v_t_undos ls H locs hf hl hP hD hS
    cases (show (none : Option _) = some _ from hf)
  | succ n ih =>
    intro jx12 v_t_thrown v_t_undoMany v_t_s v_t_undos ls H locs hf hl hP hD hS
    have hf := (fX11_votes_195_s _ _ _ _ _ _ _ _ _ _ _ n _ _ _ _ _).symm.trans hf
    refine lv_iload hx hb dX11_votes_195 (lv_at hl 11 rfl) ?_
    refine lv_bipush (v := 9) hx hb dX11_votes_197 (by decide) ?_
    refine lv_icmp_ge (tgt := 228) hx hb dX11_votes_199 (by decide) (fun jc1 => ?_) (fun jc1 => ?_)
    · have hf := ite_t jc1 hf
      refine lv_aload_n hx hb dX11_votes_228 rfl (lv_at hl 0 rfl) ?_
      refine va_get (D := D) (ci := 11) (v := .ref a_t_s) (C := RX11) (T := TX11) (N := 23) hx hb hts iX11_votes_X11 hown hK.1 hP 0 rfl rfl 11 (by decide) (hts _ mX11_votes_2) (fun _ h9 => h9) rfl dX11_votes_229 ?_
      refine lv_iload hx hb dX11_votes_232 (lv_at hl 10 rfl) ?_
      refine lv_iload_n hx hb dX11_votes_234 rfl (lv_at hl 1 rfl) ?_
      refine lv_iadd hx hb dX11_votes_235 ?_
      refine lv_iload_n hx hb dX11_votes_236 rfl (lv_at hl 2 rfl) ?_
      obtain ⟨jh2, hf⟩ := ckI_inv hf
      refine va_iast hx hb hK.1 hP hD hS 1 0 rfl rfl jh2 dX11_votes_237 (fun H locs hP hD hS => ?_)
      have hP : va_P D vwCl [(a_t, .inr (11, [.int v_t_thrown, .ref a_t_text, .int v_t_typed, .int v_t_spot, .int v_t_token, .int v_t_place, .int v_t_value, .int v_t_fault, .int v_t_copies, .int v_t_draftCopies, .ref a_t_draft, .ref a_t_s, .ref a_t_undos, .int v_t_undoMany, .ref a_t_kept, .ref a_t_isKept, .ref a_t_seenWay, .ref a_t_seenIs, .int v_t_seenMany, .int v_t_asked, .ref a_t_sums, .ref a_t_parts, .ref a_t_heaps])), (a_t_s, .inl (cI, 103, .inl (upd v_t_s (Int32.toNatClampNeg (jx11 + jx2)) jx3))), (a_t_undos, .inl (cI, 1030, .inl v_t_undos))] H := hP
      have hD : va_D A [(a_t, .inr (11, [.int v_t_thrown, .ref a_t_text, .int v_t_typed, .int v_t_spot, .int v_t_token, .int v_t_place, .int v_t_value, .int v_t_fault, .int v_t_copies, .int v_t_draftCopies, .ref a_t_draft, .ref a_t_s, .ref a_t_undos, .int v_t_undoMany, .ref a_t_kept, .ref a_t_isKept, .ref a_t_seenWay, .ref a_t_seenIs, .int v_t_seenMany, .int v_t_asked, .ref a_t_sums, .ref a_t_parts, .ref a_t_heaps])), (a_t_s, .inl (cI, 103, .inl (upd v_t_s (Int32.toNatClampNeg (jx11 + jx2)) jx3))), (a_t_undos, .inl (cI, 1030, .inl v_t_undos))] := hD
      refine lv_aload_n hx hb dX11_votes_238 rfl (lv_at hl 0 rfl) ?_
      refine va_get (D := D) (ci := 11) (v := .ref a_t_s) (C := RX11) (T := TX11) (N := 23) hx hb hts iX11_votes_X11 hown hK.1 hP 0 rfl rfl 11 (by decide) (hts _ mX11_votes_2) (fun _ h9 => h9) rfl dX11_votes_239 ?_
      refine lv_iload hx hb dX11_votes_242 (lv_at hl 10 rfl) ?_
      refine lv_bipush (v := 6) hx hb dX11_votes_244 (by decide) ?_
      refine lv_iadd hx hb dX11_votes_246 ?_
      refine lv_iload hx hb dX11_votes_247 (lv_at hl 4 rfl) ?_
      obtain ⟨jh3, hf⟩ := ckI_inv hf
      refine va_iast hx hb hK.1 hP hD hS 1 0 rfl rfl jh3 dX11_votes_249 (fun H locs hP hD hS => ?_)
      have hP : va_P D vwCl [(a_t, .inr (11, [.int v_t_thrown, .ref a_t_text, .int v_t_typed, .int v_t_spot, .int v_t_token, .int v_t_place, .int v_t_value, .int v_t_fault, .int v_t_copies, .int v_t_draftCopies, .ref a_t_draft, .ref a_t_s, .ref a_t_undos, .int v_t_undoMany, .ref a_t_kept, .ref a_t_isKept, .ref a_t_seenWay, .ref a_t_seenIs, .int v_t_seenMany, .int v_t_asked, .ref a_t_sums, .ref a_t_parts, .ref a_t_heaps])), (a_t_s, .inl (cI, 103, .inl (upd (upd v_t_s (Int32.toNatClampNeg (jx11 + jx2)) jx3) (Int32.toNatClampNeg (jx11 + (6 : Int32))) jx5))), (a_t_undos, .inl (cI, 1030, .inl v_t_undos))] H := hP
      have hD : va_D A [(a_t, .inr (11, [.int v_t_thrown, .ref a_t_text, .int v_t_typed, .int v_t_spot, .int v_t_token, .int v_t_place, .int v_t_value, .int v_t_fault, .int v_t_copies, .int v_t_draftCopies, .ref a_t_draft, .ref a_t_s, .ref a_t_undos, .int v_t_undoMany, .ref a_t_kept, .ref a_t_isKept, .ref a_t_seenWay, .ref a_t_seenIs, .int v_t_seenMany, .int v_t_asked, .ref a_t_sums, .ref a_t_parts, .ref a_t_heaps])), (a_t_s, .inl (cI, 103, .inl (upd (upd v_t_s (Int32.toNatClampNeg (jx11 + jx2)) jx3) (Int32.toNatClampNeg (jx11 + (6 : Int32))) jx5))), (a_t_undos, .inl (cI, 1030, .inl v_t_undos))] := hD
      refine lv_aload_n hx hb dX11_votes_250 rfl (lv_at hl 0 rfl) ?_
      refine va_get (D := D) (ci := 11) (v := .ref a_t_s) (C := RX11) (T := TX11) (N := 23) hx hb hts iX11_votes_X11 hown hK.1 hP 0 rfl rfl 11 (by decide) (hts _ mX11_votes_2) (fun _ h9 => h9) rfl dX11_votes_251 ?_
      refine lv_iload hx hb dX11_votes_254 (lv_at hl 10 rfl) ?_
      refine lv_bipush (v := 7) hx hb dX11_votes_256 (by decide) ?_
      refine lv_iadd hx hb dX11_votes_258 ?_
      refine lv_iload hx hb dX11_votes_259 (lv_at hl 5 rfl) ?_
      obtain ⟨jh4, hf⟩ := ckI_inv hf
      refine va_iast hx hb hK.1 hP hD hS 1 0 rfl rfl jh4 dX11_votes_261 (fun H locs hP hD hS => ?_)
      have hP : va_P D vwCl [(a_t, .inr (11, [.int v_t_thrown, .ref a_t_text, .int v_t_typed, .int v_t_spot, .int v_t_token, .int v_t_place, .int v_t_value, .int v_t_fault, .int v_t_copies, .int v_t_draftCopies, .ref a_t_draft, .ref a_t_s, .ref a_t_undos, .int v_t_undoMany, .ref a_t_kept, .ref a_t_isKept, .ref a_t_seenWay, .ref a_t_seenIs, .int v_t_seenMany, .int v_t_asked, .ref a_t_sums, .ref a_t_parts, .ref a_t_heaps])), (a_t_s, .inl (cI, 103, .inl (upd (upd (upd v_t_s (Int32.toNatClampNeg (jx11 + jx2)) jx3) (Int32.toNatClampNeg (jx11 + (6 : Int32))) jx5) (Int32.toNatClampNeg (jx11 + (7 : Int32))) jx6))), (a_t_undos, .inl (cI, 1030, .inl v_t_undos))] H := hP
      have hD : va_D A [(a_t, .inr (11, [.int v_t_thrown, .ref a_t_text, .int v_t_typed, .int v_t_spot, .int v_t_token, .int v_t_place, .int v_t_value, .int v_t_fault, .int v_t_copies, .int v_t_draftCopies, .ref a_t_draft, .ref a_t_s, .ref a_t_undos, .int v_t_undoMany, .ref a_t_kept, .ref a_t_isKept, .ref a_t_seenWay, .ref a_t_seenIs, .int v_t_seenMany, .int v_t_asked, .ref a_t_sums, .ref a_t_parts, .ref a_t_heaps])), (a_t_s, .inl (cI, 103, .inl (upd (upd (upd v_t_s (Int32.toNatClampNeg (jx11 + jx2)) jx3) (Int32.toNatClampNeg (jx11 + (6 : Int32))) jx5) (Int32.toNatClampNeg (jx11 + (7 : Int32))) jx6))), (a_t_undos, .inl (cI, 1030, .inl v_t_undos))] := hD
      refine lv_aload_n hx hb dX11_votes_262 rfl (lv_at hl 0 rfl) ?_
      refine va_get (D := D) (ci := 11) (v := .ref a_t_s) (C := RX11) (T := TX11) (N := 23) hx hb hts iX11_votes_X11 hown hK.1 hP 0 rfl rfl 11 (by decide) (hts _ mX11_votes_2) (fun _ h9 => h9) rfl dX11_votes_263 ?_
      refine lv_iload hx hb dX11_votes_266 (lv_at hl 10 rfl) ?_
      refine lv_bipush (v := 8) hx hb dX11_votes_268 (by decide) ?_
      refine lv_iadd hx hb dX11_votes_270 ?_
      refine lv_dup2_11 hx hb dX11_votes_271 rfl rfl ?_
      obtain ⟨jh5, hf⟩ := ckI_inv hf
      refine va_iald hx hb hK.1 hP 1 0 rfl rfl jh5 dX11_votes_272 ?_
      refine lv_iconst (v := 1) hx hb dX11_votes_273 (by decide) ?_
      refine lv_iload_n hx hb dX11_votes_274 rfl (lv_at hl 1 rfl) ?_
      refine lv_ishl hx hb dX11_votes_275 ?_
      refine lv_iconst (v := -1) hx hb dX11_votes_276 (by decide) ?_
      refine lv_ixor hx hb dX11_votes_277 ?_
      refine lv_iand hx hb dX11_votes_278 ?_
      obtain ⟨jh6, hf⟩ := ckI_inv hf
      refine va_iast hx hb hK.1 hP hD hS 1 0 rfl rfl jh6 dX11_votes_279 (fun H locs hP hD hS => ?_)
      have hP : va_P D vwCl [(a_t, .inr (11, [.int v_t_thrown, .ref a_t_text, .int v_t_typed, .int v_t_spot, .int v_t_token, .int v_t_place, .int v_t_value, .int v_t_fault, .int v_t_copies, .int v_t_draftCopies, .ref a_t_draft, .ref a_t_s, .ref a_t_undos, .int v_t_undoMany, .ref a_t_kept, .ref a_t_isKept, .ref a_t_seenWay, .ref a_t_seenIs, .int v_t_seenMany, .int v_t_asked, .ref a_t_sums, .ref a_t_parts, .ref a_t_heaps])), (a_t_s, .inl (cI, 103, .inl (upd (upd (upd (upd v_t_s (Int32.toNatClampNeg (jx11 + jx2)) jx3) (Int32.toNatClampNeg (jx11 + (6 : Int32))) jx5) (Int32.toNatClampNeg (jx11 + (7 : Int32))) jx6) (Int32.toNatClampNeg (jx11 + (8 : Int32))) (((upd (upd (upd v_t_s (Int32.toNatClampNeg (jx11 + jx2)) jx3) (Int32.toNatClampNeg (jx11 + (6 : Int32))) jx5) (Int32.toNatClampNeg (jx11 + (7 : Int32))) jx6) (Int32.toNatClampNeg (jx11 + (8 : Int32)))) &&& (((1 : Int32) <<< (jx2 &&& 31)) ^^^ (-1 : Int32)))))), (a_t_undos, .inl (cI, 1030, .inl v_t_undos))] H := hP
      have hD : va_D A [(a_t, .inr (11, [.int v_t_thrown, .ref a_t_text, .int v_t_typed, .int v_t_spot, .int v_t_token, .int v_t_place, .int v_t_value, .int v_t_fault, .int v_t_copies, .int v_t_draftCopies, .ref a_t_draft, .ref a_t_s, .ref a_t_undos, .int v_t_undoMany, .ref a_t_kept, .ref a_t_isKept, .ref a_t_seenWay, .ref a_t_seenIs, .int v_t_seenMany, .int v_t_asked, .ref a_t_sums, .ref a_t_parts, .ref a_t_heaps])), (a_t_s, .inl (cI, 103, .inl (upd (upd (upd (upd v_t_s (Int32.toNatClampNeg (jx11 + jx2)) jx3) (Int32.toNatClampNeg (jx11 + (6 : Int32))) jx5) (Int32.toNatClampNeg (jx11 + (7 : Int32))) jx6) (Int32.toNatClampNeg (jx11 + (8 : Int32))) (((upd (upd (upd v_t_s (Int32.toNatClampNeg (jx11 + jx2)) jx3) (Int32.toNatClampNeg (jx11 + (6 : Int32))) jx5) (Int32.toNatClampNeg (jx11 + (7 : Int32))) jx6) (Int32.toNatClampNeg (jx11 + (8 : Int32)))) &&& (((1 : Int32) <<< (jx2 &&& 31)) ^^^ (-1 : Int32)))))), (a_t_undos, .inl (cI, 1030, .inl v_t_undos))] := hD
      refine lv_aload_n hx hb dX11_votes_280 rfl (lv_at hl 0 rfl) ?_
      refine va_get (D := D) (ci := 11) (v := .ref a_t_s) (C := RX11) (T := TX11) (N := 23) hx hb hts iX11_votes_X11 hown hK.1 hP 0 rfl rfl 11 (by decide) (hts _ mX11_votes_2) (fun _ h9 => h9) rfl dX11_votes_281 ?_
      refine lv_iload hx hb dX11_votes_284 (lv_at hl 10 rfl) ?_
      refine lv_bipush (v := 8) hx hb dX11_votes_286 (by decide) ?_
      refine lv_iadd hx hb dX11_votes_288 ?_
      refine lv_dup2_11 hx hb dX11_votes_289 rfl rfl ?_
      obtain ⟨jh7, hf⟩ := ckI_inv hf
      refine va_iald hx hb hK.1 hP 1 0 rfl rfl jh7 dX11_votes_290 ?_
      refine lv_iload hx hb dX11_votes_291 (lv_at hl 3 rfl) ?_
      refine lv_iload_n hx hb dX11_votes_293 rfl (lv_at hl 1 rfl) ?_
      refine lv_ishl hx hb dX11_votes_294 ?_
      refine lv_ior hx hb dX11_votes_295 ?_
      obtain ⟨jh8, hf⟩ := ckI_inv hf
      refine va_iast hx hb hK.1 hP hD hS 1 0 rfl rfl jh8 dX11_votes_296 (fun H locs hP hD hS => ?_)
      have hP : va_P D vwCl [(a_t, .inr (11, [.int v_t_thrown, .ref a_t_text, .int v_t_typed, .int v_t_spot, .int v_t_token, .int v_t_place, .int v_t_value, .int v_t_fault, .int v_t_copies, .int v_t_draftCopies, .ref a_t_draft, .ref a_t_s, .ref a_t_undos, .int v_t_undoMany, .ref a_t_kept, .ref a_t_isKept, .ref a_t_seenWay, .ref a_t_seenIs, .int v_t_seenMany, .int v_t_asked, .ref a_t_sums, .ref a_t_parts, .ref a_t_heaps])), (a_t_s, .inl (cI, 103, .inl (upd (upd (upd (upd (upd v_t_s (Int32.toNatClampNeg (jx11 + jx2)) jx3) (Int32.toNatClampNeg (jx11 + (6 : Int32))) jx5) (Int32.toNatClampNeg (jx11 + (7 : Int32))) jx6) (Int32.toNatClampNeg (jx11 + (8 : Int32))) (((upd (upd (upd v_t_s (Int32.toNatClampNeg (jx11 + jx2)) jx3) (Int32.toNatClampNeg (jx11 + (6 : Int32))) jx5) (Int32.toNatClampNeg (jx11 + (7 : Int32))) jx6) (Int32.toNatClampNeg (jx11 + (8 : Int32)))) &&& (((1 : Int32) <<< (jx2 &&& 31)) ^^^ (-1 : Int32)))) (Int32.toNatClampNeg (jx11 + (8 : Int32))) (((upd (upd (upd (upd v_t_s (Int32.toNatClampNeg (jx11 + jx2)) jx3) (Int32.toNatClampNeg (jx11 + (6 : Int32))) jx5) (Int32.toNatClampNeg (jx11 + (7 : Int32))) jx6) (Int32.toNatClampNeg (jx11 + (8 : Int32))) (((upd (upd (upd v_t_s (Int32.toNatClampNeg (jx11 + jx2)) jx3) (Int32.toNatClampNeg (jx11 + (6 : Int32))) jx5) (Int32.toNatClampNeg (jx11 + (7 : Int32))) jx6) (Int32.toNatClampNeg (jx11 + (8 : Int32)))) &&& (((1 : Int32) <<< (jx2 &&& 31)) ^^^ (-1 : Int32)))) (Int32.toNatClampNeg (jx11 + (8 : Int32)))) ||| (jx4 <<< (jx2 &&& 31)))))), (a_t_undos, .inl (cI, 1030, .inl v_t_undos))] H := hP
      have hD : va_D A [(a_t, .inr (11, [.int v_t_thrown, .ref a_t_text, .int v_t_typed, .int v_t_spot, .int v_t_token, .int v_t_place, .int v_t_value, .int v_t_fault, .int v_t_copies, .int v_t_draftCopies, .ref a_t_draft, .ref a_t_s, .ref a_t_undos, .int v_t_undoMany, .ref a_t_kept, .ref a_t_isKept, .ref a_t_seenWay, .ref a_t_seenIs, .int v_t_seenMany, .int v_t_asked, .ref a_t_sums, .ref a_t_parts, .ref a_t_heaps])), (a_t_s, .inl (cI, 103, .inl (upd (upd (upd (upd (upd v_t_s (Int32.toNatClampNeg (jx11 + jx2)) jx3) (Int32.toNatClampNeg (jx11 + (6 : Int32))) jx5) (Int32.toNatClampNeg (jx11 + (7 : Int32))) jx6) (Int32.toNatClampNeg (jx11 + (8 : Int32))) (((upd (upd (upd v_t_s (Int32.toNatClampNeg (jx11 + jx2)) jx3) (Int32.toNatClampNeg (jx11 + (6 : Int32))) jx5) (Int32.toNatClampNeg (jx11 + (7 : Int32))) jx6) (Int32.toNatClampNeg (jx11 + (8 : Int32)))) &&& (((1 : Int32) <<< (jx2 &&& 31)) ^^^ (-1 : Int32)))) (Int32.toNatClampNeg (jx11 + (8 : Int32))) (((upd (upd (upd (upd v_t_s (Int32.toNatClampNeg (jx11 + jx2)) jx3) (Int32.toNatClampNeg (jx11 + (6 : Int32))) jx5) (Int32.toNatClampNeg (jx11 + (7 : Int32))) jx6) (Int32.toNatClampNeg (jx11 + (8 : Int32))) (((upd (upd (upd v_t_s (Int32.toNatClampNeg (jx11 + jx2)) jx3) (Int32.toNatClampNeg (jx11 + (6 : Int32))) jx5) (Int32.toNatClampNeg (jx11 + (7 : Int32))) jx6) (Int32.toNatClampNeg (jx11 + (8 : Int32)))) &&& (((1 : Int32) <<< (jx2 &&& 31)) ^^^ (-1 : Int32)))) (Int32.toNatClampNeg (jx11 + (8 : Int32)))) ||| (jx4 <<< (jx2 &&& 31)))))), (a_t_undos, .inl (cI, 1030, .inl v_t_undos))] := hD
      refine lv_aload_n hx hb dX11_votes_297 rfl (lv_at hl 0 rfl) ?_
      refine va_get (D := D) (ci := 11) (v := .ref a_t_s) (C := RX11) (T := TX11) (N := 23) hx hb hts iX11_votes_X11 hown hK.1 hP 0 rfl rfl 11 (by decide) (hts _ mX11_votes_2) (fun _ h9 => h9) rfl dX11_votes_298 ?_
      refine lv_bipush (v := 30) hx hb dX11_votes_301 (by decide) ?_
      refine lv_dup2_11 hx hb dX11_votes_303 rfl rfl ?_
      obtain ⟨jh9, hf⟩ := ckI_inv hf
      refine va_iald hx hb hK.1 hP 1 0 rfl rfl jh9 dX11_votes_304 ?_
      refine lv_iconst (v := 1) hx hb dX11_votes_305 (by decide) ?_
      refine lv_iadd hx hb dX11_votes_306 ?_
      obtain ⟨jh10, hf⟩ := ckI_inv hf
      refine va_iast hx hb hK.1 hP hD hS 1 0 rfl rfl jh10 dX11_votes_307 (fun H locs hP hD hS => ?_)
      have hP : va_P D vwCl [(a_t, .inr (11, [.int v_t_thrown, .ref a_t_text, .int v_t_typed, .int v_t_spot, .int v_t_token, .int v_t_place, .int v_t_value, .int v_t_fault, .int v_t_copies, .int v_t_draftCopies, .ref a_t_draft, .ref a_t_s, .ref a_t_undos, .int v_t_undoMany, .ref a_t_kept, .ref a_t_isKept, .ref a_t_seenWay, .ref a_t_seenIs, .int v_t_seenMany, .int v_t_asked, .ref a_t_sums, .ref a_t_parts, .ref a_t_heaps])), (a_t_s, .inl (cI, 103, .inl (upd (upd (upd (upd (upd (upd v_t_s (Int32.toNatClampNeg (jx11 + jx2)) jx3) (Int32.toNatClampNeg (jx11 + (6 : Int32))) jx5) (Int32.toNatClampNeg (jx11 + (7 : Int32))) jx6) (Int32.toNatClampNeg (jx11 + (8 : Int32))) (((upd (upd (upd v_t_s (Int32.toNatClampNeg (jx11 + jx2)) jx3) (Int32.toNatClampNeg (jx11 + (6 : Int32))) jx5) (Int32.toNatClampNeg (jx11 + (7 : Int32))) jx6) (Int32.toNatClampNeg (jx11 + (8 : Int32)))) &&& (((1 : Int32) <<< (jx2 &&& 31)) ^^^ (-1 : Int32)))) (Int32.toNatClampNeg (jx11 + (8 : Int32))) (((upd (upd (upd (upd v_t_s (Int32.toNatClampNeg (jx11 + jx2)) jx3) (Int32.toNatClampNeg (jx11 + (6 : Int32))) jx5) (Int32.toNatClampNeg (jx11 + (7 : Int32))) jx6) (Int32.toNatClampNeg (jx11 + (8 : Int32))) (((upd (upd (upd v_t_s (Int32.toNatClampNeg (jx11 + jx2)) jx3) (Int32.toNatClampNeg (jx11 + (6 : Int32))) jx5) (Int32.toNatClampNeg (jx11 + (7 : Int32))) jx6) (Int32.toNatClampNeg (jx11 + (8 : Int32)))) &&& (((1 : Int32) <<< (jx2 &&& 31)) ^^^ (-1 : Int32)))) (Int32.toNatClampNeg (jx11 + (8 : Int32)))) ||| (jx4 <<< (jx2 &&& 31)))) (Int32.toNatClampNeg (30 : Int32)) (((upd (upd (upd (upd (upd v_t_s (Int32.toNatClampNeg (jx11 + jx2)) jx3) (Int32.toNatClampNeg (jx11 + (6 : Int32))) jx5) (Int32.toNatClampNeg (jx11 + (7 : Int32))) jx6) (Int32.toNatClampNeg (jx11 + (8 : Int32))) (((upd (upd (upd v_t_s (Int32.toNatClampNeg (jx11 + jx2)) jx3) (Int32.toNatClampNeg (jx11 + (6 : Int32))) jx5) (Int32.toNatClampNeg (jx11 + (7 : Int32))) jx6) (Int32.toNatClampNeg (jx11 + (8 : Int32)))) &&& (((1 : Int32) <<< (jx2 &&& 31)) ^^^ (-1 : Int32)))) (Int32.toNatClampNeg (jx11 + (8 : Int32))) (((upd (upd (upd (upd v_t_s (Int32.toNatClampNeg (jx11 + jx2)) jx3) (Int32.toNatClampNeg (jx11 + (6 : Int32))) jx5) (Int32.toNatClampNeg (jx11 + (7 : Int32))) jx6) (Int32.toNatClampNeg (jx11 + (8 : Int32))) (((upd (upd (upd v_t_s (Int32.toNatClampNeg (jx11 + jx2)) jx3) (Int32.toNatClampNeg (jx11 + (6 : Int32))) jx5) (Int32.toNatClampNeg (jx11 + (7 : Int32))) jx6) (Int32.toNatClampNeg (jx11 + (8 : Int32)))) &&& (((1 : Int32) <<< (jx2 &&& 31)) ^^^ (-1 : Int32)))) (Int32.toNatClampNeg (jx11 + (8 : Int32)))) ||| (jx4 <<< (jx2 &&& 31)))) (Int32.toNatClampNeg (30 : Int32))) + (1 : Int32))))), (a_t_undos, .inl (cI, 1030, .inl v_t_undos))] H := hP
      have hD : va_D A [(a_t, .inr (11, [.int v_t_thrown, .ref a_t_text, .int v_t_typed, .int v_t_spot, .int v_t_token, .int v_t_place, .int v_t_value, .int v_t_fault, .int v_t_copies, .int v_t_draftCopies, .ref a_t_draft, .ref a_t_s, .ref a_t_undos, .int v_t_undoMany, .ref a_t_kept, .ref a_t_isKept, .ref a_t_seenWay, .ref a_t_seenIs, .int v_t_seenMany, .int v_t_asked, .ref a_t_sums, .ref a_t_parts, .ref a_t_heaps])), (a_t_s, .inl (cI, 103, .inl (upd (upd (upd (upd (upd (upd v_t_s (Int32.toNatClampNeg (jx11 + jx2)) jx3) (Int32.toNatClampNeg (jx11 + (6 : Int32))) jx5) (Int32.toNatClampNeg (jx11 + (7 : Int32))) jx6) (Int32.toNatClampNeg (jx11 + (8 : Int32))) (((upd (upd (upd v_t_s (Int32.toNatClampNeg (jx11 + jx2)) jx3) (Int32.toNatClampNeg (jx11 + (6 : Int32))) jx5) (Int32.toNatClampNeg (jx11 + (7 : Int32))) jx6) (Int32.toNatClampNeg (jx11 + (8 : Int32)))) &&& (((1 : Int32) <<< (jx2 &&& 31)) ^^^ (-1 : Int32)))) (Int32.toNatClampNeg (jx11 + (8 : Int32))) (((upd (upd (upd (upd v_t_s (Int32.toNatClampNeg (jx11 + jx2)) jx3) (Int32.toNatClampNeg (jx11 + (6 : Int32))) jx5) (Int32.toNatClampNeg (jx11 + (7 : Int32))) jx6) (Int32.toNatClampNeg (jx11 + (8 : Int32))) (((upd (upd (upd v_t_s (Int32.toNatClampNeg (jx11 + jx2)) jx3) (Int32.toNatClampNeg (jx11 + (6 : Int32))) jx5) (Int32.toNatClampNeg (jx11 + (7 : Int32))) jx6) (Int32.toNatClampNeg (jx11 + (8 : Int32)))) &&& (((1 : Int32) <<< (jx2 &&& 31)) ^^^ (-1 : Int32)))) (Int32.toNatClampNeg (jx11 + (8 : Int32)))) ||| (jx4 <<< (jx2 &&& 31)))) (Int32.toNatClampNeg (30 : Int32)) (((upd (upd (upd (upd (upd v_t_s (Int32.toNatClampNeg (jx11 + jx2)) jx3) (Int32.toNatClampNeg (jx11 + (6 : Int32))) jx5) (Int32.toNatClampNeg (jx11 + (7 : Int32))) jx6) (Int32.toNatClampNeg (jx11 + (8 : Int32))) (((upd (upd (upd v_t_s (Int32.toNatClampNeg (jx11 + jx2)) jx3) (Int32.toNatClampNeg (jx11 + (6 : Int32))) jx5) (Int32.toNatClampNeg (jx11 + (7 : Int32))) jx6) (Int32.toNatClampNeg (jx11 + (8 : Int32)))) &&& (((1 : Int32) <<< (jx2 &&& 31)) ^^^ (-1 : Int32)))) (Int32.toNatClampNeg (jx11 + (8 : Int32))) (((upd (upd (upd (upd v_t_s (Int32.toNatClampNeg (jx11 + jx2)) jx3) (Int32.toNatClampNeg (jx11 + (6 : Int32))) jx5) (Int32.toNatClampNeg (jx11 + (7 : Int32))) jx6) (Int32.toNatClampNeg (jx11 + (8 : Int32))) (((upd (upd (upd v_t_s (Int32.toNatClampNeg (jx11 + jx2)) jx3) (Int32.toNatClampNeg (jx11 + (6 : Int32))) jx5) (Int32.toNatClampNeg (jx11 + (7 : Int32))) jx6) (Int32.toNatClampNeg (jx11 + (8 : Int32)))) &&& (((1 : Int32) <<< (jx2 &&& 31)) ^^^ (-1 : Int32)))) (Int32.toNatClampNeg (jx11 + (8 : Int32)))) ||| (jx4 <<< (jx2 &&& 31)))) (Int32.toNatClampNeg (30 : Int32))) + (1 : Int32))))), (a_t_undos, .inl (cI, 1030, .inl v_t_undos))] := hD
      refine lv_aload_n hx hb dX11_votes_308 rfl (lv_at hl 0 rfl) ?_
      refine lv_iload hx hb dX11_votes_309 (lv_at hl 6 rfl) ?_
      refine lv_iload hx hb dX11_votes_311 (lv_at hl 9 rfl) ?_
      refine lv_aload_n hx hb dX11_votes_313 rfl (lv_at hl 0 rfl) ?_
      refine lv_iload hx hb dX11_votes_314 (lv_at hl 6 rfl) ?_
      refine lv_bipush (v := 12) hx hb dX11_votes_316 (by decide) ?_
      obtain ⟨jr11, je12, hf⟩ := bd1_inv hf
      refine callRV (As := [.int jx7, .int (12 : Int32)]) (rest := [.int jx10, .int jx7, .ref a_t]) S (ctX11_greatest l D cI cZ a_t a_t_text a_t_draft a_t_s a_t_undos a_t_kept a_t_isKept a_t_seenWay a_t_seenIs a_t_sums a_t_parts a_t_heaps jx7 (12 : Int32) v_t_copies (upd (upd (upd (upd (upd (upd v_t_s (Int32.toNatClampNeg (jx11 + jx2)) jx3) (Int32.toNatClampNeg (jx11 + (6 : Int32))) jx5) (Int32.toNatClampNeg (jx11 + (7 : Int32))) jx6) (Int32.toNatClampNeg (jx11 + (8 : Int32))) (((upd (upd (upd v_t_s (Int32.toNatClampNeg (jx11 + jx2)) jx3) (Int32.toNatClampNeg (jx11 + (6 : Int32))) jx5) (Int32.toNatClampNeg (jx11 + (7 : Int32))) jx6) (Int32.toNatClampNeg (jx11 + (8 : Int32)))) &&& (((1 : Int32) <<< (jx2 &&& 31)) ^^^ (-1 : Int32)))) (Int32.toNatClampNeg (jx11 + (8 : Int32))) (((upd (upd (upd (upd v_t_s (Int32.toNatClampNeg (jx11 + jx2)) jx3) (Int32.toNatClampNeg (jx11 + (6 : Int32))) jx5) (Int32.toNatClampNeg (jx11 + (7 : Int32))) jx6) (Int32.toNatClampNeg (jx11 + (8 : Int32))) (((upd (upd (upd v_t_s (Int32.toNatClampNeg (jx11 + jx2)) jx3) (Int32.toNatClampNeg (jx11 + (6 : Int32))) jx5) (Int32.toNatClampNeg (jx11 + (7 : Int32))) jx6) (Int32.toNatClampNeg (jx11 + (8 : Int32)))) &&& (((1 : Int32) <<< (jx2 &&& 31)) ^^^ (-1 : Int32)))) (Int32.toNatClampNeg (jx11 + (8 : Int32)))) ||| (jx4 <<< (jx2 &&& 31)))) (Int32.toNatClampNeg (30 : Int32)) (((upd (upd (upd (upd (upd v_t_s (Int32.toNatClampNeg (jx11 + jx2)) jx3) (Int32.toNatClampNeg (jx11 + (6 : Int32))) jx5) (Int32.toNatClampNeg (jx11 + (7 : Int32))) jx6) (Int32.toNatClampNeg (jx11 + (8 : Int32))) (((upd (upd (upd v_t_s (Int32.toNatClampNeg (jx11 + jx2)) jx3) (Int32.toNatClampNeg (jx11 + (6 : Int32))) jx5) (Int32.toNatClampNeg (jx11 + (7 : Int32))) jx6) (Int32.toNatClampNeg (jx11 + (8 : Int32)))) &&& (((1 : Int32) <<< (jx2 &&& 31)) ^^^ (-1 : Int32)))) (Int32.toNatClampNeg (jx11 + (8 : Int32))) (((upd (upd (upd (upd v_t_s (Int32.toNatClampNeg (jx11 + jx2)) jx3) (Int32.toNatClampNeg (jx11 + (6 : Int32))) jx5) (Int32.toNatClampNeg (jx11 + (7 : Int32))) jx6) (Int32.toNatClampNeg (jx11 + (8 : Int32))) (((upd (upd (upd v_t_s (Int32.toNatClampNeg (jx11 + jx2)) jx3) (Int32.toNatClampNeg (jx11 + (6 : Int32))) jx5) (Int32.toNatClampNeg (jx11 + (7 : Int32))) jx6) (Int32.toNatClampNeg (jx11 + (8 : Int32)))) &&& (((1 : Int32) <<< (jx2 &&& 31)) ^^^ (-1 : Int32)))) (Int32.toNatClampNeg (jx11 + (8 : Int32)))) ||| (jx4 <<< (jx2 &&& 31)))) (Int32.toNatClampNeg (30 : Int32))) + (1 : Int32))) v_t_thrown v_t_typed v_t_spot v_t_token v_t_place v_t_value v_t_fault v_t_draftCopies v_t_undoMany v_t_seenMany v_t_asked jr11 je12) (cwV 2 hts gX11_votes_X11_greatest rfl rfl rfl ⟨rfl, hdX11_greatest⟩ ⟨Nat.le_of_ble_eq_true rfl, Nat.le_of_ble_eq_true rfl⟩) hP [0, 1] rfl KX.xs (fun U _ hW => hK.warm hW) (va_recv hK.1 hP (ci := 11) (q0 := 0) rfl rfl) rfl hl.1 rfl (Nat.le_of_ble_eq_true rfl) dX11_votes_318 ⟨Nat.zero_le _, Nat.zero_le _⟩ ?_
      refine lv_iload hx hb dX11_votes_321 (lv_at hl 8 rfl) ?_
      obtain ⟨jg13, je14, hf⟩ := bd1_inv hf
      refine callMV (As := [.int jx7, .int jx10, .int jr11, .int jx9]) (rest := []) (wr := [(a_t_undos, .inl (cI, 1030, .inl v_t_undos))]) (wn := [(a_t, .inr (11, [.int v_t_thrown, .ref a_t_text, .int v_t_typed, .int v_t_spot, .int v_t_token, .int v_t_place, .int v_t_value, .int v_t_fault, .int v_t_copies, .int v_t_draftCopies, .ref a_t_draft, .ref a_t_s, .ref a_t_undos, .int v_t_undoMany, .ref a_t_kept, .ref a_t_isKept, .ref a_t_seenWay, .ref a_t_seenIs, .int v_t_seenMany, .int v_t_asked, .ref a_t_sums, .ref a_t_parts, .ref a_t_heaps])), (a_t_s, .inl (cI, 103, .inl jg13)), (a_t_undos, .inl (cI, 1030, .inl v_t_undos))]) S (ctX11_gives l D cI cZ a_t a_t_text a_t_draft a_t_s a_t_undos a_t_kept a_t_isKept a_t_seenWay a_t_seenIs a_t_sums a_t_parts a_t_heaps jx7 jx10 jr11 jx9 v_t_copies (upd (upd (upd (upd (upd (upd v_t_s (Int32.toNatClampNeg (jx11 + jx2)) jx3) (Int32.toNatClampNeg (jx11 + (6 : Int32))) jx5) (Int32.toNatClampNeg (jx11 + (7 : Int32))) jx6) (Int32.toNatClampNeg (jx11 + (8 : Int32))) (((upd (upd (upd v_t_s (Int32.toNatClampNeg (jx11 + jx2)) jx3) (Int32.toNatClampNeg (jx11 + (6 : Int32))) jx5) (Int32.toNatClampNeg (jx11 + (7 : Int32))) jx6) (Int32.toNatClampNeg (jx11 + (8 : Int32)))) &&& (((1 : Int32) <<< (jx2 &&& 31)) ^^^ (-1 : Int32)))) (Int32.toNatClampNeg (jx11 + (8 : Int32))) (((upd (upd (upd (upd v_t_s (Int32.toNatClampNeg (jx11 + jx2)) jx3) (Int32.toNatClampNeg (jx11 + (6 : Int32))) jx5) (Int32.toNatClampNeg (jx11 + (7 : Int32))) jx6) (Int32.toNatClampNeg (jx11 + (8 : Int32))) (((upd (upd (upd v_t_s (Int32.toNatClampNeg (jx11 + jx2)) jx3) (Int32.toNatClampNeg (jx11 + (6 : Int32))) jx5) (Int32.toNatClampNeg (jx11 + (7 : Int32))) jx6) (Int32.toNatClampNeg (jx11 + (8 : Int32)))) &&& (((1 : Int32) <<< (jx2 &&& 31)) ^^^ (-1 : Int32)))) (Int32.toNatClampNeg (jx11 + (8 : Int32)))) ||| (jx4 <<< (jx2 &&& 31)))) (Int32.toNatClampNeg (30 : Int32)) (((upd (upd (upd (upd (upd v_t_s (Int32.toNatClampNeg (jx11 + jx2)) jx3) (Int32.toNatClampNeg (jx11 + (6 : Int32))) jx5) (Int32.toNatClampNeg (jx11 + (7 : Int32))) jx6) (Int32.toNatClampNeg (jx11 + (8 : Int32))) (((upd (upd (upd v_t_s (Int32.toNatClampNeg (jx11 + jx2)) jx3) (Int32.toNatClampNeg (jx11 + (6 : Int32))) jx5) (Int32.toNatClampNeg (jx11 + (7 : Int32))) jx6) (Int32.toNatClampNeg (jx11 + (8 : Int32)))) &&& (((1 : Int32) <<< (jx2 &&& 31)) ^^^ (-1 : Int32)))) (Int32.toNatClampNeg (jx11 + (8 : Int32))) (((upd (upd (upd (upd v_t_s (Int32.toNatClampNeg (jx11 + jx2)) jx3) (Int32.toNatClampNeg (jx11 + (6 : Int32))) jx5) (Int32.toNatClampNeg (jx11 + (7 : Int32))) jx6) (Int32.toNatClampNeg (jx11 + (8 : Int32))) (((upd (upd (upd v_t_s (Int32.toNatClampNeg (jx11 + jx2)) jx3) (Int32.toNatClampNeg (jx11 + (6 : Int32))) jx5) (Int32.toNatClampNeg (jx11 + (7 : Int32))) jx6) (Int32.toNatClampNeg (jx11 + (8 : Int32)))) &&& (((1 : Int32) <<< (jx2 &&& 31)) ^^^ (-1 : Int32)))) (Int32.toNatClampNeg (jx11 + (8 : Int32)))) ||| (jx4 <<< (jx2 &&& 31)))) (Int32.toNatClampNeg (30 : Int32))) + (1 : Int32))) v_t_thrown v_t_typed v_t_spot v_t_token v_t_place v_t_value v_t_fault v_t_draftCopies v_t_undoMany v_t_seenMany v_t_asked jg13 je14) (cwV 4 hts gX11_votes_X11_gives rfl rfl rfl ⟨rfl, hdX11_gives⟩ ⟨Nat.le_of_ble_eq_true rfl, Nat.le_of_ble_eq_true rfl⟩) hP hD hS hA [0, 1] [2] [1, 2, 0] rfl rfl (by decide) (by decide) (by decide) (by decide) rfl KX.xs (fun U _ hW => hK.warm hW) (va_recv hK.1 hP (ci := 11) (q0 := 0) rfl rfl) rfl hl.1 rfl (Nat.le_of_ble_eq_true rfl) dX11_votes_323 ⟨Nat.zero_le _, Nat.zero_le _⟩ (fun H locs hP hD hS => ?_)
      refine W.eq (g2 := F0 m 326 ls []) rfl ?_
      refine lv_iload hx hb dX11_votes_326 (lv_at hl 9 rfl) ?_
      obtain ⟨rfl, rfl, rfl, rfl, rfl⟩ := pr5_inv hf
      exact retM hx hb hr hlk hP hD hS dX11_votes_328
    · have hf := ite_f jc1 hf
      refine lv_aload_n hx hb dX11_votes_202 rfl (lv_at hl 0 rfl) ?_
      refine va_get (D := D) (ci := 11) (v := .ref a_t_s) (C := RX11) (T := TX11) (N := 23) hx hb hts iX11_votes_X11 hown hK.1 hP 0 rfl rfl 11 (by decide) (hts _ mX11_votes_2) (fun _ h9 => h9) rfl dX11_votes_203 ?_
      refine lv_iload hx hb dX11_votes_206 (lv_at hl 10 rfl) ?_
      refine lv_iload hx hb dX11_votes_208 (lv_at hl 11 rfl) ?_
      refine lv_iadd hx hb dX11_votes_210 ?_
      refine lv_aload_n hx hb dX11_votes_211 rfl (lv_at hl 0 rfl) ?_
      refine va_get (D := D) (ci := 11) (v := .ref a_t_s) (C := RX11) (T := TX11) (N := 23) hx hb hts iX11_votes_X11 hown hK.1 hP 0 rfl rfl 11 (by decide) (hts _ mX11_votes_2) (fun _ h9 => h9) rfl dX11_votes_212 ?_
      refine lv_iload hx hb dX11_votes_215 (lv_at hl 7 rfl) ?_
      refine lv_iload hx hb dX11_votes_217 (lv_at hl 11 rfl) ?_
      refine lv_iadd hx hb dX11_votes_219 ?_
      obtain ⟨jh15, hf⟩ := ckI_inv hf
      refine va_iald hx hb hK.1 hP 1 0 rfl rfl jh15 dX11_votes_220 ?_
      obtain ⟨jh16, hf⟩ := ckI_inv hf
      refine va_iast hx hb hK.1 hP hD hS 1 0 rfl rfl jh16 dX11_votes_221 (fun H locs hP hD hS => ?_)
      have hP : va_P D vwCl [(a_t, .inr (11, [.int v_t_thrown, .ref a_t_text, .int v_t_typed, .int v_t_spot, .int v_t_token, .int v_t_place, .int v_t_value, .int v_t_fault, .int v_t_copies, .int v_t_draftCopies, .ref a_t_draft, .ref a_t_s, .ref a_t_undos, .int v_t_undoMany, .ref a_t_kept, .ref a_t_isKept, .ref a_t_seenWay, .ref a_t_seenIs, .int v_t_seenMany, .int v_t_asked, .ref a_t_sums, .ref a_t_parts, .ref a_t_heaps])), (a_t_s, .inl (cI, 103, .inl (upd v_t_s (Int32.toNatClampNeg (jx11 + jx12)) (v_t_s (Int32.toNatClampNeg (jx8 + jx12)))))), (a_t_undos, .inl (cI, 1030, .inl v_t_undos))] H := hP
      have hD : va_D A [(a_t, .inr (11, [.int v_t_thrown, .ref a_t_text, .int v_t_typed, .int v_t_spot, .int v_t_token, .int v_t_place, .int v_t_value, .int v_t_fault, .int v_t_copies, .int v_t_draftCopies, .ref a_t_draft, .ref a_t_s, .ref a_t_undos, .int v_t_undoMany, .ref a_t_kept, .ref a_t_isKept, .ref a_t_seenWay, .ref a_t_seenIs, .int v_t_seenMany, .int v_t_asked, .ref a_t_sums, .ref a_t_parts, .ref a_t_heaps])), (a_t_s, .inl (cI, 103, .inl (upd v_t_s (Int32.toNatClampNeg (jx11 + jx12)) (v_t_s (Int32.toNatClampNeg (jx8 + jx12)))))), (a_t_undos, .inl (cI, 1030, .inl v_t_undos))] := hD
      refine lv_iinc (v := (jx12 + (1 : Int32))) (lv' := [(12, .int (jx12 + (1 : Int32))), (0, .ref a_t), (2, .int jx2), (3, .int jx3), (4, .int jx4), (5, .int jx5), (6, .int jx6), (7, .int jx7), (8, .int jx8), (9, .int jx9), (10, .int jx10), (11, .int jx11)]) hx hb dX11_votes_222 hl (k := 11) rfl rfl (by decide) rfl (fun ls hl => ?_)
      refine lv_goto (tgt := 195) hx hb dX11_votes_225 (by decide) ?_
      exact ih (jx12 + (1 : Int32)) v_t_thrown v_t_undoMany (upd v_t_s (Int32.toNatClampNeg (jx11 + jx12)) (v_t_s (Int32.toNatClampNeg (jx8 + jx12)))) v_t_undos ls _ _ hf (lv_sub hl [1, 2, 3, 4, 5, 6, 7, 8, 9, 10, 11, 0] rfl) hP hD hS
theorem hdX11_votes : yX11_votes.cls ≠ "java/lang/invoke/MethodHandle" ∧ yX11_votes.cls ≠ "java/lang/invoke/VarHandle" ∧ (parseMethodDescriptor yX11_votes.desc).map (fun d => d.parameters.length) = some 6 := by decide +kernel
set_option maxHeartbeats 4000000 in
set_option maxRecDepth 100000 in
theorem ctX11_votes (l : Launch) (D : va_G) (cI cZ : ClassId) (a_t a_t_text a_t_draft a_t_s a_t_undos a_t_kept a_t_isKept a_t_seenWay a_t_seenIs a_t_sums a_t_parts a_t_heaps : Nat) (jx1 : Int32) (jx2 : Int32) (jx3 : Int32) (jx4 : Int32) (jx5 : Int32) (jx6 : Int32) (v_t_thrown : Int32) (v_t_copies : Int32) (v_t_undoMany : Int32) (v_t_s : (Nat → Int32)) (v_t_undos : (Nat → Int32)) (v_t_typed : Int32) (v_t_spot : Int32) (v_t_token : Int32) (v_t_place : Int32) (v_t_value : Int32) (v_t_fault : Int32) (v_t_draftCopies : Int32) (v_t_seenMany : Int32) (v_t_asked : Int32) (r : Int32) (o_t_thrown : Int32) (o_t_undoMany : Int32) (o_t_s : (Nat → Int32)) (o_t_undos : (Nat → Int32)) (hf : fX11_votes jx1 jx2 jx3 jx4 jx5 jx6 v_t_thrown v_t_copies v_t_undoMany v_t_s v_t_undos = some (r, o_t_thrown, o_t_undoMany, o_t_s, o_t_undos)) : cM l yX11_votes wsX11_votes rmX11_votes [.ref a_t, .int jx1, .int jx2, .int jx3, .int jx4, .int jx5, .int jx6] D [(a_t, .inr (11, [.int v_t_thrown, .ref a_t_text, .int v_t_typed, .int v_t_spot, .int v_t_token, .int v_t_place, .int v_t_value, .int v_t_fault, .int v_t_copies, .int v_t_draftCopies, .ref a_t_draft, .ref a_t_s, .ref a_t_undos, .int v_t_undoMany, .ref a_t_kept, .ref a_t_isKept, .ref a_t_seenWay, .ref a_t_seenIs, .int v_t_seenMany, .int v_t_asked, .ref a_t_sums, .ref a_t_parts, .ref a_t_heaps])), (a_t_s, .inl (cI, 103, .inl v_t_s)), (a_t_undos, .inl (cI, 1030, .inl v_t_undos))] [(a_t, .inr (11, [.int o_t_thrown, .ref a_t_text, .int v_t_typed, .int v_t_spot, .int v_t_token, .int v_t_place, .int v_t_value, .int v_t_fault, .int v_t_copies, .int v_t_draftCopies, .ref a_t_draft, .ref a_t_s, .ref a_t_undos, .int o_t_undoMany, .ref a_t_kept, .ref a_t_isKept, .ref a_t_seenWay, .ref a_t_seenIs, .int v_t_seenMany, .int v_t_asked, .ref a_t_sums, .ref a_t_parts, .ref a_t_heaps])), (a_t_s, .inl (cI, 103, .inl o_t_s)), (a_t_undos, .inl (cI, 1030, .inl o_t_undos))] (KX D cI cZ) (some (.int r)) := by
  refine cM_of (cc := cX11_votes) (maxL := 13) (ret := some .int) (by decide +kernel) rfl _ (Nat.le_of_ble_eq_true rfl) ?_
  intro p e s m below meth c ls A S hr hlk hP hK hl hD hA hS
  obtain ⟨hx, hb, hml, hown, hts⟩ := id S
  have hl : lv_has ls 13 [(0, .ref a_t), (1, .int jx1), (2, .int jx2), (3, .int jx3), (4, .int jx4), (5, .int jx5), (6, .int jx6)] := hl
  unfold fX11_votes at hf
  refine lv_aload_n hx hb dX11_votes_0 rfl (lv_at hl 0 rfl) ?_
  refine lv_iconst (v := 0) hx hb dX11_votes_1 (by decide) ?_
  refine va_put (D := D) (ci := 11) (v := .int (0 : Int32)) (ty := .int) (C := RX11) (T := TX11) (N := 23) hx hb hts iX11_votes_X11 tyX11 tyX11_ok nmX11 hown hK.1 hP hD hS 0 rfl rfl 0 (by decide) (hts _ mX11_votes_1) (fun _ h9 => h9) rfl (tyX11_ok 0 (by decide)) rfl rfl (Nat.le_of_ble_eq_true rfl) dX11_votes_2 (fun H locs hP hD hS => ?_)
  have hP : va_P D vwCl [(a_t, .inr (11, [.int (0 : Int32), .ref a_t_text, .int v_t_typed, .int v_t_spot, .int v_t_token, .int v_t_place, .int v_t_value, .int v_t_fault, .int v_t_copies, .int v_t_draftCopies, .ref a_t_draft, .ref a_t_s, .ref a_t_undos, .int v_t_undoMany, .ref a_t_kept, .ref a_t_isKept, .ref a_t_seenWay, .ref a_t_seenIs, .int v_t_seenMany, .int v_t_asked, .ref a_t_sums, .ref a_t_parts, .ref a_t_heaps])), (a_t_s, .inl (cI, 103, .inl v_t_s)), (a_t_undos, .inl (cI, 1030, .inl v_t_undos))] H := hP
  have hD : va_D A [(a_t, .inr (11, [.int (0 : Int32), .ref a_t_text, .int v_t_typed, .int v_t_spot, .int v_t_token, .int v_t_place, .int v_t_value, .int v_t_fault, .int v_t_copies, .int v_t_draftCopies, .ref a_t_draft, .ref a_t_s, .ref a_t_undos, .int v_t_undoMany, .ref a_t_kept, .ref a_t_isKept, .ref a_t_seenWay, .ref a_t_seenIs, .int v_t_seenMany, .int v_t_asked, .ref a_t_sums, .ref a_t_parts, .ref a_t_heaps])), (a_t_s, .inl (cI, 103, .inl v_t_s)), (a_t_undos, .inl (cI, 1030, .inl v_t_undos))] := hD
  refine lv_iload_n hx hb dX11_votes_5 rfl (lv_at hl 1 rfl) ?_
  obtain ⟨jr1, je2, hf⟩ := bd1_inv hf
  refine callRS (As := [.int jx1]) (rest := []) S (ctX11_isGroup l D cI cZ jx1 jr1 je2) (va_cwS 1 hts gX11_votes_X11_isGroup rfl rfl rfl hdX11_isGroup ⟨Nat.le_of_ble_eq_true rfl, Nat.le_of_ble_eq_true rfl⟩) hP [] rfl KX.xs (fun U _ hW => hK.warm hW) rfl hl.1 rfl (Nat.le_of_ble_eq_true rfl) dX11_votes_6 ⟨Nat.zero_le _, Nat.zero_le _⟩ ?_
  refine lv_if_eq (tgt := 61) hx hb dX11_votes_9 (by decide) (fun jc3 => ?_) (fun jc3 => ?_)
  · have hf := ite_t jc3 hf
    refine lv_iconst (v := -1) hx hb dX11_votes_61 (by decide) ?_
    obtain ⟨rfl, rfl, rfl, rfl, rfl⟩ := pr5_inv hf
    exact retM hx hb hr hlk hP hD hS dX11_votes_62
  · have hf := ite_f jc3 hf
    refine lv_aload_n hx hb dX11_votes_12 rfl (lv_at hl 0 rfl) ?_
    refine lv_iload_n hx hb dX11_votes_13 rfl (lv_at hl 2 rfl) ?_
    obtain ⟨jr4, je5, hf⟩ := bd1_inv hf
    refine callRV (As := [.int jx2]) (rest := []) S (ctX11_isCopy l D cI cZ a_t a_t_text a_t_draft a_t_s a_t_undos a_t_kept a_t_isKept a_t_seenWay a_t_seenIs a_t_sums a_t_parts a_t_heaps jx2 v_t_copies (0 : Int32) v_t_typed v_t_spot v_t_token v_t_place v_t_value v_t_fault v_t_draftCopies v_t_undoMany v_t_seenMany v_t_asked jr4 je5) (cwV 1 hts gX11_votes_X11_isCopy rfl rfl rfl ⟨rfl, hdX11_isCopy⟩ ⟨Nat.le_of_ble_eq_true rfl, Nat.le_of_ble_eq_true rfl⟩) hP [0] rfl KX.xs (fun U _ hW => hK.warm hW) (va_recv hK.1 hP (ci := 11) (q0 := 0) rfl rfl) rfl hl.1 rfl (Nat.le_of_ble_eq_true rfl) dX11_votes_14 ⟨Nat.zero_le _, Nat.zero_le _⟩ ?_
    refine lv_if_eq (tgt := 61) hx hb dX11_votes_17 (by decide) (fun jc6 => ?_) (fun jc6 => ?_)
    · have hf := ite_t jc6 hf
      refine lv_iconst (v := -1) hx hb dX11_votes_61 (by decide) ?_
      obtain ⟨rfl, rfl, rfl, rfl, rfl⟩ := pr5_inv hf
      exact retM hx hb hr hlk hP hD hS dX11_votes_62
    · have hf := ite_f jc6 hf
      refine lv_iload_n hx hb dX11_votes_20 rfl (lv_at hl 3 rfl) ?_
      refine lv_iconst (v := 0) hx hb dX11_votes_21 (by decide) ?_
      refine lv_iconst (v := 5) hx hb dX11_votes_22 (by decide) ?_
      obtain ⟨jr7, je8, hf⟩ := bd1_inv hf
      refine callRS (As := [.int jx3, .int (0 : Int32), .int (5 : Int32)]) (rest := []) S (ctX11_in l D cI cZ jx3 (0 : Int32) (5 : Int32) jr7 je8) (va_cwS 3 hts gX11_votes_X11_in rfl rfl rfl hdX11_in ⟨Nat.le_of_ble_eq_true rfl, Nat.le_of_ble_eq_true rfl⟩) hP [] rfl KX.xs (fun U _ hW => hK.warm hW) rfl hl.1 rfl (Nat.le_of_ble_eq_true rfl) dX11_votes_23 ⟨Nat.zero_le _, Nat.zero_le _⟩ ?_
      refine lv_if_eq (tgt := 61) hx hb dX11_votes_26 (by decide) (fun jc9 => ?_) (fun jc9 => ?_)
      · have hf := ite_t jc9 hf
        refine lv_iconst (v := -1) hx hb dX11_votes_61 (by decide) ?_
        obtain ⟨rfl, rfl, rfl, rfl, rfl⟩ := pr5_inv hf
        exact retM hx hb hr hlk hP hD hS dX11_votes_62
      · have hf := ite_f jc9 hf
        refine lv_iload hx hb dX11_votes_29 (lv_at hl 4 rfl) ?_
        refine lv_iconst (v := 0) hx hb dX11_votes_31 (by decide) ?_
        refine lv_iconst (v := 1) hx hb dX11_votes_32 (by decide) ?_
        obtain ⟨jr10, je11, hf⟩ := bd1_inv hf
        refine callRS (As := [.int jx4, .int (0 : Int32), .int (1 : Int32)]) (rest := []) S (ctX11_in l D cI cZ jx4 (0 : Int32) (1 : Int32) jr10 je11) (va_cwS 3 hts gX11_votes_X11_in rfl rfl rfl hdX11_in ⟨Nat.le_of_ble_eq_true rfl, Nat.le_of_ble_eq_true rfl⟩) hP [] rfl KX.xs (fun U _ hW => hK.warm hW) rfl hl.1 rfl (Nat.le_of_ble_eq_true rfl) dX11_votes_33 ⟨Nat.zero_le _, Nat.zero_le _⟩ ?_
        refine lv_if_eq (tgt := 61) hx hb dX11_votes_36 (by decide) (fun jc12 => ?_) (fun jc12 => ?_)
        · have hf := ite_t jc12 hf
          refine lv_iconst (v := -1) hx hb dX11_votes_61 (by decide) ?_
          obtain ⟨rfl, rfl, rfl, rfl, rfl⟩ := pr5_inv hf
          exact retM hx hb hr hlk hP hD hS dX11_votes_62
        · have hf := ite_f jc12 hf
          refine lv_iload hx hb dX11_votes_39 (lv_at hl 5 rfl) ?_
          refine lv_iconst (v := 1) hx hb dX11_votes_41 (by decide) ?_
          refine lv_bipush (v := 30) hx hb dX11_votes_42 (by decide) ?_
          obtain ⟨jr13, je14, hf⟩ := bd1_inv hf
          refine callRS (As := [.int jx5, .int (1 : Int32), .int (30 : Int32)]) (rest := []) S (ctX11_in l D cI cZ jx5 (1 : Int32) (30 : Int32) jr13 je14) (va_cwS 3 hts gX11_votes_X11_in rfl rfl rfl hdX11_in ⟨Nat.le_of_ble_eq_true rfl, Nat.le_of_ble_eq_true rfl⟩) hP [] rfl KX.xs (fun U _ hW => hK.warm hW) rfl hl.1 rfl (Nat.le_of_ble_eq_true rfl) dX11_votes_44 ⟨Nat.zero_le _, Nat.zero_le _⟩ ?_
          refine lv_if_eq (tgt := 61) hx hb dX11_votes_47 (by decide) (fun jc15 => ?_) (fun jc15 => ?_)
          · have hf := ite_t jc15 hf
            refine lv_iconst (v := -1) hx hb dX11_votes_61 (by decide) ?_
            obtain ⟨rfl, rfl, rfl, rfl, rfl⟩ := pr5_inv hf
            exact retM hx hb hr hlk hP hD hS dX11_votes_62
          · have hf := ite_f jc15 hf
            refine lv_iload hx hb dX11_votes_50 (lv_at hl 6 rfl) ?_
            refine lv_iconst (v := 1) hx hb dX11_votes_52 (by decide) ?_
            refine lv_bipush (v := 30) hx hb dX11_votes_53 (by decide) ?_
            obtain ⟨jr16, je17, hf⟩ := bd1_inv hf
            refine callRS (As := [.int jx6, .int (1 : Int32), .int (30 : Int32)]) (rest := []) S (ctX11_in l D cI cZ jx6 (1 : Int32) (30 : Int32) jr16 je17) (va_cwS 3 hts gX11_votes_X11_in rfl rfl rfl hdX11_in ⟨Nat.le_of_ble_eq_true rfl, Nat.le_of_ble_eq_true rfl⟩) hP [] rfl KX.xs (fun U _ hW => hK.warm hW) rfl hl.1 rfl (Nat.le_of_ble_eq_true rfl) dX11_votes_55 ⟨Nat.zero_le _, Nat.zero_le _⟩ ?_
            refine lv_if_ne (tgt := 63) hx hb dX11_votes_58 (by decide) (fun jc18 => ?_) (fun jc18 => ?_)
            · have hf := ite_f jc18 hf
              refine lv_aload_n hx hb dX11_votes_63 rfl (lv_at hl 0 rfl) ?_
              refine va_get (D := D) (ci := 11) (v := .ref a_t_s) (C := RX11) (T := TX11) (N := 23) hx hb hts iX11_votes_X11 hown hK.1 hP 0 rfl rfl 11 (by decide) (hts _ mX11_votes_2) (fun _ h9 => h9) rfl dX11_votes_64 ?_
              refine lv_bipush (v := 30) hx hb dX11_votes_67 (by decide) ?_
              obtain ⟨jh19, hf⟩ := ckI_inv hf
              refine va_iald hx hb hK.1 hP 1 0 rfl rfl jh19 dX11_votes_69 ?_
              refine lv_bipush (v := 8) hx hb dX11_votes_70 (by decide) ?_
              refine lv_icmp_ne (tgt := 78) hx hb dX11_votes_72 (by decide) (fun jc20 => ?_) (fun jc20 => ?_)
              · have hf := ite_f jc20 hf
                refine lv_aload_n hx hb dX11_votes_78 rfl (lv_at hl 0 rfl) ?_
                refine lv_iload_n hx hb dX11_votes_79 rfl (lv_at hl 1 rfl) ?_
                obtain ⟨jr21, je22, hf⟩ := bd1_inv hf
                refine callRV (As := [.int jx1]) (rest := []) S (ctX11_present l D cI cZ a_t a_t_text a_t_draft a_t_s a_t_undos a_t_kept a_t_isKept a_t_seenWay a_t_seenIs a_t_sums a_t_parts a_t_heaps jx1 v_t_copies v_t_s (0 : Int32) v_t_typed v_t_spot v_t_token v_t_place v_t_value v_t_fault v_t_draftCopies v_t_undoMany v_t_seenMany v_t_asked jr21 je22) (cwV 1 hts gX11_votes_X11_present rfl rfl rfl ⟨rfl, hdX11_present⟩ ⟨Nat.le_of_ble_eq_true rfl, Nat.le_of_ble_eq_true rfl⟩) hP [0, 1] rfl KX.xs (fun U _ hW => hK.warm hW) (va_recv hK.1 hP (ci := 11) (q0 := 0) rfl rfl) rfl hl.1 rfl (Nat.le_of_ble_eq_true rfl) dX11_votes_80 ⟨Nat.zero_le _, Nat.zero_le _⟩ ?_
                refine lv_istore (lv' := [(7, .int jr21), (0, .ref a_t), (1, .int jx1), (2, .int jx2), (3, .int jx3), (4, .int jx4), (5, .int jx5), (6, .int jx6)]) hx hb dX11_votes_83 hl (by decide) rfl (fun ls hl => ?_)
                refine lv_iload hx hb dX11_votes_85 (lv_at hl 0 rfl) ?_
                refine lv_if_ne (tgt := 93) hx hb dX11_votes_87 (by decide) (fun jc23 => ?_) (fun jc23 => ?_)
                · have hf := ite_f jc23 hf
                  refine lv_aload_n hx hb dX11_votes_93 rfl (lv_at hl 1 rfl) ?_
                  refine lv_iload hx hb dX11_votes_94 (lv_at hl 0 rfl) ?_
                  refine lv_bipush (v := 24) hx hb dX11_votes_96 (by decide) ?_
                  obtain ⟨jr24, je25, hf⟩ := bd1_inv hf
                  refine callRV (As := [.int jr21, .int (24 : Int32)]) (rest := []) S (ctX11_greatest l D cI cZ a_t a_t_text a_t_draft a_t_s a_t_undos a_t_kept a_t_isKept a_t_seenWay a_t_seenIs a_t_sums a_t_parts a_t_heaps jr21 (24 : Int32) v_t_copies v_t_s (0 : Int32) v_t_typed v_t_spot v_t_token v_t_place v_t_value v_t_fault v_t_draftCopies v_t_undoMany v_t_seenMany v_t_asked jr24 je25) (cwV 2 hts gX11_votes_X11_greatest rfl rfl rfl ⟨rfl, hdX11_greatest⟩ ⟨Nat.le_of_ble_eq_true rfl, Nat.le_of_ble_eq_true rfl⟩) hP [0, 1] rfl KX.xs (fun U _ hW => hK.warm hW) (va_recv hK.1 hP (ci := 11) (q0 := 0) rfl rfl) rfl hl.1 rfl (Nat.le_of_ble_eq_true rfl) dX11_votes_98 ⟨Nat.zero_le _, Nat.zero_le _⟩ ?_
                  obtain ⟨jr26, je27, hf⟩ := bd1_inv hf
                  refine callRS (As := [.int jr24]) (rest := []) S (ctX11_confAt l D cI cZ jr24 jr26 je27) (va_cwS 1 hts gX11_votes_X11_confAt rfl rfl rfl hdX11_confAt ⟨Nat.le_of_ble_eq_true rfl, Nat.le_of_ble_eq_true rfl⟩) hP [] rfl KX.xs (fun U _ hW => hK.warm hW) rfl hl.1 rfl (Nat.le_of_ble_eq_true rfl) dX11_votes_101 ⟨Nat.zero_le _, Nat.zero_le _⟩ ?_
                  refine lv_istore (lv' := [(8, .int jr26), (7, .int jr21), (0, .ref a_t), (1, .int jx1), (2, .int jx2), (3, .int jx3), (4, .int jx4), (5, .int jx5), (6, .int jx6)]) hx hb dX11_votes_104 hl (by decide) rfl (fun ls hl => ?_)
                  refine lv_aload_n hx hb dX11_votes_106 rfl (lv_at hl 2 rfl) ?_
                  refine va_get (D := D) (ci := 11) (v := .ref a_t_s) (C := RX11) (T := TX11) (N := 23) hx hb hts iX11_votes_X11 hown hK.1 hP 0 rfl rfl 11 (by decide) (hts _ mX11_votes_2) (fun _ h9 => h9) rfl dX11_votes_107 ?_
                  refine lv_iload hx hb dX11_votes_110 (lv_at hl 0 rfl) ?_
                  obtain ⟨jr28, je29, hf⟩ := bd1_inv hf
                  refine callRS (As := [.ref a_t_s, .int jr26]) (rest := []) S (ctX11_totalOf l D cI cZ a_t_s 103 jr26 v_t_s jr28 je29) (va_cwS 2 hts gX11_votes_X11_totalOf rfl rfl rfl hdX11_totalOf ⟨Nat.le_of_ble_eq_true rfl, Nat.le_of_ble_eq_true rfl⟩) hP [1] rfl KX.xs (fun U _ hW => hK.warm hW) rfl hl.1 rfl (Nat.le_of_ble_eq_true rfl) dX11_votes_112 ⟨Nat.zero_le _, Nat.zero_le _⟩ ?_
                  refine lv_aload_n hx hb dX11_votes_115 rfl (lv_at hl 2 rfl) ?_
                  refine va_get (D := D) (ci := 11) (v := .ref a_t_s) (C := RX11) (T := TX11) (N := 23) hx hb hts iX11_votes_X11 hown hK.1 hP 0 rfl rfl 11 (by decide) (hts _ mX11_votes_2) (fun _ h9 => h9) rfl dX11_votes_116 ?_
                  refine lv_iload hx hb dX11_votes_119 (lv_at hl 0 rfl) ?_
                  refine lv_iload_n hx hb dX11_votes_121 rfl (lv_at hl 4 rfl) ?_
                  refine lv_iadd hx hb dX11_votes_122 ?_
                  obtain ⟨jh30, hf⟩ := ckI_inv hf
                  refine va_iald hx hb hK.1 hP 1 0 rfl rfl jh30 dX11_votes_123 ?_
                  refine lv_isub hx hb dX11_votes_124 ?_
                  refine lv_iload_n hx hb dX11_votes_125 rfl (lv_at hl 5 rfl) ?_
                  refine lv_iadd hx hb dX11_votes_126 ?_
                  refine lv_iload hx hb dX11_votes_127 (lv_at hl 7 rfl) ?_
                  refine lv_iload hx hb dX11_votes_129 (lv_at hl 8 rfl) ?_
                  obtain ⟨jr31, je32, hf⟩ := bd1_inv hf
                  refine callRS (As := [.int ((jr28 - (v_t_s (Int32.toNatClampNeg (jr26 + jx2)))) + jx3), .int jx5, .int jx6]) (rest := []) S (ctX11_isLawful l D cI cZ ((jr28 - (v_t_s (Int32.toNatClampNeg (jr26 + jx2)))) + jx3) jx5 jx6 jr31 je32) (va_cwS 3 hts gX11_votes_X11_isLawful rfl rfl rfl hdX11_isLawful ⟨Nat.le_of_ble_eq_true rfl, Nat.le_of_ble_eq_true rfl⟩) hP [] rfl KX.xs (fun U _ hW => hK.warm hW) rfl hl.1 rfl (Nat.le_of_ble_eq_true rfl) dX11_votes_131 ⟨Nat.zero_le _, Nat.zero_le _⟩ ?_
                  refine lv_if_ne (tgt := 140) hx hb dX11_votes_134 (by decide) (fun jc33 => ?_) (fun jc33 => ?_)
                  · have hf := ite_f jc33 hf
                    refine lv_aload_n hx hb dX11_votes_140 rfl (lv_at hl 2 rfl) ?_
                    refine lv_iload hx hb dX11_votes_141 (lv_at hl 1 rfl) ?_
                    refine lv_bipush (v := 7) hx hb dX11_votes_143 (by decide) ?_
                    obtain ⟨jr34, je35, hf⟩ := bd1_inv hf
                    refine callRV (As := [.int jr21, .int (7 : Int32)]) (rest := []) S (ctX11_isEnough l D cI cZ a_t a_t_text a_t_draft a_t_s a_t_undos a_t_kept a_t_isKept a_t_seenWay a_t_seenIs a_t_sums a_t_parts a_t_heaps jr21 (7 : Int32) v_t_copies v_t_s (0 : Int32) v_t_typed v_t_spot v_t_token v_t_place v_t_value v_t_fault v_t_draftCopies v_t_undoMany v_t_seenMany v_t_asked jr34 je35) (cwV 2 hts gX11_votes_X11_isEnough rfl rfl rfl ⟨rfl, hdX11_isEnough⟩ ⟨Nat.le_of_ble_eq_true rfl, Nat.le_of_ble_eq_true rfl⟩) hP [0, 1] rfl KX.xs (fun U _ hW => hK.warm hW) (va_recv hK.1 hP (ci := 11) (q0 := 0) rfl rfl) rfl hl.1 rfl (Nat.le_of_ble_eq_true rfl) dX11_votes_145 ⟨Nat.zero_le _, Nat.zero_le _⟩ ?_
                    refine lv_if_ne (tgt := 154) hx hb dX11_votes_148 (by decide) (fun jc36 => ?_) (fun jc36 => ?_)
                    · have hf := ite_f jc36 hf
                      refine lv_aload_n hx hb dX11_votes_154 rfl (lv_at hl 2 rfl) ?_
                      refine lv_iload hx hb dX11_votes_155 (lv_at hl 1 rfl) ?_
                      obtain ⟨jr37, je38, hf⟩ := bd1_inv hf
                      refine callRV (As := [.int jr21]) (rest := []) S (ctX11_data l D cI cZ a_t a_t_text a_t_draft a_t_s a_t_undos a_t_kept a_t_isKept a_t_seenWay a_t_seenIs a_t_sums a_t_parts a_t_heaps jr21 v_t_copies v_t_s (0 : Int32) v_t_typed v_t_spot v_t_token v_t_place v_t_value v_t_fault v_t_draftCopies v_t_undoMany v_t_seenMany v_t_asked jr37 je38) (cwV 1 hts gX11_votes_X11_data rfl rfl rfl ⟨rfl, hdX11_data⟩ ⟨Nat.le_of_ble_eq_true rfl, Nat.le_of_ble_eq_true rfl⟩) hP [0, 1] rfl KX.xs (fun U _ hW => hK.warm hW) (va_recv hK.1 hP (ci := 11) (q0 := 0) rfl rfl) rfl hl.1 rfl (Nat.le_of_ble_eq_true rfl) dX11_votes_157 ⟨Nat.zero_le _, Nat.zero_le _⟩ ?_
                      refine lv_istore (lv' := [(9, .int jr37), (8, .int jr26), (7, .int jr21), (0, .ref a_t), (1, .int jx1), (2, .int jx2), (3, .int jx3), (4, .int jx4), (5, .int jx5), (6, .int jx6)]) hx hb dX11_votes_160 hl (by decide) rfl (fun ls hl => ?_)
                      refine lv_iload hx hb dX11_votes_162 (lv_at hl 0 rfl) ?_
                      refine lv_bipush (v := -9) hx hb dX11_votes_164 (by decide) ?_
                      refine lv_icmp_ne (tgt := 172) hx hb dX11_votes_166 (by decide) (fun jc39 => ?_) (fun jc39 => ?_)
                      · have hf := ite_f jc39 hf
                        refine lv_aload_n hx hb dX11_votes_172 rfl (lv_at hl 3 rfl) ?_
                        obtain ⟨jg40, jg41, je42, hf⟩ := bd2_inv hf
                        refine callMV (As := []) (rest := []) (wr := []) (wn := [(a_t, .inr (11, [.int (0 : Int32), .ref a_t_text, .int v_t_typed, .int v_t_spot, .int v_t_token, .int v_t_place, .int v_t_value, .int v_t_fault, .int v_t_copies, .int v_t_draftCopies, .ref a_t_draft, .ref a_t_s, .ref a_t_undos, .int jg40, .ref a_t_kept, .ref a_t_isKept, .ref a_t_seenWay, .ref a_t_seenIs, .int v_t_seenMany, .int v_t_asked, .ref a_t_sums, .ref a_t_parts, .ref a_t_heaps])), (a_t_s, .inl (cI, 103, .inl v_t_s)), (a_t_undos, .inl (cI, 1030, .inl jg41))]) S (ctX11_notes l D cI cZ a_t a_t_text a_t_draft a_t_s a_t_undos a_t_kept a_t_isKept a_t_seenWay a_t_seenIs a_t_sums a_t_parts a_t_heaps v_t_undoMany v_t_s v_t_undos (0 : Int32) v_t_typed v_t_spot v_t_token v_t_place v_t_value v_t_fault v_t_copies v_t_draftCopies v_t_seenMany v_t_asked jg40 jg41 je42) (cwV 0 hts gX11_votes_X11_notes rfl rfl rfl ⟨rfl, hdX11_notes⟩ ⟨Nat.le_of_ble_eq_true rfl, Nat.le_of_ble_eq_true rfl⟩) hP hD hS hA [0, 1, 2] [] [0, 1, 2] rfl rfl (by decide) (by decide) (by decide) (by decide) rfl KX.xs (fun U _ hW => hK.warm hW) (va_recv hK.1 hP (ci := 11) (q0 := 0) rfl rfl) rfl hl.1 rfl (Nat.le_of_ble_eq_true rfl) dX11_votes_173 ⟨Nat.zero_le _, Nat.zero_le _⟩ (fun H locs hP hD hS => ?_)
                        refine W.eq (g2 := F0 m 176 ls []) rfl ?_
                        refine lv_aload_n hx hb dX11_votes_176 rfl (lv_at hl 3 rfl) ?_
                        refine va_get (D := D) (ci := 11) (v := .ref a_t_s) (C := RX11) (T := TX11) (N := 23) hx hb hts iX11_votes_X11 hown hK.1 hP 0 rfl rfl 11 (by decide) (hts _ mX11_votes_2) (fun _ h9 => h9) rfl dX11_votes_177 ?_
                        refine lv_bipush (v := 30) hx hb dX11_votes_180 (by decide) ?_
                        obtain ⟨jh43, hf⟩ := ckI_inv hf
                        refine va_iald hx hb hK.1 hP 1 0 rfl rfl jh43 dX11_votes_182 ?_
                        refine lv_istore (lv' := [(10, .int (v_t_s (Int32.toNatClampNeg (30 : Int32)))), (9, .int jr37), (8, .int jr26), (7, .int jr21), (0, .ref a_t), (1, .int jx1), (2, .int jx2), (3, .int jx3), (4, .int jx4), (5, .int jx5), (6, .int jx6)]) hx hb dX11_votes_183 hl (by decide) rfl (fun ls hl => ?_)
                        refine lv_iload hx hb dX11_votes_185 (lv_at hl 0 rfl) ?_
                        obtain ⟨jr44, je45, hf⟩ := bd1_inv hf
                        refine callRS (As := [.int (v_t_s (Int32.toNatClampNeg (30 : Int32)))]) (rest := []) S (ctX11_confAt l D cI cZ (v_t_s (Int32.toNatClampNeg (30 : Int32))) jr44 je45) (va_cwS 1 hts gX11_votes_X11_confAt rfl rfl rfl hdX11_confAt ⟨Nat.le_of_ble_eq_true rfl, Nat.le_of_ble_eq_true rfl⟩) hP [] rfl KX.xs (fun U _ hW => hK.warm hW) rfl hl.1 rfl (Nat.le_of_ble_eq_true rfl) dX11_votes_187 ⟨Nat.zero_le _, Nat.zero_le _⟩ ?_
                        refine lv_istore (lv' := [(11, .int jr44), (10, .int (v_t_s (Int32.toNatClampNeg (30 : Int32)))), (9, .int jr37), (8, .int jr26), (7, .int jr21), (0, .ref a_t), (1, .int jx1), (2, .int jx2), (3, .int jx3), (4, .int jx4), (5, .int jx5), (6, .int jx6)]) hx hb dX11_votes_190 hl (by decide) rfl (fun ls hl => ?_)
                        refine lv_iconst (v := 0) hx hb dX11_votes_192 (by decide) ?_
                        refine lv_istore (lv' := [(12, .int (0 : Int32)), (11, .int jr44), (10, .int (v_t_s (Int32.toNatClampNeg (30 : Int32)))), (9, .int jr37), (8, .int jr26), (7, .int jr21), (0, .ref a_t), (1, .int jx1), (2, .int jx2), (3, .int jx3), (4, .int jx4), (5, .int jx5), (6, .int jx6)]) hx hb dX11_votes_193 hl (by decide) rfl (fun ls hl => ?_)
                        exact wX11_votes_195 S hr hlk hK hA fuel (0 : Int32) (0 : Int32) jg40 v_t_s jg41 ls _ _ hf (lv_sub hl [6, 8, 9, 10, 11, 12, 5, 4, 3, 2, 1, 0] rfl) hP hD hS
                      · have hf := ite_t jc39 hf
                        refine lv_bipush (v := -5) hx hb dX11_votes_169 (by decide) ?_
                        obtain ⟨rfl, rfl, rfl, rfl, rfl⟩ := pr5_inv hf
                        exact retM hx hb hr hlk hP hD hS dX11_votes_171
                    · have hf := ite_t jc36 hf
                      refine lv_bipush (v := -4) hx hb dX11_votes_151 (by decide) ?_
                      obtain ⟨rfl, rfl, rfl, rfl, rfl⟩ := pr5_inv hf
                      exact retM hx hb hr hlk hP hD hS dX11_votes_153
                  · have hf := ite_t jc33 hf
                    refine lv_bipush (v := -2) hx hb dX11_votes_137 (by decide) ?_
                    obtain ⟨rfl, rfl, rfl, rfl, rfl⟩ := pr5_inv hf
                    exact retM hx hb hr hlk hP hD hS dX11_votes_139
                · have hf := ite_t jc23 hf
                  refine lv_bipush (v := -4) hx hb dX11_votes_90 (by decide) ?_
                  obtain ⟨rfl, rfl, rfl, rfl, rfl⟩ := pr5_inv hf
                  exact retM hx hb hr hlk hP hD hS dX11_votes_92
              · have hf := ite_t jc20 hf
                refine lv_bipush (v := -3) hx hb dX11_votes_75 (by decide) ?_
                obtain ⟨rfl, rfl, rfl, rfl, rfl⟩ := pr5_inv hf
                exact retM hx hb hr hlk hP hD hS dX11_votes_77
            · have hf := ite_t jc18 hf
              refine lv_iconst (v := -1) hx hb dX11_votes_61 (by decide) ?_
              obtain ⟨rfl, rfl, rfl, rfl, rfl⟩ := pr5_inv hf
              exact retM hx hb hr hlk hP hD hS dX11_votes_62
def fX11_flips (jx1 : Int32) (v_t_thrown : Int32) (v_t_copies : Int32) (v_t_undoMany : Int32) (v_t_s : (Nat → Int32)) (v_t_undos : (Nat → Int32)) : Option (Int32 × Int32 × Int32 × (Nat → Int32) × (Nat → Int32)) := bd1 (fX11_isCopy jx1 v_t_copies) (fun jr1 => if jr1 = 0 then some ((-1 : Int32), (0 : Int32), v_t_undoMany, v_t_s, v_t_undos) else bd2 (fX11_notes v_t_undoMany v_t_s v_t_undos) (fun jg4 jg5 => ckI 103 ((0 : Int32) + jx1) (ckI 103 ((0 : Int32) + jx1) (ckI 103 ((0 : Int32) + jx1) (some (((upd v_t_s (Int32.toNatClampNeg ((0 : Int32) + jx1)) ((1 : Int32) - (v_t_s (Int32.toNatClampNeg ((0 : Int32) + jx1))))) (Int32.toNatClampNeg ((0 : Int32) + jx1))), (0 : Int32), jg4, (upd v_t_s (Int32.toNatClampNeg ((0 : Int32) + jx1)) ((1 : Int32) - (v_t_s (Int32.toNatClampNeg ((0 : Int32) + jx1))))), jg5))))))
abbrev rmX11_flips : Room := { frames := 2, cells := 0, slots := 0, locals := 43 }
theorem iX11_flips_X11 : ∀ w ∈ wsX110, w ∈ wsX11_flips := fun _ h => List.mem_cons_of_mem _ (List.mem_append_right _ h)
theorem mX11_flips_1 : (Cond.fieldLink RX11 50 "VoteFilesModel" "thrown" "I") ∈ wsX11_flips := List.mem_of_getElem? (i := 1) rfl
theorem mX11_flips_2 : (Cond.fieldLink RX11 16 "VoteFilesModel" "s" "[I") ∈ wsX11_flips := List.mem_of_getElem? (i := 2) rfl
theorem hdX11_flips : yX11_flips.cls ≠ "java/lang/invoke/MethodHandle" ∧ yX11_flips.cls ≠ "java/lang/invoke/VarHandle" ∧ (parseMethodDescriptor yX11_flips.desc).map (fun d => d.parameters.length) = some 1 := by decide +kernel
set_option maxHeartbeats 4000000 in
set_option maxRecDepth 100000 in
theorem ctX11_flips (l : Launch) (D : va_G) (cI cZ : ClassId) (a_t a_t_text a_t_draft a_t_s a_t_undos a_t_kept a_t_isKept a_t_seenWay a_t_seenIs a_t_sums a_t_parts a_t_heaps : Nat) (jx1 : Int32) (v_t_thrown : Int32) (v_t_copies : Int32) (v_t_undoMany : Int32) (v_t_s : (Nat → Int32)) (v_t_undos : (Nat → Int32)) (v_t_typed : Int32) (v_t_spot : Int32) (v_t_token : Int32) (v_t_place : Int32) (v_t_value : Int32) (v_t_fault : Int32) (v_t_draftCopies : Int32) (v_t_seenMany : Int32) (v_t_asked : Int32) (r : Int32) (o_t_thrown : Int32) (o_t_undoMany : Int32) (o_t_s : (Nat → Int32)) (o_t_undos : (Nat → Int32)) (hf : fX11_flips jx1 v_t_thrown v_t_copies v_t_undoMany v_t_s v_t_undos = some (r, o_t_thrown, o_t_undoMany, o_t_s, o_t_undos)) : cM l yX11_flips wsX11_flips rmX11_flips [.ref a_t, .int jx1] D [(a_t, .inr (11, [.int v_t_thrown, .ref a_t_text, .int v_t_typed, .int v_t_spot, .int v_t_token, .int v_t_place, .int v_t_value, .int v_t_fault, .int v_t_copies, .int v_t_draftCopies, .ref a_t_draft, .ref a_t_s, .ref a_t_undos, .int v_t_undoMany, .ref a_t_kept, .ref a_t_isKept, .ref a_t_seenWay, .ref a_t_seenIs, .int v_t_seenMany, .int v_t_asked, .ref a_t_sums, .ref a_t_parts, .ref a_t_heaps])), (a_t_s, .inl (cI, 103, .inl v_t_s)), (a_t_undos, .inl (cI, 1030, .inl v_t_undos))] [(a_t, .inr (11, [.int o_t_thrown, .ref a_t_text, .int v_t_typed, .int v_t_spot, .int v_t_token, .int v_t_place, .int v_t_value, .int v_t_fault, .int v_t_copies, .int v_t_draftCopies, .ref a_t_draft, .ref a_t_s, .ref a_t_undos, .int o_t_undoMany, .ref a_t_kept, .ref a_t_isKept, .ref a_t_seenWay, .ref a_t_seenIs, .int v_t_seenMany, .int v_t_asked, .ref a_t_sums, .ref a_t_parts, .ref a_t_heaps])), (a_t_s, .inl (cI, 103, .inl o_t_s)), (a_t_undos, .inl (cI, 1030, .inl o_t_undos))] (KX D cI cZ) (some (.int r)) := by
  refine cM_of (cc := cX11_flips) (maxL := 2) (ret := some .int) (by decide +kernel) rfl _ (Nat.le_of_ble_eq_true rfl) ?_
  intro p e s m below meth c ls A S hr hlk hP hK hl hD hA hS
  obtain ⟨hx, hb, hml, hown, hts⟩ := id S
  have hl : lv_has ls 2 [(0, .ref a_t), (1, .int jx1)] := hl
  unfold fX11_flips at hf
  refine lv_aload_n hx hb dX11_flips_0 rfl (lv_at hl 0 rfl) ?_
  refine lv_iconst (v := 0) hx hb dX11_flips_1 (by decide) ?_
  refine va_put (D := D) (ci := 11) (v := .int (0 : Int32)) (ty := .int) (C := RX11) (T := TX11) (N := 23) hx hb hts iX11_flips_X11 tyX11 tyX11_ok nmX11 hown hK.1 hP hD hS 0 rfl rfl 0 (by decide) (hts _ mX11_flips_1) (fun _ h9 => h9) rfl (tyX11_ok 0 (by decide)) rfl rfl (Nat.le_of_ble_eq_true rfl) dX11_flips_2 (fun H locs hP hD hS => ?_)
  have hP : va_P D vwCl [(a_t, .inr (11, [.int (0 : Int32), .ref a_t_text, .int v_t_typed, .int v_t_spot, .int v_t_token, .int v_t_place, .int v_t_value, .int v_t_fault, .int v_t_copies, .int v_t_draftCopies, .ref a_t_draft, .ref a_t_s, .ref a_t_undos, .int v_t_undoMany, .ref a_t_kept, .ref a_t_isKept, .ref a_t_seenWay, .ref a_t_seenIs, .int v_t_seenMany, .int v_t_asked, .ref a_t_sums, .ref a_t_parts, .ref a_t_heaps])), (a_t_s, .inl (cI, 103, .inl v_t_s)), (a_t_undos, .inl (cI, 1030, .inl v_t_undos))] H := hP
  have hD : va_D A [(a_t, .inr (11, [.int (0 : Int32), .ref a_t_text, .int v_t_typed, .int v_t_spot, .int v_t_token, .int v_t_place, .int v_t_value, .int v_t_fault, .int v_t_copies, .int v_t_draftCopies, .ref a_t_draft, .ref a_t_s, .ref a_t_undos, .int v_t_undoMany, .ref a_t_kept, .ref a_t_isKept, .ref a_t_seenWay, .ref a_t_seenIs, .int v_t_seenMany, .int v_t_asked, .ref a_t_sums, .ref a_t_parts, .ref a_t_heaps])), (a_t_s, .inl (cI, 103, .inl v_t_s)), (a_t_undos, .inl (cI, 1030, .inl v_t_undos))] := hD
  refine lv_aload_n hx hb dX11_flips_5 rfl (lv_at hl 0 rfl) ?_
  refine lv_iload_n hx hb dX11_flips_6 rfl (lv_at hl 1 rfl) ?_
  obtain ⟨jr1, je2, hf⟩ := bd1_inv hf
  refine callRV (As := [.int jx1]) (rest := []) S (ctX11_isCopy l D cI cZ a_t a_t_text a_t_draft a_t_s a_t_undos a_t_kept a_t_isKept a_t_seenWay a_t_seenIs a_t_sums a_t_parts a_t_heaps jx1 v_t_copies (0 : Int32) v_t_typed v_t_spot v_t_token v_t_place v_t_value v_t_fault v_t_draftCopies v_t_undoMany v_t_seenMany v_t_asked jr1 je2) (cwV 1 hts gX11_flips_X11_isCopy rfl rfl rfl ⟨rfl, hdX11_isCopy⟩ ⟨Nat.le_of_ble_eq_true rfl, Nat.le_of_ble_eq_true rfl⟩) hP [0] rfl KX.xs (fun U _ hW => hK.warm hW) (va_recv hK.1 hP (ci := 11) (q0 := 0) rfl rfl) rfl hl.1 rfl (Nat.le_of_ble_eq_true rfl) dX11_flips_7 ⟨Nat.zero_le _, Nat.zero_le _⟩ ?_
  refine lv_if_ne (tgt := 15) hx hb dX11_flips_10 (by decide) (fun jc3 => ?_) (fun jc3 => ?_)
  · have hf := ite_f jc3 hf
    refine lv_aload_n hx hb dX11_flips_15 rfl (lv_at hl 0 rfl) ?_
    obtain ⟨jg4, jg5, je6, hf⟩ := bd2_inv hf
    refine callMV (As := []) (rest := []) (wr := []) (wn := [(a_t, .inr (11, [.int (0 : Int32), .ref a_t_text, .int v_t_typed, .int v_t_spot, .int v_t_token, .int v_t_place, .int v_t_value, .int v_t_fault, .int v_t_copies, .int v_t_draftCopies, .ref a_t_draft, .ref a_t_s, .ref a_t_undos, .int jg4, .ref a_t_kept, .ref a_t_isKept, .ref a_t_seenWay, .ref a_t_seenIs, .int v_t_seenMany, .int v_t_asked, .ref a_t_sums, .ref a_t_parts, .ref a_t_heaps])), (a_t_s, .inl (cI, 103, .inl v_t_s)), (a_t_undos, .inl (cI, 1030, .inl jg5))]) S (ctX11_notes l D cI cZ a_t a_t_text a_t_draft a_t_s a_t_undos a_t_kept a_t_isKept a_t_seenWay a_t_seenIs a_t_sums a_t_parts a_t_heaps v_t_undoMany v_t_s v_t_undos (0 : Int32) v_t_typed v_t_spot v_t_token v_t_place v_t_value v_t_fault v_t_copies v_t_draftCopies v_t_seenMany v_t_asked jg4 jg5 je6) (cwV 0 hts gX11_flips_X11_notes rfl rfl rfl ⟨rfl, hdX11_notes⟩ ⟨Nat.le_of_ble_eq_true rfl, Nat.le_of_ble_eq_true rfl⟩) hP hD hS hA [0, 1, 2] [] [0, 1, 2] rfl rfl (by decide) (by decide) (by decide) (by decide) rfl KX.xs (fun U _ hW => hK.warm hW) (va_recv hK.1 hP (ci := 11) (q0 := 0) rfl rfl) rfl hl.1 rfl (Nat.le_of_ble_eq_true rfl) dX11_flips_16 ⟨Nat.zero_le _, Nat.zero_le _⟩ (fun H locs hP hD hS => ?_)
    refine W.eq (g2 := F0 m 19 ls []) rfl ?_
    refine lv_aload_n hx hb dX11_flips_19 rfl (lv_at hl 0 rfl) ?_
    refine va_get (D := D) (ci := 11) (v := .ref a_t_s) (C := RX11) (T := TX11) (N := 23) hx hb hts iX11_flips_X11 hown hK.1 hP 0 rfl rfl 11 (by decide) (hts _ mX11_flips_2) (fun _ h9 => h9) rfl dX11_flips_20 ?_
    refine lv_iconst (v := 0) hx hb dX11_flips_23 (by decide) ?_
    refine lv_iload_n hx hb dX11_flips_24 rfl (lv_at hl 1 rfl) ?_
    refine lv_iadd hx hb dX11_flips_25 ?_
    refine lv_iconst (v := 1) hx hb dX11_flips_26 (by decide) ?_
    refine lv_aload_n hx hb dX11_flips_27 rfl (lv_at hl 0 rfl) ?_
    refine va_get (D := D) (ci := 11) (v := .ref a_t_s) (C := RX11) (T := TX11) (N := 23) hx hb hts iX11_flips_X11 hown hK.1 hP 0 rfl rfl 11 (by decide) (hts _ mX11_flips_2) (fun _ h9 => h9) rfl dX11_flips_28 ?_
    refine lv_iconst (v := 0) hx hb dX11_flips_31 (by decide) ?_
    refine lv_iload_n hx hb dX11_flips_32 rfl (lv_at hl 1 rfl) ?_
    refine lv_iadd hx hb dX11_flips_33 ?_
    obtain ⟨jh7, hf⟩ := ckI_inv hf
    refine va_iald hx hb hK.1 hP 1 0 rfl rfl jh7 dX11_flips_34 ?_
    refine lv_isub hx hb dX11_flips_35 ?_
    obtain ⟨jh8, hf⟩ := ckI_inv hf
    refine va_iast hx hb hK.1 hP hD hS 1 0 rfl rfl jh8 dX11_flips_36 (fun H locs hP hD hS => ?_)
    have hP : va_P D vwCl [(a_t, .inr (11, [.int (0 : Int32), .ref a_t_text, .int v_t_typed, .int v_t_spot, .int v_t_token, .int v_t_place, .int v_t_value, .int v_t_fault, .int v_t_copies, .int v_t_draftCopies, .ref a_t_draft, .ref a_t_s, .ref a_t_undos, .int jg4, .ref a_t_kept, .ref a_t_isKept, .ref a_t_seenWay, .ref a_t_seenIs, .int v_t_seenMany, .int v_t_asked, .ref a_t_sums, .ref a_t_parts, .ref a_t_heaps])), (a_t_s, .inl (cI, 103, .inl (upd v_t_s (Int32.toNatClampNeg ((0 : Int32) + jx1)) ((1 : Int32) - (v_t_s (Int32.toNatClampNeg ((0 : Int32) + jx1))))))), (a_t_undos, .inl (cI, 1030, .inl jg5))] H := hP
    have hD : va_D A [(a_t, .inr (11, [.int (0 : Int32), .ref a_t_text, .int v_t_typed, .int v_t_spot, .int v_t_token, .int v_t_place, .int v_t_value, .int v_t_fault, .int v_t_copies, .int v_t_draftCopies, .ref a_t_draft, .ref a_t_s, .ref a_t_undos, .int jg4, .ref a_t_kept, .ref a_t_isKept, .ref a_t_seenWay, .ref a_t_seenIs, .int v_t_seenMany, .int v_t_asked, .ref a_t_sums, .ref a_t_parts, .ref a_t_heaps])), (a_t_s, .inl (cI, 103, .inl (upd v_t_s (Int32.toNatClampNeg ((0 : Int32) + jx1)) ((1 : Int32) - (v_t_s (Int32.toNatClampNeg ((0 : Int32) + jx1))))))), (a_t_undos, .inl (cI, 1030, .inl jg5))] := hD
    refine lv_aload_n hx hb dX11_flips_37 rfl (lv_at hl 0 rfl) ?_
    refine va_get (D := D) (ci := 11) (v := .ref a_t_s) (C := RX11) (T := TX11) (N := 23) hx hb hts iX11_flips_X11 hown hK.1 hP 0 rfl rfl 11 (by decide) (hts _ mX11_flips_2) (fun _ h9 => h9) rfl dX11_flips_38 ?_
    refine lv_iconst (v := 0) hx hb dX11_flips_41 (by decide) ?_
    refine lv_iload_n hx hb dX11_flips_42 rfl (lv_at hl 1 rfl) ?_
    refine lv_iadd hx hb dX11_flips_43 ?_
    obtain ⟨jh9, hf⟩ := ckI_inv hf
    refine va_iald hx hb hK.1 hP 1 0 rfl rfl jh9 dX11_flips_44 ?_
    obtain ⟨rfl, rfl, rfl, rfl, rfl⟩ := pr5_inv hf
    exact retM hx hb hr hlk hP hD hS dX11_flips_45
  · have hf := ite_t jc3 hf
    refine lv_iconst (v := -1) hx hb dX11_flips_13 (by decide) ?_
    obtain ⟨rfl, rfl, rfl, rfl, rfl⟩ := pr5_inv hf
    exact retM hx hb hr hlk hP hD hS dX11_flips_14
def fX11_moves (jx1 : Int32) (jx2 : Int32) (v_t_thrown : Int32) (v_t_copies : Int32) (v_t_undoMany : Int32) (v_t_s : (Nat → Int32)) (v_t_undos : (Nat → Int32)) : Option (Int32 × Int32 × Int32 × (Nat → Int32) × (Nat → Int32)) := bd1 (fX11_isCopy jx1 v_t_copies) (fun jr1 => if jr1 = 0 then some ((-1 : Int32), (0 : Int32), v_t_undoMany, v_t_s, v_t_undos) else bd1 (fX11_isGroup jx2) (fun jr4 => if jr4 = 0 then some ((-1 : Int32), (0 : Int32), v_t_undoMany, v_t_s, v_t_undos) else ckI 103 ((6 : Int32) + jx1) (if (v_t_s (Int32.toNatClampNeg ((6 : Int32) + jx1))) = jx2 then some ((-2 : Int32), (0 : Int32), v_t_undoMany, v_t_s, v_t_undos) else bd2 (fX11_notes v_t_undoMany v_t_s v_t_undos) (fun jg9 jg10 => ckI 103 ((6 : Int32) + jx1) (some ((v_t_s (Int32.toNatClampNeg ((6 : Int32) + jx1))), (0 : Int32), jg9, (upd v_t_s (Int32.toNatClampNeg ((6 : Int32) + jx1)) jx2), jg10))))))
abbrev rmX11_moves : Room := { frames := 2, cells := 0, slots := 0, locals := 43 }
theorem iX11_moves_X11 : ∀ w ∈ wsX110, w ∈ wsX11_moves := fun _ h => List.mem_cons_of_mem _ (List.mem_append_right _ h)
theorem mX11_moves_1 : (Cond.fieldLink RX11 50 "VoteFilesModel" "thrown" "I") ∈ wsX11_moves := List.mem_of_getElem? (i := 1) rfl
theorem mX11_moves_2 : (Cond.fieldLink RX11 16 "VoteFilesModel" "s" "[I") ∈ wsX11_moves := List.mem_of_getElem? (i := 2) rfl
theorem hdX11_moves : yX11_moves.cls ≠ "java/lang/invoke/MethodHandle" ∧ yX11_moves.cls ≠ "java/lang/invoke/VarHandle" ∧ (parseMethodDescriptor yX11_moves.desc).map (fun d => d.parameters.length) = some 2 := by decide +kernel
set_option maxHeartbeats 4000000 in
set_option maxRecDepth 100000 in
theorem ctX11_moves (l : Launch) (D : va_G) (cI cZ : ClassId) (a_t a_t_text a_t_draft a_t_s a_t_undos a_t_kept a_t_isKept a_t_seenWay a_t_seenIs a_t_sums a_t_parts a_t_heaps : Nat) (jx1 : Int32) (jx2 : Int32) (v_t_thrown : Int32) (v_t_copies : Int32) (v_t_undoMany : Int32) (v_t_s : (Nat → Int32)) (v_t_undos : (Nat → Int32)) (v_t_typed : Int32) (v_t_spot : Int32) (v_t_token : Int32) (v_t_place : Int32) (v_t_value : Int32) (v_t_fault : Int32) (v_t_draftCopies : Int32) (v_t_seenMany : Int32) (v_t_asked : Int32) (r : Int32) (o_t_thrown : Int32) (o_t_undoMany : Int32) (o_t_s : (Nat → Int32)) (o_t_undos : (Nat → Int32)) (hf : fX11_moves jx1 jx2 v_t_thrown v_t_copies v_t_undoMany v_t_s v_t_undos = some (r, o_t_thrown, o_t_undoMany, o_t_s, o_t_undos)) : cM l yX11_moves wsX11_moves rmX11_moves [.ref a_t, .int jx1, .int jx2] D [(a_t, .inr (11, [.int v_t_thrown, .ref a_t_text, .int v_t_typed, .int v_t_spot, .int v_t_token, .int v_t_place, .int v_t_value, .int v_t_fault, .int v_t_copies, .int v_t_draftCopies, .ref a_t_draft, .ref a_t_s, .ref a_t_undos, .int v_t_undoMany, .ref a_t_kept, .ref a_t_isKept, .ref a_t_seenWay, .ref a_t_seenIs, .int v_t_seenMany, .int v_t_asked, .ref a_t_sums, .ref a_t_parts, .ref a_t_heaps])), (a_t_s, .inl (cI, 103, .inl v_t_s)), (a_t_undos, .inl (cI, 1030, .inl v_t_undos))] [(a_t, .inr (11, [.int o_t_thrown, .ref a_t_text, .int v_t_typed, .int v_t_spot, .int v_t_token, .int v_t_place, .int v_t_value, .int v_t_fault, .int v_t_copies, .int v_t_draftCopies, .ref a_t_draft, .ref a_t_s, .ref a_t_undos, .int o_t_undoMany, .ref a_t_kept, .ref a_t_isKept, .ref a_t_seenWay, .ref a_t_seenIs, .int v_t_seenMany, .int v_t_asked, .ref a_t_sums, .ref a_t_parts, .ref a_t_heaps])), (a_t_s, .inl (cI, 103, .inl o_t_s)), (a_t_undos, .inl (cI, 1030, .inl o_t_undos))] (KX D cI cZ) (some (.int r)) := by
  refine cM_of (cc := cX11_moves) (maxL := 4) (ret := some .int) (by decide +kernel) rfl _ (Nat.le_of_ble_eq_true rfl) ?_
  intro p e s m below meth c ls A S hr hlk hP hK hl hD hA hS
  obtain ⟨hx, hb, hml, hown, hts⟩ := id S
  have hl : lv_has ls 4 [(0, .ref a_t), (1, .int jx1), (2, .int jx2)] := hl
  unfold fX11_moves at hf
  refine lv_aload_n hx hb dX11_moves_0 rfl (lv_at hl 0 rfl) ?_
  refine lv_iconst (v := 0) hx hb dX11_moves_1 (by decide) ?_
  refine va_put (D := D) (ci := 11) (v := .int (0 : Int32)) (ty := .int) (C := RX11) (T := TX11) (N := 23) hx hb hts iX11_moves_X11 tyX11 tyX11_ok nmX11 hown hK.1 hP hD hS 0 rfl rfl 0 (by decide) (hts _ mX11_moves_1) (fun _ h9 => h9) rfl (tyX11_ok 0 (by decide)) rfl rfl (Nat.le_of_ble_eq_true rfl) dX11_moves_2 (fun H locs hP hD hS => ?_)
  have hP : va_P D vwCl [(a_t, .inr (11, [.int (0 : Int32), .ref a_t_text, .int v_t_typed, .int v_t_spot, .int v_t_token, .int v_t_place, .int v_t_value, .int v_t_fault, .int v_t_copies, .int v_t_draftCopies, .ref a_t_draft, .ref a_t_s, .ref a_t_undos, .int v_t_undoMany, .ref a_t_kept, .ref a_t_isKept, .ref a_t_seenWay, .ref a_t_seenIs, .int v_t_seenMany, .int v_t_asked, .ref a_t_sums, .ref a_t_parts, .ref a_t_heaps])), (a_t_s, .inl (cI, 103, .inl v_t_s)), (a_t_undos, .inl (cI, 1030, .inl v_t_undos))] H := hP
  have hD : va_D A [(a_t, .inr (11, [.int (0 : Int32), .ref a_t_text, .int v_t_typed, .int v_t_spot, .int v_t_token, .int v_t_place, .int v_t_value, .int v_t_fault, .int v_t_copies, .int v_t_draftCopies, .ref a_t_draft, .ref a_t_s, .ref a_t_undos, .int v_t_undoMany, .ref a_t_kept, .ref a_t_isKept, .ref a_t_seenWay, .ref a_t_seenIs, .int v_t_seenMany, .int v_t_asked, .ref a_t_sums, .ref a_t_parts, .ref a_t_heaps])), (a_t_s, .inl (cI, 103, .inl v_t_s)), (a_t_undos, .inl (cI, 1030, .inl v_t_undos))] := hD
  refine lv_aload_n hx hb dX11_moves_5 rfl (lv_at hl 0 rfl) ?_
  refine lv_iload_n hx hb dX11_moves_6 rfl (lv_at hl 1 rfl) ?_
  obtain ⟨jr1, je2, hf⟩ := bd1_inv hf
  refine callRV (As := [.int jx1]) (rest := []) S (ctX11_isCopy l D cI cZ a_t a_t_text a_t_draft a_t_s a_t_undos a_t_kept a_t_isKept a_t_seenWay a_t_seenIs a_t_sums a_t_parts a_t_heaps jx1 v_t_copies (0 : Int32) v_t_typed v_t_spot v_t_token v_t_place v_t_value v_t_fault v_t_draftCopies v_t_undoMany v_t_seenMany v_t_asked jr1 je2) (cwV 1 hts gX11_moves_X11_isCopy rfl rfl rfl ⟨rfl, hdX11_isCopy⟩ ⟨Nat.le_of_ble_eq_true rfl, Nat.le_of_ble_eq_true rfl⟩) hP [0] rfl KX.xs (fun U _ hW => hK.warm hW) (va_recv hK.1 hP (ci := 11) (q0 := 0) rfl rfl) rfl hl.1 rfl (Nat.le_of_ble_eq_true rfl) dX11_moves_7 ⟨Nat.zero_le _, Nat.zero_le _⟩ ?_
  refine lv_if_eq (tgt := 20) hx hb dX11_moves_10 (by decide) (fun jc3 => ?_) (fun jc3 => ?_)
  · have hf := ite_t jc3 hf
    refine lv_iconst (v := -1) hx hb dX11_moves_20 (by decide) ?_
    obtain ⟨rfl, rfl, rfl, rfl, rfl⟩ := pr5_inv hf
    exact retM hx hb hr hlk hP hD hS dX11_moves_21
  · have hf := ite_f jc3 hf
    refine lv_iload_n hx hb dX11_moves_13 rfl (lv_at hl 2 rfl) ?_
    obtain ⟨jr4, je5, hf⟩ := bd1_inv hf
    refine callRS (As := [.int jx2]) (rest := []) S (ctX11_isGroup l D cI cZ jx2 jr4 je5) (va_cwS 1 hts gX11_moves_X11_isGroup rfl rfl rfl hdX11_isGroup ⟨Nat.le_of_ble_eq_true rfl, Nat.le_of_ble_eq_true rfl⟩) hP [] rfl KX.xs (fun U _ hW => hK.warm hW) rfl hl.1 rfl (Nat.le_of_ble_eq_true rfl) dX11_moves_14 ⟨Nat.zero_le _, Nat.zero_le _⟩ ?_
    refine lv_if_ne (tgt := 22) hx hb dX11_moves_17 (by decide) (fun jc6 => ?_) (fun jc6 => ?_)
    · have hf := ite_f jc6 hf
      refine lv_aload_n hx hb dX11_moves_22 rfl (lv_at hl 0 rfl) ?_
      refine va_get (D := D) (ci := 11) (v := .ref a_t_s) (C := RX11) (T := TX11) (N := 23) hx hb hts iX11_moves_X11 hown hK.1 hP 0 rfl rfl 11 (by decide) (hts _ mX11_moves_2) (fun _ h9 => h9) rfl dX11_moves_23 ?_
      refine lv_bipush (v := 6) hx hb dX11_moves_26 (by decide) ?_
      refine lv_iload_n hx hb dX11_moves_28 rfl (lv_at hl 1 rfl) ?_
      refine lv_iadd hx hb dX11_moves_29 ?_
      obtain ⟨jh7, hf⟩ := ckI_inv hf
      refine va_iald hx hb hK.1 hP 1 0 rfl rfl jh7 dX11_moves_30 ?_
      refine lv_istore_n (lv' := [(3, .int (v_t_s (Int32.toNatClampNeg ((6 : Int32) + jx1)))), (0, .ref a_t), (1, .int jx1), (2, .int jx2)]) hx hb dX11_moves_31 rfl hl (by decide) rfl (fun ls hl => ?_)
      refine lv_iload_n hx hb dX11_moves_32 rfl (lv_at hl 0 rfl) ?_
      refine lv_iload_n hx hb dX11_moves_33 rfl (lv_at hl 3 rfl) ?_
      refine lv_icmp_ne (tgt := 40) hx hb dX11_moves_34 (by decide) (fun jc8 => ?_) (fun jc8 => ?_)
      · have hf := ite_f jc8 hf
        refine lv_aload_n hx hb dX11_moves_40 rfl (lv_at hl 1 rfl) ?_
        obtain ⟨jg9, jg10, je11, hf⟩ := bd2_inv hf
        refine callMV (As := []) (rest := []) (wr := []) (wn := [(a_t, .inr (11, [.int (0 : Int32), .ref a_t_text, .int v_t_typed, .int v_t_spot, .int v_t_token, .int v_t_place, .int v_t_value, .int v_t_fault, .int v_t_copies, .int v_t_draftCopies, .ref a_t_draft, .ref a_t_s, .ref a_t_undos, .int jg9, .ref a_t_kept, .ref a_t_isKept, .ref a_t_seenWay, .ref a_t_seenIs, .int v_t_seenMany, .int v_t_asked, .ref a_t_sums, .ref a_t_parts, .ref a_t_heaps])), (a_t_s, .inl (cI, 103, .inl v_t_s)), (a_t_undos, .inl (cI, 1030, .inl jg10))]) S (ctX11_notes l D cI cZ a_t a_t_text a_t_draft a_t_s a_t_undos a_t_kept a_t_isKept a_t_seenWay a_t_seenIs a_t_sums a_t_parts a_t_heaps v_t_undoMany v_t_s v_t_undos (0 : Int32) v_t_typed v_t_spot v_t_token v_t_place v_t_value v_t_fault v_t_copies v_t_draftCopies v_t_seenMany v_t_asked jg9 jg10 je11) (cwV 0 hts gX11_moves_X11_notes rfl rfl rfl ⟨rfl, hdX11_notes⟩ ⟨Nat.le_of_ble_eq_true rfl, Nat.le_of_ble_eq_true rfl⟩) hP hD hS hA [0, 1, 2] [] [0, 1, 2] rfl rfl (by decide) (by decide) (by decide) (by decide) rfl KX.xs (fun U _ hW => hK.warm hW) (va_recv hK.1 hP (ci := 11) (q0 := 0) rfl rfl) rfl hl.1 rfl (Nat.le_of_ble_eq_true rfl) dX11_moves_41 ⟨Nat.zero_le _, Nat.zero_le _⟩ (fun H locs hP hD hS => ?_)
        refine W.eq (g2 := F0 m 44 ls []) rfl ?_
        refine lv_aload_n hx hb dX11_moves_44 rfl (lv_at hl 1 rfl) ?_
        refine va_get (D := D) (ci := 11) (v := .ref a_t_s) (C := RX11) (T := TX11) (N := 23) hx hb hts iX11_moves_X11 hown hK.1 hP 0 rfl rfl 11 (by decide) (hts _ mX11_moves_2) (fun _ h9 => h9) rfl dX11_moves_45 ?_
        refine lv_bipush (v := 6) hx hb dX11_moves_48 (by decide) ?_
        refine lv_iload_n hx hb dX11_moves_50 rfl (lv_at hl 2 rfl) ?_
        refine lv_iadd hx hb dX11_moves_51 ?_
        refine lv_iload_n hx hb dX11_moves_52 rfl (lv_at hl 3 rfl) ?_
        obtain ⟨jh12, hf⟩ := ckI_inv hf
        refine va_iast hx hb hK.1 hP hD hS 1 0 rfl rfl jh12 dX11_moves_53 (fun H locs hP hD hS => ?_)
        have hP : va_P D vwCl [(a_t, .inr (11, [.int (0 : Int32), .ref a_t_text, .int v_t_typed, .int v_t_spot, .int v_t_token, .int v_t_place, .int v_t_value, .int v_t_fault, .int v_t_copies, .int v_t_draftCopies, .ref a_t_draft, .ref a_t_s, .ref a_t_undos, .int jg9, .ref a_t_kept, .ref a_t_isKept, .ref a_t_seenWay, .ref a_t_seenIs, .int v_t_seenMany, .int v_t_asked, .ref a_t_sums, .ref a_t_parts, .ref a_t_heaps])), (a_t_s, .inl (cI, 103, .inl (upd v_t_s (Int32.toNatClampNeg ((6 : Int32) + jx1)) jx2))), (a_t_undos, .inl (cI, 1030, .inl jg10))] H := hP
        have hD : va_D A [(a_t, .inr (11, [.int (0 : Int32), .ref a_t_text, .int v_t_typed, .int v_t_spot, .int v_t_token, .int v_t_place, .int v_t_value, .int v_t_fault, .int v_t_copies, .int v_t_draftCopies, .ref a_t_draft, .ref a_t_s, .ref a_t_undos, .int jg9, .ref a_t_kept, .ref a_t_isKept, .ref a_t_seenWay, .ref a_t_seenIs, .int v_t_seenMany, .int v_t_asked, .ref a_t_sums, .ref a_t_parts, .ref a_t_heaps])), (a_t_s, .inl (cI, 103, .inl (upd v_t_s (Int32.toNatClampNeg ((6 : Int32) + jx1)) jx2))), (a_t_undos, .inl (cI, 1030, .inl jg10))] := hD
        refine lv_iload_n hx hb dX11_moves_54 rfl (lv_at hl 0 rfl) ?_
        obtain ⟨rfl, rfl, rfl, rfl, rfl⟩ := pr5_inv hf
        exact retM hx hb hr hlk hP hD hS dX11_moves_55
      · have hf := ite_t jc8 hf
        refine lv_bipush (v := -2) hx hb dX11_moves_37 (by decide) ?_
        obtain ⟨rfl, rfl, rfl, rfl, rfl⟩ := pr5_inv hf
        exact retM hx hb hr hlk hP hD hS dX11_moves_39
    · have hf := ite_t jc6 hf
      refine lv_iconst (v := -1) hx hb dX11_moves_20 (by decide) ?_
      obtain ⟨rfl, rfl, rfl, rfl, rfl⟩ := pr5_inv hf
      exact retM hx hb hr hlk hP hD hS dX11_moves_21
def fX11_undo_27 (v_t_undos : (Nat → Int32)) : Nat → Int32 → Int32 → Int32 → (Nat → Int32) → Option (Int32 × Int32 × Int32 × (Nat → Int32))
  | 0, _, _, _, _ => none
  | n + 1, jx1, v_t_thrown, v_t_undoMany, v_t_s => if (103 : Int32) ≤ jx1 then some (v_t_undoMany, v_t_thrown, v_t_undoMany, v_t_s) else ckI 1030 (((103 : Int32) * v_t_undoMany) + jx1) (ckI 103 jx1 ((fX11_undo_27 v_t_undos n) (jx1 + (1 : Int32)) v_t_thrown v_t_undoMany (upd v_t_s (Int32.toNatClampNeg jx1) (v_t_undos (Int32.toNatClampNeg (((103 : Int32) * v_t_undoMany) + jx1))))))
theorem fX11_undo_27_s (v_t_undos : (Nat → Int32)) (n : Nat) (jx1 : Int32) (v_t_thrown : Int32) (v_t_undoMany : Int32) (v_t_s : (Nat → Int32)) : fX11_undo_27 v_t_undos (n + 1) jx1 v_t_thrown v_t_undoMany v_t_s = if (103 : Int32) ≤ jx1 then some (v_t_undoMany, v_t_thrown, v_t_undoMany, v_t_s) else ckI 1030 (((103 : Int32) * v_t_undoMany) + jx1) (ckI 103 jx1 ((fX11_undo_27 v_t_undos n) (jx1 + (1 : Int32)) v_t_thrown v_t_undoMany (upd v_t_s (Int32.toNatClampNeg jx1) (v_t_undos (Int32.toNatClampNeg (((103 : Int32) * v_t_undoMany) + jx1)))))) := rfl
def fX11_undo (v_t_thrown : Int32) (v_t_undoMany : Int32) (v_t_s : (Nat → Int32)) (v_t_undos : (Nat → Int32)) : Option (Int32 × Int32 × Int32 × (Nat → Int32)) := if v_t_undoMany = 0 then some ((-2 : Int32), (0 : Int32), v_t_undoMany, v_t_s) else fX11_undo_27 v_t_undos fuel (0 : Int32) (0 : Int32) (v_t_undoMany - (1 : Int32)) v_t_s
abbrev rmX11_undo : Room := { frames := 0, cells := 0, slots := 0, locals := 0 }
theorem iX11_undo_X11 : ∀ w ∈ wsX110, w ∈ wsX11_undo := fun _ h => List.mem_cons_of_mem _ (List.mem_append_right _ h)
theorem mX11_undo_2 : (Cond.fieldLink RX11 125 "VoteFilesModel" "undoMany" "I") ∈ wsX11_undo := List.mem_of_getElem? (i := 2) rfl
theorem mX11_undo_3 : (Cond.fieldLink RX11 16 "VoteFilesModel" "s" "[I") ∈ wsX11_undo := List.mem_of_getElem? (i := 3) rfl
theorem mX11_undo_4 : (Cond.fieldLink RX11 19 "VoteFilesModel" "undos" "[I") ∈ wsX11_undo := List.mem_of_getElem? (i := 4) rfl
theorem mX11_undo_1 : (Cond.fieldLink RX11 50 "VoteFilesModel" "thrown" "I") ∈ wsX11_undo := List.mem_of_getElem? (i := 1) rfl
set_option maxHeartbeats 4000000 in
set_option maxRecDepth 100000 in
theorem wX11_undo_27 {p : Program} {l : Launch} {e : Env} {s : State} {m : MethodId} {args : Array Value} {below : List Frame} {meth : Method} {c : Code} {D : va_G} {cI cZ : ClassId} (S : CallFix p m c cX11_undo 2 s args wsX11_undo RX11) (hr : meth.sig.returnType = some .int) (hlk : meth.locks = false) (hK : KX D cI cZ s) {a_t a_t_text a_t_draft a_t_s a_t_undos a_t_kept a_t_isKept a_t_seenWay a_t_seenIs a_t_sums a_t_parts a_t_heaps : Nat} {v_t_undos : (Nat → Int32)} {v_t_typed : Int32} {v_t_spot : Int32} {v_t_token : Int32} {v_t_place : Int32} {v_t_value : Int32} {v_t_fault : Int32} {v_t_copies : Int32} {v_t_draftCopies : Int32} {v_t_seenMany : Int32} {v_t_asked : Int32} {r : Int32} {o_t_thrown : Int32} {o_t_undoMany : Int32} {o_t_s : (Nat → Int32)} {A : Nat → Prop} (hA : ∀ q : Nat, s.heap.size ≤ q → A q) : ∀ (n : Nat), ∀ (jx1 : Int32) (v_t_thrown : Int32) (v_t_undoMany : Int32) (v_t_s : (Nat → Int32)) (ls : Array Slot) (H : Heap) (locs : List Loc), fX11_undo_27 v_t_undos n jx1 v_t_thrown v_t_undoMany v_t_s = some (r, o_t_thrown, o_t_undoMany, o_t_s) → lv_has ls 2 [(0, .ref a_t), (1, .int jx1)] → va_P D vwCl [(a_t, .inr (11, [.int v_t_thrown, .ref a_t_text, .int v_t_typed, .int v_t_spot, .int v_t_token, .int v_t_place, .int v_t_value, .int v_t_fault, .int v_t_copies, .int v_t_draftCopies, .ref a_t_draft, .ref a_t_s, .ref a_t_undos, .int v_t_undoMany, .ref a_t_kept, .ref a_t_isKept, .ref a_t_seenWay, .ref a_t_seenIs, .int v_t_seenMany, .int v_t_asked, .ref a_t_sums, .ref a_t_parts, .ref a_t_heaps])), (a_t_s, .inl (cI, 103, .inl v_t_s)), (a_t_undos, .inl (cI, 1030, .inl v_t_undos))] H → va_D A [(a_t, .inr (11, [.int v_t_thrown, .ref a_t_text, .int v_t_typed, .int v_t_spot, .int v_t_token, .int v_t_place, .int v_t_value, .int v_t_fault, .int v_t_copies, .int v_t_draftCopies, .ref a_t_draft, .ref a_t_s, .ref a_t_undos, .int v_t_undoMany, .ref a_t_kept, .ref a_t_isKept, .ref a_t_seenWay, .ref a_t_seenIs, .int v_t_seenMany, .int v_t_asked, .ref a_t_sums, .ref a_t_parts, .ref a_t_heaps])), (a_t_s, .inl (cI, 103, .inl v_t_s)), (a_t_undos, .inl (cI, 1030, .inl v_t_undos))] → va_S A s.heap H locs → W p l e rmX11_undo s m args below meth c H locs 0 0 (MQ below (qM D (some (.int r)) [(a_t, .inr (11, [.int o_t_thrown, .ref a_t_text, .int v_t_typed, .int v_t_spot, .int v_t_token, .int v_t_place, .int v_t_value, .int v_t_fault, .int v_t_copies, .int v_t_draftCopies, .ref a_t_draft, .ref a_t_s, .ref a_t_undos, .int o_t_undoMany, .ref a_t_kept, .ref a_t_isKept, .ref a_t_seenWay, .ref a_t_seenIs, .int v_t_seenMany, .int v_t_asked, .ref a_t_sums, .ref a_t_parts, .ref a_t_heaps])), (a_t_s, .inl (cI, 103, .inl o_t_s)), (a_t_undos, .inl (cI, 1030, .inl v_t_undos))] A) args s 0 0 A) (F0 m 27 ls []) := by
  obtain ⟨hx, hb, hml, hown, hts⟩ := id S
  intro n
  induction n with
  | zero =>
    intro jx1 v_t_thrown v_t_undoMany v_t_s ls H locs hf hl hP hD hS
    cases (show (none : Option _) = some _ from hf)
  | succ n ih =>
    intro jx1 v_t_thrown v_t_undoMany v_t_s ls H locs hf hl hP hD hS
    have hf := (fX11_undo_27_s _ n _ _ _ _).symm.trans hf
    refine lv_iload_n hx hb dX11_undo_27 rfl (lv_at hl 1 rfl) ?_
    refine lv_bipush (v := 103) hx hb dX11_undo_28 (by decide) ?_
    refine lv_icmp_ge (tgt := 59) hx hb dX11_undo_30 (by decide) (fun jc1 => ?_) (fun jc1 => ?_)
    · have hf := ite_t jc1 hf
      refine lv_aload_n hx hb dX11_undo_59 rfl (lv_at hl 0 rfl) ?_
      refine va_get (D := D) (ci := 11) (v := .int v_t_undoMany) (C := RX11) (T := TX11) (N := 23) hx hb hts iX11_undo_X11 hown hK.1 hP 0 rfl rfl 13 (by decide) (hts _ mX11_undo_2) (fun _ h9 => h9) rfl dX11_undo_60 ?_
      obtain ⟨rfl, rfl, rfl, rfl⟩ := pr4_inv hf
      exact retM hx hb hr hlk hP hD hS dX11_undo_63
    · have hf := ite_f jc1 hf
      refine lv_aload_n hx hb dX11_undo_33 rfl (lv_at hl 0 rfl) ?_
      refine va_get (D := D) (ci := 11) (v := .ref a_t_s) (C := RX11) (T := TX11) (N := 23) hx hb hts iX11_undo_X11 hown hK.1 hP 0 rfl rfl 11 (by decide) (hts _ mX11_undo_3) (fun _ h9 => h9) rfl dX11_undo_34 ?_
      refine lv_iload_n hx hb dX11_undo_37 rfl (lv_at hl 1 rfl) ?_
      refine lv_aload_n hx hb dX11_undo_38 rfl (lv_at hl 0 rfl) ?_
      refine va_get (D := D) (ci := 11) (v := .ref a_t_undos) (C := RX11) (T := TX11) (N := 23) hx hb hts iX11_undo_X11 hown hK.1 hP 0 rfl rfl 12 (by decide) (hts _ mX11_undo_4) (fun _ h9 => h9) rfl dX11_undo_39 ?_
      refine lv_bipush (v := 103) hx hb dX11_undo_42 (by decide) ?_
      refine lv_aload_n hx hb dX11_undo_44 rfl (lv_at hl 0 rfl) ?_
      refine va_get (D := D) (ci := 11) (v := .int v_t_undoMany) (C := RX11) (T := TX11) (N := 23) hx hb hts iX11_undo_X11 hown hK.1 hP 0 rfl rfl 13 (by decide) (hts _ mX11_undo_2) (fun _ h9 => h9) rfl dX11_undo_45 ?_
      refine lv_imul hx hb dX11_undo_48 ?_
      refine lv_iload_n hx hb dX11_undo_49 rfl (lv_at hl 1 rfl) ?_
      refine lv_iadd hx hb dX11_undo_50 ?_
      obtain ⟨jh2, hf⟩ := ckI_inv hf
      refine va_iald hx hb hK.1 hP 2 0 rfl rfl jh2 dX11_undo_51 ?_
      obtain ⟨jh3, hf⟩ := ckI_inv hf
      refine va_iast hx hb hK.1 hP hD hS 1 0 rfl rfl jh3 dX11_undo_52 (fun H locs hP hD hS => ?_)
      have hP : va_P D vwCl [(a_t, .inr (11, [.int v_t_thrown, .ref a_t_text, .int v_t_typed, .int v_t_spot, .int v_t_token, .int v_t_place, .int v_t_value, .int v_t_fault, .int v_t_copies, .int v_t_draftCopies, .ref a_t_draft, .ref a_t_s, .ref a_t_undos, .int v_t_undoMany, .ref a_t_kept, .ref a_t_isKept, .ref a_t_seenWay, .ref a_t_seenIs, .int v_t_seenMany, .int v_t_asked, .ref a_t_sums, .ref a_t_parts, .ref a_t_heaps])), (a_t_s, .inl (cI, 103, .inl (upd v_t_s (Int32.toNatClampNeg jx1) (v_t_undos (Int32.toNatClampNeg (((103 : Int32) * v_t_undoMany) + jx1)))))), (a_t_undos, .inl (cI, 1030, .inl v_t_undos))] H := hP
      have hD : va_D A [(a_t, .inr (11, [.int v_t_thrown, .ref a_t_text, .int v_t_typed, .int v_t_spot, .int v_t_token, .int v_t_place, .int v_t_value, .int v_t_fault, .int v_t_copies, .int v_t_draftCopies, .ref a_t_draft, .ref a_t_s, .ref a_t_undos, .int v_t_undoMany, .ref a_t_kept, .ref a_t_isKept, .ref a_t_seenWay, .ref a_t_seenIs, .int v_t_seenMany, .int v_t_asked, .ref a_t_sums, .ref a_t_parts, .ref a_t_heaps])), (a_t_s, .inl (cI, 103, .inl (upd v_t_s (Int32.toNatClampNeg jx1) (v_t_undos (Int32.toNatClampNeg (((103 : Int32) * v_t_undoMany) + jx1)))))), (a_t_undos, .inl (cI, 1030, .inl v_t_undos))] := hD
      refine lv_iinc (v := (jx1 + (1 : Int32))) (lv' := [(1, .int (jx1 + (1 : Int32))), (0, .ref a_t)]) hx hb dX11_undo_53 hl (k := 1) rfl rfl (by decide) rfl (fun ls hl => ?_)
      refine lv_goto (tgt := 27) hx hb dX11_undo_56 (by decide) ?_
      exact ih (jx1 + (1 : Int32)) v_t_thrown v_t_undoMany (upd v_t_s (Int32.toNatClampNeg jx1) (v_t_undos (Int32.toNatClampNeg (((103 : Int32) * v_t_undoMany) + jx1)))) ls _ _ hf (lv_sub hl [1, 0] rfl) hP hD hS
theorem hdX11_undo : yX11_undo.cls ≠ "java/lang/invoke/MethodHandle" ∧ yX11_undo.cls ≠ "java/lang/invoke/VarHandle" ∧ (parseMethodDescriptor yX11_undo.desc).map (fun d => d.parameters.length) = some 0 := by decide +kernel
set_option maxHeartbeats 4000000 in
set_option maxRecDepth 100000 in
theorem ctX11_undo (l : Launch) (D : va_G) (cI cZ : ClassId) (a_t a_t_text a_t_draft a_t_s a_t_undos a_t_kept a_t_isKept a_t_seenWay a_t_seenIs a_t_sums a_t_parts a_t_heaps : Nat) (v_t_thrown : Int32) (v_t_undoMany : Int32) (v_t_s : (Nat → Int32)) (v_t_undos : (Nat → Int32)) (v_t_typed : Int32) (v_t_spot : Int32) (v_t_token : Int32) (v_t_place : Int32) (v_t_value : Int32) (v_t_fault : Int32) (v_t_copies : Int32) (v_t_draftCopies : Int32) (v_t_seenMany : Int32) (v_t_asked : Int32) (r : Int32) (o_t_thrown : Int32) (o_t_undoMany : Int32) (o_t_s : (Nat → Int32)) (hf : fX11_undo v_t_thrown v_t_undoMany v_t_s v_t_undos = some (r, o_t_thrown, o_t_undoMany, o_t_s)) : cM l yX11_undo wsX11_undo rmX11_undo [.ref a_t] D [(a_t, .inr (11, [.int v_t_thrown, .ref a_t_text, .int v_t_typed, .int v_t_spot, .int v_t_token, .int v_t_place, .int v_t_value, .int v_t_fault, .int v_t_copies, .int v_t_draftCopies, .ref a_t_draft, .ref a_t_s, .ref a_t_undos, .int v_t_undoMany, .ref a_t_kept, .ref a_t_isKept, .ref a_t_seenWay, .ref a_t_seenIs, .int v_t_seenMany, .int v_t_asked, .ref a_t_sums, .ref a_t_parts, .ref a_t_heaps])), (a_t_s, .inl (cI, 103, .inl v_t_s)), (a_t_undos, .inl (cI, 1030, .inl v_t_undos))] [(a_t, .inr (11, [.int o_t_thrown, .ref a_t_text, .int v_t_typed, .int v_t_spot, .int v_t_token, .int v_t_place, .int v_t_value, .int v_t_fault, .int v_t_copies, .int v_t_draftCopies, .ref a_t_draft, .ref a_t_s, .ref a_t_undos, .int o_t_undoMany, .ref a_t_kept, .ref a_t_isKept, .ref a_t_seenWay, .ref a_t_seenIs, .int v_t_seenMany, .int v_t_asked, .ref a_t_sums, .ref a_t_parts, .ref a_t_heaps])), (a_t_s, .inl (cI, 103, .inl o_t_s)), (a_t_undos, .inl (cI, 1030, .inl v_t_undos))] (KX D cI cZ) (some (.int r)) := by
  refine cM_of (cc := cX11_undo) (maxL := 2) (ret := some .int) (by decide +kernel) rfl _ (Nat.le_of_ble_eq_true rfl) ?_
  intro p e s m below meth c ls A S hr hlk hP hK hl hD hA hS
  obtain ⟨hx, hb, hml, hown, hts⟩ := id S
  have hl : lv_has ls 2 [(0, .ref a_t)] := hl
  unfold fX11_undo at hf
  refine lv_aload_n hx hb dX11_undo_0 rfl (lv_at hl 0 rfl) ?_
  refine lv_iconst (v := 0) hx hb dX11_undo_1 (by decide) ?_
  refine va_put (D := D) (ci := 11) (v := .int (0 : Int32)) (ty := .int) (C := RX11) (T := TX11) (N := 23) hx hb hts iX11_undo_X11 tyX11 tyX11_ok nmX11 hown hK.1 hP hD hS 0 rfl rfl 0 (by decide) (hts _ mX11_undo_1) (fun _ h9 => h9) rfl (tyX11_ok 0 (by decide)) rfl rfl (Nat.le_of_ble_eq_true rfl) dX11_undo_2 (fun H locs hP hD hS => ?_)
  have hP : va_P D vwCl [(a_t, .inr (11, [.int (0 : Int32), .ref a_t_text, .int v_t_typed, .int v_t_spot, .int v_t_token, .int v_t_place, .int v_t_value, .int v_t_fault, .int v_t_copies, .int v_t_draftCopies, .ref a_t_draft, .ref a_t_s, .ref a_t_undos, .int v_t_undoMany, .ref a_t_kept, .ref a_t_isKept, .ref a_t_seenWay, .ref a_t_seenIs, .int v_t_seenMany, .int v_t_asked, .ref a_t_sums, .ref a_t_parts, .ref a_t_heaps])), (a_t_s, .inl (cI, 103, .inl v_t_s)), (a_t_undos, .inl (cI, 1030, .inl v_t_undos))] H := hP
  have hD : va_D A [(a_t, .inr (11, [.int (0 : Int32), .ref a_t_text, .int v_t_typed, .int v_t_spot, .int v_t_token, .int v_t_place, .int v_t_value, .int v_t_fault, .int v_t_copies, .int v_t_draftCopies, .ref a_t_draft, .ref a_t_s, .ref a_t_undos, .int v_t_undoMany, .ref a_t_kept, .ref a_t_isKept, .ref a_t_seenWay, .ref a_t_seenIs, .int v_t_seenMany, .int v_t_asked, .ref a_t_sums, .ref a_t_parts, .ref a_t_heaps])), (a_t_s, .inl (cI, 103, .inl v_t_s)), (a_t_undos, .inl (cI, 1030, .inl v_t_undos))] := hD
  refine lv_aload_n hx hb dX11_undo_5 rfl (lv_at hl 0 rfl) ?_
  refine va_get (D := D) (ci := 11) (v := .int v_t_undoMany) (C := RX11) (T := TX11) (N := 23) hx hb hts iX11_undo_X11 hown hK.1 hP 0 rfl rfl 13 (by decide) (hts _ mX11_undo_2) (fun _ h9 => h9) rfl dX11_undo_6 ?_
  refine lv_if_ne (tgt := 15) hx hb dX11_undo_9 (by decide) (fun jc1 => ?_) (fun jc1 => ?_)
  · have hf := ite_f jc1 hf
    refine lv_aload_n hx hb dX11_undo_15 rfl (lv_at hl 0 rfl) ?_
    refine lv_dup hx hb dX11_undo_16 rfl ?_
    refine va_get (D := D) (ci := 11) (v := .int v_t_undoMany) (C := RX11) (T := TX11) (N := 23) hx hb hts iX11_undo_X11 hown hK.1 hP 0 rfl rfl 13 (by decide) (hts _ mX11_undo_2) (fun _ h9 => h9) rfl dX11_undo_17 ?_
    refine lv_iconst (v := 1) hx hb dX11_undo_20 (by decide) ?_
    refine lv_isub hx hb dX11_undo_21 ?_
    refine va_put (D := D) (ci := 11) (v := .int (v_t_undoMany - (1 : Int32))) (ty := .int) (C := RX11) (T := TX11) (N := 23) hx hb hts iX11_undo_X11 tyX11 tyX11_ok nmX11 hown hK.1 hP hD hS 0 rfl rfl 13 (by decide) (hts _ mX11_undo_2) (fun _ h9 => h9) rfl (tyX11_ok 13 (by decide)) rfl rfl (Nat.le_of_ble_eq_true rfl) dX11_undo_22 (fun H locs hP hD hS => ?_)
    have hP : va_P D vwCl [(a_t, .inr (11, [.int (0 : Int32), .ref a_t_text, .int v_t_typed, .int v_t_spot, .int v_t_token, .int v_t_place, .int v_t_value, .int v_t_fault, .int v_t_copies, .int v_t_draftCopies, .ref a_t_draft, .ref a_t_s, .ref a_t_undos, .int (v_t_undoMany - (1 : Int32)), .ref a_t_kept, .ref a_t_isKept, .ref a_t_seenWay, .ref a_t_seenIs, .int v_t_seenMany, .int v_t_asked, .ref a_t_sums, .ref a_t_parts, .ref a_t_heaps])), (a_t_s, .inl (cI, 103, .inl v_t_s)), (a_t_undos, .inl (cI, 1030, .inl v_t_undos))] H := hP
    have hD : va_D A [(a_t, .inr (11, [.int (0 : Int32), .ref a_t_text, .int v_t_typed, .int v_t_spot, .int v_t_token, .int v_t_place, .int v_t_value, .int v_t_fault, .int v_t_copies, .int v_t_draftCopies, .ref a_t_draft, .ref a_t_s, .ref a_t_undos, .int (v_t_undoMany - (1 : Int32)), .ref a_t_kept, .ref a_t_isKept, .ref a_t_seenWay, .ref a_t_seenIs, .int v_t_seenMany, .int v_t_asked, .ref a_t_sums, .ref a_t_parts, .ref a_t_heaps])), (a_t_s, .inl (cI, 103, .inl v_t_s)), (a_t_undos, .inl (cI, 1030, .inl v_t_undos))] := hD
    refine lv_iconst (v := 0) hx hb dX11_undo_25 (by decide) ?_
    refine lv_istore_n (lv' := [(1, .int (0 : Int32)), (0, .ref a_t)]) hx hb dX11_undo_26 rfl hl (by decide) rfl (fun ls hl => ?_)
    exact wX11_undo_27 S hr hlk hK hA fuel (0 : Int32) (0 : Int32) (v_t_undoMany - (1 : Int32)) v_t_s ls _ _ hf (lv_sub hl [1, 0] rfl) hP hD hS
  · have hf := ite_t jc1 hf
    refine lv_bipush (v := -2) hx hb dX11_undo_12 (by decide) ?_
    obtain ⟨rfl, rfl, rfl, rfl⟩ := pr4_inv hf
    exact retM hx hb hr hlk hP hD hS dX11_undo_14
def fX11_copy (jx1 : Int32) (jx2 : Int32) (v_t_thrown : Int32) (v_t_copies : Int32) (v_t_s : (Nat → Int32)) : Option (Int32 × Int32) := bd1 (fX11_isCopy jx1 v_t_copies) (fun jr1 => if jr1 = 0 then some ((-1 : Int32), (0 : Int32)) else bd1 (fX11_in jx2 (0 : Int32) (6 : Int32)) (fun jr4 => if jr4 = 0 then some ((-1 : Int32), (0 : Int32)) else if (5 : Int32) ≤ jx2 then if jx2 = (5 : Int32) then bd1 (fX11_newest v_t_s) (fun jr12 => ckI 103 (jr12 + jx1) (some ((v_t_s (Int32.toNatClampNeg (jr12 + jx1))), (0 : Int32)))) else bd1 (fX11_newest v_t_s) (fun jr9 => ckI 103 (jr9 + (8 : Int32)) (some ((((v_t_s (Int32.toNatClampNeg (jr9 + (8 : Int32)))) >>> (jx1 &&& 31)) &&& (1 : Int32)), (0 : Int32)))) else ckI 103 (((6 : Int32) * jx2) + jx1) (some ((v_t_s (Int32.toNatClampNeg (((6 : Int32) * jx2) + jx1))), (0 : Int32)))))
abbrev rmX11_copy : Room := { frames := 2, cells := 0, slots := 0, locals := 43 }
theorem iX11_copy_X11 : ∀ w ∈ wsX110, w ∈ wsX11_copy := fun _ h => List.mem_cons_of_mem _ (List.mem_append_right _ h)
theorem mX11_copy_1 : (Cond.fieldLink RX11 50 "VoteFilesModel" "thrown" "I") ∈ wsX11_copy := List.mem_of_getElem? (i := 1) rfl
theorem mX11_copy_2 : (Cond.fieldLink RX11 16 "VoteFilesModel" "s" "[I") ∈ wsX11_copy := List.mem_of_getElem? (i := 2) rfl
theorem hdX11_copy : yX11_copy.cls ≠ "java/lang/invoke/MethodHandle" ∧ yX11_copy.cls ≠ "java/lang/invoke/VarHandle" ∧ (parseMethodDescriptor yX11_copy.desc).map (fun d => d.parameters.length) = some 2 := by decide +kernel
set_option maxHeartbeats 4000000 in
set_option maxRecDepth 100000 in
theorem ctX11_copy (l : Launch) (D : va_G) (cI cZ : ClassId) (a_t a_t_text a_t_draft a_t_s a_t_undos a_t_kept a_t_isKept a_t_seenWay a_t_seenIs a_t_sums a_t_parts a_t_heaps : Nat) (jx1 : Int32) (jx2 : Int32) (v_t_thrown : Int32) (v_t_copies : Int32) (v_t_s : (Nat → Int32)) (v_t_typed : Int32) (v_t_spot : Int32) (v_t_token : Int32) (v_t_place : Int32) (v_t_value : Int32) (v_t_fault : Int32) (v_t_draftCopies : Int32) (v_t_undoMany : Int32) (v_t_seenMany : Int32) (v_t_asked : Int32) (r : Int32) (o_t_thrown : Int32) (hf : fX11_copy jx1 jx2 v_t_thrown v_t_copies v_t_s = some (r, o_t_thrown)) : cM l yX11_copy wsX11_copy rmX11_copy [.ref a_t, .int jx1, .int jx2] D [(a_t, .inr (11, [.int v_t_thrown, .ref a_t_text, .int v_t_typed, .int v_t_spot, .int v_t_token, .int v_t_place, .int v_t_value, .int v_t_fault, .int v_t_copies, .int v_t_draftCopies, .ref a_t_draft, .ref a_t_s, .ref a_t_undos, .int v_t_undoMany, .ref a_t_kept, .ref a_t_isKept, .ref a_t_seenWay, .ref a_t_seenIs, .int v_t_seenMany, .int v_t_asked, .ref a_t_sums, .ref a_t_parts, .ref a_t_heaps])), (a_t_s, .inl (cI, 103, .inl v_t_s))] [(a_t, .inr (11, [.int o_t_thrown, .ref a_t_text, .int v_t_typed, .int v_t_spot, .int v_t_token, .int v_t_place, .int v_t_value, .int v_t_fault, .int v_t_copies, .int v_t_draftCopies, .ref a_t_draft, .ref a_t_s, .ref a_t_undos, .int v_t_undoMany, .ref a_t_kept, .ref a_t_isKept, .ref a_t_seenWay, .ref a_t_seenIs, .int v_t_seenMany, .int v_t_asked, .ref a_t_sums, .ref a_t_parts, .ref a_t_heaps])), (a_t_s, .inl (cI, 103, .inl v_t_s))] (KX D cI cZ) (some (.int r)) := by
  refine cM_of (cc := cX11_copy) (maxL := 3) (ret := some .int) (by decide +kernel) rfl _ (Nat.le_of_ble_eq_true rfl) ?_
  intro p e s m below meth c ls A S hr hlk hP hK hl hD hA hS
  obtain ⟨hx, hb, hml, hown, hts⟩ := id S
  have hl : lv_has ls 3 [(0, .ref a_t), (1, .int jx1), (2, .int jx2)] := hl
  unfold fX11_copy at hf
  refine lv_aload_n hx hb dX11_copy_0 rfl (lv_at hl 0 rfl) ?_
  refine lv_iconst (v := 0) hx hb dX11_copy_1 (by decide) ?_
  refine va_put (D := D) (ci := 11) (v := .int (0 : Int32)) (ty := .int) (C := RX11) (T := TX11) (N := 23) hx hb hts iX11_copy_X11 tyX11 tyX11_ok nmX11 hown hK.1 hP hD hS 0 rfl rfl 0 (by decide) (hts _ mX11_copy_1) (fun _ h9 => h9) rfl (tyX11_ok 0 (by decide)) rfl rfl (Nat.le_of_ble_eq_true rfl) dX11_copy_2 (fun H locs hP hD hS => ?_)
  have hP : va_P D vwCl [(a_t, .inr (11, [.int (0 : Int32), .ref a_t_text, .int v_t_typed, .int v_t_spot, .int v_t_token, .int v_t_place, .int v_t_value, .int v_t_fault, .int v_t_copies, .int v_t_draftCopies, .ref a_t_draft, .ref a_t_s, .ref a_t_undos, .int v_t_undoMany, .ref a_t_kept, .ref a_t_isKept, .ref a_t_seenWay, .ref a_t_seenIs, .int v_t_seenMany, .int v_t_asked, .ref a_t_sums, .ref a_t_parts, .ref a_t_heaps])), (a_t_s, .inl (cI, 103, .inl v_t_s))] H := hP
  have hD : va_D A [(a_t, .inr (11, [.int (0 : Int32), .ref a_t_text, .int v_t_typed, .int v_t_spot, .int v_t_token, .int v_t_place, .int v_t_value, .int v_t_fault, .int v_t_copies, .int v_t_draftCopies, .ref a_t_draft, .ref a_t_s, .ref a_t_undos, .int v_t_undoMany, .ref a_t_kept, .ref a_t_isKept, .ref a_t_seenWay, .ref a_t_seenIs, .int v_t_seenMany, .int v_t_asked, .ref a_t_sums, .ref a_t_parts, .ref a_t_heaps])), (a_t_s, .inl (cI, 103, .inl v_t_s))] := hD
  refine lv_aload_n hx hb dX11_copy_5 rfl (lv_at hl 0 rfl) ?_
  refine lv_iload_n hx hb dX11_copy_6 rfl (lv_at hl 1 rfl) ?_
  obtain ⟨jr1, je2, hf⟩ := bd1_inv hf
  refine callRV (As := [.int jx1]) (rest := []) S (ctX11_isCopy l D cI cZ a_t a_t_text a_t_draft a_t_s a_t_undos a_t_kept a_t_isKept a_t_seenWay a_t_seenIs a_t_sums a_t_parts a_t_heaps jx1 v_t_copies (0 : Int32) v_t_typed v_t_spot v_t_token v_t_place v_t_value v_t_fault v_t_draftCopies v_t_undoMany v_t_seenMany v_t_asked jr1 je2) (cwV 1 hts gX11_copy_X11_isCopy rfl rfl rfl ⟨rfl, hdX11_isCopy⟩ ⟨Nat.le_of_ble_eq_true rfl, Nat.le_of_ble_eq_true rfl⟩) hP [0] rfl KX.xs (fun U _ hW => hK.warm hW) (va_recv hK.1 hP (ci := 11) (q0 := 0) rfl rfl) rfl hl.1 rfl (Nat.le_of_ble_eq_true rfl) dX11_copy_7 ⟨Nat.zero_le _, Nat.zero_le _⟩ ?_
  refine lv_if_eq (tgt := 23) hx hb dX11_copy_10 (by decide) (fun jc3 => ?_) (fun jc3 => ?_)
  · have hf := ite_t jc3 hf
    refine lv_iconst (v := -1) hx hb dX11_copy_23 (by decide) ?_
    obtain ⟨rfl, rfl⟩ := pr2_inv hf
    exact retM hx hb hr hlk hP hD hS dX11_copy_24
  · have hf := ite_f jc3 hf
    refine lv_iload_n hx hb dX11_copy_13 rfl (lv_at hl 2 rfl) ?_
    refine lv_iconst (v := 0) hx hb dX11_copy_14 (by decide) ?_
    refine lv_bipush (v := 6) hx hb dX11_copy_15 (by decide) ?_
    obtain ⟨jr4, je5, hf⟩ := bd1_inv hf
    refine callRS (As := [.int jx2, .int (0 : Int32), .int (6 : Int32)]) (rest := []) S (ctX11_in l D cI cZ jx2 (0 : Int32) (6 : Int32) jr4 je5) (va_cwS 3 hts gX11_copy_X11_in rfl rfl rfl hdX11_in ⟨Nat.le_of_ble_eq_true rfl, Nat.le_of_ble_eq_true rfl⟩) hP [] rfl KX.xs (fun U _ hW => hK.warm hW) rfl hl.1 rfl (Nat.le_of_ble_eq_true rfl) dX11_copy_17 ⟨Nat.zero_le _, Nat.zero_le _⟩ ?_
    refine lv_if_ne (tgt := 25) hx hb dX11_copy_20 (by decide) (fun jc6 => ?_) (fun jc6 => ?_)
    · have hf := ite_f jc6 hf
      refine lv_iload_n hx hb dX11_copy_25 rfl (lv_at hl 2 rfl) ?_
      refine lv_iconst (v := 5) hx hb dX11_copy_26 (by decide) ?_
      refine lv_icmp_ge (tgt := 44) hx hb dX11_copy_27 (by decide) (fun jc7 => ?_) (fun jc7 => ?_)
      · have hf := ite_t jc7 hf
        refine lv_iload_n hx hb dX11_copy_44 rfl (lv_at hl 2 rfl) ?_
        refine lv_iconst (v := 5) hx hb dX11_copy_45 (by decide) ?_
        refine lv_icmp_ne (tgt := 63) hx hb dX11_copy_46 (by decide) (fun jc8 => ?_) (fun jc8 => ?_)
        · have hf := ite_f jc8 hf
          refine lv_aload_n hx hb dX11_copy_63 rfl (lv_at hl 0 rfl) ?_
          refine va_get (D := D) (ci := 11) (v := .ref a_t_s) (C := RX11) (T := TX11) (N := 23) hx hb hts iX11_copy_X11 hown hK.1 hP 0 rfl rfl 11 (by decide) (hts _ mX11_copy_2) (fun _ h9 => h9) rfl dX11_copy_64 ?_
          refine lv_aload_n hx hb dX11_copy_67 rfl (lv_at hl 0 rfl) ?_
          obtain ⟨jr9, je10, hf⟩ := bd1_inv hf
          refine callRV (As := []) (rest := [.ref a_t_s]) S (ctX11_newest l D cI cZ a_t a_t_text a_t_draft a_t_s a_t_undos a_t_kept a_t_isKept a_t_seenWay a_t_seenIs a_t_sums a_t_parts a_t_heaps v_t_s (0 : Int32) v_t_typed v_t_spot v_t_token v_t_place v_t_value v_t_fault v_t_copies v_t_draftCopies v_t_undoMany v_t_seenMany v_t_asked jr9 je10) (cwV 0 hts gX11_copy_X11_newest rfl rfl rfl ⟨rfl, hdX11_newest⟩ ⟨Nat.le_of_ble_eq_true rfl, Nat.le_of_ble_eq_true rfl⟩) hP [0, 1] rfl KX.xs (fun U _ hW => hK.warm hW) (va_recv hK.1 hP (ci := 11) (q0 := 0) rfl rfl) rfl hl.1 rfl (Nat.le_of_ble_eq_true rfl) dX11_copy_68 ⟨Nat.zero_le _, Nat.zero_le _⟩ ?_
          refine lv_bipush (v := 8) hx hb dX11_copy_71 (by decide) ?_
          refine lv_iadd hx hb dX11_copy_73 ?_
          obtain ⟨jh11, hf⟩ := ckI_inv hf
          refine va_iald hx hb hK.1 hP 1 0 rfl rfl jh11 dX11_copy_74 ?_
          refine lv_iload_n hx hb dX11_copy_75 rfl (lv_at hl 1 rfl) ?_
          refine lv_ishr hx hb dX11_copy_76 ?_
          refine lv_iconst (v := 1) hx hb dX11_copy_77 (by decide) ?_
          refine lv_iand hx hb dX11_copy_78 ?_
          obtain ⟨rfl, rfl⟩ := pr2_inv hf
          exact retM hx hb hr hlk hP hD hS dX11_copy_79
        · have hf := ite_t jc8 hf
          refine lv_aload_n hx hb dX11_copy_49 rfl (lv_at hl 0 rfl) ?_
          refine va_get (D := D) (ci := 11) (v := .ref a_t_s) (C := RX11) (T := TX11) (N := 23) hx hb hts iX11_copy_X11 hown hK.1 hP 0 rfl rfl 11 (by decide) (hts _ mX11_copy_2) (fun _ h9 => h9) rfl dX11_copy_50 ?_
          refine lv_aload_n hx hb dX11_copy_53 rfl (lv_at hl 0 rfl) ?_
          obtain ⟨jr12, je13, hf⟩ := bd1_inv hf
          refine callRV (As := []) (rest := [.ref a_t_s]) S (ctX11_newest l D cI cZ a_t a_t_text a_t_draft a_t_s a_t_undos a_t_kept a_t_isKept a_t_seenWay a_t_seenIs a_t_sums a_t_parts a_t_heaps v_t_s (0 : Int32) v_t_typed v_t_spot v_t_token v_t_place v_t_value v_t_fault v_t_copies v_t_draftCopies v_t_undoMany v_t_seenMany v_t_asked jr12 je13) (cwV 0 hts gX11_copy_X11_newest rfl rfl rfl ⟨rfl, hdX11_newest⟩ ⟨Nat.le_of_ble_eq_true rfl, Nat.le_of_ble_eq_true rfl⟩) hP [0, 1] rfl KX.xs (fun U _ hW => hK.warm hW) (va_recv hK.1 hP (ci := 11) (q0 := 0) rfl rfl) rfl hl.1 rfl (Nat.le_of_ble_eq_true rfl) dX11_copy_54 ⟨Nat.zero_le _, Nat.zero_le _⟩ ?_
          refine lv_iload_n hx hb dX11_copy_57 rfl (lv_at hl 1 rfl) ?_
          refine lv_iadd hx hb dX11_copy_58 ?_
          obtain ⟨jh14, hf⟩ := ckI_inv hf
          refine va_iald hx hb hK.1 hP 1 0 rfl rfl jh14 dX11_copy_59 ?_
          refine lv_goto (tgt := 79) hx hb dX11_copy_60 (by decide) ?_
          obtain ⟨rfl, rfl⟩ := pr2_inv hf
          exact retM hx hb hr hlk hP hD hS dX11_copy_79
      · have hf := ite_f jc7 hf
        refine lv_aload_n hx hb dX11_copy_30 rfl (lv_at hl 0 rfl) ?_
        refine va_get (D := D) (ci := 11) (v := .ref a_t_s) (C := RX11) (T := TX11) (N := 23) hx hb hts iX11_copy_X11 hown hK.1 hP 0 rfl rfl 11 (by decide) (hts _ mX11_copy_2) (fun _ h9 => h9) rfl dX11_copy_31 ?_
        refine lv_bipush (v := 6) hx hb dX11_copy_34 (by decide) ?_
        refine lv_iload_n hx hb dX11_copy_36 rfl (lv_at hl 2 rfl) ?_
        refine lv_imul hx hb dX11_copy_37 ?_
        refine lv_iload_n hx hb dX11_copy_38 rfl (lv_at hl 1 rfl) ?_
        refine lv_iadd hx hb dX11_copy_39 ?_
        obtain ⟨jh15, hf⟩ := ckI_inv hf
        refine va_iald hx hb hK.1 hP 1 0 rfl rfl jh15 dX11_copy_40 ?_
        refine lv_goto (tgt := 79) hx hb dX11_copy_41 (by decide) ?_
        obtain ⟨rfl, rfl⟩ := pr2_inv hf
        exact retM hx hb hr hlk hP hD hS dX11_copy_79
    · have hf := ite_t jc6 hf
      refine lv_iconst (v := -1) hx hb dX11_copy_23 (by decide) ?_
      obtain ⟨rfl, rfl⟩ := pr2_inv hf
      exact retM hx hb hr hlk hP hD hS dX11_copy_24
def fX11_group_38 (v_t_copies : Int32) (v_t_s : (Nat → Int32)) (jx2 : Int32) (jx3 : Int32) (v_t_thrown : Int32) : Option (Int32 × Int32) := if jx2 = (1 : Int32) then some ((-9 : Int32), v_t_thrown) else if jx2 = (3 : Int32) then some ((-9 : Int32), v_t_thrown) else if jx2 = 0 then some (jx3, v_t_thrown) else some ((0 : Int32), v_t_thrown)
def fX11_group_202 (v_t_copies : Int32) (v_t_s : (Nat → Int32)) (v_t_thrown : Int32) : Option (Int32 × Int32) := some ((1 : Int32), v_t_thrown)
def fX11_group_165 (v_t_copies : Int32) (v_t_s : (Nat → Int32)) (v_t_thrown : Int32) : Option (Int32 × Int32) := some ((0 : Int32), v_t_thrown)
def fX11_group_78 (v_t_copies : Int32) (v_t_s : (Nat → Int32)) (jx2 : Int32) (jx3 : Int32) (jy0 : Int32) (v_t_thrown : Int32) : Option (Int32 × Int32) := if (4 : Int32) ≤ jx2 then if jx2 = (4 : Int32) then if jy0 = 0 then some ((0 : Int32), v_t_thrown) else some ((1 : Int32), v_t_thrown) else if jx2 = (5 : Int32) then if jy0 = 0 then fX11_group_165 v_t_copies v_t_s v_t_thrown else bd1 (fX11_isEnough jx3 (6 : Int32) v_t_copies v_t_s) (fun jr12 => if jr12 = 0 then fX11_group_165 v_t_copies v_t_s v_t_thrown else some ((1 : Int32), v_t_thrown)) else bd1 (fX11_isEnough jx3 (7 : Int32) v_t_copies v_t_s) (fun jr4 => if jr4 = 0 then some ((0 : Int32), v_t_thrown) else if jx2 = (6 : Int32) then fX11_group_202 v_t_copies v_t_s v_t_thrown else if jy0 = 0 then some ((0 : Int32), v_t_thrown) else ckI 103 (30 : Int32) (if (8 : Int32) ≤ (v_t_s (Int32.toNatClampNeg (30 : Int32))) then some ((0 : Int32), v_t_thrown) else fX11_group_202 v_t_copies v_t_s v_t_thrown)) else if jx2 = (1 : Int32) then bd1 (fX11_greatest jx3 (24 : Int32) v_t_copies v_t_s) (fun jr26 => some (jr26, v_t_thrown)) else if jx2 = (2 : Int32) then bd1 (fX11_greatest jx3 (24 : Int32) v_t_copies v_t_s) (fun jr20 => bd1 (fX11_confAt jr20) (fun jr22 => bd1 (fX11_votesOf jx3 jr22 v_t_copies v_t_s) (fun jr24 => some (jr24, v_t_thrown)))) else bd1 (fX11_greatest jx3 (12 : Int32) v_t_copies v_t_s) (fun jr18 => some (jr18, v_t_thrown))
def fX11_group (jx1 : Int32) (jx2 : Int32) (v_t_thrown : Int32) (v_t_copies : Int32) (v_t_s : (Nat → Int32)) : Option (Int32 × Int32) := bd1 (fX11_isGroup jx1) (fun jr1 => if jr1 = 0 then some ((-1 : Int32), (0 : Int32)) else bd1 (fX11_in jx2 (0 : Int32) (7 : Int32)) (fun jr4 => if jr4 = 0 then some ((-1 : Int32), (0 : Int32)) else bd1 (fX11_present jx1 v_t_copies v_t_s) (fun jr7 => if jx2 = 0 then fX11_group_38 v_t_copies v_t_s jx2 jr7 (0 : Int32) else if jr7 = 0 then fX11_group_38 v_t_copies v_t_s jx2 jr7 (0 : Int32) else bd1 (fX11_data jr7 v_t_copies v_t_s) (fun jr11 => if jr11 = (-9 : Int32) then fX11_group_78 v_t_copies v_t_s jx2 jr7 (0 : Int32) (0 : Int32) else fX11_group_78 v_t_copies v_t_s jx2 jr7 (1 : Int32) (0 : Int32)))))
abbrev rmX11_group : Room := { frames := 3, cells := 0, slots := 0, locals := 69 }
theorem iX11_group_X11 : ∀ w ∈ wsX110, w ∈ wsX11_group := fun _ h => List.mem_cons_of_mem _ (List.mem_append_right _ h)
theorem mX11_group_2 : (Cond.fieldLink RX11 16 "VoteFilesModel" "s" "[I") ∈ wsX11_group := List.mem_of_getElem? (i := 2) rfl
theorem mX11_group_1 : (Cond.fieldLink RX11 50 "VoteFilesModel" "thrown" "I") ∈ wsX11_group := List.mem_of_getElem? (i := 1) rfl
set_option maxHeartbeats 4000000 in
set_option maxRecDepth 100000 in
theorem wX11_group_38 {p : Program} {l : Launch} {e : Env} {s : State} {m : MethodId} {args : Array Value} {below : List Frame} {meth : Method} {c : Code} {D : va_G} {cI cZ : ClassId} (S : CallFix p m c cX11_group 6 s args wsX11_group RX11) (hr : meth.sig.returnType = some .int) (hlk : meth.locks = false) (hK : KX D cI cZ s) {a_t a_t_text a_t_draft a_t_s a_t_undos a_t_kept a_t_isKept a_t_seenWay a_t_seenIs a_t_sums a_t_parts a_t_heaps : Nat} {v_t_copies : Int32} {v_t_s : (Nat → Int32)} {v_t_typed : Int32} {v_t_spot : Int32} {v_t_token : Int32} {v_t_place : Int32} {v_t_value : Int32} {v_t_fault : Int32} {v_t_draftCopies : Int32} {v_t_undoMany : Int32} {v_t_seenMany : Int32} {v_t_asked : Int32} {r : Int32} {o_t_thrown : Int32} {A : Nat → Prop} (hA : ∀ q : Nat, s.heap.size ≤ q → A q) : ∀ (jx2 : Int32) (jx3 : Int32) (v_t_thrown : Int32) (ls : Array Slot) (H : Heap) (locs : List Loc), fX11_group_38 v_t_copies v_t_s jx2 jx3 v_t_thrown = some (r, o_t_thrown) → lv_has ls 6 [(2, .int jx2), (3, .int jx3)] → va_P D vwCl [(a_t, .inr (11, [.int v_t_thrown, .ref a_t_text, .int v_t_typed, .int v_t_spot, .int v_t_token, .int v_t_place, .int v_t_value, .int v_t_fault, .int v_t_copies, .int v_t_draftCopies, .ref a_t_draft, .ref a_t_s, .ref a_t_undos, .int v_t_undoMany, .ref a_t_kept, .ref a_t_isKept, .ref a_t_seenWay, .ref a_t_seenIs, .int v_t_seenMany, .int v_t_asked, .ref a_t_sums, .ref a_t_parts, .ref a_t_heaps])), (a_t_s, .inl (cI, 103, .inl v_t_s))] H → va_D A [(a_t, .inr (11, [.int v_t_thrown, .ref a_t_text, .int v_t_typed, .int v_t_spot, .int v_t_token, .int v_t_place, .int v_t_value, .int v_t_fault, .int v_t_copies, .int v_t_draftCopies, .ref a_t_draft, .ref a_t_s, .ref a_t_undos, .int v_t_undoMany, .ref a_t_kept, .ref a_t_isKept, .ref a_t_seenWay, .ref a_t_seenIs, .int v_t_seenMany, .int v_t_asked, .ref a_t_sums, .ref a_t_parts, .ref a_t_heaps])), (a_t_s, .inl (cI, 103, .inl v_t_s))] → va_S A s.heap H locs → W p l e rmX11_group s m args below meth c H locs 0 0 (MQ below (qM D (some (.int r)) [(a_t, .inr (11, [.int o_t_thrown, .ref a_t_text, .int v_t_typed, .int v_t_spot, .int v_t_token, .int v_t_place, .int v_t_value, .int v_t_fault, .int v_t_copies, .int v_t_draftCopies, .ref a_t_draft, .ref a_t_s, .ref a_t_undos, .int v_t_undoMany, .ref a_t_kept, .ref a_t_isKept, .ref a_t_seenWay, .ref a_t_seenIs, .int v_t_seenMany, .int v_t_asked, .ref a_t_sums, .ref a_t_parts, .ref a_t_heaps])), (a_t_s, .inl (cI, 103, .inl v_t_s))] A) args s 0 0 A) (F0 m 38 ls []) := by
  obtain ⟨hx, hb, hml, hown, hts⟩ := id S
  intro jx2 jx3 v_t_thrown ls H locs hf hl hP hD hS
  unfold fX11_group_38 at hf
  refine lv_iload_n hx hb dX11_group_38 rfl (lv_at hl 0 rfl) ?_
  refine lv_iconst (v := 1) hx hb dX11_group_39 (by decide) ?_
  refine lv_icmp_eq (tgt := 48) hx hb dX11_group_40 (by decide) (fun jc1 => ?_) (fun jc1 => ?_)
  · have hf := ite_t jc1 hf
    refine lv_bipush (v := -9) hx hb dX11_group_48 (by decide) ?_
    refine lv_goto (tgt := 62) hx hb dX11_group_50 (by decide) ?_
    obtain ⟨rfl, rfl⟩ := pr2_inv hf
    exact retM hx hb hr hlk hP hD hS dX11_group_62
  · have hf := ite_f jc1 hf
    refine lv_iload_n hx hb dX11_group_43 rfl (lv_at hl 0 rfl) ?_
    refine lv_iconst (v := 3) hx hb dX11_group_44 (by decide) ?_
    refine lv_icmp_ne (tgt := 53) hx hb dX11_group_45 (by decide) (fun jc2 => ?_) (fun jc2 => ?_)
    · have hf := ite_f jc2 hf
      refine lv_iload_n hx hb dX11_group_53 rfl (lv_at hl 0 rfl) ?_
      refine lv_if_ne (tgt := 61) hx hb dX11_group_54 (by decide) (fun jc3 => ?_) (fun jc3 => ?_)
      · have hf := ite_f jc3 hf
        refine lv_iconst (v := 0) hx hb dX11_group_61 (by decide) ?_
        obtain ⟨rfl, rfl⟩ := pr2_inv hf
        exact retM hx hb hr hlk hP hD hS dX11_group_62
      · have hf := ite_t jc3 hf
        refine lv_iload_n hx hb dX11_group_57 rfl (lv_at hl 1 rfl) ?_
        refine lv_goto (tgt := 62) hx hb dX11_group_58 (by decide) ?_
        obtain ⟨rfl, rfl⟩ := pr2_inv hf
        exact retM hx hb hr hlk hP hD hS dX11_group_62
    · have hf := ite_t jc2 hf
      refine lv_bipush (v := -9) hx hb dX11_group_48 (by decide) ?_
      refine lv_goto (tgt := 62) hx hb dX11_group_50 (by decide) ?_
      obtain ⟨rfl, rfl⟩ := pr2_inv hf
      exact retM hx hb hr hlk hP hD hS dX11_group_62
set_option maxHeartbeats 4000000 in
set_option maxRecDepth 100000 in
theorem wX11_group_202 {p : Program} {l : Launch} {e : Env} {s : State} {m : MethodId} {args : Array Value} {below : List Frame} {meth : Method} {c : Code} {D : va_G} {cI cZ : ClassId} (S : CallFix p m c cX11_group 6 s args wsX11_group RX11) (hr : meth.sig.returnType = some .int) (hlk : meth.locks = false) (hK : KX D cI cZ s) {a_t a_t_text a_t_draft a_t_s a_t_undos a_t_kept a_t_isKept a_t_seenWay a_t_seenIs a_t_sums a_t_parts a_t_heaps : Nat} {v_t_copies : Int32} {v_t_s : (Nat → Int32)} {v_t_typed : Int32} {v_t_spot : Int32} {v_t_token : Int32} {v_t_place : Int32} {v_t_value : Int32} {v_t_fault : Int32} {v_t_draftCopies : Int32} {v_t_undoMany : Int32} {v_t_seenMany : Int32} {v_t_asked : Int32} {r : Int32} {o_t_thrown : Int32} {A : Nat → Prop} (hA : ∀ q : Nat, s.heap.size ≤ q → A q) : ∀ (v_t_thrown : Int32) (ls : Array Slot) (H : Heap) (locs : List Loc), fX11_group_202 v_t_copies v_t_s v_t_thrown = some (r, o_t_thrown) → lv_has ls 6 [] → va_P D vwCl [(a_t, .inr (11, [.int v_t_thrown, .ref a_t_text, .int v_t_typed, .int v_t_spot, .int v_t_token, .int v_t_place, .int v_t_value, .int v_t_fault, .int v_t_copies, .int v_t_draftCopies, .ref a_t_draft, .ref a_t_s, .ref a_t_undos, .int v_t_undoMany, .ref a_t_kept, .ref a_t_isKept, .ref a_t_seenWay, .ref a_t_seenIs, .int v_t_seenMany, .int v_t_asked, .ref a_t_sums, .ref a_t_parts, .ref a_t_heaps])), (a_t_s, .inl (cI, 103, .inl v_t_s))] H → va_D A [(a_t, .inr (11, [.int v_t_thrown, .ref a_t_text, .int v_t_typed, .int v_t_spot, .int v_t_token, .int v_t_place, .int v_t_value, .int v_t_fault, .int v_t_copies, .int v_t_draftCopies, .ref a_t_draft, .ref a_t_s, .ref a_t_undos, .int v_t_undoMany, .ref a_t_kept, .ref a_t_isKept, .ref a_t_seenWay, .ref a_t_seenIs, .int v_t_seenMany, .int v_t_asked, .ref a_t_sums, .ref a_t_parts, .ref a_t_heaps])), (a_t_s, .inl (cI, 103, .inl v_t_s))] → va_S A s.heap H locs → W p l e rmX11_group s m args below meth c H locs 0 0 (MQ below (qM D (some (.int r)) [(a_t, .inr (11, [.int o_t_thrown, .ref a_t_text, .int v_t_typed, .int v_t_spot, .int v_t_token, .int v_t_place, .int v_t_value, .int v_t_fault, .int v_t_copies, .int v_t_draftCopies, .ref a_t_draft, .ref a_t_s, .ref a_t_undos, .int v_t_undoMany, .ref a_t_kept, .ref a_t_isKept, .ref a_t_seenWay, .ref a_t_seenIs, .int v_t_seenMany, .int v_t_asked, .ref a_t_sums, .ref a_t_parts, .ref a_t_heaps])), (a_t_s, .inl (cI, 103, .inl v_t_s))] A) args s 0 0 A) (F0 m 202 ls []) := by
  obtain ⟨hx, hb, hml, hown, hts⟩ := id S
  intro v_t_thrown ls H locs hf hl hP hD hS
  unfold fX11_group_202 at hf
  refine lv_iconst (v := 1) hx hb dX11_group_202 (by decide) ?_
  refine lv_goto (tgt := 207) hx hb dX11_group_203 (by decide) ?_
  refine lv_istore (lv' := [(5, .int (1 : Int32))]) hx hb dX11_group_207 hl (by decide) rfl (fun ls hl => ?_)
  refine lv_iload hx hb dX11_group_209 (lv_at hl 0 rfl) ?_
  refine lv_if_eq (tgt := 218) hx hb dX11_group_211 (by decide) (fun hc => absurd hc (by decide)) (fun _ => ?_)
  refine lv_iconst (v := 1) hx hb dX11_group_214 (by decide) ?_
  refine lv_goto (tgt := 219) hx hb dX11_group_215 (by decide) ?_
  obtain ⟨rfl, rfl⟩ := pr2_inv hf
  exact retM hx hb hr hlk hP hD hS dX11_group_219
set_option maxHeartbeats 4000000 in
set_option maxRecDepth 100000 in
theorem wX11_group_165 {p : Program} {l : Launch} {e : Env} {s : State} {m : MethodId} {args : Array Value} {below : List Frame} {meth : Method} {c : Code} {D : va_G} {cI cZ : ClassId} (S : CallFix p m c cX11_group 6 s args wsX11_group RX11) (hr : meth.sig.returnType = some .int) (hlk : meth.locks = false) (hK : KX D cI cZ s) {a_t a_t_text a_t_draft a_t_s a_t_undos a_t_kept a_t_isKept a_t_seenWay a_t_seenIs a_t_sums a_t_parts a_t_heaps : Nat} {v_t_copies : Int32} {v_t_s : (Nat → Int32)} {v_t_typed : Int32} {v_t_spot : Int32} {v_t_token : Int32} {v_t_place : Int32} {v_t_value : Int32} {v_t_fault : Int32} {v_t_draftCopies : Int32} {v_t_undoMany : Int32} {v_t_seenMany : Int32} {v_t_asked : Int32} {r : Int32} {o_t_thrown : Int32} {A : Nat → Prop} (hA : ∀ q : Nat, s.heap.size ≤ q → A q) : ∀ (v_t_thrown : Int32) (ls : Array Slot) (H : Heap) (locs : List Loc), fX11_group_165 v_t_copies v_t_s v_t_thrown = some (r, o_t_thrown) → lv_has ls 6 [] → va_P D vwCl [(a_t, .inr (11, [.int v_t_thrown, .ref a_t_text, .int v_t_typed, .int v_t_spot, .int v_t_token, .int v_t_place, .int v_t_value, .int v_t_fault, .int v_t_copies, .int v_t_draftCopies, .ref a_t_draft, .ref a_t_s, .ref a_t_undos, .int v_t_undoMany, .ref a_t_kept, .ref a_t_isKept, .ref a_t_seenWay, .ref a_t_seenIs, .int v_t_seenMany, .int v_t_asked, .ref a_t_sums, .ref a_t_parts, .ref a_t_heaps])), (a_t_s, .inl (cI, 103, .inl v_t_s))] H → va_D A [(a_t, .inr (11, [.int v_t_thrown, .ref a_t_text, .int v_t_typed, .int v_t_spot, .int v_t_token, .int v_t_place, .int v_t_value, .int v_t_fault, .int v_t_copies, .int v_t_draftCopies, .ref a_t_draft, .ref a_t_s, .ref a_t_undos, .int v_t_undoMany, .ref a_t_kept, .ref a_t_isKept, .ref a_t_seenWay, .ref a_t_seenIs, .int v_t_seenMany, .int v_t_asked, .ref a_t_sums, .ref a_t_parts, .ref a_t_heaps])), (a_t_s, .inl (cI, 103, .inl v_t_s))] → va_S A s.heap H locs → W p l e rmX11_group s m args below meth c H locs 0 0 (MQ below (qM D (some (.int r)) [(a_t, .inr (11, [.int o_t_thrown, .ref a_t_text, .int v_t_typed, .int v_t_spot, .int v_t_token, .int v_t_place, .int v_t_value, .int v_t_fault, .int v_t_copies, .int v_t_draftCopies, .ref a_t_draft, .ref a_t_s, .ref a_t_undos, .int v_t_undoMany, .ref a_t_kept, .ref a_t_isKept, .ref a_t_seenWay, .ref a_t_seenIs, .int v_t_seenMany, .int v_t_asked, .ref a_t_sums, .ref a_t_parts, .ref a_t_heaps])), (a_t_s, .inl (cI, 103, .inl v_t_s))] A) args s 0 0 A) (F0 m 165 ls []) := by
  obtain ⟨hx, hb, hml, hown, hts⟩ := id S
  intro v_t_thrown ls H locs hf hl hP hD hS
  unfold fX11_group_165 at hf
  refine lv_iconst (v := 0) hx hb dX11_group_165 (by decide) ?_
  refine lv_goto (tgt := 207) hx hb dX11_group_166 (by decide) ?_
  refine lv_istore (lv' := [(5, .int (0 : Int32))]) hx hb dX11_group_207 hl (by decide) rfl (fun ls hl => ?_)
  refine lv_iload hx hb dX11_group_209 (lv_at hl 0 rfl) ?_
  refine lv_if_eq (tgt := 218) hx hb dX11_group_211 (by decide) (fun _ => ?_) (fun hc => absurd (by decide) hc)
  refine lv_iconst (v := 0) hx hb dX11_group_218 (by decide) ?_
  obtain ⟨rfl, rfl⟩ := pr2_inv hf
  exact retM hx hb hr hlk hP hD hS dX11_group_219
set_option maxHeartbeats 4000000 in
set_option maxRecDepth 100000 in
theorem wX11_group_78 {p : Program} {l : Launch} {e : Env} {s : State} {m : MethodId} {args : Array Value} {below : List Frame} {meth : Method} {c : Code} {D : va_G} {cI cZ : ClassId} (S : CallFix p m c cX11_group 6 s args wsX11_group RX11) (hr : meth.sig.returnType = some .int) (hlk : meth.locks = false) (hK : KX D cI cZ s) {a_t a_t_text a_t_draft a_t_s a_t_undos a_t_kept a_t_isKept a_t_seenWay a_t_seenIs a_t_sums a_t_parts a_t_heaps : Nat} {v_t_copies : Int32} {v_t_s : (Nat → Int32)} {v_t_typed : Int32} {v_t_spot : Int32} {v_t_token : Int32} {v_t_place : Int32} {v_t_value : Int32} {v_t_fault : Int32} {v_t_draftCopies : Int32} {v_t_undoMany : Int32} {v_t_seenMany : Int32} {v_t_asked : Int32} {r : Int32} {o_t_thrown : Int32} {A : Nat → Prop} (hA : ∀ q : Nat, s.heap.size ≤ q → A q) : ∀ (jx2 : Int32) (jx3 : Int32) (jy0 : Int32) (v_t_thrown : Int32) (ls : Array Slot) (H : Heap) (locs : List Loc), fX11_group_78 v_t_copies v_t_s jx2 jx3 jy0 v_t_thrown = some (r, o_t_thrown) → lv_has ls 6 [(0, .ref a_t), (2, .int jx2), (3, .int jx3)] → va_P D vwCl [(a_t, .inr (11, [.int v_t_thrown, .ref a_t_text, .int v_t_typed, .int v_t_spot, .int v_t_token, .int v_t_place, .int v_t_value, .int v_t_fault, .int v_t_copies, .int v_t_draftCopies, .ref a_t_draft, .ref a_t_s, .ref a_t_undos, .int v_t_undoMany, .ref a_t_kept, .ref a_t_isKept, .ref a_t_seenWay, .ref a_t_seenIs, .int v_t_seenMany, .int v_t_asked, .ref a_t_sums, .ref a_t_parts, .ref a_t_heaps])), (a_t_s, .inl (cI, 103, .inl v_t_s))] H → va_D A [(a_t, .inr (11, [.int v_t_thrown, .ref a_t_text, .int v_t_typed, .int v_t_spot, .int v_t_token, .int v_t_place, .int v_t_value, .int v_t_fault, .int v_t_copies, .int v_t_draftCopies, .ref a_t_draft, .ref a_t_s, .ref a_t_undos, .int v_t_undoMany, .ref a_t_kept, .ref a_t_isKept, .ref a_t_seenWay, .ref a_t_seenIs, .int v_t_seenMany, .int v_t_asked, .ref a_t_sums, .ref a_t_parts, .ref a_t_heaps])), (a_t_s, .inl (cI, 103, .inl v_t_s))] → va_S A s.heap H locs → W p l e rmX11_group s m args below meth c H locs 0 0 (MQ below (qM D (some (.int r)) [(a_t, .inr (11, [.int o_t_thrown, .ref a_t_text, .int v_t_typed, .int v_t_spot, .int v_t_token, .int v_t_place, .int v_t_value, .int v_t_fault, .int v_t_copies, .int v_t_draftCopies, .ref a_t_draft, .ref a_t_s, .ref a_t_undos, .int v_t_undoMany, .ref a_t_kept, .ref a_t_isKept, .ref a_t_seenWay, .ref a_t_seenIs, .int v_t_seenMany, .int v_t_asked, .ref a_t_sums, .ref a_t_parts, .ref a_t_heaps])), (a_t_s, .inl (cI, 103, .inl v_t_s))] A) args s 0 0 A) (F0 m 78 ls [.int jy0]) := by
  obtain ⟨hx, hb, hml, hown, hts⟩ := id S
  intro jx2 jx3 jy0 v_t_thrown ls H locs hf hl hP hD hS
  unfold fX11_group_78 at hf
  refine lv_istore (lv' := [(4, .int jy0), (0, .ref a_t), (2, .int jx2), (3, .int jx3)]) hx hb dX11_group_78 hl (by decide) rfl (fun ls hl => ?_)
  refine lv_iload_n hx hb dX11_group_80 rfl (lv_at hl 2 rfl) ?_
  refine lv_iconst (v := 4) hx hb dX11_group_81 (by decide) ?_
  refine lv_icmp_ge (tgt := 131) hx hb dX11_group_82 (by decide) (fun jc1 => ?_) (fun jc1 => ?_)
  · have hf := ite_t jc1 hf
    refine lv_iload_n hx hb dX11_group_131 rfl (lv_at hl 2 rfl) ?_
    refine lv_iconst (v := 4) hx hb dX11_group_132 (by decide) ?_
    refine lv_icmp_ne (tgt := 141) hx hb dX11_group_133 (by decide) (fun jc2 => ?_) (fun jc2 => ?_)
    · have hf := ite_f jc2 hf
      refine lv_iload_n hx hb dX11_group_141 rfl (lv_at hl 2 rfl) ?_
      refine lv_iconst (v := 5) hx hb dX11_group_142 (by decide) ?_
      refine lv_icmp_ne (tgt := 169) hx hb dX11_group_143 (by decide) (fun jc3 => ?_) (fun jc3 => ?_)
      · have hf := ite_f jc3 hf
        refine lv_aload_n hx hb dX11_group_169 rfl (lv_at hl 1 rfl) ?_
        refine lv_iload_n hx hb dX11_group_170 rfl (lv_at hl 3 rfl) ?_
        refine lv_bipush (v := 7) hx hb dX11_group_171 (by decide) ?_
        obtain ⟨jr4, je5, hf⟩ := bd1_inv hf
        refine callRV (As := [.int jx3, .int (7 : Int32)]) (rest := []) S (ctX11_isEnough l D cI cZ a_t a_t_text a_t_draft a_t_s a_t_undos a_t_kept a_t_isKept a_t_seenWay a_t_seenIs a_t_sums a_t_parts a_t_heaps jx3 (7 : Int32) v_t_copies v_t_s v_t_thrown v_t_typed v_t_spot v_t_token v_t_place v_t_value v_t_fault v_t_draftCopies v_t_undoMany v_t_seenMany v_t_asked jr4 je5) (cwV 2 hts gX11_group_X11_isEnough rfl rfl rfl ⟨rfl, hdX11_isEnough⟩ ⟨Nat.le_of_ble_eq_true rfl, Nat.le_of_ble_eq_true rfl⟩) hP [0, 1] rfl KX.xs (fun U _ hW => hK.warm hW) (va_recv hK.1 hP (ci := 11) (q0 := 0) rfl rfl) rfl hl.1 rfl (Nat.le_of_ble_eq_true rfl) dX11_group_173 ⟨Nat.zero_le _, Nat.zero_le _⟩ ?_
        refine lv_if_eq (tgt := 206) hx hb dX11_group_176 (by decide) (fun jc6 => ?_) (fun jc6 => ?_)
        · have hf := ite_t jc6 hf
          refine lv_iconst (v := 0) hx hb dX11_group_206 (by decide) ?_
          refine lv_istore (lv' := [(5, .int (0 : Int32)), (4, .int jy0), (0, .ref a_t), (2, .int jx2), (3, .int jx3)]) hx hb dX11_group_207 hl (by decide) rfl (fun ls hl => ?_)
          refine lv_iload hx hb dX11_group_209 (lv_at hl 0 rfl) ?_
          refine lv_if_eq (tgt := 218) hx hb dX11_group_211 (by decide) (fun _ => ?_) (fun hc => absurd (by decide) hc)
          refine lv_iconst (v := 0) hx hb dX11_group_218 (by decide) ?_
          obtain ⟨rfl, rfl⟩ := pr2_inv hf
          exact retM hx hb hr hlk hP hD hS dX11_group_219
        · have hf := ite_f jc6 hf
          refine lv_iload_n hx hb dX11_group_179 rfl (lv_at hl 2 rfl) ?_
          refine lv_bipush (v := 6) hx hb dX11_group_180 (by decide) ?_
          refine lv_icmp_eq (tgt := 202) hx hb dX11_group_182 (by decide) (fun jc7 => ?_) (fun jc7 => ?_)
          · have hf := ite_t jc7 hf
            exact wX11_group_202 S hr hlk hK hA v_t_thrown ls _ _ hf (lv_sub hl [] rfl) hP hD hS
          · have hf := ite_f jc7 hf
            refine lv_iload hx hb dX11_group_185 (lv_at hl 0 rfl) ?_
            refine lv_if_eq (tgt := 206) hx hb dX11_group_187 (by decide) (fun jc8 => ?_) (fun jc8 => ?_)
            · have hf := ite_t jc8 hf
              refine lv_iconst (v := 0) hx hb dX11_group_206 (by decide) ?_
              refine lv_istore (lv' := [(5, .int (0 : Int32)), (4, .int jy0), (0, .ref a_t), (2, .int jx2), (3, .int jx3)]) hx hb dX11_group_207 hl (by decide) rfl (fun ls hl => ?_)
              refine lv_iload hx hb dX11_group_209 (lv_at hl 0 rfl) ?_
              refine lv_if_eq (tgt := 218) hx hb dX11_group_211 (by decide) (fun _ => ?_) (fun hc => absurd (by decide) hc)
              refine lv_iconst (v := 0) hx hb dX11_group_218 (by decide) ?_
              obtain ⟨rfl, rfl⟩ := pr2_inv hf
              exact retM hx hb hr hlk hP hD hS dX11_group_219
            · have hf := ite_f jc8 hf
              refine lv_aload_n hx hb dX11_group_190 rfl (lv_at hl 1 rfl) ?_
              refine va_get (D := D) (ci := 11) (v := .ref a_t_s) (C := RX11) (T := TX11) (N := 23) hx hb hts iX11_group_X11 hown hK.1 hP 0 rfl rfl 11 (by decide) (hts _ mX11_group_2) (fun _ h9 => h9) rfl dX11_group_191 ?_
              refine lv_bipush (v := 30) hx hb dX11_group_194 (by decide) ?_
              obtain ⟨jh9, hf⟩ := ckI_inv hf
              refine va_iald hx hb hK.1 hP 1 0 rfl rfl jh9 dX11_group_196 ?_
              refine lv_bipush (v := 8) hx hb dX11_group_197 (by decide) ?_
              refine lv_icmp_ge (tgt := 206) hx hb dX11_group_199 (by decide) (fun jc10 => ?_) (fun jc10 => ?_)
              · have hf := ite_t jc10 hf
                refine lv_iconst (v := 0) hx hb dX11_group_206 (by decide) ?_
                refine lv_istore (lv' := [(5, .int (0 : Int32)), (4, .int jy0), (0, .ref a_t), (2, .int jx2), (3, .int jx3)]) hx hb dX11_group_207 hl (by decide) rfl (fun ls hl => ?_)
                refine lv_iload hx hb dX11_group_209 (lv_at hl 0 rfl) ?_
                refine lv_if_eq (tgt := 218) hx hb dX11_group_211 (by decide) (fun _ => ?_) (fun hc => absurd (by decide) hc)
                refine lv_iconst (v := 0) hx hb dX11_group_218 (by decide) ?_
                obtain ⟨rfl, rfl⟩ := pr2_inv hf
                exact retM hx hb hr hlk hP hD hS dX11_group_219
              · have hf := ite_f jc10 hf
                exact wX11_group_202 S hr hlk hK hA v_t_thrown ls _ _ hf (lv_sub hl [] rfl) hP hD hS
      · have hf := ite_t jc3 hf
        refine lv_iload hx hb dX11_group_146 (lv_at hl 0 rfl) ?_
        refine lv_if_eq (tgt := 165) hx hb dX11_group_148 (by decide) (fun jc11 => ?_) (fun jc11 => ?_)
        · have hf := ite_t jc11 hf
          exact wX11_group_165 S hr hlk hK hA v_t_thrown ls _ _ hf (lv_sub hl [] rfl) hP hD hS
        · have hf := ite_f jc11 hf
          refine lv_aload_n hx hb dX11_group_151 rfl (lv_at hl 1 rfl) ?_
          refine lv_iload_n hx hb dX11_group_152 rfl (lv_at hl 3 rfl) ?_
          refine lv_bipush (v := 6) hx hb dX11_group_153 (by decide) ?_
          obtain ⟨jr12, je13, hf⟩ := bd1_inv hf
          refine callRV (As := [.int jx3, .int (6 : Int32)]) (rest := []) S (ctX11_isEnough l D cI cZ a_t a_t_text a_t_draft a_t_s a_t_undos a_t_kept a_t_isKept a_t_seenWay a_t_seenIs a_t_sums a_t_parts a_t_heaps jx3 (6 : Int32) v_t_copies v_t_s v_t_thrown v_t_typed v_t_spot v_t_token v_t_place v_t_value v_t_fault v_t_draftCopies v_t_undoMany v_t_seenMany v_t_asked jr12 je13) (cwV 2 hts gX11_group_X11_isEnough rfl rfl rfl ⟨rfl, hdX11_isEnough⟩ ⟨Nat.le_of_ble_eq_true rfl, Nat.le_of_ble_eq_true rfl⟩) hP [0, 1] rfl KX.xs (fun U _ hW => hK.warm hW) (va_recv hK.1 hP (ci := 11) (q0 := 0) rfl rfl) rfl hl.1 rfl (Nat.le_of_ble_eq_true rfl) dX11_group_155 ⟨Nat.zero_le _, Nat.zero_le _⟩ ?_
          refine lv_if_eq (tgt := 165) hx hb dX11_group_158 (by decide) (fun jc14 => ?_) (fun jc14 => ?_)
          · have hf := ite_t jc14 hf
            exact wX11_group_165 S hr hlk hK hA v_t_thrown ls _ _ hf (lv_sub hl [] rfl) hP hD hS
          · have hf := ite_f jc14 hf
            refine lv_iconst (v := 1) hx hb dX11_group_161 (by decide) ?_
            refine lv_goto (tgt := 207) hx hb dX11_group_162 (by decide) ?_
            refine lv_istore (lv' := [(5, .int (1 : Int32)), (4, .int jy0), (0, .ref a_t), (2, .int jx2), (3, .int jx3)]) hx hb dX11_group_207 hl (by decide) rfl (fun ls hl => ?_)
            refine lv_iload hx hb dX11_group_209 (lv_at hl 0 rfl) ?_
            refine lv_if_eq (tgt := 218) hx hb dX11_group_211 (by decide) (fun hc => absurd hc (by decide)) (fun _ => ?_)
            refine lv_iconst (v := 1) hx hb dX11_group_214 (by decide) ?_
            refine lv_goto (tgt := 219) hx hb dX11_group_215 (by decide) ?_
            obtain ⟨rfl, rfl⟩ := pr2_inv hf
            exact retM hx hb hr hlk hP hD hS dX11_group_219
    · have hf := ite_t jc2 hf
      refine lv_iload hx hb dX11_group_136 (lv_at hl 0 rfl) ?_
      refine lv_goto (tgt := 207) hx hb dX11_group_138 (by decide) ?_
      refine lv_istore (lv' := [(5, .int jy0), (4, .int jy0), (0, .ref a_t), (2, .int jx2), (3, .int jx3)]) hx hb dX11_group_207 hl (by decide) rfl (fun ls hl => ?_)
      refine lv_iload hx hb dX11_group_209 (lv_at hl 0 rfl) ?_
      refine lv_if_eq (tgt := 218) hx hb dX11_group_211 (by decide) (fun jc15 => ?_) (fun jc15 => ?_)
      · have hf := ite_t jc15 hf
        refine lv_iconst (v := 0) hx hb dX11_group_218 (by decide) ?_
        obtain ⟨rfl, rfl⟩ := pr2_inv hf
        exact retM hx hb hr hlk hP hD hS dX11_group_219
      · have hf := ite_f jc15 hf
        refine lv_iconst (v := 1) hx hb dX11_group_214 (by decide) ?_
        refine lv_goto (tgt := 219) hx hb dX11_group_215 (by decide) ?_
        obtain ⟨rfl, rfl⟩ := pr2_inv hf
        exact retM hx hb hr hlk hP hD hS dX11_group_219
  · have hf := ite_f jc1 hf
    refine lv_iload_n hx hb dX11_group_85 rfl (lv_at hl 2 rfl) ?_
    refine lv_iconst (v := 1) hx hb dX11_group_86 (by decide) ?_
    refine lv_icmp_ne (tgt := 100) hx hb dX11_group_87 (by decide) (fun jc16 => ?_) (fun jc16 => ?_)
    · have hf := ite_f jc16 hf
      refine lv_iload_n hx hb dX11_group_100 rfl (lv_at hl 2 rfl) ?_
      refine lv_iconst (v := 2) hx hb dX11_group_101 (by decide) ?_
      refine lv_icmp_ne (tgt := 123) hx hb dX11_group_102 (by decide) (fun jc17 => ?_) (fun jc17 => ?_)
      · have hf := ite_f jc17 hf
        refine lv_aload_n hx hb dX11_group_123 rfl (lv_at hl 1 rfl) ?_
        refine lv_iload_n hx hb dX11_group_124 rfl (lv_at hl 3 rfl) ?_
        refine lv_bipush (v := 12) hx hb dX11_group_125 (by decide) ?_
        obtain ⟨jr18, je19, hf⟩ := bd1_inv hf
        refine callRV (As := [.int jx3, .int (12 : Int32)]) (rest := []) S (ctX11_greatest l D cI cZ a_t a_t_text a_t_draft a_t_s a_t_undos a_t_kept a_t_isKept a_t_seenWay a_t_seenIs a_t_sums a_t_parts a_t_heaps jx3 (12 : Int32) v_t_copies v_t_s v_t_thrown v_t_typed v_t_spot v_t_token v_t_place v_t_value v_t_fault v_t_draftCopies v_t_undoMany v_t_seenMany v_t_asked jr18 je19) (cwV 2 hts gX11_group_X11_greatest rfl rfl rfl ⟨rfl, hdX11_greatest⟩ ⟨Nat.le_of_ble_eq_true rfl, Nat.le_of_ble_eq_true rfl⟩) hP [0, 1] rfl KX.xs (fun U _ hW => hK.warm hW) (va_recv hK.1 hP (ci := 11) (q0 := 0) rfl rfl) rfl hl.1 rfl (Nat.le_of_ble_eq_true rfl) dX11_group_127 ⟨Nat.zero_le _, Nat.zero_le _⟩ ?_
        obtain ⟨rfl, rfl⟩ := pr2_inv hf
        exact retM hx hb hr hlk hP hD hS dX11_group_130
      · have hf := ite_t jc17 hf
        refine lv_aload_n hx hb dX11_group_105 rfl (lv_at hl 1 rfl) ?_
        refine lv_iload_n hx hb dX11_group_106 rfl (lv_at hl 3 rfl) ?_
        refine lv_aload_n hx hb dX11_group_107 rfl (lv_at hl 1 rfl) ?_
        refine lv_iload_n hx hb dX11_group_108 rfl (lv_at hl 3 rfl) ?_
        refine lv_bipush (v := 24) hx hb dX11_group_109 (by decide) ?_
        obtain ⟨jr20, je21, hf⟩ := bd1_inv hf
        refine callRV (As := [.int jx3, .int (24 : Int32)]) (rest := [.int jx3, .ref a_t]) S (ctX11_greatest l D cI cZ a_t a_t_text a_t_draft a_t_s a_t_undos a_t_kept a_t_isKept a_t_seenWay a_t_seenIs a_t_sums a_t_parts a_t_heaps jx3 (24 : Int32) v_t_copies v_t_s v_t_thrown v_t_typed v_t_spot v_t_token v_t_place v_t_value v_t_fault v_t_draftCopies v_t_undoMany v_t_seenMany v_t_asked jr20 je21) (cwV 2 hts gX11_group_X11_greatest rfl rfl rfl ⟨rfl, hdX11_greatest⟩ ⟨Nat.le_of_ble_eq_true rfl, Nat.le_of_ble_eq_true rfl⟩) hP [0, 1] rfl KX.xs (fun U _ hW => hK.warm hW) (va_recv hK.1 hP (ci := 11) (q0 := 0) rfl rfl) rfl hl.1 rfl (Nat.le_of_ble_eq_true rfl) dX11_group_111 ⟨Nat.zero_le _, Nat.zero_le _⟩ ?_
        obtain ⟨jr22, je23, hf⟩ := bd1_inv hf
        refine callRS (As := [.int jr20]) (rest := [.int jx3, .ref a_t]) S (ctX11_confAt l D cI cZ jr20 jr22 je23) (va_cwS 1 hts gX11_group_X11_confAt rfl rfl rfl hdX11_confAt ⟨Nat.le_of_ble_eq_true rfl, Nat.le_of_ble_eq_true rfl⟩) hP [] rfl KX.xs (fun U _ hW => hK.warm hW) rfl hl.1 rfl (Nat.le_of_ble_eq_true rfl) dX11_group_114 ⟨Nat.zero_le _, Nat.zero_le _⟩ ?_
        obtain ⟨jr24, je25, hf⟩ := bd1_inv hf
        refine callRV (As := [.int jx3, .int jr22]) (rest := []) S (ctX11_votesOf l D cI cZ a_t a_t_text a_t_draft a_t_s a_t_undos a_t_kept a_t_isKept a_t_seenWay a_t_seenIs a_t_sums a_t_parts a_t_heaps jx3 jr22 v_t_copies v_t_s v_t_thrown v_t_typed v_t_spot v_t_token v_t_place v_t_value v_t_fault v_t_draftCopies v_t_undoMany v_t_seenMany v_t_asked jr24 je25) (cwV 2 hts gX11_group_X11_votesOf rfl rfl rfl ⟨rfl, hdX11_votesOf⟩ ⟨Nat.le_of_ble_eq_true rfl, Nat.le_of_ble_eq_true rfl⟩) hP [0, 1] rfl KX.xs (fun U _ hW => hK.warm hW) (va_recv hK.1 hP (ci := 11) (q0 := 0) rfl rfl) rfl hl.1 rfl (Nat.le_of_ble_eq_true rfl) dX11_group_117 ⟨Nat.zero_le _, Nat.zero_le _⟩ ?_
        refine lv_goto (tgt := 130) hx hb dX11_group_120 (by decide) ?_
        obtain ⟨rfl, rfl⟩ := pr2_inv hf
        exact retM hx hb hr hlk hP hD hS dX11_group_130
    · have hf := ite_t jc16 hf
      refine lv_aload_n hx hb dX11_group_90 rfl (lv_at hl 1 rfl) ?_
      refine lv_iload_n hx hb dX11_group_91 rfl (lv_at hl 3 rfl) ?_
      refine lv_bipush (v := 24) hx hb dX11_group_92 (by decide) ?_
      obtain ⟨jr26, je27, hf⟩ := bd1_inv hf
      refine callRV (As := [.int jx3, .int (24 : Int32)]) (rest := []) S (ctX11_greatest l D cI cZ a_t a_t_text a_t_draft a_t_s a_t_undos a_t_kept a_t_isKept a_t_seenWay a_t_seenIs a_t_sums a_t_parts a_t_heaps jx3 (24 : Int32) v_t_copies v_t_s v_t_thrown v_t_typed v_t_spot v_t_token v_t_place v_t_value v_t_fault v_t_draftCopies v_t_undoMany v_t_seenMany v_t_asked jr26 je27) (cwV 2 hts gX11_group_X11_greatest rfl rfl rfl ⟨rfl, hdX11_greatest⟩ ⟨Nat.le_of_ble_eq_true rfl, Nat.le_of_ble_eq_true rfl⟩) hP [0, 1] rfl KX.xs (fun U _ hW => hK.warm hW) (va_recv hK.1 hP (ci := 11) (q0 := 0) rfl rfl) rfl hl.1 rfl (Nat.le_of_ble_eq_true rfl) dX11_group_94 ⟨Nat.zero_le _, Nat.zero_le _⟩ ?_
      refine lv_goto (tgt := 130) hx hb dX11_group_97 (by decide) ?_
      obtain ⟨rfl, rfl⟩ := pr2_inv hf
      exact retM hx hb hr hlk hP hD hS dX11_group_130
theorem hdX11_group : yX11_group.cls ≠ "java/lang/invoke/MethodHandle" ∧ yX11_group.cls ≠ "java/lang/invoke/VarHandle" ∧ (parseMethodDescriptor yX11_group.desc).map (fun d => d.parameters.length) = some 2 := by decide +kernel
set_option maxHeartbeats 4000000 in
set_option maxRecDepth 100000 in
theorem ctX11_group (l : Launch) (D : va_G) (cI cZ : ClassId) (a_t a_t_text a_t_draft a_t_s a_t_undos a_t_kept a_t_isKept a_t_seenWay a_t_seenIs a_t_sums a_t_parts a_t_heaps : Nat) (jx1 : Int32) (jx2 : Int32) (v_t_thrown : Int32) (v_t_copies : Int32) (v_t_s : (Nat → Int32)) (v_t_typed : Int32) (v_t_spot : Int32) (v_t_token : Int32) (v_t_place : Int32) (v_t_value : Int32) (v_t_fault : Int32) (v_t_draftCopies : Int32) (v_t_undoMany : Int32) (v_t_seenMany : Int32) (v_t_asked : Int32) (r : Int32) (o_t_thrown : Int32) (hf : fX11_group jx1 jx2 v_t_thrown v_t_copies v_t_s = some (r, o_t_thrown)) : cM l yX11_group wsX11_group rmX11_group [.ref a_t, .int jx1, .int jx2] D [(a_t, .inr (11, [.int v_t_thrown, .ref a_t_text, .int v_t_typed, .int v_t_spot, .int v_t_token, .int v_t_place, .int v_t_value, .int v_t_fault, .int v_t_copies, .int v_t_draftCopies, .ref a_t_draft, .ref a_t_s, .ref a_t_undos, .int v_t_undoMany, .ref a_t_kept, .ref a_t_isKept, .ref a_t_seenWay, .ref a_t_seenIs, .int v_t_seenMany, .int v_t_asked, .ref a_t_sums, .ref a_t_parts, .ref a_t_heaps])), (a_t_s, .inl (cI, 103, .inl v_t_s))] [(a_t, .inr (11, [.int o_t_thrown, .ref a_t_text, .int v_t_typed, .int v_t_spot, .int v_t_token, .int v_t_place, .int v_t_value, .int v_t_fault, .int v_t_copies, .int v_t_draftCopies, .ref a_t_draft, .ref a_t_s, .ref a_t_undos, .int v_t_undoMany, .ref a_t_kept, .ref a_t_isKept, .ref a_t_seenWay, .ref a_t_seenIs, .int v_t_seenMany, .int v_t_asked, .ref a_t_sums, .ref a_t_parts, .ref a_t_heaps])), (a_t_s, .inl (cI, 103, .inl v_t_s))] (KX D cI cZ) (some (.int r)) := by
  refine cM_of (cc := cX11_group) (maxL := 6) (ret := some .int) (by decide +kernel) rfl _ (Nat.le_of_ble_eq_true rfl) ?_
  intro p e s m below meth c ls A S hr hlk hP hK hl hD hA hS
  obtain ⟨hx, hb, hml, hown, hts⟩ := id S
  have hl : lv_has ls 6 [(0, .ref a_t), (1, .int jx1), (2, .int jx2)] := hl
  unfold fX11_group at hf
  refine lv_aload_n hx hb dX11_group_0 rfl (lv_at hl 0 rfl) ?_
  refine lv_iconst (v := 0) hx hb dX11_group_1 (by decide) ?_
  refine va_put (D := D) (ci := 11) (v := .int (0 : Int32)) (ty := .int) (C := RX11) (T := TX11) (N := 23) hx hb hts iX11_group_X11 tyX11 tyX11_ok nmX11 hown hK.1 hP hD hS 0 rfl rfl 0 (by decide) (hts _ mX11_group_1) (fun _ h9 => h9) rfl (tyX11_ok 0 (by decide)) rfl rfl (Nat.le_of_ble_eq_true rfl) dX11_group_2 (fun H locs hP hD hS => ?_)
  have hP : va_P D vwCl [(a_t, .inr (11, [.int (0 : Int32), .ref a_t_text, .int v_t_typed, .int v_t_spot, .int v_t_token, .int v_t_place, .int v_t_value, .int v_t_fault, .int v_t_copies, .int v_t_draftCopies, .ref a_t_draft, .ref a_t_s, .ref a_t_undos, .int v_t_undoMany, .ref a_t_kept, .ref a_t_isKept, .ref a_t_seenWay, .ref a_t_seenIs, .int v_t_seenMany, .int v_t_asked, .ref a_t_sums, .ref a_t_parts, .ref a_t_heaps])), (a_t_s, .inl (cI, 103, .inl v_t_s))] H := hP
  have hD : va_D A [(a_t, .inr (11, [.int (0 : Int32), .ref a_t_text, .int v_t_typed, .int v_t_spot, .int v_t_token, .int v_t_place, .int v_t_value, .int v_t_fault, .int v_t_copies, .int v_t_draftCopies, .ref a_t_draft, .ref a_t_s, .ref a_t_undos, .int v_t_undoMany, .ref a_t_kept, .ref a_t_isKept, .ref a_t_seenWay, .ref a_t_seenIs, .int v_t_seenMany, .int v_t_asked, .ref a_t_sums, .ref a_t_parts, .ref a_t_heaps])), (a_t_s, .inl (cI, 103, .inl v_t_s))] := hD
  refine lv_iload_n hx hb dX11_group_5 rfl (lv_at hl 1 rfl) ?_
  obtain ⟨jr1, je2, hf⟩ := bd1_inv hf
  refine callRS (As := [.int jx1]) (rest := []) S (ctX11_isGroup l D cI cZ jx1 jr1 je2) (va_cwS 1 hts gX11_group_X11_isGroup rfl rfl rfl hdX11_isGroup ⟨Nat.le_of_ble_eq_true rfl, Nat.le_of_ble_eq_true rfl⟩) hP [] rfl KX.xs (fun U _ hW => hK.warm hW) rfl hl.1 rfl (Nat.le_of_ble_eq_true rfl) dX11_group_6 ⟨Nat.zero_le _, Nat.zero_le _⟩ ?_
  refine lv_if_eq (tgt := 22) hx hb dX11_group_9 (by decide) (fun jc3 => ?_) (fun jc3 => ?_)
  · have hf := ite_t jc3 hf
    refine lv_iconst (v := -1) hx hb dX11_group_22 (by decide) ?_
    obtain ⟨rfl, rfl⟩ := pr2_inv hf
    exact retM hx hb hr hlk hP hD hS dX11_group_23
  · have hf := ite_f jc3 hf
    refine lv_iload_n hx hb dX11_group_12 rfl (lv_at hl 2 rfl) ?_
    refine lv_iconst (v := 0) hx hb dX11_group_13 (by decide) ?_
    refine lv_bipush (v := 7) hx hb dX11_group_14 (by decide) ?_
    obtain ⟨jr4, je5, hf⟩ := bd1_inv hf
    refine callRS (As := [.int jx2, .int (0 : Int32), .int (7 : Int32)]) (rest := []) S (ctX11_in l D cI cZ jx2 (0 : Int32) (7 : Int32) jr4 je5) (va_cwS 3 hts gX11_group_X11_in rfl rfl rfl hdX11_in ⟨Nat.le_of_ble_eq_true rfl, Nat.le_of_ble_eq_true rfl⟩) hP [] rfl KX.xs (fun U _ hW => hK.warm hW) rfl hl.1 rfl (Nat.le_of_ble_eq_true rfl) dX11_group_16 ⟨Nat.zero_le _, Nat.zero_le _⟩ ?_
    refine lv_if_ne (tgt := 24) hx hb dX11_group_19 (by decide) (fun jc6 => ?_) (fun jc6 => ?_)
    · have hf := ite_f jc6 hf
      refine lv_aload_n hx hb dX11_group_24 rfl (lv_at hl 0 rfl) ?_
      refine lv_iload_n hx hb dX11_group_25 rfl (lv_at hl 1 rfl) ?_
      obtain ⟨jr7, je8, hf⟩ := bd1_inv hf
      refine callRV (As := [.int jx1]) (rest := []) S (ctX11_present l D cI cZ a_t a_t_text a_t_draft a_t_s a_t_undos a_t_kept a_t_isKept a_t_seenWay a_t_seenIs a_t_sums a_t_parts a_t_heaps jx1 v_t_copies v_t_s (0 : Int32) v_t_typed v_t_spot v_t_token v_t_place v_t_value v_t_fault v_t_draftCopies v_t_undoMany v_t_seenMany v_t_asked jr7 je8) (cwV 1 hts gX11_group_X11_present rfl rfl rfl ⟨rfl, hdX11_present⟩ ⟨Nat.le_of_ble_eq_true rfl, Nat.le_of_ble_eq_true rfl⟩) hP [0, 1] rfl KX.xs (fun U _ hW => hK.warm hW) (va_recv hK.1 hP (ci := 11) (q0 := 0) rfl rfl) rfl hl.1 rfl (Nat.le_of_ble_eq_true rfl) dX11_group_26 ⟨Nat.zero_le _, Nat.zero_le _⟩ ?_
      refine lv_istore_n (lv' := [(3, .int jr7), (0, .ref a_t), (1, .int jx1), (2, .int jx2)]) hx hb dX11_group_29 rfl hl (by decide) rfl (fun ls hl => ?_)
      refine lv_iload_n hx hb dX11_group_30 rfl (lv_at hl 3 rfl) ?_
      refine lv_if_eq (tgt := 38) hx hb dX11_group_31 (by decide) (fun jc9 => ?_) (fun jc9 => ?_)
      · have hf := ite_t jc9 hf
        exact wX11_group_38 S hr hlk hK hA jx2 jr7 (0 : Int32) ls _ _ hf (lv_sub hl [3, 0] rfl) hP hD hS
      · have hf := ite_f jc9 hf
        refine lv_iload_n hx hb dX11_group_34 rfl (lv_at hl 0 rfl) ?_
        refine lv_if_ne (tgt := 63) hx hb dX11_group_35 (by decide) (fun jc10 => ?_) (fun jc10 => ?_)
        · have hf := ite_f jc10 hf
          refine lv_aload_n hx hb dX11_group_63 rfl (lv_at hl 1 rfl) ?_
          refine lv_iload_n hx hb dX11_group_64 rfl (lv_at hl 0 rfl) ?_
          obtain ⟨jr11, je12, hf⟩ := bd1_inv hf
          refine callRV (As := [.int jr7]) (rest := []) S (ctX11_data l D cI cZ a_t a_t_text a_t_draft a_t_s a_t_undos a_t_kept a_t_isKept a_t_seenWay a_t_seenIs a_t_sums a_t_parts a_t_heaps jr7 v_t_copies v_t_s (0 : Int32) v_t_typed v_t_spot v_t_token v_t_place v_t_value v_t_fault v_t_draftCopies v_t_undoMany v_t_seenMany v_t_asked jr11 je12) (cwV 1 hts gX11_group_X11_data rfl rfl rfl ⟨rfl, hdX11_data⟩ ⟨Nat.le_of_ble_eq_true rfl, Nat.le_of_ble_eq_true rfl⟩) hP [0, 1] rfl KX.xs (fun U _ hW => hK.warm hW) (va_recv hK.1 hP (ci := 11) (q0 := 0) rfl rfl) rfl hl.1 rfl (Nat.le_of_ble_eq_true rfl) dX11_group_65 ⟨Nat.zero_le _, Nat.zero_le _⟩ ?_
          refine lv_bipush (v := -9) hx hb dX11_group_68 (by decide) ?_
          refine lv_icmp_eq (tgt := 77) hx hb dX11_group_70 (by decide) (fun jc13 => ?_) (fun jc13 => ?_)
          · have hf := ite_t jc13 hf
            refine lv_iconst (v := 0) hx hb dX11_group_77 (by decide) ?_
            exact wX11_group_78 S hr hlk hK hA jx2 jr7 (0 : Int32) (0 : Int32) ls _ _ hf (lv_sub hl [1, 3, 0] rfl) hP hD hS
          · have hf := ite_f jc13 hf
            refine lv_iconst (v := 1) hx hb dX11_group_73 (by decide) ?_
            refine lv_goto (tgt := 78) hx hb dX11_group_74 (by decide) ?_
            exact wX11_group_78 S hr hlk hK hA jx2 jr7 (1 : Int32) (0 : Int32) ls _ _ hf (lv_sub hl [1, 3, 0] rfl) hP hD hS
        · have hf := ite_t jc10 hf
          exact wX11_group_38 S hr hlk hK hA jx2 jr7 (0 : Int32) ls _ _ hf (lv_sub hl [3, 0] rfl) hP hD hS
    · have hf := ite_t jc6 hf
      refine lv_iconst (v := -1) hx hb dX11_group_22 (by decide) ?_
      obtain ⟨rfl, rfl⟩ := pr2_inv hf
      exact retM hx hb hr hlk hP hD hS dX11_group_23
def fX11_asked (v_t_thrown : Int32) (v_t_asked : Int32) : Option (Int32 × Int32) := some (v_t_asked, (0 : Int32))
abbrev rmX11_asked : Room := { frames := 0, cells := 0, slots := 0, locals := 0 }
theorem iX11_asked_X11 : ∀ w ∈ wsX110, w ∈ wsX11_asked := fun _ h => List.mem_cons_of_mem _ (List.mem_append_right _ h)
theorem mX11_asked_1 : (Cond.fieldLink RX11 50 "VoteFilesModel" "thrown" "I") ∈ wsX11_asked := List.mem_of_getElem? (i := 1) rfl
theorem mX11_asked_2 : (Cond.fieldLink RX11 154 "VoteFilesModel" "asked" "I") ∈ wsX11_asked := List.mem_of_getElem? (i := 2) rfl
theorem hdX11_asked : yX11_asked.cls ≠ "java/lang/invoke/MethodHandle" ∧ yX11_asked.cls ≠ "java/lang/invoke/VarHandle" ∧ (parseMethodDescriptor yX11_asked.desc).map (fun d => d.parameters.length) = some 0 := by decide +kernel
set_option maxHeartbeats 4000000 in
set_option maxRecDepth 100000 in
theorem ctX11_asked (l : Launch) (D : va_G) (cI cZ : ClassId) (a_t a_t_text a_t_draft a_t_s a_t_undos a_t_kept a_t_isKept a_t_seenWay a_t_seenIs a_t_sums a_t_parts a_t_heaps : Nat) (v_t_thrown : Int32) (v_t_asked : Int32) (v_t_typed : Int32) (v_t_spot : Int32) (v_t_token : Int32) (v_t_place : Int32) (v_t_value : Int32) (v_t_fault : Int32) (v_t_copies : Int32) (v_t_draftCopies : Int32) (v_t_undoMany : Int32) (v_t_seenMany : Int32) (r : Int32) (o_t_thrown : Int32) (hf : fX11_asked v_t_thrown v_t_asked = some (r, o_t_thrown)) : cM l yX11_asked wsX11_asked rmX11_asked [.ref a_t] D [(a_t, .inr (11, [.int v_t_thrown, .ref a_t_text, .int v_t_typed, .int v_t_spot, .int v_t_token, .int v_t_place, .int v_t_value, .int v_t_fault, .int v_t_copies, .int v_t_draftCopies, .ref a_t_draft, .ref a_t_s, .ref a_t_undos, .int v_t_undoMany, .ref a_t_kept, .ref a_t_isKept, .ref a_t_seenWay, .ref a_t_seenIs, .int v_t_seenMany, .int v_t_asked, .ref a_t_sums, .ref a_t_parts, .ref a_t_heaps]))] [(a_t, .inr (11, [.int o_t_thrown, .ref a_t_text, .int v_t_typed, .int v_t_spot, .int v_t_token, .int v_t_place, .int v_t_value, .int v_t_fault, .int v_t_copies, .int v_t_draftCopies, .ref a_t_draft, .ref a_t_s, .ref a_t_undos, .int v_t_undoMany, .ref a_t_kept, .ref a_t_isKept, .ref a_t_seenWay, .ref a_t_seenIs, .int v_t_seenMany, .int v_t_asked, .ref a_t_sums, .ref a_t_parts, .ref a_t_heaps]))] (KX D cI cZ) (some (.int r)) := by
  refine cM_of (cc := cX11_asked) (maxL := 1) (ret := some .int) (by decide +kernel) rfl _ (Nat.le_of_ble_eq_true rfl) ?_
  intro p e s m below meth c ls A S hr hlk hP hK hl hD hA hS
  obtain ⟨hx, hb, hml, hown, hts⟩ := id S
  have hl : lv_has ls 1 [(0, .ref a_t)] := hl
  unfold fX11_asked at hf
  refine lv_aload_n hx hb dX11_asked_0 rfl (lv_at hl 0 rfl) ?_
  refine lv_iconst (v := 0) hx hb dX11_asked_1 (by decide) ?_
  refine va_put (D := D) (ci := 11) (v := .int (0 : Int32)) (ty := .int) (C := RX11) (T := TX11) (N := 23) hx hb hts iX11_asked_X11 tyX11 tyX11_ok nmX11 hown hK.1 hP hD hS 0 rfl rfl 0 (by decide) (hts _ mX11_asked_1) (fun _ h9 => h9) rfl (tyX11_ok 0 (by decide)) rfl rfl (Nat.le_of_ble_eq_true rfl) dX11_asked_2 (fun H locs hP hD hS => ?_)
  have hP : va_P D vwCl [(a_t, .inr (11, [.int (0 : Int32), .ref a_t_text, .int v_t_typed, .int v_t_spot, .int v_t_token, .int v_t_place, .int v_t_value, .int v_t_fault, .int v_t_copies, .int v_t_draftCopies, .ref a_t_draft, .ref a_t_s, .ref a_t_undos, .int v_t_undoMany, .ref a_t_kept, .ref a_t_isKept, .ref a_t_seenWay, .ref a_t_seenIs, .int v_t_seenMany, .int v_t_asked, .ref a_t_sums, .ref a_t_parts, .ref a_t_heaps]))] H := hP
  have hD : va_D A [(a_t, .inr (11, [.int (0 : Int32), .ref a_t_text, .int v_t_typed, .int v_t_spot, .int v_t_token, .int v_t_place, .int v_t_value, .int v_t_fault, .int v_t_copies, .int v_t_draftCopies, .ref a_t_draft, .ref a_t_s, .ref a_t_undos, .int v_t_undoMany, .ref a_t_kept, .ref a_t_isKept, .ref a_t_seenWay, .ref a_t_seenIs, .int v_t_seenMany, .int v_t_asked, .ref a_t_sums, .ref a_t_parts, .ref a_t_heaps]))] := hD
  refine lv_aload_n hx hb dX11_asked_5 rfl (lv_at hl 0 rfl) ?_
  refine va_get (D := D) (ci := 11) (v := .int v_t_asked) (C := RX11) (T := TX11) (N := 23) hx hb hts iX11_asked_X11 hown hK.1 hP 0 rfl rfl 19 (by decide) (hts _ mX11_asked_2) (fun _ h9 => h9) rfl dX11_asked_6 ?_
  obtain ⟨rfl, rfl⟩ := pr2_inv hf
  exact retM hx hb hr hlk hP hD hS dX11_asked_9
def fX11_gcd_4  : Nat → Int32 → Int32 → Option (Int32)
  | 0, _, _ => none
  | n + 1, jx2, jx3 => if jx3 = 0 then some jx2 else dvI jx3 ((fX11_gcd_4 n) jx3 (jx2 - jx2 / jx3 * jx3))
theorem fX11_gcd_4_s  (n : Nat) (jx2 : Int32) (jx3 : Int32) : fX11_gcd_4  (n + 1) jx2 jx3 = if jx3 = 0 then some jx2 else dvI jx3 ((fX11_gcd_4 n) jx3 (jx2 - jx2 / jx3 * jx3)) := rfl
def fX11_gcd (jx0 : Int32) (jx1 : Int32) : Option (Int32) := fX11_gcd_4 fuel jx0 jx1
abbrev rmX11_gcd : Room := { frames := 0, cells := 0, slots := 0, locals := 0 }
set_option maxHeartbeats 4000000 in
set_option maxRecDepth 100000 in
theorem wX11_gcd_4 {p : Program} {l : Launch} {e : Env} {s : State} {m : MethodId} {args : Array Value} {below : List Frame} {meth : Method} {c : Code} {D : va_G} {cI cZ : ClassId} (S : CallFix p m c cX11_gcd 5 s args wsX11_gcd RX11) (hr : meth.sig.returnType = some .int) (hlk : meth.locks = false) (hK : KX D cI cZ s) {r : Int32} (hP : va_P D vwCl [] s.heap) : ∀ (n : Nat), ∀ (jx2 : Int32) (jx3 : Int32) (ls : Array Slot), fX11_gcd_4  n jx2 jx3 = some r → lv_has ls 5 [(2, .int jx2), (3, .int jx3)] → W p l e rmX11_gcd s m args below meth c s.heap [] 0 0 (MQ below (QcRead r) args s 0 0 (fun _ => False)) (F0 m 4 ls []) := by
  obtain ⟨hx, hb, hml, hown, hts⟩ := id S
  intro n
  induction n with
  | zero =>
    intro jx2 jx3 ls hf hl
    cases (show (none : Option _) = some _ from hf)
  | succ n ih =>
    intro jx2 jx3 ls hf hl
    have hf := (fX11_gcd_4_s  n _ _).symm.trans hf
    refine lv_iload_n hx hb dX11_gcd_4 rfl (lv_at hl 1 rfl) ?_
    refine lv_if_eq (tgt := 21) hx hb dX11_gcd_5 (by decide) (fun jc1 => ?_) (fun jc1 => ?_)
    · have hf := ite_t jc1 hf
      refine lv_iload_n hx hb dX11_gcd_21 rfl (lv_at hl 0 rfl) ?_
      obtain rfl := Option.some.inj hf
      exact retR hx hb hr hlk dX11_gcd_22
    · have hf := ite_f jc1 hf
      refine lv_iload_n hx hb dX11_gcd_8 rfl (lv_at hl 0 rfl) ?_
      refine lv_iload_n hx hb dX11_gcd_9 rfl (lv_at hl 1 rfl) ?_
      obtain ⟨jh2, hf⟩ := dvI_inv hf
      refine lv_irem hx hb dX11_gcd_10 jh2 ?_
      refine lv_istore (lv' := [(4, .int (jx2 - jx2 / jx3 * jx3)), (2, .int jx2), (3, .int jx3)]) hx hb dX11_gcd_11 hl (by decide) rfl (fun ls hl => ?_)
      refine lv_iload_n hx hb dX11_gcd_13 rfl (lv_at hl 2 rfl) ?_
      refine lv_istore_n (lv' := [(2, .int jx3), (4, .int (jx2 - jx2 / jx3 * jx3)), (3, .int jx3)]) hx hb dX11_gcd_14 rfl hl (by decide) rfl (fun ls hl => ?_)
      refine lv_iload hx hb dX11_gcd_15 (lv_at hl 1 rfl) ?_
      refine lv_istore_n (lv' := [(3, .int (jx2 - jx2 / jx3 * jx3)), (2, .int jx3), (4, .int (jx2 - jx2 / jx3 * jx3))]) hx hb dX11_gcd_17 rfl hl (by decide) rfl (fun ls hl => ?_)
      refine lv_goto (tgt := 4) hx hb dX11_gcd_18 (by decide) ?_
      exact ih jx3 (jx2 - jx2 / jx3 * jx3) ls hf (lv_sub hl [1, 0] rfl)
theorem hdX11_gcd : yX11_gcd.cls ≠ "java/lang/invoke/MethodHandle" ∧ yX11_gcd.cls ≠ "java/lang/invoke/VarHandle" ∧ (parseMethodDescriptor yX11_gcd.desc).map (fun d => d.parameters.length) = some 2 := by decide +kernel
set_option maxHeartbeats 4000000 in
set_option maxRecDepth 100000 in
theorem ctX11_gcd (l : Launch) (D : va_G) (cI cZ : ClassId) (jx0 : Int32) (jx1 : Int32) (r : Int32) (hf : fX11_gcd jx0 jx1 = some r) : cR l yX11_gcd wsX11_gcd rmX11_gcd [.int jx0, .int jx1] D [] (KX D cI cZ) r := by
  refine cR_of (cc := cX11_gcd) (maxL := 5) (ret := some .int) (by decide +kernel) rfl _ (Nat.le_of_ble_eq_true rfl) ?_
  intro p e s m below meth c ls S hr hlk hP hK hl
  obtain ⟨hx, hb, hml, hown, hts⟩ := id S
  have hl : lv_has ls 5 [(0, .int jx0), (1, .int jx1)] := hl
  unfold fX11_gcd at hf
  refine lv_iload_n hx hb dX11_gcd_0 rfl (lv_at hl 0 rfl) ?_
  refine lv_istore_n (lv' := [(2, .int jx0), (0, .int jx0), (1, .int jx1)]) hx hb dX11_gcd_1 rfl hl (by decide) rfl (fun ls hl => ?_)
  refine lv_iload_n hx hb dX11_gcd_2 rfl (lv_at hl 2 rfl) ?_
  refine lv_istore_n (lv' := [(3, .int jx1), (2, .int jx0), (0, .int jx0), (1, .int jx1)]) hx hb dX11_gcd_3 rfl hl (by decide) rfl (fun ls hl => ?_)
  exact wX11_gcd_4 S hr hlk hK hP fuel jx0 jx1 ls hf (lv_sub hl [1, 0] rfl)
def fX11_partOf_5 (jx1 : Int32) (jx2 : Int32) (v_t_copies : Int32) : Nat → Int32 → Int32 → Option (Int32)
  | 0, _, _ => none
  | n + 1, jx3, jx4 => if v_t_copies ≤ jx4 then some jx3 else bd1 (fX11_has jx1 jx4) (fun jr2 => if jr2 = 0 then (fX11_partOf_5 jx1 jx2 v_t_copies n) (jx3 * ((10 : Int32) - jx2)) (jx4 + (1 : Int32)) else (fX11_partOf_5 jx1 jx2 v_t_copies n) (jx3 * jx2) (jx4 + (1 : Int32)))
theorem fX11_partOf_5_s (jx1 : Int32) (jx2 : Int32) (v_t_copies : Int32) (n : Nat) (jx3 : Int32) (jx4 : Int32) : fX11_partOf_5 jx1 jx2 v_t_copies (n + 1) jx3 jx4 = if v_t_copies ≤ jx4 then some jx3 else bd1 (fX11_has jx1 jx4) (fun jr2 => if jr2 = 0 then (fX11_partOf_5 jx1 jx2 v_t_copies n) (jx3 * ((10 : Int32) - jx2)) (jx4 + (1 : Int32)) else (fX11_partOf_5 jx1 jx2 v_t_copies n) (jx3 * jx2) (jx4 + (1 : Int32))) := rfl
def fX11_partOf (jx1 : Int32) (jx2 : Int32) (v_t_copies : Int32) : Option (Int32) := fX11_partOf_5 jx1 jx2 v_t_copies fuel (1 : Int32) (0 : Int32)
abbrev rmX11_partOf : Room := { frames := 1, cells := 0, slots := 0, locals := 21 }
theorem iX11_partOf_X11 : ∀ w ∈ wsX110, w ∈ wsX11_partOf := fun _ h => List.mem_cons_of_mem _ (List.mem_append_right _ h)
theorem mX11_partOf_1 : (Cond.fieldLink RX11 119 "VoteFilesModel" "copies" "I") ∈ wsX11_partOf := List.mem_of_getElem? (i := 1) rfl
set_option maxHeartbeats 4000000 in
set_option maxRecDepth 100000 in
theorem wX11_partOf_5 {p : Program} {l : Launch} {e : Env} {s : State} {m : MethodId} {args : Array Value} {below : List Frame} {meth : Method} {c : Code} {D : va_G} {cI cZ : ClassId} (S : CallFix p m c cX11_partOf 5 s args wsX11_partOf RX11) (hr : meth.sig.returnType = some .int) (hlk : meth.locks = false) (hK : KX D cI cZ s) {a_t a_t_text a_t_draft a_t_s a_t_undos a_t_kept a_t_isKept a_t_seenWay a_t_seenIs a_t_sums a_t_parts a_t_heaps : Nat} {jx1 : Int32} {jx2 : Int32} {v_t_copies : Int32} {v_t_thrown : Int32} {v_t_typed : Int32} {v_t_spot : Int32} {v_t_token : Int32} {v_t_place : Int32} {v_t_value : Int32} {v_t_fault : Int32} {v_t_draftCopies : Int32} {v_t_undoMany : Int32} {v_t_seenMany : Int32} {v_t_asked : Int32} {r : Int32} (hP : va_P D vwCl [(a_t, .inr (11, [.int v_t_thrown, .ref a_t_text, .int v_t_typed, .int v_t_spot, .int v_t_token, .int v_t_place, .int v_t_value, .int v_t_fault, .int v_t_copies, .int v_t_draftCopies, .ref a_t_draft, .ref a_t_s, .ref a_t_undos, .int v_t_undoMany, .ref a_t_kept, .ref a_t_isKept, .ref a_t_seenWay, .ref a_t_seenIs, .int v_t_seenMany, .int v_t_asked, .ref a_t_sums, .ref a_t_parts, .ref a_t_heaps]))] s.heap) : ∀ (n : Nat), ∀ (jx3 : Int32) (jx4 : Int32) (ls : Array Slot), fX11_partOf_5 jx1 jx2 v_t_copies n jx3 jx4 = some r → lv_has ls 5 [(0, .ref a_t), (1, .int jx1), (2, .int jx2), (3, .int jx3), (4, .int jx4)] → W p l e rmX11_partOf s m args below meth c s.heap [] 0 0 (MQ below (QcRead r) args s 0 0 (fun _ => False)) (F0 m 5 ls []) := by
  obtain ⟨hx, hb, hml, hown, hts⟩ := id S
  intro n
  induction n with
  | zero =>
    intro jx3 jx4 ls hf hl
    cases (show (none : Option _) = some _ from hf)
  | succ n ih =>
    intro jx3 jx4 ls hf hl
    have hf := (fX11_partOf_5_s _ _ _ n _ _).symm.trans hf
    refine lv_iload hx hb dX11_partOf_5 (lv_at hl 4 rfl) ?_
    refine lv_aload_n hx hb dX11_partOf_7 rfl (lv_at hl 0 rfl) ?_
    refine va_get (D := D) (ci := 11) (v := .int v_t_copies) (C := RX11) (T := TX11) (N := 23) hx hb hts iX11_partOf_X11 hown hK.1 hP 0 rfl rfl 8 (by decide) (hts _ mX11_partOf_1) (fun _ h9 => h9) rfl dX11_partOf_8 ?_
    refine lv_icmp_ge (tgt := 40) hx hb dX11_partOf_11 (by decide) (fun jc1 => ?_) (fun jc1 => ?_)
    · have hf := ite_t jc1 hf
      refine lv_iload_n hx hb dX11_partOf_40 rfl (lv_at hl 3 rfl) ?_
      obtain rfl := Option.some.inj hf
      exact retR hx hb hr hlk dX11_partOf_41
    · have hf := ite_f jc1 hf
      refine lv_iload_n hx hb dX11_partOf_14 rfl (lv_at hl 3 rfl) ?_
      refine lv_iload_n hx hb dX11_partOf_15 rfl (lv_at hl 1 rfl) ?_
      refine lv_iload hx hb dX11_partOf_16 (lv_at hl 4 rfl) ?_
      obtain ⟨jr2, je3, hf⟩ := bd1_inv hf
      refine callRS (As := [.int jx1, .int jx4]) (rest := [.int jx3]) S (ctX11_has l D cI cZ jx1 jx4 jr2 je3) (va_cwS 2 hts gX11_partOf_X11_has rfl rfl rfl hdX11_has ⟨Nat.le_of_ble_eq_true rfl, Nat.le_of_ble_eq_true rfl⟩) hP [] rfl KX.xs (fun U _ hW => hK.warm hW) rfl hl.1 rfl (Nat.le_of_ble_eq_true rfl) dX11_partOf_18 ⟨Nat.zero_le _, Nat.zero_le _⟩ ?_
      refine lv_if_eq (tgt := 28) hx hb dX11_partOf_21 (by decide) (fun jc4 => ?_) (fun jc4 => ?_)
      · have hf := ite_t jc4 hf
        refine lv_bipush (v := 10) hx hb dX11_partOf_28 (by decide) ?_
        refine lv_iload_n hx hb dX11_partOf_30 rfl (lv_at hl 2 rfl) ?_
        refine lv_isub hx hb dX11_partOf_31 ?_
        refine lv_imul hx hb dX11_partOf_32 ?_
        refine lv_istore_n (lv' := [(3, .int (jx3 * ((10 : Int32) - jx2))), (0, .ref a_t), (1, .int jx1), (2, .int jx2), (4, .int jx4)]) hx hb dX11_partOf_33 rfl hl (by decide) rfl (fun ls hl => ?_)
        refine lv_iinc (v := (jx4 + (1 : Int32))) (lv' := [(4, .int (jx4 + (1 : Int32))), (3, .int (jx3 * ((10 : Int32) - jx2))), (0, .ref a_t), (1, .int jx1), (2, .int jx2)]) hx hb dX11_partOf_34 hl (k := 4) rfl rfl (by decide) rfl (fun ls hl => ?_)
        refine lv_goto (tgt := 5) hx hb dX11_partOf_37 (by decide) ?_
        exact ih (jx3 * ((10 : Int32) - jx2)) (jx4 + (1 : Int32)) ls hf (lv_sub hl [2, 3, 4, 1, 0] rfl)
      · have hf := ite_f jc4 hf
        refine lv_iload_n hx hb dX11_partOf_24 rfl (lv_at hl 2 rfl) ?_
        refine lv_goto (tgt := 32) hx hb dX11_partOf_25 (by decide) ?_
        refine lv_imul hx hb dX11_partOf_32 ?_
        refine lv_istore_n (lv' := [(3, .int (jx3 * jx2)), (0, .ref a_t), (1, .int jx1), (2, .int jx2), (4, .int jx4)]) hx hb dX11_partOf_33 rfl hl (by decide) rfl (fun ls hl => ?_)
        refine lv_iinc (v := (jx4 + (1 : Int32))) (lv' := [(4, .int (jx4 + (1 : Int32))), (3, .int (jx3 * jx2)), (0, .ref a_t), (1, .int jx1), (2, .int jx2)]) hx hb dX11_partOf_34 hl (k := 4) rfl rfl (by decide) rfl (fun ls hl => ?_)
        refine lv_goto (tgt := 5) hx hb dX11_partOf_37 (by decide) ?_
        exact ih (jx3 * jx2) (jx4 + (1 : Int32)) ls hf (lv_sub hl [2, 3, 4, 1, 0] rfl)
theorem hdX11_partOf : yX11_partOf.cls ≠ "java/lang/invoke/MethodHandle" ∧ yX11_partOf.cls ≠ "java/lang/invoke/VarHandle" ∧ (parseMethodDescriptor yX11_partOf.desc).map (fun d => d.parameters.length) = some 2 := by decide +kernel
set_option maxHeartbeats 4000000 in
set_option maxRecDepth 100000 in
theorem ctX11_partOf (l : Launch) (D : va_G) (cI cZ : ClassId) (a_t a_t_text a_t_draft a_t_s a_t_undos a_t_kept a_t_isKept a_t_seenWay a_t_seenIs a_t_sums a_t_parts a_t_heaps : Nat) (jx1 : Int32) (jx2 : Int32) (v_t_copies : Int32) (v_t_thrown : Int32) (v_t_typed : Int32) (v_t_spot : Int32) (v_t_token : Int32) (v_t_place : Int32) (v_t_value : Int32) (v_t_fault : Int32) (v_t_draftCopies : Int32) (v_t_undoMany : Int32) (v_t_seenMany : Int32) (v_t_asked : Int32) (r : Int32) (hf : fX11_partOf jx1 jx2 v_t_copies = some r) : cR l yX11_partOf wsX11_partOf rmX11_partOf [.ref a_t, .int jx1, .int jx2] D [(a_t, .inr (11, [.int v_t_thrown, .ref a_t_text, .int v_t_typed, .int v_t_spot, .int v_t_token, .int v_t_place, .int v_t_value, .int v_t_fault, .int v_t_copies, .int v_t_draftCopies, .ref a_t_draft, .ref a_t_s, .ref a_t_undos, .int v_t_undoMany, .ref a_t_kept, .ref a_t_isKept, .ref a_t_seenWay, .ref a_t_seenIs, .int v_t_seenMany, .int v_t_asked, .ref a_t_sums, .ref a_t_parts, .ref a_t_heaps]))] (KX D cI cZ) r := by
  refine cR_of (cc := cX11_partOf) (maxL := 5) (ret := some .int) (by decide +kernel) rfl _ (Nat.le_of_ble_eq_true rfl) ?_
  intro p e s m below meth c ls S hr hlk hP hK hl
  obtain ⟨hx, hb, hml, hown, hts⟩ := id S
  have hl : lv_has ls 5 [(0, .ref a_t), (1, .int jx1), (2, .int jx2)] := hl
  unfold fX11_partOf at hf
  refine lv_iconst (v := 1) hx hb dX11_partOf_0 (by decide) ?_
  refine lv_istore_n (lv' := [(3, .int (1 : Int32)), (0, .ref a_t), (1, .int jx1), (2, .int jx2)]) hx hb dX11_partOf_1 rfl hl (by decide) rfl (fun ls hl => ?_)
  refine lv_iconst (v := 0) hx hb dX11_partOf_2 (by decide) ?_
  refine lv_istore (lv' := [(4, .int (0 : Int32)), (3, .int (1 : Int32)), (0, .ref a_t), (1, .int jx1), (2, .int jx2)]) hx hb dX11_partOf_3 hl (by decide) rfl (fun ls hl => ?_)
  exact wX11_partOf_5 S hr hlk hK hP fuel (1 : Int32) (0 : Int32) ls hf (lv_sub hl [2, 3, 4, 1, 0] rfl)
def fX11_wholeOf_4 (v_t_copies : Int32) : Nat → Int32 → Int32 → Option (Int32)
  | 0, _, _ => none
  | n + 1, jx1, jx2 => if v_t_copies ≤ jx2 then some jx1 else (fX11_wholeOf_4 v_t_copies n) (jx1 * (10 : Int32)) (jx2 + (1 : Int32))
theorem fX11_wholeOf_4_s (v_t_copies : Int32) (n : Nat) (jx1 : Int32) (jx2 : Int32) : fX11_wholeOf_4 v_t_copies (n + 1) jx1 jx2 = if v_t_copies ≤ jx2 then some jx1 else (fX11_wholeOf_4 v_t_copies n) (jx1 * (10 : Int32)) (jx2 + (1 : Int32)) := rfl
def fX11_wholeOf (v_t_copies : Int32) : Option (Int32) := fX11_wholeOf_4 v_t_copies fuel (1 : Int32) (0 : Int32)
abbrev rmX11_wholeOf : Room := { frames := 0, cells := 0, slots := 0, locals := 0 }
theorem iX11_wholeOf_X11 : ∀ w ∈ wsX110, w ∈ wsX11_wholeOf := fun _ h => List.mem_cons_of_mem _ (List.mem_append_right _ h)
theorem mX11_wholeOf_1 : (Cond.fieldLink RX11 119 "VoteFilesModel" "copies" "I") ∈ wsX11_wholeOf := List.mem_of_getElem? (i := 1) rfl
set_option maxHeartbeats 4000000 in
set_option maxRecDepth 100000 in
theorem wX11_wholeOf_4 {p : Program} {l : Launch} {e : Env} {s : State} {m : MethodId} {args : Array Value} {below : List Frame} {meth : Method} {c : Code} {D : va_G} {cI cZ : ClassId} (S : CallFix p m c cX11_wholeOf 3 s args wsX11_wholeOf RX11) (hr : meth.sig.returnType = some .int) (hlk : meth.locks = false) (hK : KX D cI cZ s) {a_t a_t_text a_t_draft a_t_s a_t_undos a_t_kept a_t_isKept a_t_seenWay a_t_seenIs a_t_sums a_t_parts a_t_heaps : Nat} {v_t_copies : Int32} {v_t_thrown : Int32} {v_t_typed : Int32} {v_t_spot : Int32} {v_t_token : Int32} {v_t_place : Int32} {v_t_value : Int32} {v_t_fault : Int32} {v_t_draftCopies : Int32} {v_t_undoMany : Int32} {v_t_seenMany : Int32} {v_t_asked : Int32} {r : Int32} (hP : va_P D vwCl [(a_t, .inr (11, [.int v_t_thrown, .ref a_t_text, .int v_t_typed, .int v_t_spot, .int v_t_token, .int v_t_place, .int v_t_value, .int v_t_fault, .int v_t_copies, .int v_t_draftCopies, .ref a_t_draft, .ref a_t_s, .ref a_t_undos, .int v_t_undoMany, .ref a_t_kept, .ref a_t_isKept, .ref a_t_seenWay, .ref a_t_seenIs, .int v_t_seenMany, .int v_t_asked, .ref a_t_sums, .ref a_t_parts, .ref a_t_heaps]))] s.heap) : ∀ (n : Nat), ∀ (jx1 : Int32) (jx2 : Int32) (ls : Array Slot), fX11_wholeOf_4 v_t_copies n jx1 jx2 = some r → lv_has ls 3 [(0, .ref a_t), (1, .int jx1), (2, .int jx2)] → W p l e rmX11_wholeOf s m args below meth c s.heap [] 0 0 (MQ below (QcRead r) args s 0 0 (fun _ => False)) (F0 m 4 ls []) := by
  obtain ⟨hx, hb, hml, hown, hts⟩ := id S
  intro n
  induction n with
  | zero =>
    intro jx1 jx2 ls hf hl
    cases (show (none : Option _) = some _ from hf)
  | succ n ih =>
    intro jx1 jx2 ls hf hl
    have hf := (fX11_wholeOf_4_s _ n _ _).symm.trans hf
    refine lv_iload_n hx hb dX11_wholeOf_4 rfl (lv_at hl 2 rfl) ?_
    refine lv_aload_n hx hb dX11_wholeOf_5 rfl (lv_at hl 0 rfl) ?_
    refine va_get (D := D) (ci := 11) (v := .int v_t_copies) (C := RX11) (T := TX11) (N := 23) hx hb hts iX11_wholeOf_X11 hown hK.1 hP 0 rfl rfl 8 (by decide) (hts _ mX11_wholeOf_1) (fun _ h9 => h9) rfl dX11_wholeOf_6 ?_
    refine lv_icmp_ge (tgt := 23) hx hb dX11_wholeOf_9 (by decide) (fun jc1 => ?_) (fun jc1 => ?_)
    · have hf := ite_t jc1 hf
      refine lv_iload_n hx hb dX11_wholeOf_23 rfl (lv_at hl 1 rfl) ?_
      obtain rfl := Option.some.inj hf
      exact retR hx hb hr hlk dX11_wholeOf_24
    · have hf := ite_f jc1 hf
      refine lv_iload_n hx hb dX11_wholeOf_12 rfl (lv_at hl 1 rfl) ?_
      refine lv_bipush (v := 10) hx hb dX11_wholeOf_13 (by decide) ?_
      refine lv_imul hx hb dX11_wholeOf_15 ?_
      refine lv_istore_n (lv' := [(1, .int (jx1 * (10 : Int32))), (0, .ref a_t), (2, .int jx2)]) hx hb dX11_wholeOf_16 rfl hl (by decide) rfl (fun ls hl => ?_)
      refine lv_iinc (v := (jx2 + (1 : Int32))) (lv' := [(2, .int (jx2 + (1 : Int32))), (1, .int (jx1 * (10 : Int32))), (0, .ref a_t)]) hx hb dX11_wholeOf_17 hl (k := 2) rfl rfl (by decide) rfl (fun ls hl => ?_)
      refine lv_goto (tgt := 4) hx hb dX11_wholeOf_20 (by decide) ?_
      exact ih (jx1 * (10 : Int32)) (jx2 + (1 : Int32)) ls hf (lv_sub hl [2, 1, 0] rfl)
theorem hdX11_wholeOf : yX11_wholeOf.cls ≠ "java/lang/invoke/MethodHandle" ∧ yX11_wholeOf.cls ≠ "java/lang/invoke/VarHandle" ∧ (parseMethodDescriptor yX11_wholeOf.desc).map (fun d => d.parameters.length) = some 0 := by decide +kernel
set_option maxHeartbeats 4000000 in
set_option maxRecDepth 100000 in
theorem ctX11_wholeOf (l : Launch) (D : va_G) (cI cZ : ClassId) (a_t a_t_text a_t_draft a_t_s a_t_undos a_t_kept a_t_isKept a_t_seenWay a_t_seenIs a_t_sums a_t_parts a_t_heaps : Nat) (v_t_copies : Int32) (v_t_thrown : Int32) (v_t_typed : Int32) (v_t_spot : Int32) (v_t_token : Int32) (v_t_place : Int32) (v_t_value : Int32) (v_t_fault : Int32) (v_t_draftCopies : Int32) (v_t_undoMany : Int32) (v_t_seenMany : Int32) (v_t_asked : Int32) (r : Int32) (hf : fX11_wholeOf v_t_copies = some r) : cR l yX11_wholeOf wsX11_wholeOf rmX11_wholeOf [.ref a_t] D [(a_t, .inr (11, [.int v_t_thrown, .ref a_t_text, .int v_t_typed, .int v_t_spot, .int v_t_token, .int v_t_place, .int v_t_value, .int v_t_fault, .int v_t_copies, .int v_t_draftCopies, .ref a_t_draft, .ref a_t_s, .ref a_t_undos, .int v_t_undoMany, .ref a_t_kept, .ref a_t_isKept, .ref a_t_seenWay, .ref a_t_seenIs, .int v_t_seenMany, .int v_t_asked, .ref a_t_sums, .ref a_t_parts, .ref a_t_heaps]))] (KX D cI cZ) r := by
  refine cR_of (cc := cX11_wholeOf) (maxL := 3) (ret := some .int) (by decide +kernel) rfl _ (Nat.le_of_ble_eq_true rfl) ?_
  intro p e s m below meth c ls S hr hlk hP hK hl
  obtain ⟨hx, hb, hml, hown, hts⟩ := id S
  have hl : lv_has ls 3 [(0, .ref a_t)] := hl
  unfold fX11_wholeOf at hf
  refine lv_iconst (v := 1) hx hb dX11_wholeOf_0 (by decide) ?_
  refine lv_istore_n (lv' := [(1, .int (1 : Int32)), (0, .ref a_t)]) hx hb dX11_wholeOf_1 rfl hl (by decide) rfl (fun ls hl => ?_)
  refine lv_iconst (v := 0) hx hb dX11_wholeOf_2 (by decide) ?_
  refine lv_istore_n (lv' := [(2, .int (0 : Int32)), (1, .int (1 : Int32)), (0, .ref a_t)]) hx hb dX11_wholeOf_3 rfl hl (by decide) rfl (fun ls hl => ?_)
  exact wX11_wholeOf_4 S hr hlk hK hP fuel (1 : Int32) (0 : Int32) ls hf (lv_sub hl [2, 1, 0] rfl)
def fX11_isEnoughNow (jx1 : Int32) (jx2 : Int32) (v_t_copies : Int32) (v_t_s : (Nat → Int32)) : Option (Int32) := bd1 (fX11_newest v_t_s) (fun jr1 => bd1 (fX11_votesOf jx1 jr1 v_t_copies v_t_s) (fun jr3 => bd1 (fX11_newest v_t_s) (fun jr5 => if jx2 = 0 then ckI 103 (jr5 + (6 : Int32)) (if jr3 < (v_t_s (Int32.toNatClampNeg (jr5 + (6 : Int32)))) then some (0 : Int32) else some (1 : Int32)) else ckI 103 (jr5 + (7 : Int32)) (if jr3 < (v_t_s (Int32.toNatClampNeg (jr5 + (7 : Int32)))) then some (0 : Int32) else some (1 : Int32)))))
abbrev rmX11_isEnoughNow : Room := { frames := 2, cells := 0, slots := 0, locals := 45 }
theorem iX11_isEnoughNow_X11 : ∀ w ∈ wsX110, w ∈ wsX11_isEnoughNow := fun _ h => List.mem_cons_of_mem _ (List.mem_append_right _ h)
theorem mX11_isEnoughNow_1 : (Cond.fieldLink RX11 16 "VoteFilesModel" "s" "[I") ∈ wsX11_isEnoughNow := List.mem_of_getElem? (i := 1) rfl
theorem hdX11_isEnoughNow : yX11_isEnoughNow.cls ≠ "java/lang/invoke/MethodHandle" ∧ yX11_isEnoughNow.cls ≠ "java/lang/invoke/VarHandle" ∧ (parseMethodDescriptor yX11_isEnoughNow.desc).map (fun d => d.parameters.length) = some 2 := by decide +kernel
set_option maxHeartbeats 4000000 in
set_option maxRecDepth 100000 in
theorem ctX11_isEnoughNow (l : Launch) (D : va_G) (cI cZ : ClassId) (a_t a_t_text a_t_draft a_t_s a_t_undos a_t_kept a_t_isKept a_t_seenWay a_t_seenIs a_t_sums a_t_parts a_t_heaps : Nat) (jx1 : Int32) (jx2 : Int32) (v_t_copies : Int32) (v_t_s : (Nat → Int32)) (v_t_thrown : Int32) (v_t_typed : Int32) (v_t_spot : Int32) (v_t_token : Int32) (v_t_place : Int32) (v_t_value : Int32) (v_t_fault : Int32) (v_t_draftCopies : Int32) (v_t_undoMany : Int32) (v_t_seenMany : Int32) (v_t_asked : Int32) (r : Int32) (hf : fX11_isEnoughNow jx1 jx2 v_t_copies v_t_s = some r) : cR l yX11_isEnoughNow wsX11_isEnoughNow rmX11_isEnoughNow [.ref a_t, .int jx1, .int jx2] D [(a_t, .inr (11, [.int v_t_thrown, .ref a_t_text, .int v_t_typed, .int v_t_spot, .int v_t_token, .int v_t_place, .int v_t_value, .int v_t_fault, .int v_t_copies, .int v_t_draftCopies, .ref a_t_draft, .ref a_t_s, .ref a_t_undos, .int v_t_undoMany, .ref a_t_kept, .ref a_t_isKept, .ref a_t_seenWay, .ref a_t_seenIs, .int v_t_seenMany, .int v_t_asked, .ref a_t_sums, .ref a_t_parts, .ref a_t_heaps])), (a_t_s, .inl (cI, 103, .inl v_t_s))] (KX D cI cZ) r := by
  refine cR_of (cc := cX11_isEnoughNow) (maxL := 3) (ret := some .boolean) (by decide +kernel) rfl _ (Nat.le_of_ble_eq_true rfl) ?_
  intro p e s m below meth c ls S hr hlk hP hK hl
  obtain ⟨hx, hb, hml, hown, hts⟩ := id S
  have hl : lv_has ls 3 [(0, .ref a_t), (1, .int jx1), (2, .int jx2)] := hl
  unfold fX11_isEnoughNow at hf
  refine lv_aload_n hx hb dX11_isEnoughNow_0 rfl (lv_at hl 0 rfl) ?_
  refine lv_iload_n hx hb dX11_isEnoughNow_1 rfl (lv_at hl 1 rfl) ?_
  refine lv_aload_n hx hb dX11_isEnoughNow_2 rfl (lv_at hl 0 rfl) ?_
  obtain ⟨jr1, je2, hf⟩ := bd1_inv hf
  refine callRV (As := []) (rest := [.int jx1, .ref a_t]) S (ctX11_newest l D cI cZ a_t a_t_text a_t_draft a_t_s a_t_undos a_t_kept a_t_isKept a_t_seenWay a_t_seenIs a_t_sums a_t_parts a_t_heaps v_t_s v_t_thrown v_t_typed v_t_spot v_t_token v_t_place v_t_value v_t_fault v_t_copies v_t_draftCopies v_t_undoMany v_t_seenMany v_t_asked jr1 je2) (cwV 0 hts gX11_isEnoughNow_X11_newest rfl rfl rfl ⟨rfl, hdX11_newest⟩ ⟨Nat.le_of_ble_eq_true rfl, Nat.le_of_ble_eq_true rfl⟩) hP [0, 1] rfl KX.xs (fun U _ hW => hK.warm hW) (va_recv hK.1 hP (ci := 11) (q0 := 0) rfl rfl) rfl hl.1 rfl (Nat.le_of_ble_eq_true rfl) dX11_isEnoughNow_3 ⟨Nat.zero_le _, Nat.zero_le _⟩ ?_
  obtain ⟨jr3, je4, hf⟩ := bd1_inv hf
  refine callRV (As := [.int jx1, .int jr1]) (rest := []) S (ctX11_votesOf l D cI cZ a_t a_t_text a_t_draft a_t_s a_t_undos a_t_kept a_t_isKept a_t_seenWay a_t_seenIs a_t_sums a_t_parts a_t_heaps jx1 jr1 v_t_copies v_t_s v_t_thrown v_t_typed v_t_spot v_t_token v_t_place v_t_value v_t_fault v_t_draftCopies v_t_undoMany v_t_seenMany v_t_asked jr3 je4) (cwV 2 hts gX11_isEnoughNow_X11_votesOf rfl rfl rfl ⟨rfl, hdX11_votesOf⟩ ⟨Nat.le_of_ble_eq_true rfl, Nat.le_of_ble_eq_true rfl⟩) hP [0, 1] rfl KX.xs (fun U _ hW => hK.warm hW) (va_recv hK.1 hP (ci := 11) (q0 := 0) rfl rfl) rfl hl.1 rfl (Nat.le_of_ble_eq_true rfl) dX11_isEnoughNow_6 ⟨Nat.zero_le _, Nat.zero_le _⟩ ?_
  refine lv_aload_n hx hb dX11_isEnoughNow_9 rfl (lv_at hl 0 rfl) ?_
  refine va_get (D := D) (ci := 11) (v := .ref a_t_s) (C := RX11) (T := TX11) (N := 23) hx hb hts iX11_isEnoughNow_X11 hown hK.1 hP 0 rfl rfl 11 (by decide) (hts _ mX11_isEnoughNow_1) (fun _ h9 => h9) rfl dX11_isEnoughNow_10 ?_
  refine lv_aload_n hx hb dX11_isEnoughNow_13 rfl (lv_at hl 0 rfl) ?_
  obtain ⟨jr5, je6, hf⟩ := bd1_inv hf
  refine callRV (As := []) (rest := [.ref a_t_s, .int jr3]) S (ctX11_newest l D cI cZ a_t a_t_text a_t_draft a_t_s a_t_undos a_t_kept a_t_isKept a_t_seenWay a_t_seenIs a_t_sums a_t_parts a_t_heaps v_t_s v_t_thrown v_t_typed v_t_spot v_t_token v_t_place v_t_value v_t_fault v_t_copies v_t_draftCopies v_t_undoMany v_t_seenMany v_t_asked jr5 je6) (cwV 0 hts gX11_isEnoughNow_X11_newest rfl rfl rfl ⟨rfl, hdX11_newest⟩ ⟨Nat.le_of_ble_eq_true rfl, Nat.le_of_ble_eq_true rfl⟩) hP [0, 1] rfl KX.xs (fun U _ hW => hK.warm hW) (va_recv hK.1 hP (ci := 11) (q0 := 0) rfl rfl) rfl hl.1 rfl (Nat.le_of_ble_eq_true rfl) dX11_isEnoughNow_14 ⟨Nat.zero_le _, Nat.zero_le _⟩ ?_
  refine lv_iload_n hx hb dX11_isEnoughNow_17 rfl (lv_at hl 2 rfl) ?_
  refine lv_if_ne (tgt := 26) hx hb dX11_isEnoughNow_18 (by decide) (fun jc7 => ?_) (fun jc7 => ?_)
  · have hf := ite_f jc7 hf
    refine lv_bipush (v := 7) hx hb dX11_isEnoughNow_26 (by decide) ?_
    refine lv_iadd hx hb dX11_isEnoughNow_28 ?_
    obtain ⟨jh8, hf⟩ := ckI_inv hf
    refine va_iald hx hb hK.1 hP 1 0 rfl rfl jh8 dX11_isEnoughNow_29 ?_
    refine lv_icmp_lt (tgt := 37) hx hb dX11_isEnoughNow_30 (by decide) (fun jc9 => ?_) (fun jc9 => ?_)
    · have hf := ite_t jc9 hf
      refine lv_iconst (v := 0) hx hb dX11_isEnoughNow_37 (by decide) ?_
      obtain rfl := Option.some.inj hf
      exact retRz hx hb hr hlk (by decide) dX11_isEnoughNow_38
    · have hf := ite_f jc9 hf
      refine lv_iconst (v := 1) hx hb dX11_isEnoughNow_33 (by decide) ?_
      refine lv_goto (tgt := 38) hx hb dX11_isEnoughNow_34 (by decide) ?_
      obtain rfl := Option.some.inj hf
      exact retRz hx hb hr hlk (by decide) dX11_isEnoughNow_38
  · have hf := ite_t jc7 hf
    refine lv_bipush (v := 6) hx hb dX11_isEnoughNow_21 (by decide) ?_
    refine lv_goto (tgt := 28) hx hb dX11_isEnoughNow_23 (by decide) ?_
    refine lv_iadd hx hb dX11_isEnoughNow_28 ?_
    obtain ⟨jh10, hf⟩ := ckI_inv hf
    refine va_iald hx hb hK.1 hP 1 0 rfl rfl jh10 dX11_isEnoughNow_29 ?_
    refine lv_icmp_lt (tgt := 37) hx hb dX11_isEnoughNow_30 (by decide) (fun jc11 => ?_) (fun jc11 => ?_)
    · have hf := ite_t jc11 hf
      refine lv_iconst (v := 0) hx hb dX11_isEnoughNow_37 (by decide) ?_
      obtain rfl := Option.some.inj hf
      exact retRz hx hb hr hlk (by decide) dX11_isEnoughNow_38
    · have hf := ite_f jc11 hf
      refine lv_iconst (v := 1) hx hb dX11_isEnoughNow_33 (by decide) ?_
      refine lv_goto (tgt := 38) hx hb dX11_isEnoughNow_34 (by decide) ?_
      obtain rfl := Option.some.inj hf
      exact retRz hx hb hr hlk (by decide) dX11_isEnoughNow_38
def fX11_chance_41 (jx1 : Int32) (jx2 : Int32) (jx3 : Int32) (v_t_copies : Int32) (v_t_s : (Nat → Int32)) : Nat → Int32 → Int32 → Int32 → Option (Int32 × Int32)
  | 0, _, _, _ => none
  | n + 1, jx4, jx5, v_t_thrown => if ((1 : Int32) <<< (v_t_copies &&& 31)) ≤ jx5 then bd1 (fX11_wholeOf v_t_copies) (fun jr2 => bd1 (fX11_gcd jx4 jr2) (fun jr4 => if jx3 = 0 then dvI jr4 (some ((jx4 / jr4), v_t_thrown)) else bd1 (fX11_wholeOf v_t_copies) (fun jr7 => dvI jr4 (some ((jr7 / jr4), v_t_thrown))))) else bd1 (fX11_isEnoughNow jx5 jx2 v_t_copies v_t_s) (fun jr11 => if jr11 = 0 then (fX11_chance_41 jx1 jx2 jx3 v_t_copies v_t_s n) (jx4 + (0 : Int32)) (jx5 + (1 : Int32)) v_t_thrown else bd1 (fX11_partOf jx5 jx1 v_t_copies) (fun jr14 => (fX11_chance_41 jx1 jx2 jx3 v_t_copies v_t_s n) (jx4 + jr14) (jx5 + (1 : Int32)) v_t_thrown))
theorem fX11_chance_41_s (jx1 : Int32) (jx2 : Int32) (jx3 : Int32) (v_t_copies : Int32) (v_t_s : (Nat → Int32)) (n : Nat) (jx4 : Int32) (jx5 : Int32) (v_t_thrown : Int32) : fX11_chance_41 jx1 jx2 jx3 v_t_copies v_t_s (n + 1) jx4 jx5 v_t_thrown = if ((1 : Int32) <<< (v_t_copies &&& 31)) ≤ jx5 then bd1 (fX11_wholeOf v_t_copies) (fun jr2 => bd1 (fX11_gcd jx4 jr2) (fun jr4 => if jx3 = 0 then dvI jr4 (some ((jx4 / jr4), v_t_thrown)) else bd1 (fX11_wholeOf v_t_copies) (fun jr7 => dvI jr4 (some ((jr7 / jr4), v_t_thrown))))) else bd1 (fX11_isEnoughNow jx5 jx2 v_t_copies v_t_s) (fun jr11 => if jr11 = 0 then (fX11_chance_41 jx1 jx2 jx3 v_t_copies v_t_s n) (jx4 + (0 : Int32)) (jx5 + (1 : Int32)) v_t_thrown else bd1 (fX11_partOf jx5 jx1 v_t_copies) (fun jr14 => (fX11_chance_41 jx1 jx2 jx3 v_t_copies v_t_s n) (jx4 + jr14) (jx5 + (1 : Int32)) v_t_thrown)) := rfl
def fX11_chance (jx1 : Int32) (jx2 : Int32) (jx3 : Int32) (v_t_thrown : Int32) (v_t_copies : Int32) (v_t_s : (Nat → Int32)) : Option (Int32 × Int32) := bd1 (fX11_in jx1 (0 : Int32) (10 : Int32)) (fun jr1 => if jr1 = 0 then some ((-1 : Int32), (0 : Int32)) else bd1 (fX11_in jx2 (0 : Int32) (1 : Int32)) (fun jr4 => if jr4 = 0 then some ((-1 : Int32), (0 : Int32)) else bd1 (fX11_in jx3 (0 : Int32) (1 : Int32)) (fun jr7 => if jr7 = 0 then some ((-1 : Int32), (0 : Int32)) else fX11_chance_41 jx1 jx2 jx3 v_t_copies v_t_s fuel (0 : Int32) (0 : Int32) (0 : Int32))))
abbrev rmX11_chance : Room := { frames := 3, cells := 0, slots := 0, locals := 67 }
theorem iX11_chance_X11 : ∀ w ∈ wsX110, w ∈ wsX11_chance := fun _ h => List.mem_cons_of_mem _ (List.mem_append_right _ h)
theorem mX11_chance_2 : (Cond.fieldLink RX11 119 "VoteFilesModel" "copies" "I") ∈ wsX11_chance := List.mem_of_getElem? (i := 2) rfl
theorem mX11_chance_1 : (Cond.fieldLink RX11 50 "VoteFilesModel" "thrown" "I") ∈ wsX11_chance := List.mem_of_getElem? (i := 1) rfl
set_option maxHeartbeats 4000000 in
set_option maxRecDepth 100000 in
theorem wX11_chance_41 {p : Program} {l : Launch} {e : Env} {s : State} {m : MethodId} {args : Array Value} {below : List Frame} {meth : Method} {c : Code} {D : va_G} {cI cZ : ClassId} (S : CallFix p m c cX11_chance 6 s args wsX11_chance RX11) (hr : meth.sig.returnType = some .int) (hlk : meth.locks = false) (hK : KX D cI cZ s) {a_t a_t_text a_t_draft a_t_s a_t_undos a_t_kept a_t_isKept a_t_seenWay a_t_seenIs a_t_sums a_t_parts a_t_heaps : Nat} {jx1 : Int32} {jx2 : Int32} {jx3 : Int32} {v_t_copies : Int32} {v_t_s : (Nat → Int32)} {v_t_typed : Int32} {v_t_spot : Int32} {v_t_token : Int32} {v_t_place : Int32} {v_t_value : Int32} {v_t_fault : Int32} {v_t_draftCopies : Int32} {v_t_undoMany : Int32} {v_t_seenMany : Int32} {v_t_asked : Int32} {r : Int32} {o_t_thrown : Int32} {A : Nat → Prop} (hA : ∀ q : Nat, s.heap.size ≤ q → A q) : ∀ (n : Nat), ∀ (jx4 : Int32) (jx5 : Int32) (v_t_thrown : Int32) (ls : Array Slot) (H : Heap) (locs : List Loc), fX11_chance_41 jx1 jx2 jx3 v_t_copies v_t_s n jx4 jx5 v_t_thrown = some (r, o_t_thrown) → lv_has ls 6 [(0, .ref a_t), (1, .int jx1), (2, .int jx2), (3, .int jx3), (4, .int jx4), (5, .int jx5)] → va_P D vwCl [(a_t, .inr (11, [.int v_t_thrown, .ref a_t_text, .int v_t_typed, .int v_t_spot, .int v_t_token, .int v_t_place, .int v_t_value, .int v_t_fault, .int v_t_copies, .int v_t_draftCopies, .ref a_t_draft, .ref a_t_s, .ref a_t_undos, .int v_t_undoMany, .ref a_t_kept, .ref a_t_isKept, .ref a_t_seenWay, .ref a_t_seenIs, .int v_t_seenMany, .int v_t_asked, .ref a_t_sums, .ref a_t_parts, .ref a_t_heaps])), (a_t_s, .inl (cI, 103, .inl v_t_s))] H → va_D A [(a_t, .inr (11, [.int v_t_thrown, .ref a_t_text, .int v_t_typed, .int v_t_spot, .int v_t_token, .int v_t_place, .int v_t_value, .int v_t_fault, .int v_t_copies, .int v_t_draftCopies, .ref a_t_draft, .ref a_t_s, .ref a_t_undos, .int v_t_undoMany, .ref a_t_kept, .ref a_t_isKept, .ref a_t_seenWay, .ref a_t_seenIs, .int v_t_seenMany, .int v_t_asked, .ref a_t_sums, .ref a_t_parts, .ref a_t_heaps])), (a_t_s, .inl (cI, 103, .inl v_t_s))] → va_S A s.heap H locs → W p l e rmX11_chance s m args below meth c H locs 0 0 (MQ below (qM D (some (.int r)) [(a_t, .inr (11, [.int o_t_thrown, .ref a_t_text, .int v_t_typed, .int v_t_spot, .int v_t_token, .int v_t_place, .int v_t_value, .int v_t_fault, .int v_t_copies, .int v_t_draftCopies, .ref a_t_draft, .ref a_t_s, .ref a_t_undos, .int v_t_undoMany, .ref a_t_kept, .ref a_t_isKept, .ref a_t_seenWay, .ref a_t_seenIs, .int v_t_seenMany, .int v_t_asked, .ref a_t_sums, .ref a_t_parts, .ref a_t_heaps])), (a_t_s, .inl (cI, 103, .inl v_t_s))] A) args s 0 0 A) (F0 m 41 ls []) := by
  obtain ⟨hx, hb, hml, hown, hts⟩ := id S
  intro n
  induction n with
  | zero =>
    intro jx4 jx5 v_t_thrown ls H locs hf hl hP hD hS
    cases (show (none : Option _) = some _ from hf)
  | succ n ih =>
    intro jx4 jx5 v_t_thrown ls H locs hf hl hP hD hS
    have hf := (fX11_chance_41_s _ _ _ _ _ n _ _ _).symm.trans hf
    refine lv_iload hx hb dX11_chance_41 (lv_at hl 5 rfl) ?_
    refine lv_iconst (v := 1) hx hb dX11_chance_43 (by decide) ?_
    refine lv_aload_n hx hb dX11_chance_44 rfl (lv_at hl 0 rfl) ?_
    refine va_get (D := D) (ci := 11) (v := .int v_t_copies) (C := RX11) (T := TX11) (N := 23) hx hb hts iX11_chance_X11 hown hK.1 hP 0 rfl rfl 8 (by decide) (hts _ mX11_chance_2) (fun _ h9 => h9) rfl dX11_chance_45 ?_
    refine lv_ishl hx hb dX11_chance_48 ?_
    refine lv_icmp_ge (tgt := 84) hx hb dX11_chance_49 (by decide) (fun jc1 => ?_) (fun jc1 => ?_)
    · have hf := ite_t jc1 hf
      refine lv_iload hx hb dX11_chance_84 (lv_at hl 4 rfl) ?_
      refine lv_aload_n hx hb dX11_chance_86 rfl (lv_at hl 0 rfl) ?_
      obtain ⟨jr2, je3, hf⟩ := bd1_inv hf
      refine callRV (As := []) (rest := [.int jx4]) S (ctX11_wholeOf l D cI cZ a_t a_t_text a_t_draft a_t_s a_t_undos a_t_kept a_t_isKept a_t_seenWay a_t_seenIs a_t_sums a_t_parts a_t_heaps v_t_copies v_t_thrown v_t_typed v_t_spot v_t_token v_t_place v_t_value v_t_fault v_t_draftCopies v_t_undoMany v_t_seenMany v_t_asked jr2 je3) (cwV 0 hts gX11_chance_X11_wholeOf rfl rfl rfl ⟨rfl, hdX11_wholeOf⟩ ⟨Nat.le_of_ble_eq_true rfl, Nat.le_of_ble_eq_true rfl⟩) hP [0] rfl KX.xs (fun U _ hW => hK.warm hW) (va_recv hK.1 hP (ci := 11) (q0 := 0) rfl rfl) rfl hl.1 rfl (Nat.le_of_ble_eq_true rfl) dX11_chance_87 ⟨Nat.zero_le _, Nat.zero_le _⟩ ?_
      obtain ⟨jr4, je5, hf⟩ := bd1_inv hf
      refine callRS (As := [.int jx4, .int jr2]) (rest := []) S (ctX11_gcd l D cI cZ jx4 jr2 jr4 je5) (va_cwS 2 hts gX11_chance_X11_gcd rfl rfl rfl hdX11_gcd ⟨Nat.le_of_ble_eq_true rfl, Nat.le_of_ble_eq_true rfl⟩) hP [] rfl KX.xs (fun U _ hW => hK.warm hW) rfl hl.1 rfl (Nat.le_of_ble_eq_true rfl) dX11_chance_90 ⟨Nat.zero_le _, Nat.zero_le _⟩ ?_
      refine lv_istore (lv' := [(5, .int jr4), (0, .ref a_t), (1, .int jx1), (2, .int jx2), (3, .int jx3), (4, .int jx4)]) hx hb dX11_chance_93 hl (by decide) rfl (fun ls hl => ?_)
      refine lv_iload_n hx hb dX11_chance_95 rfl (lv_at hl 4 rfl) ?_
      refine lv_if_ne (tgt := 107) hx hb dX11_chance_96 (by decide) (fun jc6 => ?_) (fun jc6 => ?_)
      · have hf := ite_f jc6 hf
        refine lv_aload_n hx hb dX11_chance_107 rfl (lv_at hl 1 rfl) ?_
        obtain ⟨jr7, je8, hf⟩ := bd1_inv hf
        refine callRV (As := []) (rest := []) S (ctX11_wholeOf l D cI cZ a_t a_t_text a_t_draft a_t_s a_t_undos a_t_kept a_t_isKept a_t_seenWay a_t_seenIs a_t_sums a_t_parts a_t_heaps v_t_copies v_t_thrown v_t_typed v_t_spot v_t_token v_t_place v_t_value v_t_fault v_t_draftCopies v_t_undoMany v_t_seenMany v_t_asked jr7 je8) (cwV 0 hts gX11_chance_X11_wholeOf rfl rfl rfl ⟨rfl, hdX11_wholeOf⟩ ⟨Nat.le_of_ble_eq_true rfl, Nat.le_of_ble_eq_true rfl⟩) hP [0] rfl KX.xs (fun U _ hW => hK.warm hW) (va_recv hK.1 hP (ci := 11) (q0 := 0) rfl rfl) rfl hl.1 rfl (Nat.le_of_ble_eq_true rfl) dX11_chance_108 ⟨Nat.zero_le _, Nat.zero_le _⟩ ?_
        refine lv_iload hx hb dX11_chance_111 (lv_at hl 0 rfl) ?_
        obtain ⟨jh9, hf⟩ := dvI_inv hf
        refine lv_idiv hx hb dX11_chance_113 jh9 ?_
        obtain ⟨rfl, rfl⟩ := pr2_inv hf
        exact retM hx hb hr hlk hP hD hS dX11_chance_114
      · have hf := ite_t jc6 hf
        refine lv_iload hx hb dX11_chance_99 (lv_at hl 5 rfl) ?_
        refine lv_iload hx hb dX11_chance_101 (lv_at hl 0 rfl) ?_
        obtain ⟨jh10, hf⟩ := dvI_inv hf
        refine lv_idiv hx hb dX11_chance_103 jh10 ?_
        refine lv_goto (tgt := 114) hx hb dX11_chance_104 (by decide) ?_
        obtain ⟨rfl, rfl⟩ := pr2_inv hf
        exact retM hx hb hr hlk hP hD hS dX11_chance_114
    · have hf := ite_f jc1 hf
      refine lv_iload hx hb dX11_chance_52 (lv_at hl 4 rfl) ?_
      refine lv_aload_n hx hb dX11_chance_54 rfl (lv_at hl 0 rfl) ?_
      refine lv_iload hx hb dX11_chance_55 (lv_at hl 5 rfl) ?_
      refine lv_iload_n hx hb dX11_chance_57 rfl (lv_at hl 2 rfl) ?_
      obtain ⟨jr11, je12, hf⟩ := bd1_inv hf
      refine callRV (As := [.int jx5, .int jx2]) (rest := [.int jx4]) S (ctX11_isEnoughNow l D cI cZ a_t a_t_text a_t_draft a_t_s a_t_undos a_t_kept a_t_isKept a_t_seenWay a_t_seenIs a_t_sums a_t_parts a_t_heaps jx5 jx2 v_t_copies v_t_s v_t_thrown v_t_typed v_t_spot v_t_token v_t_place v_t_value v_t_fault v_t_draftCopies v_t_undoMany v_t_seenMany v_t_asked jr11 je12) (cwV 2 hts gX11_chance_X11_isEnoughNow rfl rfl rfl ⟨rfl, hdX11_isEnoughNow⟩ ⟨Nat.le_of_ble_eq_true rfl, Nat.le_of_ble_eq_true rfl⟩) hP [0, 1] rfl KX.xs (fun U _ hW => hK.warm hW) (va_recv hK.1 hP (ci := 11) (q0 := 0) rfl rfl) rfl hl.1 rfl (Nat.le_of_ble_eq_true rfl) dX11_chance_58 ⟨Nat.zero_le _, Nat.zero_le _⟩ ?_
      refine lv_if_eq (tgt := 74) hx hb dX11_chance_61 (by decide) (fun jc13 => ?_) (fun jc13 => ?_)
      · have hf := ite_t jc13 hf
        refine lv_iconst (v := 0) hx hb dX11_chance_74 (by decide) ?_
        refine lv_iadd hx hb dX11_chance_75 ?_
        refine lv_istore (lv' := [(4, .int (jx4 + (0 : Int32))), (0, .ref a_t), (1, .int jx1), (2, .int jx2), (3, .int jx3), (5, .int jx5)]) hx hb dX11_chance_76 hl (by decide) rfl (fun ls hl => ?_)
        refine lv_iinc (v := (jx5 + (1 : Int32))) (lv' := [(5, .int (jx5 + (1 : Int32))), (4, .int (jx4 + (0 : Int32))), (0, .ref a_t), (1, .int jx1), (2, .int jx2), (3, .int jx3)]) hx hb dX11_chance_78 hl (k := 5) rfl rfl (by decide) rfl (fun ls hl => ?_)
        refine lv_goto (tgt := 41) hx hb dX11_chance_81 (by decide) ?_
        exact ih (jx4 + (0 : Int32)) (jx5 + (1 : Int32)) v_t_thrown ls _ _ hf (lv_sub hl [2, 3, 4, 5, 1, 0] rfl) hP hD hS
      · have hf := ite_f jc13 hf
        refine lv_aload_n hx hb dX11_chance_64 rfl (lv_at hl 0 rfl) ?_
        refine lv_iload hx hb dX11_chance_65 (lv_at hl 5 rfl) ?_
        refine lv_iload_n hx hb dX11_chance_67 rfl (lv_at hl 1 rfl) ?_
        obtain ⟨jr14, je15, hf⟩ := bd1_inv hf
        refine callRV (As := [.int jx5, .int jx1]) (rest := [.int jx4]) S (ctX11_partOf l D cI cZ a_t a_t_text a_t_draft a_t_s a_t_undos a_t_kept a_t_isKept a_t_seenWay a_t_seenIs a_t_sums a_t_parts a_t_heaps jx5 jx1 v_t_copies v_t_thrown v_t_typed v_t_spot v_t_token v_t_place v_t_value v_t_fault v_t_draftCopies v_t_undoMany v_t_seenMany v_t_asked jr14 je15) (cwV 2 hts gX11_chance_X11_partOf rfl rfl rfl ⟨rfl, hdX11_partOf⟩ ⟨Nat.le_of_ble_eq_true rfl, Nat.le_of_ble_eq_true rfl⟩) hP [0] rfl KX.xs (fun U _ hW => hK.warm hW) (va_recv hK.1 hP (ci := 11) (q0 := 0) rfl rfl) rfl hl.1 rfl (Nat.le_of_ble_eq_true rfl) dX11_chance_68 ⟨Nat.zero_le _, Nat.zero_le _⟩ ?_
        refine lv_goto (tgt := 75) hx hb dX11_chance_71 (by decide) ?_
        refine lv_iadd hx hb dX11_chance_75 ?_
        refine lv_istore (lv' := [(4, .int (jx4 + jr14)), (0, .ref a_t), (1, .int jx1), (2, .int jx2), (3, .int jx3), (5, .int jx5)]) hx hb dX11_chance_76 hl (by decide) rfl (fun ls hl => ?_)
        refine lv_iinc (v := (jx5 + (1 : Int32))) (lv' := [(5, .int (jx5 + (1 : Int32))), (4, .int (jx4 + jr14)), (0, .ref a_t), (1, .int jx1), (2, .int jx2), (3, .int jx3)]) hx hb dX11_chance_78 hl (k := 5) rfl rfl (by decide) rfl (fun ls hl => ?_)
        refine lv_goto (tgt := 41) hx hb dX11_chance_81 (by decide) ?_
        exact ih (jx4 + jr14) (jx5 + (1 : Int32)) v_t_thrown ls _ _ hf (lv_sub hl [2, 3, 4, 5, 1, 0] rfl) hP hD hS
theorem hdX11_chance : yX11_chance.cls ≠ "java/lang/invoke/MethodHandle" ∧ yX11_chance.cls ≠ "java/lang/invoke/VarHandle" ∧ (parseMethodDescriptor yX11_chance.desc).map (fun d => d.parameters.length) = some 3 := by decide +kernel
set_option maxHeartbeats 4000000 in
set_option maxRecDepth 100000 in
theorem ctX11_chance (l : Launch) (D : va_G) (cI cZ : ClassId) (a_t a_t_text a_t_draft a_t_s a_t_undos a_t_kept a_t_isKept a_t_seenWay a_t_seenIs a_t_sums a_t_parts a_t_heaps : Nat) (jx1 : Int32) (jx2 : Int32) (jx3 : Int32) (v_t_thrown : Int32) (v_t_copies : Int32) (v_t_s : (Nat → Int32)) (v_t_typed : Int32) (v_t_spot : Int32) (v_t_token : Int32) (v_t_place : Int32) (v_t_value : Int32) (v_t_fault : Int32) (v_t_draftCopies : Int32) (v_t_undoMany : Int32) (v_t_seenMany : Int32) (v_t_asked : Int32) (r : Int32) (o_t_thrown : Int32) (hf : fX11_chance jx1 jx2 jx3 v_t_thrown v_t_copies v_t_s = some (r, o_t_thrown)) : cM l yX11_chance wsX11_chance rmX11_chance [.ref a_t, .int jx1, .int jx2, .int jx3] D [(a_t, .inr (11, [.int v_t_thrown, .ref a_t_text, .int v_t_typed, .int v_t_spot, .int v_t_token, .int v_t_place, .int v_t_value, .int v_t_fault, .int v_t_copies, .int v_t_draftCopies, .ref a_t_draft, .ref a_t_s, .ref a_t_undos, .int v_t_undoMany, .ref a_t_kept, .ref a_t_isKept, .ref a_t_seenWay, .ref a_t_seenIs, .int v_t_seenMany, .int v_t_asked, .ref a_t_sums, .ref a_t_parts, .ref a_t_heaps])), (a_t_s, .inl (cI, 103, .inl v_t_s))] [(a_t, .inr (11, [.int o_t_thrown, .ref a_t_text, .int v_t_typed, .int v_t_spot, .int v_t_token, .int v_t_place, .int v_t_value, .int v_t_fault, .int v_t_copies, .int v_t_draftCopies, .ref a_t_draft, .ref a_t_s, .ref a_t_undos, .int v_t_undoMany, .ref a_t_kept, .ref a_t_isKept, .ref a_t_seenWay, .ref a_t_seenIs, .int v_t_seenMany, .int v_t_asked, .ref a_t_sums, .ref a_t_parts, .ref a_t_heaps])), (a_t_s, .inl (cI, 103, .inl v_t_s))] (KX D cI cZ) (some (.int r)) := by
  refine cM_of (cc := cX11_chance) (maxL := 6) (ret := some .int) (by decide +kernel) rfl _ (Nat.le_of_ble_eq_true rfl) ?_
  intro p e s m below meth c ls A S hr hlk hP hK hl hD hA hS
  obtain ⟨hx, hb, hml, hown, hts⟩ := id S
  have hl : lv_has ls 6 [(0, .ref a_t), (1, .int jx1), (2, .int jx2), (3, .int jx3)] := hl
  unfold fX11_chance at hf
  refine lv_aload_n hx hb dX11_chance_0 rfl (lv_at hl 0 rfl) ?_
  refine lv_iconst (v := 0) hx hb dX11_chance_1 (by decide) ?_
  refine va_put (D := D) (ci := 11) (v := .int (0 : Int32)) (ty := .int) (C := RX11) (T := TX11) (N := 23) hx hb hts iX11_chance_X11 tyX11 tyX11_ok nmX11 hown hK.1 hP hD hS 0 rfl rfl 0 (by decide) (hts _ mX11_chance_1) (fun _ h9 => h9) rfl (tyX11_ok 0 (by decide)) rfl rfl (Nat.le_of_ble_eq_true rfl) dX11_chance_2 (fun H locs hP hD hS => ?_)
  have hP : va_P D vwCl [(a_t, .inr (11, [.int (0 : Int32), .ref a_t_text, .int v_t_typed, .int v_t_spot, .int v_t_token, .int v_t_place, .int v_t_value, .int v_t_fault, .int v_t_copies, .int v_t_draftCopies, .ref a_t_draft, .ref a_t_s, .ref a_t_undos, .int v_t_undoMany, .ref a_t_kept, .ref a_t_isKept, .ref a_t_seenWay, .ref a_t_seenIs, .int v_t_seenMany, .int v_t_asked, .ref a_t_sums, .ref a_t_parts, .ref a_t_heaps])), (a_t_s, .inl (cI, 103, .inl v_t_s))] H := hP
  have hD : va_D A [(a_t, .inr (11, [.int (0 : Int32), .ref a_t_text, .int v_t_typed, .int v_t_spot, .int v_t_token, .int v_t_place, .int v_t_value, .int v_t_fault, .int v_t_copies, .int v_t_draftCopies, .ref a_t_draft, .ref a_t_s, .ref a_t_undos, .int v_t_undoMany, .ref a_t_kept, .ref a_t_isKept, .ref a_t_seenWay, .ref a_t_seenIs, .int v_t_seenMany, .int v_t_asked, .ref a_t_sums, .ref a_t_parts, .ref a_t_heaps])), (a_t_s, .inl (cI, 103, .inl v_t_s))] := hD
  refine lv_iload_n hx hb dX11_chance_5 rfl (lv_at hl 1 rfl) ?_
  refine lv_iconst (v := 0) hx hb dX11_chance_6 (by decide) ?_
  refine lv_bipush (v := 10) hx hb dX11_chance_7 (by decide) ?_
  obtain ⟨jr1, je2, hf⟩ := bd1_inv hf
  refine callRS (As := [.int jx1, .int (0 : Int32), .int (10 : Int32)]) (rest := []) S (ctX11_in l D cI cZ jx1 (0 : Int32) (10 : Int32) jr1 je2) (va_cwS 3 hts gX11_chance_X11_in rfl rfl rfl hdX11_in ⟨Nat.le_of_ble_eq_true rfl, Nat.le_of_ble_eq_true rfl⟩) hP [] rfl KX.xs (fun U _ hW => hK.warm hW) rfl hl.1 rfl (Nat.le_of_ble_eq_true rfl) dX11_chance_9 ⟨Nat.zero_le _, Nat.zero_le _⟩ ?_
  refine lv_if_eq (tgt := 33) hx hb dX11_chance_12 (by decide) (fun jc3 => ?_) (fun jc3 => ?_)
  · have hf := ite_t jc3 hf
    refine lv_iconst (v := -1) hx hb dX11_chance_33 (by decide) ?_
    obtain ⟨rfl, rfl⟩ := pr2_inv hf
    exact retM hx hb hr hlk hP hD hS dX11_chance_34
  · have hf := ite_f jc3 hf
    refine lv_iload_n hx hb dX11_chance_15 rfl (lv_at hl 2 rfl) ?_
    refine lv_iconst (v := 0) hx hb dX11_chance_16 (by decide) ?_
    refine lv_iconst (v := 1) hx hb dX11_chance_17 (by decide) ?_
    obtain ⟨jr4, je5, hf⟩ := bd1_inv hf
    refine callRS (As := [.int jx2, .int (0 : Int32), .int (1 : Int32)]) (rest := []) S (ctX11_in l D cI cZ jx2 (0 : Int32) (1 : Int32) jr4 je5) (va_cwS 3 hts gX11_chance_X11_in rfl rfl rfl hdX11_in ⟨Nat.le_of_ble_eq_true rfl, Nat.le_of_ble_eq_true rfl⟩) hP [] rfl KX.xs (fun U _ hW => hK.warm hW) rfl hl.1 rfl (Nat.le_of_ble_eq_true rfl) dX11_chance_18 ⟨Nat.zero_le _, Nat.zero_le _⟩ ?_
    refine lv_if_eq (tgt := 33) hx hb dX11_chance_21 (by decide) (fun jc6 => ?_) (fun jc6 => ?_)
    · have hf := ite_t jc6 hf
      refine lv_iconst (v := -1) hx hb dX11_chance_33 (by decide) ?_
      obtain ⟨rfl, rfl⟩ := pr2_inv hf
      exact retM hx hb hr hlk hP hD hS dX11_chance_34
    · have hf := ite_f jc6 hf
      refine lv_iload_n hx hb dX11_chance_24 rfl (lv_at hl 3 rfl) ?_
      refine lv_iconst (v := 0) hx hb dX11_chance_25 (by decide) ?_
      refine lv_iconst (v := 1) hx hb dX11_chance_26 (by decide) ?_
      obtain ⟨jr7, je8, hf⟩ := bd1_inv hf
      refine callRS (As := [.int jx3, .int (0 : Int32), .int (1 : Int32)]) (rest := []) S (ctX11_in l D cI cZ jx3 (0 : Int32) (1 : Int32) jr7 je8) (va_cwS 3 hts gX11_chance_X11_in rfl rfl rfl hdX11_in ⟨Nat.le_of_ble_eq_true rfl, Nat.le_of_ble_eq_true rfl⟩) hP [] rfl KX.xs (fun U _ hW => hK.warm hW) rfl hl.1 rfl (Nat.le_of_ble_eq_true rfl) dX11_chance_27 ⟨Nat.zero_le _, Nat.zero_le _⟩ ?_
      refine lv_if_ne (tgt := 35) hx hb dX11_chance_30 (by decide) (fun jc9 => ?_) (fun jc9 => ?_)
      · have hf := ite_f jc9 hf
        refine lv_iconst (v := 0) hx hb dX11_chance_35 (by decide) ?_
        refine lv_istore (lv' := [(4, .int (0 : Int32)), (0, .ref a_t), (1, .int jx1), (2, .int jx2), (3, .int jx3)]) hx hb dX11_chance_36 hl (by decide) rfl (fun ls hl => ?_)
        refine lv_iconst (v := 0) hx hb dX11_chance_38 (by decide) ?_
        refine lv_istore (lv' := [(5, .int (0 : Int32)), (4, .int (0 : Int32)), (0, .ref a_t), (1, .int jx1), (2, .int jx2), (3, .int jx3)]) hx hb dX11_chance_39 hl (by decide) rfl (fun ls hl => ?_)
        exact wX11_chance_41 S hr hlk hK hA fuel (0 : Int32) (0 : Int32) (0 : Int32) ls _ _ hf (lv_sub hl [2, 3, 4, 5, 1, 0] rfl) hP hD hS
      · have hf := ite_t jc9 hf
        refine lv_iconst (v := -1) hx hb dX11_chance_33 (by decide) ?_
        obtain ⟨rfl, rfl⟩ := pr2_inv hf
        exact retM hx hb hr hlk hP hD hS dX11_chance_34
def fX11_least_27 (jx1 : Int32) (v_t_copies : Int32) (v_t_s : (Nat → Int32)) : Nat → Int32 → Int32 → Int32 → Option (Int32 × Int32)
  | 0, _, _, _ => none
  | n + 1, jx2, jx3, v_t_thrown => if jx3 < 0 then some (jx2, v_t_thrown) else bd1 (fX11_isEnoughNow jx3 jx1 v_t_copies v_t_s) (fun jr2 => if jr2 = 0 then (fX11_least_27 jx1 v_t_copies v_t_s n) jx2 (jx3 + (-1 : Int32)) v_t_thrown else bd1 (fX11_ones jx3) (fun jr5 => bd1 (fX11_ones jx2) (fun jr7 => if jr7 < jr5 then (fX11_least_27 jx1 v_t_copies v_t_s n) jx2 (jx3 + (-1 : Int32)) v_t_thrown else (fX11_least_27 jx1 v_t_copies v_t_s n) jx3 (jx3 + (-1 : Int32)) v_t_thrown)))
theorem fX11_least_27_s (jx1 : Int32) (v_t_copies : Int32) (v_t_s : (Nat → Int32)) (n : Nat) (jx2 : Int32) (jx3 : Int32) (v_t_thrown : Int32) : fX11_least_27 jx1 v_t_copies v_t_s (n + 1) jx2 jx3 v_t_thrown = if jx3 < 0 then some (jx2, v_t_thrown) else bd1 (fX11_isEnoughNow jx3 jx1 v_t_copies v_t_s) (fun jr2 => if jr2 = 0 then (fX11_least_27 jx1 v_t_copies v_t_s n) jx2 (jx3 + (-1 : Int32)) v_t_thrown else bd1 (fX11_ones jx3) (fun jr5 => bd1 (fX11_ones jx2) (fun jr7 => if jr7 < jr5 then (fX11_least_27 jx1 v_t_copies v_t_s n) jx2 (jx3 + (-1 : Int32)) v_t_thrown else (fX11_least_27 jx1 v_t_copies v_t_s n) jx3 (jx3 + (-1 : Int32)) v_t_thrown))) := rfl
def fX11_least (jx1 : Int32) (v_t_thrown : Int32) (v_t_copies : Int32) (v_t_s : (Nat → Int32)) : Option (Int32 × Int32) := bd1 (fX11_in jx1 (0 : Int32) (1 : Int32)) (fun jr1 => if jr1 = 0 then some ((-1 : Int32), (0 : Int32)) else fX11_least_27 jx1 v_t_copies v_t_s fuel (((1 : Int32) <<< (v_t_copies &&& 31)) - (1 : Int32)) (((1 : Int32) <<< (v_t_copies &&& 31)) - (1 : Int32)) (0 : Int32))
abbrev rmX11_least : Room := { frames := 3, cells := 0, slots := 0, locals := 67 }
theorem iX11_least_X11 : ∀ w ∈ wsX110, w ∈ wsX11_least := fun _ h => List.mem_cons_of_mem _ (List.mem_append_right _ h)
theorem mX11_least_1 : (Cond.fieldLink RX11 50 "VoteFilesModel" "thrown" "I") ∈ wsX11_least := List.mem_of_getElem? (i := 1) rfl
theorem mX11_least_2 : (Cond.fieldLink RX11 119 "VoteFilesModel" "copies" "I") ∈ wsX11_least := List.mem_of_getElem? (i := 2) rfl
set_option maxHeartbeats 4000000 in
set_option maxRecDepth 100000 in
theorem wX11_least_27 {p : Program} {l : Launch} {e : Env} {s : State} {m : MethodId} {args : Array Value} {below : List Frame} {meth : Method} {c : Code} {D : va_G} {cI cZ : ClassId} (S : CallFix p m c cX11_least 4 s args wsX11_least RX11) (hr : meth.sig.returnType = some .int) (hlk : meth.locks = false) (hK : KX D cI cZ s) {a_t a_t_text a_t_draft a_t_s a_t_undos a_t_kept a_t_isKept a_t_seenWay a_t_seenIs a_t_sums a_t_parts a_t_heaps : Nat} {jx1 : Int32} {v_t_copies : Int32} {v_t_s : (Nat → Int32)} {v_t_typed : Int32} {v_t_spot : Int32} {v_t_token : Int32} {v_t_place : Int32} {v_t_value : Int32} {v_t_fault : Int32} {v_t_draftCopies : Int32} {v_t_undoMany : Int32} {v_t_seenMany : Int32} {v_t_asked : Int32} {r : Int32} {o_t_thrown : Int32} {A : Nat → Prop} (hA : ∀ q : Nat, s.heap.size ≤ q → A q) : ∀ (n : Nat), ∀ (jx2 : Int32) (jx3 : Int32) (v_t_thrown : Int32) (ls : Array Slot) (H : Heap) (locs : List Loc), fX11_least_27 jx1 v_t_copies v_t_s n jx2 jx3 v_t_thrown = some (r, o_t_thrown) → lv_has ls 4 [(0, .ref a_t), (1, .int jx1), (2, .int jx2), (3, .int jx3)] → va_P D vwCl [(a_t, .inr (11, [.int v_t_thrown, .ref a_t_text, .int v_t_typed, .int v_t_spot, .int v_t_token, .int v_t_place, .int v_t_value, .int v_t_fault, .int v_t_copies, .int v_t_draftCopies, .ref a_t_draft, .ref a_t_s, .ref a_t_undos, .int v_t_undoMany, .ref a_t_kept, .ref a_t_isKept, .ref a_t_seenWay, .ref a_t_seenIs, .int v_t_seenMany, .int v_t_asked, .ref a_t_sums, .ref a_t_parts, .ref a_t_heaps])), (a_t_s, .inl (cI, 103, .inl v_t_s))] H → va_D A [(a_t, .inr (11, [.int v_t_thrown, .ref a_t_text, .int v_t_typed, .int v_t_spot, .int v_t_token, .int v_t_place, .int v_t_value, .int v_t_fault, .int v_t_copies, .int v_t_draftCopies, .ref a_t_draft, .ref a_t_s, .ref a_t_undos, .int v_t_undoMany, .ref a_t_kept, .ref a_t_isKept, .ref a_t_seenWay, .ref a_t_seenIs, .int v_t_seenMany, .int v_t_asked, .ref a_t_sums, .ref a_t_parts, .ref a_t_heaps])), (a_t_s, .inl (cI, 103, .inl v_t_s))] → va_S A s.heap H locs → W p l e rmX11_least s m args below meth c H locs 0 0 (MQ below (qM D (some (.int r)) [(a_t, .inr (11, [.int o_t_thrown, .ref a_t_text, .int v_t_typed, .int v_t_spot, .int v_t_token, .int v_t_place, .int v_t_value, .int v_t_fault, .int v_t_copies, .int v_t_draftCopies, .ref a_t_draft, .ref a_t_s, .ref a_t_undos, .int v_t_undoMany, .ref a_t_kept, .ref a_t_isKept, .ref a_t_seenWay, .ref a_t_seenIs, .int v_t_seenMany, .int v_t_asked, .ref a_t_sums, .ref a_t_parts, .ref a_t_heaps])), (a_t_s, .inl (cI, 103, .inl v_t_s))] A) args s 0 0 A) (F0 m 27 ls []) := by
  obtain ⟨hx, hb, hml, hown, hts⟩ := id S
  intro n
  induction n with
  | zero =>
    intro jx2 jx3 v_t_thrown ls H locs hf hl hP hD hS
    cases (show (none : Option _) = some _ from hf)
  | succ n ih =>
    intro jx2 jx3 v_t_thrown ls H locs hf hl hP hD hS
    have hf := (fX11_least_27_s _ _ _ n _ _ _).symm.trans hf
    refine lv_iload_n hx hb dX11_least_27 rfl (lv_at hl 3 rfl) ?_
    refine lv_if_lt (tgt := 63) hx hb dX11_least_28 (by decide) (fun jc1 => ?_) (fun jc1 => ?_)
    · have hf := ite_t jc1 hf
      refine lv_iload_n hx hb dX11_least_63 rfl (lv_at hl 2 rfl) ?_
      obtain ⟨rfl, rfl⟩ := pr2_inv hf
      exact retM hx hb hr hlk hP hD hS dX11_least_64
    · have hf := ite_f jc1 hf
      refine lv_aload_n hx hb dX11_least_31 rfl (lv_at hl 0 rfl) ?_
      refine lv_iload_n hx hb dX11_least_32 rfl (lv_at hl 3 rfl) ?_
      refine lv_iload_n hx hb dX11_least_33 rfl (lv_at hl 1 rfl) ?_
      obtain ⟨jr2, je3, hf⟩ := bd1_inv hf
      refine callRV (As := [.int jx3, .int jx1]) (rest := []) S (ctX11_isEnoughNow l D cI cZ a_t a_t_text a_t_draft a_t_s a_t_undos a_t_kept a_t_isKept a_t_seenWay a_t_seenIs a_t_sums a_t_parts a_t_heaps jx3 jx1 v_t_copies v_t_s v_t_thrown v_t_typed v_t_spot v_t_token v_t_place v_t_value v_t_fault v_t_draftCopies v_t_undoMany v_t_seenMany v_t_asked jr2 je3) (cwV 2 hts gX11_least_X11_isEnoughNow rfl rfl rfl ⟨rfl, hdX11_isEnoughNow⟩ ⟨Nat.le_of_ble_eq_true rfl, Nat.le_of_ble_eq_true rfl⟩) hP [0, 1] rfl KX.xs (fun U _ hW => hK.warm hW) (va_recv hK.1 hP (ci := 11) (q0 := 0) rfl rfl) rfl hl.1 rfl (Nat.le_of_ble_eq_true rfl) dX11_least_34 ⟨Nat.zero_le _, Nat.zero_le _⟩ ?_
      refine lv_if_eq (tgt := 55) hx hb dX11_least_37 (by decide) (fun jc4 => ?_) (fun jc4 => ?_)
      · have hf := ite_t jc4 hf
        refine lv_iload_n hx hb dX11_least_55 rfl (lv_at hl 2 rfl) ?_
        refine lv_istore_n (lv' := [(2, .int jx2), (0, .ref a_t), (1, .int jx1), (3, .int jx3)]) hx hb dX11_least_56 rfl hl (by decide) rfl (fun ls hl => ?_)
        refine lv_iinc (v := (jx3 + (-1 : Int32))) (lv' := [(3, .int (jx3 + (-1 : Int32))), (2, .int jx2), (0, .ref a_t), (1, .int jx1)]) hx hb dX11_least_57 hl (k := 3) rfl rfl (by decide) rfl (fun ls hl => ?_)
        refine lv_goto (tgt := 27) hx hb dX11_least_60 (by decide) ?_
        exact ih jx2 (jx3 + (-1 : Int32)) v_t_thrown ls _ _ hf (lv_sub hl [2, 3, 1, 0] rfl) hP hD hS
      · have hf := ite_f jc4 hf
        refine lv_iload_n hx hb dX11_least_40 rfl (lv_at hl 3 rfl) ?_
        obtain ⟨jr5, je6, hf⟩ := bd1_inv hf
        refine callRS (As := [.int jx3]) (rest := []) S (ctX11_ones l D cI cZ jx3 jr5 je6) (va_cwS 1 hts gX11_least_X11_ones rfl rfl rfl hdX11_ones ⟨Nat.le_of_ble_eq_true rfl, Nat.le_of_ble_eq_true rfl⟩) hP [] rfl KX.xs (fun U _ hW => hK.warm hW) rfl hl.1 rfl (Nat.le_of_ble_eq_true rfl) dX11_least_41 ⟨Nat.zero_le _, Nat.zero_le _⟩ ?_
        refine lv_iload_n hx hb dX11_least_44 rfl (lv_at hl 2 rfl) ?_
        obtain ⟨jr7, je8, hf⟩ := bd1_inv hf
        refine callRS (As := [.int jx2]) (rest := [.int jr5]) S (ctX11_ones l D cI cZ jx2 jr7 je8) (va_cwS 1 hts gX11_least_X11_ones rfl rfl rfl hdX11_ones ⟨Nat.le_of_ble_eq_true rfl, Nat.le_of_ble_eq_true rfl⟩) hP [] rfl KX.xs (fun U _ hW => hK.warm hW) rfl hl.1 rfl (Nat.le_of_ble_eq_true rfl) dX11_least_45 ⟨Nat.zero_le _, Nat.zero_le _⟩ ?_
        refine lv_icmp_gt (tgt := 55) hx hb dX11_least_48 (by decide) (fun jc9 => ?_) (fun jc9 => ?_)
        · have hf := ite_t jc9 hf
          refine lv_iload_n hx hb dX11_least_55 rfl (lv_at hl 2 rfl) ?_
          refine lv_istore_n (lv' := [(2, .int jx2), (0, .ref a_t), (1, .int jx1), (3, .int jx3)]) hx hb dX11_least_56 rfl hl (by decide) rfl (fun ls hl => ?_)
          refine lv_iinc (v := (jx3 + (-1 : Int32))) (lv' := [(3, .int (jx3 + (-1 : Int32))), (2, .int jx2), (0, .ref a_t), (1, .int jx1)]) hx hb dX11_least_57 hl (k := 3) rfl rfl (by decide) rfl (fun ls hl => ?_)
          refine lv_goto (tgt := 27) hx hb dX11_least_60 (by decide) ?_
          exact ih jx2 (jx3 + (-1 : Int32)) v_t_thrown ls _ _ hf (lv_sub hl [2, 3, 1, 0] rfl) hP hD hS
        · have hf := ite_f jc9 hf
          refine lv_iload_n hx hb dX11_least_51 rfl (lv_at hl 3 rfl) ?_
          refine lv_goto (tgt := 56) hx hb dX11_least_52 (by decide) ?_
          refine lv_istore_n (lv' := [(2, .int jx3), (0, .ref a_t), (1, .int jx1), (3, .int jx3)]) hx hb dX11_least_56 rfl hl (by decide) rfl (fun ls hl => ?_)
          refine lv_iinc (v := (jx3 + (-1 : Int32))) (lv' := [(3, .int (jx3 + (-1 : Int32))), (2, .int jx3), (0, .ref a_t), (1, .int jx1)]) hx hb dX11_least_57 hl (k := 3) rfl rfl (by decide) rfl (fun ls hl => ?_)
          refine lv_goto (tgt := 27) hx hb dX11_least_60 (by decide) ?_
          exact ih jx3 (jx3 + (-1 : Int32)) v_t_thrown ls _ _ hf (lv_sub hl [2, 3, 1, 0] rfl) hP hD hS
theorem hdX11_least : yX11_least.cls ≠ "java/lang/invoke/MethodHandle" ∧ yX11_least.cls ≠ "java/lang/invoke/VarHandle" ∧ (parseMethodDescriptor yX11_least.desc).map (fun d => d.parameters.length) = some 1 := by decide +kernel
set_option maxHeartbeats 4000000 in
set_option maxRecDepth 100000 in
theorem ctX11_least (l : Launch) (D : va_G) (cI cZ : ClassId) (a_t a_t_text a_t_draft a_t_s a_t_undos a_t_kept a_t_isKept a_t_seenWay a_t_seenIs a_t_sums a_t_parts a_t_heaps : Nat) (jx1 : Int32) (v_t_thrown : Int32) (v_t_copies : Int32) (v_t_s : (Nat → Int32)) (v_t_typed : Int32) (v_t_spot : Int32) (v_t_token : Int32) (v_t_place : Int32) (v_t_value : Int32) (v_t_fault : Int32) (v_t_draftCopies : Int32) (v_t_undoMany : Int32) (v_t_seenMany : Int32) (v_t_asked : Int32) (r : Int32) (o_t_thrown : Int32) (hf : fX11_least jx1 v_t_thrown v_t_copies v_t_s = some (r, o_t_thrown)) : cM l yX11_least wsX11_least rmX11_least [.ref a_t, .int jx1] D [(a_t, .inr (11, [.int v_t_thrown, .ref a_t_text, .int v_t_typed, .int v_t_spot, .int v_t_token, .int v_t_place, .int v_t_value, .int v_t_fault, .int v_t_copies, .int v_t_draftCopies, .ref a_t_draft, .ref a_t_s, .ref a_t_undos, .int v_t_undoMany, .ref a_t_kept, .ref a_t_isKept, .ref a_t_seenWay, .ref a_t_seenIs, .int v_t_seenMany, .int v_t_asked, .ref a_t_sums, .ref a_t_parts, .ref a_t_heaps])), (a_t_s, .inl (cI, 103, .inl v_t_s))] [(a_t, .inr (11, [.int o_t_thrown, .ref a_t_text, .int v_t_typed, .int v_t_spot, .int v_t_token, .int v_t_place, .int v_t_value, .int v_t_fault, .int v_t_copies, .int v_t_draftCopies, .ref a_t_draft, .ref a_t_s, .ref a_t_undos, .int v_t_undoMany, .ref a_t_kept, .ref a_t_isKept, .ref a_t_seenWay, .ref a_t_seenIs, .int v_t_seenMany, .int v_t_asked, .ref a_t_sums, .ref a_t_parts, .ref a_t_heaps])), (a_t_s, .inl (cI, 103, .inl v_t_s))] (KX D cI cZ) (some (.int r)) := by
  refine cM_of (cc := cX11_least) (maxL := 4) (ret := some .int) (by decide +kernel) rfl _ (Nat.le_of_ble_eq_true rfl) ?_
  intro p e s m below meth c ls A S hr hlk hP hK hl hD hA hS
  obtain ⟨hx, hb, hml, hown, hts⟩ := id S
  have hl : lv_has ls 4 [(0, .ref a_t), (1, .int jx1)] := hl
  unfold fX11_least at hf
  refine lv_aload_n hx hb dX11_least_0 rfl (lv_at hl 0 rfl) ?_
  refine lv_iconst (v := 0) hx hb dX11_least_1 (by decide) ?_
  refine va_put (D := D) (ci := 11) (v := .int (0 : Int32)) (ty := .int) (C := RX11) (T := TX11) (N := 23) hx hb hts iX11_least_X11 tyX11 tyX11_ok nmX11 hown hK.1 hP hD hS 0 rfl rfl 0 (by decide) (hts _ mX11_least_1) (fun _ h9 => h9) rfl (tyX11_ok 0 (by decide)) rfl rfl (Nat.le_of_ble_eq_true rfl) dX11_least_2 (fun H locs hP hD hS => ?_)
  have hP : va_P D vwCl [(a_t, .inr (11, [.int (0 : Int32), .ref a_t_text, .int v_t_typed, .int v_t_spot, .int v_t_token, .int v_t_place, .int v_t_value, .int v_t_fault, .int v_t_copies, .int v_t_draftCopies, .ref a_t_draft, .ref a_t_s, .ref a_t_undos, .int v_t_undoMany, .ref a_t_kept, .ref a_t_isKept, .ref a_t_seenWay, .ref a_t_seenIs, .int v_t_seenMany, .int v_t_asked, .ref a_t_sums, .ref a_t_parts, .ref a_t_heaps])), (a_t_s, .inl (cI, 103, .inl v_t_s))] H := hP
  have hD : va_D A [(a_t, .inr (11, [.int (0 : Int32), .ref a_t_text, .int v_t_typed, .int v_t_spot, .int v_t_token, .int v_t_place, .int v_t_value, .int v_t_fault, .int v_t_copies, .int v_t_draftCopies, .ref a_t_draft, .ref a_t_s, .ref a_t_undos, .int v_t_undoMany, .ref a_t_kept, .ref a_t_isKept, .ref a_t_seenWay, .ref a_t_seenIs, .int v_t_seenMany, .int v_t_asked, .ref a_t_sums, .ref a_t_parts, .ref a_t_heaps])), (a_t_s, .inl (cI, 103, .inl v_t_s))] := hD
  refine lv_iload_n hx hb dX11_least_5 rfl (lv_at hl 1 rfl) ?_
  refine lv_iconst (v := 0) hx hb dX11_least_6 (by decide) ?_
  refine lv_iconst (v := 1) hx hb dX11_least_7 (by decide) ?_
  obtain ⟨jr1, je2, hf⟩ := bd1_inv hf
  refine callRS (As := [.int jx1, .int (0 : Int32), .int (1 : Int32)]) (rest := []) S (ctX11_in l D cI cZ jx1 (0 : Int32) (1 : Int32) jr1 je2) (va_cwS 3 hts gX11_least_X11_in rfl rfl rfl hdX11_in ⟨Nat.le_of_ble_eq_true rfl, Nat.le_of_ble_eq_true rfl⟩) hP [] rfl KX.xs (fun U _ hW => hK.warm hW) rfl hl.1 rfl (Nat.le_of_ble_eq_true rfl) dX11_least_8 ⟨Nat.zero_le _, Nat.zero_le _⟩ ?_
  refine lv_if_ne (tgt := 16) hx hb dX11_least_11 (by decide) (fun jc3 => ?_) (fun jc3 => ?_)
  · have hf := ite_f jc3 hf
    refine lv_iconst (v := 1) hx hb dX11_least_16 (by decide) ?_
    refine lv_aload_n hx hb dX11_least_17 rfl (lv_at hl 0 rfl) ?_
    refine va_get (D := D) (ci := 11) (v := .int v_t_copies) (C := RX11) (T := TX11) (N := 23) hx hb hts iX11_least_X11 hown hK.1 hP 0 rfl rfl 8 (by decide) (hts _ mX11_least_2) (fun _ h9 => h9) rfl dX11_least_18 ?_
    refine lv_ishl hx hb dX11_least_21 ?_
    refine lv_iconst (v := 1) hx hb dX11_least_22 (by decide) ?_
    refine lv_isub hx hb dX11_least_23 ?_
    refine lv_istore_n (lv' := [(2, .int (((1 : Int32) <<< (v_t_copies &&& 31)) - (1 : Int32))), (0, .ref a_t), (1, .int jx1)]) hx hb dX11_least_24 rfl hl (by decide) rfl (fun ls hl => ?_)
    refine lv_iload_n hx hb dX11_least_25 rfl (lv_at hl 0 rfl) ?_
    refine lv_istore_n (lv' := [(3, .int (((1 : Int32) <<< (v_t_copies &&& 31)) - (1 : Int32))), (2, .int (((1 : Int32) <<< (v_t_copies &&& 31)) - (1 : Int32))), (0, .ref a_t), (1, .int jx1)]) hx hb dX11_least_26 rfl hl (by decide) rfl (fun ls hl => ?_)
    exact wX11_least_27 S hr hlk hK hA fuel (((1 : Int32) <<< (v_t_copies &&& 31)) - (1 : Int32)) (((1 : Int32) <<< (v_t_copies &&& 31)) - (1 : Int32)) (0 : Int32) ls _ _ hf (lv_sub hl [2, 3, 1, 0] rfl) hP hD hS
  · have hf := ite_t jc3 hf
    refine lv_iconst (v := -1) hx hb dX11_least_14 (by decide) ?_
    obtain ⟨rfl, rfl⟩ := pr2_inv hf
    exact retM hx hb hr hlk hP hD hS dX11_least_15
def fX11_sumsBy_124 (v_t_copies : Int32) (v_t_parts : (Nat → Int32)) : Nat → Int32 → (Nat → Int32) → (Nat → Int32) → Option (Int32 × (Nat → Int32) × (Nat → Int32))
  | 0, _, _, _ => none
  | n + 1, jx2, v_t_sums, v_t_heaps => if jx2 < 0 then ckI 64 (((1 : Int32) <<< (v_t_copies &&& 31)) - (1 : Int32)) (some ((v_t_heaps (Int32.toNatClampNeg (((1 : Int32) <<< (v_t_copies &&& 31)) - (1 : Int32)))), v_t_sums, v_t_heaps)) else ckI 20 jx2 (ckI 20 (jx2 + (1 : Int32)) (ckI 20 jx2 ((fX11_sumsBy_124 v_t_copies v_t_parts n) (jx2 + (-1 : Int32)) (upd v_t_sums (Int32.toNatClampNeg jx2) ((v_t_sums (Int32.toNatClampNeg jx2)) + (v_t_sums (Int32.toNatClampNeg (jx2 + (1 : Int32)))))) v_t_heaps)))
theorem fX11_sumsBy_124_s (v_t_copies : Int32) (v_t_parts : (Nat → Int32)) (n : Nat) (jx2 : Int32) (v_t_sums : (Nat → Int32)) (v_t_heaps : (Nat → Int32)) : fX11_sumsBy_124 v_t_copies v_t_parts (n + 1) jx2 v_t_sums v_t_heaps = if jx2 < 0 then ckI 64 (((1 : Int32) <<< (v_t_copies &&& 31)) - (1 : Int32)) (some ((v_t_heaps (Int32.toNatClampNeg (((1 : Int32) <<< (v_t_copies &&& 31)) - (1 : Int32)))), v_t_sums, v_t_heaps)) else ckI 20 jx2 (ckI 20 (jx2 + (1 : Int32)) (ckI 20 jx2 ((fX11_sumsBy_124 v_t_copies v_t_parts n) (jx2 + (-1 : Int32)) (upd v_t_sums (Int32.toNatClampNeg jx2) ((v_t_sums (Int32.toNatClampNeg jx2)) + (v_t_sums (Int32.toNatClampNeg (jx2 + (1 : Int32)))))) v_t_heaps))) := rfl
def fX11_sumsBy_85 (v_t_copies : Int32) (v_t_parts : (Nat → Int32)) : Nat → Int32 → (Nat → Int32) → (Nat → Int32) → Option (Int32 × (Nat → Int32) × (Nat → Int32))
  | 0, _, _, _ => none
  | n + 1, jx2, v_t_sums, v_t_heaps => if ((1 : Int32) <<< (v_t_copies &&& 31)) ≤ jx2 then fX11_sumsBy_124 v_t_copies v_t_parts fuel (18 : Int32) v_t_sums v_t_heaps else ckI 64 jx2 (ckI 20 (v_t_heaps (Int32.toNatClampNeg jx2)) (ckI 64 jx2 (ckI 20 (v_t_heaps (Int32.toNatClampNeg jx2)) ((fX11_sumsBy_85 v_t_copies v_t_parts n) (jx2 + (1 : Int32)) (upd v_t_sums (Int32.toNatClampNeg (v_t_heaps (Int32.toNatClampNeg jx2))) ((v_t_sums (Int32.toNatClampNeg (v_t_heaps (Int32.toNatClampNeg jx2)))) + (v_t_parts (Int32.toNatClampNeg jx2)))) v_t_heaps))))
theorem fX11_sumsBy_85_s (v_t_copies : Int32) (v_t_parts : (Nat → Int32)) (n : Nat) (jx2 : Int32) (v_t_sums : (Nat → Int32)) (v_t_heaps : (Nat → Int32)) : fX11_sumsBy_85 v_t_copies v_t_parts (n + 1) jx2 v_t_sums v_t_heaps = if ((1 : Int32) <<< (v_t_copies &&& 31)) ≤ jx2 then fX11_sumsBy_124 v_t_copies v_t_parts fuel (18 : Int32) v_t_sums v_t_heaps else ckI 64 jx2 (ckI 20 (v_t_heaps (Int32.toNatClampNeg jx2)) (ckI 64 jx2 (ckI 20 (v_t_heaps (Int32.toNatClampNeg jx2)) ((fX11_sumsBy_85 v_t_copies v_t_parts n) (jx2 + (1 : Int32)) (upd v_t_sums (Int32.toNatClampNeg (v_t_heaps (Int32.toNatClampNeg jx2))) ((v_t_sums (Int32.toNatClampNeg (v_t_heaps (Int32.toNatClampNeg jx2)))) + (v_t_parts (Int32.toNatClampNeg jx2)))) v_t_heaps)))) := rfl
def fX11_sumsBy_40 (jk30 : Int32 → (Nat → Int32) → (Nat → Int32) → Option (Int32 × (Nat → Int32) × (Nat → Int32))) (jx1 : Int32) (jx2 : Int32) (v_t_copies : Int32) (v_t_parts : (Nat → Int32)) : Nat → Int32 → (Nat → Int32) → (Nat → Int32) → Option (Int32 × (Nat → Int32) × (Nat → Int32))
  | 0, _, _, _ => none
  | n + 1, jx3, v_t_sums, v_t_heaps => if ((1 : Int32) <<< (jx2 &&& 31)) ≤ jx3 then jk30 (jx2 + (1 : Int32)) v_t_sums v_t_heaps else ckI 64 jx3 (ckI 64 (jx3 ||| ((1 : Int32) <<< (jx2 &&& 31))) ((fX11_sumsBy_40 jk30 jx1 jx2 v_t_copies v_t_parts n) (jx3 + (1 : Int32)) v_t_sums (upd v_t_heaps (Int32.toNatClampNeg (jx3 ||| ((1 : Int32) <<< (jx2 &&& 31)))) ((v_t_heaps (Int32.toNatClampNeg jx3)) + ((jx1 >>> (((2 : Int32) * jx2) &&& 31)) &&& (3 : Int32))))))
theorem fX11_sumsBy_40_s (jk30 : Int32 → (Nat → Int32) → (Nat → Int32) → Option (Int32 × (Nat → Int32) × (Nat → Int32))) (jx1 : Int32) (jx2 : Int32) (v_t_copies : Int32) (v_t_parts : (Nat → Int32)) (n : Nat) (jx3 : Int32) (v_t_sums : (Nat → Int32)) (v_t_heaps : (Nat → Int32)) : fX11_sumsBy_40 jk30 jx1 jx2 v_t_copies v_t_parts (n + 1) jx3 v_t_sums v_t_heaps = if ((1 : Int32) <<< (jx2 &&& 31)) ≤ jx3 then jk30 (jx2 + (1 : Int32)) v_t_sums v_t_heaps else ckI 64 jx3 (ckI 64 (jx3 ||| ((1 : Int32) <<< (jx2 &&& 31))) ((fX11_sumsBy_40 jk30 jx1 jx2 v_t_copies v_t_parts n) (jx3 + (1 : Int32)) v_t_sums (upd v_t_heaps (Int32.toNatClampNeg (jx3 ||| ((1 : Int32) <<< (jx2 &&& 31)))) ((v_t_heaps (Int32.toNatClampNeg jx3)) + ((jx1 >>> (((2 : Int32) * jx2) &&& 31)) &&& (3 : Int32)))))) := rfl
def fX11_sumsBy_30 (jx1 : Int32) (v_t_copies : Int32) (v_t_parts : (Nat → Int32)) : Nat → Int32 → (Nat → Int32) → (Nat → Int32) → Option (Int32 × (Nat → Int32) × (Nat → Int32))
  | 0, _, _, _ => none
  | n + 1, jx2, v_t_sums, v_t_heaps => if v_t_copies ≤ jx2 then fX11_sumsBy_85 v_t_copies v_t_parts fuel (0 : Int32) v_t_sums v_t_heaps else fX11_sumsBy_40 (fX11_sumsBy_30 jx1 v_t_copies v_t_parts n) jx1 jx2 v_t_copies v_t_parts fuel (0 : Int32) v_t_sums v_t_heaps
theorem fX11_sumsBy_30_s (jx1 : Int32) (v_t_copies : Int32) (v_t_parts : (Nat → Int32)) (n : Nat) (jx2 : Int32) (v_t_sums : (Nat → Int32)) (v_t_heaps : (Nat → Int32)) : fX11_sumsBy_30 jx1 v_t_copies v_t_parts (n + 1) jx2 v_t_sums v_t_heaps = if v_t_copies ≤ jx2 then fX11_sumsBy_85 v_t_copies v_t_parts fuel (0 : Int32) v_t_sums v_t_heaps else fX11_sumsBy_40 (fX11_sumsBy_30 jx1 v_t_copies v_t_parts n) jx1 jx2 v_t_copies v_t_parts fuel (0 : Int32) v_t_sums v_t_heaps := rfl
def fX11_sumsBy_2 (jx1 : Int32) (v_t_copies : Int32) (v_t_parts : (Nat → Int32)) : Nat → Int32 → (Nat → Int32) → (Nat → Int32) → Option (Int32 × (Nat → Int32) × (Nat → Int32))
  | 0, _, _, _ => none
  | n + 1, jx2, v_t_sums, v_t_heaps => if (20 : Int32) ≤ jx2 then ckI 64 (0 : Int32) (fX11_sumsBy_30 jx1 v_t_copies v_t_parts fuel (0 : Int32) v_t_sums (upd v_t_heaps (Int32.toNatClampNeg (0 : Int32)) (0 : Int32))) else ckI 20 jx2 ((fX11_sumsBy_2 jx1 v_t_copies v_t_parts n) (jx2 + (1 : Int32)) (upd v_t_sums (Int32.toNatClampNeg jx2) (0 : Int32)) v_t_heaps)
theorem fX11_sumsBy_2_s (jx1 : Int32) (v_t_copies : Int32) (v_t_parts : (Nat → Int32)) (n : Nat) (jx2 : Int32) (v_t_sums : (Nat → Int32)) (v_t_heaps : (Nat → Int32)) : fX11_sumsBy_2 jx1 v_t_copies v_t_parts (n + 1) jx2 v_t_sums v_t_heaps = if (20 : Int32) ≤ jx2 then ckI 64 (0 : Int32) (fX11_sumsBy_30 jx1 v_t_copies v_t_parts fuel (0 : Int32) v_t_sums (upd v_t_heaps (Int32.toNatClampNeg (0 : Int32)) (0 : Int32))) else ckI 20 jx2 ((fX11_sumsBy_2 jx1 v_t_copies v_t_parts n) (jx2 + (1 : Int32)) (upd v_t_sums (Int32.toNatClampNeg jx2) (0 : Int32)) v_t_heaps) := rfl
def fX11_sumsBy (jx1 : Int32) (v_t_copies : Int32) (v_t_sums : (Nat → Int32)) (v_t_parts : (Nat → Int32)) (v_t_heaps : (Nat → Int32)) : Option (Int32 × (Nat → Int32) × (Nat → Int32)) := fX11_sumsBy_2 jx1 v_t_copies v_t_parts fuel (0 : Int32) v_t_sums v_t_heaps
abbrev rmX11_sumsBy : Room := { frames := 0, cells := 0, slots := 0, locals := 0 }
theorem iX11_sumsBy_X11 : ∀ w ∈ wsX110, w ∈ wsX11_sumsBy := fun _ h => List.mem_cons_of_mem _ (List.mem_append_right _ h)
theorem mX11_sumsBy_2 : (Cond.fieldLink RX11 41 "VoteFilesModel" "heaps" "[I") ∈ wsX11_sumsBy := List.mem_of_getElem? (i := 2) rfl
theorem mX11_sumsBy_3 : (Cond.fieldLink RX11 119 "VoteFilesModel" "copies" "I") ∈ wsX11_sumsBy := List.mem_of_getElem? (i := 3) rfl
theorem mX11_sumsBy_1 : (Cond.fieldLink RX11 35 "VoteFilesModel" "sums" "[I") ∈ wsX11_sumsBy := List.mem_of_getElem? (i := 1) rfl
theorem mX11_sumsBy_4 : (Cond.fieldLink RX11 38 "VoteFilesModel" "parts" "[I") ∈ wsX11_sumsBy := List.mem_of_getElem? (i := 4) rfl
set_option maxHeartbeats 4000000 in
set_option maxRecDepth 100000 in
theorem wX11_sumsBy_124 {p : Program} {l : Launch} {e : Env} {s : State} {m : MethodId} {args : Array Value} {below : List Frame} {meth : Method} {c : Code} {D : va_G} {cI cZ : ClassId} (S : CallFix p m c cX11_sumsBy 4 s args wsX11_sumsBy RX11) (hr : meth.sig.returnType = some .int) (hlk : meth.locks = false) (hK : KX D cI cZ s) {a_t a_t_text a_t_draft a_t_s a_t_undos a_t_kept a_t_isKept a_t_seenWay a_t_seenIs a_t_sums a_t_parts a_t_heaps : Nat} {v_t_copies : Int32} {v_t_parts : (Nat → Int32)} {v_t_thrown : Int32} {v_t_typed : Int32} {v_t_spot : Int32} {v_t_token : Int32} {v_t_place : Int32} {v_t_value : Int32} {v_t_fault : Int32} {v_t_draftCopies : Int32} {v_t_undoMany : Int32} {v_t_seenMany : Int32} {v_t_asked : Int32} {r : Int32} {o_t_sums : (Nat → Int32)} {o_t_heaps : (Nat → Int32)} {A : Nat → Prop} (hA : ∀ q : Nat, s.heap.size ≤ q → A q) : ∀ (n : Nat), ∀ (jx2 : Int32) (v_t_sums : (Nat → Int32)) (v_t_heaps : (Nat → Int32)) (ls : Array Slot) (H : Heap) (locs : List Loc), fX11_sumsBy_124 v_t_copies v_t_parts n jx2 v_t_sums v_t_heaps = some (r, o_t_sums, o_t_heaps) → lv_has ls 4 [(0, .ref a_t), (2, .int jx2)] → va_P D vwCl [(a_t, .inr (11, [.int v_t_thrown, .ref a_t_text, .int v_t_typed, .int v_t_spot, .int v_t_token, .int v_t_place, .int v_t_value, .int v_t_fault, .int v_t_copies, .int v_t_draftCopies, .ref a_t_draft, .ref a_t_s, .ref a_t_undos, .int v_t_undoMany, .ref a_t_kept, .ref a_t_isKept, .ref a_t_seenWay, .ref a_t_seenIs, .int v_t_seenMany, .int v_t_asked, .ref a_t_sums, .ref a_t_parts, .ref a_t_heaps])), (a_t_sums, .inl (cI, 20, .inl v_t_sums)), (a_t_parts, .inl (cI, 64, .inl v_t_parts)), (a_t_heaps, .inl (cI, 64, .inl v_t_heaps))] H → va_D A [(a_t, .inr (11, [.int v_t_thrown, .ref a_t_text, .int v_t_typed, .int v_t_spot, .int v_t_token, .int v_t_place, .int v_t_value, .int v_t_fault, .int v_t_copies, .int v_t_draftCopies, .ref a_t_draft, .ref a_t_s, .ref a_t_undos, .int v_t_undoMany, .ref a_t_kept, .ref a_t_isKept, .ref a_t_seenWay, .ref a_t_seenIs, .int v_t_seenMany, .int v_t_asked, .ref a_t_sums, .ref a_t_parts, .ref a_t_heaps])), (a_t_sums, .inl (cI, 20, .inl v_t_sums)), (a_t_parts, .inl (cI, 64, .inl v_t_parts)), (a_t_heaps, .inl (cI, 64, .inl v_t_heaps))] → va_S A s.heap H locs → W p l e rmX11_sumsBy s m args below meth c H locs 0 0 (MQ below (qM D (some (.int r)) [(a_t, .inr (11, [.int v_t_thrown, .ref a_t_text, .int v_t_typed, .int v_t_spot, .int v_t_token, .int v_t_place, .int v_t_value, .int v_t_fault, .int v_t_copies, .int v_t_draftCopies, .ref a_t_draft, .ref a_t_s, .ref a_t_undos, .int v_t_undoMany, .ref a_t_kept, .ref a_t_isKept, .ref a_t_seenWay, .ref a_t_seenIs, .int v_t_seenMany, .int v_t_asked, .ref a_t_sums, .ref a_t_parts, .ref a_t_heaps])), (a_t_sums, .inl (cI, 20, .inl o_t_sums)), (a_t_parts, .inl (cI, 64, .inl v_t_parts)), (a_t_heaps, .inl (cI, 64, .inl o_t_heaps))] A) args s 0 0 A) (F0 m 124 ls []) := by
  obtain ⟨hx, hb, hml, hown, hts⟩ := id S
  intro n
  induction n with
  | zero =>
    intro jx2 v_t_sums v_t_heaps ls H locs hf hl hP hD hS
    cases (show (none : Option _) = some _ from hf)
  | succ n ih =>
    intro jx2 v_t_sums v_t_heaps ls H locs hf hl hP hD hS
    have hf := (fX11_sumsBy_124_s _ _ n _ _ _).symm.trans hf
    refine lv_iload_n hx hb dX11_sumsBy_124 rfl (lv_at hl 1 rfl) ?_
    refine lv_if_lt (tgt := 151) hx hb dX11_sumsBy_125 (by decide) (fun jc1 => ?_) (fun jc1 => ?_)
    · have hf := ite_t jc1 hf
      refine lv_aload_n hx hb dX11_sumsBy_151 rfl (lv_at hl 0 rfl) ?_
      refine va_get (D := D) (ci := 11) (v := .ref a_t_heaps) (C := RX11) (T := TX11) (N := 23) hx hb hts iX11_sumsBy_X11 hown hK.1 hP 0 rfl rfl 22 (by decide) (hts _ mX11_sumsBy_2) (fun _ h9 => h9) rfl dX11_sumsBy_152 ?_
      refine lv_iconst (v := 1) hx hb dX11_sumsBy_155 (by decide) ?_
      refine lv_aload_n hx hb dX11_sumsBy_156 rfl (lv_at hl 0 rfl) ?_
      refine va_get (D := D) (ci := 11) (v := .int v_t_copies) (C := RX11) (T := TX11) (N := 23) hx hb hts iX11_sumsBy_X11 hown hK.1 hP 0 rfl rfl 8 (by decide) (hts _ mX11_sumsBy_3) (fun _ h9 => h9) rfl dX11_sumsBy_157 ?_
      refine lv_ishl hx hb dX11_sumsBy_160 ?_
      refine lv_iconst (v := 1) hx hb dX11_sumsBy_161 (by decide) ?_
      refine lv_isub hx hb dX11_sumsBy_162 ?_
      obtain ⟨jh2, hf⟩ := ckI_inv hf
      refine va_iald hx hb hK.1 hP 3 0 rfl rfl jh2 dX11_sumsBy_163 ?_
      obtain ⟨rfl, rfl, rfl⟩ := pr3_inv hf
      exact retM hx hb hr hlk hP hD hS dX11_sumsBy_164
    · have hf := ite_f jc1 hf
      refine lv_aload_n hx hb dX11_sumsBy_128 rfl (lv_at hl 0 rfl) ?_
      refine va_get (D := D) (ci := 11) (v := .ref a_t_sums) (C := RX11) (T := TX11) (N := 23) hx hb hts iX11_sumsBy_X11 hown hK.1 hP 0 rfl rfl 20 (by decide) (hts _ mX11_sumsBy_1) (fun _ h9 => h9) rfl dX11_sumsBy_129 ?_
      refine lv_iload_n hx hb dX11_sumsBy_132 rfl (lv_at hl 1 rfl) ?_
      refine lv_dup2_11 hx hb dX11_sumsBy_133 rfl rfl ?_
      obtain ⟨jh3, hf⟩ := ckI_inv hf
      refine va_iald hx hb hK.1 hP 1 0 rfl rfl jh3 dX11_sumsBy_134 ?_
      refine lv_aload_n hx hb dX11_sumsBy_135 rfl (lv_at hl 0 rfl) ?_
      refine va_get (D := D) (ci := 11) (v := .ref a_t_sums) (C := RX11) (T := TX11) (N := 23) hx hb hts iX11_sumsBy_X11 hown hK.1 hP 0 rfl rfl 20 (by decide) (hts _ mX11_sumsBy_1) (fun _ h9 => h9) rfl dX11_sumsBy_136 ?_
      refine lv_iload_n hx hb dX11_sumsBy_139 rfl (lv_at hl 1 rfl) ?_
      refine lv_iconst (v := 1) hx hb dX11_sumsBy_140 (by decide) ?_
      refine lv_iadd hx hb dX11_sumsBy_141 ?_
      obtain ⟨jh4, hf⟩ := ckI_inv hf
      refine va_iald hx hb hK.1 hP 1 0 rfl rfl jh4 dX11_sumsBy_142 ?_
      refine lv_iadd hx hb dX11_sumsBy_143 ?_
      obtain ⟨jh5, hf⟩ := ckI_inv hf
      refine va_iast hx hb hK.1 hP hD hS 1 0 rfl rfl jh5 dX11_sumsBy_144 (fun H locs hP hD hS => ?_)
      have hP : va_P D vwCl [(a_t, .inr (11, [.int v_t_thrown, .ref a_t_text, .int v_t_typed, .int v_t_spot, .int v_t_token, .int v_t_place, .int v_t_value, .int v_t_fault, .int v_t_copies, .int v_t_draftCopies, .ref a_t_draft, .ref a_t_s, .ref a_t_undos, .int v_t_undoMany, .ref a_t_kept, .ref a_t_isKept, .ref a_t_seenWay, .ref a_t_seenIs, .int v_t_seenMany, .int v_t_asked, .ref a_t_sums, .ref a_t_parts, .ref a_t_heaps])), (a_t_sums, .inl (cI, 20, .inl (upd v_t_sums (Int32.toNatClampNeg jx2) ((v_t_sums (Int32.toNatClampNeg jx2)) + (v_t_sums (Int32.toNatClampNeg (jx2 + (1 : Int32)))))))), (a_t_parts, .inl (cI, 64, .inl v_t_parts)), (a_t_heaps, .inl (cI, 64, .inl v_t_heaps))] H := hP
      have hD : va_D A [(a_t, .inr (11, [.int v_t_thrown, .ref a_t_text, .int v_t_typed, .int v_t_spot, .int v_t_token, .int v_t_place, .int v_t_value, .int v_t_fault, .int v_t_copies, .int v_t_draftCopies, .ref a_t_draft, .ref a_t_s, .ref a_t_undos, .int v_t_undoMany, .ref a_t_kept, .ref a_t_isKept, .ref a_t_seenWay, .ref a_t_seenIs, .int v_t_seenMany, .int v_t_asked, .ref a_t_sums, .ref a_t_parts, .ref a_t_heaps])), (a_t_sums, .inl (cI, 20, .inl (upd v_t_sums (Int32.toNatClampNeg jx2) ((v_t_sums (Int32.toNatClampNeg jx2)) + (v_t_sums (Int32.toNatClampNeg (jx2 + (1 : Int32)))))))), (a_t_parts, .inl (cI, 64, .inl v_t_parts)), (a_t_heaps, .inl (cI, 64, .inl v_t_heaps))] := hD
      refine lv_iinc (v := (jx2 + (-1 : Int32))) (lv' := [(2, .int (jx2 + (-1 : Int32))), (0, .ref a_t)]) hx hb dX11_sumsBy_145 hl (k := 1) rfl rfl (by decide) rfl (fun ls hl => ?_)
      refine lv_goto (tgt := 124) hx hb dX11_sumsBy_148 (by decide) ?_
      exact ih (jx2 + (-1 : Int32)) (upd v_t_sums (Int32.toNatClampNeg jx2) ((v_t_sums (Int32.toNatClampNeg jx2)) + (v_t_sums (Int32.toNatClampNeg (jx2 + (1 : Int32)))))) v_t_heaps ls _ _ hf (lv_sub hl [1, 0] rfl) hP hD hS
set_option maxHeartbeats 4000000 in
set_option maxRecDepth 100000 in
theorem wX11_sumsBy_85 {p : Program} {l : Launch} {e : Env} {s : State} {m : MethodId} {args : Array Value} {below : List Frame} {meth : Method} {c : Code} {D : va_G} {cI cZ : ClassId} (S : CallFix p m c cX11_sumsBy 4 s args wsX11_sumsBy RX11) (hr : meth.sig.returnType = some .int) (hlk : meth.locks = false) (hK : KX D cI cZ s) {a_t a_t_text a_t_draft a_t_s a_t_undos a_t_kept a_t_isKept a_t_seenWay a_t_seenIs a_t_sums a_t_parts a_t_heaps : Nat} {v_t_copies : Int32} {v_t_parts : (Nat → Int32)} {v_t_thrown : Int32} {v_t_typed : Int32} {v_t_spot : Int32} {v_t_token : Int32} {v_t_place : Int32} {v_t_value : Int32} {v_t_fault : Int32} {v_t_draftCopies : Int32} {v_t_undoMany : Int32} {v_t_seenMany : Int32} {v_t_asked : Int32} {r : Int32} {o_t_sums : (Nat → Int32)} {o_t_heaps : (Nat → Int32)} {A : Nat → Prop} (hA : ∀ q : Nat, s.heap.size ≤ q → A q) : ∀ (n : Nat), ∀ (jx2 : Int32) (v_t_sums : (Nat → Int32)) (v_t_heaps : (Nat → Int32)) (ls : Array Slot) (H : Heap) (locs : List Loc), fX11_sumsBy_85 v_t_copies v_t_parts n jx2 v_t_sums v_t_heaps = some (r, o_t_sums, o_t_heaps) → lv_has ls 4 [(0, .ref a_t), (2, .int jx2)] → va_P D vwCl [(a_t, .inr (11, [.int v_t_thrown, .ref a_t_text, .int v_t_typed, .int v_t_spot, .int v_t_token, .int v_t_place, .int v_t_value, .int v_t_fault, .int v_t_copies, .int v_t_draftCopies, .ref a_t_draft, .ref a_t_s, .ref a_t_undos, .int v_t_undoMany, .ref a_t_kept, .ref a_t_isKept, .ref a_t_seenWay, .ref a_t_seenIs, .int v_t_seenMany, .int v_t_asked, .ref a_t_sums, .ref a_t_parts, .ref a_t_heaps])), (a_t_sums, .inl (cI, 20, .inl v_t_sums)), (a_t_parts, .inl (cI, 64, .inl v_t_parts)), (a_t_heaps, .inl (cI, 64, .inl v_t_heaps))] H → va_D A [(a_t, .inr (11, [.int v_t_thrown, .ref a_t_text, .int v_t_typed, .int v_t_spot, .int v_t_token, .int v_t_place, .int v_t_value, .int v_t_fault, .int v_t_copies, .int v_t_draftCopies, .ref a_t_draft, .ref a_t_s, .ref a_t_undos, .int v_t_undoMany, .ref a_t_kept, .ref a_t_isKept, .ref a_t_seenWay, .ref a_t_seenIs, .int v_t_seenMany, .int v_t_asked, .ref a_t_sums, .ref a_t_parts, .ref a_t_heaps])), (a_t_sums, .inl (cI, 20, .inl v_t_sums)), (a_t_parts, .inl (cI, 64, .inl v_t_parts)), (a_t_heaps, .inl (cI, 64, .inl v_t_heaps))] → va_S A s.heap H locs → W p l e rmX11_sumsBy s m args below meth c H locs 0 0 (MQ below (qM D (some (.int r)) [(a_t, .inr (11, [.int v_t_thrown, .ref a_t_text, .int v_t_typed, .int v_t_spot, .int v_t_token, .int v_t_place, .int v_t_value, .int v_t_fault, .int v_t_copies, .int v_t_draftCopies, .ref a_t_draft, .ref a_t_s, .ref a_t_undos, .int v_t_undoMany, .ref a_t_kept, .ref a_t_isKept, .ref a_t_seenWay, .ref a_t_seenIs, .int v_t_seenMany, .int v_t_asked, .ref a_t_sums, .ref a_t_parts, .ref a_t_heaps])), (a_t_sums, .inl (cI, 20, .inl o_t_sums)), (a_t_parts, .inl (cI, 64, .inl v_t_parts)), (a_t_heaps, .inl (cI, 64, .inl o_t_heaps))] A) args s 0 0 A) (F0 m 85 ls []) := by
  obtain ⟨hx, hb, hml, hown, hts⟩ := id S
  intro n
  induction n with
  | zero =>
    intro jx2 v_t_sums v_t_heaps ls H locs hf hl hP hD hS
    cases (show (none : Option _) = some _ from hf)
  | succ n ih =>
    intro jx2 v_t_sums v_t_heaps ls H locs hf hl hP hD hS
    have hf := (fX11_sumsBy_85_s _ _ n _ _ _).symm.trans hf
    refine lv_iload_n hx hb dX11_sumsBy_85 rfl (lv_at hl 1 rfl) ?_
    refine lv_iconst (v := 1) hx hb dX11_sumsBy_86 (by decide) ?_
    refine lv_aload_n hx hb dX11_sumsBy_87 rfl (lv_at hl 0 rfl) ?_
    refine va_get (D := D) (ci := 11) (v := .int v_t_copies) (C := RX11) (T := TX11) (N := 23) hx hb hts iX11_sumsBy_X11 hown hK.1 hP 0 rfl rfl 8 (by decide) (hts _ mX11_sumsBy_3) (fun _ h9 => h9) rfl dX11_sumsBy_88 ?_
    refine lv_ishl hx hb dX11_sumsBy_91 ?_
    refine lv_icmp_ge (tgt := 121) hx hb dX11_sumsBy_92 (by decide) (fun jc1 => ?_) (fun jc1 => ?_)
    · have hf := ite_t jc1 hf
      refine lv_bipush (v := 18) hx hb dX11_sumsBy_121 (by decide) ?_
      refine lv_istore_n (lv' := [(2, .int (18 : Int32)), (0, .ref a_t)]) hx hb dX11_sumsBy_123 rfl hl (by decide) rfl (fun ls hl => ?_)
      exact wX11_sumsBy_124 S hr hlk hK hA fuel (18 : Int32) v_t_sums v_t_heaps ls _ _ hf (lv_sub hl [1, 0] rfl) hP hD hS
    · have hf := ite_f jc1 hf
      refine lv_aload_n hx hb dX11_sumsBy_95 rfl (lv_at hl 0 rfl) ?_
      refine va_get (D := D) (ci := 11) (v := .ref a_t_sums) (C := RX11) (T := TX11) (N := 23) hx hb hts iX11_sumsBy_X11 hown hK.1 hP 0 rfl rfl 20 (by decide) (hts _ mX11_sumsBy_1) (fun _ h9 => h9) rfl dX11_sumsBy_96 ?_
      refine lv_aload_n hx hb dX11_sumsBy_99 rfl (lv_at hl 0 rfl) ?_
      refine va_get (D := D) (ci := 11) (v := .ref a_t_heaps) (C := RX11) (T := TX11) (N := 23) hx hb hts iX11_sumsBy_X11 hown hK.1 hP 0 rfl rfl 22 (by decide) (hts _ mX11_sumsBy_2) (fun _ h9 => h9) rfl dX11_sumsBy_100 ?_
      refine lv_iload_n hx hb dX11_sumsBy_103 rfl (lv_at hl 1 rfl) ?_
      obtain ⟨jh2, hf⟩ := ckI_inv hf
      refine va_iald hx hb hK.1 hP 3 0 rfl rfl jh2 dX11_sumsBy_104 ?_
      refine lv_dup2_11 hx hb dX11_sumsBy_105 rfl rfl ?_
      obtain ⟨jh3, hf⟩ := ckI_inv hf
      refine va_iald hx hb hK.1 hP 1 0 rfl rfl jh3 dX11_sumsBy_106 ?_
      refine lv_aload_n hx hb dX11_sumsBy_107 rfl (lv_at hl 0 rfl) ?_
      refine va_get (D := D) (ci := 11) (v := .ref a_t_parts) (C := RX11) (T := TX11) (N := 23) hx hb hts iX11_sumsBy_X11 hown hK.1 hP 0 rfl rfl 21 (by decide) (hts _ mX11_sumsBy_4) (fun _ h9 => h9) rfl dX11_sumsBy_108 ?_
      refine lv_iload_n hx hb dX11_sumsBy_111 rfl (lv_at hl 1 rfl) ?_
      obtain ⟨jh4, hf⟩ := ckI_inv hf
      refine va_iald hx hb hK.1 hP 2 0 rfl rfl jh4 dX11_sumsBy_112 ?_
      refine lv_iadd hx hb dX11_sumsBy_113 ?_
      obtain ⟨jh5, hf⟩ := ckI_inv hf
      refine va_iast hx hb hK.1 hP hD hS 1 0 rfl rfl jh5 dX11_sumsBy_114 (fun H locs hP hD hS => ?_)
      have hP : va_P D vwCl [(a_t, .inr (11, [.int v_t_thrown, .ref a_t_text, .int v_t_typed, .int v_t_spot, .int v_t_token, .int v_t_place, .int v_t_value, .int v_t_fault, .int v_t_copies, .int v_t_draftCopies, .ref a_t_draft, .ref a_t_s, .ref a_t_undos, .int v_t_undoMany, .ref a_t_kept, .ref a_t_isKept, .ref a_t_seenWay, .ref a_t_seenIs, .int v_t_seenMany, .int v_t_asked, .ref a_t_sums, .ref a_t_parts, .ref a_t_heaps])), (a_t_sums, .inl (cI, 20, .inl (upd v_t_sums (Int32.toNatClampNeg (v_t_heaps (Int32.toNatClampNeg jx2))) ((v_t_sums (Int32.toNatClampNeg (v_t_heaps (Int32.toNatClampNeg jx2)))) + (v_t_parts (Int32.toNatClampNeg jx2)))))), (a_t_parts, .inl (cI, 64, .inl v_t_parts)), (a_t_heaps, .inl (cI, 64, .inl v_t_heaps))] H := hP
      have hD : va_D A [(a_t, .inr (11, [.int v_t_thrown, .ref a_t_text, .int v_t_typed, .int v_t_spot, .int v_t_token, .int v_t_place, .int v_t_value, .int v_t_fault, .int v_t_copies, .int v_t_draftCopies, .ref a_t_draft, .ref a_t_s, .ref a_t_undos, .int v_t_undoMany, .ref a_t_kept, .ref a_t_isKept, .ref a_t_seenWay, .ref a_t_seenIs, .int v_t_seenMany, .int v_t_asked, .ref a_t_sums, .ref a_t_parts, .ref a_t_heaps])), (a_t_sums, .inl (cI, 20, .inl (upd v_t_sums (Int32.toNatClampNeg (v_t_heaps (Int32.toNatClampNeg jx2))) ((v_t_sums (Int32.toNatClampNeg (v_t_heaps (Int32.toNatClampNeg jx2)))) + (v_t_parts (Int32.toNatClampNeg jx2)))))), (a_t_parts, .inl (cI, 64, .inl v_t_parts)), (a_t_heaps, .inl (cI, 64, .inl v_t_heaps))] := hD
      refine lv_iinc (v := (jx2 + (1 : Int32))) (lv' := [(2, .int (jx2 + (1 : Int32))), (0, .ref a_t)]) hx hb dX11_sumsBy_115 hl (k := 1) rfl rfl (by decide) rfl (fun ls hl => ?_)
      refine lv_goto (tgt := 85) hx hb dX11_sumsBy_118 (by decide) ?_
      exact ih (jx2 + (1 : Int32)) (upd v_t_sums (Int32.toNatClampNeg (v_t_heaps (Int32.toNatClampNeg jx2))) ((v_t_sums (Int32.toNatClampNeg (v_t_heaps (Int32.toNatClampNeg jx2)))) + (v_t_parts (Int32.toNatClampNeg jx2)))) v_t_heaps ls _ _ hf (lv_sub hl [1, 0] rfl) hP hD hS
set_option maxHeartbeats 4000000 in
set_option maxRecDepth 100000 in
theorem wX11_sumsBy_40 {p : Program} {l : Launch} {e : Env} {s : State} {m : MethodId} {args : Array Value} {below : List Frame} {meth : Method} {c : Code} {D : va_G} {cI cZ : ClassId} (S : CallFix p m c cX11_sumsBy 4 s args wsX11_sumsBy RX11) (hr : meth.sig.returnType = some .int) (hlk : meth.locks = false) (hK : KX D cI cZ s) {a_t a_t_text a_t_draft a_t_s a_t_undos a_t_kept a_t_isKept a_t_seenWay a_t_seenIs a_t_sums a_t_parts a_t_heaps : Nat} {jk30 : Int32 → (Nat → Int32) → (Nat → Int32) → Option (Int32 × (Nat → Int32) × (Nat → Int32))} {jx1 : Int32} {jx2 : Int32} {v_t_copies : Int32} {v_t_parts : (Nat → Int32)} {v_t_thrown : Int32} {v_t_typed : Int32} {v_t_spot : Int32} {v_t_token : Int32} {v_t_place : Int32} {v_t_value : Int32} {v_t_fault : Int32} {v_t_draftCopies : Int32} {v_t_undoMany : Int32} {v_t_seenMany : Int32} {v_t_asked : Int32} {r : Int32} {o_t_sums : (Nat → Int32)} {o_t_heaps : (Nat → Int32)} {A : Nat → Prop} (hA : ∀ q : Nat, s.heap.size ≤ q → A q) (hk30 : ∀ (jx2 : Int32) (v_t_sums : (Nat → Int32)) (v_t_heaps : (Nat → Int32)) (ls : Array Slot) (H : Heap) (locs : List Loc), jk30 jx2 v_t_sums v_t_heaps = some (r, o_t_sums, o_t_heaps) → lv_has ls 4 [(0, .ref a_t), (1, .int jx1), (2, .int jx2)] → va_P D vwCl [(a_t, .inr (11, [.int v_t_thrown, .ref a_t_text, .int v_t_typed, .int v_t_spot, .int v_t_token, .int v_t_place, .int v_t_value, .int v_t_fault, .int v_t_copies, .int v_t_draftCopies, .ref a_t_draft, .ref a_t_s, .ref a_t_undos, .int v_t_undoMany, .ref a_t_kept, .ref a_t_isKept, .ref a_t_seenWay, .ref a_t_seenIs, .int v_t_seenMany, .int v_t_asked, .ref a_t_sums, .ref a_t_parts, .ref a_t_heaps])), (a_t_sums, .inl (cI, 20, .inl v_t_sums)), (a_t_parts, .inl (cI, 64, .inl v_t_parts)), (a_t_heaps, .inl (cI, 64, .inl v_t_heaps))] H → va_D A [(a_t, .inr (11, [.int v_t_thrown, .ref a_t_text, .int v_t_typed, .int v_t_spot, .int v_t_token, .int v_t_place, .int v_t_value, .int v_t_fault, .int v_t_copies, .int v_t_draftCopies, .ref a_t_draft, .ref a_t_s, .ref a_t_undos, .int v_t_undoMany, .ref a_t_kept, .ref a_t_isKept, .ref a_t_seenWay, .ref a_t_seenIs, .int v_t_seenMany, .int v_t_asked, .ref a_t_sums, .ref a_t_parts, .ref a_t_heaps])), (a_t_sums, .inl (cI, 20, .inl v_t_sums)), (a_t_parts, .inl (cI, 64, .inl v_t_parts)), (a_t_heaps, .inl (cI, 64, .inl v_t_heaps))] → va_S A s.heap H locs → W p l e rmX11_sumsBy s m args below meth c H locs 0 0 (MQ below (qM D (some (.int r)) [(a_t, .inr (11, [.int v_t_thrown, .ref a_t_text, .int v_t_typed, .int v_t_spot, .int v_t_token, .int v_t_place, .int v_t_value, .int v_t_fault, .int v_t_copies, .int v_t_draftCopies, .ref a_t_draft, .ref a_t_s, .ref a_t_undos, .int v_t_undoMany, .ref a_t_kept, .ref a_t_isKept, .ref a_t_seenWay, .ref a_t_seenIs, .int v_t_seenMany, .int v_t_asked, .ref a_t_sums, .ref a_t_parts, .ref a_t_heaps])), (a_t_sums, .inl (cI, 20, .inl o_t_sums)), (a_t_parts, .inl (cI, 64, .inl v_t_parts)), (a_t_heaps, .inl (cI, 64, .inl o_t_heaps))] A) args s 0 0 A) (F0 m 30 ls [])) : ∀ (n : Nat), ∀ (jx3 : Int32) (v_t_sums : (Nat → Int32)) (v_t_heaps : (Nat → Int32)) (ls : Array Slot) (H : Heap) (locs : List Loc), fX11_sumsBy_40 jk30 jx1 jx2 v_t_copies v_t_parts n jx3 v_t_sums v_t_heaps = some (r, o_t_sums, o_t_heaps) → lv_has ls 4 [(0, .ref a_t), (1, .int jx1), (2, .int jx2), (3, .int jx3)] → va_P D vwCl [(a_t, .inr (11, [.int v_t_thrown, .ref a_t_text, .int v_t_typed, .int v_t_spot, .int v_t_token, .int v_t_place, .int v_t_value, .int v_t_fault, .int v_t_copies, .int v_t_draftCopies, .ref a_t_draft, .ref a_t_s, .ref a_t_undos, .int v_t_undoMany, .ref a_t_kept, .ref a_t_isKept, .ref a_t_seenWay, .ref a_t_seenIs, .int v_t_seenMany, .int v_t_asked, .ref a_t_sums, .ref a_t_parts, .ref a_t_heaps])), (a_t_sums, .inl (cI, 20, .inl v_t_sums)), (a_t_parts, .inl (cI, 64, .inl v_t_parts)), (a_t_heaps, .inl (cI, 64, .inl v_t_heaps))] H → va_D A [(a_t, .inr (11, [.int v_t_thrown, .ref a_t_text, .int v_t_typed, .int v_t_spot, .int v_t_token, .int v_t_place, .int v_t_value, .int v_t_fault, .int v_t_copies, .int v_t_draftCopies, .ref a_t_draft, .ref a_t_s, .ref a_t_undos, .int v_t_undoMany, .ref a_t_kept, .ref a_t_isKept, .ref a_t_seenWay, .ref a_t_seenIs, .int v_t_seenMany, .int v_t_asked, .ref a_t_sums, .ref a_t_parts, .ref a_t_heaps])), (a_t_sums, .inl (cI, 20, .inl v_t_sums)), (a_t_parts, .inl (cI, 64, .inl v_t_parts)), (a_t_heaps, .inl (cI, 64, .inl v_t_heaps))] → va_S A s.heap H locs → W p l e rmX11_sumsBy s m args below meth c H locs 0 0 (MQ below (qM D (some (.int r)) [(a_t, .inr (11, [.int v_t_thrown, .ref a_t_text, .int v_t_typed, .int v_t_spot, .int v_t_token, .int v_t_place, .int v_t_value, .int v_t_fault, .int v_t_copies, .int v_t_draftCopies, .ref a_t_draft, .ref a_t_s, .ref a_t_undos, .int v_t_undoMany, .ref a_t_kept, .ref a_t_isKept, .ref a_t_seenWay, .ref a_t_seenIs, .int v_t_seenMany, .int v_t_asked, .ref a_t_sums, .ref a_t_parts, .ref a_t_heaps])), (a_t_sums, .inl (cI, 20, .inl o_t_sums)), (a_t_parts, .inl (cI, 64, .inl v_t_parts)), (a_t_heaps, .inl (cI, 64, .inl o_t_heaps))] A) args s 0 0 A) (F0 m 40 ls []) := by
  obtain ⟨hx, hb, hml, hown, hts⟩ := id S
  intro n
  induction n with
  | zero =>
    intro jx3 v_t_sums v_t_heaps ls H locs hf hl hP hD hS
    cases (show (none : Option _) = some _ from hf)
  | succ n ih =>
    intro jx3 v_t_sums v_t_heaps ls H locs hf hl hP hD hS
    have hf := (fX11_sumsBy_40_s _ _ _ _ _ n _ _ _).symm.trans hf
    refine lv_iload_n hx hb dX11_sumsBy_40 rfl (lv_at hl 3 rfl) ?_
    refine lv_iconst (v := 1) hx hb dX11_sumsBy_41 (by decide) ?_
    refine lv_iload_n hx hb dX11_sumsBy_42 rfl (lv_at hl 2 rfl) ?_
    refine lv_ishl hx hb dX11_sumsBy_43 ?_
    refine lv_icmp_ge (tgt := 77) hx hb dX11_sumsBy_44 (by decide) (fun jc1 => ?_) (fun jc1 => ?_)
    · have hf := ite_t jc1 hf
      refine lv_iinc (v := (jx2 + (1 : Int32))) (lv' := [(2, .int (jx2 + (1 : Int32))), (0, .ref a_t), (1, .int jx1), (3, .int jx3)]) hx hb dX11_sumsBy_77 hl (k := 2) rfl rfl (by decide) rfl (fun ls hl => ?_)
      refine lv_goto (tgt := 30) hx hb dX11_sumsBy_80 (by decide) ?_
      exact hk30 (jx2 + (1 : Int32)) v_t_sums v_t_heaps ls _ _ hf (lv_sub hl [1, 2, 0] rfl) hP hD hS
    · have hf := ite_f jc1 hf
      refine lv_aload_n hx hb dX11_sumsBy_47 rfl (lv_at hl 0 rfl) ?_
      refine va_get (D := D) (ci := 11) (v := .ref a_t_heaps) (C := RX11) (T := TX11) (N := 23) hx hb hts iX11_sumsBy_X11 hown hK.1 hP 0 rfl rfl 22 (by decide) (hts _ mX11_sumsBy_2) (fun _ h9 => h9) rfl dX11_sumsBy_48 ?_
      refine lv_iload_n hx hb dX11_sumsBy_51 rfl (lv_at hl 3 rfl) ?_
      refine lv_iconst (v := 1) hx hb dX11_sumsBy_52 (by decide) ?_
      refine lv_iload_n hx hb dX11_sumsBy_53 rfl (lv_at hl 2 rfl) ?_
      refine lv_ishl hx hb dX11_sumsBy_54 ?_
      refine lv_ior hx hb dX11_sumsBy_55 ?_
      refine lv_aload_n hx hb dX11_sumsBy_56 rfl (lv_at hl 0 rfl) ?_
      refine va_get (D := D) (ci := 11) (v := .ref a_t_heaps) (C := RX11) (T := TX11) (N := 23) hx hb hts iX11_sumsBy_X11 hown hK.1 hP 0 rfl rfl 22 (by decide) (hts _ mX11_sumsBy_2) (fun _ h9 => h9) rfl dX11_sumsBy_57 ?_
      refine lv_iload_n hx hb dX11_sumsBy_60 rfl (lv_at hl 3 rfl) ?_
      obtain ⟨jh2, hf⟩ := ckI_inv hf
      refine va_iald hx hb hK.1 hP 3 0 rfl rfl jh2 dX11_sumsBy_61 ?_
      refine lv_iload_n hx hb dX11_sumsBy_62 rfl (lv_at hl 1 rfl) ?_
      refine lv_iconst (v := 2) hx hb dX11_sumsBy_63 (by decide) ?_
      refine lv_iload_n hx hb dX11_sumsBy_64 rfl (lv_at hl 2 rfl) ?_
      refine lv_imul hx hb dX11_sumsBy_65 ?_
      refine lv_ishr hx hb dX11_sumsBy_66 ?_
      refine lv_iconst (v := 3) hx hb dX11_sumsBy_67 (by decide) ?_
      refine lv_iand hx hb dX11_sumsBy_68 ?_
      refine lv_iadd hx hb dX11_sumsBy_69 ?_
      obtain ⟨jh3, hf⟩ := ckI_inv hf
      refine va_iast hx hb hK.1 hP hD hS 3 0 rfl rfl jh3 dX11_sumsBy_70 (fun H locs hP hD hS => ?_)
      have hP : va_P D vwCl [(a_t, .inr (11, [.int v_t_thrown, .ref a_t_text, .int v_t_typed, .int v_t_spot, .int v_t_token, .int v_t_place, .int v_t_value, .int v_t_fault, .int v_t_copies, .int v_t_draftCopies, .ref a_t_draft, .ref a_t_s, .ref a_t_undos, .int v_t_undoMany, .ref a_t_kept, .ref a_t_isKept, .ref a_t_seenWay, .ref a_t_seenIs, .int v_t_seenMany, .int v_t_asked, .ref a_t_sums, .ref a_t_parts, .ref a_t_heaps])), (a_t_sums, .inl (cI, 20, .inl v_t_sums)), (a_t_parts, .inl (cI, 64, .inl v_t_parts)), (a_t_heaps, .inl (cI, 64, .inl (upd v_t_heaps (Int32.toNatClampNeg (jx3 ||| ((1 : Int32) <<< (jx2 &&& 31)))) ((v_t_heaps (Int32.toNatClampNeg jx3)) + ((jx1 >>> (((2 : Int32) * jx2) &&& 31)) &&& (3 : Int32))))))] H := hP
      have hD : va_D A [(a_t, .inr (11, [.int v_t_thrown, .ref a_t_text, .int v_t_typed, .int v_t_spot, .int v_t_token, .int v_t_place, .int v_t_value, .int v_t_fault, .int v_t_copies, .int v_t_draftCopies, .ref a_t_draft, .ref a_t_s, .ref a_t_undos, .int v_t_undoMany, .ref a_t_kept, .ref a_t_isKept, .ref a_t_seenWay, .ref a_t_seenIs, .int v_t_seenMany, .int v_t_asked, .ref a_t_sums, .ref a_t_parts, .ref a_t_heaps])), (a_t_sums, .inl (cI, 20, .inl v_t_sums)), (a_t_parts, .inl (cI, 64, .inl v_t_parts)), (a_t_heaps, .inl (cI, 64, .inl (upd v_t_heaps (Int32.toNatClampNeg (jx3 ||| ((1 : Int32) <<< (jx2 &&& 31)))) ((v_t_heaps (Int32.toNatClampNeg jx3)) + ((jx1 >>> (((2 : Int32) * jx2) &&& 31)) &&& (3 : Int32))))))] := hD
      refine lv_iinc (v := (jx3 + (1 : Int32))) (lv' := [(3, .int (jx3 + (1 : Int32))), (0, .ref a_t), (1, .int jx1), (2, .int jx2)]) hx hb dX11_sumsBy_71 hl (k := 3) rfl rfl (by decide) rfl (fun ls hl => ?_)
      refine lv_goto (tgt := 40) hx hb dX11_sumsBy_74 (by decide) ?_
      exact ih (jx3 + (1 : Int32)) v_t_sums (upd v_t_heaps (Int32.toNatClampNeg (jx3 ||| ((1 : Int32) <<< (jx2 &&& 31)))) ((v_t_heaps (Int32.toNatClampNeg jx3)) + ((jx1 >>> (((2 : Int32) * jx2) &&& 31)) &&& (3 : Int32)))) ls _ _ hf (lv_sub hl [1, 2, 3, 0] rfl) hP hD hS
set_option maxHeartbeats 4000000 in
set_option maxRecDepth 100000 in
theorem wX11_sumsBy_30 {p : Program} {l : Launch} {e : Env} {s : State} {m : MethodId} {args : Array Value} {below : List Frame} {meth : Method} {c : Code} {D : va_G} {cI cZ : ClassId} (S : CallFix p m c cX11_sumsBy 4 s args wsX11_sumsBy RX11) (hr : meth.sig.returnType = some .int) (hlk : meth.locks = false) (hK : KX D cI cZ s) {a_t a_t_text a_t_draft a_t_s a_t_undos a_t_kept a_t_isKept a_t_seenWay a_t_seenIs a_t_sums a_t_parts a_t_heaps : Nat} {jx1 : Int32} {v_t_copies : Int32} {v_t_parts : (Nat → Int32)} {v_t_thrown : Int32} {v_t_typed : Int32} {v_t_spot : Int32} {v_t_token : Int32} {v_t_place : Int32} {v_t_value : Int32} {v_t_fault : Int32} {v_t_draftCopies : Int32} {v_t_undoMany : Int32} {v_t_seenMany : Int32} {v_t_asked : Int32} {r : Int32} {o_t_sums : (Nat → Int32)} {o_t_heaps : (Nat → Int32)} {A : Nat → Prop} (hA : ∀ q : Nat, s.heap.size ≤ q → A q) : ∀ (n : Nat), ∀ (jx2 : Int32) (v_t_sums : (Nat → Int32)) (v_t_heaps : (Nat → Int32)) (ls : Array Slot) (H : Heap) (locs : List Loc), fX11_sumsBy_30 jx1 v_t_copies v_t_parts n jx2 v_t_sums v_t_heaps = some (r, o_t_sums, o_t_heaps) → lv_has ls 4 [(0, .ref a_t), (1, .int jx1), (2, .int jx2)] → va_P D vwCl [(a_t, .inr (11, [.int v_t_thrown, .ref a_t_text, .int v_t_typed, .int v_t_spot, .int v_t_token, .int v_t_place, .int v_t_value, .int v_t_fault, .int v_t_copies, .int v_t_draftCopies, .ref a_t_draft, .ref a_t_s, .ref a_t_undos, .int v_t_undoMany, .ref a_t_kept, .ref a_t_isKept, .ref a_t_seenWay, .ref a_t_seenIs, .int v_t_seenMany, .int v_t_asked, .ref a_t_sums, .ref a_t_parts, .ref a_t_heaps])), (a_t_sums, .inl (cI, 20, .inl v_t_sums)), (a_t_parts, .inl (cI, 64, .inl v_t_parts)), (a_t_heaps, .inl (cI, 64, .inl v_t_heaps))] H → va_D A [(a_t, .inr (11, [.int v_t_thrown, .ref a_t_text, .int v_t_typed, .int v_t_spot, .int v_t_token, .int v_t_place, .int v_t_value, .int v_t_fault, .int v_t_copies, .int v_t_draftCopies, .ref a_t_draft, .ref a_t_s, .ref a_t_undos, .int v_t_undoMany, .ref a_t_kept, .ref a_t_isKept, .ref a_t_seenWay, .ref a_t_seenIs, .int v_t_seenMany, .int v_t_asked, .ref a_t_sums, .ref a_t_parts, .ref a_t_heaps])), (a_t_sums, .inl (cI, 20, .inl v_t_sums)), (a_t_parts, .inl (cI, 64, .inl v_t_parts)), (a_t_heaps, .inl (cI, 64, .inl v_t_heaps))] → va_S A s.heap H locs → W p l e rmX11_sumsBy s m args below meth c H locs 0 0 (MQ below (qM D (some (.int r)) [(a_t, .inr (11, [.int v_t_thrown, .ref a_t_text, .int v_t_typed, .int v_t_spot, .int v_t_token, .int v_t_place, .int v_t_value, .int v_t_fault, .int v_t_copies, .int v_t_draftCopies, .ref a_t_draft, .ref a_t_s, .ref a_t_undos, .int v_t_undoMany, .ref a_t_kept, .ref a_t_isKept, .ref a_t_seenWay, .ref a_t_seenIs, .int v_t_seenMany, .int v_t_asked, .ref a_t_sums, .ref a_t_parts, .ref a_t_heaps])), (a_t_sums, .inl (cI, 20, .inl o_t_sums)), (a_t_parts, .inl (cI, 64, .inl v_t_parts)), (a_t_heaps, .inl (cI, 64, .inl o_t_heaps))] A) args s 0 0 A) (F0 m 30 ls []) := by
  obtain ⟨hx, hb, hml, hown, hts⟩ := id S
  intro n
  induction n with
  | zero =>
    intro jx2 v_t_sums v_t_heaps ls H locs hf hl hP hD hS
    cases (show (none : Option _) = some _ from hf)
  | succ n ih =>
    intro jx2 v_t_sums v_t_heaps ls H locs hf hl hP hD hS
    have hf := (fX11_sumsBy_30_s _ _ _ n _ _ _).symm.trans hf
    refine lv_iload_n hx hb dX11_sumsBy_30 rfl (lv_at hl 2 rfl) ?_
    refine lv_aload_n hx hb dX11_sumsBy_31 rfl (lv_at hl 0 rfl) ?_
    refine va_get (D := D) (ci := 11) (v := .int v_t_copies) (C := RX11) (T := TX11) (N := 23) hx hb hts iX11_sumsBy_X11 hown hK.1 hP 0 rfl rfl 8 (by decide) (hts _ mX11_sumsBy_3) (fun _ h9 => h9) rfl dX11_sumsBy_32 ?_
    refine lv_icmp_ge (tgt := 83) hx hb dX11_sumsBy_35 (by decide) (fun jc1 => ?_) (fun jc1 => ?_)
    · have hf := ite_t jc1 hf
      refine lv_iconst (v := 0) hx hb dX11_sumsBy_83 (by decide) ?_
      refine lv_istore_n (lv' := [(2, .int (0 : Int32)), (0, .ref a_t), (1, .int jx1)]) hx hb dX11_sumsBy_84 rfl hl (by decide) rfl (fun ls hl => ?_)
      exact wX11_sumsBy_85 S hr hlk hK hA fuel (0 : Int32) v_t_sums v_t_heaps ls _ _ hf (lv_sub hl [1, 0] rfl) hP hD hS
    · have hf := ite_f jc1 hf
      refine lv_iconst (v := 0) hx hb dX11_sumsBy_38 (by decide) ?_
      refine lv_istore_n (lv' := [(3, .int (0 : Int32)), (0, .ref a_t), (1, .int jx1), (2, .int jx2)]) hx hb dX11_sumsBy_39 rfl hl (by decide) rfl (fun ls hl => ?_)
      exact wX11_sumsBy_40 S hr hlk hK hA ih fuel (0 : Int32) v_t_sums v_t_heaps ls _ _ hf (lv_sub hl [1, 2, 3, 0] rfl) hP hD hS
set_option maxHeartbeats 4000000 in
set_option maxRecDepth 100000 in
theorem wX11_sumsBy_2 {p : Program} {l : Launch} {e : Env} {s : State} {m : MethodId} {args : Array Value} {below : List Frame} {meth : Method} {c : Code} {D : va_G} {cI cZ : ClassId} (S : CallFix p m c cX11_sumsBy 4 s args wsX11_sumsBy RX11) (hr : meth.sig.returnType = some .int) (hlk : meth.locks = false) (hK : KX D cI cZ s) {a_t a_t_text a_t_draft a_t_s a_t_undos a_t_kept a_t_isKept a_t_seenWay a_t_seenIs a_t_sums a_t_parts a_t_heaps : Nat} {jx1 : Int32} {v_t_copies : Int32} {v_t_parts : (Nat → Int32)} {v_t_thrown : Int32} {v_t_typed : Int32} {v_t_spot : Int32} {v_t_token : Int32} {v_t_place : Int32} {v_t_value : Int32} {v_t_fault : Int32} {v_t_draftCopies : Int32} {v_t_undoMany : Int32} {v_t_seenMany : Int32} {v_t_asked : Int32} {r : Int32} {o_t_sums : (Nat → Int32)} {o_t_heaps : (Nat → Int32)} {A : Nat → Prop} (hA : ∀ q : Nat, s.heap.size ≤ q → A q) : ∀ (n : Nat), ∀ (jx2 : Int32) (v_t_sums : (Nat → Int32)) (v_t_heaps : (Nat → Int32)) (ls : Array Slot) (H : Heap) (locs : List Loc), fX11_sumsBy_2 jx1 v_t_copies v_t_parts n jx2 v_t_sums v_t_heaps = some (r, o_t_sums, o_t_heaps) → lv_has ls 4 [(0, .ref a_t), (1, .int jx1), (2, .int jx2)] → va_P D vwCl [(a_t, .inr (11, [.int v_t_thrown, .ref a_t_text, .int v_t_typed, .int v_t_spot, .int v_t_token, .int v_t_place, .int v_t_value, .int v_t_fault, .int v_t_copies, .int v_t_draftCopies, .ref a_t_draft, .ref a_t_s, .ref a_t_undos, .int v_t_undoMany, .ref a_t_kept, .ref a_t_isKept, .ref a_t_seenWay, .ref a_t_seenIs, .int v_t_seenMany, .int v_t_asked, .ref a_t_sums, .ref a_t_parts, .ref a_t_heaps])), (a_t_sums, .inl (cI, 20, .inl v_t_sums)), (a_t_parts, .inl (cI, 64, .inl v_t_parts)), (a_t_heaps, .inl (cI, 64, .inl v_t_heaps))] H → va_D A [(a_t, .inr (11, [.int v_t_thrown, .ref a_t_text, .int v_t_typed, .int v_t_spot, .int v_t_token, .int v_t_place, .int v_t_value, .int v_t_fault, .int v_t_copies, .int v_t_draftCopies, .ref a_t_draft, .ref a_t_s, .ref a_t_undos, .int v_t_undoMany, .ref a_t_kept, .ref a_t_isKept, .ref a_t_seenWay, .ref a_t_seenIs, .int v_t_seenMany, .int v_t_asked, .ref a_t_sums, .ref a_t_parts, .ref a_t_heaps])), (a_t_sums, .inl (cI, 20, .inl v_t_sums)), (a_t_parts, .inl (cI, 64, .inl v_t_parts)), (a_t_heaps, .inl (cI, 64, .inl v_t_heaps))] → va_S A s.heap H locs → W p l e rmX11_sumsBy s m args below meth c H locs 0 0 (MQ below (qM D (some (.int r)) [(a_t, .inr (11, [.int v_t_thrown, .ref a_t_text, .int v_t_typed, .int v_t_spot, .int v_t_token, .int v_t_place, .int v_t_value, .int v_t_fault, .int v_t_copies, .int v_t_draftCopies, .ref a_t_draft, .ref a_t_s, .ref a_t_undos, .int v_t_undoMany, .ref a_t_kept, .ref a_t_isKept, .ref a_t_seenWay, .ref a_t_seenIs, .int v_t_seenMany, .int v_t_asked, .ref a_t_sums, .ref a_t_parts, .ref a_t_heaps])), (a_t_sums, .inl (cI, 20, .inl o_t_sums)), (a_t_parts, .inl (cI, 64, .inl v_t_parts)), (a_t_heaps, .inl (cI, 64, .inl o_t_heaps))] A) args s 0 0 A) (F0 m 2 ls []) := by
  obtain ⟨hx, hb, hml, hown, hts⟩ := id S
  intro n
  induction n with
  | zero =>
    intro jx2 v_t_sums v_t_heaps ls H locs hf hl hP hD hS
    cases (show (none : Option _) = some _ from hf)
  | succ n ih =>
    intro jx2 v_t_sums v_t_heaps ls H locs hf hl hP hD hS
    have hf := (fX11_sumsBy_2_s _ _ _ n _ _ _).symm.trans hf
    refine lv_iload_n hx hb dX11_sumsBy_2 rfl (lv_at hl 2 rfl) ?_
    refine lv_bipush (v := 20) hx hb dX11_sumsBy_3 (by decide) ?_
    refine lv_icmp_ge (tgt := 21) hx hb dX11_sumsBy_5 (by decide) (fun jc1 => ?_) (fun jc1 => ?_)
    · have hf := ite_t jc1 hf
      refine lv_aload_n hx hb dX11_sumsBy_21 rfl (lv_at hl 0 rfl) ?_
      refine va_get (D := D) (ci := 11) (v := .ref a_t_heaps) (C := RX11) (T := TX11) (N := 23) hx hb hts iX11_sumsBy_X11 hown hK.1 hP 0 rfl rfl 22 (by decide) (hts _ mX11_sumsBy_2) (fun _ h9 => h9) rfl dX11_sumsBy_22 ?_
      refine lv_iconst (v := 0) hx hb dX11_sumsBy_25 (by decide) ?_
      refine lv_iconst (v := 0) hx hb dX11_sumsBy_26 (by decide) ?_
      obtain ⟨jh2, hf⟩ := ckI_inv hf
      refine va_iast hx hb hK.1 hP hD hS 3 0 rfl rfl jh2 dX11_sumsBy_27 (fun H locs hP hD hS => ?_)
      have hP : va_P D vwCl [(a_t, .inr (11, [.int v_t_thrown, .ref a_t_text, .int v_t_typed, .int v_t_spot, .int v_t_token, .int v_t_place, .int v_t_value, .int v_t_fault, .int v_t_copies, .int v_t_draftCopies, .ref a_t_draft, .ref a_t_s, .ref a_t_undos, .int v_t_undoMany, .ref a_t_kept, .ref a_t_isKept, .ref a_t_seenWay, .ref a_t_seenIs, .int v_t_seenMany, .int v_t_asked, .ref a_t_sums, .ref a_t_parts, .ref a_t_heaps])), (a_t_sums, .inl (cI, 20, .inl v_t_sums)), (a_t_parts, .inl (cI, 64, .inl v_t_parts)), (a_t_heaps, .inl (cI, 64, .inl (upd v_t_heaps (Int32.toNatClampNeg (0 : Int32)) (0 : Int32))))] H := hP
      have hD : va_D A [(a_t, .inr (11, [.int v_t_thrown, .ref a_t_text, .int v_t_typed, .int v_t_spot, .int v_t_token, .int v_t_place, .int v_t_value, .int v_t_fault, .int v_t_copies, .int v_t_draftCopies, .ref a_t_draft, .ref a_t_s, .ref a_t_undos, .int v_t_undoMany, .ref a_t_kept, .ref a_t_isKept, .ref a_t_seenWay, .ref a_t_seenIs, .int v_t_seenMany, .int v_t_asked, .ref a_t_sums, .ref a_t_parts, .ref a_t_heaps])), (a_t_sums, .inl (cI, 20, .inl v_t_sums)), (a_t_parts, .inl (cI, 64, .inl v_t_parts)), (a_t_heaps, .inl (cI, 64, .inl (upd v_t_heaps (Int32.toNatClampNeg (0 : Int32)) (0 : Int32))))] := hD
      refine lv_iconst (v := 0) hx hb dX11_sumsBy_28 (by decide) ?_
      refine lv_istore_n (lv' := [(2, .int (0 : Int32)), (0, .ref a_t), (1, .int jx1)]) hx hb dX11_sumsBy_29 rfl hl (by decide) rfl (fun ls hl => ?_)
      exact wX11_sumsBy_30 S hr hlk hK hA fuel (0 : Int32) v_t_sums (upd v_t_heaps (Int32.toNatClampNeg (0 : Int32)) (0 : Int32)) ls _ _ hf (lv_sub hl [1, 2, 0] rfl) hP hD hS
    · have hf := ite_f jc1 hf
      refine lv_aload_n hx hb dX11_sumsBy_8 rfl (lv_at hl 0 rfl) ?_
      refine va_get (D := D) (ci := 11) (v := .ref a_t_sums) (C := RX11) (T := TX11) (N := 23) hx hb hts iX11_sumsBy_X11 hown hK.1 hP 0 rfl rfl 20 (by decide) (hts _ mX11_sumsBy_1) (fun _ h9 => h9) rfl dX11_sumsBy_9 ?_
      refine lv_iload_n hx hb dX11_sumsBy_12 rfl (lv_at hl 2 rfl) ?_
      refine lv_iconst (v := 0) hx hb dX11_sumsBy_13 (by decide) ?_
      obtain ⟨jh3, hf⟩ := ckI_inv hf
      refine va_iast hx hb hK.1 hP hD hS 1 0 rfl rfl jh3 dX11_sumsBy_14 (fun H locs hP hD hS => ?_)
      have hP : va_P D vwCl [(a_t, .inr (11, [.int v_t_thrown, .ref a_t_text, .int v_t_typed, .int v_t_spot, .int v_t_token, .int v_t_place, .int v_t_value, .int v_t_fault, .int v_t_copies, .int v_t_draftCopies, .ref a_t_draft, .ref a_t_s, .ref a_t_undos, .int v_t_undoMany, .ref a_t_kept, .ref a_t_isKept, .ref a_t_seenWay, .ref a_t_seenIs, .int v_t_seenMany, .int v_t_asked, .ref a_t_sums, .ref a_t_parts, .ref a_t_heaps])), (a_t_sums, .inl (cI, 20, .inl (upd v_t_sums (Int32.toNatClampNeg jx2) (0 : Int32)))), (a_t_parts, .inl (cI, 64, .inl v_t_parts)), (a_t_heaps, .inl (cI, 64, .inl v_t_heaps))] H := hP
      have hD : va_D A [(a_t, .inr (11, [.int v_t_thrown, .ref a_t_text, .int v_t_typed, .int v_t_spot, .int v_t_token, .int v_t_place, .int v_t_value, .int v_t_fault, .int v_t_copies, .int v_t_draftCopies, .ref a_t_draft, .ref a_t_s, .ref a_t_undos, .int v_t_undoMany, .ref a_t_kept, .ref a_t_isKept, .ref a_t_seenWay, .ref a_t_seenIs, .int v_t_seenMany, .int v_t_asked, .ref a_t_sums, .ref a_t_parts, .ref a_t_heaps])), (a_t_sums, .inl (cI, 20, .inl (upd v_t_sums (Int32.toNatClampNeg jx2) (0 : Int32)))), (a_t_parts, .inl (cI, 64, .inl v_t_parts)), (a_t_heaps, .inl (cI, 64, .inl v_t_heaps))] := hD
      refine lv_iinc (v := (jx2 + (1 : Int32))) (lv' := [(2, .int (jx2 + (1 : Int32))), (0, .ref a_t), (1, .int jx1)]) hx hb dX11_sumsBy_15 hl (k := 2) rfl rfl (by decide) rfl (fun ls hl => ?_)
      refine lv_goto (tgt := 2) hx hb dX11_sumsBy_18 (by decide) ?_
      exact ih (jx2 + (1 : Int32)) (upd v_t_sums (Int32.toNatClampNeg jx2) (0 : Int32)) v_t_heaps ls _ _ hf (lv_sub hl [1, 2, 0] rfl) hP hD hS
theorem hdX11_sumsBy : yX11_sumsBy.cls ≠ "java/lang/invoke/MethodHandle" ∧ yX11_sumsBy.cls ≠ "java/lang/invoke/VarHandle" ∧ (parseMethodDescriptor yX11_sumsBy.desc).map (fun d => d.parameters.length) = some 1 := by decide +kernel
set_option maxHeartbeats 4000000 in
set_option maxRecDepth 100000 in
theorem ctX11_sumsBy (l : Launch) (D : va_G) (cI cZ : ClassId) (a_t a_t_text a_t_draft a_t_s a_t_undos a_t_kept a_t_isKept a_t_seenWay a_t_seenIs a_t_sums a_t_parts a_t_heaps : Nat) (jx1 : Int32) (v_t_copies : Int32) (v_t_sums : (Nat → Int32)) (v_t_parts : (Nat → Int32)) (v_t_heaps : (Nat → Int32)) (v_t_thrown : Int32) (v_t_typed : Int32) (v_t_spot : Int32) (v_t_token : Int32) (v_t_place : Int32) (v_t_value : Int32) (v_t_fault : Int32) (v_t_draftCopies : Int32) (v_t_undoMany : Int32) (v_t_seenMany : Int32) (v_t_asked : Int32) (r : Int32) (o_t_sums : (Nat → Int32)) (o_t_heaps : (Nat → Int32)) (hf : fX11_sumsBy jx1 v_t_copies v_t_sums v_t_parts v_t_heaps = some (r, o_t_sums, o_t_heaps)) : cM l yX11_sumsBy wsX11_sumsBy rmX11_sumsBy [.ref a_t, .int jx1] D [(a_t, .inr (11, [.int v_t_thrown, .ref a_t_text, .int v_t_typed, .int v_t_spot, .int v_t_token, .int v_t_place, .int v_t_value, .int v_t_fault, .int v_t_copies, .int v_t_draftCopies, .ref a_t_draft, .ref a_t_s, .ref a_t_undos, .int v_t_undoMany, .ref a_t_kept, .ref a_t_isKept, .ref a_t_seenWay, .ref a_t_seenIs, .int v_t_seenMany, .int v_t_asked, .ref a_t_sums, .ref a_t_parts, .ref a_t_heaps])), (a_t_sums, .inl (cI, 20, .inl v_t_sums)), (a_t_parts, .inl (cI, 64, .inl v_t_parts)), (a_t_heaps, .inl (cI, 64, .inl v_t_heaps))] [(a_t, .inr (11, [.int v_t_thrown, .ref a_t_text, .int v_t_typed, .int v_t_spot, .int v_t_token, .int v_t_place, .int v_t_value, .int v_t_fault, .int v_t_copies, .int v_t_draftCopies, .ref a_t_draft, .ref a_t_s, .ref a_t_undos, .int v_t_undoMany, .ref a_t_kept, .ref a_t_isKept, .ref a_t_seenWay, .ref a_t_seenIs, .int v_t_seenMany, .int v_t_asked, .ref a_t_sums, .ref a_t_parts, .ref a_t_heaps])), (a_t_sums, .inl (cI, 20, .inl o_t_sums)), (a_t_parts, .inl (cI, 64, .inl v_t_parts)), (a_t_heaps, .inl (cI, 64, .inl o_t_heaps))] (KX D cI cZ) (some (.int r)) := by
  refine cM_of (cc := cX11_sumsBy) (maxL := 4) (ret := some .int) (by decide +kernel) rfl _ (Nat.le_of_ble_eq_true rfl) ?_
  intro p e s m below meth c ls A S hr hlk hP hK hl hD hA hS
  obtain ⟨hx, hb, hml, hown, hts⟩ := id S
  have hl : lv_has ls 4 [(0, .ref a_t), (1, .int jx1)] := hl
  unfold fX11_sumsBy at hf
  refine lv_iconst (v := 0) hx hb dX11_sumsBy_0 (by decide) ?_
  refine lv_istore_n (lv' := [(2, .int (0 : Int32)), (0, .ref a_t), (1, .int jx1)]) hx hb dX11_sumsBy_1 rfl hl (by decide) rfl (fun ls hl => ?_)
  exact wX11_sumsBy_2 S hr hlk hK hA fuel (0 : Int32) v_t_sums v_t_heaps ls _ _ hf (lv_sub hl [1, 2, 0] rfl) hP hD hS
def fX11_best_114 (jk85 : Int32 → Int32 → Int32 → Int32 → Int32 → (Nat → Int32) → (Nat → Int32) → (Nat → Int32) → Option (Int32 × Int32 × (Nat → Int32) × (Nat → Int32) × (Nat → Int32))) (jx2 : Int32) (jx3 : Int32) (jx7 : Int32) (jx8 : Int32) (v_t_copies : Int32) : Nat → Int32 → Int32 → Int32 → Int32 → Int32 → (Nat → Int32) → (Nat → Int32) → (Nat → Int32) → Option (Int32 × Int32 × (Nat → Int32) × (Nat → Int32) × (Nat → Int32))
  | 0, _, _, _, _, _, _, _, _ => none
  | n + 1, jx4, jx5, jx6, jx9, v_t_thrown, v_t_sums, v_t_parts, v_t_heaps => if jx8 < jx9 then jk85 jx4 jx5 jx6 (jx7 + (1 : Int32)) v_t_thrown v_t_sums v_t_parts v_t_heaps else ckI 20 ((jx8 + (1 : Int32)) - jx9) (ckI 20 jx9 (nmI ((jx2 * (v_t_sums (Int32.toNatClampNeg ((jx8 + (1 : Int32)) - jx9)))) + (((10 : Int32) - jx2) * (v_t_sums (Int32.toNatClampNeg jx9)))) (fun jz4 => if jz4 ≤ jx4 then (fX11_best_114 jk85 jx2 jx3 jx7 jx8 v_t_copies n) jx4 jx5 jx6 (jx9 + (1 : Int32)) v_t_thrown v_t_sums v_t_parts v_t_heaps else (fX11_best_114 jk85 jx2 jx3 jx7 jx8 v_t_copies n) jz4 jx7 jx9 (jx9 + (1 : Int32)) v_t_thrown v_t_sums v_t_parts v_t_heaps)))
theorem fX11_best_114_s (jk85 : Int32 → Int32 → Int32 → Int32 → Int32 → (Nat → Int32) → (Nat → Int32) → (Nat → Int32) → Option (Int32 × Int32 × (Nat → Int32) × (Nat → Int32) × (Nat → Int32))) (jx2 : Int32) (jx3 : Int32) (jx7 : Int32) (jx8 : Int32) (v_t_copies : Int32) (n : Nat) (jx4 : Int32) (jx5 : Int32) (jx6 : Int32) (jx9 : Int32) (v_t_thrown : Int32) (v_t_sums : (Nat → Int32)) (v_t_parts : (Nat → Int32)) (v_t_heaps : (Nat → Int32)) : fX11_best_114 jk85 jx2 jx3 jx7 jx8 v_t_copies (n + 1) jx4 jx5 jx6 jx9 v_t_thrown v_t_sums v_t_parts v_t_heaps = if jx8 < jx9 then jk85 jx4 jx5 jx6 (jx7 + (1 : Int32)) v_t_thrown v_t_sums v_t_parts v_t_heaps else ckI 20 ((jx8 + (1 : Int32)) - jx9) (ckI 20 jx9 (nmI ((jx2 * (v_t_sums (Int32.toNatClampNeg ((jx8 + (1 : Int32)) - jx9)))) + (((10 : Int32) - jx2) * (v_t_sums (Int32.toNatClampNeg jx9)))) (fun jz4 => if jz4 ≤ jx4 then (fX11_best_114 jk85 jx2 jx3 jx7 jx8 v_t_copies n) jx4 jx5 jx6 (jx9 + (1 : Int32)) v_t_thrown v_t_sums v_t_parts v_t_heaps else (fX11_best_114 jk85 jx2 jx3 jx7 jx8 v_t_copies n) jz4 jx7 jx9 (jx9 + (1 : Int32)) v_t_thrown v_t_sums v_t_parts v_t_heaps))) := rfl
def fX11_best_85 (jx2 : Int32) (jx3 : Int32) (v_t_copies : Int32) : Nat → Int32 → Int32 → Int32 → Int32 → Int32 → (Nat → Int32) → (Nat → Int32) → (Nat → Int32) → Option (Int32 × Int32 × (Nat → Int32) × (Nat → Int32) × (Nat → Int32))
  | 0, _, _, _, _, _, _, _, _ => none
  | n + 1, jx4, jx5, jx6, jx7, v_t_thrown, v_t_sums, v_t_parts, v_t_heaps => if ((1 : Int32) <<< (((2 : Int32) * v_t_copies) &&& 31)) ≤ jx7 then if jx3 = 0 then some (jx4, v_t_thrown, v_t_sums, v_t_parts, v_t_heaps) else if jx3 = (1 : Int32) then some (jx5, v_t_thrown, v_t_sums, v_t_parts, v_t_heaps) else some (jx6, v_t_thrown, v_t_sums, v_t_parts, v_t_heaps) else bd3 (fX11_sumsBy jx7 v_t_copies v_t_sums v_t_parts v_t_heaps) (fun jr4 jg5 jg6 => fX11_best_114 (fX11_best_85 jx2 jx3 v_t_copies n) jx2 jx3 jx7 jr4 v_t_copies fuel jx4 jx5 jx6 ((jr4 / (2 : Int32)) + (1 : Int32)) v_t_thrown jg5 v_t_parts jg6)
theorem fX11_best_85_s (jx2 : Int32) (jx3 : Int32) (v_t_copies : Int32) (n : Nat) (jx4 : Int32) (jx5 : Int32) (jx6 : Int32) (jx7 : Int32) (v_t_thrown : Int32) (v_t_sums : (Nat → Int32)) (v_t_parts : (Nat → Int32)) (v_t_heaps : (Nat → Int32)) : fX11_best_85 jx2 jx3 v_t_copies (n + 1) jx4 jx5 jx6 jx7 v_t_thrown v_t_sums v_t_parts v_t_heaps = if ((1 : Int32) <<< (((2 : Int32) * v_t_copies) &&& 31)) ≤ jx7 then if jx3 = 0 then some (jx4, v_t_thrown, v_t_sums, v_t_parts, v_t_heaps) else if jx3 = (1 : Int32) then some (jx5, v_t_thrown, v_t_sums, v_t_parts, v_t_heaps) else some (jx6, v_t_thrown, v_t_sums, v_t_parts, v_t_heaps) else bd3 (fX11_sumsBy jx7 v_t_copies v_t_sums v_t_parts v_t_heaps) (fun jr4 jg5 jg6 => fX11_best_114 (fX11_best_85 jx2 jx3 v_t_copies n) jx2 jx3 jx7 jr4 v_t_copies fuel jx4 jx5 jx6 ((jr4 / (2 : Int32)) + (1 : Int32)) v_t_thrown jg5 v_t_parts jg6) := rfl
def fX11_best_51 (jx1 : Int32) (jx2 : Int32) (jx3 : Int32) (jx4 : Int32) (jx5 : Int32) (jx6 : Int32) (v_t_copies : Int32) : Nat → Int32 → Int32 → (Nat → Int32) → (Nat → Int32) → (Nat → Int32) → Option (Int32 × Int32 × (Nat → Int32) × (Nat → Int32) × (Nat → Int32))
  | 0, _, _, _, _, _ => none
  | n + 1, jx7, v_t_thrown, v_t_sums, v_t_parts, v_t_heaps => if ((1 : Int32) <<< (v_t_copies &&& 31)) ≤ jx7 then fX11_best_85 jx2 jx3 v_t_copies fuel jx4 jx5 jx6 (1 : Int32) v_t_thrown v_t_sums v_t_parts v_t_heaps else bd1 (fX11_partOf jx7 jx1 v_t_copies) (fun jr2 => ckI 64 jx7 ((fX11_best_51 jx1 jx2 jx3 jx4 jx5 jx6 v_t_copies n) (jx7 + (1 : Int32)) v_t_thrown v_t_sums (upd v_t_parts (Int32.toNatClampNeg jx7) jr2) v_t_heaps))
theorem fX11_best_51_s (jx1 : Int32) (jx2 : Int32) (jx3 : Int32) (jx4 : Int32) (jx5 : Int32) (jx6 : Int32) (v_t_copies : Int32) (n : Nat) (jx7 : Int32) (v_t_thrown : Int32) (v_t_sums : (Nat → Int32)) (v_t_parts : (Nat → Int32)) (v_t_heaps : (Nat → Int32)) : fX11_best_51 jx1 jx2 jx3 jx4 jx5 jx6 v_t_copies (n + 1) jx7 v_t_thrown v_t_sums v_t_parts v_t_heaps = if ((1 : Int32) <<< (v_t_copies &&& 31)) ≤ jx7 then fX11_best_85 jx2 jx3 v_t_copies fuel jx4 jx5 jx6 (1 : Int32) v_t_thrown v_t_sums v_t_parts v_t_heaps else bd1 (fX11_partOf jx7 jx1 v_t_copies) (fun jr2 => ckI 64 jx7 ((fX11_best_51 jx1 jx2 jx3 jx4 jx5 jx6 v_t_copies n) (jx7 + (1 : Int32)) v_t_thrown v_t_sums (upd v_t_parts (Int32.toNatClampNeg jx7) jr2) v_t_heaps)) := rfl
def fX11_best (jx1 : Int32) (jx2 : Int32) (jx3 : Int32) (v_t_thrown : Int32) (v_t_copies : Int32) (v_t_sums : (Nat → Int32)) (v_t_parts : (Nat → Int32)) (v_t_heaps : (Nat → Int32)) : Option (Int32 × Int32 × (Nat → Int32) × (Nat → Int32) × (Nat → Int32)) := bd1 (fX11_in jx1 (0 : Int32) (10 : Int32)) (fun jr1 => if jr1 = 0 then some ((-1 : Int32), (0 : Int32), v_t_sums, v_t_parts, v_t_heaps) else bd1 (fX11_in jx2 (0 : Int32) (10 : Int32)) (fun jr4 => if jr4 = 0 then some ((-1 : Int32), (0 : Int32), v_t_sums, v_t_parts, v_t_heaps) else bd1 (fX11_in jx3 (0 : Int32) (2 : Int32)) (fun jr7 => if jr7 = 0 then some ((-1 : Int32), (0 : Int32), v_t_sums, v_t_parts, v_t_heaps) else fX11_best_51 jx1 jx2 jx3 (-9 : Int32) (-9 : Int32) (-9 : Int32) v_t_copies fuel (0 : Int32) (0 : Int32) v_t_sums v_t_parts v_t_heaps)))
abbrev rmX11_best : Room := { frames := 2, cells := 0, slots := 0, locals := 45 }
theorem iX11_best_X11 : ∀ w ∈ wsX110, w ∈ wsX11_best := fun _ h => List.mem_cons_of_mem _ (List.mem_append_right _ h)
theorem mX11_best_4 : (Cond.fieldLink RX11 35 "VoteFilesModel" "sums" "[I") ∈ wsX11_best := List.mem_of_getElem? (i := 4) rfl
theorem mX11_best_2 : (Cond.fieldLink RX11 119 "VoteFilesModel" "copies" "I") ∈ wsX11_best := List.mem_of_getElem? (i := 2) rfl
theorem mX11_best_3 : (Cond.fieldLink RX11 38 "VoteFilesModel" "parts" "[I") ∈ wsX11_best := List.mem_of_getElem? (i := 3) rfl
theorem mX11_best_1 : (Cond.fieldLink RX11 50 "VoteFilesModel" "thrown" "I") ∈ wsX11_best := List.mem_of_getElem? (i := 1) rfl
set_option maxHeartbeats 4000000 in
set_option maxRecDepth 100000 in
theorem wX11_best_114 {p : Program} {l : Launch} {e : Env} {s : State} {m : MethodId} {args : Array Value} {below : List Frame} {meth : Method} {c : Code} {D : va_G} {cI cZ : ClassId} (S : CallFix p m c cX11_best 11 s args wsX11_best RX11) (hr : meth.sig.returnType = some .int) (hlk : meth.locks = false) (hK : KX D cI cZ s) {a_t a_t_text a_t_draft a_t_s a_t_undos a_t_kept a_t_isKept a_t_seenWay a_t_seenIs a_t_sums a_t_parts a_t_heaps : Nat} {jk85 : Int32 → Int32 → Int32 → Int32 → Int32 → (Nat → Int32) → (Nat → Int32) → (Nat → Int32) → Option (Int32 × Int32 × (Nat → Int32) × (Nat → Int32) × (Nat → Int32))} {jx2 : Int32} {jx3 : Int32} {jx7 : Int32} {jx8 : Int32} {v_t_copies : Int32} {v_t_typed : Int32} {v_t_spot : Int32} {v_t_token : Int32} {v_t_place : Int32} {v_t_value : Int32} {v_t_fault : Int32} {v_t_draftCopies : Int32} {v_t_undoMany : Int32} {v_t_seenMany : Int32} {v_t_asked : Int32} {r : Int32} {o_t_thrown : Int32} {o_t_sums : (Nat → Int32)} {o_t_parts : (Nat → Int32)} {o_t_heaps : (Nat → Int32)} {A : Nat → Prop} (hA : ∀ q : Nat, s.heap.size ≤ q → A q) (hk85 : ∀ (jx4 : Int32) (jx5 : Int32) (jx6 : Int32) (jx7 : Int32) (v_t_thrown : Int32) (v_t_sums : (Nat → Int32)) (v_t_parts : (Nat → Int32)) (v_t_heaps : (Nat → Int32)) (ls : Array Slot) (H : Heap) (locs : List Loc), jk85 jx4 jx5 jx6 jx7 v_t_thrown v_t_sums v_t_parts v_t_heaps = some (r, o_t_thrown, o_t_sums, o_t_parts, o_t_heaps) → lv_has ls 11 [(0, .ref a_t), (2, .int jx2), (3, .int jx3), (4, .int jx4), (5, .int jx5), (6, .int jx6), (7, .int jx7)] → va_P D vwCl [(a_t, .inr (11, [.int v_t_thrown, .ref a_t_text, .int v_t_typed, .int v_t_spot, .int v_t_token, .int v_t_place, .int v_t_value, .int v_t_fault, .int v_t_copies, .int v_t_draftCopies, .ref a_t_draft, .ref a_t_s, .ref a_t_undos, .int v_t_undoMany, .ref a_t_kept, .ref a_t_isKept, .ref a_t_seenWay, .ref a_t_seenIs, .int v_t_seenMany, .int v_t_asked, .ref a_t_sums, .ref a_t_parts, .ref a_t_heaps])), (a_t_sums, .inl (cI, 20, .inl v_t_sums)), (a_t_parts, .inl (cI, 64, .inl v_t_parts)), (a_t_heaps, .inl (cI, 64, .inl v_t_heaps))] H → va_D A [(a_t, .inr (11, [.int v_t_thrown, .ref a_t_text, .int v_t_typed, .int v_t_spot, .int v_t_token, .int v_t_place, .int v_t_value, .int v_t_fault, .int v_t_copies, .int v_t_draftCopies, .ref a_t_draft, .ref a_t_s, .ref a_t_undos, .int v_t_undoMany, .ref a_t_kept, .ref a_t_isKept, .ref a_t_seenWay, .ref a_t_seenIs, .int v_t_seenMany, .int v_t_asked, .ref a_t_sums, .ref a_t_parts, .ref a_t_heaps])), (a_t_sums, .inl (cI, 20, .inl v_t_sums)), (a_t_parts, .inl (cI, 64, .inl v_t_parts)), (a_t_heaps, .inl (cI, 64, .inl v_t_heaps))] → va_S A s.heap H locs → W p l e rmX11_best s m args below meth c H locs 0 0 (MQ below (qM D (some (.int r)) [(a_t, .inr (11, [.int o_t_thrown, .ref a_t_text, .int v_t_typed, .int v_t_spot, .int v_t_token, .int v_t_place, .int v_t_value, .int v_t_fault, .int v_t_copies, .int v_t_draftCopies, .ref a_t_draft, .ref a_t_s, .ref a_t_undos, .int v_t_undoMany, .ref a_t_kept, .ref a_t_isKept, .ref a_t_seenWay, .ref a_t_seenIs, .int v_t_seenMany, .int v_t_asked, .ref a_t_sums, .ref a_t_parts, .ref a_t_heaps])), (a_t_sums, .inl (cI, 20, .inl o_t_sums)), (a_t_parts, .inl (cI, 64, .inl o_t_parts)), (a_t_heaps, .inl (cI, 64, .inl o_t_heaps))] A) args s 0 0 A) (F0 m 85 ls [])) : ∀ (n : Nat), ∀ (jx4 : Int32) (jx5 : Int32) (jx6 : Int32) (jx9 : Int32) (v_t_thrown : Int32) (v_t_sums : (Nat → Int32)) (v_t_parts : (Nat → Int32)) (v_t_heaps : (Nat → Int32)) (ls : Array Slot) (H : Heap) (locs : List Loc), fX11_best_114 jk85 jx2 jx3 jx7 jx8 v_t_copies n jx4 jx5 jx6 jx9 v_t_thrown v_t_sums v_t_parts v_t_heaps = some (r, o_t_thrown, o_t_sums, o_t_parts, o_t_heaps) → lv_has ls 11 [(0, .ref a_t), (2, .int jx2), (3, .int jx3), (4, .int jx4), (5, .int jx5), (6, .int jx6), (7, .int jx7), (8, .int jx8), (9, .int jx9)] → va_P D vwCl [(a_t, .inr (11, [.int v_t_thrown, .ref a_t_text, .int v_t_typed, .int v_t_spot, .int v_t_token, .int v_t_place, .int v_t_value, .int v_t_fault, .int v_t_copies, .int v_t_draftCopies, .ref a_t_draft, .ref a_t_s, .ref a_t_undos, .int v_t_undoMany, .ref a_t_kept, .ref a_t_isKept, .ref a_t_seenWay, .ref a_t_seenIs, .int v_t_seenMany, .int v_t_asked, .ref a_t_sums, .ref a_t_parts, .ref a_t_heaps])), (a_t_sums, .inl (cI, 20, .inl v_t_sums)), (a_t_parts, .inl (cI, 64, .inl v_t_parts)), (a_t_heaps, .inl (cI, 64, .inl v_t_heaps))] H → va_D A [(a_t, .inr (11, [.int v_t_thrown, .ref a_t_text, .int v_t_typed, .int v_t_spot, .int v_t_token, .int v_t_place, .int v_t_value, .int v_t_fault, .int v_t_copies, .int v_t_draftCopies, .ref a_t_draft, .ref a_t_s, .ref a_t_undos, .int v_t_undoMany, .ref a_t_kept, .ref a_t_isKept, .ref a_t_seenWay, .ref a_t_seenIs, .int v_t_seenMany, .int v_t_asked, .ref a_t_sums, .ref a_t_parts, .ref a_t_heaps])), (a_t_sums, .inl (cI, 20, .inl v_t_sums)), (a_t_parts, .inl (cI, 64, .inl v_t_parts)), (a_t_heaps, .inl (cI, 64, .inl v_t_heaps))] → va_S A s.heap H locs → W p l e rmX11_best s m args below meth c H locs 0 0 (MQ below (qM D (some (.int r)) [(a_t, .inr (11, [.int o_t_thrown, .ref a_t_text, .int v_t_typed, .int v_t_spot, .int v_t_token, .int v_t_place, .int v_t_value, .int v_t_fault, .int v_t_copies, .int v_t_draftCopies, .ref a_t_draft, .ref a_t_s, .ref a_t_undos, .int v_t_undoMany, .ref a_t_kept, .ref a_t_isKept, .ref a_t_seenWay, .ref a_t_seenIs, .int v_t_seenMany, .int v_t_asked, .ref a_t_sums, .ref a_t_parts, .ref a_t_heaps])), (a_t_sums, .inl (cI, 20, .inl o_t_sums)), (a_t_parts, .inl (cI, 64, .inl o_t_parts)), (a_t_heaps, .inl (cI, 64, .inl o_t_heaps))] A) args s 0 0 A) (F0 m 114 ls []) := by
  obtain ⟨hx, hb, hml, hown, hts⟩ := id S
  intro n
  induction n with
  | zero =>
    intro jx4 jx5 jx6 jx9 v_t_thrown v_t_sums v_t_parts v_t_heaps ls H locs hf hl hP hD hS
    cases (show (none : Option _) = some _ from hf)
  | succ n ih =>
    intro jx4 jx5 jx6 jx9 v_t_thrown v_t_sums v_t_parts v_t_heaps ls H locs hf hl hP hD hS
    have hf := (fX11_best_114_s _ _ _ _ _ _ n _ _ _ _ _ _ _ _).symm.trans hf
    refine lv_iload hx hb dX11_best_114 (lv_at hl 8 rfl) ?_
    refine lv_iload hx hb dX11_best_116 (lv_at hl 7 rfl) ?_
    refine lv_icmp_gt (tgt := 175) hx hb dX11_best_118 (by decide) (fun jc1 => ?_) (fun jc1 => ?_)
    · have hf := ite_t jc1 hf
      refine lv_iinc (v := (jx7 + (1 : Int32))) (lv' := [(7, .int (jx7 + (1 : Int32))), (0, .ref a_t), (2, .int jx2), (3, .int jx3), (4, .int jx4), (5, .int jx5), (6, .int jx6), (8, .int jx8), (9, .int jx9)]) hx hb dX11_best_175 hl (k := 6) rfl rfl (by decide) rfl (fun ls hl => ?_)
      refine lv_goto (tgt := 85) hx hb dX11_best_178 (by decide) ?_
      exact hk85 jx4 jx5 jx6 (jx7 + (1 : Int32)) v_t_thrown v_t_sums v_t_parts v_t_heaps ls _ _ hf (lv_sub hl [1, 2, 3, 4, 5, 6, 0] rfl) hP hD hS
    · have hf := ite_f jc1 hf
      refine lv_iload_n hx hb dX11_best_121 rfl (lv_at hl 1 rfl) ?_
      refine lv_aload_n hx hb dX11_best_122 rfl (lv_at hl 0 rfl) ?_
      refine va_get (D := D) (ci := 11) (v := .ref a_t_sums) (C := RX11) (T := TX11) (N := 23) hx hb hts iX11_best_X11 hown hK.1 hP 0 rfl rfl 20 (by decide) (hts _ mX11_best_4) (fun _ h9 => h9) rfl dX11_best_123 ?_
      refine lv_iload hx hb dX11_best_126 (lv_at hl 7 rfl) ?_
      refine lv_iconst (v := 1) hx hb dX11_best_128 (by decide) ?_
      refine lv_iadd hx hb dX11_best_129 ?_
      refine lv_iload hx hb dX11_best_130 (lv_at hl 8 rfl) ?_
      refine lv_isub hx hb dX11_best_132 ?_
      obtain ⟨jh2, hf⟩ := ckI_inv hf
      refine va_iald hx hb hK.1 hP 1 0 rfl rfl jh2 dX11_best_133 ?_
      refine lv_imul hx hb dX11_best_134 ?_
      refine lv_bipush (v := 10) hx hb dX11_best_135 (by decide) ?_
      refine lv_iload_n hx hb dX11_best_137 rfl (lv_at hl 1 rfl) ?_
      refine lv_isub hx hb dX11_best_138 ?_
      refine lv_aload_n hx hb dX11_best_139 rfl (lv_at hl 0 rfl) ?_
      refine va_get (D := D) (ci := 11) (v := .ref a_t_sums) (C := RX11) (T := TX11) (N := 23) hx hb hts iX11_best_X11 hown hK.1 hP 0 rfl rfl 20 (by decide) (hts _ mX11_best_4) (fun _ h9 => h9) rfl dX11_best_140 ?_
      refine lv_iload hx hb dX11_best_143 (lv_at hl 8 rfl) ?_
      obtain ⟨jh3, hf⟩ := ckI_inv hf
      refine va_iald hx hb hK.1 hP 1 0 rfl rfl jh3 dX11_best_145 ?_
      refine lv_imul hx hb dX11_best_146 ?_
      refine lv_iadd hx hb dX11_best_147 ?_
      obtain ⟨jz4, ejz4, hf⟩ := nmI_inv hf
      refine lv_nmI ejz4 ?_
      refine lv_istore (lv' := [(10, .int jz4), (0, .ref a_t), (2, .int jx2), (3, .int jx3), (4, .int jx4), (5, .int jx5), (6, .int jx6), (7, .int jx7), (8, .int jx8), (9, .int jx9)]) hx hb dX11_best_148 hl (by decide) rfl (fun ls hl => ?_)
      refine lv_iload hx hb dX11_best_150 (lv_at hl 0 rfl) ?_
      refine lv_iload hx hb dX11_best_152 (lv_at hl 4 rfl) ?_
      refine lv_icmp_le (tgt := 169) hx hb dX11_best_154 (by decide) (fun jc5 => ?_) (fun jc5 => ?_)
      · have hf := ite_t jc5 hf
        refine lv_iinc (v := (jx9 + (1 : Int32))) (lv' := [(9, .int (jx9 + (1 : Int32))), (10, .int jz4), (0, .ref a_t), (2, .int jx2), (3, .int jx3), (4, .int jx4), (5, .int jx5), (6, .int jx6), (7, .int jx7), (8, .int jx8)]) hx hb dX11_best_169 hl (k := 9) rfl rfl (by decide) rfl (fun ls hl => ?_)
        refine lv_goto (tgt := 114) hx hb dX11_best_172 (by decide) ?_
        exact ih jx4 jx5 jx6 (jx9 + (1 : Int32)) v_t_thrown v_t_sums v_t_parts v_t_heaps ls _ _ hf (lv_sub hl [2, 3, 4, 5, 6, 7, 8, 9, 0] rfl) hP hD hS
      · have hf := ite_f jc5 hf
        refine lv_iload hx hb dX11_best_157 (lv_at hl 0 rfl) ?_
        refine lv_istore (lv' := [(4, .int jz4), (10, .int jz4), (0, .ref a_t), (2, .int jx2), (3, .int jx3), (5, .int jx5), (6, .int jx6), (7, .int jx7), (8, .int jx8), (9, .int jx9)]) hx hb dX11_best_159 hl (by decide) rfl (fun ls hl => ?_)
        refine lv_iload hx hb dX11_best_161 (lv_at hl 7 rfl) ?_
        refine lv_istore (lv' := [(5, .int jx7), (4, .int jz4), (10, .int jz4), (0, .ref a_t), (2, .int jx2), (3, .int jx3), (6, .int jx6), (7, .int jx7), (8, .int jx8), (9, .int jx9)]) hx hb dX11_best_163 hl (by decide) rfl (fun ls hl => ?_)
        refine lv_iload hx hb dX11_best_165 (lv_at hl 9 rfl) ?_
        refine lv_istore (lv' := [(6, .int jx9), (5, .int jx7), (4, .int jz4), (10, .int jz4), (0, .ref a_t), (2, .int jx2), (3, .int jx3), (7, .int jx7), (8, .int jx8), (9, .int jx9)]) hx hb dX11_best_167 hl (by decide) rfl (fun ls hl => ?_)
        refine lv_iinc (v := (jx9 + (1 : Int32))) (lv' := [(9, .int (jx9 + (1 : Int32))), (6, .int jx9), (5, .int jx7), (4, .int jz4), (10, .int jz4), (0, .ref a_t), (2, .int jx2), (3, .int jx3), (7, .int jx7), (8, .int jx8)]) hx hb dX11_best_169 hl (k := 9) rfl rfl (by decide) rfl (fun ls hl => ?_)
        refine lv_goto (tgt := 114) hx hb dX11_best_172 (by decide) ?_
        exact ih jz4 jx7 jx9 (jx9 + (1 : Int32)) v_t_thrown v_t_sums v_t_parts v_t_heaps ls _ _ hf (lv_sub hl [5, 6, 7, 3, 2, 1, 8, 9, 0] rfl) hP hD hS
set_option maxHeartbeats 4000000 in
set_option maxRecDepth 100000 in
theorem wX11_best_85 {p : Program} {l : Launch} {e : Env} {s : State} {m : MethodId} {args : Array Value} {below : List Frame} {meth : Method} {c : Code} {D : va_G} {cI cZ : ClassId} (S : CallFix p m c cX11_best 11 s args wsX11_best RX11) (hr : meth.sig.returnType = some .int) (hlk : meth.locks = false) (hK : KX D cI cZ s) {a_t a_t_text a_t_draft a_t_s a_t_undos a_t_kept a_t_isKept a_t_seenWay a_t_seenIs a_t_sums a_t_parts a_t_heaps : Nat} {jx2 : Int32} {jx3 : Int32} {v_t_copies : Int32} {v_t_typed : Int32} {v_t_spot : Int32} {v_t_token : Int32} {v_t_place : Int32} {v_t_value : Int32} {v_t_fault : Int32} {v_t_draftCopies : Int32} {v_t_undoMany : Int32} {v_t_seenMany : Int32} {v_t_asked : Int32} {r : Int32} {o_t_thrown : Int32} {o_t_sums : (Nat → Int32)} {o_t_parts : (Nat → Int32)} {o_t_heaps : (Nat → Int32)} {A : Nat → Prop} (hA : ∀ q : Nat, s.heap.size ≤ q → A q) : ∀ (n : Nat), ∀ (jx4 : Int32) (jx5 : Int32) (jx6 : Int32) (jx7 : Int32) (v_t_thrown : Int32) (v_t_sums : (Nat → Int32)) (v_t_parts : (Nat → Int32)) (v_t_heaps : (Nat → Int32)) (ls : Array Slot) (H : Heap) (locs : List Loc), fX11_best_85 jx2 jx3 v_t_copies n jx4 jx5 jx6 jx7 v_t_thrown v_t_sums v_t_parts v_t_heaps = some (r, o_t_thrown, o_t_sums, o_t_parts, o_t_heaps) → lv_has ls 11 [(0, .ref a_t), (2, .int jx2), (3, .int jx3), (4, .int jx4), (5, .int jx5), (6, .int jx6), (7, .int jx7)] → va_P D vwCl [(a_t, .inr (11, [.int v_t_thrown, .ref a_t_text, .int v_t_typed, .int v_t_spot, .int v_t_token, .int v_t_place, .int v_t_value, .int v_t_fault, .int v_t_copies, .int v_t_draftCopies, .ref a_t_draft, .ref a_t_s, .ref a_t_undos, .int v_t_undoMany, .ref a_t_kept, .ref a_t_isKept, .ref a_t_seenWay, .ref a_t_seenIs, .int v_t_seenMany, .int v_t_asked, .ref a_t_sums, .ref a_t_parts, .ref a_t_heaps])), (a_t_sums, .inl (cI, 20, .inl v_t_sums)), (a_t_parts, .inl (cI, 64, .inl v_t_parts)), (a_t_heaps, .inl (cI, 64, .inl v_t_heaps))] H → va_D A [(a_t, .inr (11, [.int v_t_thrown, .ref a_t_text, .int v_t_typed, .int v_t_spot, .int v_t_token, .int v_t_place, .int v_t_value, .int v_t_fault, .int v_t_copies, .int v_t_draftCopies, .ref a_t_draft, .ref a_t_s, .ref a_t_undos, .int v_t_undoMany, .ref a_t_kept, .ref a_t_isKept, .ref a_t_seenWay, .ref a_t_seenIs, .int v_t_seenMany, .int v_t_asked, .ref a_t_sums, .ref a_t_parts, .ref a_t_heaps])), (a_t_sums, .inl (cI, 20, .inl v_t_sums)), (a_t_parts, .inl (cI, 64, .inl v_t_parts)), (a_t_heaps, .inl (cI, 64, .inl v_t_heaps))] → va_S A s.heap H locs → W p l e rmX11_best s m args below meth c H locs 0 0 (MQ below (qM D (some (.int r)) [(a_t, .inr (11, [.int o_t_thrown, .ref a_t_text, .int v_t_typed, .int v_t_spot, .int v_t_token, .int v_t_place, .int v_t_value, .int v_t_fault, .int v_t_copies, .int v_t_draftCopies, .ref a_t_draft, .ref a_t_s, .ref a_t_undos, .int v_t_undoMany, .ref a_t_kept, .ref a_t_isKept, .ref a_t_seenWay, .ref a_t_seenIs, .int v_t_seenMany, .int v_t_asked, .ref a_t_sums, .ref a_t_parts, .ref a_t_heaps])), (a_t_sums, .inl (cI, 20, .inl o_t_sums)), (a_t_parts, .inl (cI, 64, .inl o_t_parts)), (a_t_heaps, .inl (cI, 64, .inl o_t_heaps))] A) args s 0 0 A) (F0 m 85 ls []) := by
  obtain ⟨hx, hb, hml, hown, hts⟩ := id S
  intro n
  induction n with
  | zero =>
    intro jx4 jx5 jx6 jx7 v_t_thrown v_t_sums v_t_parts v_t_heaps ls H locs hf hl hP hD hS
    cases (show (none : Option _) = some _ from hf)
  | succ n ih =>
    intro jx4 jx5 jx6 jx7 v_t_thrown v_t_sums v_t_parts v_t_heaps ls H locs hf hl hP hD hS
    have hf := (fX11_best_85_s _ _ _ n _ _ _ _ _ _ _ _).symm.trans hf
    refine lv_iload hx hb dX11_best_85 (lv_at hl 6 rfl) ?_
    refine lv_iconst (v := 1) hx hb dX11_best_87 (by decide) ?_
    refine lv_iconst (v := 2) hx hb dX11_best_88 (by decide) ?_
    refine lv_aload_n hx hb dX11_best_89 rfl (lv_at hl 0 rfl) ?_
    refine va_get (D := D) (ci := 11) (v := .int v_t_copies) (C := RX11) (T := TX11) (N := 23) hx hb hts iX11_best_X11 hown hK.1 hP 0 rfl rfl 8 (by decide) (hts _ mX11_best_2) (fun _ h9 => h9) rfl dX11_best_90 ?_
    refine lv_imul hx hb dX11_best_93 ?_
    refine lv_ishl hx hb dX11_best_94 ?_
    refine lv_icmp_ge (tgt := 181) hx hb dX11_best_95 (by decide) (fun jc1 => ?_) (fun jc1 => ?_)
    · have hf := ite_t jc1 hf
      refine lv_iload_n hx hb dX11_best_181 rfl (lv_at hl 2 rfl) ?_
      refine lv_if_ne (tgt := 190) hx hb dX11_best_182 (by decide) (fun jc2 => ?_) (fun jc2 => ?_)
      · have hf := ite_f jc2 hf
        refine lv_iload_n hx hb dX11_best_190 rfl (lv_at hl 2 rfl) ?_
        refine lv_iconst (v := 1) hx hb dX11_best_191 (by decide) ?_
        refine lv_icmp_ne (tgt := 200) hx hb dX11_best_192 (by decide) (fun jc3 => ?_) (fun jc3 => ?_)
        · have hf := ite_f jc3 hf
          refine lv_iload hx hb dX11_best_200 (lv_at hl 5 rfl) ?_
          obtain ⟨rfl, rfl, rfl, rfl, rfl⟩ := pr5_inv hf
          exact retM hx hb hr hlk hP hD hS dX11_best_202
        · have hf := ite_t jc3 hf
          refine lv_iload hx hb dX11_best_195 (lv_at hl 4 rfl) ?_
          refine lv_goto (tgt := 202) hx hb dX11_best_197 (by decide) ?_
          obtain ⟨rfl, rfl, rfl, rfl, rfl⟩ := pr5_inv hf
          exact retM hx hb hr hlk hP hD hS dX11_best_202
      · have hf := ite_t jc2 hf
        refine lv_iload hx hb dX11_best_185 (lv_at hl 3 rfl) ?_
        refine lv_goto (tgt := 202) hx hb dX11_best_187 (by decide) ?_
        obtain ⟨rfl, rfl, rfl, rfl, rfl⟩ := pr5_inv hf
        exact retM hx hb hr hlk hP hD hS dX11_best_202
    · have hf := ite_f jc1 hf
      refine lv_aload_n hx hb dX11_best_98 rfl (lv_at hl 0 rfl) ?_
      refine lv_iload hx hb dX11_best_99 (lv_at hl 6 rfl) ?_
      obtain ⟨jr4, jg5, jg6, je7, hf⟩ := bd3_inv hf
      refine callMV (As := [.int jx7]) (rest := []) (wr := []) (wn := [(a_t, .inr (11, [.int v_t_thrown, .ref a_t_text, .int v_t_typed, .int v_t_spot, .int v_t_token, .int v_t_place, .int v_t_value, .int v_t_fault, .int v_t_copies, .int v_t_draftCopies, .ref a_t_draft, .ref a_t_s, .ref a_t_undos, .int v_t_undoMany, .ref a_t_kept, .ref a_t_isKept, .ref a_t_seenWay, .ref a_t_seenIs, .int v_t_seenMany, .int v_t_asked, .ref a_t_sums, .ref a_t_parts, .ref a_t_heaps])), (a_t_sums, .inl (cI, 20, .inl jg5)), (a_t_parts, .inl (cI, 64, .inl v_t_parts)), (a_t_heaps, .inl (cI, 64, .inl jg6))]) S (ctX11_sumsBy l D cI cZ a_t a_t_text a_t_draft a_t_s a_t_undos a_t_kept a_t_isKept a_t_seenWay a_t_seenIs a_t_sums a_t_parts a_t_heaps jx7 v_t_copies v_t_sums v_t_parts v_t_heaps v_t_thrown v_t_typed v_t_spot v_t_token v_t_place v_t_value v_t_fault v_t_draftCopies v_t_undoMany v_t_seenMany v_t_asked jr4 jg5 jg6 je7) (cwV 1 hts gX11_best_X11_sumsBy rfl rfl rfl ⟨rfl, hdX11_sumsBy⟩ ⟨Nat.le_of_ble_eq_true rfl, Nat.le_of_ble_eq_true rfl⟩) hP hD hS hA [0, 1, 2, 3] [] [0, 1, 2, 3] rfl rfl (by decide) (by decide) (by decide) (by decide) rfl KX.xs (fun U _ hW => hK.warm hW) (va_recv hK.1 hP (ci := 11) (q0 := 0) rfl rfl) rfl hl.1 rfl (Nat.le_of_ble_eq_true rfl) dX11_best_101 ⟨Nat.zero_le _, Nat.zero_le _⟩ (fun H locs hP hD hS => ?_)
      refine W.eq (g2 := F0 m 104 ls [.int jr4]) rfl ?_
      refine lv_istore (lv' := [(8, .int jr4), (0, .ref a_t), (2, .int jx2), (3, .int jx3), (4, .int jx4), (5, .int jx5), (6, .int jx6), (7, .int jx7)]) hx hb dX11_best_104 hl (by decide) rfl (fun ls hl => ?_)
      refine lv_iload hx hb dX11_best_106 (lv_at hl 0 rfl) ?_
      refine lv_iconst (v := 2) hx hb dX11_best_108 (by decide) ?_
      refine lv_idiv hx hb dX11_best_109 (by decide) ?_
      refine lv_iconst (v := 1) hx hb dX11_best_110 (by decide) ?_
      refine lv_iadd hx hb dX11_best_111 ?_
      refine lv_istore (lv' := [(9, .int ((jr4 / (2 : Int32)) + (1 : Int32))), (8, .int jr4), (0, .ref a_t), (2, .int jx2), (3, .int jx3), (4, .int jx4), (5, .int jx5), (6, .int jx6), (7, .int jx7)]) hx hb dX11_best_112 hl (by decide) rfl (fun ls hl => ?_)
      exact wX11_best_114 S hr hlk hK hA ih fuel jx4 jx5 jx6 ((jr4 / (2 : Int32)) + (1 : Int32)) v_t_thrown jg5 v_t_parts jg6 ls _ _ hf (lv_sub hl [2, 3, 4, 5, 6, 7, 8, 1, 0] rfl) hP hD hS
set_option maxHeartbeats 4000000 in
set_option maxRecDepth 100000 in
theorem wX11_best_51 {p : Program} {l : Launch} {e : Env} {s : State} {m : MethodId} {args : Array Value} {below : List Frame} {meth : Method} {c : Code} {D : va_G} {cI cZ : ClassId} (S : CallFix p m c cX11_best 11 s args wsX11_best RX11) (hr : meth.sig.returnType = some .int) (hlk : meth.locks = false) (hK : KX D cI cZ s) {a_t a_t_text a_t_draft a_t_s a_t_undos a_t_kept a_t_isKept a_t_seenWay a_t_seenIs a_t_sums a_t_parts a_t_heaps : Nat} {jx1 : Int32} {jx2 : Int32} {jx3 : Int32} {jx4 : Int32} {jx5 : Int32} {jx6 : Int32} {v_t_copies : Int32} {v_t_typed : Int32} {v_t_spot : Int32} {v_t_token : Int32} {v_t_place : Int32} {v_t_value : Int32} {v_t_fault : Int32} {v_t_draftCopies : Int32} {v_t_undoMany : Int32} {v_t_seenMany : Int32} {v_t_asked : Int32} {r : Int32} {o_t_thrown : Int32} {o_t_sums : (Nat → Int32)} {o_t_parts : (Nat → Int32)} {o_t_heaps : (Nat → Int32)} {A : Nat → Prop} (hA : ∀ q : Nat, s.heap.size ≤ q → A q) : ∀ (n : Nat), ∀ (jx7 : Int32) (v_t_thrown : Int32) (v_t_sums : (Nat → Int32)) (v_t_parts : (Nat → Int32)) (v_t_heaps : (Nat → Int32)) (ls : Array Slot) (H : Heap) (locs : List Loc), fX11_best_51 jx1 jx2 jx3 jx4 jx5 jx6 v_t_copies n jx7 v_t_thrown v_t_sums v_t_parts v_t_heaps = some (r, o_t_thrown, o_t_sums, o_t_parts, o_t_heaps) → lv_has ls 11 [(0, .ref a_t), (1, .int jx1), (2, .int jx2), (3, .int jx3), (4, .int jx4), (5, .int jx5), (6, .int jx6), (7, .int jx7)] → va_P D vwCl [(a_t, .inr (11, [.int v_t_thrown, .ref a_t_text, .int v_t_typed, .int v_t_spot, .int v_t_token, .int v_t_place, .int v_t_value, .int v_t_fault, .int v_t_copies, .int v_t_draftCopies, .ref a_t_draft, .ref a_t_s, .ref a_t_undos, .int v_t_undoMany, .ref a_t_kept, .ref a_t_isKept, .ref a_t_seenWay, .ref a_t_seenIs, .int v_t_seenMany, .int v_t_asked, .ref a_t_sums, .ref a_t_parts, .ref a_t_heaps])), (a_t_sums, .inl (cI, 20, .inl v_t_sums)), (a_t_parts, .inl (cI, 64, .inl v_t_parts)), (a_t_heaps, .inl (cI, 64, .inl v_t_heaps))] H → va_D A [(a_t, .inr (11, [.int v_t_thrown, .ref a_t_text, .int v_t_typed, .int v_t_spot, .int v_t_token, .int v_t_place, .int v_t_value, .int v_t_fault, .int v_t_copies, .int v_t_draftCopies, .ref a_t_draft, .ref a_t_s, .ref a_t_undos, .int v_t_undoMany, .ref a_t_kept, .ref a_t_isKept, .ref a_t_seenWay, .ref a_t_seenIs, .int v_t_seenMany, .int v_t_asked, .ref a_t_sums, .ref a_t_parts, .ref a_t_heaps])), (a_t_sums, .inl (cI, 20, .inl v_t_sums)), (a_t_parts, .inl (cI, 64, .inl v_t_parts)), (a_t_heaps, .inl (cI, 64, .inl v_t_heaps))] → va_S A s.heap H locs → W p l e rmX11_best s m args below meth c H locs 0 0 (MQ below (qM D (some (.int r)) [(a_t, .inr (11, [.int o_t_thrown, .ref a_t_text, .int v_t_typed, .int v_t_spot, .int v_t_token, .int v_t_place, .int v_t_value, .int v_t_fault, .int v_t_copies, .int v_t_draftCopies, .ref a_t_draft, .ref a_t_s, .ref a_t_undos, .int v_t_undoMany, .ref a_t_kept, .ref a_t_isKept, .ref a_t_seenWay, .ref a_t_seenIs, .int v_t_seenMany, .int v_t_asked, .ref a_t_sums, .ref a_t_parts, .ref a_t_heaps])), (a_t_sums, .inl (cI, 20, .inl o_t_sums)), (a_t_parts, .inl (cI, 64, .inl o_t_parts)), (a_t_heaps, .inl (cI, 64, .inl o_t_heaps))] A) args s 0 0 A) (F0 m 51 ls []) := by
  obtain ⟨hx, hb, hml, hown, hts⟩ := id S
  intro n
  induction n with
  | zero =>
    intro jx7 v_t_thrown v_t_sums v_t_parts v_t_heaps ls H locs hf hl hP hD hS
    cases (show (none : Option _) = some _ from hf)
  | succ n ih =>
    intro jx7 v_t_thrown v_t_sums v_t_parts v_t_heaps ls H locs hf hl hP hD hS
    have hf := (fX11_best_51_s _ _ _ _ _ _ _ n _ _ _ _ _).symm.trans hf
    refine lv_iload hx hb dX11_best_51 (lv_at hl 7 rfl) ?_
    refine lv_iconst (v := 1) hx hb dX11_best_53 (by decide) ?_
    refine lv_aload_n hx hb dX11_best_54 rfl (lv_at hl 0 rfl) ?_
    refine va_get (D := D) (ci := 11) (v := .int v_t_copies) (C := RX11) (T := TX11) (N := 23) hx hb hts iX11_best_X11 hown hK.1 hP 0 rfl rfl 8 (by decide) (hts _ mX11_best_2) (fun _ h9 => h9) rfl dX11_best_55 ?_
    refine lv_ishl hx hb dX11_best_58 ?_
    refine lv_icmp_ge (tgt := 82) hx hb dX11_best_59 (by decide) (fun jc1 => ?_) (fun jc1 => ?_)
    · have hf := ite_t jc1 hf
      refine lv_iconst (v := 1) hx hb dX11_best_82 (by decide) ?_
      refine lv_istore (lv' := [(7, .int (1 : Int32)), (0, .ref a_t), (1, .int jx1), (2, .int jx2), (3, .int jx3), (4, .int jx4), (5, .int jx5), (6, .int jx6)]) hx hb dX11_best_83 hl (by decide) rfl (fun ls hl => ?_)
      exact wX11_best_85 S hr hlk hK hA fuel jx4 jx5 jx6 (1 : Int32) v_t_thrown v_t_sums v_t_parts v_t_heaps ls _ _ hf (lv_sub hl [1, 3, 4, 5, 6, 7, 0] rfl) hP hD hS
    · have hf := ite_f jc1 hf
      refine lv_aload_n hx hb dX11_best_62 rfl (lv_at hl 0 rfl) ?_
      refine va_get (D := D) (ci := 11) (v := .ref a_t_parts) (C := RX11) (T := TX11) (N := 23) hx hb hts iX11_best_X11 hown hK.1 hP 0 rfl rfl 21 (by decide) (hts _ mX11_best_3) (fun _ h9 => h9) rfl dX11_best_63 ?_
      refine lv_iload hx hb dX11_best_66 (lv_at hl 7 rfl) ?_
      refine lv_aload_n hx hb dX11_best_68 rfl (lv_at hl 0 rfl) ?_
      refine lv_iload hx hb dX11_best_69 (lv_at hl 7 rfl) ?_
      refine lv_iload_n hx hb dX11_best_71 rfl (lv_at hl 1 rfl) ?_
      obtain ⟨jr2, je3, hf⟩ := bd1_inv hf
      refine callRV (As := [.int jx7, .int jx1]) (rest := [.int jx7, .ref a_t_parts]) S (ctX11_partOf l D cI cZ a_t a_t_text a_t_draft a_t_s a_t_undos a_t_kept a_t_isKept a_t_seenWay a_t_seenIs a_t_sums a_t_parts a_t_heaps jx7 jx1 v_t_copies v_t_thrown v_t_typed v_t_spot v_t_token v_t_place v_t_value v_t_fault v_t_draftCopies v_t_undoMany v_t_seenMany v_t_asked jr2 je3) (cwV 2 hts gX11_best_X11_partOf rfl rfl rfl ⟨rfl, hdX11_partOf⟩ ⟨Nat.le_of_ble_eq_true rfl, Nat.le_of_ble_eq_true rfl⟩) hP [0] rfl KX.xs (fun U _ hW => hK.warm hW) (va_recv hK.1 hP (ci := 11) (q0 := 0) rfl rfl) rfl hl.1 rfl (Nat.le_of_ble_eq_true rfl) dX11_best_72 ⟨Nat.zero_le _, Nat.zero_le _⟩ ?_
      obtain ⟨jh4, hf⟩ := ckI_inv hf
      refine va_iast hx hb hK.1 hP hD hS 2 0 rfl rfl jh4 dX11_best_75 (fun H locs hP hD hS => ?_)
      have hP : va_P D vwCl [(a_t, .inr (11, [.int v_t_thrown, .ref a_t_text, .int v_t_typed, .int v_t_spot, .int v_t_token, .int v_t_place, .int v_t_value, .int v_t_fault, .int v_t_copies, .int v_t_draftCopies, .ref a_t_draft, .ref a_t_s, .ref a_t_undos, .int v_t_undoMany, .ref a_t_kept, .ref a_t_isKept, .ref a_t_seenWay, .ref a_t_seenIs, .int v_t_seenMany, .int v_t_asked, .ref a_t_sums, .ref a_t_parts, .ref a_t_heaps])), (a_t_sums, .inl (cI, 20, .inl v_t_sums)), (a_t_parts, .inl (cI, 64, .inl (upd v_t_parts (Int32.toNatClampNeg jx7) jr2))), (a_t_heaps, .inl (cI, 64, .inl v_t_heaps))] H := hP
      have hD : va_D A [(a_t, .inr (11, [.int v_t_thrown, .ref a_t_text, .int v_t_typed, .int v_t_spot, .int v_t_token, .int v_t_place, .int v_t_value, .int v_t_fault, .int v_t_copies, .int v_t_draftCopies, .ref a_t_draft, .ref a_t_s, .ref a_t_undos, .int v_t_undoMany, .ref a_t_kept, .ref a_t_isKept, .ref a_t_seenWay, .ref a_t_seenIs, .int v_t_seenMany, .int v_t_asked, .ref a_t_sums, .ref a_t_parts, .ref a_t_heaps])), (a_t_sums, .inl (cI, 20, .inl v_t_sums)), (a_t_parts, .inl (cI, 64, .inl (upd v_t_parts (Int32.toNatClampNeg jx7) jr2))), (a_t_heaps, .inl (cI, 64, .inl v_t_heaps))] := hD
      refine lv_iinc (v := (jx7 + (1 : Int32))) (lv' := [(7, .int (jx7 + (1 : Int32))), (0, .ref a_t), (1, .int jx1), (2, .int jx2), (3, .int jx3), (4, .int jx4), (5, .int jx5), (6, .int jx6)]) hx hb dX11_best_76 hl (k := 7) rfl rfl (by decide) rfl (fun ls hl => ?_)
      refine lv_goto (tgt := 51) hx hb dX11_best_79 (by decide) ?_
      exact ih (jx7 + (1 : Int32)) v_t_thrown v_t_sums (upd v_t_parts (Int32.toNatClampNeg jx7) jr2) v_t_heaps ls _ _ hf (lv_sub hl [1, 2, 3, 4, 5, 6, 7, 0] rfl) hP hD hS
theorem hdX11_best : yX11_best.cls ≠ "java/lang/invoke/MethodHandle" ∧ yX11_best.cls ≠ "java/lang/invoke/VarHandle" ∧ (parseMethodDescriptor yX11_best.desc).map (fun d => d.parameters.length) = some 3 := by decide +kernel
set_option maxHeartbeats 4000000 in
set_option maxRecDepth 100000 in
theorem ctX11_best (l : Launch) (D : va_G) (cI cZ : ClassId) (a_t a_t_text a_t_draft a_t_s a_t_undos a_t_kept a_t_isKept a_t_seenWay a_t_seenIs a_t_sums a_t_parts a_t_heaps : Nat) (jx1 : Int32) (jx2 : Int32) (jx3 : Int32) (v_t_thrown : Int32) (v_t_copies : Int32) (v_t_sums : (Nat → Int32)) (v_t_parts : (Nat → Int32)) (v_t_heaps : (Nat → Int32)) (v_t_typed : Int32) (v_t_spot : Int32) (v_t_token : Int32) (v_t_place : Int32) (v_t_value : Int32) (v_t_fault : Int32) (v_t_draftCopies : Int32) (v_t_undoMany : Int32) (v_t_seenMany : Int32) (v_t_asked : Int32) (r : Int32) (o_t_thrown : Int32) (o_t_sums : (Nat → Int32)) (o_t_parts : (Nat → Int32)) (o_t_heaps : (Nat → Int32)) (hf : fX11_best jx1 jx2 jx3 v_t_thrown v_t_copies v_t_sums v_t_parts v_t_heaps = some (r, o_t_thrown, o_t_sums, o_t_parts, o_t_heaps)) : cM l yX11_best wsX11_best rmX11_best [.ref a_t, .int jx1, .int jx2, .int jx3] D [(a_t, .inr (11, [.int v_t_thrown, .ref a_t_text, .int v_t_typed, .int v_t_spot, .int v_t_token, .int v_t_place, .int v_t_value, .int v_t_fault, .int v_t_copies, .int v_t_draftCopies, .ref a_t_draft, .ref a_t_s, .ref a_t_undos, .int v_t_undoMany, .ref a_t_kept, .ref a_t_isKept, .ref a_t_seenWay, .ref a_t_seenIs, .int v_t_seenMany, .int v_t_asked, .ref a_t_sums, .ref a_t_parts, .ref a_t_heaps])), (a_t_sums, .inl (cI, 20, .inl v_t_sums)), (a_t_parts, .inl (cI, 64, .inl v_t_parts)), (a_t_heaps, .inl (cI, 64, .inl v_t_heaps))] [(a_t, .inr (11, [.int o_t_thrown, .ref a_t_text, .int v_t_typed, .int v_t_spot, .int v_t_token, .int v_t_place, .int v_t_value, .int v_t_fault, .int v_t_copies, .int v_t_draftCopies, .ref a_t_draft, .ref a_t_s, .ref a_t_undos, .int v_t_undoMany, .ref a_t_kept, .ref a_t_isKept, .ref a_t_seenWay, .ref a_t_seenIs, .int v_t_seenMany, .int v_t_asked, .ref a_t_sums, .ref a_t_parts, .ref a_t_heaps])), (a_t_sums, .inl (cI, 20, .inl o_t_sums)), (a_t_parts, .inl (cI, 64, .inl o_t_parts)), (a_t_heaps, .inl (cI, 64, .inl o_t_heaps))] (KX D cI cZ) (some (.int r)) := by
  refine cM_of (cc := cX11_best) (maxL := 11) (ret := some .int) (by decide +kernel) rfl _ (Nat.le_of_ble_eq_true rfl) ?_
  intro p e s m below meth c ls A S hr hlk hP hK hl hD hA hS
  obtain ⟨hx, hb, hml, hown, hts⟩ := id S
  have hl : lv_has ls 11 [(0, .ref a_t), (1, .int jx1), (2, .int jx2), (3, .int jx3)] := hl
  unfold fX11_best at hf
  refine lv_aload_n hx hb dX11_best_0 rfl (lv_at hl 0 rfl) ?_
  refine lv_iconst (v := 0) hx hb dX11_best_1 (by decide) ?_
  refine va_put (D := D) (ci := 11) (v := .int (0 : Int32)) (ty := .int) (C := RX11) (T := TX11) (N := 23) hx hb hts iX11_best_X11 tyX11 tyX11_ok nmX11 hown hK.1 hP hD hS 0 rfl rfl 0 (by decide) (hts _ mX11_best_1) (fun _ h9 => h9) rfl (tyX11_ok 0 (by decide)) rfl rfl (Nat.le_of_ble_eq_true rfl) dX11_best_2 (fun H locs hP hD hS => ?_)
  have hP : va_P D vwCl [(a_t, .inr (11, [.int (0 : Int32), .ref a_t_text, .int v_t_typed, .int v_t_spot, .int v_t_token, .int v_t_place, .int v_t_value, .int v_t_fault, .int v_t_copies, .int v_t_draftCopies, .ref a_t_draft, .ref a_t_s, .ref a_t_undos, .int v_t_undoMany, .ref a_t_kept, .ref a_t_isKept, .ref a_t_seenWay, .ref a_t_seenIs, .int v_t_seenMany, .int v_t_asked, .ref a_t_sums, .ref a_t_parts, .ref a_t_heaps])), (a_t_sums, .inl (cI, 20, .inl v_t_sums)), (a_t_parts, .inl (cI, 64, .inl v_t_parts)), (a_t_heaps, .inl (cI, 64, .inl v_t_heaps))] H := hP
  have hD : va_D A [(a_t, .inr (11, [.int (0 : Int32), .ref a_t_text, .int v_t_typed, .int v_t_spot, .int v_t_token, .int v_t_place, .int v_t_value, .int v_t_fault, .int v_t_copies, .int v_t_draftCopies, .ref a_t_draft, .ref a_t_s, .ref a_t_undos, .int v_t_undoMany, .ref a_t_kept, .ref a_t_isKept, .ref a_t_seenWay, .ref a_t_seenIs, .int v_t_seenMany, .int v_t_asked, .ref a_t_sums, .ref a_t_parts, .ref a_t_heaps])), (a_t_sums, .inl (cI, 20, .inl v_t_sums)), (a_t_parts, .inl (cI, 64, .inl v_t_parts)), (a_t_heaps, .inl (cI, 64, .inl v_t_heaps))] := hD
  refine lv_iload_n hx hb dX11_best_5 rfl (lv_at hl 1 rfl) ?_
  refine lv_iconst (v := 0) hx hb dX11_best_6 (by decide) ?_
  refine lv_bipush (v := 10) hx hb dX11_best_7 (by decide) ?_
  obtain ⟨jr1, je2, hf⟩ := bd1_inv hf
  refine callRS (As := [.int jx1, .int (0 : Int32), .int (10 : Int32)]) (rest := []) S (ctX11_in l D cI cZ jx1 (0 : Int32) (10 : Int32) jr1 je2) (va_cwS 3 hts gX11_best_X11_in rfl rfl rfl hdX11_in ⟨Nat.le_of_ble_eq_true rfl, Nat.le_of_ble_eq_true rfl⟩) hP [] rfl KX.xs (fun U _ hW => hK.warm hW) rfl hl.1 rfl (Nat.le_of_ble_eq_true rfl) dX11_best_9 ⟨Nat.zero_le _, Nat.zero_le _⟩ ?_
  refine lv_if_eq (tgt := 34) hx hb dX11_best_12 (by decide) (fun jc3 => ?_) (fun jc3 => ?_)
  · have hf := ite_t jc3 hf
    refine lv_iconst (v := -1) hx hb dX11_best_34 (by decide) ?_
    obtain ⟨rfl, rfl, rfl, rfl, rfl⟩ := pr5_inv hf
    exact retM hx hb hr hlk hP hD hS dX11_best_35
  · have hf := ite_f jc3 hf
    refine lv_iload_n hx hb dX11_best_15 rfl (lv_at hl 2 rfl) ?_
    refine lv_iconst (v := 0) hx hb dX11_best_16 (by decide) ?_
    refine lv_bipush (v := 10) hx hb dX11_best_17 (by decide) ?_
    obtain ⟨jr4, je5, hf⟩ := bd1_inv hf
    refine callRS (As := [.int jx2, .int (0 : Int32), .int (10 : Int32)]) (rest := []) S (ctX11_in l D cI cZ jx2 (0 : Int32) (10 : Int32) jr4 je5) (va_cwS 3 hts gX11_best_X11_in rfl rfl rfl hdX11_in ⟨Nat.le_of_ble_eq_true rfl, Nat.le_of_ble_eq_true rfl⟩) hP [] rfl KX.xs (fun U _ hW => hK.warm hW) rfl hl.1 rfl (Nat.le_of_ble_eq_true rfl) dX11_best_19 ⟨Nat.zero_le _, Nat.zero_le _⟩ ?_
    refine lv_if_eq (tgt := 34) hx hb dX11_best_22 (by decide) (fun jc6 => ?_) (fun jc6 => ?_)
    · have hf := ite_t jc6 hf
      refine lv_iconst (v := -1) hx hb dX11_best_34 (by decide) ?_
      obtain ⟨rfl, rfl, rfl, rfl, rfl⟩ := pr5_inv hf
      exact retM hx hb hr hlk hP hD hS dX11_best_35
    · have hf := ite_f jc6 hf
      refine lv_iload_n hx hb dX11_best_25 rfl (lv_at hl 3 rfl) ?_
      refine lv_iconst (v := 0) hx hb dX11_best_26 (by decide) ?_
      refine lv_iconst (v := 2) hx hb dX11_best_27 (by decide) ?_
      obtain ⟨jr7, je8, hf⟩ := bd1_inv hf
      refine callRS (As := [.int jx3, .int (0 : Int32), .int (2 : Int32)]) (rest := []) S (ctX11_in l D cI cZ jx3 (0 : Int32) (2 : Int32) jr7 je8) (va_cwS 3 hts gX11_best_X11_in rfl rfl rfl hdX11_in ⟨Nat.le_of_ble_eq_true rfl, Nat.le_of_ble_eq_true rfl⟩) hP [] rfl KX.xs (fun U _ hW => hK.warm hW) rfl hl.1 rfl (Nat.le_of_ble_eq_true rfl) dX11_best_28 ⟨Nat.zero_le _, Nat.zero_le _⟩ ?_
      refine lv_if_ne (tgt := 36) hx hb dX11_best_31 (by decide) (fun jc9 => ?_) (fun jc9 => ?_)
      · have hf := ite_f jc9 hf
        refine lv_bipush (v := -9) hx hb dX11_best_36 (by decide) ?_
        refine lv_istore (lv' := [(4, .int (-9 : Int32)), (0, .ref a_t), (1, .int jx1), (2, .int jx2), (3, .int jx3)]) hx hb dX11_best_38 hl (by decide) rfl (fun ls hl => ?_)
        refine lv_bipush (v := -9) hx hb dX11_best_40 (by decide) ?_
        refine lv_istore (lv' := [(5, .int (-9 : Int32)), (4, .int (-9 : Int32)), (0, .ref a_t), (1, .int jx1), (2, .int jx2), (3, .int jx3)]) hx hb dX11_best_42 hl (by decide) rfl (fun ls hl => ?_)
        refine lv_bipush (v := -9) hx hb dX11_best_44 (by decide) ?_
        refine lv_istore (lv' := [(6, .int (-9 : Int32)), (5, .int (-9 : Int32)), (4, .int (-9 : Int32)), (0, .ref a_t), (1, .int jx1), (2, .int jx2), (3, .int jx3)]) hx hb dX11_best_46 hl (by decide) rfl (fun ls hl => ?_)
        refine lv_iconst (v := 0) hx hb dX11_best_48 (by decide) ?_
        refine lv_istore (lv' := [(7, .int (0 : Int32)), (6, .int (-9 : Int32)), (5, .int (-9 : Int32)), (4, .int (-9 : Int32)), (0, .ref a_t), (1, .int jx1), (2, .int jx2), (3, .int jx3)]) hx hb dX11_best_49 hl (by decide) rfl (fun ls hl => ?_)
        exact wX11_best_51 S hr hlk hK hA fuel (0 : Int32) (0 : Int32) v_t_sums v_t_parts v_t_heaps ls _ _ hf (lv_sub hl [4, 5, 6, 7, 3, 2, 1, 0] rfl) hP hD hS
      · have hf := ite_t jc9 hf
        refine lv_iconst (v := -1) hx hb dX11_best_34 (by decide) ?_
        obtain ⟨rfl, rfl, rfl, rfl, rfl⟩ := pr5_inv hf
        exact retM hx hb hr hlk hP hD hS dX11_best_35
def fX11_sees (jx1 : Int32) (jx2 : Int32) (v_t_thrown : Int32) (v_t_seenMany : Int32) (v_t_seenWay : (Nat → Int32)) (v_t_seenIs : (Nat → Int32)) : Option (Int32 × Int32 × Int32 × (Nat → Int32) × (Nat → Int32)) := bd1 (fX11_in jx1 (0 : Int32) (1 : Int32)) (fun jr1 => if jr1 = 0 then some ((-1 : Int32), (0 : Int32), v_t_seenMany, v_t_seenWay, v_t_seenIs) else bd1 (fX11_in jx2 (0 : Int32) (1 : Int32)) (fun jr4 => if jr4 = 0 then some ((-1 : Int32), (0 : Int32), v_t_seenMany, v_t_seenWay, v_t_seenIs) else if v_t_seenMany = (6 : Int32) then some ((-3 : Int32), (0 : Int32), v_t_seenMany, v_t_seenWay, v_t_seenIs) else ckI 6 v_t_seenMany (ckI 6 v_t_seenMany (some ((v_t_seenMany + (1 : Int32)), (0 : Int32), (v_t_seenMany + (1 : Int32)), (upd v_t_seenWay (Int32.toNatClampNeg v_t_seenMany) jx1), (upd v_t_seenIs (Int32.toNatClampNeg v_t_seenMany) jx2))))))
abbrev rmX11_sees : Room := { frames := 1, cells := 0, slots := 0, locals := 22 }
theorem iX11_sees_X11 : ∀ w ∈ wsX110, w ∈ wsX11_sees := fun _ h => List.mem_cons_of_mem _ (List.mem_append_right _ h)
theorem mX11_sees_1 : (Cond.fieldLink RX11 50 "VoteFilesModel" "thrown" "I") ∈ wsX11_sees := List.mem_of_getElem? (i := 1) rfl
theorem mX11_sees_2 : (Cond.fieldLink RX11 122 "VoteFilesModel" "seenMany" "I") ∈ wsX11_sees := List.mem_of_getElem? (i := 2) rfl
theorem mX11_sees_3 : (Cond.fieldLink RX11 29 "VoteFilesModel" "seenWay" "[I") ∈ wsX11_sees := List.mem_of_getElem? (i := 3) rfl
theorem mX11_sees_4 : (Cond.fieldLink RX11 32 "VoteFilesModel" "seenIs" "[I") ∈ wsX11_sees := List.mem_of_getElem? (i := 4) rfl
theorem hdX11_sees : yX11_sees.cls ≠ "java/lang/invoke/MethodHandle" ∧ yX11_sees.cls ≠ "java/lang/invoke/VarHandle" ∧ (parseMethodDescriptor yX11_sees.desc).map (fun d => d.parameters.length) = some 2 := by decide +kernel
set_option maxHeartbeats 4000000 in
set_option maxRecDepth 100000 in
theorem ctX11_sees (l : Launch) (D : va_G) (cI cZ : ClassId) (a_t a_t_text a_t_draft a_t_s a_t_undos a_t_kept a_t_isKept a_t_seenWay a_t_seenIs a_t_sums a_t_parts a_t_heaps : Nat) (jx1 : Int32) (jx2 : Int32) (v_t_thrown : Int32) (v_t_seenMany : Int32) (v_t_seenWay : (Nat → Int32)) (v_t_seenIs : (Nat → Int32)) (v_t_typed : Int32) (v_t_spot : Int32) (v_t_token : Int32) (v_t_place : Int32) (v_t_value : Int32) (v_t_fault : Int32) (v_t_copies : Int32) (v_t_draftCopies : Int32) (v_t_undoMany : Int32) (v_t_asked : Int32) (r : Int32) (o_t_thrown : Int32) (o_t_seenMany : Int32) (o_t_seenWay : (Nat → Int32)) (o_t_seenIs : (Nat → Int32)) (hf : fX11_sees jx1 jx2 v_t_thrown v_t_seenMany v_t_seenWay v_t_seenIs = some (r, o_t_thrown, o_t_seenMany, o_t_seenWay, o_t_seenIs)) : cM l yX11_sees wsX11_sees rmX11_sees [.ref a_t, .int jx1, .int jx2] D [(a_t, .inr (11, [.int v_t_thrown, .ref a_t_text, .int v_t_typed, .int v_t_spot, .int v_t_token, .int v_t_place, .int v_t_value, .int v_t_fault, .int v_t_copies, .int v_t_draftCopies, .ref a_t_draft, .ref a_t_s, .ref a_t_undos, .int v_t_undoMany, .ref a_t_kept, .ref a_t_isKept, .ref a_t_seenWay, .ref a_t_seenIs, .int v_t_seenMany, .int v_t_asked, .ref a_t_sums, .ref a_t_parts, .ref a_t_heaps])), (a_t_seenWay, .inl (cI, 6, .inl v_t_seenWay)), (a_t_seenIs, .inl (cI, 6, .inl v_t_seenIs))] [(a_t, .inr (11, [.int o_t_thrown, .ref a_t_text, .int v_t_typed, .int v_t_spot, .int v_t_token, .int v_t_place, .int v_t_value, .int v_t_fault, .int v_t_copies, .int v_t_draftCopies, .ref a_t_draft, .ref a_t_s, .ref a_t_undos, .int v_t_undoMany, .ref a_t_kept, .ref a_t_isKept, .ref a_t_seenWay, .ref a_t_seenIs, .int o_t_seenMany, .int v_t_asked, .ref a_t_sums, .ref a_t_parts, .ref a_t_heaps])), (a_t_seenWay, .inl (cI, 6, .inl o_t_seenWay)), (a_t_seenIs, .inl (cI, 6, .inl o_t_seenIs))] (KX D cI cZ) (some (.int r)) := by
  refine cM_of (cc := cX11_sees) (maxL := 3) (ret := some .int) (by decide +kernel) rfl _ (Nat.le_of_ble_eq_true rfl) ?_
  intro p e s m below meth c ls A S hr hlk hP hK hl hD hA hS
  obtain ⟨hx, hb, hml, hown, hts⟩ := id S
  have hl : lv_has ls 3 [(0, .ref a_t), (1, .int jx1), (2, .int jx2)] := hl
  unfold fX11_sees at hf
  refine lv_aload_n hx hb dX11_sees_0 rfl (lv_at hl 0 rfl) ?_
  refine lv_iconst (v := 0) hx hb dX11_sees_1 (by decide) ?_
  refine va_put (D := D) (ci := 11) (v := .int (0 : Int32)) (ty := .int) (C := RX11) (T := TX11) (N := 23) hx hb hts iX11_sees_X11 tyX11 tyX11_ok nmX11 hown hK.1 hP hD hS 0 rfl rfl 0 (by decide) (hts _ mX11_sees_1) (fun _ h9 => h9) rfl (tyX11_ok 0 (by decide)) rfl rfl (Nat.le_of_ble_eq_true rfl) dX11_sees_2 (fun H locs hP hD hS => ?_)
  have hP : va_P D vwCl [(a_t, .inr (11, [.int (0 : Int32), .ref a_t_text, .int v_t_typed, .int v_t_spot, .int v_t_token, .int v_t_place, .int v_t_value, .int v_t_fault, .int v_t_copies, .int v_t_draftCopies, .ref a_t_draft, .ref a_t_s, .ref a_t_undos, .int v_t_undoMany, .ref a_t_kept, .ref a_t_isKept, .ref a_t_seenWay, .ref a_t_seenIs, .int v_t_seenMany, .int v_t_asked, .ref a_t_sums, .ref a_t_parts, .ref a_t_heaps])), (a_t_seenWay, .inl (cI, 6, .inl v_t_seenWay)), (a_t_seenIs, .inl (cI, 6, .inl v_t_seenIs))] H := hP
  have hD : va_D A [(a_t, .inr (11, [.int (0 : Int32), .ref a_t_text, .int v_t_typed, .int v_t_spot, .int v_t_token, .int v_t_place, .int v_t_value, .int v_t_fault, .int v_t_copies, .int v_t_draftCopies, .ref a_t_draft, .ref a_t_s, .ref a_t_undos, .int v_t_undoMany, .ref a_t_kept, .ref a_t_isKept, .ref a_t_seenWay, .ref a_t_seenIs, .int v_t_seenMany, .int v_t_asked, .ref a_t_sums, .ref a_t_parts, .ref a_t_heaps])), (a_t_seenWay, .inl (cI, 6, .inl v_t_seenWay)), (a_t_seenIs, .inl (cI, 6, .inl v_t_seenIs))] := hD
  refine lv_iload_n hx hb dX11_sees_5 rfl (lv_at hl 1 rfl) ?_
  refine lv_iconst (v := 0) hx hb dX11_sees_6 (by decide) ?_
  refine lv_iconst (v := 1) hx hb dX11_sees_7 (by decide) ?_
  obtain ⟨jr1, je2, hf⟩ := bd1_inv hf
  refine callRS (As := [.int jx1, .int (0 : Int32), .int (1 : Int32)]) (rest := []) S (ctX11_in l D cI cZ jx1 (0 : Int32) (1 : Int32) jr1 je2) (va_cwS 3 hts gX11_sees_X11_in rfl rfl rfl hdX11_in ⟨Nat.le_of_ble_eq_true rfl, Nat.le_of_ble_eq_true rfl⟩) hP [] rfl KX.xs (fun U _ hW => hK.warm hW) rfl hl.1 rfl (Nat.le_of_ble_eq_true rfl) dX11_sees_8 ⟨Nat.zero_le _, Nat.zero_le _⟩ ?_
  refine lv_if_eq (tgt := 23) hx hb dX11_sees_11 (by decide) (fun jc3 => ?_) (fun jc3 => ?_)
  · have hf := ite_t jc3 hf
    refine lv_iconst (v := -1) hx hb dX11_sees_23 (by decide) ?_
    obtain ⟨rfl, rfl, rfl, rfl, rfl⟩ := pr5_inv hf
    exact retM hx hb hr hlk hP hD hS dX11_sees_24
  · have hf := ite_f jc3 hf
    refine lv_iload_n hx hb dX11_sees_14 rfl (lv_at hl 2 rfl) ?_
    refine lv_iconst (v := 0) hx hb dX11_sees_15 (by decide) ?_
    refine lv_iconst (v := 1) hx hb dX11_sees_16 (by decide) ?_
    obtain ⟨jr4, je5, hf⟩ := bd1_inv hf
    refine callRS (As := [.int jx2, .int (0 : Int32), .int (1 : Int32)]) (rest := []) S (ctX11_in l D cI cZ jx2 (0 : Int32) (1 : Int32) jr4 je5) (va_cwS 3 hts gX11_sees_X11_in rfl rfl rfl hdX11_in ⟨Nat.le_of_ble_eq_true rfl, Nat.le_of_ble_eq_true rfl⟩) hP [] rfl KX.xs (fun U _ hW => hK.warm hW) rfl hl.1 rfl (Nat.le_of_ble_eq_true rfl) dX11_sees_17 ⟨Nat.zero_le _, Nat.zero_le _⟩ ?_
    refine lv_if_ne (tgt := 25) hx hb dX11_sees_20 (by decide) (fun jc6 => ?_) (fun jc6 => ?_)
    · have hf := ite_f jc6 hf
      refine lv_aload_n hx hb dX11_sees_25 rfl (lv_at hl 0 rfl) ?_
      refine va_get (D := D) (ci := 11) (v := .int v_t_seenMany) (C := RX11) (T := TX11) (N := 23) hx hb hts iX11_sees_X11 hown hK.1 hP 0 rfl rfl 18 (by decide) (hts _ mX11_sees_2) (fun _ h9 => h9) rfl dX11_sees_26 ?_
      refine lv_bipush (v := 6) hx hb dX11_sees_29 (by decide) ?_
      refine lv_icmp_ne (tgt := 37) hx hb dX11_sees_31 (by decide) (fun jc7 => ?_) (fun jc7 => ?_)
      · have hf := ite_f jc7 hf
        refine lv_aload_n hx hb dX11_sees_37 rfl (lv_at hl 0 rfl) ?_
        refine va_get (D := D) (ci := 11) (v := .ref a_t_seenWay) (C := RX11) (T := TX11) (N := 23) hx hb hts iX11_sees_X11 hown hK.1 hP 0 rfl rfl 16 (by decide) (hts _ mX11_sees_3) (fun _ h9 => h9) rfl dX11_sees_38 ?_
        refine lv_aload_n hx hb dX11_sees_41 rfl (lv_at hl 0 rfl) ?_
        refine va_get (D := D) (ci := 11) (v := .int v_t_seenMany) (C := RX11) (T := TX11) (N := 23) hx hb hts iX11_sees_X11 hown hK.1 hP 0 rfl rfl 18 (by decide) (hts _ mX11_sees_2) (fun _ h9 => h9) rfl dX11_sees_42 ?_
        refine lv_iload_n hx hb dX11_sees_45 rfl (lv_at hl 1 rfl) ?_
        obtain ⟨jh8, hf⟩ := ckI_inv hf
        refine va_iast hx hb hK.1 hP hD hS 1 0 rfl rfl jh8 dX11_sees_46 (fun H locs hP hD hS => ?_)
        have hP : va_P D vwCl [(a_t, .inr (11, [.int (0 : Int32), .ref a_t_text, .int v_t_typed, .int v_t_spot, .int v_t_token, .int v_t_place, .int v_t_value, .int v_t_fault, .int v_t_copies, .int v_t_draftCopies, .ref a_t_draft, .ref a_t_s, .ref a_t_undos, .int v_t_undoMany, .ref a_t_kept, .ref a_t_isKept, .ref a_t_seenWay, .ref a_t_seenIs, .int v_t_seenMany, .int v_t_asked, .ref a_t_sums, .ref a_t_parts, .ref a_t_heaps])), (a_t_seenWay, .inl (cI, 6, .inl (upd v_t_seenWay (Int32.toNatClampNeg v_t_seenMany) jx1))), (a_t_seenIs, .inl (cI, 6, .inl v_t_seenIs))] H := hP
        have hD : va_D A [(a_t, .inr (11, [.int (0 : Int32), .ref a_t_text, .int v_t_typed, .int v_t_spot, .int v_t_token, .int v_t_place, .int v_t_value, .int v_t_fault, .int v_t_copies, .int v_t_draftCopies, .ref a_t_draft, .ref a_t_s, .ref a_t_undos, .int v_t_undoMany, .ref a_t_kept, .ref a_t_isKept, .ref a_t_seenWay, .ref a_t_seenIs, .int v_t_seenMany, .int v_t_asked, .ref a_t_sums, .ref a_t_parts, .ref a_t_heaps])), (a_t_seenWay, .inl (cI, 6, .inl (upd v_t_seenWay (Int32.toNatClampNeg v_t_seenMany) jx1))), (a_t_seenIs, .inl (cI, 6, .inl v_t_seenIs))] := hD
        refine lv_aload_n hx hb dX11_sees_47 rfl (lv_at hl 0 rfl) ?_
        refine va_get (D := D) (ci := 11) (v := .ref a_t_seenIs) (C := RX11) (T := TX11) (N := 23) hx hb hts iX11_sees_X11 hown hK.1 hP 0 rfl rfl 17 (by decide) (hts _ mX11_sees_4) (fun _ h9 => h9) rfl dX11_sees_48 ?_
        refine lv_aload_n hx hb dX11_sees_51 rfl (lv_at hl 0 rfl) ?_
        refine va_get (D := D) (ci := 11) (v := .int v_t_seenMany) (C := RX11) (T := TX11) (N := 23) hx hb hts iX11_sees_X11 hown hK.1 hP 0 rfl rfl 18 (by decide) (hts _ mX11_sees_2) (fun _ h9 => h9) rfl dX11_sees_52 ?_
        refine lv_iload_n hx hb dX11_sees_55 rfl (lv_at hl 2 rfl) ?_
        obtain ⟨jh9, hf⟩ := ckI_inv hf
        refine va_iast hx hb hK.1 hP hD hS 2 0 rfl rfl jh9 dX11_sees_56 (fun H locs hP hD hS => ?_)
        have hP : va_P D vwCl [(a_t, .inr (11, [.int (0 : Int32), .ref a_t_text, .int v_t_typed, .int v_t_spot, .int v_t_token, .int v_t_place, .int v_t_value, .int v_t_fault, .int v_t_copies, .int v_t_draftCopies, .ref a_t_draft, .ref a_t_s, .ref a_t_undos, .int v_t_undoMany, .ref a_t_kept, .ref a_t_isKept, .ref a_t_seenWay, .ref a_t_seenIs, .int v_t_seenMany, .int v_t_asked, .ref a_t_sums, .ref a_t_parts, .ref a_t_heaps])), (a_t_seenWay, .inl (cI, 6, .inl (upd v_t_seenWay (Int32.toNatClampNeg v_t_seenMany) jx1))), (a_t_seenIs, .inl (cI, 6, .inl (upd v_t_seenIs (Int32.toNatClampNeg v_t_seenMany) jx2)))] H := hP
        have hD : va_D A [(a_t, .inr (11, [.int (0 : Int32), .ref a_t_text, .int v_t_typed, .int v_t_spot, .int v_t_token, .int v_t_place, .int v_t_value, .int v_t_fault, .int v_t_copies, .int v_t_draftCopies, .ref a_t_draft, .ref a_t_s, .ref a_t_undos, .int v_t_undoMany, .ref a_t_kept, .ref a_t_isKept, .ref a_t_seenWay, .ref a_t_seenIs, .int v_t_seenMany, .int v_t_asked, .ref a_t_sums, .ref a_t_parts, .ref a_t_heaps])), (a_t_seenWay, .inl (cI, 6, .inl (upd v_t_seenWay (Int32.toNatClampNeg v_t_seenMany) jx1))), (a_t_seenIs, .inl (cI, 6, .inl (upd v_t_seenIs (Int32.toNatClampNeg v_t_seenMany) jx2)))] := hD
        refine lv_aload_n hx hb dX11_sees_57 rfl (lv_at hl 0 rfl) ?_
        refine lv_dup hx hb dX11_sees_58 rfl ?_
        refine va_get (D := D) (ci := 11) (v := .int v_t_seenMany) (C := RX11) (T := TX11) (N := 23) hx hb hts iX11_sees_X11 hown hK.1 hP 0 rfl rfl 18 (by decide) (hts _ mX11_sees_2) (fun _ h9 => h9) rfl dX11_sees_59 ?_
        refine lv_iconst (v := 1) hx hb dX11_sees_62 (by decide) ?_
        refine lv_iadd hx hb dX11_sees_63 ?_
        refine va_put (D := D) (ci := 11) (v := .int (v_t_seenMany + (1 : Int32))) (ty := .int) (C := RX11) (T := TX11) (N := 23) hx hb hts iX11_sees_X11 tyX11 tyX11_ok nmX11 hown hK.1 hP hD hS 0 rfl rfl 18 (by decide) (hts _ mX11_sees_2) (fun _ h9 => h9) rfl (tyX11_ok 18 (by decide)) rfl rfl (Nat.le_of_ble_eq_true rfl) dX11_sees_64 (fun H locs hP hD hS => ?_)
        have hP : va_P D vwCl [(a_t, .inr (11, [.int (0 : Int32), .ref a_t_text, .int v_t_typed, .int v_t_spot, .int v_t_token, .int v_t_place, .int v_t_value, .int v_t_fault, .int v_t_copies, .int v_t_draftCopies, .ref a_t_draft, .ref a_t_s, .ref a_t_undos, .int v_t_undoMany, .ref a_t_kept, .ref a_t_isKept, .ref a_t_seenWay, .ref a_t_seenIs, .int (v_t_seenMany + (1 : Int32)), .int v_t_asked, .ref a_t_sums, .ref a_t_parts, .ref a_t_heaps])), (a_t_seenWay, .inl (cI, 6, .inl (upd v_t_seenWay (Int32.toNatClampNeg v_t_seenMany) jx1))), (a_t_seenIs, .inl (cI, 6, .inl (upd v_t_seenIs (Int32.toNatClampNeg v_t_seenMany) jx2)))] H := hP
        have hD : va_D A [(a_t, .inr (11, [.int (0 : Int32), .ref a_t_text, .int v_t_typed, .int v_t_spot, .int v_t_token, .int v_t_place, .int v_t_value, .int v_t_fault, .int v_t_copies, .int v_t_draftCopies, .ref a_t_draft, .ref a_t_s, .ref a_t_undos, .int v_t_undoMany, .ref a_t_kept, .ref a_t_isKept, .ref a_t_seenWay, .ref a_t_seenIs, .int (v_t_seenMany + (1 : Int32)), .int v_t_asked, .ref a_t_sums, .ref a_t_parts, .ref a_t_heaps])), (a_t_seenWay, .inl (cI, 6, .inl (upd v_t_seenWay (Int32.toNatClampNeg v_t_seenMany) jx1))), (a_t_seenIs, .inl (cI, 6, .inl (upd v_t_seenIs (Int32.toNatClampNeg v_t_seenMany) jx2)))] := hD
        refine lv_aload_n hx hb dX11_sees_67 rfl (lv_at hl 0 rfl) ?_
        refine va_get (D := D) (ci := 11) (v := .int (v_t_seenMany + (1 : Int32))) (C := RX11) (T := TX11) (N := 23) hx hb hts iX11_sees_X11 hown hK.1 hP 0 rfl rfl 18 (by decide) (hts _ mX11_sees_2) (fun _ h9 => h9) rfl dX11_sees_68 ?_
        obtain ⟨rfl, rfl, rfl, rfl, rfl⟩ := pr5_inv hf
        exact retM hx hb hr hlk hP hD hS dX11_sees_71
      · have hf := ite_t jc7 hf
        refine lv_bipush (v := -3) hx hb dX11_sees_34 (by decide) ?_
        obtain ⟨rfl, rfl, rfl, rfl, rfl⟩ := pr5_inv hf
        exact retM hx hb hr hlk hP hD hS dX11_sees_36
    · have hf := ite_t jc6 hf
      refine lv_iconst (v := -1) hx hb dX11_sees_23 (by decide) ?_
      obtain ⟨rfl, rfl, rfl, rfl, rfl⟩ := pr5_inv hf
      exact retM hx hb hr hlk hP hD hS dX11_sees_24
def fX11_forget (v_t_thrown : Int32) (v_t_seenMany : Int32) : Option (Int32 × Int32 × Int32) := some (v_t_seenMany, (0 : Int32), (0 : Int32))
abbrev rmX11_forget : Room := { frames := 0, cells := 0, slots := 0, locals := 0 }
theorem iX11_forget_X11 : ∀ w ∈ wsX110, w ∈ wsX11_forget := fun _ h => List.mem_cons_of_mem _ (List.mem_append_right _ h)
theorem mX11_forget_1 : (Cond.fieldLink RX11 50 "VoteFilesModel" "thrown" "I") ∈ wsX11_forget := List.mem_of_getElem? (i := 1) rfl
theorem mX11_forget_2 : (Cond.fieldLink RX11 122 "VoteFilesModel" "seenMany" "I") ∈ wsX11_forget := List.mem_of_getElem? (i := 2) rfl
theorem hdX11_forget : yX11_forget.cls ≠ "java/lang/invoke/MethodHandle" ∧ yX11_forget.cls ≠ "java/lang/invoke/VarHandle" ∧ (parseMethodDescriptor yX11_forget.desc).map (fun d => d.parameters.length) = some 0 := by decide +kernel
set_option maxHeartbeats 4000000 in
set_option maxRecDepth 100000 in
theorem ctX11_forget (l : Launch) (D : va_G) (cI cZ : ClassId) (a_t a_t_text a_t_draft a_t_s a_t_undos a_t_kept a_t_isKept a_t_seenWay a_t_seenIs a_t_sums a_t_parts a_t_heaps : Nat) (v_t_thrown : Int32) (v_t_seenMany : Int32) (v_t_typed : Int32) (v_t_spot : Int32) (v_t_token : Int32) (v_t_place : Int32) (v_t_value : Int32) (v_t_fault : Int32) (v_t_copies : Int32) (v_t_draftCopies : Int32) (v_t_undoMany : Int32) (v_t_asked : Int32) (r : Int32) (o_t_thrown : Int32) (o_t_seenMany : Int32) (hf : fX11_forget v_t_thrown v_t_seenMany = some (r, o_t_thrown, o_t_seenMany)) : cM l yX11_forget wsX11_forget rmX11_forget [.ref a_t] D [(a_t, .inr (11, [.int v_t_thrown, .ref a_t_text, .int v_t_typed, .int v_t_spot, .int v_t_token, .int v_t_place, .int v_t_value, .int v_t_fault, .int v_t_copies, .int v_t_draftCopies, .ref a_t_draft, .ref a_t_s, .ref a_t_undos, .int v_t_undoMany, .ref a_t_kept, .ref a_t_isKept, .ref a_t_seenWay, .ref a_t_seenIs, .int v_t_seenMany, .int v_t_asked, .ref a_t_sums, .ref a_t_parts, .ref a_t_heaps]))] [(a_t, .inr (11, [.int o_t_thrown, .ref a_t_text, .int v_t_typed, .int v_t_spot, .int v_t_token, .int v_t_place, .int v_t_value, .int v_t_fault, .int v_t_copies, .int v_t_draftCopies, .ref a_t_draft, .ref a_t_s, .ref a_t_undos, .int v_t_undoMany, .ref a_t_kept, .ref a_t_isKept, .ref a_t_seenWay, .ref a_t_seenIs, .int o_t_seenMany, .int v_t_asked, .ref a_t_sums, .ref a_t_parts, .ref a_t_heaps]))] (KX D cI cZ) (some (.int r)) := by
  refine cM_of (cc := cX11_forget) (maxL := 2) (ret := some .int) (by decide +kernel) rfl _ (Nat.le_of_ble_eq_true rfl) ?_
  intro p e s m below meth c ls A S hr hlk hP hK hl hD hA hS
  obtain ⟨hx, hb, hml, hown, hts⟩ := id S
  have hl : lv_has ls 2 [(0, .ref a_t)] := hl
  unfold fX11_forget at hf
  refine lv_aload_n hx hb dX11_forget_0 rfl (lv_at hl 0 rfl) ?_
  refine lv_iconst (v := 0) hx hb dX11_forget_1 (by decide) ?_
  refine va_put (D := D) (ci := 11) (v := .int (0 : Int32)) (ty := .int) (C := RX11) (T := TX11) (N := 23) hx hb hts iX11_forget_X11 tyX11 tyX11_ok nmX11 hown hK.1 hP hD hS 0 rfl rfl 0 (by decide) (hts _ mX11_forget_1) (fun _ h9 => h9) rfl (tyX11_ok 0 (by decide)) rfl rfl (Nat.le_of_ble_eq_true rfl) dX11_forget_2 (fun H locs hP hD hS => ?_)
  have hP : va_P D vwCl [(a_t, .inr (11, [.int (0 : Int32), .ref a_t_text, .int v_t_typed, .int v_t_spot, .int v_t_token, .int v_t_place, .int v_t_value, .int v_t_fault, .int v_t_copies, .int v_t_draftCopies, .ref a_t_draft, .ref a_t_s, .ref a_t_undos, .int v_t_undoMany, .ref a_t_kept, .ref a_t_isKept, .ref a_t_seenWay, .ref a_t_seenIs, .int v_t_seenMany, .int v_t_asked, .ref a_t_sums, .ref a_t_parts, .ref a_t_heaps]))] H := hP
  have hD : va_D A [(a_t, .inr (11, [.int (0 : Int32), .ref a_t_text, .int v_t_typed, .int v_t_spot, .int v_t_token, .int v_t_place, .int v_t_value, .int v_t_fault, .int v_t_copies, .int v_t_draftCopies, .ref a_t_draft, .ref a_t_s, .ref a_t_undos, .int v_t_undoMany, .ref a_t_kept, .ref a_t_isKept, .ref a_t_seenWay, .ref a_t_seenIs, .int v_t_seenMany, .int v_t_asked, .ref a_t_sums, .ref a_t_parts, .ref a_t_heaps]))] := hD
  refine lv_aload_n hx hb dX11_forget_5 rfl (lv_at hl 0 rfl) ?_
  refine va_get (D := D) (ci := 11) (v := .int v_t_seenMany) (C := RX11) (T := TX11) (N := 23) hx hb hts iX11_forget_X11 hown hK.1 hP 0 rfl rfl 18 (by decide) (hts _ mX11_forget_2) (fun _ h9 => h9) rfl dX11_forget_6 ?_
  refine lv_istore_n (lv' := [(1, .int v_t_seenMany), (0, .ref a_t)]) hx hb dX11_forget_9 rfl hl (by decide) rfl (fun ls hl => ?_)
  refine lv_aload_n hx hb dX11_forget_10 rfl (lv_at hl 1 rfl) ?_
  refine lv_iconst (v := 0) hx hb dX11_forget_11 (by decide) ?_
  refine va_put (D := D) (ci := 11) (v := .int (0 : Int32)) (ty := .int) (C := RX11) (T := TX11) (N := 23) hx hb hts iX11_forget_X11 tyX11 tyX11_ok nmX11 hown hK.1 hP hD hS 0 rfl rfl 18 (by decide) (hts _ mX11_forget_2) (fun _ h9 => h9) rfl (tyX11_ok 18 (by decide)) rfl rfl (Nat.le_of_ble_eq_true rfl) dX11_forget_12 (fun H locs hP hD hS => ?_)
  have hP : va_P D vwCl [(a_t, .inr (11, [.int (0 : Int32), .ref a_t_text, .int v_t_typed, .int v_t_spot, .int v_t_token, .int v_t_place, .int v_t_value, .int v_t_fault, .int v_t_copies, .int v_t_draftCopies, .ref a_t_draft, .ref a_t_s, .ref a_t_undos, .int v_t_undoMany, .ref a_t_kept, .ref a_t_isKept, .ref a_t_seenWay, .ref a_t_seenIs, .int (0 : Int32), .int v_t_asked, .ref a_t_sums, .ref a_t_parts, .ref a_t_heaps]))] H := hP
  have hD : va_D A [(a_t, .inr (11, [.int (0 : Int32), .ref a_t_text, .int v_t_typed, .int v_t_spot, .int v_t_token, .int v_t_place, .int v_t_value, .int v_t_fault, .int v_t_copies, .int v_t_draftCopies, .ref a_t_draft, .ref a_t_s, .ref a_t_undos, .int v_t_undoMany, .ref a_t_kept, .ref a_t_isKept, .ref a_t_seenWay, .ref a_t_seenIs, .int (0 : Int32), .int v_t_asked, .ref a_t_sums, .ref a_t_parts, .ref a_t_heaps]))] := hD
  refine lv_iload_n hx hb dX11_forget_15 rfl (lv_at hl 0 rfl) ?_
  obtain ⟨rfl, rfl, rfl⟩ := pr3_inv hf
  exact retM hx hb hr hlk hP hD hS dX11_forget_16
def fX11_unseen_125 (jk34 : Int32 → Int32 → Int32 → Int32 → Option (Int32 × Int32)) (jx1 : Int32) (jx2 : Int32) (v_t_copies : Int32) (v_t_seenMany : Int32) (v_t_s : (Nat → Int32)) (v_t_seenWay : (Nat → Int32)) (v_t_seenIs : (Nat → Int32)) (jx3 : Int32) (jx5 : Int32) (jx6 : Int32) (jy0 : Int32) (v_t_thrown : Int32) : Option (Int32 × Int32) := if jx6 = 0 then jk34 (jx3 + (0 : Int32)) jy0 (jx5 + (1 : Int32)) v_t_thrown else jk34 (jx3 + (1 : Int32)) jy0 (jx5 + (1 : Int32)) v_t_thrown
def fX11_unseen_93 (jk34 : Int32 → Int32 → Int32 → Int32 → Option (Int32 × Int32)) (jk46 : Int32 → Int32 → Int32 → Option (Int32 × Int32)) (jx1 : Int32) (jx2 : Int32) (jx3 : Int32) (jx4 : Int32) (jx5 : Int32) (v_t_copies : Int32) (v_t_seenMany : Int32) (v_t_s : (Nat → Int32)) (v_t_seenWay : (Nat → Int32)) (v_t_seenIs : (Nat → Int32)) (jx7 : Int32) (jy0 : Int32) (jy1 : Int32) (v_t_thrown : Int32) : Option (Int32 × Int32) := if jy1 = jy0 then jk46 (1 : Int32) (jx7 + (1 : Int32)) v_t_thrown else jk46 (0 : Int32) (jx7 + (1 : Int32)) v_t_thrown
def fX11_unseen_46 (jk34 : Int32 → Int32 → Int32 → Int32 → Option (Int32 × Int32)) (jx1 : Int32) (jx2 : Int32) (jx3 : Int32) (jx4 : Int32) (jx5 : Int32) (v_t_copies : Int32) (v_t_seenMany : Int32) (v_t_s : (Nat → Int32)) (v_t_seenWay : (Nat → Int32)) (v_t_seenIs : (Nat → Int32)) : Nat → Int32 → Int32 → Int32 → Option (Int32 × Int32)
  | 0, _, _, _ => none
  | n + 1, jx6, jx7, v_t_thrown => if v_t_seenMany ≤ jx7 then if jx6 = 0 then fX11_unseen_125 jk34 jx1 jx2 v_t_copies v_t_seenMany v_t_s v_t_seenWay v_t_seenIs jx3 jx5 jx6 jx4 v_t_thrown else if jx3 = 0 then fX11_unseen_125 jk34 jx1 jx2 v_t_copies v_t_seenMany v_t_s v_t_seenWay v_t_seenIs jx3 jx5 jx6 jx5 v_t_thrown else fX11_unseen_125 jk34 jx1 jx2 v_t_copies v_t_seenMany v_t_s v_t_seenWay v_t_seenIs jx3 jx5 jx6 jx4 v_t_thrown else if jx6 = 0 then (fX11_unseen_46 jk34 jx1 jx2 jx3 jx4 jx5 v_t_copies v_t_seenMany v_t_s v_t_seenWay v_t_seenIs n) (0 : Int32) (jx7 + (1 : Int32)) v_t_thrown else ckI 6 jx7 (bd1 (fX11_isEnoughNow (jx2 &&& (jx5 ^^^ (-1 : Int32))) (v_t_seenWay (Int32.toNatClampNeg jx7)) v_t_copies v_t_s) (fun jr6 => ckI 6 jx7 (if (v_t_seenIs (Int32.toNatClampNeg jx7)) = (1 : Int32) then fX11_unseen_93 jk34 (fX11_unseen_46 jk34 jx1 jx2 jx3 jx4 jx5 v_t_copies v_t_seenMany v_t_s v_t_seenWay v_t_seenIs n) jx1 jx2 jx3 jx4 jx5 v_t_copies v_t_seenMany v_t_s v_t_seenWay v_t_seenIs jx7 (1 : Int32) jr6 v_t_thrown else fX11_unseen_93 jk34 (fX11_unseen_46 jk34 jx1 jx2 jx3 jx4 jx5 v_t_copies v_t_seenMany v_t_s v_t_seenWay v_t_seenIs n) jx1 jx2 jx3 jx4 jx5 v_t_copies v_t_seenMany v_t_s v_t_seenWay v_t_seenIs jx7 (0 : Int32) jr6 v_t_thrown)))
theorem fX11_unseen_46_s (jk34 : Int32 → Int32 → Int32 → Int32 → Option (Int32 × Int32)) (jx1 : Int32) (jx2 : Int32) (jx3 : Int32) (jx4 : Int32) (jx5 : Int32) (v_t_copies : Int32) (v_t_seenMany : Int32) (v_t_s : (Nat → Int32)) (v_t_seenWay : (Nat → Int32)) (v_t_seenIs : (Nat → Int32)) (n : Nat) (jx6 : Int32) (jx7 : Int32) (v_t_thrown : Int32) : fX11_unseen_46 jk34 jx1 jx2 jx3 jx4 jx5 v_t_copies v_t_seenMany v_t_s v_t_seenWay v_t_seenIs (n + 1) jx6 jx7 v_t_thrown = if v_t_seenMany ≤ jx7 then if jx6 = 0 then fX11_unseen_125 jk34 jx1 jx2 v_t_copies v_t_seenMany v_t_s v_t_seenWay v_t_seenIs jx3 jx5 jx6 jx4 v_t_thrown else if jx3 = 0 then fX11_unseen_125 jk34 jx1 jx2 v_t_copies v_t_seenMany v_t_s v_t_seenWay v_t_seenIs jx3 jx5 jx6 jx5 v_t_thrown else fX11_unseen_125 jk34 jx1 jx2 v_t_copies v_t_seenMany v_t_s v_t_seenWay v_t_seenIs jx3 jx5 jx6 jx4 v_t_thrown else if jx6 = 0 then (fX11_unseen_46 jk34 jx1 jx2 jx3 jx4 jx5 v_t_copies v_t_seenMany v_t_s v_t_seenWay v_t_seenIs n) (0 : Int32) (jx7 + (1 : Int32)) v_t_thrown else ckI 6 jx7 (bd1 (fX11_isEnoughNow (jx2 &&& (jx5 ^^^ (-1 : Int32))) (v_t_seenWay (Int32.toNatClampNeg jx7)) v_t_copies v_t_s) (fun jr6 => ckI 6 jx7 (if (v_t_seenIs (Int32.toNatClampNeg jx7)) = (1 : Int32) then fX11_unseen_93 jk34 (fX11_unseen_46 jk34 jx1 jx2 jx3 jx4 jx5 v_t_copies v_t_seenMany v_t_s v_t_seenWay v_t_seenIs n) jx1 jx2 jx3 jx4 jx5 v_t_copies v_t_seenMany v_t_s v_t_seenWay v_t_seenIs jx7 (1 : Int32) jr6 v_t_thrown else fX11_unseen_93 jk34 (fX11_unseen_46 jk34 jx1 jx2 jx3 jx4 jx5 v_t_copies v_t_seenMany v_t_s v_t_seenWay v_t_seenIs n) jx1 jx2 jx3 jx4 jx5 v_t_copies v_t_seenMany v_t_s v_t_seenWay v_t_seenIs jx7 (0 : Int32) jr6 v_t_thrown))) := rfl
def fX11_unseen_34 (jx1 : Int32) (jx2 : Int32) (v_t_copies : Int32) (v_t_seenMany : Int32) (v_t_s : (Nat → Int32)) (v_t_seenWay : (Nat → Int32)) (v_t_seenIs : (Nat → Int32)) : Nat → Int32 → Int32 → Int32 → Int32 → Option (Int32 × Int32)
  | 0, _, _, _, _ => none
  | n + 1, jx3, jx4, jx5, v_t_thrown => if jx2 < jx5 then if jx1 = 0 then some (jx3, v_t_thrown) else some (jx4, v_t_thrown) else fX11_unseen_46 (fX11_unseen_34 jx1 jx2 v_t_copies v_t_seenMany v_t_s v_t_seenWay v_t_seenIs n) jx1 jx2 jx3 jx4 jx5 v_t_copies v_t_seenMany v_t_s v_t_seenWay v_t_seenIs fuel (1 : Int32) (0 : Int32) v_t_thrown
theorem fX11_unseen_34_s (jx1 : Int32) (jx2 : Int32) (v_t_copies : Int32) (v_t_seenMany : Int32) (v_t_s : (Nat → Int32)) (v_t_seenWay : (Nat → Int32)) (v_t_seenIs : (Nat → Int32)) (n : Nat) (jx3 : Int32) (jx4 : Int32) (jx5 : Int32) (v_t_thrown : Int32) : fX11_unseen_34 jx1 jx2 v_t_copies v_t_seenMany v_t_s v_t_seenWay v_t_seenIs (n + 1) jx3 jx4 jx5 v_t_thrown = if jx2 < jx5 then if jx1 = 0 then some (jx3, v_t_thrown) else some (jx4, v_t_thrown) else fX11_unseen_46 (fX11_unseen_34 jx1 jx2 v_t_copies v_t_seenMany v_t_s v_t_seenWay v_t_seenIs n) jx1 jx2 jx3 jx4 jx5 v_t_copies v_t_seenMany v_t_s v_t_seenWay v_t_seenIs fuel (1 : Int32) (0 : Int32) v_t_thrown := rfl
def fX11_unseen (jx1 : Int32) (v_t_thrown : Int32) (v_t_copies : Int32) (v_t_seenMany : Int32) (v_t_s : (Nat → Int32)) (v_t_seenWay : (Nat → Int32)) (v_t_seenIs : (Nat → Int32)) : Option (Int32 × Int32) := bd1 (fX11_in jx1 (0 : Int32) (1 : Int32)) (fun jr1 => if jr1 = 0 then some ((-1 : Int32), (0 : Int32)) else fX11_unseen_34 jx1 (((1 : Int32) <<< (v_t_copies &&& 31)) - (1 : Int32)) v_t_copies v_t_seenMany v_t_s v_t_seenWay v_t_seenIs fuel (0 : Int32) (-9 : Int32) (0 : Int32) (0 : Int32))
abbrev rmX11_unseen : Room := { frames := 3, cells := 0, slots := 0, locals := 67 }
theorem iX11_unseen_X11 : ∀ w ∈ wsX110, w ∈ wsX11_unseen := fun _ h => List.mem_cons_of_mem _ (List.mem_append_right _ h)
theorem mX11_unseen_3 : (Cond.fieldLink RX11 122 "VoteFilesModel" "seenMany" "I") ∈ wsX11_unseen := List.mem_of_getElem? (i := 3) rfl
theorem mX11_unseen_4 : (Cond.fieldLink RX11 29 "VoteFilesModel" "seenWay" "[I") ∈ wsX11_unseen := List.mem_of_getElem? (i := 4) rfl
theorem mX11_unseen_5 : (Cond.fieldLink RX11 32 "VoteFilesModel" "seenIs" "[I") ∈ wsX11_unseen := List.mem_of_getElem? (i := 5) rfl
theorem mX11_unseen_1 : (Cond.fieldLink RX11 50 "VoteFilesModel" "thrown" "I") ∈ wsX11_unseen := List.mem_of_getElem? (i := 1) rfl
theorem mX11_unseen_2 : (Cond.fieldLink RX11 119 "VoteFilesModel" "copies" "I") ∈ wsX11_unseen := List.mem_of_getElem? (i := 2) rfl
set_option maxHeartbeats 4000000 in
set_option maxRecDepth 100000 in
theorem wX11_unseen_125 {p : Program} {l : Launch} {e : Env} {s : State} {m : MethodId} {args : Array Value} {below : List Frame} {meth : Method} {c : Code} {D : va_G} {cI cZ : ClassId} (S : CallFix p m c cX11_unseen 8 s args wsX11_unseen RX11) (hr : meth.sig.returnType = some .int) (hlk : meth.locks = false) (hK : KX D cI cZ s) {a_t a_t_text a_t_draft a_t_s a_t_undos a_t_kept a_t_isKept a_t_seenWay a_t_seenIs a_t_sums a_t_parts a_t_heaps : Nat} {jk34 : Int32 → Int32 → Int32 → Int32 → Option (Int32 × Int32)} {jx1 : Int32} {jx2 : Int32} {v_t_copies : Int32} {v_t_seenMany : Int32} {v_t_s : (Nat → Int32)} {v_t_seenWay : (Nat → Int32)} {v_t_seenIs : (Nat → Int32)} {v_t_typed : Int32} {v_t_spot : Int32} {v_t_token : Int32} {v_t_place : Int32} {v_t_value : Int32} {v_t_fault : Int32} {v_t_draftCopies : Int32} {v_t_undoMany : Int32} {v_t_asked : Int32} {r : Int32} {o_t_thrown : Int32} {A : Nat → Prop} (hA : ∀ q : Nat, s.heap.size ≤ q → A q) (hk34 : ∀ (jx3 : Int32) (jx4 : Int32) (jx5 : Int32) (v_t_thrown : Int32) (ls : Array Slot) (H : Heap) (locs : List Loc), jk34 jx3 jx4 jx5 v_t_thrown = some (r, o_t_thrown) → lv_has ls 8 [(0, .ref a_t), (1, .int jx1), (2, .int jx2), (3, .int jx3), (4, .int jx4), (5, .int jx5)] → va_P D vwCl [(a_t, .inr (11, [.int v_t_thrown, .ref a_t_text, .int v_t_typed, .int v_t_spot, .int v_t_token, .int v_t_place, .int v_t_value, .int v_t_fault, .int v_t_copies, .int v_t_draftCopies, .ref a_t_draft, .ref a_t_s, .ref a_t_undos, .int v_t_undoMany, .ref a_t_kept, .ref a_t_isKept, .ref a_t_seenWay, .ref a_t_seenIs, .int v_t_seenMany, .int v_t_asked, .ref a_t_sums, .ref a_t_parts, .ref a_t_heaps])), (a_t_s, .inl (cI, 103, .inl v_t_s)), (a_t_seenWay, .inl (cI, 6, .inl v_t_seenWay)), (a_t_seenIs, .inl (cI, 6, .inl v_t_seenIs))] H → va_D A [(a_t, .inr (11, [.int v_t_thrown, .ref a_t_text, .int v_t_typed, .int v_t_spot, .int v_t_token, .int v_t_place, .int v_t_value, .int v_t_fault, .int v_t_copies, .int v_t_draftCopies, .ref a_t_draft, .ref a_t_s, .ref a_t_undos, .int v_t_undoMany, .ref a_t_kept, .ref a_t_isKept, .ref a_t_seenWay, .ref a_t_seenIs, .int v_t_seenMany, .int v_t_asked, .ref a_t_sums, .ref a_t_parts, .ref a_t_heaps])), (a_t_s, .inl (cI, 103, .inl v_t_s)), (a_t_seenWay, .inl (cI, 6, .inl v_t_seenWay)), (a_t_seenIs, .inl (cI, 6, .inl v_t_seenIs))] → va_S A s.heap H locs → W p l e rmX11_unseen s m args below meth c H locs 0 0 (MQ below (qM D (some (.int r)) [(a_t, .inr (11, [.int o_t_thrown, .ref a_t_text, .int v_t_typed, .int v_t_spot, .int v_t_token, .int v_t_place, .int v_t_value, .int v_t_fault, .int v_t_copies, .int v_t_draftCopies, .ref a_t_draft, .ref a_t_s, .ref a_t_undos, .int v_t_undoMany, .ref a_t_kept, .ref a_t_isKept, .ref a_t_seenWay, .ref a_t_seenIs, .int v_t_seenMany, .int v_t_asked, .ref a_t_sums, .ref a_t_parts, .ref a_t_heaps])), (a_t_s, .inl (cI, 103, .inl v_t_s)), (a_t_seenWay, .inl (cI, 6, .inl v_t_seenWay)), (a_t_seenIs, .inl (cI, 6, .inl v_t_seenIs))] A) args s 0 0 A) (F0 m 34 ls [])) : ∀ (jx3 : Int32) (jx5 : Int32) (jx6 : Int32) (jy0 : Int32) (v_t_thrown : Int32) (ls : Array Slot) (H : Heap) (locs : List Loc), fX11_unseen_125 jk34 jx1 jx2 v_t_copies v_t_seenMany v_t_s v_t_seenWay v_t_seenIs jx3 jx5 jx6 jy0 v_t_thrown = some (r, o_t_thrown) → lv_has ls 8 [(0, .ref a_t), (1, .int jx1), (2, .int jx2), (3, .int jx3), (5, .int jx5), (6, .int jx6)] → va_P D vwCl [(a_t, .inr (11, [.int v_t_thrown, .ref a_t_text, .int v_t_typed, .int v_t_spot, .int v_t_token, .int v_t_place, .int v_t_value, .int v_t_fault, .int v_t_copies, .int v_t_draftCopies, .ref a_t_draft, .ref a_t_s, .ref a_t_undos, .int v_t_undoMany, .ref a_t_kept, .ref a_t_isKept, .ref a_t_seenWay, .ref a_t_seenIs, .int v_t_seenMany, .int v_t_asked, .ref a_t_sums, .ref a_t_parts, .ref a_t_heaps])), (a_t_s, .inl (cI, 103, .inl v_t_s)), (a_t_seenWay, .inl (cI, 6, .inl v_t_seenWay)), (a_t_seenIs, .inl (cI, 6, .inl v_t_seenIs))] H → va_D A [(a_t, .inr (11, [.int v_t_thrown, .ref a_t_text, .int v_t_typed, .int v_t_spot, .int v_t_token, .int v_t_place, .int v_t_value, .int v_t_fault, .int v_t_copies, .int v_t_draftCopies, .ref a_t_draft, .ref a_t_s, .ref a_t_undos, .int v_t_undoMany, .ref a_t_kept, .ref a_t_isKept, .ref a_t_seenWay, .ref a_t_seenIs, .int v_t_seenMany, .int v_t_asked, .ref a_t_sums, .ref a_t_parts, .ref a_t_heaps])), (a_t_s, .inl (cI, 103, .inl v_t_s)), (a_t_seenWay, .inl (cI, 6, .inl v_t_seenWay)), (a_t_seenIs, .inl (cI, 6, .inl v_t_seenIs))] → va_S A s.heap H locs → W p l e rmX11_unseen s m args below meth c H locs 0 0 (MQ below (qM D (some (.int r)) [(a_t, .inr (11, [.int o_t_thrown, .ref a_t_text, .int v_t_typed, .int v_t_spot, .int v_t_token, .int v_t_place, .int v_t_value, .int v_t_fault, .int v_t_copies, .int v_t_draftCopies, .ref a_t_draft, .ref a_t_s, .ref a_t_undos, .int v_t_undoMany, .ref a_t_kept, .ref a_t_isKept, .ref a_t_seenWay, .ref a_t_seenIs, .int v_t_seenMany, .int v_t_asked, .ref a_t_sums, .ref a_t_parts, .ref a_t_heaps])), (a_t_s, .inl (cI, 103, .inl v_t_s)), (a_t_seenWay, .inl (cI, 6, .inl v_t_seenWay)), (a_t_seenIs, .inl (cI, 6, .inl v_t_seenIs))] A) args s 0 0 A) (F0 m 125 ls [.int jy0]) := by
  obtain ⟨hx, hb, hml, hown, hts⟩ := id S
  intro jx3 jx5 jx6 jy0 v_t_thrown ls H locs hf hl hP hD hS
  unfold fX11_unseen_125 at hf
  refine lv_istore (lv' := [(4, .int jy0), (0, .ref a_t), (1, .int jx1), (2, .int jx2), (3, .int jx3), (5, .int jx5), (6, .int jx6)]) hx hb dX11_unseen_125 hl (by decide) rfl (fun ls hl => ?_)
  refine lv_iload_n hx hb dX11_unseen_127 rfl (lv_at hl 4 rfl) ?_
  refine lv_iload hx hb dX11_unseen_128 (lv_at hl 6 rfl) ?_
  refine lv_if_eq (tgt := 137) hx hb dX11_unseen_130 (by decide) (fun jc1 => ?_) (fun jc1 => ?_)
  · have hf := ite_t jc1 hf
    refine lv_iconst (v := 0) hx hb dX11_unseen_137 (by decide) ?_
    refine lv_iadd hx hb dX11_unseen_138 ?_
    refine lv_istore_n (lv' := [(3, .int (jx3 + (0 : Int32))), (4, .int jy0), (0, .ref a_t), (1, .int jx1), (2, .int jx2), (5, .int jx5), (6, .int jx6)]) hx hb dX11_unseen_139 rfl hl (by decide) rfl (fun ls hl => ?_)
    refine lv_iinc (v := (jx5 + (1 : Int32))) (lv' := [(5, .int (jx5 + (1 : Int32))), (3, .int (jx3 + (0 : Int32))), (4, .int jy0), (0, .ref a_t), (1, .int jx1), (2, .int jx2), (6, .int jx6)]) hx hb dX11_unseen_140 hl (k := 5) rfl rfl (by decide) rfl (fun ls hl => ?_)
    refine lv_goto (tgt := 34) hx hb dX11_unseen_143 (by decide) ?_
    exact hk34 (jx3 + (0 : Int32)) jy0 (jx5 + (1 : Int32)) v_t_thrown ls _ _ hf (lv_sub hl [3, 4, 5, 1, 2, 0] rfl) hP hD hS
  · have hf := ite_f jc1 hf
    refine lv_iconst (v := 1) hx hb dX11_unseen_133 (by decide) ?_
    refine lv_goto (tgt := 138) hx hb dX11_unseen_134 (by decide) ?_
    refine lv_iadd hx hb dX11_unseen_138 ?_
    refine lv_istore_n (lv' := [(3, .int (jx3 + (1 : Int32))), (4, .int jy0), (0, .ref a_t), (1, .int jx1), (2, .int jx2), (5, .int jx5), (6, .int jx6)]) hx hb dX11_unseen_139 rfl hl (by decide) rfl (fun ls hl => ?_)
    refine lv_iinc (v := (jx5 + (1 : Int32))) (lv' := [(5, .int (jx5 + (1 : Int32))), (3, .int (jx3 + (1 : Int32))), (4, .int jy0), (0, .ref a_t), (1, .int jx1), (2, .int jx2), (6, .int jx6)]) hx hb dX11_unseen_140 hl (k := 5) rfl rfl (by decide) rfl (fun ls hl => ?_)
    refine lv_goto (tgt := 34) hx hb dX11_unseen_143 (by decide) ?_
    exact hk34 (jx3 + (1 : Int32)) jy0 (jx5 + (1 : Int32)) v_t_thrown ls _ _ hf (lv_sub hl [3, 4, 5, 1, 2, 0] rfl) hP hD hS
set_option maxHeartbeats 4000000 in
set_option maxRecDepth 100000 in
theorem wX11_unseen_93 {p : Program} {l : Launch} {e : Env} {s : State} {m : MethodId} {args : Array Value} {below : List Frame} {meth : Method} {c : Code} {D : va_G} {cI cZ : ClassId} (S : CallFix p m c cX11_unseen 8 s args wsX11_unseen RX11) (hr : meth.sig.returnType = some .int) (hlk : meth.locks = false) (hK : KX D cI cZ s) {a_t a_t_text a_t_draft a_t_s a_t_undos a_t_kept a_t_isKept a_t_seenWay a_t_seenIs a_t_sums a_t_parts a_t_heaps : Nat} {jk34 : Int32 → Int32 → Int32 → Int32 → Option (Int32 × Int32)} {jk46 : Int32 → Int32 → Int32 → Option (Int32 × Int32)} {jx1 : Int32} {jx2 : Int32} {jx3 : Int32} {jx4 : Int32} {jx5 : Int32} {v_t_copies : Int32} {v_t_seenMany : Int32} {v_t_s : (Nat → Int32)} {v_t_seenWay : (Nat → Int32)} {v_t_seenIs : (Nat → Int32)} {v_t_typed : Int32} {v_t_spot : Int32} {v_t_token : Int32} {v_t_place : Int32} {v_t_value : Int32} {v_t_fault : Int32} {v_t_draftCopies : Int32} {v_t_undoMany : Int32} {v_t_asked : Int32} {r : Int32} {o_t_thrown : Int32} {A : Nat → Prop} (hA : ∀ q : Nat, s.heap.size ≤ q → A q) (hk34 : ∀ (jx3 : Int32) (jx4 : Int32) (jx5 : Int32) (v_t_thrown : Int32) (ls : Array Slot) (H : Heap) (locs : List Loc), jk34 jx3 jx4 jx5 v_t_thrown = some (r, o_t_thrown) → lv_has ls 8 [(0, .ref a_t), (1, .int jx1), (2, .int jx2), (3, .int jx3), (4, .int jx4), (5, .int jx5)] → va_P D vwCl [(a_t, .inr (11, [.int v_t_thrown, .ref a_t_text, .int v_t_typed, .int v_t_spot, .int v_t_token, .int v_t_place, .int v_t_value, .int v_t_fault, .int v_t_copies, .int v_t_draftCopies, .ref a_t_draft, .ref a_t_s, .ref a_t_undos, .int v_t_undoMany, .ref a_t_kept, .ref a_t_isKept, .ref a_t_seenWay, .ref a_t_seenIs, .int v_t_seenMany, .int v_t_asked, .ref a_t_sums, .ref a_t_parts, .ref a_t_heaps])), (a_t_s, .inl (cI, 103, .inl v_t_s)), (a_t_seenWay, .inl (cI, 6, .inl v_t_seenWay)), (a_t_seenIs, .inl (cI, 6, .inl v_t_seenIs))] H → va_D A [(a_t, .inr (11, [.int v_t_thrown, .ref a_t_text, .int v_t_typed, .int v_t_spot, .int v_t_token, .int v_t_place, .int v_t_value, .int v_t_fault, .int v_t_copies, .int v_t_draftCopies, .ref a_t_draft, .ref a_t_s, .ref a_t_undos, .int v_t_undoMany, .ref a_t_kept, .ref a_t_isKept, .ref a_t_seenWay, .ref a_t_seenIs, .int v_t_seenMany, .int v_t_asked, .ref a_t_sums, .ref a_t_parts, .ref a_t_heaps])), (a_t_s, .inl (cI, 103, .inl v_t_s)), (a_t_seenWay, .inl (cI, 6, .inl v_t_seenWay)), (a_t_seenIs, .inl (cI, 6, .inl v_t_seenIs))] → va_S A s.heap H locs → W p l e rmX11_unseen s m args below meth c H locs 0 0 (MQ below (qM D (some (.int r)) [(a_t, .inr (11, [.int o_t_thrown, .ref a_t_text, .int v_t_typed, .int v_t_spot, .int v_t_token, .int v_t_place, .int v_t_value, .int v_t_fault, .int v_t_copies, .int v_t_draftCopies, .ref a_t_draft, .ref a_t_s, .ref a_t_undos, .int v_t_undoMany, .ref a_t_kept, .ref a_t_isKept, .ref a_t_seenWay, .ref a_t_seenIs, .int v_t_seenMany, .int v_t_asked, .ref a_t_sums, .ref a_t_parts, .ref a_t_heaps])), (a_t_s, .inl (cI, 103, .inl v_t_s)), (a_t_seenWay, .inl (cI, 6, .inl v_t_seenWay)), (a_t_seenIs, .inl (cI, 6, .inl v_t_seenIs))] A) args s 0 0 A) (F0 m 34 ls [])) (hk46 : ∀ (jx6 : Int32) (jx7 : Int32) (v_t_thrown : Int32) (ls : Array Slot) (H : Heap) (locs : List Loc), jk46 jx6 jx7 v_t_thrown = some (r, o_t_thrown) → lv_has ls 8 [(0, .ref a_t), (1, .int jx1), (2, .int jx2), (3, .int jx3), (4, .int jx4), (5, .int jx5), (6, .int jx6), (7, .int jx7)] → va_P D vwCl [(a_t, .inr (11, [.int v_t_thrown, .ref a_t_text, .int v_t_typed, .int v_t_spot, .int v_t_token, .int v_t_place, .int v_t_value, .int v_t_fault, .int v_t_copies, .int v_t_draftCopies, .ref a_t_draft, .ref a_t_s, .ref a_t_undos, .int v_t_undoMany, .ref a_t_kept, .ref a_t_isKept, .ref a_t_seenWay, .ref a_t_seenIs, .int v_t_seenMany, .int v_t_asked, .ref a_t_sums, .ref a_t_parts, .ref a_t_heaps])), (a_t_s, .inl (cI, 103, .inl v_t_s)), (a_t_seenWay, .inl (cI, 6, .inl v_t_seenWay)), (a_t_seenIs, .inl (cI, 6, .inl v_t_seenIs))] H → va_D A [(a_t, .inr (11, [.int v_t_thrown, .ref a_t_text, .int v_t_typed, .int v_t_spot, .int v_t_token, .int v_t_place, .int v_t_value, .int v_t_fault, .int v_t_copies, .int v_t_draftCopies, .ref a_t_draft, .ref a_t_s, .ref a_t_undos, .int v_t_undoMany, .ref a_t_kept, .ref a_t_isKept, .ref a_t_seenWay, .ref a_t_seenIs, .int v_t_seenMany, .int v_t_asked, .ref a_t_sums, .ref a_t_parts, .ref a_t_heaps])), (a_t_s, .inl (cI, 103, .inl v_t_s)), (a_t_seenWay, .inl (cI, 6, .inl v_t_seenWay)), (a_t_seenIs, .inl (cI, 6, .inl v_t_seenIs))] → va_S A s.heap H locs → W p l e rmX11_unseen s m args below meth c H locs 0 0 (MQ below (qM D (some (.int r)) [(a_t, .inr (11, [.int o_t_thrown, .ref a_t_text, .int v_t_typed, .int v_t_spot, .int v_t_token, .int v_t_place, .int v_t_value, .int v_t_fault, .int v_t_copies, .int v_t_draftCopies, .ref a_t_draft, .ref a_t_s, .ref a_t_undos, .int v_t_undoMany, .ref a_t_kept, .ref a_t_isKept, .ref a_t_seenWay, .ref a_t_seenIs, .int v_t_seenMany, .int v_t_asked, .ref a_t_sums, .ref a_t_parts, .ref a_t_heaps])), (a_t_s, .inl (cI, 103, .inl v_t_s)), (a_t_seenWay, .inl (cI, 6, .inl v_t_seenWay)), (a_t_seenIs, .inl (cI, 6, .inl v_t_seenIs))] A) args s 0 0 A) (F0 m 46 ls [])) : ∀ (jx7 : Int32) (jy0 : Int32) (jy1 : Int32) (v_t_thrown : Int32) (ls : Array Slot) (H : Heap) (locs : List Loc), fX11_unseen_93 jk34 jk46 jx1 jx2 jx3 jx4 jx5 v_t_copies v_t_seenMany v_t_s v_t_seenWay v_t_seenIs jx7 jy0 jy1 v_t_thrown = some (r, o_t_thrown) → lv_has ls 8 [(0, .ref a_t), (1, .int jx1), (2, .int jx2), (3, .int jx3), (4, .int jx4), (5, .int jx5), (7, .int jx7)] → va_P D vwCl [(a_t, .inr (11, [.int v_t_thrown, .ref a_t_text, .int v_t_typed, .int v_t_spot, .int v_t_token, .int v_t_place, .int v_t_value, .int v_t_fault, .int v_t_copies, .int v_t_draftCopies, .ref a_t_draft, .ref a_t_s, .ref a_t_undos, .int v_t_undoMany, .ref a_t_kept, .ref a_t_isKept, .ref a_t_seenWay, .ref a_t_seenIs, .int v_t_seenMany, .int v_t_asked, .ref a_t_sums, .ref a_t_parts, .ref a_t_heaps])), (a_t_s, .inl (cI, 103, .inl v_t_s)), (a_t_seenWay, .inl (cI, 6, .inl v_t_seenWay)), (a_t_seenIs, .inl (cI, 6, .inl v_t_seenIs))] H → va_D A [(a_t, .inr (11, [.int v_t_thrown, .ref a_t_text, .int v_t_typed, .int v_t_spot, .int v_t_token, .int v_t_place, .int v_t_value, .int v_t_fault, .int v_t_copies, .int v_t_draftCopies, .ref a_t_draft, .ref a_t_s, .ref a_t_undos, .int v_t_undoMany, .ref a_t_kept, .ref a_t_isKept, .ref a_t_seenWay, .ref a_t_seenIs, .int v_t_seenMany, .int v_t_asked, .ref a_t_sums, .ref a_t_parts, .ref a_t_heaps])), (a_t_s, .inl (cI, 103, .inl v_t_s)), (a_t_seenWay, .inl (cI, 6, .inl v_t_seenWay)), (a_t_seenIs, .inl (cI, 6, .inl v_t_seenIs))] → va_S A s.heap H locs → W p l e rmX11_unseen s m args below meth c H locs 0 0 (MQ below (qM D (some (.int r)) [(a_t, .inr (11, [.int o_t_thrown, .ref a_t_text, .int v_t_typed, .int v_t_spot, .int v_t_token, .int v_t_place, .int v_t_value, .int v_t_fault, .int v_t_copies, .int v_t_draftCopies, .ref a_t_draft, .ref a_t_s, .ref a_t_undos, .int v_t_undoMany, .ref a_t_kept, .ref a_t_isKept, .ref a_t_seenWay, .ref a_t_seenIs, .int v_t_seenMany, .int v_t_asked, .ref a_t_sums, .ref a_t_parts, .ref a_t_heaps])), (a_t_s, .inl (cI, 103, .inl v_t_s)), (a_t_seenWay, .inl (cI, 6, .inl v_t_seenWay)), (a_t_seenIs, .inl (cI, 6, .inl v_t_seenIs))] A) args s 0 0 A) (F0 m 93 ls [.int jy0, .int jy1]) := by
  obtain ⟨hx, hb, hml, hown, hts⟩ := id S
  intro jx7 jy0 jy1 v_t_thrown ls H locs hf hl hP hD hS
  unfold fX11_unseen_93 at hf
  refine lv_icmp_ne (tgt := 100) hx hb dX11_unseen_93 (by decide) (fun jc1 => ?_) (fun jc1 => ?_)
  · have hf := ite_f jc1 hf
    refine lv_iconst (v := 0) hx hb dX11_unseen_100 (by decide) ?_
    refine lv_istore (lv' := [(6, .int (0 : Int32)), (0, .ref a_t), (1, .int jx1), (2, .int jx2), (3, .int jx3), (4, .int jx4), (5, .int jx5), (7, .int jx7)]) hx hb dX11_unseen_101 hl (by decide) rfl (fun ls hl => ?_)
    refine lv_iinc (v := (jx7 + (1 : Int32))) (lv' := [(7, .int (jx7 + (1 : Int32))), (6, .int (0 : Int32)), (0, .ref a_t), (1, .int jx1), (2, .int jx2), (3, .int jx3), (4, .int jx4), (5, .int jx5)]) hx hb dX11_unseen_103 hl (k := 7) rfl rfl (by decide) rfl (fun ls hl => ?_)
    refine lv_goto (tgt := 46) hx hb dX11_unseen_106 (by decide) ?_
    exact hk46 (0 : Int32) (jx7 + (1 : Int32)) v_t_thrown ls _ _ hf (lv_sub hl [2, 3, 4, 5, 6, 7, 1, 0] rfl) hP hD hS
  · have hf := ite_t jc1 hf
    refine lv_iconst (v := 1) hx hb dX11_unseen_96 (by decide) ?_
    refine lv_goto (tgt := 101) hx hb dX11_unseen_97 (by decide) ?_
    refine lv_istore (lv' := [(6, .int (1 : Int32)), (0, .ref a_t), (1, .int jx1), (2, .int jx2), (3, .int jx3), (4, .int jx4), (5, .int jx5), (7, .int jx7)]) hx hb dX11_unseen_101 hl (by decide) rfl (fun ls hl => ?_)
    refine lv_iinc (v := (jx7 + (1 : Int32))) (lv' := [(7, .int (jx7 + (1 : Int32))), (6, .int (1 : Int32)), (0, .ref a_t), (1, .int jx1), (2, .int jx2), (3, .int jx3), (4, .int jx4), (5, .int jx5)]) hx hb dX11_unseen_103 hl (k := 7) rfl rfl (by decide) rfl (fun ls hl => ?_)
    refine lv_goto (tgt := 46) hx hb dX11_unseen_106 (by decide) ?_
    exact hk46 (1 : Int32) (jx7 + (1 : Int32)) v_t_thrown ls _ _ hf (lv_sub hl [2, 3, 4, 5, 6, 7, 1, 0] rfl) hP hD hS
set_option maxHeartbeats 4000000 in
set_option maxRecDepth 100000 in
theorem wX11_unseen_46 {p : Program} {l : Launch} {e : Env} {s : State} {m : MethodId} {args : Array Value} {below : List Frame} {meth : Method} {c : Code} {D : va_G} {cI cZ : ClassId} (S : CallFix p m c cX11_unseen 8 s args wsX11_unseen RX11) (hr : meth.sig.returnType = some .int) (hlk : meth.locks = false) (hK : KX D cI cZ s) {a_t a_t_text a_t_draft a_t_s a_t_undos a_t_kept a_t_isKept a_t_seenWay a_t_seenIs a_t_sums a_t_parts a_t_heaps : Nat} {jk34 : Int32 → Int32 → Int32 → Int32 → Option (Int32 × Int32)} {jx1 : Int32} {jx2 : Int32} {jx3 : Int32} {jx4 : Int32} {jx5 : Int32} {v_t_copies : Int32} {v_t_seenMany : Int32} {v_t_s : (Nat → Int32)} {v_t_seenWay : (Nat → Int32)} {v_t_seenIs : (Nat → Int32)} {v_t_typed : Int32} {v_t_spot : Int32} {v_t_token : Int32} {v_t_place : Int32} {v_t_value : Int32} {v_t_fault : Int32} {v_t_draftCopies : Int32} {v_t_undoMany : Int32} {v_t_asked : Int32} {r : Int32} {o_t_thrown : Int32} {A : Nat → Prop} (hA : ∀ q : Nat, s.heap.size ≤ q → A q) (hk34 : ∀ (jx3 : Int32) (jx4 : Int32) (jx5 : Int32) (v_t_thrown : Int32) (ls : Array Slot) (H : Heap) (locs : List Loc), jk34 jx3 jx4 jx5 v_t_thrown = some (r, o_t_thrown) → lv_has ls 8 [(0, .ref a_t), (1, .int jx1), (2, .int jx2), (3, .int jx3), (4, .int jx4), (5, .int jx5)] → va_P D vwCl [(a_t, .inr (11, [.int v_t_thrown, .ref a_t_text, .int v_t_typed, .int v_t_spot, .int v_t_token, .int v_t_place, .int v_t_value, .int v_t_fault, .int v_t_copies, .int v_t_draftCopies, .ref a_t_draft, .ref a_t_s, .ref a_t_undos, .int v_t_undoMany, .ref a_t_kept, .ref a_t_isKept, .ref a_t_seenWay, .ref a_t_seenIs, .int v_t_seenMany, .int v_t_asked, .ref a_t_sums, .ref a_t_parts, .ref a_t_heaps])), (a_t_s, .inl (cI, 103, .inl v_t_s)), (a_t_seenWay, .inl (cI, 6, .inl v_t_seenWay)), (a_t_seenIs, .inl (cI, 6, .inl v_t_seenIs))] H → va_D A [(a_t, .inr (11, [.int v_t_thrown, .ref a_t_text, .int v_t_typed, .int v_t_spot, .int v_t_token, .int v_t_place, .int v_t_value, .int v_t_fault, .int v_t_copies, .int v_t_draftCopies, .ref a_t_draft, .ref a_t_s, .ref a_t_undos, .int v_t_undoMany, .ref a_t_kept, .ref a_t_isKept, .ref a_t_seenWay, .ref a_t_seenIs, .int v_t_seenMany, .int v_t_asked, .ref a_t_sums, .ref a_t_parts, .ref a_t_heaps])), (a_t_s, .inl (cI, 103, .inl v_t_s)), (a_t_seenWay, .inl (cI, 6, .inl v_t_seenWay)), (a_t_seenIs, .inl (cI, 6, .inl v_t_seenIs))] → va_S A s.heap H locs → W p l e rmX11_unseen s m args below meth c H locs 0 0 (MQ below (qM D (some (.int r)) [(a_t, .inr (11, [.int o_t_thrown, .ref a_t_text, .int v_t_typed, .int v_t_spot, .int v_t_token, .int v_t_place, .int v_t_value, .int v_t_fault, .int v_t_copies, .int v_t_draftCopies, .ref a_t_draft, .ref a_t_s, .ref a_t_undos, .int v_t_undoMany, .ref a_t_kept, .ref a_t_isKept, .ref a_t_seenWay, .ref a_t_seenIs, .int v_t_seenMany, .int v_t_asked, .ref a_t_sums, .ref a_t_parts, .ref a_t_heaps])), (a_t_s, .inl (cI, 103, .inl v_t_s)), (a_t_seenWay, .inl (cI, 6, .inl v_t_seenWay)), (a_t_seenIs, .inl (cI, 6, .inl v_t_seenIs))] A) args s 0 0 A) (F0 m 34 ls [])) : ∀ (n : Nat), ∀ (jx6 : Int32) (jx7 : Int32) (v_t_thrown : Int32) (ls : Array Slot) (H : Heap) (locs : List Loc), fX11_unseen_46 jk34 jx1 jx2 jx3 jx4 jx5 v_t_copies v_t_seenMany v_t_s v_t_seenWay v_t_seenIs n jx6 jx7 v_t_thrown = some (r, o_t_thrown) → lv_has ls 8 [(0, .ref a_t), (1, .int jx1), (2, .int jx2), (3, .int jx3), (4, .int jx4), (5, .int jx5), (6, .int jx6), (7, .int jx7)] → va_P D vwCl [(a_t, .inr (11, [.int v_t_thrown, .ref a_t_text, .int v_t_typed, .int v_t_spot, .int v_t_token, .int v_t_place, .int v_t_value, .int v_t_fault, .int v_t_copies, .int v_t_draftCopies, .ref a_t_draft, .ref a_t_s, .ref a_t_undos, .int v_t_undoMany, .ref a_t_kept, .ref a_t_isKept, .ref a_t_seenWay, .ref a_t_seenIs, .int v_t_seenMany, .int v_t_asked, .ref a_t_sums, .ref a_t_parts, .ref a_t_heaps])), (a_t_s, .inl (cI, 103, .inl v_t_s)), (a_t_seenWay, .inl (cI, 6, .inl v_t_seenWay)), (a_t_seenIs, .inl (cI, 6, .inl v_t_seenIs))] H → va_D A [(a_t, .inr (11, [.int v_t_thrown, .ref a_t_text, .int v_t_typed, .int v_t_spot, .int v_t_token, .int v_t_place, .int v_t_value, .int v_t_fault, .int v_t_copies, .int v_t_draftCopies, .ref a_t_draft, .ref a_t_s, .ref a_t_undos, .int v_t_undoMany, .ref a_t_kept, .ref a_t_isKept, .ref a_t_seenWay, .ref a_t_seenIs, .int v_t_seenMany, .int v_t_asked, .ref a_t_sums, .ref a_t_parts, .ref a_t_heaps])), (a_t_s, .inl (cI, 103, .inl v_t_s)), (a_t_seenWay, .inl (cI, 6, .inl v_t_seenWay)), (a_t_seenIs, .inl (cI, 6, .inl v_t_seenIs))] → va_S A s.heap H locs → W p l e rmX11_unseen s m args below meth c H locs 0 0 (MQ below (qM D (some (.int r)) [(a_t, .inr (11, [.int o_t_thrown, .ref a_t_text, .int v_t_typed, .int v_t_spot, .int v_t_token, .int v_t_place, .int v_t_value, .int v_t_fault, .int v_t_copies, .int v_t_draftCopies, .ref a_t_draft, .ref a_t_s, .ref a_t_undos, .int v_t_undoMany, .ref a_t_kept, .ref a_t_isKept, .ref a_t_seenWay, .ref a_t_seenIs, .int v_t_seenMany, .int v_t_asked, .ref a_t_sums, .ref a_t_parts, .ref a_t_heaps])), (a_t_s, .inl (cI, 103, .inl v_t_s)), (a_t_seenWay, .inl (cI, 6, .inl v_t_seenWay)), (a_t_seenIs, .inl (cI, 6, .inl v_t_seenIs))] A) args s 0 0 A) (F0 m 46 ls []) := by
  obtain ⟨hx, hb, hml, hown, hts⟩ := id S
  intro n
  induction n with
  | zero =>
    intro jx6 jx7 v_t_thrown ls H locs hf hl hP hD hS
    cases (show (none : Option _) = some _ from hf)
  | succ n ih =>
    intro jx6 jx7 v_t_thrown ls H locs hf hl hP hD hS
    have hf := (fX11_unseen_46_s _ _ _ _ _ _ _ _ _ _ _ n _ _ _).symm.trans hf
    refine lv_iload hx hb dX11_unseen_46 (lv_at hl 7 rfl) ?_
    refine lv_aload_n hx hb dX11_unseen_48 rfl (lv_at hl 0 rfl) ?_
    refine va_get (D := D) (ci := 11) (v := .int v_t_seenMany) (C := RX11) (T := TX11) (N := 23) hx hb hts iX11_unseen_X11 hown hK.1 hP 0 rfl rfl 18 (by decide) (hts _ mX11_unseen_3) (fun _ h9 => h9) rfl dX11_unseen_49 ?_
    refine lv_icmp_ge (tgt := 109) hx hb dX11_unseen_52 (by decide) (fun jc1 => ?_) (fun jc1 => ?_)
    · have hf := ite_t jc1 hf
      refine lv_iload hx hb dX11_unseen_109 (lv_at hl 6 rfl) ?_
      refine lv_if_eq (tgt := 123) hx hb dX11_unseen_111 (by decide) (fun jc2 => ?_) (fun jc2 => ?_)
      · have hf := ite_t jc2 hf
        refine lv_iload hx hb dX11_unseen_123 (lv_at hl 4 rfl) ?_
        exact wX11_unseen_125 S hr hlk hK hA hk34 jx3 jx5 jx6 jx4 v_t_thrown ls _ _ hf (lv_sub hl [0, 1, 2, 3, 5, 6] rfl) hP hD hS
      · have hf := ite_f jc2 hf
        refine lv_iload_n hx hb dX11_unseen_114 rfl (lv_at hl 3 rfl) ?_
        refine lv_if_ne (tgt := 123) hx hb dX11_unseen_115 (by decide) (fun jc3 => ?_) (fun jc3 => ?_)
        · have hf := ite_f jc3 hf
          refine lv_iload hx hb dX11_unseen_123 (lv_at hl 4 rfl) ?_
          exact wX11_unseen_125 S hr hlk hK hA hk34 jx3 jx5 jx6 jx4 v_t_thrown ls _ _ hf (lv_sub hl [0, 1, 2, 3, 5, 6] rfl) hP hD hS
        · have hf := ite_t jc3 hf
          refine lv_iload hx hb dX11_unseen_118 (lv_at hl 5 rfl) ?_
          refine lv_goto (tgt := 125) hx hb dX11_unseen_120 (by decide) ?_
          exact wX11_unseen_125 S hr hlk hK hA hk34 jx3 jx5 jx6 jx5 v_t_thrown ls _ _ hf (lv_sub hl [0, 1, 2, 3, 5, 6] rfl) hP hD hS
    · have hf := ite_f jc1 hf
      refine lv_iload hx hb dX11_unseen_55 (lv_at hl 6 rfl) ?_
      refine lv_if_eq (tgt := 100) hx hb dX11_unseen_57 (by decide) (fun jc4 => ?_) (fun jc4 => ?_)
      · have hf := ite_t jc4 hf
        refine lv_iconst (v := 0) hx hb dX11_unseen_100 (by decide) ?_
        refine lv_istore (lv' := [(6, .int (0 : Int32)), (0, .ref a_t), (1, .int jx1), (2, .int jx2), (3, .int jx3), (4, .int jx4), (5, .int jx5), (7, .int jx7)]) hx hb dX11_unseen_101 hl (by decide) rfl (fun ls hl => ?_)
        refine lv_iinc (v := (jx7 + (1 : Int32))) (lv' := [(7, .int (jx7 + (1 : Int32))), (6, .int (0 : Int32)), (0, .ref a_t), (1, .int jx1), (2, .int jx2), (3, .int jx3), (4, .int jx4), (5, .int jx5)]) hx hb dX11_unseen_103 hl (k := 7) rfl rfl (by decide) rfl (fun ls hl => ?_)
        refine lv_goto (tgt := 46) hx hb dX11_unseen_106 (by decide) ?_
        exact ih (0 : Int32) (jx7 + (1 : Int32)) v_t_thrown ls _ _ hf (lv_sub hl [2, 3, 4, 5, 6, 7, 1, 0] rfl) hP hD hS
      · have hf := ite_f jc4 hf
        refine lv_aload_n hx hb dX11_unseen_60 rfl (lv_at hl 0 rfl) ?_
        refine lv_iload_n hx hb dX11_unseen_61 rfl (lv_at hl 2 rfl) ?_
        refine lv_iload hx hb dX11_unseen_62 (lv_at hl 5 rfl) ?_
        refine lv_iconst (v := -1) hx hb dX11_unseen_64 (by decide) ?_
        refine lv_ixor hx hb dX11_unseen_65 ?_
        refine lv_iand hx hb dX11_unseen_66 ?_
        refine lv_aload_n hx hb dX11_unseen_67 rfl (lv_at hl 0 rfl) ?_
        refine va_get (D := D) (ci := 11) (v := .ref a_t_seenWay) (C := RX11) (T := TX11) (N := 23) hx hb hts iX11_unseen_X11 hown hK.1 hP 0 rfl rfl 16 (by decide) (hts _ mX11_unseen_4) (fun _ h9 => h9) rfl dX11_unseen_68 ?_
        refine lv_iload hx hb dX11_unseen_71 (lv_at hl 7 rfl) ?_
        obtain ⟨jh5, hf⟩ := ckI_inv hf
        refine va_iald hx hb hK.1 hP 2 0 rfl rfl jh5 dX11_unseen_73 ?_
        obtain ⟨jr6, je7, hf⟩ := bd1_inv hf
        refine callRV (As := [.int (jx2 &&& (jx5 ^^^ (-1 : Int32))), .int (v_t_seenWay (Int32.toNatClampNeg jx7))]) (rest := []) S (ctX11_isEnoughNow l D cI cZ a_t a_t_text a_t_draft a_t_s a_t_undos a_t_kept a_t_isKept a_t_seenWay a_t_seenIs a_t_sums a_t_parts a_t_heaps (jx2 &&& (jx5 ^^^ (-1 : Int32))) (v_t_seenWay (Int32.toNatClampNeg jx7)) v_t_copies v_t_s v_t_thrown v_t_typed v_t_spot v_t_token v_t_place v_t_value v_t_fault v_t_draftCopies v_t_undoMany v_t_seenMany v_t_asked jr6 je7) (cwV 2 hts gX11_unseen_X11_isEnoughNow rfl rfl rfl ⟨rfl, hdX11_isEnoughNow⟩ ⟨Nat.le_of_ble_eq_true rfl, Nat.le_of_ble_eq_true rfl⟩) hP [0, 1] rfl KX.xs (fun U _ hW => hK.warm hW) (va_recv hK.1 hP (ci := 11) (q0 := 0) rfl rfl) rfl hl.1 rfl (Nat.le_of_ble_eq_true rfl) dX11_unseen_74 ⟨Nat.zero_le _, Nat.zero_le _⟩ ?_
        refine lv_aload_n hx hb dX11_unseen_77 rfl (lv_at hl 0 rfl) ?_
        refine va_get (D := D) (ci := 11) (v := .ref a_t_seenIs) (C := RX11) (T := TX11) (N := 23) hx hb hts iX11_unseen_X11 hown hK.1 hP 0 rfl rfl 17 (by decide) (hts _ mX11_unseen_5) (fun _ h9 => h9) rfl dX11_unseen_78 ?_
        refine lv_iload hx hb dX11_unseen_81 (lv_at hl 7 rfl) ?_
        obtain ⟨jh8, hf⟩ := ckI_inv hf
        refine va_iald hx hb hK.1 hP 3 0 rfl rfl jh8 dX11_unseen_83 ?_
        refine lv_iconst (v := 1) hx hb dX11_unseen_84 (by decide) ?_
        refine lv_icmp_ne (tgt := 92) hx hb dX11_unseen_85 (by decide) (fun jc9 => ?_) (fun jc9 => ?_)
        · have hf := ite_f jc9 hf
          refine lv_iconst (v := 0) hx hb dX11_unseen_92 (by decide) ?_
          exact wX11_unseen_93 S hr hlk hK hA hk34 ih jx7 (0 : Int32) jr6 v_t_thrown ls _ _ hf (lv_sub hl [0, 1, 2, 3, 4, 5, 7] rfl) hP hD hS
        · have hf := ite_t jc9 hf
          refine lv_iconst (v := 1) hx hb dX11_unseen_88 (by decide) ?_
          refine lv_goto (tgt := 93) hx hb dX11_unseen_89 (by decide) ?_
          exact wX11_unseen_93 S hr hlk hK hA hk34 ih jx7 (1 : Int32) jr6 v_t_thrown ls _ _ hf (lv_sub hl [0, 1, 2, 3, 4, 5, 7] rfl) hP hD hS
set_option maxHeartbeats 4000000 in
set_option maxRecDepth 100000 in
theorem wX11_unseen_34 {p : Program} {l : Launch} {e : Env} {s : State} {m : MethodId} {args : Array Value} {below : List Frame} {meth : Method} {c : Code} {D : va_G} {cI cZ : ClassId} (S : CallFix p m c cX11_unseen 8 s args wsX11_unseen RX11) (hr : meth.sig.returnType = some .int) (hlk : meth.locks = false) (hK : KX D cI cZ s) {a_t a_t_text a_t_draft a_t_s a_t_undos a_t_kept a_t_isKept a_t_seenWay a_t_seenIs a_t_sums a_t_parts a_t_heaps : Nat} {jx1 : Int32} {jx2 : Int32} {v_t_copies : Int32} {v_t_seenMany : Int32} {v_t_s : (Nat → Int32)} {v_t_seenWay : (Nat → Int32)} {v_t_seenIs : (Nat → Int32)} {v_t_typed : Int32} {v_t_spot : Int32} {v_t_token : Int32} {v_t_place : Int32} {v_t_value : Int32} {v_t_fault : Int32} {v_t_draftCopies : Int32} {v_t_undoMany : Int32} {v_t_asked : Int32} {r : Int32} {o_t_thrown : Int32} {A : Nat → Prop} (hA : ∀ q : Nat, s.heap.size ≤ q → A q) : ∀ (n : Nat), ∀ (jx3 : Int32) (jx4 : Int32) (jx5 : Int32) (v_t_thrown : Int32) (ls : Array Slot) (H : Heap) (locs : List Loc), fX11_unseen_34 jx1 jx2 v_t_copies v_t_seenMany v_t_s v_t_seenWay v_t_seenIs n jx3 jx4 jx5 v_t_thrown = some (r, o_t_thrown) → lv_has ls 8 [(0, .ref a_t), (1, .int jx1), (2, .int jx2), (3, .int jx3), (4, .int jx4), (5, .int jx5)] → va_P D vwCl [(a_t, .inr (11, [.int v_t_thrown, .ref a_t_text, .int v_t_typed, .int v_t_spot, .int v_t_token, .int v_t_place, .int v_t_value, .int v_t_fault, .int v_t_copies, .int v_t_draftCopies, .ref a_t_draft, .ref a_t_s, .ref a_t_undos, .int v_t_undoMany, .ref a_t_kept, .ref a_t_isKept, .ref a_t_seenWay, .ref a_t_seenIs, .int v_t_seenMany, .int v_t_asked, .ref a_t_sums, .ref a_t_parts, .ref a_t_heaps])), (a_t_s, .inl (cI, 103, .inl v_t_s)), (a_t_seenWay, .inl (cI, 6, .inl v_t_seenWay)), (a_t_seenIs, .inl (cI, 6, .inl v_t_seenIs))] H → va_D A [(a_t, .inr (11, [.int v_t_thrown, .ref a_t_text, .int v_t_typed, .int v_t_spot, .int v_t_token, .int v_t_place, .int v_t_value, .int v_t_fault, .int v_t_copies, .int v_t_draftCopies, .ref a_t_draft, .ref a_t_s, .ref a_t_undos, .int v_t_undoMany, .ref a_t_kept, .ref a_t_isKept, .ref a_t_seenWay, .ref a_t_seenIs, .int v_t_seenMany, .int v_t_asked, .ref a_t_sums, .ref a_t_parts, .ref a_t_heaps])), (a_t_s, .inl (cI, 103, .inl v_t_s)), (a_t_seenWay, .inl (cI, 6, .inl v_t_seenWay)), (a_t_seenIs, .inl (cI, 6, .inl v_t_seenIs))] → va_S A s.heap H locs → W p l e rmX11_unseen s m args below meth c H locs 0 0 (MQ below (qM D (some (.int r)) [(a_t, .inr (11, [.int o_t_thrown, .ref a_t_text, .int v_t_typed, .int v_t_spot, .int v_t_token, .int v_t_place, .int v_t_value, .int v_t_fault, .int v_t_copies, .int v_t_draftCopies, .ref a_t_draft, .ref a_t_s, .ref a_t_undos, .int v_t_undoMany, .ref a_t_kept, .ref a_t_isKept, .ref a_t_seenWay, .ref a_t_seenIs, .int v_t_seenMany, .int v_t_asked, .ref a_t_sums, .ref a_t_parts, .ref a_t_heaps])), (a_t_s, .inl (cI, 103, .inl v_t_s)), (a_t_seenWay, .inl (cI, 6, .inl v_t_seenWay)), (a_t_seenIs, .inl (cI, 6, .inl v_t_seenIs))] A) args s 0 0 A) (F0 m 34 ls []) := by
  obtain ⟨hx, hb, hml, hown, hts⟩ := id S
  intro n
  induction n with
  | zero =>
    intro jx3 jx4 jx5 v_t_thrown ls H locs hf hl hP hD hS
    cases (show (none : Option _) = some _ from hf)
  | succ n ih =>
    intro jx3 jx4 jx5 v_t_thrown ls H locs hf hl hP hD hS
    have hf := (fX11_unseen_34_s _ _ _ _ _ _ _ n _ _ _ _).symm.trans hf
    refine lv_iload hx hb dX11_unseen_34 (lv_at hl 5 rfl) ?_
    refine lv_iload_n hx hb dX11_unseen_36 rfl (lv_at hl 2 rfl) ?_
    refine lv_icmp_gt (tgt := 146) hx hb dX11_unseen_37 (by decide) (fun jc1 => ?_) (fun jc1 => ?_)
    · have hf := ite_t jc1 hf
      refine lv_iload_n hx hb dX11_unseen_146 rfl (lv_at hl 1 rfl) ?_
      refine lv_if_ne (tgt := 154) hx hb dX11_unseen_147 (by decide) (fun jc2 => ?_) (fun jc2 => ?_)
      · have hf := ite_f jc2 hf
        refine lv_iload hx hb dX11_unseen_154 (lv_at hl 4 rfl) ?_
        obtain ⟨rfl, rfl⟩ := pr2_inv hf
        exact retM hx hb hr hlk hP hD hS dX11_unseen_156
      · have hf := ite_t jc2 hf
        refine lv_iload_n hx hb dX11_unseen_150 rfl (lv_at hl 3 rfl) ?_
        refine lv_goto (tgt := 156) hx hb dX11_unseen_151 (by decide) ?_
        obtain ⟨rfl, rfl⟩ := pr2_inv hf
        exact retM hx hb hr hlk hP hD hS dX11_unseen_156
    · have hf := ite_f jc1 hf
      refine lv_iconst (v := 1) hx hb dX11_unseen_40 (by decide) ?_
      refine lv_istore (lv' := [(6, .int (1 : Int32)), (0, .ref a_t), (1, .int jx1), (2, .int jx2), (3, .int jx3), (4, .int jx4), (5, .int jx5)]) hx hb dX11_unseen_41 hl (by decide) rfl (fun ls hl => ?_)
      refine lv_iconst (v := 0) hx hb dX11_unseen_43 (by decide) ?_
      refine lv_istore (lv' := [(7, .int (0 : Int32)), (6, .int (1 : Int32)), (0, .ref a_t), (1, .int jx1), (2, .int jx2), (3, .int jx3), (4, .int jx4), (5, .int jx5)]) hx hb dX11_unseen_44 hl (by decide) rfl (fun ls hl => ?_)
      exact wX11_unseen_46 S hr hlk hK hA ih fuel (1 : Int32) (0 : Int32) v_t_thrown ls _ _ hf (lv_sub hl [2, 3, 4, 5, 6, 7, 1, 0] rfl) hP hD hS
theorem hdX11_unseen : yX11_unseen.cls ≠ "java/lang/invoke/MethodHandle" ∧ yX11_unseen.cls ≠ "java/lang/invoke/VarHandle" ∧ (parseMethodDescriptor yX11_unseen.desc).map (fun d => d.parameters.length) = some 1 := by decide +kernel
set_option maxHeartbeats 4000000 in
set_option maxRecDepth 100000 in
theorem ctX11_unseen (l : Launch) (D : va_G) (cI cZ : ClassId) (a_t a_t_text a_t_draft a_t_s a_t_undos a_t_kept a_t_isKept a_t_seenWay a_t_seenIs a_t_sums a_t_parts a_t_heaps : Nat) (jx1 : Int32) (v_t_thrown : Int32) (v_t_copies : Int32) (v_t_seenMany : Int32) (v_t_s : (Nat → Int32)) (v_t_seenWay : (Nat → Int32)) (v_t_seenIs : (Nat → Int32)) (v_t_typed : Int32) (v_t_spot : Int32) (v_t_token : Int32) (v_t_place : Int32) (v_t_value : Int32) (v_t_fault : Int32) (v_t_draftCopies : Int32) (v_t_undoMany : Int32) (v_t_asked : Int32) (r : Int32) (o_t_thrown : Int32) (hf : fX11_unseen jx1 v_t_thrown v_t_copies v_t_seenMany v_t_s v_t_seenWay v_t_seenIs = some (r, o_t_thrown)) : cM l yX11_unseen wsX11_unseen rmX11_unseen [.ref a_t, .int jx1] D [(a_t, .inr (11, [.int v_t_thrown, .ref a_t_text, .int v_t_typed, .int v_t_spot, .int v_t_token, .int v_t_place, .int v_t_value, .int v_t_fault, .int v_t_copies, .int v_t_draftCopies, .ref a_t_draft, .ref a_t_s, .ref a_t_undos, .int v_t_undoMany, .ref a_t_kept, .ref a_t_isKept, .ref a_t_seenWay, .ref a_t_seenIs, .int v_t_seenMany, .int v_t_asked, .ref a_t_sums, .ref a_t_parts, .ref a_t_heaps])), (a_t_s, .inl (cI, 103, .inl v_t_s)), (a_t_seenWay, .inl (cI, 6, .inl v_t_seenWay)), (a_t_seenIs, .inl (cI, 6, .inl v_t_seenIs))] [(a_t, .inr (11, [.int o_t_thrown, .ref a_t_text, .int v_t_typed, .int v_t_spot, .int v_t_token, .int v_t_place, .int v_t_value, .int v_t_fault, .int v_t_copies, .int v_t_draftCopies, .ref a_t_draft, .ref a_t_s, .ref a_t_undos, .int v_t_undoMany, .ref a_t_kept, .ref a_t_isKept, .ref a_t_seenWay, .ref a_t_seenIs, .int v_t_seenMany, .int v_t_asked, .ref a_t_sums, .ref a_t_parts, .ref a_t_heaps])), (a_t_s, .inl (cI, 103, .inl v_t_s)), (a_t_seenWay, .inl (cI, 6, .inl v_t_seenWay)), (a_t_seenIs, .inl (cI, 6, .inl v_t_seenIs))] (KX D cI cZ) (some (.int r)) := by
  refine cM_of (cc := cX11_unseen) (maxL := 8) (ret := some .int) (by decide +kernel) rfl _ (Nat.le_of_ble_eq_true rfl) ?_
  intro p e s m below meth c ls A S hr hlk hP hK hl hD hA hS
  obtain ⟨hx, hb, hml, hown, hts⟩ := id S
  have hl : lv_has ls 8 [(0, .ref a_t), (1, .int jx1)] := hl
  unfold fX11_unseen at hf
  refine lv_aload_n hx hb dX11_unseen_0 rfl (lv_at hl 0 rfl) ?_
  refine lv_iconst (v := 0) hx hb dX11_unseen_1 (by decide) ?_
  refine va_put (D := D) (ci := 11) (v := .int (0 : Int32)) (ty := .int) (C := RX11) (T := TX11) (N := 23) hx hb hts iX11_unseen_X11 tyX11 tyX11_ok nmX11 hown hK.1 hP hD hS 0 rfl rfl 0 (by decide) (hts _ mX11_unseen_1) (fun _ h9 => h9) rfl (tyX11_ok 0 (by decide)) rfl rfl (Nat.le_of_ble_eq_true rfl) dX11_unseen_2 (fun H locs hP hD hS => ?_)
  have hP : va_P D vwCl [(a_t, .inr (11, [.int (0 : Int32), .ref a_t_text, .int v_t_typed, .int v_t_spot, .int v_t_token, .int v_t_place, .int v_t_value, .int v_t_fault, .int v_t_copies, .int v_t_draftCopies, .ref a_t_draft, .ref a_t_s, .ref a_t_undos, .int v_t_undoMany, .ref a_t_kept, .ref a_t_isKept, .ref a_t_seenWay, .ref a_t_seenIs, .int v_t_seenMany, .int v_t_asked, .ref a_t_sums, .ref a_t_parts, .ref a_t_heaps])), (a_t_s, .inl (cI, 103, .inl v_t_s)), (a_t_seenWay, .inl (cI, 6, .inl v_t_seenWay)), (a_t_seenIs, .inl (cI, 6, .inl v_t_seenIs))] H := hP
  have hD : va_D A [(a_t, .inr (11, [.int (0 : Int32), .ref a_t_text, .int v_t_typed, .int v_t_spot, .int v_t_token, .int v_t_place, .int v_t_value, .int v_t_fault, .int v_t_copies, .int v_t_draftCopies, .ref a_t_draft, .ref a_t_s, .ref a_t_undos, .int v_t_undoMany, .ref a_t_kept, .ref a_t_isKept, .ref a_t_seenWay, .ref a_t_seenIs, .int v_t_seenMany, .int v_t_asked, .ref a_t_sums, .ref a_t_parts, .ref a_t_heaps])), (a_t_s, .inl (cI, 103, .inl v_t_s)), (a_t_seenWay, .inl (cI, 6, .inl v_t_seenWay)), (a_t_seenIs, .inl (cI, 6, .inl v_t_seenIs))] := hD
  refine lv_iload_n hx hb dX11_unseen_5 rfl (lv_at hl 1 rfl) ?_
  refine lv_iconst (v := 0) hx hb dX11_unseen_6 (by decide) ?_
  refine lv_iconst (v := 1) hx hb dX11_unseen_7 (by decide) ?_
  obtain ⟨jr1, je2, hf⟩ := bd1_inv hf
  refine callRS (As := [.int jx1, .int (0 : Int32), .int (1 : Int32)]) (rest := []) S (ctX11_in l D cI cZ jx1 (0 : Int32) (1 : Int32) jr1 je2) (va_cwS 3 hts gX11_unseen_X11_in rfl rfl rfl hdX11_in ⟨Nat.le_of_ble_eq_true rfl, Nat.le_of_ble_eq_true rfl⟩) hP [] rfl KX.xs (fun U _ hW => hK.warm hW) rfl hl.1 rfl (Nat.le_of_ble_eq_true rfl) dX11_unseen_8 ⟨Nat.zero_le _, Nat.zero_le _⟩ ?_
  refine lv_if_ne (tgt := 16) hx hb dX11_unseen_11 (by decide) (fun jc3 => ?_) (fun jc3 => ?_)
  · have hf := ite_f jc3 hf
    refine lv_iconst (v := 1) hx hb dX11_unseen_16 (by decide) ?_
    refine lv_aload_n hx hb dX11_unseen_17 rfl (lv_at hl 0 rfl) ?_
    refine va_get (D := D) (ci := 11) (v := .int v_t_copies) (C := RX11) (T := TX11) (N := 23) hx hb hts iX11_unseen_X11 hown hK.1 hP 0 rfl rfl 8 (by decide) (hts _ mX11_unseen_2) (fun _ h9 => h9) rfl dX11_unseen_18 ?_
    refine lv_ishl hx hb dX11_unseen_21 ?_
    refine lv_iconst (v := 1) hx hb dX11_unseen_22 (by decide) ?_
    refine lv_isub hx hb dX11_unseen_23 ?_
    refine lv_istore_n (lv' := [(2, .int (((1 : Int32) <<< (v_t_copies &&& 31)) - (1 : Int32))), (0, .ref a_t), (1, .int jx1)]) hx hb dX11_unseen_24 rfl hl (by decide) rfl (fun ls hl => ?_)
    refine lv_iconst (v := 0) hx hb dX11_unseen_25 (by decide) ?_
    refine lv_istore_n (lv' := [(3, .int (0 : Int32)), (2, .int (((1 : Int32) <<< (v_t_copies &&& 31)) - (1 : Int32))), (0, .ref a_t), (1, .int jx1)]) hx hb dX11_unseen_26 rfl hl (by decide) rfl (fun ls hl => ?_)
    refine lv_bipush (v := -9) hx hb dX11_unseen_27 (by decide) ?_
    refine lv_istore (lv' := [(4, .int (-9 : Int32)), (3, .int (0 : Int32)), (2, .int (((1 : Int32) <<< (v_t_copies &&& 31)) - (1 : Int32))), (0, .ref a_t), (1, .int jx1)]) hx hb dX11_unseen_29 hl (by decide) rfl (fun ls hl => ?_)
    refine lv_iconst (v := 0) hx hb dX11_unseen_31 (by decide) ?_
    refine lv_istore (lv' := [(5, .int (0 : Int32)), (4, .int (-9 : Int32)), (3, .int (0 : Int32)), (2, .int (((1 : Int32) <<< (v_t_copies &&& 31)) - (1 : Int32))), (0, .ref a_t), (1, .int jx1)]) hx hb dX11_unseen_32 hl (by decide) rfl (fun ls hl => ?_)
    exact wX11_unseen_34 S hr hlk hK hA fuel (0 : Int32) (-9 : Int32) (0 : Int32) (0 : Int32) ls _ _ hf (lv_sub hl [4, 5, 3, 2, 1, 0] rfl) hP hD hS
  · have hf := ite_t jc3 hf
    refine lv_iconst (v := -1) hx hb dX11_unseen_14 (by decide) ?_
    obtain ⟨rfl, rfl⟩ := pr2_inv hf
    exact retM hx hb hr hlk hP hD hS dX11_unseen_15
def fX11_keep_18 (jx1 : Int32) (v_t_copies : Int32) (v_t_s : (Nat → Int32)) : Nat → Int32 → Int32 → (Nat → Int32) → (Nat → Int32) → Option (Int32 × Int32 × (Nat → Int32) × (Nat → Int32))
  | 0, _, _, _, _ => none
  | n + 1, jx2, v_t_thrown, v_t_kept, v_t_isKept => if (103 : Int32) ≤ jx2 then ckI 2 jx1 (some (v_t_copies, v_t_thrown, v_t_kept, (upd v_t_isKept (Int32.toNatClampNeg jx1) (vp_nar .boolean (1 : Int32))))) else ckI 103 jx2 (ckI 206 (((103 : Int32) * jx1) + jx2) ((fX11_keep_18 jx1 v_t_copies v_t_s n) (jx2 + (1 : Int32)) v_t_thrown (upd v_t_kept (Int32.toNatClampNeg (((103 : Int32) * jx1) + jx2)) (v_t_s (Int32.toNatClampNeg jx2))) v_t_isKept))
theorem fX11_keep_18_s (jx1 : Int32) (v_t_copies : Int32) (v_t_s : (Nat → Int32)) (n : Nat) (jx2 : Int32) (v_t_thrown : Int32) (v_t_kept : (Nat → Int32)) (v_t_isKept : (Nat → Int32)) : fX11_keep_18 jx1 v_t_copies v_t_s (n + 1) jx2 v_t_thrown v_t_kept v_t_isKept = if (103 : Int32) ≤ jx2 then ckI 2 jx1 (some (v_t_copies, v_t_thrown, v_t_kept, (upd v_t_isKept (Int32.toNatClampNeg jx1) (vp_nar .boolean (1 : Int32))))) else ckI 103 jx2 (ckI 206 (((103 : Int32) * jx1) + jx2) ((fX11_keep_18 jx1 v_t_copies v_t_s n) (jx2 + (1 : Int32)) v_t_thrown (upd v_t_kept (Int32.toNatClampNeg (((103 : Int32) * jx1) + jx2)) (v_t_s (Int32.toNatClampNeg jx2))) v_t_isKept)) := rfl
def fX11_keep (jx1 : Int32) (v_t_thrown : Int32) (v_t_copies : Int32) (v_t_s : (Nat → Int32)) (v_t_kept : (Nat → Int32)) (v_t_isKept : (Nat → Int32)) : Option (Int32 × Int32 × (Nat → Int32) × (Nat → Int32)) := bd1 (fX11_in jx1 (0 : Int32) (1 : Int32)) (fun jr1 => if jr1 = 0 then some ((-1 : Int32), (0 : Int32), v_t_kept, v_t_isKept) else fX11_keep_18 jx1 v_t_copies v_t_s fuel (0 : Int32) (0 : Int32) v_t_kept v_t_isKept)
abbrev rmX11_keep : Room := { frames := 1, cells := 0, slots := 0, locals := 22 }
theorem iX11_keep_X11 : ∀ w ∈ wsX110, w ∈ wsX11_keep := fun _ h => List.mem_cons_of_mem _ (List.mem_append_right _ h)
theorem mX11_keep_4 : (Cond.fieldLink RX11 25 "VoteFilesModel" "isKept" "[Z") ∈ wsX11_keep := List.mem_of_getElem? (i := 4) rfl
theorem mX11_keep_5 : (Cond.fieldLink RX11 119 "VoteFilesModel" "copies" "I") ∈ wsX11_keep := List.mem_of_getElem? (i := 5) rfl
theorem mX11_keep_2 : (Cond.fieldLink RX11 22 "VoteFilesModel" "kept" "[I") ∈ wsX11_keep := List.mem_of_getElem? (i := 2) rfl
theorem mX11_keep_3 : (Cond.fieldLink RX11 16 "VoteFilesModel" "s" "[I") ∈ wsX11_keep := List.mem_of_getElem? (i := 3) rfl
theorem mX11_keep_1 : (Cond.fieldLink RX11 50 "VoteFilesModel" "thrown" "I") ∈ wsX11_keep := List.mem_of_getElem? (i := 1) rfl
set_option maxHeartbeats 4000000 in
set_option maxRecDepth 100000 in
theorem wX11_keep_18 {p : Program} {l : Launch} {e : Env} {s : State} {m : MethodId} {args : Array Value} {below : List Frame} {meth : Method} {c : Code} {D : va_G} {cI cZ : ClassId} (S : CallFix p m c cX11_keep 3 s args wsX11_keep RX11) (hr : meth.sig.returnType = some .int) (hlk : meth.locks = false) (hK : KX D cI cZ s) {a_t a_t_text a_t_draft a_t_s a_t_undos a_t_kept a_t_isKept a_t_seenWay a_t_seenIs a_t_sums a_t_parts a_t_heaps : Nat} {jx1 : Int32} {v_t_copies : Int32} {v_t_s : (Nat → Int32)} {v_t_typed : Int32} {v_t_spot : Int32} {v_t_token : Int32} {v_t_place : Int32} {v_t_value : Int32} {v_t_fault : Int32} {v_t_draftCopies : Int32} {v_t_undoMany : Int32} {v_t_seenMany : Int32} {v_t_asked : Int32} {r : Int32} {o_t_thrown : Int32} {o_t_kept : (Nat → Int32)} {o_t_isKept : (Nat → Int32)} {A : Nat → Prop} (hA : ∀ q : Nat, s.heap.size ≤ q → A q) : ∀ (n : Nat), ∀ (jx2 : Int32) (v_t_thrown : Int32) (v_t_kept : (Nat → Int32)) (v_t_isKept : (Nat → Int32)) (ls : Array Slot) (H : Heap) (locs : List Loc), fX11_keep_18 jx1 v_t_copies v_t_s n jx2 v_t_thrown v_t_kept v_t_isKept = some (r, o_t_thrown, o_t_kept, o_t_isKept) → lv_has ls 3 [(0, .ref a_t), (1, .int jx1), (2, .int jx2)] → va_P D vwCl [(a_t, .inr (11, [.int v_t_thrown, .ref a_t_text, .int v_t_typed, .int v_t_spot, .int v_t_token, .int v_t_place, .int v_t_value, .int v_t_fault, .int v_t_copies, .int v_t_draftCopies, .ref a_t_draft, .ref a_t_s, .ref a_t_undos, .int v_t_undoMany, .ref a_t_kept, .ref a_t_isKept, .ref a_t_seenWay, .ref a_t_seenIs, .int v_t_seenMany, .int v_t_asked, .ref a_t_sums, .ref a_t_parts, .ref a_t_heaps])), (a_t_s, .inl (cI, 103, .inl v_t_s)), (a_t_kept, .inl (cI, 206, .inl v_t_kept)), (a_t_isKept, .inl (cZ, 2, .inl v_t_isKept))] H → va_D A [(a_t, .inr (11, [.int v_t_thrown, .ref a_t_text, .int v_t_typed, .int v_t_spot, .int v_t_token, .int v_t_place, .int v_t_value, .int v_t_fault, .int v_t_copies, .int v_t_draftCopies, .ref a_t_draft, .ref a_t_s, .ref a_t_undos, .int v_t_undoMany, .ref a_t_kept, .ref a_t_isKept, .ref a_t_seenWay, .ref a_t_seenIs, .int v_t_seenMany, .int v_t_asked, .ref a_t_sums, .ref a_t_parts, .ref a_t_heaps])), (a_t_s, .inl (cI, 103, .inl v_t_s)), (a_t_kept, .inl (cI, 206, .inl v_t_kept)), (a_t_isKept, .inl (cZ, 2, .inl v_t_isKept))] → va_S A s.heap H locs → W p l e rmX11_keep s m args below meth c H locs 0 0 (MQ below (qM D (some (.int r)) [(a_t, .inr (11, [.int o_t_thrown, .ref a_t_text, .int v_t_typed, .int v_t_spot, .int v_t_token, .int v_t_place, .int v_t_value, .int v_t_fault, .int v_t_copies, .int v_t_draftCopies, .ref a_t_draft, .ref a_t_s, .ref a_t_undos, .int v_t_undoMany, .ref a_t_kept, .ref a_t_isKept, .ref a_t_seenWay, .ref a_t_seenIs, .int v_t_seenMany, .int v_t_asked, .ref a_t_sums, .ref a_t_parts, .ref a_t_heaps])), (a_t_s, .inl (cI, 103, .inl v_t_s)), (a_t_kept, .inl (cI, 206, .inl o_t_kept)), (a_t_isKept, .inl (cZ, 2, .inl o_t_isKept))] A) args s 0 0 A) (F0 m 18 ls []) := by
  obtain ⟨hx, hb, hml, hown, hts⟩ := id S
  intro n
  induction n with
  | zero =>
    intro jx2 v_t_thrown v_t_kept v_t_isKept ls H locs hf hl hP hD hS
    cases (show (none : Option _) = some _ from hf)
  | succ n ih =>
    intro jx2 v_t_thrown v_t_kept v_t_isKept ls H locs hf hl hP hD hS
    have hf := (fX11_keep_18_s _ _ _ n _ _ _ _).symm.trans hf
    refine lv_iload_n hx hb dX11_keep_18 rfl (lv_at hl 2 rfl) ?_
    refine lv_bipush (v := 103) hx hb dX11_keep_19 (by decide) ?_
    refine lv_icmp_ge (tgt := 47) hx hb dX11_keep_21 (by decide) (fun jc1 => ?_) (fun jc1 => ?_)
    · have hf := ite_t jc1 hf
      refine lv_aload_n hx hb dX11_keep_47 rfl (lv_at hl 0 rfl) ?_
      refine va_get (D := D) (ci := 11) (v := .ref a_t_isKept) (C := RX11) (T := TX11) (N := 23) hx hb hts iX11_keep_X11 hown hK.1 hP 0 rfl rfl 15 (by decide) (hts _ mX11_keep_4) (fun _ h9 => h9) rfl dX11_keep_48 ?_
      refine lv_iload_n hx hb dX11_keep_51 rfl (lv_at hl 1 rfl) ?_
      refine lv_iconst (v := 1) hx hb dX11_keep_52 (by decide) ?_
      obtain ⟨jh2, hf⟩ := ckI_inv hf
      refine va_zast hx hb hK.1 hP hD hS 3 1 rfl rfl jh2 dX11_keep_53 (fun H locs hP hD hS => ?_)
      have hP : va_P D vwCl [(a_t, .inr (11, [.int v_t_thrown, .ref a_t_text, .int v_t_typed, .int v_t_spot, .int v_t_token, .int v_t_place, .int v_t_value, .int v_t_fault, .int v_t_copies, .int v_t_draftCopies, .ref a_t_draft, .ref a_t_s, .ref a_t_undos, .int v_t_undoMany, .ref a_t_kept, .ref a_t_isKept, .ref a_t_seenWay, .ref a_t_seenIs, .int v_t_seenMany, .int v_t_asked, .ref a_t_sums, .ref a_t_parts, .ref a_t_heaps])), (a_t_s, .inl (cI, 103, .inl v_t_s)), (a_t_kept, .inl (cI, 206, .inl v_t_kept)), (a_t_isKept, .inl (cZ, 2, .inl (upd v_t_isKept (Int32.toNatClampNeg jx1) (vp_nar .boolean (1 : Int32)))))] H := hP
      have hD : va_D A [(a_t, .inr (11, [.int v_t_thrown, .ref a_t_text, .int v_t_typed, .int v_t_spot, .int v_t_token, .int v_t_place, .int v_t_value, .int v_t_fault, .int v_t_copies, .int v_t_draftCopies, .ref a_t_draft, .ref a_t_s, .ref a_t_undos, .int v_t_undoMany, .ref a_t_kept, .ref a_t_isKept, .ref a_t_seenWay, .ref a_t_seenIs, .int v_t_seenMany, .int v_t_asked, .ref a_t_sums, .ref a_t_parts, .ref a_t_heaps])), (a_t_s, .inl (cI, 103, .inl v_t_s)), (a_t_kept, .inl (cI, 206, .inl v_t_kept)), (a_t_isKept, .inl (cZ, 2, .inl (upd v_t_isKept (Int32.toNatClampNeg jx1) (vp_nar .boolean (1 : Int32)))))] := hD
      refine lv_aload_n hx hb dX11_keep_54 rfl (lv_at hl 0 rfl) ?_
      refine va_get (D := D) (ci := 11) (v := .int v_t_copies) (C := RX11) (T := TX11) (N := 23) hx hb hts iX11_keep_X11 hown hK.1 hP 0 rfl rfl 8 (by decide) (hts _ mX11_keep_5) (fun _ h9 => h9) rfl dX11_keep_55 ?_
      obtain ⟨rfl, rfl, rfl, rfl⟩ := pr4_inv hf
      exact retM hx hb hr hlk hP hD hS dX11_keep_58
    · have hf := ite_f jc1 hf
      refine lv_aload_n hx hb dX11_keep_24 rfl (lv_at hl 0 rfl) ?_
      refine va_get (D := D) (ci := 11) (v := .ref a_t_kept) (C := RX11) (T := TX11) (N := 23) hx hb hts iX11_keep_X11 hown hK.1 hP 0 rfl rfl 14 (by decide) (hts _ mX11_keep_2) (fun _ h9 => h9) rfl dX11_keep_25 ?_
      refine lv_bipush (v := 103) hx hb dX11_keep_28 (by decide) ?_
      refine lv_iload_n hx hb dX11_keep_30 rfl (lv_at hl 1 rfl) ?_
      refine lv_imul hx hb dX11_keep_31 ?_
      refine lv_iload_n hx hb dX11_keep_32 rfl (lv_at hl 2 rfl) ?_
      refine lv_iadd hx hb dX11_keep_33 ?_
      refine lv_aload_n hx hb dX11_keep_34 rfl (lv_at hl 0 rfl) ?_
      refine va_get (D := D) (ci := 11) (v := .ref a_t_s) (C := RX11) (T := TX11) (N := 23) hx hb hts iX11_keep_X11 hown hK.1 hP 0 rfl rfl 11 (by decide) (hts _ mX11_keep_3) (fun _ h9 => h9) rfl dX11_keep_35 ?_
      refine lv_iload_n hx hb dX11_keep_38 rfl (lv_at hl 2 rfl) ?_
      obtain ⟨jh3, hf⟩ := ckI_inv hf
      refine va_iald hx hb hK.1 hP 1 0 rfl rfl jh3 dX11_keep_39 ?_
      obtain ⟨jh4, hf⟩ := ckI_inv hf
      refine va_iast hx hb hK.1 hP hD hS 2 0 rfl rfl jh4 dX11_keep_40 (fun H locs hP hD hS => ?_)
      have hP : va_P D vwCl [(a_t, .inr (11, [.int v_t_thrown, .ref a_t_text, .int v_t_typed, .int v_t_spot, .int v_t_token, .int v_t_place, .int v_t_value, .int v_t_fault, .int v_t_copies, .int v_t_draftCopies, .ref a_t_draft, .ref a_t_s, .ref a_t_undos, .int v_t_undoMany, .ref a_t_kept, .ref a_t_isKept, .ref a_t_seenWay, .ref a_t_seenIs, .int v_t_seenMany, .int v_t_asked, .ref a_t_sums, .ref a_t_parts, .ref a_t_heaps])), (a_t_s, .inl (cI, 103, .inl v_t_s)), (a_t_kept, .inl (cI, 206, .inl (upd v_t_kept (Int32.toNatClampNeg (((103 : Int32) * jx1) + jx2)) (v_t_s (Int32.toNatClampNeg jx2))))), (a_t_isKept, .inl (cZ, 2, .inl v_t_isKept))] H := hP
      have hD : va_D A [(a_t, .inr (11, [.int v_t_thrown, .ref a_t_text, .int v_t_typed, .int v_t_spot, .int v_t_token, .int v_t_place, .int v_t_value, .int v_t_fault, .int v_t_copies, .int v_t_draftCopies, .ref a_t_draft, .ref a_t_s, .ref a_t_undos, .int v_t_undoMany, .ref a_t_kept, .ref a_t_isKept, .ref a_t_seenWay, .ref a_t_seenIs, .int v_t_seenMany, .int v_t_asked, .ref a_t_sums, .ref a_t_parts, .ref a_t_heaps])), (a_t_s, .inl (cI, 103, .inl v_t_s)), (a_t_kept, .inl (cI, 206, .inl (upd v_t_kept (Int32.toNatClampNeg (((103 : Int32) * jx1) + jx2)) (v_t_s (Int32.toNatClampNeg jx2))))), (a_t_isKept, .inl (cZ, 2, .inl v_t_isKept))] := hD
      refine lv_iinc (v := (jx2 + (1 : Int32))) (lv' := [(2, .int (jx2 + (1 : Int32))), (0, .ref a_t), (1, .int jx1)]) hx hb dX11_keep_41 hl (k := 2) rfl rfl (by decide) rfl (fun ls hl => ?_)
      refine lv_goto (tgt := 18) hx hb dX11_keep_44 (by decide) ?_
      exact ih (jx2 + (1 : Int32)) v_t_thrown (upd v_t_kept (Int32.toNatClampNeg (((103 : Int32) * jx1) + jx2)) (v_t_s (Int32.toNatClampNeg jx2))) v_t_isKept ls _ _ hf (lv_sub hl [1, 2, 0] rfl) hP hD hS
theorem hdX11_keep : yX11_keep.cls ≠ "java/lang/invoke/MethodHandle" ∧ yX11_keep.cls ≠ "java/lang/invoke/VarHandle" ∧ (parseMethodDescriptor yX11_keep.desc).map (fun d => d.parameters.length) = some 1 := by decide +kernel
set_option maxHeartbeats 4000000 in
set_option maxRecDepth 100000 in
theorem ctX11_keep (l : Launch) (D : va_G) (cI cZ : ClassId) (a_t a_t_text a_t_draft a_t_s a_t_undos a_t_kept a_t_isKept a_t_seenWay a_t_seenIs a_t_sums a_t_parts a_t_heaps : Nat) (jx1 : Int32) (v_t_thrown : Int32) (v_t_copies : Int32) (v_t_s : (Nat → Int32)) (v_t_kept : (Nat → Int32)) (v_t_isKept : (Nat → Int32)) (v_t_typed : Int32) (v_t_spot : Int32) (v_t_token : Int32) (v_t_place : Int32) (v_t_value : Int32) (v_t_fault : Int32) (v_t_draftCopies : Int32) (v_t_undoMany : Int32) (v_t_seenMany : Int32) (v_t_asked : Int32) (r : Int32) (o_t_thrown : Int32) (o_t_kept : (Nat → Int32)) (o_t_isKept : (Nat → Int32)) (hf : fX11_keep jx1 v_t_thrown v_t_copies v_t_s v_t_kept v_t_isKept = some (r, o_t_thrown, o_t_kept, o_t_isKept)) : cM l yX11_keep wsX11_keep rmX11_keep [.ref a_t, .int jx1] D [(a_t, .inr (11, [.int v_t_thrown, .ref a_t_text, .int v_t_typed, .int v_t_spot, .int v_t_token, .int v_t_place, .int v_t_value, .int v_t_fault, .int v_t_copies, .int v_t_draftCopies, .ref a_t_draft, .ref a_t_s, .ref a_t_undos, .int v_t_undoMany, .ref a_t_kept, .ref a_t_isKept, .ref a_t_seenWay, .ref a_t_seenIs, .int v_t_seenMany, .int v_t_asked, .ref a_t_sums, .ref a_t_parts, .ref a_t_heaps])), (a_t_s, .inl (cI, 103, .inl v_t_s)), (a_t_kept, .inl (cI, 206, .inl v_t_kept)), (a_t_isKept, .inl (cZ, 2, .inl v_t_isKept))] [(a_t, .inr (11, [.int o_t_thrown, .ref a_t_text, .int v_t_typed, .int v_t_spot, .int v_t_token, .int v_t_place, .int v_t_value, .int v_t_fault, .int v_t_copies, .int v_t_draftCopies, .ref a_t_draft, .ref a_t_s, .ref a_t_undos, .int v_t_undoMany, .ref a_t_kept, .ref a_t_isKept, .ref a_t_seenWay, .ref a_t_seenIs, .int v_t_seenMany, .int v_t_asked, .ref a_t_sums, .ref a_t_parts, .ref a_t_heaps])), (a_t_s, .inl (cI, 103, .inl v_t_s)), (a_t_kept, .inl (cI, 206, .inl o_t_kept)), (a_t_isKept, .inl (cZ, 2, .inl o_t_isKept))] (KX D cI cZ) (some (.int r)) := by
  refine cM_of (cc := cX11_keep) (maxL := 3) (ret := some .int) (by decide +kernel) rfl _ (Nat.le_of_ble_eq_true rfl) ?_
  intro p e s m below meth c ls A S hr hlk hP hK hl hD hA hS
  obtain ⟨hx, hb, hml, hown, hts⟩ := id S
  have hl : lv_has ls 3 [(0, .ref a_t), (1, .int jx1)] := hl
  unfold fX11_keep at hf
  refine lv_aload_n hx hb dX11_keep_0 rfl (lv_at hl 0 rfl) ?_
  refine lv_iconst (v := 0) hx hb dX11_keep_1 (by decide) ?_
  refine va_put (D := D) (ci := 11) (v := .int (0 : Int32)) (ty := .int) (C := RX11) (T := TX11) (N := 23) hx hb hts iX11_keep_X11 tyX11 tyX11_ok nmX11 hown hK.1 hP hD hS 0 rfl rfl 0 (by decide) (hts _ mX11_keep_1) (fun _ h9 => h9) rfl (tyX11_ok 0 (by decide)) rfl rfl (Nat.le_of_ble_eq_true rfl) dX11_keep_2 (fun H locs hP hD hS => ?_)
  have hP : va_P D vwCl [(a_t, .inr (11, [.int (0 : Int32), .ref a_t_text, .int v_t_typed, .int v_t_spot, .int v_t_token, .int v_t_place, .int v_t_value, .int v_t_fault, .int v_t_copies, .int v_t_draftCopies, .ref a_t_draft, .ref a_t_s, .ref a_t_undos, .int v_t_undoMany, .ref a_t_kept, .ref a_t_isKept, .ref a_t_seenWay, .ref a_t_seenIs, .int v_t_seenMany, .int v_t_asked, .ref a_t_sums, .ref a_t_parts, .ref a_t_heaps])), (a_t_s, .inl (cI, 103, .inl v_t_s)), (a_t_kept, .inl (cI, 206, .inl v_t_kept)), (a_t_isKept, .inl (cZ, 2, .inl v_t_isKept))] H := hP
  have hD : va_D A [(a_t, .inr (11, [.int (0 : Int32), .ref a_t_text, .int v_t_typed, .int v_t_spot, .int v_t_token, .int v_t_place, .int v_t_value, .int v_t_fault, .int v_t_copies, .int v_t_draftCopies, .ref a_t_draft, .ref a_t_s, .ref a_t_undos, .int v_t_undoMany, .ref a_t_kept, .ref a_t_isKept, .ref a_t_seenWay, .ref a_t_seenIs, .int v_t_seenMany, .int v_t_asked, .ref a_t_sums, .ref a_t_parts, .ref a_t_heaps])), (a_t_s, .inl (cI, 103, .inl v_t_s)), (a_t_kept, .inl (cI, 206, .inl v_t_kept)), (a_t_isKept, .inl (cZ, 2, .inl v_t_isKept))] := hD
  refine lv_iload_n hx hb dX11_keep_5 rfl (lv_at hl 1 rfl) ?_
  refine lv_iconst (v := 0) hx hb dX11_keep_6 (by decide) ?_
  refine lv_iconst (v := 1) hx hb dX11_keep_7 (by decide) ?_
  obtain ⟨jr1, je2, hf⟩ := bd1_inv hf
  refine callRS (As := [.int jx1, .int (0 : Int32), .int (1 : Int32)]) (rest := []) S (ctX11_in l D cI cZ jx1 (0 : Int32) (1 : Int32) jr1 je2) (va_cwS 3 hts gX11_keep_X11_in rfl rfl rfl hdX11_in ⟨Nat.le_of_ble_eq_true rfl, Nat.le_of_ble_eq_true rfl⟩) hP [] rfl KX.xs (fun U _ hW => hK.warm hW) rfl hl.1 rfl (Nat.le_of_ble_eq_true rfl) dX11_keep_8 ⟨Nat.zero_le _, Nat.zero_le _⟩ ?_
  refine lv_if_ne (tgt := 16) hx hb dX11_keep_11 (by decide) (fun jc3 => ?_) (fun jc3 => ?_)
  · have hf := ite_f jc3 hf
    refine lv_iconst (v := 0) hx hb dX11_keep_16 (by decide) ?_
    refine lv_istore_n (lv' := [(2, .int (0 : Int32)), (0, .ref a_t), (1, .int jx1)]) hx hb dX11_keep_17 rfl hl (by decide) rfl (fun ls hl => ?_)
    exact wX11_keep_18 S hr hlk hK hA fuel (0 : Int32) (0 : Int32) v_t_kept v_t_isKept ls _ _ hf (lv_sub hl [1, 2, 0] rfl) hP hD hS
  · have hf := ite_t jc3 hf
    refine lv_iconst (v := -1) hx hb dX11_keep_14 (by decide) ?_
    obtain ⟨rfl, rfl, rfl, rfl⟩ := pr4_inv hf
    exact retM hx hb hr hlk hP hD hS dX11_keep_15
def fX11_back_30 (jx1 : Int32) (v_t_copies : Int32) (v_t_kept : (Nat → Int32)) (v_t_isKept : (Nat → Int32)) : Nat → Int32 → Int32 → Int32 → (Nat → Int32) → Option (Int32 × Int32 × Int32 × (Nat → Int32))
  | 0, _, _, _, _ => none
  | n + 1, jx2, v_t_thrown, v_t_undoMany, v_t_s => if (103 : Int32) ≤ jx2 then some (v_t_copies, v_t_thrown, (0 : Int32), v_t_s) else ckI 206 (((103 : Int32) * jx1) + jx2) (ckI 103 jx2 ((fX11_back_30 jx1 v_t_copies v_t_kept v_t_isKept n) (jx2 + (1 : Int32)) v_t_thrown v_t_undoMany (upd v_t_s (Int32.toNatClampNeg jx2) (v_t_kept (Int32.toNatClampNeg (((103 : Int32) * jx1) + jx2))))))
theorem fX11_back_30_s (jx1 : Int32) (v_t_copies : Int32) (v_t_kept : (Nat → Int32)) (v_t_isKept : (Nat → Int32)) (n : Nat) (jx2 : Int32) (v_t_thrown : Int32) (v_t_undoMany : Int32) (v_t_s : (Nat → Int32)) : fX11_back_30 jx1 v_t_copies v_t_kept v_t_isKept (n + 1) jx2 v_t_thrown v_t_undoMany v_t_s = if (103 : Int32) ≤ jx2 then some (v_t_copies, v_t_thrown, (0 : Int32), v_t_s) else ckI 206 (((103 : Int32) * jx1) + jx2) (ckI 103 jx2 ((fX11_back_30 jx1 v_t_copies v_t_kept v_t_isKept n) (jx2 + (1 : Int32)) v_t_thrown v_t_undoMany (upd v_t_s (Int32.toNatClampNeg jx2) (v_t_kept (Int32.toNatClampNeg (((103 : Int32) * jx1) + jx2)))))) := rfl
def fX11_back (jx1 : Int32) (v_t_thrown : Int32) (v_t_copies : Int32) (v_t_undoMany : Int32) (v_t_s : (Nat → Int32)) (v_t_kept : (Nat → Int32)) (v_t_isKept : (Nat → Int32)) : Option (Int32 × Int32 × Int32 × (Nat → Int32)) := bd1 (fX11_in jx1 (0 : Int32) (1 : Int32)) (fun jr1 => if jr1 = 0 then some ((-1 : Int32), (0 : Int32), v_t_undoMany, v_t_s) else ckI 2 jx1 (if (v_t_isKept (Int32.toNatClampNeg jx1)) = 0 then some ((-2 : Int32), (0 : Int32), v_t_undoMany, v_t_s) else fX11_back_30 jx1 v_t_copies v_t_kept v_t_isKept fuel (0 : Int32) (0 : Int32) v_t_undoMany v_t_s))
abbrev rmX11_back : Room := { frames := 1, cells := 0, slots := 0, locals := 22 }
theorem iX11_back_X11 : ∀ w ∈ wsX110, w ∈ wsX11_back := fun _ h => List.mem_cons_of_mem _ (List.mem_append_right _ h)
theorem mX11_back_5 : (Cond.fieldLink RX11 125 "VoteFilesModel" "undoMany" "I") ∈ wsX11_back := List.mem_of_getElem? (i := 5) rfl
theorem mX11_back_6 : (Cond.fieldLink RX11 119 "VoteFilesModel" "copies" "I") ∈ wsX11_back := List.mem_of_getElem? (i := 6) rfl
theorem mX11_back_3 : (Cond.fieldLink RX11 16 "VoteFilesModel" "s" "[I") ∈ wsX11_back := List.mem_of_getElem? (i := 3) rfl
theorem mX11_back_4 : (Cond.fieldLink RX11 22 "VoteFilesModel" "kept" "[I") ∈ wsX11_back := List.mem_of_getElem? (i := 4) rfl
theorem mX11_back_1 : (Cond.fieldLink RX11 50 "VoteFilesModel" "thrown" "I") ∈ wsX11_back := List.mem_of_getElem? (i := 1) rfl
theorem mX11_back_2 : (Cond.fieldLink RX11 25 "VoteFilesModel" "isKept" "[Z") ∈ wsX11_back := List.mem_of_getElem? (i := 2) rfl
set_option maxHeartbeats 4000000 in
set_option maxRecDepth 100000 in
theorem wX11_back_30 {p : Program} {l : Launch} {e : Env} {s : State} {m : MethodId} {args : Array Value} {below : List Frame} {meth : Method} {c : Code} {D : va_G} {cI cZ : ClassId} (S : CallFix p m c cX11_back 3 s args wsX11_back RX11) (hr : meth.sig.returnType = some .int) (hlk : meth.locks = false) (hK : KX D cI cZ s) {a_t a_t_text a_t_draft a_t_s a_t_undos a_t_kept a_t_isKept a_t_seenWay a_t_seenIs a_t_sums a_t_parts a_t_heaps : Nat} {jx1 : Int32} {v_t_copies : Int32} {v_t_kept : (Nat → Int32)} {v_t_isKept : (Nat → Int32)} {v_t_typed : Int32} {v_t_spot : Int32} {v_t_token : Int32} {v_t_place : Int32} {v_t_value : Int32} {v_t_fault : Int32} {v_t_draftCopies : Int32} {v_t_seenMany : Int32} {v_t_asked : Int32} {r : Int32} {o_t_thrown : Int32} {o_t_undoMany : Int32} {o_t_s : (Nat → Int32)} {A : Nat → Prop} (hA : ∀ q : Nat, s.heap.size ≤ q → A q) : ∀ (n : Nat), ∀ (jx2 : Int32) (v_t_thrown : Int32) (v_t_undoMany : Int32) (v_t_s : (Nat → Int32)) (ls : Array Slot) (H : Heap) (locs : List Loc), fX11_back_30 jx1 v_t_copies v_t_kept v_t_isKept n jx2 v_t_thrown v_t_undoMany v_t_s = some (r, o_t_thrown, o_t_undoMany, o_t_s) → lv_has ls 3 [(0, .ref a_t), (1, .int jx1), (2, .int jx2)] → va_P D vwCl [(a_t, .inr (11, [.int v_t_thrown, .ref a_t_text, .int v_t_typed, .int v_t_spot, .int v_t_token, .int v_t_place, .int v_t_value, .int v_t_fault, .int v_t_copies, .int v_t_draftCopies, .ref a_t_draft, .ref a_t_s, .ref a_t_undos, .int v_t_undoMany, .ref a_t_kept, .ref a_t_isKept, .ref a_t_seenWay, .ref a_t_seenIs, .int v_t_seenMany, .int v_t_asked, .ref a_t_sums, .ref a_t_parts, .ref a_t_heaps])), (a_t_s, .inl (cI, 103, .inl v_t_s)), (a_t_kept, .inl (cI, 206, .inl v_t_kept)), (a_t_isKept, .inl (cZ, 2, .inl v_t_isKept))] H → va_D A [(a_t, .inr (11, [.int v_t_thrown, .ref a_t_text, .int v_t_typed, .int v_t_spot, .int v_t_token, .int v_t_place, .int v_t_value, .int v_t_fault, .int v_t_copies, .int v_t_draftCopies, .ref a_t_draft, .ref a_t_s, .ref a_t_undos, .int v_t_undoMany, .ref a_t_kept, .ref a_t_isKept, .ref a_t_seenWay, .ref a_t_seenIs, .int v_t_seenMany, .int v_t_asked, .ref a_t_sums, .ref a_t_parts, .ref a_t_heaps])), (a_t_s, .inl (cI, 103, .inl v_t_s)), (a_t_kept, .inl (cI, 206, .inl v_t_kept)), (a_t_isKept, .inl (cZ, 2, .inl v_t_isKept))] → va_S A s.heap H locs → W p l e rmX11_back s m args below meth c H locs 0 0 (MQ below (qM D (some (.int r)) [(a_t, .inr (11, [.int o_t_thrown, .ref a_t_text, .int v_t_typed, .int v_t_spot, .int v_t_token, .int v_t_place, .int v_t_value, .int v_t_fault, .int v_t_copies, .int v_t_draftCopies, .ref a_t_draft, .ref a_t_s, .ref a_t_undos, .int o_t_undoMany, .ref a_t_kept, .ref a_t_isKept, .ref a_t_seenWay, .ref a_t_seenIs, .int v_t_seenMany, .int v_t_asked, .ref a_t_sums, .ref a_t_parts, .ref a_t_heaps])), (a_t_s, .inl (cI, 103, .inl o_t_s)), (a_t_kept, .inl (cI, 206, .inl v_t_kept)), (a_t_isKept, .inl (cZ, 2, .inl v_t_isKept))] A) args s 0 0 A) (F0 m 30 ls []) := by
  obtain ⟨hx, hb, hml, hown, hts⟩ := id S
  intro n
  induction n with
  | zero =>
    intro jx2 v_t_thrown v_t_undoMany v_t_s ls H locs hf hl hP hD hS
    cases (show (none : Option _) = some _ from hf)
  | succ n ih =>
    intro jx2 v_t_thrown v_t_undoMany v_t_s ls H locs hf hl hP hD hS
    have hf := (fX11_back_30_s _ _ _ _ n _ _ _ _).symm.trans hf
    refine lv_iload_n hx hb dX11_back_30 rfl (lv_at hl 2 rfl) ?_
    refine lv_bipush (v := 103) hx hb dX11_back_31 (by decide) ?_
    refine lv_icmp_ge (tgt := 59) hx hb dX11_back_33 (by decide) (fun jc1 => ?_) (fun jc1 => ?_)
    · have hf := ite_t jc1 hf
      refine lv_aload_n hx hb dX11_back_59 rfl (lv_at hl 0 rfl) ?_
      refine lv_iconst (v := 0) hx hb dX11_back_60 (by decide) ?_
      refine va_put (D := D) (ci := 11) (v := .int (0 : Int32)) (ty := .int) (C := RX11) (T := TX11) (N := 23) hx hb hts iX11_back_X11 tyX11 tyX11_ok nmX11 hown hK.1 hP hD hS 0 rfl rfl 13 (by decide) (hts _ mX11_back_5) (fun _ h9 => h9) rfl (tyX11_ok 13 (by decide)) rfl rfl (Nat.le_of_ble_eq_true rfl) dX11_back_61 (fun H locs hP hD hS => ?_)
      have hP : va_P D vwCl [(a_t, .inr (11, [.int v_t_thrown, .ref a_t_text, .int v_t_typed, .int v_t_spot, .int v_t_token, .int v_t_place, .int v_t_value, .int v_t_fault, .int v_t_copies, .int v_t_draftCopies, .ref a_t_draft, .ref a_t_s, .ref a_t_undos, .int (0 : Int32), .ref a_t_kept, .ref a_t_isKept, .ref a_t_seenWay, .ref a_t_seenIs, .int v_t_seenMany, .int v_t_asked, .ref a_t_sums, .ref a_t_parts, .ref a_t_heaps])), (a_t_s, .inl (cI, 103, .inl v_t_s)), (a_t_kept, .inl (cI, 206, .inl v_t_kept)), (a_t_isKept, .inl (cZ, 2, .inl v_t_isKept))] H := hP
      have hD : va_D A [(a_t, .inr (11, [.int v_t_thrown, .ref a_t_text, .int v_t_typed, .int v_t_spot, .int v_t_token, .int v_t_place, .int v_t_value, .int v_t_fault, .int v_t_copies, .int v_t_draftCopies, .ref a_t_draft, .ref a_t_s, .ref a_t_undos, .int (0 : Int32), .ref a_t_kept, .ref a_t_isKept, .ref a_t_seenWay, .ref a_t_seenIs, .int v_t_seenMany, .int v_t_asked, .ref a_t_sums, .ref a_t_parts, .ref a_t_heaps])), (a_t_s, .inl (cI, 103, .inl v_t_s)), (a_t_kept, .inl (cI, 206, .inl v_t_kept)), (a_t_isKept, .inl (cZ, 2, .inl v_t_isKept))] := hD
      refine lv_aload_n hx hb dX11_back_64 rfl (lv_at hl 0 rfl) ?_
      refine va_get (D := D) (ci := 11) (v := .int v_t_copies) (C := RX11) (T := TX11) (N := 23) hx hb hts iX11_back_X11 hown hK.1 hP 0 rfl rfl 8 (by decide) (hts _ mX11_back_6) (fun _ h9 => h9) rfl dX11_back_65 ?_
      obtain ⟨rfl, rfl, rfl, rfl⟩ := pr4_inv hf
      exact retM hx hb hr hlk hP hD hS dX11_back_68
    · have hf := ite_f jc1 hf
      refine lv_aload_n hx hb dX11_back_36 rfl (lv_at hl 0 rfl) ?_
      refine va_get (D := D) (ci := 11) (v := .ref a_t_s) (C := RX11) (T := TX11) (N := 23) hx hb hts iX11_back_X11 hown hK.1 hP 0 rfl rfl 11 (by decide) (hts _ mX11_back_3) (fun _ h9 => h9) rfl dX11_back_37 ?_
      refine lv_iload_n hx hb dX11_back_40 rfl (lv_at hl 2 rfl) ?_
      refine lv_aload_n hx hb dX11_back_41 rfl (lv_at hl 0 rfl) ?_
      refine va_get (D := D) (ci := 11) (v := .ref a_t_kept) (C := RX11) (T := TX11) (N := 23) hx hb hts iX11_back_X11 hown hK.1 hP 0 rfl rfl 14 (by decide) (hts _ mX11_back_4) (fun _ h9 => h9) rfl dX11_back_42 ?_
      refine lv_bipush (v := 103) hx hb dX11_back_45 (by decide) ?_
      refine lv_iload_n hx hb dX11_back_47 rfl (lv_at hl 1 rfl) ?_
      refine lv_imul hx hb dX11_back_48 ?_
      refine lv_iload_n hx hb dX11_back_49 rfl (lv_at hl 2 rfl) ?_
      refine lv_iadd hx hb dX11_back_50 ?_
      obtain ⟨jh2, hf⟩ := ckI_inv hf
      refine va_iald hx hb hK.1 hP 2 0 rfl rfl jh2 dX11_back_51 ?_
      obtain ⟨jh3, hf⟩ := ckI_inv hf
      refine va_iast hx hb hK.1 hP hD hS 1 0 rfl rfl jh3 dX11_back_52 (fun H locs hP hD hS => ?_)
      have hP : va_P D vwCl [(a_t, .inr (11, [.int v_t_thrown, .ref a_t_text, .int v_t_typed, .int v_t_spot, .int v_t_token, .int v_t_place, .int v_t_value, .int v_t_fault, .int v_t_copies, .int v_t_draftCopies, .ref a_t_draft, .ref a_t_s, .ref a_t_undos, .int v_t_undoMany, .ref a_t_kept, .ref a_t_isKept, .ref a_t_seenWay, .ref a_t_seenIs, .int v_t_seenMany, .int v_t_asked, .ref a_t_sums, .ref a_t_parts, .ref a_t_heaps])), (a_t_s, .inl (cI, 103, .inl (upd v_t_s (Int32.toNatClampNeg jx2) (v_t_kept (Int32.toNatClampNeg (((103 : Int32) * jx1) + jx2)))))), (a_t_kept, .inl (cI, 206, .inl v_t_kept)), (a_t_isKept, .inl (cZ, 2, .inl v_t_isKept))] H := hP
      have hD : va_D A [(a_t, .inr (11, [.int v_t_thrown, .ref a_t_text, .int v_t_typed, .int v_t_spot, .int v_t_token, .int v_t_place, .int v_t_value, .int v_t_fault, .int v_t_copies, .int v_t_draftCopies, .ref a_t_draft, .ref a_t_s, .ref a_t_undos, .int v_t_undoMany, .ref a_t_kept, .ref a_t_isKept, .ref a_t_seenWay, .ref a_t_seenIs, .int v_t_seenMany, .int v_t_asked, .ref a_t_sums, .ref a_t_parts, .ref a_t_heaps])), (a_t_s, .inl (cI, 103, .inl (upd v_t_s (Int32.toNatClampNeg jx2) (v_t_kept (Int32.toNatClampNeg (((103 : Int32) * jx1) + jx2)))))), (a_t_kept, .inl (cI, 206, .inl v_t_kept)), (a_t_isKept, .inl (cZ, 2, .inl v_t_isKept))] := hD
      refine lv_iinc (v := (jx2 + (1 : Int32))) (lv' := [(2, .int (jx2 + (1 : Int32))), (0, .ref a_t), (1, .int jx1)]) hx hb dX11_back_53 hl (k := 2) rfl rfl (by decide) rfl (fun ls hl => ?_)
      refine lv_goto (tgt := 30) hx hb dX11_back_56 (by decide) ?_
      exact ih (jx2 + (1 : Int32)) v_t_thrown v_t_undoMany (upd v_t_s (Int32.toNatClampNeg jx2) (v_t_kept (Int32.toNatClampNeg (((103 : Int32) * jx1) + jx2)))) ls _ _ hf (lv_sub hl [1, 2, 0] rfl) hP hD hS
theorem hdX11_back : yX11_back.cls ≠ "java/lang/invoke/MethodHandle" ∧ yX11_back.cls ≠ "java/lang/invoke/VarHandle" ∧ (parseMethodDescriptor yX11_back.desc).map (fun d => d.parameters.length) = some 1 := by decide +kernel
set_option maxHeartbeats 4000000 in
set_option maxRecDepth 100000 in
theorem ctX11_back (l : Launch) (D : va_G) (cI cZ : ClassId) (a_t a_t_text a_t_draft a_t_s a_t_undos a_t_kept a_t_isKept a_t_seenWay a_t_seenIs a_t_sums a_t_parts a_t_heaps : Nat) (jx1 : Int32) (v_t_thrown : Int32) (v_t_copies : Int32) (v_t_undoMany : Int32) (v_t_s : (Nat → Int32)) (v_t_kept : (Nat → Int32)) (v_t_isKept : (Nat → Int32)) (v_t_typed : Int32) (v_t_spot : Int32) (v_t_token : Int32) (v_t_place : Int32) (v_t_value : Int32) (v_t_fault : Int32) (v_t_draftCopies : Int32) (v_t_seenMany : Int32) (v_t_asked : Int32) (r : Int32) (o_t_thrown : Int32) (o_t_undoMany : Int32) (o_t_s : (Nat → Int32)) (hf : fX11_back jx1 v_t_thrown v_t_copies v_t_undoMany v_t_s v_t_kept v_t_isKept = some (r, o_t_thrown, o_t_undoMany, o_t_s)) : cM l yX11_back wsX11_back rmX11_back [.ref a_t, .int jx1] D [(a_t, .inr (11, [.int v_t_thrown, .ref a_t_text, .int v_t_typed, .int v_t_spot, .int v_t_token, .int v_t_place, .int v_t_value, .int v_t_fault, .int v_t_copies, .int v_t_draftCopies, .ref a_t_draft, .ref a_t_s, .ref a_t_undos, .int v_t_undoMany, .ref a_t_kept, .ref a_t_isKept, .ref a_t_seenWay, .ref a_t_seenIs, .int v_t_seenMany, .int v_t_asked, .ref a_t_sums, .ref a_t_parts, .ref a_t_heaps])), (a_t_s, .inl (cI, 103, .inl v_t_s)), (a_t_kept, .inl (cI, 206, .inl v_t_kept)), (a_t_isKept, .inl (cZ, 2, .inl v_t_isKept))] [(a_t, .inr (11, [.int o_t_thrown, .ref a_t_text, .int v_t_typed, .int v_t_spot, .int v_t_token, .int v_t_place, .int v_t_value, .int v_t_fault, .int v_t_copies, .int v_t_draftCopies, .ref a_t_draft, .ref a_t_s, .ref a_t_undos, .int o_t_undoMany, .ref a_t_kept, .ref a_t_isKept, .ref a_t_seenWay, .ref a_t_seenIs, .int v_t_seenMany, .int v_t_asked, .ref a_t_sums, .ref a_t_parts, .ref a_t_heaps])), (a_t_s, .inl (cI, 103, .inl o_t_s)), (a_t_kept, .inl (cI, 206, .inl v_t_kept)), (a_t_isKept, .inl (cZ, 2, .inl v_t_isKept))] (KX D cI cZ) (some (.int r)) := by
  refine cM_of (cc := cX11_back) (maxL := 3) (ret := some .int) (by decide +kernel) rfl _ (Nat.le_of_ble_eq_true rfl) ?_
  intro p e s m below meth c ls A S hr hlk hP hK hl hD hA hS
  obtain ⟨hx, hb, hml, hown, hts⟩ := id S
  have hl : lv_has ls 3 [(0, .ref a_t), (1, .int jx1)] := hl
  unfold fX11_back at hf
  refine lv_aload_n hx hb dX11_back_0 rfl (lv_at hl 0 rfl) ?_
  refine lv_iconst (v := 0) hx hb dX11_back_1 (by decide) ?_
  refine va_put (D := D) (ci := 11) (v := .int (0 : Int32)) (ty := .int) (C := RX11) (T := TX11) (N := 23) hx hb hts iX11_back_X11 tyX11 tyX11_ok nmX11 hown hK.1 hP hD hS 0 rfl rfl 0 (by decide) (hts _ mX11_back_1) (fun _ h9 => h9) rfl (tyX11_ok 0 (by decide)) rfl rfl (Nat.le_of_ble_eq_true rfl) dX11_back_2 (fun H locs hP hD hS => ?_)
  have hP : va_P D vwCl [(a_t, .inr (11, [.int (0 : Int32), .ref a_t_text, .int v_t_typed, .int v_t_spot, .int v_t_token, .int v_t_place, .int v_t_value, .int v_t_fault, .int v_t_copies, .int v_t_draftCopies, .ref a_t_draft, .ref a_t_s, .ref a_t_undos, .int v_t_undoMany, .ref a_t_kept, .ref a_t_isKept, .ref a_t_seenWay, .ref a_t_seenIs, .int v_t_seenMany, .int v_t_asked, .ref a_t_sums, .ref a_t_parts, .ref a_t_heaps])), (a_t_s, .inl (cI, 103, .inl v_t_s)), (a_t_kept, .inl (cI, 206, .inl v_t_kept)), (a_t_isKept, .inl (cZ, 2, .inl v_t_isKept))] H := hP
  have hD : va_D A [(a_t, .inr (11, [.int (0 : Int32), .ref a_t_text, .int v_t_typed, .int v_t_spot, .int v_t_token, .int v_t_place, .int v_t_value, .int v_t_fault, .int v_t_copies, .int v_t_draftCopies, .ref a_t_draft, .ref a_t_s, .ref a_t_undos, .int v_t_undoMany, .ref a_t_kept, .ref a_t_isKept, .ref a_t_seenWay, .ref a_t_seenIs, .int v_t_seenMany, .int v_t_asked, .ref a_t_sums, .ref a_t_parts, .ref a_t_heaps])), (a_t_s, .inl (cI, 103, .inl v_t_s)), (a_t_kept, .inl (cI, 206, .inl v_t_kept)), (a_t_isKept, .inl (cZ, 2, .inl v_t_isKept))] := hD
  refine lv_iload_n hx hb dX11_back_5 rfl (lv_at hl 1 rfl) ?_
  refine lv_iconst (v := 0) hx hb dX11_back_6 (by decide) ?_
  refine lv_iconst (v := 1) hx hb dX11_back_7 (by decide) ?_
  obtain ⟨jr1, je2, hf⟩ := bd1_inv hf
  refine callRS (As := [.int jx1, .int (0 : Int32), .int (1 : Int32)]) (rest := []) S (ctX11_in l D cI cZ jx1 (0 : Int32) (1 : Int32) jr1 je2) (va_cwS 3 hts gX11_back_X11_in rfl rfl rfl hdX11_in ⟨Nat.le_of_ble_eq_true rfl, Nat.le_of_ble_eq_true rfl⟩) hP [] rfl KX.xs (fun U _ hW => hK.warm hW) rfl hl.1 rfl (Nat.le_of_ble_eq_true rfl) dX11_back_8 ⟨Nat.zero_le _, Nat.zero_le _⟩ ?_
  refine lv_if_ne (tgt := 16) hx hb dX11_back_11 (by decide) (fun jc3 => ?_) (fun jc3 => ?_)
  · have hf := ite_f jc3 hf
    refine lv_aload_n hx hb dX11_back_16 rfl (lv_at hl 0 rfl) ?_
    refine va_get (D := D) (ci := 11) (v := .ref a_t_isKept) (C := RX11) (T := TX11) (N := 23) hx hb hts iX11_back_X11 hown hK.1 hP 0 rfl rfl 15 (by decide) (hts _ mX11_back_2) (fun _ h9 => h9) rfl dX11_back_17 ?_
    refine lv_iload_n hx hb dX11_back_20 rfl (lv_at hl 1 rfl) ?_
    obtain ⟨jh4, hf⟩ := ckI_inv hf
    refine va_zald hx hb hK.1 hP 3 1 rfl rfl jh4 dX11_back_21 ?_
    refine lv_if_ne (tgt := 28) hx hb dX11_back_22 (by decide) (fun jc5 => ?_) (fun jc5 => ?_)
    · have hf := ite_f jc5 hf
      refine lv_iconst (v := 0) hx hb dX11_back_28 (by decide) ?_
      refine lv_istore_n (lv' := [(2, .int (0 : Int32)), (0, .ref a_t), (1, .int jx1)]) hx hb dX11_back_29 rfl hl (by decide) rfl (fun ls hl => ?_)
      exact wX11_back_30 S hr hlk hK hA fuel (0 : Int32) (0 : Int32) v_t_undoMany v_t_s ls _ _ hf (lv_sub hl [1, 2, 0] rfl) hP hD hS
    · have hf := ite_t jc5 hf
      refine lv_bipush (v := -2) hx hb dX11_back_25 (by decide) ?_
      obtain ⟨rfl, rfl, rfl, rfl⟩ := pr4_inv hf
      exact retM hx hb hr hlk hP hD hS dX11_back_27
  · have hf := ite_t jc3 hf
    refine lv_iconst (v := -1) hx hb dX11_back_14 (by decide) ?_
    obtain ⟨rfl, rfl, rfl, rfl⟩ := pr4_inv hf
    exact retM hx hb hr hlk hP hD hS dX11_back_15
def fX11_count (jx1 : Int32) (v_t_thrown : Int32) (v_t_typed : Int32) (v_t_copies : Int32) (v_t_undoMany : Int32) (v_t_seenMany : Int32) (v_t_s : (Nat → Int32)) : Option (Int32 × Int32) := bd1 (fX11_in jx1 (0 : Int32) (7 : Int32)) (fun jr1 => if jr1 = 0 then some ((-1 : Int32), (0 : Int32)) else if (2 : Int32) ≤ jx1 then if (5 : Int32) ≤ jx1 then if jx1 = (5 : Int32) then some (v_t_seenMany, (0 : Int32)) else if jx1 = (6 : Int32) then some (v_t_typed, (0 : Int32)) else some (v_t_undoMany, (0 : Int32)) else if jx1 = (2 : Int32) then bd1 (fX11_newest v_t_s) (fun jr17 => ckI 103 (jr17 + (6 : Int32)) (some ((v_t_s (Int32.toNatClampNeg (jr17 + (6 : Int32)))), (0 : Int32)))) else if jx1 = (3 : Int32) then bd1 (fX11_newest v_t_s) (fun jr14 => ckI 103 (jr14 + (7 : Int32)) (some ((v_t_s (Int32.toNatClampNeg (jr14 + (7 : Int32)))), (0 : Int32)))) else bd1 (fX11_newest v_t_s) (fun jr10 => bd1 (fX11_totalOf 103 jr10 v_t_s) (fun jr12 => some (jr12, (0 : Int32)))) else if jx1 = 0 then some (v_t_copies, (0 : Int32)) else ckI 103 (30 : Int32) (some ((v_t_s (Int32.toNatClampNeg (30 : Int32))), (0 : Int32))))
abbrev rmX11_count : Room := { frames := 2, cells := 0, slots := 0, locals := 40 }
theorem iX11_count_X11 : ∀ w ∈ wsX110, w ∈ wsX11_count := fun _ h => List.mem_cons_of_mem _ (List.mem_append_right _ h)
theorem mX11_count_1 : (Cond.fieldLink RX11 50 "VoteFilesModel" "thrown" "I") ∈ wsX11_count := List.mem_of_getElem? (i := 1) rfl
theorem mX11_count_6 : (Cond.fieldLink RX11 125 "VoteFilesModel" "undoMany" "I") ∈ wsX11_count := List.mem_of_getElem? (i := 6) rfl
theorem mX11_count_5 : (Cond.fieldLink RX11 58 "VoteFilesModel" "typed" "I") ∈ wsX11_count := List.mem_of_getElem? (i := 5) rfl
theorem mX11_count_4 : (Cond.fieldLink RX11 122 "VoteFilesModel" "seenMany" "I") ∈ wsX11_count := List.mem_of_getElem? (i := 4) rfl
theorem mX11_count_3 : (Cond.fieldLink RX11 16 "VoteFilesModel" "s" "[I") ∈ wsX11_count := List.mem_of_getElem? (i := 3) rfl
theorem mX11_count_2 : (Cond.fieldLink RX11 119 "VoteFilesModel" "copies" "I") ∈ wsX11_count := List.mem_of_getElem? (i := 2) rfl
theorem hdX11_count : yX11_count.cls ≠ "java/lang/invoke/MethodHandle" ∧ yX11_count.cls ≠ "java/lang/invoke/VarHandle" ∧ (parseMethodDescriptor yX11_count.desc).map (fun d => d.parameters.length) = some 1 := by decide +kernel
set_option maxHeartbeats 4000000 in
set_option maxRecDepth 100000 in
theorem ctX11_count (l : Launch) (D : va_G) (cI cZ : ClassId) (a_t a_t_text a_t_draft a_t_s a_t_undos a_t_kept a_t_isKept a_t_seenWay a_t_seenIs a_t_sums a_t_parts a_t_heaps : Nat) (jx1 : Int32) (v_t_thrown : Int32) (v_t_typed : Int32) (v_t_copies : Int32) (v_t_undoMany : Int32) (v_t_seenMany : Int32) (v_t_s : (Nat → Int32)) (v_t_spot : Int32) (v_t_token : Int32) (v_t_place : Int32) (v_t_value : Int32) (v_t_fault : Int32) (v_t_draftCopies : Int32) (v_t_asked : Int32) (r : Int32) (o_t_thrown : Int32) (hf : fX11_count jx1 v_t_thrown v_t_typed v_t_copies v_t_undoMany v_t_seenMany v_t_s = some (r, o_t_thrown)) : cM l yX11_count wsX11_count rmX11_count [.ref a_t, .int jx1] D [(a_t, .inr (11, [.int v_t_thrown, .ref a_t_text, .int v_t_typed, .int v_t_spot, .int v_t_token, .int v_t_place, .int v_t_value, .int v_t_fault, .int v_t_copies, .int v_t_draftCopies, .ref a_t_draft, .ref a_t_s, .ref a_t_undos, .int v_t_undoMany, .ref a_t_kept, .ref a_t_isKept, .ref a_t_seenWay, .ref a_t_seenIs, .int v_t_seenMany, .int v_t_asked, .ref a_t_sums, .ref a_t_parts, .ref a_t_heaps])), (a_t_s, .inl (cI, 103, .inl v_t_s))] [(a_t, .inr (11, [.int o_t_thrown, .ref a_t_text, .int v_t_typed, .int v_t_spot, .int v_t_token, .int v_t_place, .int v_t_value, .int v_t_fault, .int v_t_copies, .int v_t_draftCopies, .ref a_t_draft, .ref a_t_s, .ref a_t_undos, .int v_t_undoMany, .ref a_t_kept, .ref a_t_isKept, .ref a_t_seenWay, .ref a_t_seenIs, .int v_t_seenMany, .int v_t_asked, .ref a_t_sums, .ref a_t_parts, .ref a_t_heaps])), (a_t_s, .inl (cI, 103, .inl v_t_s))] (KX D cI cZ) (some (.int r)) := by
  refine cM_of (cc := cX11_count) (maxL := 2) (ret := some .int) (by decide +kernel) rfl _ (Nat.le_of_ble_eq_true rfl) ?_
  intro p e s m below meth c ls A S hr hlk hP hK hl hD hA hS
  obtain ⟨hx, hb, hml, hown, hts⟩ := id S
  have hl : lv_has ls 2 [(0, .ref a_t), (1, .int jx1)] := hl
  unfold fX11_count at hf
  refine lv_aload_n hx hb dX11_count_0 rfl (lv_at hl 0 rfl) ?_
  refine lv_iconst (v := 0) hx hb dX11_count_1 (by decide) ?_
  refine va_put (D := D) (ci := 11) (v := .int (0 : Int32)) (ty := .int) (C := RX11) (T := TX11) (N := 23) hx hb hts iX11_count_X11 tyX11 tyX11_ok nmX11 hown hK.1 hP hD hS 0 rfl rfl 0 (by decide) (hts _ mX11_count_1) (fun _ h9 => h9) rfl (tyX11_ok 0 (by decide)) rfl rfl (Nat.le_of_ble_eq_true rfl) dX11_count_2 (fun H locs hP hD hS => ?_)
  have hP : va_P D vwCl [(a_t, .inr (11, [.int (0 : Int32), .ref a_t_text, .int v_t_typed, .int v_t_spot, .int v_t_token, .int v_t_place, .int v_t_value, .int v_t_fault, .int v_t_copies, .int v_t_draftCopies, .ref a_t_draft, .ref a_t_s, .ref a_t_undos, .int v_t_undoMany, .ref a_t_kept, .ref a_t_isKept, .ref a_t_seenWay, .ref a_t_seenIs, .int v_t_seenMany, .int v_t_asked, .ref a_t_sums, .ref a_t_parts, .ref a_t_heaps])), (a_t_s, .inl (cI, 103, .inl v_t_s))] H := hP
  have hD : va_D A [(a_t, .inr (11, [.int (0 : Int32), .ref a_t_text, .int v_t_typed, .int v_t_spot, .int v_t_token, .int v_t_place, .int v_t_value, .int v_t_fault, .int v_t_copies, .int v_t_draftCopies, .ref a_t_draft, .ref a_t_s, .ref a_t_undos, .int v_t_undoMany, .ref a_t_kept, .ref a_t_isKept, .ref a_t_seenWay, .ref a_t_seenIs, .int v_t_seenMany, .int v_t_asked, .ref a_t_sums, .ref a_t_parts, .ref a_t_heaps])), (a_t_s, .inl (cI, 103, .inl v_t_s))] := hD
  refine lv_iload_n hx hb dX11_count_5 rfl (lv_at hl 1 rfl) ?_
  refine lv_iconst (v := 0) hx hb dX11_count_6 (by decide) ?_
  refine lv_bipush (v := 7) hx hb dX11_count_7 (by decide) ?_
  obtain ⟨jr1, je2, hf⟩ := bd1_inv hf
  refine callRS (As := [.int jx1, .int (0 : Int32), .int (7 : Int32)]) (rest := []) S (ctX11_in l D cI cZ jx1 (0 : Int32) (7 : Int32) jr1 je2) (va_cwS 3 hts gX11_count_X11_in rfl rfl rfl hdX11_in ⟨Nat.le_of_ble_eq_true rfl, Nat.le_of_ble_eq_true rfl⟩) hP [] rfl KX.xs (fun U _ hW => hK.warm hW) rfl hl.1 rfl (Nat.le_of_ble_eq_true rfl) dX11_count_9 ⟨Nat.zero_le _, Nat.zero_le _⟩ ?_
  refine lv_if_ne (tgt := 17) hx hb dX11_count_12 (by decide) (fun jc3 => ?_) (fun jc3 => ?_)
  · have hf := ite_f jc3 hf
    refine lv_iload_n hx hb dX11_count_17 rfl (lv_at hl 1 rfl) ?_
    refine lv_iconst (v := 2) hx hb dX11_count_18 (by decide) ?_
    refine lv_icmp_ge (tgt := 41) hx hb dX11_count_19 (by decide) (fun jc4 => ?_) (fun jc4 => ?_)
    · have hf := ite_t jc4 hf
      refine lv_iload_n hx hb dX11_count_41 rfl (lv_at hl 1 rfl) ?_
      refine lv_iconst (v := 5) hx hb dX11_count_42 (by decide) ?_
      refine lv_icmp_ge (tgt := 98) hx hb dX11_count_43 (by decide) (fun jc5 => ?_) (fun jc5 => ?_)
      · have hf := ite_t jc5 hf
        refine lv_iload_n hx hb dX11_count_98 rfl (lv_at hl 1 rfl) ?_
        refine lv_iconst (v := 5) hx hb dX11_count_99 (by decide) ?_
        refine lv_icmp_ne (tgt := 110) hx hb dX11_count_100 (by decide) (fun jc6 => ?_) (fun jc6 => ?_)
        · have hf := ite_f jc6 hf
          refine lv_iload_n hx hb dX11_count_110 rfl (lv_at hl 1 rfl) ?_
          refine lv_bipush (v := 6) hx hb dX11_count_111 (by decide) ?_
          refine lv_icmp_ne (tgt := 123) hx hb dX11_count_113 (by decide) (fun jc7 => ?_) (fun jc7 => ?_)
          · have hf := ite_f jc7 hf
            refine lv_aload_n hx hb dX11_count_123 rfl (lv_at hl 0 rfl) ?_
            refine va_get (D := D) (ci := 11) (v := .int v_t_undoMany) (C := RX11) (T := TX11) (N := 23) hx hb hts iX11_count_X11 hown hK.1 hP 0 rfl rfl 13 (by decide) (hts _ mX11_count_6) (fun _ h9 => h9) rfl dX11_count_124 ?_
            obtain ⟨rfl, rfl⟩ := pr2_inv hf
            exact retM hx hb hr hlk hP hD hS dX11_count_127
          · have hf := ite_t jc7 hf
            refine lv_aload_n hx hb dX11_count_116 rfl (lv_at hl 0 rfl) ?_
            refine va_get (D := D) (ci := 11) (v := .int v_t_typed) (C := RX11) (T := TX11) (N := 23) hx hb hts iX11_count_X11 hown hK.1 hP 0 rfl rfl 2 (by decide) (hts _ mX11_count_5) (fun _ h9 => h9) rfl dX11_count_117 ?_
            refine lv_goto (tgt := 127) hx hb dX11_count_120 (by decide) ?_
            obtain ⟨rfl, rfl⟩ := pr2_inv hf
            exact retM hx hb hr hlk hP hD hS dX11_count_127
        · have hf := ite_t jc6 hf
          refine lv_aload_n hx hb dX11_count_103 rfl (lv_at hl 0 rfl) ?_
          refine va_get (D := D) (ci := 11) (v := .int v_t_seenMany) (C := RX11) (T := TX11) (N := 23) hx hb hts iX11_count_X11 hown hK.1 hP 0 rfl rfl 18 (by decide) (hts _ mX11_count_4) (fun _ h9 => h9) rfl dX11_count_104 ?_
          refine lv_goto (tgt := 127) hx hb dX11_count_107 (by decide) ?_
          obtain ⟨rfl, rfl⟩ := pr2_inv hf
          exact retM hx hb hr hlk hP hD hS dX11_count_127
      · have hf := ite_f jc5 hf
        refine lv_iload_n hx hb dX11_count_46 rfl (lv_at hl 1 rfl) ?_
        refine lv_iconst (v := 2) hx hb dX11_count_47 (by decide) ?_
        refine lv_icmp_ne (tgt := 66) hx hb dX11_count_48 (by decide) (fun jc8 => ?_) (fun jc8 => ?_)
        · have hf := ite_f jc8 hf
          refine lv_iload_n hx hb dX11_count_66 rfl (lv_at hl 1 rfl) ?_
          refine lv_iconst (v := 3) hx hb dX11_count_67 (by decide) ?_
          refine lv_icmp_ne (tgt := 86) hx hb dX11_count_68 (by decide) (fun jc9 => ?_) (fun jc9 => ?_)
          · have hf := ite_f jc9 hf
            refine lv_aload_n hx hb dX11_count_86 rfl (lv_at hl 0 rfl) ?_
            refine va_get (D := D) (ci := 11) (v := .ref a_t_s) (C := RX11) (T := TX11) (N := 23) hx hb hts iX11_count_X11 hown hK.1 hP 0 rfl rfl 11 (by decide) (hts _ mX11_count_3) (fun _ h9 => h9) rfl dX11_count_87 ?_
            refine lv_aload_n hx hb dX11_count_90 rfl (lv_at hl 0 rfl) ?_
            obtain ⟨jr10, je11, hf⟩ := bd1_inv hf
            refine callRV (As := []) (rest := [.ref a_t_s]) S (ctX11_newest l D cI cZ a_t a_t_text a_t_draft a_t_s a_t_undos a_t_kept a_t_isKept a_t_seenWay a_t_seenIs a_t_sums a_t_parts a_t_heaps v_t_s (0 : Int32) v_t_typed v_t_spot v_t_token v_t_place v_t_value v_t_fault v_t_copies v_t_draftCopies v_t_undoMany v_t_seenMany v_t_asked jr10 je11) (cwV 0 hts gX11_count_X11_newest rfl rfl rfl ⟨rfl, hdX11_newest⟩ ⟨Nat.le_of_ble_eq_true rfl, Nat.le_of_ble_eq_true rfl⟩) hP [0, 1] rfl KX.xs (fun U _ hW => hK.warm hW) (va_recv hK.1 hP (ci := 11) (q0 := 0) rfl rfl) rfl hl.1 rfl (Nat.le_of_ble_eq_true rfl) dX11_count_91 ⟨Nat.zero_le _, Nat.zero_le _⟩ ?_
            obtain ⟨jr12, je13, hf⟩ := bd1_inv hf
            refine callRS (As := [.ref a_t_s, .int jr10]) (rest := []) S (ctX11_totalOf l D cI cZ a_t_s 103 jr10 v_t_s jr12 je13) (va_cwS 2 hts gX11_count_X11_totalOf rfl rfl rfl hdX11_totalOf ⟨Nat.le_of_ble_eq_true rfl, Nat.le_of_ble_eq_true rfl⟩) hP [1] rfl KX.xs (fun U _ hW => hK.warm hW) rfl hl.1 rfl (Nat.le_of_ble_eq_true rfl) dX11_count_94 ⟨Nat.zero_le _, Nat.zero_le _⟩ ?_
            obtain ⟨rfl, rfl⟩ := pr2_inv hf
            exact retM hx hb hr hlk hP hD hS dX11_count_97
          · have hf := ite_t jc9 hf
            refine lv_aload_n hx hb dX11_count_71 rfl (lv_at hl 0 rfl) ?_
            refine va_get (D := D) (ci := 11) (v := .ref a_t_s) (C := RX11) (T := TX11) (N := 23) hx hb hts iX11_count_X11 hown hK.1 hP 0 rfl rfl 11 (by decide) (hts _ mX11_count_3) (fun _ h9 => h9) rfl dX11_count_72 ?_
            refine lv_aload_n hx hb dX11_count_75 rfl (lv_at hl 0 rfl) ?_
            obtain ⟨jr14, je15, hf⟩ := bd1_inv hf
            refine callRV (As := []) (rest := [.ref a_t_s]) S (ctX11_newest l D cI cZ a_t a_t_text a_t_draft a_t_s a_t_undos a_t_kept a_t_isKept a_t_seenWay a_t_seenIs a_t_sums a_t_parts a_t_heaps v_t_s (0 : Int32) v_t_typed v_t_spot v_t_token v_t_place v_t_value v_t_fault v_t_copies v_t_draftCopies v_t_undoMany v_t_seenMany v_t_asked jr14 je15) (cwV 0 hts gX11_count_X11_newest rfl rfl rfl ⟨rfl, hdX11_newest⟩ ⟨Nat.le_of_ble_eq_true rfl, Nat.le_of_ble_eq_true rfl⟩) hP [0, 1] rfl KX.xs (fun U _ hW => hK.warm hW) (va_recv hK.1 hP (ci := 11) (q0 := 0) rfl rfl) rfl hl.1 rfl (Nat.le_of_ble_eq_true rfl) dX11_count_76 ⟨Nat.zero_le _, Nat.zero_le _⟩ ?_
            refine lv_bipush (v := 7) hx hb dX11_count_79 (by decide) ?_
            refine lv_iadd hx hb dX11_count_81 ?_
            obtain ⟨jh16, hf⟩ := ckI_inv hf
            refine va_iald hx hb hK.1 hP 1 0 rfl rfl jh16 dX11_count_82 ?_
            refine lv_goto (tgt := 97) hx hb dX11_count_83 (by decide) ?_
            obtain ⟨rfl, rfl⟩ := pr2_inv hf
            exact retM hx hb hr hlk hP hD hS dX11_count_97
        · have hf := ite_t jc8 hf
          refine lv_aload_n hx hb dX11_count_51 rfl (lv_at hl 0 rfl) ?_
          refine va_get (D := D) (ci := 11) (v := .ref a_t_s) (C := RX11) (T := TX11) (N := 23) hx hb hts iX11_count_X11 hown hK.1 hP 0 rfl rfl 11 (by decide) (hts _ mX11_count_3) (fun _ h9 => h9) rfl dX11_count_52 ?_
          refine lv_aload_n hx hb dX11_count_55 rfl (lv_at hl 0 rfl) ?_
          obtain ⟨jr17, je18, hf⟩ := bd1_inv hf
          refine callRV (As := []) (rest := [.ref a_t_s]) S (ctX11_newest l D cI cZ a_t a_t_text a_t_draft a_t_s a_t_undos a_t_kept a_t_isKept a_t_seenWay a_t_seenIs a_t_sums a_t_parts a_t_heaps v_t_s (0 : Int32) v_t_typed v_t_spot v_t_token v_t_place v_t_value v_t_fault v_t_copies v_t_draftCopies v_t_undoMany v_t_seenMany v_t_asked jr17 je18) (cwV 0 hts gX11_count_X11_newest rfl rfl rfl ⟨rfl, hdX11_newest⟩ ⟨Nat.le_of_ble_eq_true rfl, Nat.le_of_ble_eq_true rfl⟩) hP [0, 1] rfl KX.xs (fun U _ hW => hK.warm hW) (va_recv hK.1 hP (ci := 11) (q0 := 0) rfl rfl) rfl hl.1 rfl (Nat.le_of_ble_eq_true rfl) dX11_count_56 ⟨Nat.zero_le _, Nat.zero_le _⟩ ?_
          refine lv_bipush (v := 6) hx hb dX11_count_59 (by decide) ?_
          refine lv_iadd hx hb dX11_count_61 ?_
          obtain ⟨jh19, hf⟩ := ckI_inv hf
          refine va_iald hx hb hK.1 hP 1 0 rfl rfl jh19 dX11_count_62 ?_
          refine lv_goto (tgt := 97) hx hb dX11_count_63 (by decide) ?_
          obtain ⟨rfl, rfl⟩ := pr2_inv hf
          exact retM hx hb hr hlk hP hD hS dX11_count_97
    · have hf := ite_f jc4 hf
      refine lv_iload_n hx hb dX11_count_22 rfl (lv_at hl 1 rfl) ?_
      refine lv_if_ne (tgt := 33) hx hb dX11_count_23 (by decide) (fun jc20 => ?_) (fun jc20 => ?_)
      · have hf := ite_f jc20 hf
        refine lv_aload_n hx hb dX11_count_33 rfl (lv_at hl 0 rfl) ?_
        refine va_get (D := D) (ci := 11) (v := .ref a_t_s) (C := RX11) (T := TX11) (N := 23) hx hb hts iX11_count_X11 hown hK.1 hP 0 rfl rfl 11 (by decide) (hts _ mX11_count_3) (fun _ h9 => h9) rfl dX11_count_34 ?_
        refine lv_bipush (v := 30) hx hb dX11_count_37 (by decide) ?_
        obtain ⟨jh21, hf⟩ := ckI_inv hf
        refine va_iald hx hb hK.1 hP 1 0 rfl rfl jh21 dX11_count_39 ?_
        obtain ⟨rfl, rfl⟩ := pr2_inv hf
        exact retM hx hb hr hlk hP hD hS dX11_count_40
      · have hf := ite_t jc20 hf
        refine lv_aload_n hx hb dX11_count_26 rfl (lv_at hl 0 rfl) ?_
        refine va_get (D := D) (ci := 11) (v := .int v_t_copies) (C := RX11) (T := TX11) (N := 23) hx hb hts iX11_count_X11 hown hK.1 hP 0 rfl rfl 8 (by decide) (hts _ mX11_count_2) (fun _ h9 => h9) rfl dX11_count_27 ?_
        refine lv_goto (tgt := 40) hx hb dX11_count_30 (by decide) ?_
        obtain ⟨rfl, rfl⟩ := pr2_inv hf
        exact retM hx hb hr hlk hP hD hS dX11_count_40
  · have hf := ite_t jc3 hf
    refine lv_iconst (v := -1) hx hb dX11_count_15 (by decide) ?_
    obtain ⟨rfl, rfl⟩ := pr2_inv hf
    exact retM hx hb hr hlk hP hD hS dX11_count_16
