def fX8_mayBegin (jx1 : Int32) (v_t_copies : Int32) (v_t_read : Int32) (v_t_write : Int32) : Option (Int32) := if jx1 = (1 : Int32) then if (6 : Int32) ≤ v_t_copies then some (0 : Int32) else some (1 : Int32) else if jx1 = (2 : Int32) then if (6 : Int32) ≤ v_t_copies then some (0 : Int32) else some (1 : Int32) else if jx1 = (3 : Int32) then if v_t_read = 0 then some (1 : Int32) else some (0 : Int32) else if jx1 = (4 : Int32) then if v_t_write = 0 then some (1 : Int32) else some (0 : Int32) else some (0 : Int32)
abbrev rmX8_mayBegin : Room := { frames := 0, cells := 0, slots := 0, locals := 0 }
theorem iX8_mayBegin_X8 : ∀ w ∈ wsX80, w ∈ wsX8_mayBegin := fun _ h => List.mem_cons_of_mem _ (List.mem_append_right _ h)
theorem mX8_mayBegin_1 : (Cond.fieldLink RX8 19 "VoteFiles$Telling" "copies" "I") ∈ wsX8_mayBegin := List.mem_of_getElem? (i := 1) rfl
theorem mX8_mayBegin_2 : (Cond.fieldLink RX8 22 "VoteFiles$Telling" "read" "I") ∈ wsX8_mayBegin := List.mem_of_getElem? (i := 2) rfl
theorem mX8_mayBegin_3 : (Cond.fieldLink RX8 25 "VoteFiles$Telling" "write" "I") ∈ wsX8_mayBegin := List.mem_of_getElem? (i := 3) rfl
theorem hdX8_mayBegin : yX8_mayBegin.cls ≠ "java/lang/invoke/MethodHandle" ∧ yX8_mayBegin.cls ≠ "java/lang/invoke/VarHandle" ∧ (parseMethodDescriptor yX8_mayBegin.desc).map (fun d => d.parameters.length) = some 1 := by decide +kernel
set_option maxHeartbeats 4000000 in
set_option maxRecDepth 100000 in
theorem ctX8_mayBegin (l : Launch) (D : va_G) (cI cZ : ClassId) (a_t a_t_tokens a_t_votes : Nat) (jx1 : Int32) (v_t_copies : Int32) (v_t_read : Int32) (v_t_write : Int32) (v_t_witnesses : Int32) (v_t_items : Int32) (r : Int32) (hf : fX8_mayBegin jx1 v_t_copies v_t_read v_t_write = some r) : cR l yX8_mayBegin wsX8_mayBegin rmX8_mayBegin [.ref a_t, .int jx1] D [(a_t, .inr (8, [.ref a_t_tokens, .ref a_t_votes, .int v_t_witnesses, .int v_t_copies, .int v_t_read, .int v_t_write, .int v_t_items]))] (KX D cI cZ) r := by
  refine cR_of (cc := cX8_mayBegin) (maxL := 2) (ret := some .boolean) (by decide +kernel) rfl _ (Nat.le_of_ble_eq_true rfl) ?_
  intro p e s m below meth c ls S hr hlk hP hK hl
  obtain ⟨hx, hb, hml, hown, hts⟩ := id S
  have hl : lv_has ls 2 [(0, .ref a_t), (1, .int jx1)] := hl
  unfold fX8_mayBegin at hf
  refine lv_iload_n hx hb dX8_mayBegin_0 rfl (lv_at hl 1 rfl) ?_
  by_cases jc1 : jx1 = (1 : Int32)
  · have hf := ite_t jc1 hf
    refine lv_tableIn (off := 31) (tgt := 32) hx hb dX8_mayBegin_1 (by rw [jc1]; decide) (by rw [jc1]; decide) (by rw [jc1]; decide +kernel) (by decide) ?_
    refine lv_aload_n hx hb dX8_mayBegin_32 rfl (lv_at hl 0 rfl) ?_
    refine va_get (D := D) (ci := 8) (v := .int v_t_copies) (C := RX8) (T := TX8) (N := 7) hx hb hts iX8_mayBegin_X8 hown hK.1 hP 0 rfl rfl 3 (by decide) (hts _ mX8_mayBegin_1) (fun _ h9 => h9) rfl dX8_mayBegin_33 ?_
    refine lv_bipush (v := 6) hx hb dX8_mayBegin_36 (by decide) ?_
    refine lv_icmp_ge (tgt := 45) hx hb dX8_mayBegin_38 (by decide) (fun jc2 => ?_) (fun jc2 => ?_)
    · have hf := ite_t jc2 hf
      refine lv_iconst (v := 0) hx hb dX8_mayBegin_45 (by decide) ?_
      obtain rfl := Option.some.inj hf
      exact retRz hx hb hr hlk (by decide) dX8_mayBegin_46
    · have hf := ite_f jc2 hf
      refine lv_iconst (v := 1) hx hb dX8_mayBegin_41 (by decide) ?_
      refine lv_goto (tgt := 46) hx hb dX8_mayBegin_42 (by decide) ?_
      obtain rfl := Option.some.inj hf
      exact retRz hx hb hr hlk (by decide) dX8_mayBegin_46
  have hf := ite_f jc1 hf
  by_cases jc3 : jx1 = (2 : Int32)
  · have hf := ite_t jc3 hf
    refine lv_tableIn (off := 31) (tgt := 32) hx hb dX8_mayBegin_1 (by rw [jc3]; decide) (by rw [jc3]; decide) (by rw [jc3]; decide +kernel) (by decide) ?_
    refine lv_aload_n hx hb dX8_mayBegin_32 rfl (lv_at hl 0 rfl) ?_
    refine va_get (D := D) (ci := 8) (v := .int v_t_copies) (C := RX8) (T := TX8) (N := 7) hx hb hts iX8_mayBegin_X8 hown hK.1 hP 0 rfl rfl 3 (by decide) (hts _ mX8_mayBegin_1) (fun _ h9 => h9) rfl dX8_mayBegin_33 ?_
    refine lv_bipush (v := 6) hx hb dX8_mayBegin_36 (by decide) ?_
    refine lv_icmp_ge (tgt := 45) hx hb dX8_mayBegin_38 (by decide) (fun jc4 => ?_) (fun jc4 => ?_)
    · have hf := ite_t jc4 hf
      refine lv_iconst (v := 0) hx hb dX8_mayBegin_45 (by decide) ?_
      obtain rfl := Option.some.inj hf
      exact retRz hx hb hr hlk (by decide) dX8_mayBegin_46
    · have hf := ite_f jc4 hf
      refine lv_iconst (v := 1) hx hb dX8_mayBegin_41 (by decide) ?_
      refine lv_goto (tgt := 46) hx hb dX8_mayBegin_42 (by decide) ?_
      obtain rfl := Option.some.inj hf
      exact retRz hx hb hr hlk (by decide) dX8_mayBegin_46
  have hf := ite_f jc3 hf
  by_cases jc5 : jx1 = (3 : Int32)
  · have hf := ite_t jc5 hf
    refine lv_tableIn (off := 46) (tgt := 47) hx hb dX8_mayBegin_1 (by rw [jc5]; decide) (by rw [jc5]; decide) (by rw [jc5]; decide +kernel) (by decide) ?_
    refine lv_aload_n hx hb dX8_mayBegin_47 rfl (lv_at hl 0 rfl) ?_
    refine va_get (D := D) (ci := 8) (v := .int v_t_read) (C := RX8) (T := TX8) (N := 7) hx hb hts iX8_mayBegin_X8 hown hK.1 hP 0 rfl rfl 4 (by decide) (hts _ mX8_mayBegin_2) (fun _ h9 => h9) rfl dX8_mayBegin_48 ?_
    refine lv_if_ne (tgt := 58) hx hb dX8_mayBegin_51 (by decide) (fun jc6 => ?_) (fun jc6 => ?_)
    · have hf := ite_f jc6 hf
      refine lv_iconst (v := 0) hx hb dX8_mayBegin_58 (by decide) ?_
      obtain rfl := Option.some.inj hf
      exact retRz hx hb hr hlk (by decide) dX8_mayBegin_59
    · have hf := ite_t jc6 hf
      refine lv_iconst (v := 1) hx hb dX8_mayBegin_54 (by decide) ?_
      refine lv_goto (tgt := 59) hx hb dX8_mayBegin_55 (by decide) ?_
      obtain rfl := Option.some.inj hf
      exact retRz hx hb hr hlk (by decide) dX8_mayBegin_59
  have hf := ite_f jc5 hf
  by_cases jc7 : jx1 = (4 : Int32)
  · have hf := ite_t jc7 hf
    refine lv_tableIn (off := 59) (tgt := 60) hx hb dX8_mayBegin_1 (by rw [jc7]; decide) (by rw [jc7]; decide) (by rw [jc7]; decide +kernel) (by decide) ?_
    refine lv_aload_n hx hb dX8_mayBegin_60 rfl (lv_at hl 0 rfl) ?_
    refine va_get (D := D) (ci := 8) (v := .int v_t_write) (C := RX8) (T := TX8) (N := 7) hx hb hts iX8_mayBegin_X8 hown hK.1 hP 0 rfl rfl 5 (by decide) (hts _ mX8_mayBegin_3) (fun _ h9 => h9) rfl dX8_mayBegin_61 ?_
    refine lv_if_ne (tgt := 71) hx hb dX8_mayBegin_64 (by decide) (fun jc8 => ?_) (fun jc8 => ?_)
    · have hf := ite_f jc8 hf
      refine lv_iconst (v := 0) hx hb dX8_mayBegin_71 (by decide) ?_
      obtain rfl := Option.some.inj hf
      exact retRz hx hb hr hlk (by decide) dX8_mayBegin_72
    · have hf := ite_t jc8 hf
      refine lv_iconst (v := 1) hx hb dX8_mayBegin_67 (by decide) ?_
      refine lv_goto (tgt := 72) hx hb dX8_mayBegin_68 (by decide) ?_
      obtain rfl := Option.some.inj hf
      exact retRz hx hb hr hlk (by decide) dX8_mayBegin_72
  have hf := ite_f jc7 hf
  have jh9 : (jx1).toInt < 1 ∨ 4 < (jx1).toInt := by
    refine sw_out (fun v h1 h2 => ?_)
    rcases (show v = 1 ∨ v = 2 ∨ v = 3 ∨ v = 4 by omega) with rfl | rfl | rfl | rfl
    · exact jc1
    · exact jc3
    · exact jc5
    · exact jc7
  refine lv_tableOut (tgt := 73) hx hb dX8_mayBegin_1 jh9 (by decide) ?_
  refine lv_iconst (v := 0) hx hb dX8_mayBegin_73 (by decide) ?_
  obtain rfl := Option.some.inj hf
  exact retRz hx hb hr hlk (by decide) dX8_mayBegin_74
def fX8_mayFollow (jx0 : Int32) (jx1 : Int32) : Option (Int32) := if jx0 = (3 : Int32) then bd1 (fX10_isWithin jx1 (1 : Int32) (30 : Int32)) (fun jr2 => zcI jr2 (some jr2)) else if jx0 = (4 : Int32) then bd1 (fX10_isWithin jx1 (1 : Int32) (30 : Int32)) (fun jr9 => zcI jr9 (some jr9)) else bd1 (fX10_isWithin jx1 (0 : Int32) (5 : Int32)) (fun jr6 => zcI jr6 (some jr6))
abbrev rmX8_mayFollow : Room := { frames := 1, cells := 0, slots := 0, locals := 22 }
theorem mX8_mayFollow_2 : (Cond.initialized RX10) ∈ wsX8_mayFollow := List.mem_of_getElem? (i := 2) rfl
theorem mX8_mayFollow_1 : (Cond.static yX10_isWithin) ∈ wsX8_mayFollow := List.mem_of_getElem? (i := 1) rfl
theorem hdX8_mayFollow : yX8_mayFollow.cls ≠ "java/lang/invoke/MethodHandle" ∧ yX8_mayFollow.cls ≠ "java/lang/invoke/VarHandle" ∧ (parseMethodDescriptor yX8_mayFollow.desc).map (fun d => d.parameters.length) = some 2 := by decide +kernel
set_option maxHeartbeats 4000000 in
set_option maxRecDepth 100000 in
theorem ctX8_mayFollow (l : Launch) (D : va_G) (cI cZ : ClassId) (jx0 : Int32) (jx1 : Int32) (r : Int32) (hf : fX8_mayFollow jx0 jx1 = some r) : cR l yX8_mayFollow wsX8_mayFollow rmX8_mayFollow [.int jx0, .int jx1] D [] (KX D cI cZ) r := by
  refine cR_of (cc := cX8_mayFollow) (maxL := 2) (ret := some .boolean) (by decide +kernel) rfl _ (Nat.le_of_ble_eq_true rfl) ?_
  intro p e s m below meth c ls S hr hlk hP hK hl
  obtain ⟨hx, hb, hml, hown, hts⟩ := id S
  have hl : lv_has ls 2 [(0, .int jx0), (1, .int jx1)] := hl
  unfold fX8_mayFollow at hf
  refine lv_iload_n hx hb dX8_mayFollow_0 rfl (lv_at hl 0 rfl) ?_
  refine lv_iconst (v := 3) hx hb dX8_mayFollow_1 (by decide) ?_
  refine lv_icmp_eq (tgt := 10) hx hb dX8_mayFollow_2 (by decide) (fun jc1 => ?_) (fun jc1 => ?_)
  · have hf := ite_t jc1 hf
    refine lv_iload_n hx hb dX8_mayFollow_10 rfl (lv_at hl 1 rfl) ?_
    refine lv_iconst (v := 1) hx hb dX8_mayFollow_11 (by decide) ?_
    refine lv_bipush (v := 30) hx hb dX8_mayFollow_12 (by decide) ?_
    obtain ⟨jr2, je3, hf⟩ := bd1_inv hf
    refine callRSN (As := [.int jx1, .int (1 : Int32), .int (30 : Int32)]) (rest := []) S (ctX10_isWithin l D cI cZ jx1 (1 : Int32) (30 : Int32) jr2 je3) ⟨va_cnB 3 hts gX8_mayFollow_X10_isWithin_n74 rfl rfl rfl (hK.2 (RX8, 74, yX10_isWithin, RX10) (by simp [nwQ])) (hts _ mX8_mayFollow_2) hdX10_isWithin ⟨Nat.le_of_ble_eq_true rfl, Nat.le_of_ble_eq_true rfl⟩, hts _ mX8_mayFollow_1, trivial⟩ hP [] rfl KX.xs (fun U _ hW => hK.warm hW) rfl hl.1 rfl (Nat.le_of_ble_eq_true rfl) dX8_mayFollow_14 ⟨Nat.zero_le _, Nat.zero_le _⟩ ?_
    obtain ⟨jh4, hf⟩ := zcI_inv hf
    obtain rfl := Option.some.inj hf
    exact retRz hx hb hr hlk (nar_z jh4) dX8_mayFollow_17
  · have hf := ite_f jc1 hf
    refine lv_iload_n hx hb dX8_mayFollow_5 rfl (lv_at hl 0 rfl) ?_
    refine lv_iconst (v := 4) hx hb dX8_mayFollow_6 (by decide) ?_
    refine lv_icmp_ne (tgt := 18) hx hb dX8_mayFollow_7 (by decide) (fun jc5 => ?_) (fun jc5 => ?_)
    · have hf := ite_f jc5 hf
      refine lv_iload_n hx hb dX8_mayFollow_18 rfl (lv_at hl 1 rfl) ?_
      refine lv_iconst (v := 0) hx hb dX8_mayFollow_19 (by decide) ?_
      refine lv_iconst (v := 5) hx hb dX8_mayFollow_20 (by decide) ?_
      obtain ⟨jr6, je7, hf⟩ := bd1_inv hf
      refine callRSN (As := [.int jx1, .int (0 : Int32), .int (5 : Int32)]) (rest := []) S (ctX10_isWithin l D cI cZ jx1 (0 : Int32) (5 : Int32) jr6 je7) ⟨va_cnB 3 hts gX8_mayFollow_X10_isWithin_n74 rfl rfl rfl (hK.2 (RX8, 74, yX10_isWithin, RX10) (by simp [nwQ])) (hts _ mX8_mayFollow_2) hdX10_isWithin ⟨Nat.le_of_ble_eq_true rfl, Nat.le_of_ble_eq_true rfl⟩, hts _ mX8_mayFollow_1, trivial⟩ hP [] rfl KX.xs (fun U _ hW => hK.warm hW) rfl hl.1 rfl (Nat.le_of_ble_eq_true rfl) dX8_mayFollow_21 ⟨Nat.zero_le _, Nat.zero_le _⟩ ?_
      obtain ⟨jh8, hf⟩ := zcI_inv hf
      obtain rfl := Option.some.inj hf
      exact retRz hx hb hr hlk (nar_z jh8) dX8_mayFollow_24
    · have hf := ite_t jc5 hf
      refine lv_iload_n hx hb dX8_mayFollow_10 rfl (lv_at hl 1 rfl) ?_
      refine lv_iconst (v := 1) hx hb dX8_mayFollow_11 (by decide) ?_
      refine lv_bipush (v := 30) hx hb dX8_mayFollow_12 (by decide) ?_
      obtain ⟨jr9, je10, hf⟩ := bd1_inv hf
      refine callRSN (As := [.int jx1, .int (1 : Int32), .int (30 : Int32)]) (rest := []) S (ctX10_isWithin l D cI cZ jx1 (1 : Int32) (30 : Int32) jr9 je10) ⟨va_cnB 3 hts gX8_mayFollow_X10_isWithin_n74 rfl rfl rfl (hK.2 (RX8, 74, yX10_isWithin, RX10) (by simp [nwQ])) (hts _ mX8_mayFollow_2) hdX10_isWithin ⟨Nat.le_of_ble_eq_true rfl, Nat.le_of_ble_eq_true rfl⟩, hts _ mX8_mayFollow_1, trivial⟩ hP [] rfl KX.xs (fun U _ hW => hK.warm hW) rfl hl.1 rfl (Nat.le_of_ble_eq_true rfl) dX8_mayFollow_14 ⟨Nat.zero_le _, Nat.zero_le _⟩ ?_
      obtain ⟨jh11, hf⟩ := zcI_inv hf
      obtain rfl := Option.some.inj hf
      exact retRz hx hb hr hlk (nar_z jh11) dX8_mayFollow_17
def fX8_record (jx1 : Int32) (jx2 : Int32) (v_t_witnesses : Int32) (v_t_copies : Int32) (v_t_read : Int32) (v_t_write : Int32) (v_t_items : Int32) (v_t_votes : (Nat → Int32)) : Option (Int32 × Int32 × Int32 × Int32 × Int32 × (Nat → Int32)) := if jx1 = (3 : Int32) then some (v_t_witnesses, v_t_copies, jx2, v_t_write, (v_t_items + (1 : Int32)), v_t_votes) else if jx1 = (4 : Int32) then some (v_t_witnesses, v_t_copies, v_t_read, jx2, (v_t_items + (1 : Int32)), v_t_votes) else if (6 : Int32) ≤ v_t_copies then some (v_t_witnesses, v_t_copies, v_t_read, v_t_write, (v_t_items + (1 : Int32)), v_t_votes) else ckI 6 v_t_copies (if jx1 = (2 : Int32) then some ((v_t_witnesses ||| ((1 : Int32) <<< (v_t_copies &&& 31))), (v_t_copies + (1 : Int32)), v_t_read, v_t_write, (v_t_items + (1 : Int32)), (upd v_t_votes (Int32.toNatClampNeg v_t_copies) jx2)) else some (v_t_witnesses, (v_t_copies + (1 : Int32)), v_t_read, v_t_write, (v_t_items + (1 : Int32)), (upd v_t_votes (Int32.toNatClampNeg v_t_copies) jx2)))
abbrev rmX8_record : Room := { frames := 0, cells := 0, slots := 0, locals := 0 }
theorem iX8_record_X8 : ∀ w ∈ wsX80, w ∈ wsX8_record := fun _ h => List.mem_cons_of_mem _ (List.mem_append_right _ h)
theorem mX8_record_1 : (Cond.fieldLink RX8 28 "VoteFiles$Telling" "items" "I") ∈ wsX8_record := List.mem_of_getElem? (i := 1) rfl
theorem mX8_record_4 : (Cond.fieldLink RX8 19 "VoteFiles$Telling" "copies" "I") ∈ wsX8_record := List.mem_of_getElem? (i := 4) rfl
theorem mX8_record_5 : (Cond.fieldLink RX8 9 "VoteFiles$Telling" "votes" "[I") ∈ wsX8_record := List.mem_of_getElem? (i := 5) rfl
theorem mX8_record_6 : (Cond.fieldLink RX8 15 "VoteFiles$Telling" "witnesses" "I") ∈ wsX8_record := List.mem_of_getElem? (i := 6) rfl
theorem mX8_record_3 : (Cond.fieldLink RX8 25 "VoteFiles$Telling" "write" "I") ∈ wsX8_record := List.mem_of_getElem? (i := 3) rfl
theorem mX8_record_2 : (Cond.fieldLink RX8 22 "VoteFiles$Telling" "read" "I") ∈ wsX8_record := List.mem_of_getElem? (i := 2) rfl
theorem hdX8_record : yX8_record.cls ≠ "java/lang/invoke/MethodHandle" ∧ yX8_record.cls ≠ "java/lang/invoke/VarHandle" ∧ (parseMethodDescriptor yX8_record.desc).map (fun d => d.parameters.length) = some 2 := by decide +kernel
set_option maxHeartbeats 4000000 in
set_option maxRecDepth 100000 in
theorem ctX8_record (l : Launch) (D : va_G) (cI cZ : ClassId) (a_t a_t_tokens a_t_votes : Nat) (jx1 : Int32) (jx2 : Int32) (v_t_witnesses : Int32) (v_t_copies : Int32) (v_t_read : Int32) (v_t_write : Int32) (v_t_items : Int32) (v_t_votes : (Nat → Int32)) (o_t_witnesses : Int32) (o_t_copies : Int32) (o_t_read : Int32) (o_t_write : Int32) (o_t_items : Int32) (o_t_votes : (Nat → Int32)) (hf : fX8_record jx1 jx2 v_t_witnesses v_t_copies v_t_read v_t_write v_t_items v_t_votes = some (o_t_witnesses, o_t_copies, o_t_read, o_t_write, o_t_items, o_t_votes)) : cM l yX8_record wsX8_record rmX8_record [.ref a_t, .int jx1, .int jx2] D [(a_t, .inr (8, [.ref a_t_tokens, .ref a_t_votes, .int v_t_witnesses, .int v_t_copies, .int v_t_read, .int v_t_write, .int v_t_items])), (a_t_votes, .inl (cI, 6, .inl v_t_votes))] [(a_t, .inr (8, [.ref a_t_tokens, .ref a_t_votes, .int o_t_witnesses, .int o_t_copies, .int o_t_read, .int o_t_write, .int o_t_items])), (a_t_votes, .inl (cI, 6, .inl o_t_votes))] (KX D cI cZ) none := by
  refine cM_of (cc := cX8_record) (maxL := 3) (ret := none) (by decide +kernel) rfl _ (Nat.le_of_ble_eq_true rfl) ?_
  intro p e s m below meth c ls A S hr hlk hP hK hl hD hA hS
  obtain ⟨hx, hb, hml, hown, hts⟩ := id S
  have hl : lv_has ls 3 [(0, .ref a_t), (1, .int jx1), (2, .int jx2)] := hl
  unfold fX8_record at hf
  refine lv_aload_n hx hb dX8_record_0 rfl (lv_at hl 0 rfl) ?_
  refine lv_dup hx hb dX8_record_1 rfl ?_
  refine va_get (D := D) (ci := 8) (v := .int v_t_items) (C := RX8) (T := TX8) (N := 7) hx hb hts iX8_record_X8 hown hK.1 hP 0 rfl rfl 6 (by decide) (hts _ mX8_record_1) (fun _ h9 => h9) rfl dX8_record_2 ?_
  refine lv_iconst (v := 1) hx hb dX8_record_5 (by decide) ?_
  refine lv_iadd hx hb dX8_record_6 ?_
  refine va_put (D := D) (ci := 8) (v := .int (v_t_items + (1 : Int32))) (ty := .int) (C := RX8) (T := TX8) (N := 7) hx hb hts iX8_record_X8 tyX8 tyX8_ok nmX8 hown hK.1 hP hD hS 0 rfl rfl 6 (by decide) (hts _ mX8_record_1) (fun _ h9 => h9) rfl (tyX8_ok 6 (by decide)) rfl rfl (Nat.le_of_ble_eq_true rfl) dX8_record_7 (fun H locs hP hD hS => ?_)
  have hP : va_P D vwCl [(a_t, .inr (8, [.ref a_t_tokens, .ref a_t_votes, .int v_t_witnesses, .int v_t_copies, .int v_t_read, .int v_t_write, .int (v_t_items + (1 : Int32))])), (a_t_votes, .inl (cI, 6, .inl v_t_votes))] H := hP
  have hD : va_D A [(a_t, .inr (8, [.ref a_t_tokens, .ref a_t_votes, .int v_t_witnesses, .int v_t_copies, .int v_t_read, .int v_t_write, .int (v_t_items + (1 : Int32))])), (a_t_votes, .inl (cI, 6, .inl v_t_votes))] := hD
  refine lv_iload_n hx hb dX8_record_10 rfl (lv_at hl 1 rfl) ?_
  refine lv_iconst (v := 3) hx hb dX8_record_11 (by decide) ?_
  refine lv_icmp_ne (tgt := 23) hx hb dX8_record_12 (by decide) (fun jc1 => ?_) (fun jc1 => ?_)
  · have hf := ite_f jc1 hf
    refine lv_iload_n hx hb dX8_record_23 rfl (lv_at hl 1 rfl) ?_
    refine lv_iconst (v := 4) hx hb dX8_record_24 (by decide) ?_
    refine lv_icmp_ne (tgt := 36) hx hb dX8_record_25 (by decide) (fun jc2 => ?_) (fun jc2 => ?_)
    · have hf := ite_f jc2 hf
      refine lv_aload_n hx hb dX8_record_36 rfl (lv_at hl 0 rfl) ?_
      refine va_get (D := D) (ci := 8) (v := .int v_t_copies) (C := RX8) (T := TX8) (N := 7) hx hb hts iX8_record_X8 hown hK.1 hP 0 rfl rfl 3 (by decide) (hts _ mX8_record_4) (fun _ h9 => h9) rfl dX8_record_37 ?_
      refine lv_bipush (v := 6) hx hb dX8_record_40 (by decide) ?_
      refine lv_icmp_ge (tgt := 85) hx hb dX8_record_42 (by decide) (fun jc3 => ?_) (fun jc3 => ?_)
      · have hf := ite_t jc3 hf
        obtain ⟨rfl, rfl, rfl, rfl, rfl, rfl⟩ := pr6_inv hf
        exact retMv hx hb hr hlk hP hD hS dX8_record_85
      · have hf := ite_f jc3 hf
        refine lv_aload_n hx hb dX8_record_45 rfl (lv_at hl 0 rfl) ?_
        refine va_get (D := D) (ci := 8) (v := .ref a_t_votes) (C := RX8) (T := TX8) (N := 7) hx hb hts iX8_record_X8 hown hK.1 hP 0 rfl rfl 1 (by decide) (hts _ mX8_record_5) (fun _ h9 => h9) rfl dX8_record_46 ?_
        refine lv_aload_n hx hb dX8_record_49 rfl (lv_at hl 0 rfl) ?_
        refine va_get (D := D) (ci := 8) (v := .int v_t_copies) (C := RX8) (T := TX8) (N := 7) hx hb hts iX8_record_X8 hown hK.1 hP 0 rfl rfl 3 (by decide) (hts _ mX8_record_4) (fun _ h9 => h9) rfl dX8_record_50 ?_
        refine lv_iload_n hx hb dX8_record_53 rfl (lv_at hl 2 rfl) ?_
        obtain ⟨jh4, hf⟩ := ckI_inv hf
        refine va_iast hx hb hK.1 hP hD hS 1 0 rfl rfl jh4 dX8_record_54 (fun H locs hP hD hS => ?_)
        have hP : va_P D vwCl [(a_t, .inr (8, [.ref a_t_tokens, .ref a_t_votes, .int v_t_witnesses, .int v_t_copies, .int v_t_read, .int v_t_write, .int (v_t_items + (1 : Int32))])), (a_t_votes, .inl (cI, 6, .inl (upd v_t_votes (Int32.toNatClampNeg v_t_copies) jx2)))] H := hP
        have hD : va_D A [(a_t, .inr (8, [.ref a_t_tokens, .ref a_t_votes, .int v_t_witnesses, .int v_t_copies, .int v_t_read, .int v_t_write, .int (v_t_items + (1 : Int32))])), (a_t_votes, .inl (cI, 6, .inl (upd v_t_votes (Int32.toNatClampNeg v_t_copies) jx2)))] := hD
        refine lv_iload_n hx hb dX8_record_55 rfl (lv_at hl 1 rfl) ?_
        refine lv_iconst (v := 2) hx hb dX8_record_56 (by decide) ?_
        refine lv_icmp_ne (tgt := 75) hx hb dX8_record_57 (by decide) (fun jc5 => ?_) (fun jc5 => ?_)
        · have hf := ite_f jc5 hf
          refine lv_aload_n hx hb dX8_record_75 rfl (lv_at hl 0 rfl) ?_
          refine lv_dup hx hb dX8_record_76 rfl ?_
          refine va_get (D := D) (ci := 8) (v := .int v_t_copies) (C := RX8) (T := TX8) (N := 7) hx hb hts iX8_record_X8 hown hK.1 hP 0 rfl rfl 3 (by decide) (hts _ mX8_record_4) (fun _ h9 => h9) rfl dX8_record_77 ?_
          refine lv_iconst (v := 1) hx hb dX8_record_80 (by decide) ?_
          refine lv_iadd hx hb dX8_record_81 ?_
          refine va_put (D := D) (ci := 8) (v := .int (v_t_copies + (1 : Int32))) (ty := .int) (C := RX8) (T := TX8) (N := 7) hx hb hts iX8_record_X8 tyX8 tyX8_ok nmX8 hown hK.1 hP hD hS 0 rfl rfl 3 (by decide) (hts _ mX8_record_4) (fun _ h9 => h9) rfl (tyX8_ok 3 (by decide)) rfl rfl (Nat.le_of_ble_eq_true rfl) dX8_record_82 (fun H locs hP hD hS => ?_)
          have hP : va_P D vwCl [(a_t, .inr (8, [.ref a_t_tokens, .ref a_t_votes, .int v_t_witnesses, .int (v_t_copies + (1 : Int32)), .int v_t_read, .int v_t_write, .int (v_t_items + (1 : Int32))])), (a_t_votes, .inl (cI, 6, .inl (upd v_t_votes (Int32.toNatClampNeg v_t_copies) jx2)))] H := hP
          have hD : va_D A [(a_t, .inr (8, [.ref a_t_tokens, .ref a_t_votes, .int v_t_witnesses, .int (v_t_copies + (1 : Int32)), .int v_t_read, .int v_t_write, .int (v_t_items + (1 : Int32))])), (a_t_votes, .inl (cI, 6, .inl (upd v_t_votes (Int32.toNatClampNeg v_t_copies) jx2)))] := hD
          obtain ⟨rfl, rfl, rfl, rfl, rfl, rfl⟩ := pr6_inv hf
          exact retMv hx hb hr hlk hP hD hS dX8_record_85
        · have hf := ite_t jc5 hf
          refine lv_aload_n hx hb dX8_record_60 rfl (lv_at hl 0 rfl) ?_
          refine lv_dup hx hb dX8_record_61 rfl ?_
          refine va_get (D := D) (ci := 8) (v := .int v_t_witnesses) (C := RX8) (T := TX8) (N := 7) hx hb hts iX8_record_X8 hown hK.1 hP 0 rfl rfl 2 (by decide) (hts _ mX8_record_6) (fun _ h9 => h9) rfl dX8_record_62 ?_
          refine lv_iconst (v := 1) hx hb dX8_record_65 (by decide) ?_
          refine lv_aload_n hx hb dX8_record_66 rfl (lv_at hl 0 rfl) ?_
          refine va_get (D := D) (ci := 8) (v := .int v_t_copies) (C := RX8) (T := TX8) (N := 7) hx hb hts iX8_record_X8 hown hK.1 hP 0 rfl rfl 3 (by decide) (hts _ mX8_record_4) (fun _ h9 => h9) rfl dX8_record_67 ?_
          refine lv_ishl hx hb dX8_record_70 ?_
          refine lv_ior hx hb dX8_record_71 ?_
          refine va_put (D := D) (ci := 8) (v := .int (v_t_witnesses ||| ((1 : Int32) <<< (v_t_copies &&& 31)))) (ty := .int) (C := RX8) (T := TX8) (N := 7) hx hb hts iX8_record_X8 tyX8 tyX8_ok nmX8 hown hK.1 hP hD hS 0 rfl rfl 2 (by decide) (hts _ mX8_record_6) (fun _ h9 => h9) rfl (tyX8_ok 2 (by decide)) rfl rfl (Nat.le_of_ble_eq_true rfl) dX8_record_72 (fun H locs hP hD hS => ?_)
          have hP : va_P D vwCl [(a_t, .inr (8, [.ref a_t_tokens, .ref a_t_votes, .int (v_t_witnesses ||| ((1 : Int32) <<< (v_t_copies &&& 31))), .int v_t_copies, .int v_t_read, .int v_t_write, .int (v_t_items + (1 : Int32))])), (a_t_votes, .inl (cI, 6, .inl (upd v_t_votes (Int32.toNatClampNeg v_t_copies) jx2)))] H := hP
          have hD : va_D A [(a_t, .inr (8, [.ref a_t_tokens, .ref a_t_votes, .int (v_t_witnesses ||| ((1 : Int32) <<< (v_t_copies &&& 31))), .int v_t_copies, .int v_t_read, .int v_t_write, .int (v_t_items + (1 : Int32))])), (a_t_votes, .inl (cI, 6, .inl (upd v_t_votes (Int32.toNatClampNeg v_t_copies) jx2)))] := hD
          refine lv_aload_n hx hb dX8_record_75 rfl (lv_at hl 0 rfl) ?_
          refine lv_dup hx hb dX8_record_76 rfl ?_
          refine va_get (D := D) (ci := 8) (v := .int v_t_copies) (C := RX8) (T := TX8) (N := 7) hx hb hts iX8_record_X8 hown hK.1 hP 0 rfl rfl 3 (by decide) (hts _ mX8_record_4) (fun _ h9 => h9) rfl dX8_record_77 ?_
          refine lv_iconst (v := 1) hx hb dX8_record_80 (by decide) ?_
          refine lv_iadd hx hb dX8_record_81 ?_
          refine va_put (D := D) (ci := 8) (v := .int (v_t_copies + (1 : Int32))) (ty := .int) (C := RX8) (T := TX8) (N := 7) hx hb hts iX8_record_X8 tyX8 tyX8_ok nmX8 hown hK.1 hP hD hS 0 rfl rfl 3 (by decide) (hts _ mX8_record_4) (fun _ h9 => h9) rfl (tyX8_ok 3 (by decide)) rfl rfl (Nat.le_of_ble_eq_true rfl) dX8_record_82 (fun H locs hP hD hS => ?_)
          have hP : va_P D vwCl [(a_t, .inr (8, [.ref a_t_tokens, .ref a_t_votes, .int (v_t_witnesses ||| ((1 : Int32) <<< (v_t_copies &&& 31))), .int (v_t_copies + (1 : Int32)), .int v_t_read, .int v_t_write, .int (v_t_items + (1 : Int32))])), (a_t_votes, .inl (cI, 6, .inl (upd v_t_votes (Int32.toNatClampNeg v_t_copies) jx2)))] H := hP
          have hD : va_D A [(a_t, .inr (8, [.ref a_t_tokens, .ref a_t_votes, .int (v_t_witnesses ||| ((1 : Int32) <<< (v_t_copies &&& 31))), .int (v_t_copies + (1 : Int32)), .int v_t_read, .int v_t_write, .int (v_t_items + (1 : Int32))])), (a_t_votes, .inl (cI, 6, .inl (upd v_t_votes (Int32.toNatClampNeg v_t_copies) jx2)))] := hD
          obtain ⟨rfl, rfl, rfl, rfl, rfl, rfl⟩ := pr6_inv hf
          exact retMv hx hb hr hlk hP hD hS dX8_record_85
    · have hf := ite_t jc2 hf
      refine lv_aload_n hx hb dX8_record_28 rfl (lv_at hl 0 rfl) ?_
      refine lv_iload_n hx hb dX8_record_29 rfl (lv_at hl 2 rfl) ?_
      refine va_put (D := D) (ci := 8) (v := .int jx2) (ty := .int) (C := RX8) (T := TX8) (N := 7) hx hb hts iX8_record_X8 tyX8 tyX8_ok nmX8 hown hK.1 hP hD hS 0 rfl rfl 5 (by decide) (hts _ mX8_record_3) (fun _ h9 => h9) rfl (tyX8_ok 5 (by decide)) rfl rfl (Nat.le_of_ble_eq_true rfl) dX8_record_30 (fun H locs hP hD hS => ?_)
      have hP : va_P D vwCl [(a_t, .inr (8, [.ref a_t_tokens, .ref a_t_votes, .int v_t_witnesses, .int v_t_copies, .int v_t_read, .int jx2, .int (v_t_items + (1 : Int32))])), (a_t_votes, .inl (cI, 6, .inl v_t_votes))] H := hP
      have hD : va_D A [(a_t, .inr (8, [.ref a_t_tokens, .ref a_t_votes, .int v_t_witnesses, .int v_t_copies, .int v_t_read, .int jx2, .int (v_t_items + (1 : Int32))])), (a_t_votes, .inl (cI, 6, .inl v_t_votes))] := hD
      refine lv_goto (tgt := 85) hx hb dX8_record_33 (by decide) ?_
      obtain ⟨rfl, rfl, rfl, rfl, rfl, rfl⟩ := pr6_inv hf
      exact retMv hx hb hr hlk hP hD hS dX8_record_85
  · have hf := ite_t jc1 hf
    refine lv_aload_n hx hb dX8_record_15 rfl (lv_at hl 0 rfl) ?_
    refine lv_iload_n hx hb dX8_record_16 rfl (lv_at hl 2 rfl) ?_
    refine va_put (D := D) (ci := 8) (v := .int jx2) (ty := .int) (C := RX8) (T := TX8) (N := 7) hx hb hts iX8_record_X8 tyX8 tyX8_ok nmX8 hown hK.1 hP hD hS 0 rfl rfl 4 (by decide) (hts _ mX8_record_2) (fun _ h9 => h9) rfl (tyX8_ok 4 (by decide)) rfl rfl (Nat.le_of_ble_eq_true rfl) dX8_record_17 (fun H locs hP hD hS => ?_)
    have hP : va_P D vwCl [(a_t, .inr (8, [.ref a_t_tokens, .ref a_t_votes, .int v_t_witnesses, .int v_t_copies, .int jx2, .int v_t_write, .int (v_t_items + (1 : Int32))])), (a_t_votes, .inl (cI, 6, .inl v_t_votes))] H := hP
    have hD : va_D A [(a_t, .inr (8, [.ref a_t_tokens, .ref a_t_votes, .int v_t_witnesses, .int v_t_copies, .int jx2, .int v_t_write, .int (v_t_items + (1 : Int32))])), (a_t_votes, .inl (cI, 6, .inl v_t_votes))] := hD
    refine lv_goto (tgt := 85) hx hb dX8_record_20 (by decide) ?_
    obtain ⟨rfl, rfl, rfl, rfl, rfl, rfl⟩ := pr6_inv hf
    exact retMv hx hb hr hlk hP hD hS dX8_record_85
def fX10_isLawful (jx0 : Int32) (jx1 : Int32) (jx2 : Int32) : Option (Int32) := if (jx1 + jx2) ≤ jx0 then some (0 : Int32) else if ((2 : Int32) * jx2) ≤ jx0 then some (0 : Int32) else if jx0 < jx1 then some (0 : Int32) else if jx0 < jx2 then some (0 : Int32) else some (1 : Int32)
abbrev rmX10_isLawful : Room := { frames := 0, cells := 0, slots := 0, locals := 0 }
theorem hdX10_isLawful : yX10_isLawful.cls ≠ "java/lang/invoke/MethodHandle" ∧ yX10_isLawful.cls ≠ "java/lang/invoke/VarHandle" ∧ (parseMethodDescriptor yX10_isLawful.desc).map (fun d => d.parameters.length) = some 3 := by decide +kernel
set_option maxHeartbeats 4000000 in
set_option maxRecDepth 100000 in
theorem ctX10_isLawful (l : Launch) (D : va_G) (cI cZ : ClassId) (jx0 : Int32) (jx1 : Int32) (jx2 : Int32) (r : Int32) (hf : fX10_isLawful jx0 jx1 jx2 = some r) : cR l yX10_isLawful wsX10_isLawful rmX10_isLawful [.int jx0, .int jx1, .int jx2] D [] (KX D cI cZ) r := by
  refine cR_of (cc := cX10_isLawful) (maxL := 3) (ret := some .boolean) (by decide +kernel) rfl _ (Nat.le_of_ble_eq_true rfl) ?_
  intro p e s m below meth c ls S hr hlk hP hK hl
  obtain ⟨hx, hb, hml, hown, hts⟩ := id S
  have hl : lv_has ls 3 [(0, .int jx0), (1, .int jx1), (2, .int jx2)] := hl
  unfold fX10_isLawful at hf
  refine lv_iload_n hx hb dX10_isLawful_0 rfl (lv_at hl 1 rfl) ?_
  refine lv_iload_n hx hb dX10_isLawful_1 rfl (lv_at hl 2 rfl) ?_
  refine lv_iadd hx hb dX10_isLawful_2 ?_
  refine lv_iload_n hx hb dX10_isLawful_3 rfl (lv_at hl 0 rfl) ?_
  refine lv_icmp_le (tgt := 28) hx hb dX10_isLawful_4 (by decide) (fun jc1 => ?_) (fun jc1 => ?_)
  · have hf := ite_t jc1 hf
    refine lv_iconst (v := 0) hx hb dX10_isLawful_28 (by decide) ?_
    obtain rfl := Option.some.inj hf
    exact retRz hx hb hr hlk (by decide) dX10_isLawful_29
  · have hf := ite_f jc1 hf
    refine lv_iconst (v := 2) hx hb dX10_isLawful_7 (by decide) ?_
    refine lv_iload_n hx hb dX10_isLawful_8 rfl (lv_at hl 2 rfl) ?_
    refine lv_imul hx hb dX10_isLawful_9 ?_
    refine lv_iload_n hx hb dX10_isLawful_10 rfl (lv_at hl 0 rfl) ?_
    refine lv_icmp_le (tgt := 28) hx hb dX10_isLawful_11 (by decide) (fun jc2 => ?_) (fun jc2 => ?_)
    · have hf := ite_t jc2 hf
      refine lv_iconst (v := 0) hx hb dX10_isLawful_28 (by decide) ?_
      obtain rfl := Option.some.inj hf
      exact retRz hx hb hr hlk (by decide) dX10_isLawful_29
    · have hf := ite_f jc2 hf
      refine lv_iload_n hx hb dX10_isLawful_14 rfl (lv_at hl 1 rfl) ?_
      refine lv_iload_n hx hb dX10_isLawful_15 rfl (lv_at hl 0 rfl) ?_
      refine lv_icmp_gt (tgt := 28) hx hb dX10_isLawful_16 (by decide) (fun jc3 => ?_) (fun jc3 => ?_)
      · have hf := ite_t jc3 hf
        refine lv_iconst (v := 0) hx hb dX10_isLawful_28 (by decide) ?_
        obtain rfl := Option.some.inj hf
        exact retRz hx hb hr hlk (by decide) dX10_isLawful_29
      · have hf := ite_f jc3 hf
        refine lv_iload_n hx hb dX10_isLawful_19 rfl (lv_at hl 2 rfl) ?_
        refine lv_iload_n hx hb dX10_isLawful_20 rfl (lv_at hl 0 rfl) ?_
        refine lv_icmp_gt (tgt := 28) hx hb dX10_isLawful_21 (by decide) (fun jc4 => ?_) (fun jc4 => ?_)
        · have hf := ite_t jc4 hf
          refine lv_iconst (v := 0) hx hb dX10_isLawful_28 (by decide) ?_
          obtain rfl := Option.some.inj hf
          exact retRz hx hb hr hlk (by decide) dX10_isLawful_29
        · have hf := ite_f jc4 hf
          refine lv_iconst (v := 1) hx hb dX10_isLawful_24 (by decide) ?_
          refine lv_goto (tgt := 29) hx hb dX10_isLawful_25 (by decide) ?_
          obtain rfl := Option.some.inj hf
          exact retRz hx hb hr hlk (by decide) dX10_isLawful_29
def fX8_isRight_23 (v_t_copies : Int32) (v_t_items : Int32) (v_t_votes : (Nat → Int32)) : Nat → Int32 → Int32 → Int32 → Int32 → Option (Int32 × Int32 × Int32)
  | 0, _, _, _, _ => none
  | n + 1, jx1, jx2, v_t_read, v_t_write => if v_t_copies ≤ jx2 then if v_t_read = 0 then some ((0 : Int32), v_t_read, v_t_write) else if v_t_write = 0 then some ((0 : Int32), v_t_read, v_t_write) else bd1 (fX10_isLawful jx1 v_t_read v_t_write) (fun jr4 => if jr4 = 0 then some ((0 : Int32), v_t_read, v_t_write) else some ((1 : Int32), v_t_read, v_t_write)) else ckI 6 jx2 ((fX8_isRight_23 v_t_copies v_t_items v_t_votes n) (jx1 + (v_t_votes (Int32.toNatClampNeg jx2))) (jx2 + (1 : Int32)) v_t_read v_t_write)
theorem fX8_isRight_23_s (v_t_copies : Int32) (v_t_items : Int32) (v_t_votes : (Nat → Int32)) (n : Nat) (jx1 : Int32) (jx2 : Int32) (v_t_read : Int32) (v_t_write : Int32) : fX8_isRight_23 v_t_copies v_t_items v_t_votes (n + 1) jx1 jx2 v_t_read v_t_write = if v_t_copies ≤ jx2 then if v_t_read = 0 then some ((0 : Int32), v_t_read, v_t_write) else if v_t_write = 0 then some ((0 : Int32), v_t_read, v_t_write) else bd1 (fX10_isLawful jx1 v_t_read v_t_write) (fun jr4 => if jr4 = 0 then some ((0 : Int32), v_t_read, v_t_write) else some ((1 : Int32), v_t_read, v_t_write)) else ckI 6 jx2 ((fX8_isRight_23 v_t_copies v_t_items v_t_votes n) (jx1 + (v_t_votes (Int32.toNatClampNeg jx2))) (jx2 + (1 : Int32)) v_t_read v_t_write) := rfl
def fX8_isRight (v_t_copies : Int32) (v_t_read : Int32) (v_t_write : Int32) (v_t_items : Int32) (v_t_votes : (Nat → Int32)) : Option (Int32 × Int32 × Int32) := if v_t_items = 0 then some ((1 : Int32), (1 : Int32), (1 : Int32)) else fX8_isRight_23 v_t_copies v_t_items v_t_votes fuel (0 : Int32) (0 : Int32) v_t_read v_t_write
abbrev rmX8_isRight : Room := { frames := 1, cells := 0, slots := 0, locals := 22 }
theorem iX8_isRight_X8 : ∀ w ∈ wsX80, w ∈ wsX8_isRight := fun _ h => List.mem_cons_of_mem _ (List.mem_append_right _ h)
theorem mX8_isRight_4 : (Cond.fieldLink RX8 19 "VoteFiles$Telling" "copies" "I") ∈ wsX8_isRight := List.mem_of_getElem? (i := 4) rfl
theorem mX8_isRight_2 : (Cond.fieldLink RX8 22 "VoteFiles$Telling" "read" "I") ∈ wsX8_isRight := List.mem_of_getElem? (i := 2) rfl
theorem mX8_isRight_3 : (Cond.fieldLink RX8 25 "VoteFiles$Telling" "write" "I") ∈ wsX8_isRight := List.mem_of_getElem? (i := 3) rfl
theorem mX8_isRight_7 : (Cond.initialized RX10) ∈ wsX8_isRight := List.mem_of_getElem? (i := 7) rfl
theorem mX8_isRight_6 : (Cond.static yX10_isLawful) ∈ wsX8_isRight := List.mem_of_getElem? (i := 6) rfl
theorem mX8_isRight_5 : (Cond.fieldLink RX8 9 "VoteFiles$Telling" "votes" "[I") ∈ wsX8_isRight := List.mem_of_getElem? (i := 5) rfl
theorem mX8_isRight_1 : (Cond.fieldLink RX8 28 "VoteFiles$Telling" "items" "I") ∈ wsX8_isRight := List.mem_of_getElem? (i := 1) rfl
set_option maxHeartbeats 4000000 in
set_option maxRecDepth 100000 in
theorem wX8_isRight_23 {p : Program} {l : Launch} {e : Env} {s : State} {m : MethodId} {args : Array Value} {below : List Frame} {meth : Method} {c : Code} {D : va_G} {cI cZ : ClassId} (S : CallFix p m c cX8_isRight 3 s args wsX8_isRight RX8) (hr : meth.sig.returnType = some .boolean) (hlk : meth.locks = false) (hK : KX D cI cZ s) {a_t a_t_tokens a_t_votes : Nat} {v_t_copies : Int32} {v_t_items : Int32} {v_t_votes : (Nat → Int32)} {v_t_witnesses : Int32} {r : Int32} {o_t_read : Int32} {o_t_write : Int32} {A : Nat → Prop} (hA : ∀ q : Nat, s.heap.size ≤ q → A q) : ∀ (n : Nat), ∀ (jx1 : Int32) (jx2 : Int32) (v_t_read : Int32) (v_t_write : Int32) (ls : Array Slot) (H : Heap) (locs : List Loc), fX8_isRight_23 v_t_copies v_t_items v_t_votes n jx1 jx2 v_t_read v_t_write = some (r, o_t_read, o_t_write) → lv_has ls 3 [(0, .ref a_t), (1, .int jx1), (2, .int jx2)] → va_P D vwCl [(a_t, .inr (8, [.ref a_t_tokens, .ref a_t_votes, .int v_t_witnesses, .int v_t_copies, .int v_t_read, .int v_t_write, .int v_t_items])), (a_t_votes, .inl (cI, 6, .inl v_t_votes))] H → va_D A [(a_t, .inr (8, [.ref a_t_tokens, .ref a_t_votes, .int v_t_witnesses, .int v_t_copies, .int v_t_read, .int v_t_write, .int v_t_items])), (a_t_votes, .inl (cI, 6, .inl v_t_votes))] → va_S A s.heap H locs → W p l e rmX8_isRight s m args below meth c H locs 0 0 (MQ below (qM D (some (.int r)) [(a_t, .inr (8, [.ref a_t_tokens, .ref a_t_votes, .int v_t_witnesses, .int v_t_copies, .int o_t_read, .int o_t_write, .int v_t_items])), (a_t_votes, .inl (cI, 6, .inl v_t_votes))] A) args s 0 0 A) (F0 m 23 ls []) := by
  obtain ⟨hx, hb, hml, hown, hts⟩ := id S
  intro n
  induction n with
  | zero =>
    intro jx1 jx2 v_t_read v_t_write ls H locs hf hl hP hD hS
    cases (show (none : Option _) = some _ from hf)
  | succ n ih =>
    intro jx1 jx2 v_t_read v_t_write ls H locs hf hl hP hD hS
    have hf := (fX8_isRight_23_s _ _ _ n _ _ _ _).symm.trans hf
    refine lv_iload_n hx hb dX8_isRight_23 rfl (lv_at hl 2 rfl) ?_
    refine lv_aload_n hx hb dX8_isRight_24 rfl (lv_at hl 0 rfl) ?_
    refine va_get (D := D) (ci := 8) (v := .int v_t_copies) (C := RX8) (T := TX8) (N := 7) hx hb hts iX8_isRight_X8 hown hK.1 hP 0 rfl rfl 3 (by decide) (hts _ mX8_isRight_4) (fun _ h9 => h9) rfl dX8_isRight_25 ?_
    refine lv_icmp_ge (tgt := 46) hx hb dX8_isRight_28 (by decide) (fun jc1 => ?_) (fun jc1 => ?_)
    · have hf := ite_t jc1 hf
      refine lv_aload_n hx hb dX8_isRight_46 rfl (lv_at hl 0 rfl) ?_
      refine va_get (D := D) (ci := 8) (v := .int v_t_read) (C := RX8) (T := TX8) (N := 7) hx hb hts iX8_isRight_X8 hown hK.1 hP 0 rfl rfl 4 (by decide) (hts _ mX8_isRight_2) (fun _ h9 => h9) rfl dX8_isRight_47 ?_
      refine lv_if_eq (tgt := 79) hx hb dX8_isRight_50 (by decide) (fun jc2 => ?_) (fun jc2 => ?_)
      · have hf := ite_t jc2 hf
        refine lv_iconst (v := 0) hx hb dX8_isRight_79 (by decide) ?_
        obtain ⟨rfl, rfl, rfl⟩ := pr3_inv hf
        exact retMz hx hb hr hlk (by decide) hP hD hS dX8_isRight_80
      · have hf := ite_f jc2 hf
        refine lv_aload_n hx hb dX8_isRight_53 rfl (lv_at hl 0 rfl) ?_
        refine va_get (D := D) (ci := 8) (v := .int v_t_write) (C := RX8) (T := TX8) (N := 7) hx hb hts iX8_isRight_X8 hown hK.1 hP 0 rfl rfl 5 (by decide) (hts _ mX8_isRight_3) (fun _ h9 => h9) rfl dX8_isRight_54 ?_
        refine lv_if_eq (tgt := 79) hx hb dX8_isRight_57 (by decide) (fun jc3 => ?_) (fun jc3 => ?_)
        · have hf := ite_t jc3 hf
          refine lv_iconst (v := 0) hx hb dX8_isRight_79 (by decide) ?_
          obtain ⟨rfl, rfl, rfl⟩ := pr3_inv hf
          exact retMz hx hb hr hlk (by decide) hP hD hS dX8_isRight_80
        · have hf := ite_f jc3 hf
          refine lv_iload_n hx hb dX8_isRight_60 rfl (lv_at hl 1 rfl) ?_
          refine lv_aload_n hx hb dX8_isRight_61 rfl (lv_at hl 0 rfl) ?_
          refine va_get (D := D) (ci := 8) (v := .int v_t_read) (C := RX8) (T := TX8) (N := 7) hx hb hts iX8_isRight_X8 hown hK.1 hP 0 rfl rfl 4 (by decide) (hts _ mX8_isRight_2) (fun _ h9 => h9) rfl dX8_isRight_62 ?_
          refine lv_aload_n hx hb dX8_isRight_65 rfl (lv_at hl 0 rfl) ?_
          refine va_get (D := D) (ci := 8) (v := .int v_t_write) (C := RX8) (T := TX8) (N := 7) hx hb hts iX8_isRight_X8 hown hK.1 hP 0 rfl rfl 5 (by decide) (hts _ mX8_isRight_3) (fun _ h9 => h9) rfl dX8_isRight_66 ?_
          obtain ⟨jr4, je5, hf⟩ := bd1_inv hf
          refine callRSN (As := [.int jx1, .int v_t_read, .int v_t_write]) (rest := []) S (ctX10_isLawful l D cI cZ jx1 v_t_read v_t_write jr4 je5) ⟨va_cnB 3 hts gX8_isRight_X10_isLawful_n78 rfl rfl rfl (hK.2 (RX8, 78, yX10_isLawful, RX10) (by simp [nwQ])) (hts _ mX8_isRight_7) hdX10_isLawful ⟨Nat.le_of_ble_eq_true rfl, Nat.le_of_ble_eq_true rfl⟩, hts _ mX8_isRight_6, trivial⟩ hP [] rfl KX.xs (fun U _ hW => hK.warm hW) rfl hl.1 rfl (Nat.le_of_ble_eq_true rfl) dX8_isRight_69 ⟨Nat.zero_le _, Nat.zero_le _⟩ ?_
          refine lv_if_eq (tgt := 79) hx hb dX8_isRight_72 (by decide) (fun jc6 => ?_) (fun jc6 => ?_)
          · have hf := ite_t jc6 hf
            refine lv_iconst (v := 0) hx hb dX8_isRight_79 (by decide) ?_
            obtain ⟨rfl, rfl, rfl⟩ := pr3_inv hf
            exact retMz hx hb hr hlk (by decide) hP hD hS dX8_isRight_80
          · have hf := ite_f jc6 hf
            refine lv_iconst (v := 1) hx hb dX8_isRight_75 (by decide) ?_
            refine lv_goto (tgt := 80) hx hb dX8_isRight_76 (by decide) ?_
            obtain ⟨rfl, rfl, rfl⟩ := pr3_inv hf
            exact retMz hx hb hr hlk (by decide) hP hD hS dX8_isRight_80
    · have hf := ite_f jc1 hf
      refine lv_iload_n hx hb dX8_isRight_31 rfl (lv_at hl 1 rfl) ?_
      refine lv_aload_n hx hb dX8_isRight_32 rfl (lv_at hl 0 rfl) ?_
      refine va_get (D := D) (ci := 8) (v := .ref a_t_votes) (C := RX8) (T := TX8) (N := 7) hx hb hts iX8_isRight_X8 hown hK.1 hP 0 rfl rfl 1 (by decide) (hts _ mX8_isRight_5) (fun _ h9 => h9) rfl dX8_isRight_33 ?_
      refine lv_iload_n hx hb dX8_isRight_36 rfl (lv_at hl 2 rfl) ?_
      obtain ⟨jh7, hf⟩ := ckI_inv hf
      refine va_iald hx hb hK.1 hP 1 0 rfl rfl jh7 dX8_isRight_37 ?_
      refine lv_iadd hx hb dX8_isRight_38 ?_
      refine lv_istore_n (lv' := [(1, .int (jx1 + (v_t_votes (Int32.toNatClampNeg jx2)))), (0, .ref a_t), (2, .int jx2)]) hx hb dX8_isRight_39 rfl hl (by decide) rfl (fun ls hl => ?_)
      refine lv_iinc (v := (jx2 + (1 : Int32))) (lv' := [(2, .int (jx2 + (1 : Int32))), (1, .int (jx1 + (v_t_votes (Int32.toNatClampNeg jx2)))), (0, .ref a_t)]) hx hb dX8_isRight_40 hl (k := 2) rfl rfl (by decide) rfl (fun ls hl => ?_)
      refine lv_goto (tgt := 23) hx hb dX8_isRight_43 (by decide) ?_
      exact ih (jx1 + (v_t_votes (Int32.toNatClampNeg jx2))) (jx2 + (1 : Int32)) v_t_read v_t_write ls _ _ hf (lv_sub hl [2, 1, 0] rfl) hP hD hS
theorem hdX8_isRight : yX8_isRight.cls ≠ "java/lang/invoke/MethodHandle" ∧ yX8_isRight.cls ≠ "java/lang/invoke/VarHandle" ∧ (parseMethodDescriptor yX8_isRight.desc).map (fun d => d.parameters.length) = some 0 := by decide +kernel
set_option maxHeartbeats 4000000 in
set_option maxRecDepth 100000 in
theorem ctX8_isRight (l : Launch) (D : va_G) (cI cZ : ClassId) (a_t a_t_tokens a_t_votes : Nat) (v_t_copies : Int32) (v_t_read : Int32) (v_t_write : Int32) (v_t_items : Int32) (v_t_votes : (Nat → Int32)) (v_t_witnesses : Int32) (r : Int32) (o_t_read : Int32) (o_t_write : Int32) (hf : fX8_isRight v_t_copies v_t_read v_t_write v_t_items v_t_votes = some (r, o_t_read, o_t_write)) : cM l yX8_isRight wsX8_isRight rmX8_isRight [.ref a_t] D [(a_t, .inr (8, [.ref a_t_tokens, .ref a_t_votes, .int v_t_witnesses, .int v_t_copies, .int v_t_read, .int v_t_write, .int v_t_items])), (a_t_votes, .inl (cI, 6, .inl v_t_votes))] [(a_t, .inr (8, [.ref a_t_tokens, .ref a_t_votes, .int v_t_witnesses, .int v_t_copies, .int o_t_read, .int o_t_write, .int v_t_items])), (a_t_votes, .inl (cI, 6, .inl v_t_votes))] (KX D cI cZ) (some (.int r)) := by
  refine cM_of (cc := cX8_isRight) (maxL := 3) (ret := some .boolean) (by decide +kernel) rfl _ (Nat.le_of_ble_eq_true rfl) ?_
  intro p e s m below meth c ls A S hr hlk hP hK hl hD hA hS
  obtain ⟨hx, hb, hml, hown, hts⟩ := id S
  have hl : lv_has ls 3 [(0, .ref a_t)] := hl
  unfold fX8_isRight at hf
  refine lv_aload_n hx hb dX8_isRight_0 rfl (lv_at hl 0 rfl) ?_
  refine va_get (D := D) (ci := 8) (v := .int v_t_items) (C := RX8) (T := TX8) (N := 7) hx hb hts iX8_isRight_X8 hown hK.1 hP 0 rfl rfl 6 (by decide) (hts _ mX8_isRight_1) (fun _ h9 => h9) rfl dX8_isRight_1 ?_
  refine lv_if_ne (tgt := 19) hx hb dX8_isRight_4 (by decide) (fun jc1 => ?_) (fun jc1 => ?_)
  · have hf := ite_f jc1 hf
    refine lv_iconst (v := 0) hx hb dX8_isRight_19 (by decide) ?_
    refine lv_istore_n (lv' := [(1, .int (0 : Int32)), (0, .ref a_t)]) hx hb dX8_isRight_20 rfl hl (by decide) rfl (fun ls hl => ?_)
    refine lv_iconst (v := 0) hx hb dX8_isRight_21 (by decide) ?_
    refine lv_istore_n (lv' := [(2, .int (0 : Int32)), (1, .int (0 : Int32)), (0, .ref a_t)]) hx hb dX8_isRight_22 rfl hl (by decide) rfl (fun ls hl => ?_)
    exact wX8_isRight_23 S hr hlk hK hA fuel (0 : Int32) (0 : Int32) v_t_read v_t_write ls _ _ hf (lv_sub hl [2, 1, 0] rfl) hP hD hS
  · have hf := ite_t jc1 hf
    refine lv_aload_n hx hb dX8_isRight_7 rfl (lv_at hl 0 rfl) ?_
    refine lv_iconst (v := 1) hx hb dX8_isRight_8 (by decide) ?_
    refine va_put (D := D) (ci := 8) (v := .int (1 : Int32)) (ty := .int) (C := RX8) (T := TX8) (N := 7) hx hb hts iX8_isRight_X8 tyX8 tyX8_ok nmX8 hown hK.1 hP hD hS 0 rfl rfl 4 (by decide) (hts _ mX8_isRight_2) (fun _ h9 => h9) rfl (tyX8_ok 4 (by decide)) rfl rfl (Nat.le_of_ble_eq_true rfl) dX8_isRight_9 (fun H locs hP hD hS => ?_)
    have hP : va_P D vwCl [(a_t, .inr (8, [.ref a_t_tokens, .ref a_t_votes, .int v_t_witnesses, .int v_t_copies, .int (1 : Int32), .int v_t_write, .int v_t_items])), (a_t_votes, .inl (cI, 6, .inl v_t_votes))] H := hP
    have hD : va_D A [(a_t, .inr (8, [.ref a_t_tokens, .ref a_t_votes, .int v_t_witnesses, .int v_t_copies, .int (1 : Int32), .int v_t_write, .int v_t_items])), (a_t_votes, .inl (cI, 6, .inl v_t_votes))] := hD
    refine lv_aload_n hx hb dX8_isRight_12 rfl (lv_at hl 0 rfl) ?_
    refine lv_iconst (v := 1) hx hb dX8_isRight_13 (by decide) ?_
    refine va_put (D := D) (ci := 8) (v := .int (1 : Int32)) (ty := .int) (C := RX8) (T := TX8) (N := 7) hx hb hts iX8_isRight_X8 tyX8 tyX8_ok nmX8 hown hK.1 hP hD hS 0 rfl rfl 5 (by decide) (hts _ mX8_isRight_3) (fun _ h9 => h9) rfl (tyX8_ok 5 (by decide)) rfl rfl (Nat.le_of_ble_eq_true rfl) dX8_isRight_14 (fun H locs hP hD hS => ?_)
    have hP : va_P D vwCl [(a_t, .inr (8, [.ref a_t_tokens, .ref a_t_votes, .int v_t_witnesses, .int v_t_copies, .int (1 : Int32), .int (1 : Int32), .int v_t_items])), (a_t_votes, .inl (cI, 6, .inl v_t_votes))] H := hP
    have hD : va_D A [(a_t, .inr (8, [.ref a_t_tokens, .ref a_t_votes, .int v_t_witnesses, .int v_t_copies, .int (1 : Int32), .int (1 : Int32), .int v_t_items])), (a_t_votes, .inl (cI, 6, .inl v_t_votes))] := hD
    refine lv_iconst (v := 1) hx hb dX8_isRight_17 (by decide) ?_
    obtain ⟨rfl, rfl, rfl⟩ := pr3_inv hf
    exact retMz hx hb hr hlk (by decide) hP hD hS dX8_isRight_18
def fX9_rewind (v_t_behind : Int32) : Option (Int32) := some (0 : Int32)
abbrev rmX9_rewind : Room := { frames := 0, cells := 0, slots := 0, locals := 0 }
theorem iX9_rewind_X9 : ∀ w ∈ wsX90, w ∈ wsX9_rewind := fun _ h => List.mem_cons_of_mem _ (List.mem_append_right _ h)
theorem mX9_rewind_1 : (Cond.fieldLink RX9 19 "VoteFiles$Tokens" "behind" "I") ∈ wsX9_rewind := List.mem_of_getElem? (i := 1) rfl
theorem hdX9_rewind : yX9_rewind.cls ≠ "java/lang/invoke/MethodHandle" ∧ yX9_rewind.cls ≠ "java/lang/invoke/VarHandle" ∧ (parseMethodDescriptor yX9_rewind.desc).map (fun d => d.parameters.length) = some 0 := by decide +kernel
set_option maxHeartbeats 4000000 in
set_option maxRecDepth 100000 in
theorem ctX9_rewind (l : Launch) (D : va_G) (cI cZ : ClassId) (a_t a_t_text : Nat) (v_t_behind : Int32) (v_t_kind : Int32) (v_t_start : Int32) (v_t_number : Int32) (o_t_behind : Int32) (hf : fX9_rewind v_t_behind = some o_t_behind) : cM l yX9_rewind wsX9_rewind rmX9_rewind [.ref a_t] D [(a_t, .inr (9, [.ref a_t_text, .int v_t_kind, .int v_t_start, .int v_t_number, .int v_t_behind]))] [(a_t, .inr (9, [.ref a_t_text, .int v_t_kind, .int v_t_start, .int v_t_number, .int o_t_behind]))] (KX D cI cZ) none := by
  refine cM_of (cc := cX9_rewind) (maxL := 1) (ret := none) (by decide +kernel) rfl _ (Nat.le_of_ble_eq_true rfl) ?_
  intro p e s m below meth c ls A S hr hlk hP hK hl hD hA hS
  obtain ⟨hx, hb, hml, hown, hts⟩ := id S
  have hl : lv_has ls 1 [(0, .ref a_t)] := hl
  unfold fX9_rewind at hf
  refine lv_aload_n hx hb dX9_rewind_0 rfl (lv_at hl 0 rfl) ?_
  refine lv_iconst (v := 0) hx hb dX9_rewind_1 (by decide) ?_
  refine va_put (D := D) (ci := 9) (v := .int (0 : Int32)) (ty := .int) (C := RX9) (T := TX9) (N := 5) hx hb hts iX9_rewind_X9 tyX9 tyX9_ok nmX9 hown hK.1 hP hD hS 0 rfl rfl 4 (by decide) (hts _ mX9_rewind_1) (fun _ h9 => h9) rfl (tyX9_ok 4 (by decide)) rfl rfl (Nat.le_of_ble_eq_true rfl) dX9_rewind_2 (fun H locs hP hD hS => ?_)
  have hP : va_P D vwCl [(a_t, .inr (9, [.ref a_t_text, .int v_t_kind, .int v_t_start, .int v_t_number, .int (0 : Int32)]))] H := hP
  have hD : va_D A [(a_t, .inr (9, [.ref a_t_text, .int v_t_kind, .int v_t_start, .int v_t_number, .int (0 : Int32)]))] := hD
  obtain rfl := Option.some.inj hf
  exact retMv hx hb hr hlk hP hD hS dX9_rewind_5
def fX9_isDigit (jx0 : Int32) : Option (Int32) := bd1 (fX10_isWithin jx0 (48 : Int32) (57 : Int32)) (fun jr1 => zcI jr1 (some jr1))
abbrev rmX9_isDigit : Room := { frames := 1, cells := 0, slots := 0, locals := 22 }
theorem mX9_isDigit_2 : (Cond.initialized RX10) ∈ wsX9_isDigit := List.mem_of_getElem? (i := 2) rfl
theorem mX9_isDigit_1 : (Cond.static yX10_isWithin) ∈ wsX9_isDigit := List.mem_of_getElem? (i := 1) rfl
theorem hdX9_isDigit : yX9_isDigit.cls ≠ "java/lang/invoke/MethodHandle" ∧ yX9_isDigit.cls ≠ "java/lang/invoke/VarHandle" ∧ (parseMethodDescriptor yX9_isDigit.desc).map (fun d => d.parameters.length) = some 1 := by decide +kernel
set_option maxHeartbeats 4000000 in
set_option maxRecDepth 100000 in
theorem ctX9_isDigit (l : Launch) (D : va_G) (cI cZ : ClassId) (jx0 : Int32) (r : Int32) (hf : fX9_isDigit jx0 = some r) : cR l yX9_isDigit wsX9_isDigit rmX9_isDigit [.int jx0] D [] (KX D cI cZ) r := by
  refine cR_of (cc := cX9_isDigit) (maxL := 1) (ret := some .boolean) (by decide +kernel) rfl _ (Nat.le_of_ble_eq_true rfl) ?_
  intro p e s m below meth c ls S hr hlk hP hK hl
  obtain ⟨hx, hb, hml, hown, hts⟩ := id S
  have hl : lv_has ls 1 [(0, .int jx0)] := hl
  unfold fX9_isDigit at hf
  refine lv_iload_n hx hb dX9_isDigit_0 rfl (lv_at hl 0 rfl) ?_
  refine lv_bipush (v := 48) hx hb dX9_isDigit_1 (by decide) ?_
  refine lv_bipush (v := 57) hx hb dX9_isDigit_3 (by decide) ?_
  obtain ⟨jr1, je2, hf⟩ := bd1_inv hf
  refine callRSN (As := [.int jx0, .int (48 : Int32), .int (57 : Int32)]) (rest := []) S (ctX10_isWithin l D cI cZ jx0 (48 : Int32) (57 : Int32) jr1 je2) ⟨va_cnB 3 hts gX9_isDigit_X10_isWithin_n75 rfl rfl rfl (hK.2 (RX9, 75, yX10_isWithin, RX10) (by simp [nwQ])) (hts _ mX9_isDigit_2) hdX10_isWithin ⟨Nat.le_of_ble_eq_true rfl, Nat.le_of_ble_eq_true rfl⟩, hts _ mX9_isDigit_1, trivial⟩ hP [] rfl KX.xs (fun U _ hW => hK.warm hW) rfl hl.1 rfl (Nat.le_of_ble_eq_true rfl) dX9_isDigit_5 ⟨Nat.zero_le _, Nat.zero_le _⟩ ?_
  obtain ⟨jh3, hf⟩ := zcI_inv hf
  obtain rfl := Option.some.inj hf
  exact retRz hx hb hr hlk (nar_z jh3) dX9_isDigit_8
def fX9_takeNumber_114 (v_t_start : Int32) (v_t_text_length : Int32) (v_t_text_letters : (Nat → Int32)) (jy0 : Int32) (v_t_kind : Int32) (v_t_number : Int32) (v_t_behind : Int32) : Option (Int32 × Int32 × Int32) := if jy0 = 0 then if v_t_number ≤ (99 : Int32) then some ((5 : Int32), v_t_number, v_t_behind) else some ((7 : Int32), v_t_number, v_t_behind) else some ((7 : Int32), v_t_number, v_t_behind)
def fX9_takeNumber_80 (v_t_start : Int32) (v_t_text_length : Int32) (v_t_text_letters : (Nat → Int32)) (v_t_kind : Int32) (v_t_number : Int32) (v_t_behind : Int32) : Option (Int32 × Int32 × Int32) := if (v_t_behind - v_t_start) ≤ (1 : Int32) then fX9_takeNumber_114 v_t_start v_t_text_length v_t_text_letters (0 : Int32) v_t_kind v_t_number v_t_behind else bd1 (fX2_at v_t_start v_t_text_length v_t_text_letters) (fun jr2 => if jr2 = (48 : Int32) then fX9_takeNumber_114 v_t_start v_t_text_length v_t_text_letters (1 : Int32) v_t_kind v_t_number v_t_behind else fX9_takeNumber_114 v_t_start v_t_text_length v_t_text_letters (0 : Int32) v_t_kind v_t_number v_t_behind)
def fX9_takeNumber_5 (v_t_start : Int32) (v_t_text_length : Int32) (v_t_text_letters : (Nat → Int32)) : Nat → Int32 → Int32 → Int32 → Option (Int32 × Int32 × Int32)
  | 0, _, _, _ => none
  | n + 1, v_t_kind, v_t_number, v_t_behind => if v_t_text_length ≤ v_t_behind then fX9_takeNumber_80 v_t_start v_t_text_length v_t_text_letters v_t_kind v_t_number v_t_behind else bd1 (fX2_at v_t_behind v_t_text_length v_t_text_letters) (fun jr2 => bd1 (fX9_isDigit jr2) (fun jr4 => if jr4 = 0 then fX9_takeNumber_80 v_t_start v_t_text_length v_t_text_letters v_t_kind v_t_number v_t_behind else bd1 (fX2_at v_t_behind v_t_text_length v_t_text_letters) (fun jr7 => (fX9_takeNumber_5 v_t_start v_t_text_length v_t_text_letters n) v_t_kind (if ((((10 : Int32) * v_t_number) + jr7) - (48 : Int32)) < (100 : Int32) then ((((10 : Int32) * v_t_number) + jr7) - (48 : Int32)) else (100 : Int32)) (v_t_behind + (1 : Int32)))))
theorem fX9_takeNumber_5_s (v_t_start : Int32) (v_t_text_length : Int32) (v_t_text_letters : (Nat → Int32)) (n : Nat) (v_t_kind : Int32) (v_t_number : Int32) (v_t_behind : Int32) : fX9_takeNumber_5 v_t_start v_t_text_length v_t_text_letters (n + 1) v_t_kind v_t_number v_t_behind = if v_t_text_length ≤ v_t_behind then fX9_takeNumber_80 v_t_start v_t_text_length v_t_text_letters v_t_kind v_t_number v_t_behind else bd1 (fX2_at v_t_behind v_t_text_length v_t_text_letters) (fun jr2 => bd1 (fX9_isDigit jr2) (fun jr4 => if jr4 = 0 then fX9_takeNumber_80 v_t_start v_t_text_length v_t_text_letters v_t_kind v_t_number v_t_behind else bd1 (fX2_at v_t_behind v_t_text_length v_t_text_letters) (fun jr7 => (fX9_takeNumber_5 v_t_start v_t_text_length v_t_text_letters n) v_t_kind (if ((((10 : Int32) * v_t_number) + jr7) - (48 : Int32)) < (100 : Int32) then ((((10 : Int32) * v_t_number) + jr7) - (48 : Int32)) else (100 : Int32)) (v_t_behind + (1 : Int32))))) := rfl
def fX9_takeNumber (v_t_kind : Int32) (v_t_start : Int32) (v_t_number : Int32) (v_t_behind : Int32) (v_t_text_length : Int32) (v_t_text_letters : (Nat → Int32)) : Option (Int32 × Int32 × Int32) := fX9_takeNumber_5 v_t_start v_t_text_length v_t_text_letters fuel v_t_kind (0 : Int32) v_t_behind
abbrev rmX9_takeNumber : Room := { frames := 2, cells := 0, slots := 0, locals := 43 }
theorem iX9_takeNumber_X9 : ∀ w ∈ wsX90, w ∈ wsX9_takeNumber := fun _ h => List.mem_cons_of_mem _ (List.mem_append_left _ (List.mem_append_right _ h))
theorem mX9_takeNumber_10 : (Cond.fieldLink RX9 9 "VoteFiles$Tokens" "kind" "I") ∈ wsX9_takeNumber := List.mem_of_getElem? (i := 10) rfl
theorem mX9_takeNumber_1 : (Cond.fieldLink RX9 16 "VoteFiles$Tokens" "number" "I") ∈ wsX9_takeNumber := List.mem_of_getElem? (i := 1) rfl
theorem mX9_takeNumber_2 : (Cond.fieldLink RX9 19 "VoteFiles$Tokens" "behind" "I") ∈ wsX9_takeNumber := List.mem_of_getElem? (i := 2) rfl
theorem mX9_takeNumber_9 : (Cond.fieldLink RX9 13 "VoteFiles$Tokens" "start" "I") ∈ wsX9_takeNumber := List.mem_of_getElem? (i := 9) rfl
theorem mX9_takeNumber_3 : (Cond.fieldLink RX9 22 "VoteFiles$Tokens" "text" "LVoteFiles$Letters;") ∈ wsX9_takeNumber := List.mem_of_getElem? (i := 3) rfl
theorem iX9_takeNumber_X2 : ∀ w ∈ wsX20, w ∈ wsX9_takeNumber := fun _ h => List.mem_cons_of_mem _ (List.mem_append_right _ h)
theorem mX9_takeNumber_4 : (Cond.fieldLink RX9 26 "VoteFiles$Letters" "length" "I") ∈ wsX9_takeNumber := List.mem_of_getElem? (i := 4) rfl
theorem mX9_takeNumber_5 : (Cond.methodLink RX9 69 Lib.Math.min.name) ∈ wsX9_takeNumber := List.mem_of_getElem? (i := 5) rfl
theorem mX9_takeNumber_6 : (Cond.static Lib.Math.min.name) ∈ wsX9_takeNumber := List.mem_of_getElem? (i := 6) rfl
theorem mX9_takeNumber_7 : (Cond.initialized "java/lang/Math") ∈ wsX9_takeNumber := List.mem_of_getElem? (i := 7) rfl
theorem mX9_takeNumber_8 : (Cond.code Lib.Math.min.name Lib.Math.min.code 2 (some .int)) ∈ wsX9_takeNumber := List.mem_of_getElem? (i := 8) rfl
set_option maxHeartbeats 4000000 in
set_option maxRecDepth 100000 in
theorem wX9_takeNumber_114 {p : Program} {l : Launch} {e : Env} {s : State} {m : MethodId} {args : Array Value} {below : List Frame} {meth : Method} {c : Code} {D : va_G} {cI cZ : ClassId} (S : CallFix p m c cX9_takeNumber 2 s args wsX9_takeNumber RX9) (hr : meth.sig.returnType = none) (hlk : meth.locks = false) (hK : KX D cI cZ s) {a_t a_t_text a_t_text_letters : Nat} {v_t_start : Int32} {v_t_text_length : Int32} {v_t_text_letters : (Nat → Int32)} {o_t_kind : Int32} {o_t_number : Int32} {o_t_behind : Int32} {A : Nat → Prop} (hA : ∀ q : Nat, s.heap.size ≤ q → A q) : ∀ (jy0 : Int32) (v_t_kind : Int32) (v_t_number : Int32) (v_t_behind : Int32) (ls : Array Slot) (H : Heap) (locs : List Loc), fX9_takeNumber_114 v_t_start v_t_text_length v_t_text_letters jy0 v_t_kind v_t_number v_t_behind = some (o_t_kind, o_t_number, o_t_behind) → lv_has ls 2 [(0, .ref a_t)] → va_P D vwCl [(a_t, .inr (9, [.ref a_t_text, .int v_t_kind, .int v_t_start, .int v_t_number, .int v_t_behind])), (a_t_text, .inr (2, [.ref a_t_text_letters, .int v_t_text_length])), (a_t_text_letters, .inl (cI, 120, .inl v_t_text_letters))] H → va_D A [(a_t, .inr (9, [.ref a_t_text, .int v_t_kind, .int v_t_start, .int v_t_number, .int v_t_behind])), (a_t_text, .inr (2, [.ref a_t_text_letters, .int v_t_text_length])), (a_t_text_letters, .inl (cI, 120, .inl v_t_text_letters))] → va_S A s.heap H locs → W p l e rmX9_takeNumber s m args below meth c H locs 0 0 (MQ below (qM D none [(a_t, .inr (9, [.ref a_t_text, .int o_t_kind, .int v_t_start, .int o_t_number, .int o_t_behind])), (a_t_text, .inr (2, [.ref a_t_text_letters, .int v_t_text_length])), (a_t_text_letters, .inl (cI, 120, .inl v_t_text_letters))] A) args s 0 0 A) (F0 m 114 ls [.int jy0]) := by
  obtain ⟨hx, hb, hml, hown, hts⟩ := id S
  intro jy0 v_t_kind v_t_number v_t_behind ls H locs hf hl hP hD hS
  unfold fX9_takeNumber_114 at hf
  refine lv_istore_n (lv' := [(1, .int jy0), (0, .ref a_t)]) hx hb dX9_takeNumber_114 rfl hl (by decide) rfl (fun ls hl => ?_)
  refine lv_aload_n hx hb dX9_takeNumber_115 rfl (lv_at hl 1 rfl) ?_
  refine lv_iload_n hx hb dX9_takeNumber_116 rfl (lv_at hl 0 rfl) ?_
  refine lv_if_ne (tgt := 129) hx hb dX9_takeNumber_117 (by decide) (fun jc1 => ?_) (fun jc1 => ?_)
  · have hf := ite_f jc1 hf
    refine lv_bipush (v := 7) hx hb dX9_takeNumber_129 (by decide) ?_
    refine lv_goto (tgt := 135) hx hb dX9_takeNumber_131 (by decide) ?_
    refine va_put (D := D) (ci := 9) (v := .int (7 : Int32)) (ty := .int) (C := RX9) (T := TX9) (N := 5) hx hb hts iX9_takeNumber_X9 tyX9 tyX9_ok nmX9 hown hK.1 hP hD hS 0 rfl rfl 1 (by decide) (hts _ mX9_takeNumber_10) (fun _ h9 => h9) rfl (tyX9_ok 1 (by decide)) rfl rfl (Nat.le_of_ble_eq_true rfl) dX9_takeNumber_135 (fun H locs hP hD hS => ?_)
    have hP : va_P D vwCl [(a_t, .inr (9, [.ref a_t_text, .int (7 : Int32), .int v_t_start, .int v_t_number, .int v_t_behind])), (a_t_text, .inr (2, [.ref a_t_text_letters, .int v_t_text_length])), (a_t_text_letters, .inl (cI, 120, .inl v_t_text_letters))] H := hP
    have hD : va_D A [(a_t, .inr (9, [.ref a_t_text, .int (7 : Int32), .int v_t_start, .int v_t_number, .int v_t_behind])), (a_t_text, .inr (2, [.ref a_t_text_letters, .int v_t_text_length])), (a_t_text_letters, .inl (cI, 120, .inl v_t_text_letters))] := hD
    obtain ⟨rfl, rfl, rfl⟩ := pr3_inv hf
    exact retMv hx hb hr hlk hP hD hS dX9_takeNumber_138
  · have hf := ite_t jc1 hf
    refine lv_aload_n hx hb dX9_takeNumber_120 rfl (lv_at hl 1 rfl) ?_
    refine va_get (D := D) (ci := 9) (v := .int v_t_number) (C := RX9) (T := TX9) (N := 5) hx hb hts iX9_takeNumber_X9 hown hK.1 hP 0 rfl rfl 3 (by decide) (hts _ mX9_takeNumber_1) (fun _ h9 => h9) rfl dX9_takeNumber_121 ?_
    refine lv_bipush (v := 99) hx hb dX9_takeNumber_124 (by decide) ?_
    refine lv_icmp_le (tgt := 134) hx hb dX9_takeNumber_126 (by decide) (fun jc2 => ?_) (fun jc2 => ?_)
    · have hf := ite_t jc2 hf
      refine lv_iconst (v := 5) hx hb dX9_takeNumber_134 (by decide) ?_
      refine va_put (D := D) (ci := 9) (v := .int (5 : Int32)) (ty := .int) (C := RX9) (T := TX9) (N := 5) hx hb hts iX9_takeNumber_X9 tyX9 tyX9_ok nmX9 hown hK.1 hP hD hS 0 rfl rfl 1 (by decide) (hts _ mX9_takeNumber_10) (fun _ h9 => h9) rfl (tyX9_ok 1 (by decide)) rfl rfl (Nat.le_of_ble_eq_true rfl) dX9_takeNumber_135 (fun H locs hP hD hS => ?_)
      have hP : va_P D vwCl [(a_t, .inr (9, [.ref a_t_text, .int (5 : Int32), .int v_t_start, .int v_t_number, .int v_t_behind])), (a_t_text, .inr (2, [.ref a_t_text_letters, .int v_t_text_length])), (a_t_text_letters, .inl (cI, 120, .inl v_t_text_letters))] H := hP
      have hD : va_D A [(a_t, .inr (9, [.ref a_t_text, .int (5 : Int32), .int v_t_start, .int v_t_number, .int v_t_behind])), (a_t_text, .inr (2, [.ref a_t_text_letters, .int v_t_text_length])), (a_t_text_letters, .inl (cI, 120, .inl v_t_text_letters))] := hD
      obtain ⟨rfl, rfl, rfl⟩ := pr3_inv hf
      exact retMv hx hb hr hlk hP hD hS dX9_takeNumber_138
    · have hf := ite_f jc2 hf
      refine lv_bipush (v := 7) hx hb dX9_takeNumber_129 (by decide) ?_
      refine lv_goto (tgt := 135) hx hb dX9_takeNumber_131 (by decide) ?_
      refine va_put (D := D) (ci := 9) (v := .int (7 : Int32)) (ty := .int) (C := RX9) (T := TX9) (N := 5) hx hb hts iX9_takeNumber_X9 tyX9 tyX9_ok nmX9 hown hK.1 hP hD hS 0 rfl rfl 1 (by decide) (hts _ mX9_takeNumber_10) (fun _ h9 => h9) rfl (tyX9_ok 1 (by decide)) rfl rfl (Nat.le_of_ble_eq_true rfl) dX9_takeNumber_135 (fun H locs hP hD hS => ?_)
      have hP : va_P D vwCl [(a_t, .inr (9, [.ref a_t_text, .int (7 : Int32), .int v_t_start, .int v_t_number, .int v_t_behind])), (a_t_text, .inr (2, [.ref a_t_text_letters, .int v_t_text_length])), (a_t_text_letters, .inl (cI, 120, .inl v_t_text_letters))] H := hP
      have hD : va_D A [(a_t, .inr (9, [.ref a_t_text, .int (7 : Int32), .int v_t_start, .int v_t_number, .int v_t_behind])), (a_t_text, .inr (2, [.ref a_t_text_letters, .int v_t_text_length])), (a_t_text_letters, .inl (cI, 120, .inl v_t_text_letters))] := hD
      obtain ⟨rfl, rfl, rfl⟩ := pr3_inv hf
      exact retMv hx hb hr hlk hP hD hS dX9_takeNumber_138
set_option maxHeartbeats 4000000 in
set_option maxRecDepth 100000 in
theorem wX9_takeNumber_80 {p : Program} {l : Launch} {e : Env} {s : State} {m : MethodId} {args : Array Value} {below : List Frame} {meth : Method} {c : Code} {D : va_G} {cI cZ : ClassId} (S : CallFix p m c cX9_takeNumber 2 s args wsX9_takeNumber RX9) (hr : meth.sig.returnType = none) (hlk : meth.locks = false) (hK : KX D cI cZ s) {a_t a_t_text a_t_text_letters : Nat} {v_t_start : Int32} {v_t_text_length : Int32} {v_t_text_letters : (Nat → Int32)} {o_t_kind : Int32} {o_t_number : Int32} {o_t_behind : Int32} {A : Nat → Prop} (hA : ∀ q : Nat, s.heap.size ≤ q → A q) : ∀ (v_t_kind : Int32) (v_t_number : Int32) (v_t_behind : Int32) (ls : Array Slot) (H : Heap) (locs : List Loc), fX9_takeNumber_80 v_t_start v_t_text_length v_t_text_letters v_t_kind v_t_number v_t_behind = some (o_t_kind, o_t_number, o_t_behind) → lv_has ls 2 [(0, .ref a_t)] → va_P D vwCl [(a_t, .inr (9, [.ref a_t_text, .int v_t_kind, .int v_t_start, .int v_t_number, .int v_t_behind])), (a_t_text, .inr (2, [.ref a_t_text_letters, .int v_t_text_length])), (a_t_text_letters, .inl (cI, 120, .inl v_t_text_letters))] H → va_D A [(a_t, .inr (9, [.ref a_t_text, .int v_t_kind, .int v_t_start, .int v_t_number, .int v_t_behind])), (a_t_text, .inr (2, [.ref a_t_text_letters, .int v_t_text_length])), (a_t_text_letters, .inl (cI, 120, .inl v_t_text_letters))] → va_S A s.heap H locs → W p l e rmX9_takeNumber s m args below meth c H locs 0 0 (MQ below (qM D none [(a_t, .inr (9, [.ref a_t_text, .int o_t_kind, .int v_t_start, .int o_t_number, .int o_t_behind])), (a_t_text, .inr (2, [.ref a_t_text_letters, .int v_t_text_length])), (a_t_text_letters, .inl (cI, 120, .inl v_t_text_letters))] A) args s 0 0 A) (F0 m 80 ls []) := by
  obtain ⟨hx, hb, hml, hown, hts⟩ := id S
  intro v_t_kind v_t_number v_t_behind ls H locs hf hl hP hD hS
  unfold fX9_takeNumber_80 at hf
  refine lv_aload_n hx hb dX9_takeNumber_80 rfl (lv_at hl 0 rfl) ?_
  refine va_get (D := D) (ci := 9) (v := .int v_t_behind) (C := RX9) (T := TX9) (N := 5) hx hb hts iX9_takeNumber_X9 hown hK.1 hP 0 rfl rfl 4 (by decide) (hts _ mX9_takeNumber_2) (fun _ h9 => h9) rfl dX9_takeNumber_81 ?_
  refine lv_aload_n hx hb dX9_takeNumber_84 rfl (lv_at hl 0 rfl) ?_
  refine va_get (D := D) (ci := 9) (v := .int v_t_start) (C := RX9) (T := TX9) (N := 5) hx hb hts iX9_takeNumber_X9 hown hK.1 hP 0 rfl rfl 2 (by decide) (hts _ mX9_takeNumber_9) (fun _ h9 => h9) rfl dX9_takeNumber_85 ?_
  refine lv_isub hx hb dX9_takeNumber_88 ?_
  refine lv_iconst (v := 1) hx hb dX9_takeNumber_89 (by decide) ?_
  refine lv_icmp_le (tgt := 113) hx hb dX9_takeNumber_90 (by decide) (fun jc1 => ?_) (fun jc1 => ?_)
  · have hf := ite_t jc1 hf
    refine lv_iconst (v := 0) hx hb dX9_takeNumber_113 (by decide) ?_
    exact wX9_takeNumber_114 S hr hlk hK hA (0 : Int32) v_t_kind v_t_number v_t_behind ls _ _ hf (lv_sub hl [0] rfl) hP hD hS
  · have hf := ite_f jc1 hf
    refine lv_aload_n hx hb dX9_takeNumber_93 rfl (lv_at hl 0 rfl) ?_
    refine va_get (D := D) (ci := 9) (v := .ref a_t_text) (C := RX9) (T := TX9) (N := 5) hx hb hts iX9_takeNumber_X9 hown hK.1 hP 0 rfl rfl 0 (by decide) (hts _ mX9_takeNumber_3) (fun _ h9 => h9) rfl dX9_takeNumber_94 ?_
    refine lv_aload_n hx hb dX9_takeNumber_97 rfl (lv_at hl 0 rfl) ?_
    refine va_get (D := D) (ci := 9) (v := .int v_t_start) (C := RX9) (T := TX9) (N := 5) hx hb hts iX9_takeNumber_X9 hown hK.1 hP 0 rfl rfl 2 (by decide) (hts _ mX9_takeNumber_9) (fun _ h9 => h9) rfl dX9_takeNumber_98 ?_
    obtain ⟨jr2, je3, hf⟩ := bd1_inv hf
    refine callRV (As := [.int v_t_start]) (rest := []) S (ctX2_at l D cI cZ a_t_text a_t_text_letters v_t_start v_t_text_length v_t_text_letters jr2 je3) (cwV 1 hts gX9_takeNumber_X2_at rfl rfl rfl ⟨rfl, hdX2_at⟩ ⟨Nat.le_of_ble_eq_true rfl, Nat.le_of_ble_eq_true rfl⟩) hP [1, 2] rfl KX.xs (fun U _ hW => hK.warm hW) (va_recv hK.1 hP (ci := 2) (q0 := 1) rfl rfl) rfl hl.1 rfl (Nat.le_of_ble_eq_true rfl) dX9_takeNumber_101 ⟨Nat.zero_le _, Nat.zero_le _⟩ ?_
    refine lv_bipush (v := 48) hx hb dX9_takeNumber_104 (by decide) ?_
    refine lv_icmp_ne (tgt := 113) hx hb dX9_takeNumber_106 (by decide) (fun jc4 => ?_) (fun jc4 => ?_)
    · have hf := ite_f jc4 hf
      refine lv_iconst (v := 0) hx hb dX9_takeNumber_113 (by decide) ?_
      exact wX9_takeNumber_114 S hr hlk hK hA (0 : Int32) v_t_kind v_t_number v_t_behind ls _ _ hf (lv_sub hl [0] rfl) hP hD hS
    · have hf := ite_t jc4 hf
      refine lv_iconst (v := 1) hx hb dX9_takeNumber_109 (by decide) ?_
      refine lv_goto (tgt := 114) hx hb dX9_takeNumber_110 (by decide) ?_
      exact wX9_takeNumber_114 S hr hlk hK hA (1 : Int32) v_t_kind v_t_number v_t_behind ls _ _ hf (lv_sub hl [0] rfl) hP hD hS
set_option maxHeartbeats 4000000 in
set_option maxRecDepth 100000 in
theorem wX9_takeNumber_5 {p : Program} {l : Launch} {e : Env} {s : State} {m : MethodId} {args : Array Value} {below : List Frame} {meth : Method} {c : Code} {D : va_G} {cI cZ : ClassId} (S : CallFix p m c cX9_takeNumber 2 s args wsX9_takeNumber RX9) (hr : meth.sig.returnType = none) (hlk : meth.locks = false) (hK : KX D cI cZ s) {a_t a_t_text a_t_text_letters : Nat} {v_t_start : Int32} {v_t_text_length : Int32} {v_t_text_letters : (Nat → Int32)} {o_t_kind : Int32} {o_t_number : Int32} {o_t_behind : Int32} {A : Nat → Prop} (hA : ∀ q : Nat, s.heap.size ≤ q → A q) : ∀ (n : Nat), ∀ (v_t_kind : Int32) (v_t_number : Int32) (v_t_behind : Int32) (ls : Array Slot) (H : Heap) (locs : List Loc), fX9_takeNumber_5 v_t_start v_t_text_length v_t_text_letters n v_t_kind v_t_number v_t_behind = some (o_t_kind, o_t_number, o_t_behind) → lv_has ls 2 [(0, .ref a_t)] → va_P D vwCl [(a_t, .inr (9, [.ref a_t_text, .int v_t_kind, .int v_t_start, .int v_t_number, .int v_t_behind])), (a_t_text, .inr (2, [.ref a_t_text_letters, .int v_t_text_length])), (a_t_text_letters, .inl (cI, 120, .inl v_t_text_letters))] H → va_D A [(a_t, .inr (9, [.ref a_t_text, .int v_t_kind, .int v_t_start, .int v_t_number, .int v_t_behind])), (a_t_text, .inr (2, [.ref a_t_text_letters, .int v_t_text_length])), (a_t_text_letters, .inl (cI, 120, .inl v_t_text_letters))] → va_S A s.heap H locs → W p l e rmX9_takeNumber s m args below meth c H locs 0 0 (MQ below (qM D none [(a_t, .inr (9, [.ref a_t_text, .int o_t_kind, .int v_t_start, .int o_t_number, .int o_t_behind])), (a_t_text, .inr (2, [.ref a_t_text_letters, .int v_t_text_length])), (a_t_text_letters, .inl (cI, 120, .inl v_t_text_letters))] A) args s 0 0 A) (F0 m 5 ls []) := by
  obtain ⟨hx, hb, hml, hown, hts⟩ := id S
  intro n
  induction n with
  | zero =>
    intro v_t_kind v_t_number v_t_behind ls H locs hf hl hP hD hS
    cases (show (none : Option _) = some _ from hf)
  | succ n ih =>
    intro v_t_kind v_t_number v_t_behind ls H locs hf hl hP hD hS
    have hf := (fX9_takeNumber_5_s _ _ _ n _ _ _).symm.trans hf
    refine lv_aload_n hx hb dX9_takeNumber_5 rfl (lv_at hl 0 rfl) ?_
    refine va_get (D := D) (ci := 9) (v := .int v_t_behind) (C := RX9) (T := TX9) (N := 5) hx hb hts iX9_takeNumber_X9 hown hK.1 hP 0 rfl rfl 4 (by decide) (hts _ mX9_takeNumber_2) (fun _ h9 => h9) rfl dX9_takeNumber_6 ?_
    refine lv_aload_n hx hb dX9_takeNumber_9 rfl (lv_at hl 0 rfl) ?_
    refine va_get (D := D) (ci := 9) (v := .ref a_t_text) (C := RX9) (T := TX9) (N := 5) hx hb hts iX9_takeNumber_X9 hown hK.1 hP 0 rfl rfl 0 (by decide) (hts _ mX9_takeNumber_3) (fun _ h9 => h9) rfl dX9_takeNumber_10 ?_
    refine va_get (D := D) (ci := 2) (v := .int v_t_text_length) (C := RX2) (T := TX2) (N := 2) hx hb hts iX9_takeNumber_X2 hown hK.1 hP 1 rfl rfl 1 (by decide) (hts _ mX9_takeNumber_4) (fun _ h9 => h9) rfl dX9_takeNumber_13 ?_
    refine lv_icmp_ge (tgt := 80) hx hb dX9_takeNumber_16 (by decide) (fun jc1 => ?_) (fun jc1 => ?_)
    · have hf := ite_t jc1 hf
      exact wX9_takeNumber_80 S hr hlk hK hA v_t_kind v_t_number v_t_behind ls _ _ hf (lv_sub hl [0] rfl) hP hD hS
    · have hf := ite_f jc1 hf
      refine lv_aload_n hx hb dX9_takeNumber_19 rfl (lv_at hl 0 rfl) ?_
      refine va_get (D := D) (ci := 9) (v := .ref a_t_text) (C := RX9) (T := TX9) (N := 5) hx hb hts iX9_takeNumber_X9 hown hK.1 hP 0 rfl rfl 0 (by decide) (hts _ mX9_takeNumber_3) (fun _ h9 => h9) rfl dX9_takeNumber_20 ?_
      refine lv_aload_n hx hb dX9_takeNumber_23 rfl (lv_at hl 0 rfl) ?_
      refine va_get (D := D) (ci := 9) (v := .int v_t_behind) (C := RX9) (T := TX9) (N := 5) hx hb hts iX9_takeNumber_X9 hown hK.1 hP 0 rfl rfl 4 (by decide) (hts _ mX9_takeNumber_2) (fun _ h9 => h9) rfl dX9_takeNumber_24 ?_
      obtain ⟨jr2, je3, hf⟩ := bd1_inv hf
      refine callRV (As := [.int v_t_behind]) (rest := []) S (ctX2_at l D cI cZ a_t_text a_t_text_letters v_t_behind v_t_text_length v_t_text_letters jr2 je3) (cwV 1 hts gX9_takeNumber_X2_at rfl rfl rfl ⟨rfl, hdX2_at⟩ ⟨Nat.le_of_ble_eq_true rfl, Nat.le_of_ble_eq_true rfl⟩) hP [1, 2] rfl KX.xs (fun U _ hW => hK.warm hW) (va_recv hK.1 hP (ci := 2) (q0 := 1) rfl rfl) rfl hl.1 rfl (Nat.le_of_ble_eq_true rfl) dX9_takeNumber_27 ⟨Nat.zero_le _, Nat.zero_le _⟩ ?_
      obtain ⟨jr4, je5, hf⟩ := bd1_inv hf
      refine callRS (As := [.int jr2]) (rest := []) S (ctX9_isDigit l D cI cZ jr2 jr4 je5) (va_cwS 1 hts gX9_takeNumber_X9_isDigit rfl rfl rfl hdX9_isDigit ⟨Nat.le_of_ble_eq_true rfl, Nat.le_of_ble_eq_true rfl⟩) hP [] rfl KX.xs (fun U _ hW => hK.warm hW) rfl hl.1 rfl (Nat.le_of_ble_eq_true rfl) dX9_takeNumber_30 ⟨Nat.zero_le _, Nat.zero_le _⟩ ?_
      refine lv_if_eq (tgt := 80) hx hb dX9_takeNumber_33 (by decide) (fun jc6 => ?_) (fun jc6 => ?_)
      · have hf := ite_t jc6 hf
        exact wX9_takeNumber_80 S hr hlk hK hA v_t_kind v_t_number v_t_behind ls _ _ hf (lv_sub hl [0] rfl) hP hD hS
      · have hf := ite_f jc6 hf
        refine lv_aload_n hx hb dX9_takeNumber_36 rfl (lv_at hl 0 rfl) ?_
        refine lv_bipush (v := 100) hx hb dX9_takeNumber_37 (by decide) ?_
        refine lv_bipush (v := 10) hx hb dX9_takeNumber_39 (by decide) ?_
        refine lv_aload_n hx hb dX9_takeNumber_41 rfl (lv_at hl 0 rfl) ?_
        refine va_get (D := D) (ci := 9) (v := .int v_t_number) (C := RX9) (T := TX9) (N := 5) hx hb hts iX9_takeNumber_X9 hown hK.1 hP 0 rfl rfl 3 (by decide) (hts _ mX9_takeNumber_1) (fun _ h9 => h9) rfl dX9_takeNumber_42 ?_
        refine lv_imul hx hb dX9_takeNumber_45 ?_
        refine lv_aload_n hx hb dX9_takeNumber_46 rfl (lv_at hl 0 rfl) ?_
        refine va_get (D := D) (ci := 9) (v := .ref a_t_text) (C := RX9) (T := TX9) (N := 5) hx hb hts iX9_takeNumber_X9 hown hK.1 hP 0 rfl rfl 0 (by decide) (hts _ mX9_takeNumber_3) (fun _ h9 => h9) rfl dX9_takeNumber_47 ?_
        refine lv_aload_n hx hb dX9_takeNumber_50 rfl (lv_at hl 0 rfl) ?_
        refine va_get (D := D) (ci := 9) (v := .int v_t_behind) (C := RX9) (T := TX9) (N := 5) hx hb hts iX9_takeNumber_X9 hown hK.1 hP 0 rfl rfl 4 (by decide) (hts _ mX9_takeNumber_2) (fun _ h9 => h9) rfl dX9_takeNumber_51 ?_
        obtain ⟨jr7, je8, hf⟩ := bd1_inv hf
        refine callRV (As := [.int v_t_behind]) (rest := [.int ((10 : Int32) * v_t_number), .int (100 : Int32), .ref a_t]) S (ctX2_at l D cI cZ a_t_text a_t_text_letters v_t_behind v_t_text_length v_t_text_letters jr7 je8) (cwV 1 hts gX9_takeNumber_X2_at rfl rfl rfl ⟨rfl, hdX2_at⟩ ⟨Nat.le_of_ble_eq_true rfl, Nat.le_of_ble_eq_true rfl⟩) hP [1, 2] rfl KX.xs (fun U _ hW => hK.warm hW) (va_recv hK.1 hP (ci := 2) (q0 := 1) rfl rfl) rfl hl.1 rfl (Nat.le_of_ble_eq_true rfl) dX9_takeNumber_54 ⟨Nat.zero_le _, Nat.zero_le _⟩ ?_
        refine lv_iadd hx hb dX9_takeNumber_57 ?_
        refine lv_bipush (v := 48) hx hb dX9_takeNumber_58 (by decide) ?_
        refine lv_isub hx hb dX9_takeNumber_60 ?_
        refine va_mmin hx hb (hml.trans hl.1.symm) hown (hts _ mX9_takeNumber_5) (hts _ mX9_takeNumber_6) (hts _ mX9_takeNumber_7) (hts _ mX9_takeNumber_8) (Nat.le_of_ble_eq_true rfl) (Nat.le_of_ble_eq_true rfl) (Nat.zero_le _) (Nat.zero_le _) dX9_takeNumber_61 ?_
        refine va_put (D := D) (ci := 9) (v := .int (if ((((10 : Int32) * v_t_number) + jr7) - (48 : Int32)) < (100 : Int32) then ((((10 : Int32) * v_t_number) + jr7) - (48 : Int32)) else (100 : Int32))) (ty := .int) (C := RX9) (T := TX9) (N := 5) hx hb hts iX9_takeNumber_X9 tyX9 tyX9_ok nmX9 hown hK.1 hP hD hS 0 rfl rfl 3 (by decide) (hts _ mX9_takeNumber_1) (fun _ h9 => h9) rfl (tyX9_ok 3 (by decide)) rfl rfl (Nat.le_of_ble_eq_true rfl) dX9_takeNumber_64 (fun H locs hP hD hS => ?_)
        have hP : va_P D vwCl [(a_t, .inr (9, [.ref a_t_text, .int v_t_kind, .int v_t_start, .int (if ((((10 : Int32) * v_t_number) + jr7) - (48 : Int32)) < (100 : Int32) then ((((10 : Int32) * v_t_number) + jr7) - (48 : Int32)) else (100 : Int32)), .int v_t_behind])), (a_t_text, .inr (2, [.ref a_t_text_letters, .int v_t_text_length])), (a_t_text_letters, .inl (cI, 120, .inl v_t_text_letters))] H := hP
        have hD : va_D A [(a_t, .inr (9, [.ref a_t_text, .int v_t_kind, .int v_t_start, .int (if ((((10 : Int32) * v_t_number) + jr7) - (48 : Int32)) < (100 : Int32) then ((((10 : Int32) * v_t_number) + jr7) - (48 : Int32)) else (100 : Int32)), .int v_t_behind])), (a_t_text, .inr (2, [.ref a_t_text_letters, .int v_t_text_length])), (a_t_text_letters, .inl (cI, 120, .inl v_t_text_letters))] := hD
        refine lv_aload_n hx hb dX9_takeNumber_67 rfl (lv_at hl 0 rfl) ?_
        refine lv_dup hx hb dX9_takeNumber_68 rfl ?_
        refine va_get (D := D) (ci := 9) (v := .int v_t_behind) (C := RX9) (T := TX9) (N := 5) hx hb hts iX9_takeNumber_X9 hown hK.1 hP 0 rfl rfl 4 (by decide) (hts _ mX9_takeNumber_2) (fun _ h9 => h9) rfl dX9_takeNumber_69 ?_
        refine lv_iconst (v := 1) hx hb dX9_takeNumber_72 (by decide) ?_
        refine lv_iadd hx hb dX9_takeNumber_73 ?_
        refine va_put (D := D) (ci := 9) (v := .int (v_t_behind + (1 : Int32))) (ty := .int) (C := RX9) (T := TX9) (N := 5) hx hb hts iX9_takeNumber_X9 tyX9 tyX9_ok nmX9 hown hK.1 hP hD hS 0 rfl rfl 4 (by decide) (hts _ mX9_takeNumber_2) (fun _ h9 => h9) rfl (tyX9_ok 4 (by decide)) rfl rfl (Nat.le_of_ble_eq_true rfl) dX9_takeNumber_74 (fun H locs hP hD hS => ?_)
        have hP : va_P D vwCl [(a_t, .inr (9, [.ref a_t_text, .int v_t_kind, .int v_t_start, .int (if ((((10 : Int32) * v_t_number) + jr7) - (48 : Int32)) < (100 : Int32) then ((((10 : Int32) * v_t_number) + jr7) - (48 : Int32)) else (100 : Int32)), .int (v_t_behind + (1 : Int32))])), (a_t_text, .inr (2, [.ref a_t_text_letters, .int v_t_text_length])), (a_t_text_letters, .inl (cI, 120, .inl v_t_text_letters))] H := hP
        have hD : va_D A [(a_t, .inr (9, [.ref a_t_text, .int v_t_kind, .int v_t_start, .int (if ((((10 : Int32) * v_t_number) + jr7) - (48 : Int32)) < (100 : Int32) then ((((10 : Int32) * v_t_number) + jr7) - (48 : Int32)) else (100 : Int32)), .int (v_t_behind + (1 : Int32))])), (a_t_text, .inr (2, [.ref a_t_text_letters, .int v_t_text_length])), (a_t_text_letters, .inl (cI, 120, .inl v_t_text_letters))] := hD
        refine lv_goto (tgt := 5) hx hb dX9_takeNumber_77 (by decide) ?_
        exact ih v_t_kind (if ((((10 : Int32) * v_t_number) + jr7) - (48 : Int32)) < (100 : Int32) then ((((10 : Int32) * v_t_number) + jr7) - (48 : Int32)) else (100 : Int32)) (v_t_behind + (1 : Int32)) ls _ _ hf (lv_sub hl [0] rfl) hP hD hS
theorem hdX9_takeNumber : yX9_takeNumber.cls ≠ "java/lang/invoke/MethodHandle" ∧ yX9_takeNumber.cls ≠ "java/lang/invoke/VarHandle" ∧ (parseMethodDescriptor yX9_takeNumber.desc).map (fun d => d.parameters.length) = some 0 := by decide +kernel
set_option maxHeartbeats 4000000 in
set_option maxRecDepth 100000 in
theorem ctX9_takeNumber (l : Launch) (D : va_G) (cI cZ : ClassId) (a_t a_t_text a_t_text_letters : Nat) (v_t_kind : Int32) (v_t_start : Int32) (v_t_number : Int32) (v_t_behind : Int32) (v_t_text_length : Int32) (v_t_text_letters : (Nat → Int32)) (o_t_kind : Int32) (o_t_number : Int32) (o_t_behind : Int32) (hf : fX9_takeNumber v_t_kind v_t_start v_t_number v_t_behind v_t_text_length v_t_text_letters = some (o_t_kind, o_t_number, o_t_behind)) : cM l yX9_takeNumber wsX9_takeNumber rmX9_takeNumber [.ref a_t] D [(a_t, .inr (9, [.ref a_t_text, .int v_t_kind, .int v_t_start, .int v_t_number, .int v_t_behind])), (a_t_text, .inr (2, [.ref a_t_text_letters, .int v_t_text_length])), (a_t_text_letters, .inl (cI, 120, .inl v_t_text_letters))] [(a_t, .inr (9, [.ref a_t_text, .int o_t_kind, .int v_t_start, .int o_t_number, .int o_t_behind])), (a_t_text, .inr (2, [.ref a_t_text_letters, .int v_t_text_length])), (a_t_text_letters, .inl (cI, 120, .inl v_t_text_letters))] (KX D cI cZ) none := by
  refine cM_of (cc := cX9_takeNumber) (maxL := 2) (ret := none) (by decide +kernel) rfl _ (Nat.le_of_ble_eq_true rfl) ?_
  intro p e s m below meth c ls A S hr hlk hP hK hl hD hA hS
  obtain ⟨hx, hb, hml, hown, hts⟩ := id S
  have hl : lv_has ls 2 [(0, .ref a_t)] := hl
  unfold fX9_takeNumber at hf
  refine lv_aload_n hx hb dX9_takeNumber_0 rfl (lv_at hl 0 rfl) ?_
  refine lv_iconst (v := 0) hx hb dX9_takeNumber_1 (by decide) ?_
  refine va_put (D := D) (ci := 9) (v := .int (0 : Int32)) (ty := .int) (C := RX9) (T := TX9) (N := 5) hx hb hts iX9_takeNumber_X9 tyX9 tyX9_ok nmX9 hown hK.1 hP hD hS 0 rfl rfl 3 (by decide) (hts _ mX9_takeNumber_1) (fun _ h9 => h9) rfl (tyX9_ok 3 (by decide)) rfl rfl (Nat.le_of_ble_eq_true rfl) dX9_takeNumber_2 (fun H locs hP hD hS => ?_)
  have hP : va_P D vwCl [(a_t, .inr (9, [.ref a_t_text, .int v_t_kind, .int v_t_start, .int (0 : Int32), .int v_t_behind])), (a_t_text, .inr (2, [.ref a_t_text_letters, .int v_t_text_length])), (a_t_text_letters, .inl (cI, 120, .inl v_t_text_letters))] H := hP
  have hD : va_D A [(a_t, .inr (9, [.ref a_t_text, .int v_t_kind, .int v_t_start, .int (0 : Int32), .int v_t_behind])), (a_t_text, .inr (2, [.ref a_t_text_letters, .int v_t_text_length])), (a_t_text_letters, .inl (cI, 120, .inl v_t_text_letters))] := hD
  exact wX9_takeNumber_5 S hr hlk hK hA fuel v_t_kind (0 : Int32) v_t_behind ls _ _ hf (lv_sub hl [0] rfl) hP hD hS
def fX9_isSmall (jx0 : Int32) : Option (Int32) := bd1 (fX10_isWithin jx0 (97 : Int32) (122 : Int32)) (fun jr1 => zcI jr1 (some jr1))
abbrev rmX9_isSmall : Room := { frames := 1, cells := 0, slots := 0, locals := 22 }
theorem mX9_isSmall_2 : (Cond.initialized RX10) ∈ wsX9_isSmall := List.mem_of_getElem? (i := 2) rfl
theorem mX9_isSmall_1 : (Cond.static yX10_isWithin) ∈ wsX9_isSmall := List.mem_of_getElem? (i := 1) rfl
theorem hdX9_isSmall : yX9_isSmall.cls ≠ "java/lang/invoke/MethodHandle" ∧ yX9_isSmall.cls ≠ "java/lang/invoke/VarHandle" ∧ (parseMethodDescriptor yX9_isSmall.desc).map (fun d => d.parameters.length) = some 1 := by decide +kernel
set_option maxHeartbeats 4000000 in
set_option maxRecDepth 100000 in
theorem ctX9_isSmall (l : Launch) (D : va_G) (cI cZ : ClassId) (jx0 : Int32) (r : Int32) (hf : fX9_isSmall jx0 = some r) : cR l yX9_isSmall wsX9_isSmall rmX9_isSmall [.int jx0] D [] (KX D cI cZ) r := by
  refine cR_of (cc := cX9_isSmall) (maxL := 1) (ret := some .boolean) (by decide +kernel) rfl _ (Nat.le_of_ble_eq_true rfl) ?_
  intro p e s m below meth c ls S hr hlk hP hK hl
  obtain ⟨hx, hb, hml, hown, hts⟩ := id S
  have hl : lv_has ls 1 [(0, .int jx0)] := hl
  unfold fX9_isSmall at hf
  refine lv_iload_n hx hb dX9_isSmall_0 rfl (lv_at hl 0 rfl) ?_
  refine lv_bipush (v := 97) hx hb dX9_isSmall_1 (by decide) ?_
  refine lv_bipush (v := 122) hx hb dX9_isSmall_3 (by decide) ?_
  obtain ⟨jr1, je2, hf⟩ := bd1_inv hf
  refine callRSN (As := [.int jx0, .int (97 : Int32), .int (122 : Int32)]) (rest := []) S (ctX10_isWithin l D cI cZ jx0 (97 : Int32) (122 : Int32) jr1 je2) ⟨va_cnB 3 hts gX9_isSmall_X10_isWithin_n75 rfl rfl rfl (hK.2 (RX9, 75, yX10_isWithin, RX10) (by simp [nwQ])) (hts _ mX9_isSmall_2) hdX10_isWithin ⟨Nat.le_of_ble_eq_true rfl, Nat.le_of_ble_eq_true rfl⟩, hts _ mX9_isSmall_1, trivial⟩ hP [] rfl KX.xs (fun U _ hW => hK.warm hW) rfl hl.1 rfl (Nat.le_of_ble_eq_true rfl) dX9_isSmall_5 ⟨Nat.zero_le _, Nat.zero_le _⟩ ?_
  obtain ⟨jh3, hf⟩ := zcI_inv hf
  obtain rfl := Option.some.inj hf
  exact retRz hx hb hr hlk (nar_z jh3) dX9_isSmall_8
