def fX10_type (jx1 : Int32) (v_t_text_length : Int32) (v_t_text_letters : (Nat → Int32)) : Option (Int32 × Int32 × (Nat → Int32)) := bd1 (fX10_isWithin jx1 (0 : Int32) (255 : Int32)) (fun jr1 => if jr1 = 0 then some ((-1 : Int32), v_t_text_length, v_t_text_letters) else bd3 (fX2_append jx1 v_t_text_length v_t_text_letters) (fun jr4 jg5 jg6 => if jr4 = 0 then some ((-3 : Int32), jg5, jg6) else some (jg5, jg5, jg6)))
abbrev rmX10_type : Room := { frames := 1, cells := 0, slots := 0, locals := 22 }
theorem iX10_type_X10 : ∀ w ∈ wsX100, w ∈ wsX10_type := fun _ h => List.mem_cons_of_mem _ (List.mem_append_left _ (List.mem_append_right _ h))
theorem mX10_type_1 : (Cond.fieldLink RX10 12 "VoteFiles" "text" "LVoteFiles$Letters;") ∈ wsX10_type := List.mem_of_getElem? (i := 1) rfl
theorem iX10_type_X2 : ∀ w ∈ wsX20, w ∈ wsX10_type := fun _ h => List.mem_cons_of_mem _ (List.mem_append_right _ h)
theorem mX10_type_2 : (Cond.fieldLink RX10 90 "VoteFiles$Letters" "length" "I") ∈ wsX10_type := List.mem_of_getElem? (i := 2) rfl
theorem hdX10_type : yX10_type.cls ≠ "java/lang/invoke/MethodHandle" ∧ yX10_type.cls ≠ "java/lang/invoke/VarHandle" ∧ (parseMethodDescriptor yX10_type.desc).map (fun d => d.parameters.length) = some 1 := by decide +kernel
set_option maxHeartbeats 4000000 in
set_option maxRecDepth 100000 in
theorem ctX10_type (l : Launch) (D : va_G) (cI cZ : ClassId) (a_t a_t_text a_t_telling a_t_now a_t_past a_t_images a_t_meeting a_t_seen a_t_chances a_t_search a_t_text_letters : Nat) (jx1 : Int32) (v_t_text_length : Int32) (v_t_text_letters : (Nat → Int32)) (v_t_valueRead : Int32) (r : Int32) (o_t_text_length : Int32) (o_t_text_letters : (Nat → Int32)) (hf : fX10_type jx1 v_t_text_length v_t_text_letters = some (r, o_t_text_length, o_t_text_letters)) : cM l yX10_type wsX10_type rmX10_type [.ref a_t, .int jx1] D [(a_t, .inr (10, [.ref a_t_text, .ref a_t_telling, .ref a_t_now, .ref a_t_past, .ref a_t_images, .ref a_t_meeting, .ref a_t_seen, .ref a_t_chances, .ref a_t_search, .int v_t_valueRead])), (a_t_text, .inr (2, [.ref a_t_text_letters, .int v_t_text_length])), (a_t_text_letters, .inl (cI, 120, .inl v_t_text_letters))] [(a_t, .inr (10, [.ref a_t_text, .ref a_t_telling, .ref a_t_now, .ref a_t_past, .ref a_t_images, .ref a_t_meeting, .ref a_t_seen, .ref a_t_chances, .ref a_t_search, .int v_t_valueRead])), (a_t_text, .inr (2, [.ref a_t_text_letters, .int o_t_text_length])), (a_t_text_letters, .inl (cI, 120, .inl o_t_text_letters))] (KX D cI cZ) (some (.int r)) := by
  refine cM_of (cc := cX10_type) (maxL := 2) (ret := some .int) (by decide +kernel) rfl _ (Nat.le_of_ble_eq_true rfl) ?_
  intro p e s m below meth c ls A S hr hlk hP hK hl hD hA hS
  obtain ⟨hx, hb, hml, hown, hts⟩ := id S
  have hl : lv_has ls 2 [(0, .ref a_t), (1, .int jx1)] := hl
  unfold fX10_type at hf
  refine lv_iload_n hx hb dX10_type_0 rfl (lv_at hl 1 rfl) ?_
  refine lv_iconst (v := 0) hx hb dX10_type_1 (by decide) ?_
  refine lv_sipush (v := 255) hx hb dX10_type_2 (by decide) ?_
  obtain ⟨jr1, je2, hf⟩ := bd1_inv hf
  refine callRS (As := [.int jx1, .int (0 : Int32), .int (255 : Int32)]) (rest := []) S (ctX10_isWithin l D cI cZ jx1 (0 : Int32) (255 : Int32) jr1 je2) (va_cwS 3 hts gX10_type_X10_isWithin rfl rfl rfl hdX10_isWithin ⟨Nat.le_of_ble_eq_true rfl, Nat.le_of_ble_eq_true rfl⟩) hP [] rfl KX.xs (fun U _ hW => hK.warm hW) rfl hl.1 rfl (Nat.le_of_ble_eq_true rfl) dX10_type_5 ⟨Nat.zero_le _, Nat.zero_le _⟩ ?_
  refine lv_if_ne (tgt := 13) hx hb dX10_type_8 (by decide) (fun jc3 => ?_) (fun jc3 => ?_)
  · have hf := ite_f jc3 hf
    refine lv_aload_n hx hb dX10_type_13 rfl (lv_at hl 0 rfl) ?_
    refine va_get (D := D) (ci := 10) (v := .ref a_t_text) (C := RX10) (T := TX10) (N := 10) hx hb hts iX10_type_X10 hown hK.1 hP 0 rfl rfl 0 (by decide) (hts _ mX10_type_1) (fun _ h9 => h9) rfl dX10_type_14 ?_
    refine lv_iload_n hx hb dX10_type_17 rfl (lv_at hl 1 rfl) ?_
    obtain ⟨jr4, jg5, jg6, je7, hf⟩ := bd3_inv hf
    refine callMV (As := [.int jx1]) (rest := []) (wr := [(a_t, .inr (10, [.ref a_t_text, .ref a_t_telling, .ref a_t_now, .ref a_t_past, .ref a_t_images, .ref a_t_meeting, .ref a_t_seen, .ref a_t_chances, .ref a_t_search, .int v_t_valueRead]))]) (wn := [(a_t, .inr (10, [.ref a_t_text, .ref a_t_telling, .ref a_t_now, .ref a_t_past, .ref a_t_images, .ref a_t_meeting, .ref a_t_seen, .ref a_t_chances, .ref a_t_search, .int v_t_valueRead])), (a_t_text, .inr (2, [.ref a_t_text_letters, .int jg5])), (a_t_text_letters, .inl (cI, 120, .inl jg6))]) S (ctX2_append l D cI cZ a_t_text a_t_text_letters jx1 v_t_text_length v_t_text_letters jr4 jg5 jg6 je7) (cwV 1 hts gX10_type_X2_append rfl rfl rfl ⟨rfl, hdX2_append⟩ ⟨Nat.le_of_ble_eq_true rfl, Nat.le_of_ble_eq_true rfl⟩) hP hD hS hA [1, 2] [0] [0, 1, 2] rfl rfl (by decide) (by decide) (by decide) (by decide) rfl KX.xs (fun U _ hW => hK.warm hW) (va_recv hK.1 hP (ci := 2) (q0 := 1) rfl rfl) rfl hl.1 rfl (Nat.le_of_ble_eq_true rfl) dX10_type_18 ⟨Nat.zero_le _, Nat.zero_le _⟩ (fun H locs hP hD hS => ?_)
    refine W.eq (g2 := F0 m 21 ls [.int jr4]) rfl ?_
    refine lv_if_eq (tgt := 34) hx hb dX10_type_21 (by decide) (fun jc8 => ?_) (fun jc8 => ?_)
    · have hf := ite_t jc8 hf
      refine lv_bipush (v := -3) hx hb dX10_type_34 (by decide) ?_
      obtain ⟨rfl, rfl, rfl⟩ := pr3_inv hf
      exact retM hx hb hr hlk hP hD hS dX10_type_36
    · have hf := ite_f jc8 hf
      refine lv_aload_n hx hb dX10_type_24 rfl (lv_at hl 0 rfl) ?_
      refine va_get (D := D) (ci := 10) (v := .ref a_t_text) (C := RX10) (T := TX10) (N := 10) hx hb hts iX10_type_X10 hown hK.1 hP 0 rfl rfl 0 (by decide) (hts _ mX10_type_1) (fun _ h9 => h9) rfl dX10_type_25 ?_
      refine va_get (D := D) (ci := 2) (v := .int jg5) (C := RX2) (T := TX2) (N := 2) hx hb hts iX10_type_X2 hown hK.1 hP 1 rfl rfl 1 (by decide) (hts _ mX10_type_2) (fun _ h9 => h9) rfl dX10_type_28 ?_
      refine lv_goto (tgt := 36) hx hb dX10_type_31 (by decide) ?_
      obtain ⟨rfl, rfl, rfl⟩ := pr3_inv hf
      exact retM hx hb hr hlk hP hD hS dX10_type_36
  · have hf := ite_t jc3 hf
    refine lv_iconst (v := -1) hx hb dX10_type_11 (by decide) ?_
    obtain ⟨rfl, rfl, rfl⟩ := pr3_inv hf
    exact retM hx hb hr hlk hP hD hS dX10_type_12
def fX10_clear (v_t_text_length : Int32) : Option (Int32 × Int32) := some (v_t_text_length, (0 : Int32))
abbrev rmX10_clear : Room := { frames := 0, cells := 0, slots := 0, locals := 0 }
theorem iX10_clear_X10 : ∀ w ∈ wsX100, w ∈ wsX10_clear := fun _ h => List.mem_cons_of_mem _ (List.mem_append_left _ (List.mem_append_right _ h))
theorem mX10_clear_1 : (Cond.fieldLink RX10 12 "VoteFiles" "text" "LVoteFiles$Letters;") ∈ wsX10_clear := List.mem_of_getElem? (i := 1) rfl
theorem iX10_clear_X2 : ∀ w ∈ wsX20, w ∈ wsX10_clear := fun _ h => List.mem_cons_of_mem _ (List.mem_append_right _ h)
theorem mX10_clear_2 : (Cond.fieldLink RX10 90 "VoteFiles$Letters" "length" "I") ∈ wsX10_clear := List.mem_of_getElem? (i := 2) rfl
theorem hdX10_clear : yX10_clear.cls ≠ "java/lang/invoke/MethodHandle" ∧ yX10_clear.cls ≠ "java/lang/invoke/VarHandle" ∧ (parseMethodDescriptor yX10_clear.desc).map (fun d => d.parameters.length) = some 0 := by decide +kernel
set_option maxHeartbeats 4000000 in
set_option maxRecDepth 100000 in
theorem ctX10_clear (l : Launch) (D : va_G) (cI cZ : ClassId) (a_t a_t_text a_t_telling a_t_now a_t_past a_t_images a_t_meeting a_t_seen a_t_chances a_t_search a_t_text_letters : Nat) (v_t_text_length : Int32) (v_t_valueRead : Int32) (r : Int32) (o_t_text_length : Int32) (hf : fX10_clear v_t_text_length = some (r, o_t_text_length)) : cM l yX10_clear wsX10_clear rmX10_clear [.ref a_t] D [(a_t, .inr (10, [.ref a_t_text, .ref a_t_telling, .ref a_t_now, .ref a_t_past, .ref a_t_images, .ref a_t_meeting, .ref a_t_seen, .ref a_t_chances, .ref a_t_search, .int v_t_valueRead])), (a_t_text, .inr (2, [.ref a_t_text_letters, .int v_t_text_length]))] [(a_t, .inr (10, [.ref a_t_text, .ref a_t_telling, .ref a_t_now, .ref a_t_past, .ref a_t_images, .ref a_t_meeting, .ref a_t_seen, .ref a_t_chances, .ref a_t_search, .int v_t_valueRead])), (a_t_text, .inr (2, [.ref a_t_text_letters, .int o_t_text_length]))] (KX D cI cZ) (some (.int r)) := by
  refine cM_of (cc := cX10_clear) (maxL := 2) (ret := some .int) (by decide +kernel) rfl _ (Nat.le_of_ble_eq_true rfl) ?_
  intro p e s m below meth c ls A S hr hlk hP hK hl hD hA hS
  obtain ⟨hx, hb, hml, hown, hts⟩ := id S
  have hl : lv_has ls 2 [(0, .ref a_t)] := hl
  unfold fX10_clear at hf
  refine lv_aload_n hx hb dX10_clear_0 rfl (lv_at hl 0 rfl) ?_
  refine va_get (D := D) (ci := 10) (v := .ref a_t_text) (C := RX10) (T := TX10) (N := 10) hx hb hts iX10_clear_X10 hown hK.1 hP 0 rfl rfl 0 (by decide) (hts _ mX10_clear_1) (fun _ h9 => h9) rfl dX10_clear_1 ?_
  refine va_get (D := D) (ci := 2) (v := .int v_t_text_length) (C := RX2) (T := TX2) (N := 2) hx hb hts iX10_clear_X2 hown hK.1 hP 1 rfl rfl 1 (by decide) (hts _ mX10_clear_2) (fun _ h9 => h9) rfl dX10_clear_4 ?_
  refine lv_istore_n (lv' := [(1, .int v_t_text_length), (0, .ref a_t)]) hx hb dX10_clear_7 rfl hl (by decide) rfl (fun ls hl => ?_)
  refine lv_aload_n hx hb dX10_clear_8 rfl (lv_at hl 1 rfl) ?_
  refine va_get (D := D) (ci := 10) (v := .ref a_t_text) (C := RX10) (T := TX10) (N := 10) hx hb hts iX10_clear_X10 hown hK.1 hP 0 rfl rfl 0 (by decide) (hts _ mX10_clear_1) (fun _ h9 => h9) rfl dX10_clear_9 ?_
  refine lv_iconst (v := 0) hx hb dX10_clear_12 (by decide) ?_
  refine va_put (D := D) (ci := 2) (v := .int (0 : Int32)) (ty := .int) (C := RX2) (T := TX2) (N := 2) hx hb hts iX10_clear_X2 tyX2 tyX2_ok nmX2 hown hK.1 hP hD hS 1 rfl rfl 1 (by decide) (hts _ mX10_clear_2) (fun _ h9 => h9) rfl (tyX2_ok 1 (by decide)) rfl rfl (Nat.le_of_ble_eq_true rfl) dX10_clear_13 (fun H locs hP hD hS => ?_)
  have hP : va_P D vwCl [(a_t, .inr (10, [.ref a_t_text, .ref a_t_telling, .ref a_t_now, .ref a_t_past, .ref a_t_images, .ref a_t_meeting, .ref a_t_seen, .ref a_t_chances, .ref a_t_search, .int v_t_valueRead])), (a_t_text, .inr (2, [.ref a_t_text_letters, .int (0 : Int32)]))] H := hP
  have hD : va_D A [(a_t, .inr (10, [.ref a_t_text, .ref a_t_telling, .ref a_t_now, .ref a_t_past, .ref a_t_images, .ref a_t_meeting, .ref a_t_seen, .ref a_t_chances, .ref a_t_search, .int v_t_valueRead])), (a_t_text, .inr (2, [.ref a_t_text_letters, .int (0 : Int32)]))] := hD
  refine lv_iload_n hx hb dX10_clear_16 rfl (lv_at hl 0 rfl) ?_
  obtain ⟨rfl, rfl⟩ := pr2_inv hf
  exact retM hx hb hr hlk hP hD hS dX10_clear_17
def fX10_file (v_t_text_length : Int32) (v_t_text_letters : (Nat → Int32)) (v_t_telling_witnesses : Int32) (v_t_telling_copies : Int32) (v_t_telling_read : Int32) (v_t_telling_write : Int32) (v_t_telling_items : Int32) (v_t_telling_tokens_kind : Int32) (v_t_telling_tokens_start : Int32) (v_t_telling_tokens_number : Int32) (v_t_telling_tokens_behind : Int32) (v_t_telling_votes : (Nat → Int32)) (v_t_now_row : (Nat → Int32)) (v_t_past_size : Int32) (v_t_images_kept : (Nat → Int32)) (v_t_seen_size : Int32) : Option (Int32 × Int32 × Int32 × Int32 × Int32 × Int32 × Int32 × Int32 × Int32 × Int32 × Int32 × (Nat → Int32) × (Nat → Int32) × Int32 × (Nat → Int32) × Int32) := bd11 (fX8_faultOf v_t_telling_witnesses v_t_telling_copies v_t_telling_read v_t_telling_write v_t_telling_items v_t_telling_tokens_kind v_t_telling_tokens_start v_t_telling_tokens_number v_t_telling_tokens_behind v_t_text_length v_t_text_letters v_t_telling_votes) (fun jr1 jg2 jg3 jg4 jg5 jg6 jg7 jg8 jg9 jg10 jg11 => if jr1 = (-9 : Int32) then bd1 (fX7_begin v_t_now_row jg2 jg3 jg4 jg5 jg11) (fun jg14 => bd1 (fX1_drop v_t_images_kept) (fun jg16 => some (jg6, (0 : Int32), jg2, jg3, jg4, jg5, jg6, jg7, jg8, jg9, jg10, jg11, jg14, (0 : Int32), jg16, (0 : Int32)))) else some (((-10 : Int32) - jr1), v_t_text_length, jg2, jg3, jg4, jg5, jg6, jg7, jg8, jg9, jg10, jg11, v_t_now_row, v_t_past_size, v_t_images_kept, v_t_seen_size))
abbrev rmX10_file : Room := { frames := 9, cells := 0, slots := 0, locals := 190 }
theorem iX10_file_X10 : ∀ w ∈ wsX100, w ∈ wsX10_file := fun _ h => List.mem_cons_of_mem _ (List.mem_append_left _ (List.mem_append_left _ (List.mem_append_left _ (List.mem_append_left _ (List.mem_append_left _ (List.mem_append_left _ (List.mem_append_left _ (List.mem_append_right _ h))))))))
theorem mX10_file_1 : (Cond.fieldLink RX10 21 "VoteFiles" "telling" "LVoteFiles$Telling;") ∈ wsX10_file := List.mem_of_getElem? (i := 1) rfl
theorem mX10_file_2 : (Cond.fieldLink RX10 28 "VoteFiles" "now" "LVoteFiles$Shape;") ∈ wsX10_file := List.mem_of_getElem? (i := 2) rfl
theorem mX10_file_3 : (Cond.fieldLink RX10 35 "VoteFiles" "past" "LVoteFiles$Past;") ∈ wsX10_file := List.mem_of_getElem? (i := 3) rfl
theorem iX10_file_X4 : ∀ w ∈ wsX40, w ∈ wsX10_file := fun _ h => List.mem_cons_of_mem _ (List.mem_append_left _ (List.mem_append_left _ (List.mem_append_left _ (List.mem_append_left _ (List.mem_append_left _ (List.mem_append_left _ (List.mem_append_right _ h)))))))
theorem mX10_file_4 : (Cond.fieldLink RX10 97 "VoteFiles$Past" "size" "I") ∈ wsX10_file := List.mem_of_getElem? (i := 4) rfl
theorem mX10_file_5 : (Cond.fieldLink RX10 56 "VoteFiles" "seen" "LVoteFiles$Seen;") ∈ wsX10_file := List.mem_of_getElem? (i := 5) rfl
theorem iX10_file_X6 : ∀ w ∈ wsX60, w ∈ wsX10_file := fun _ h => List.mem_cons_of_mem _ (List.mem_append_left _ (List.mem_append_left _ (List.mem_append_left _ (List.mem_append_left _ (List.mem_append_left _ (List.mem_append_right _ h))))))
theorem mX10_file_6 : (Cond.fieldLink RX10 100 "VoteFiles$Seen" "size" "I") ∈ wsX10_file := List.mem_of_getElem? (i := 6) rfl
theorem mX10_file_7 : (Cond.fieldLink RX10 42 "VoteFiles" "images" "LVoteFiles$Images;") ∈ wsX10_file := List.mem_of_getElem? (i := 7) rfl
theorem mX10_file_8 : (Cond.fieldLink RX10 12 "VoteFiles" "text" "LVoteFiles$Letters;") ∈ wsX10_file := List.mem_of_getElem? (i := 8) rfl
theorem iX10_file_X2 : ∀ w ∈ wsX20, w ∈ wsX10_file := fun _ h => List.mem_cons_of_mem _ (List.mem_append_left _ (List.mem_append_left _ (List.mem_append_left _ (List.mem_append_left _ (List.mem_append_right _ h)))))
theorem mX10_file_9 : (Cond.fieldLink RX10 90 "VoteFiles$Letters" "length" "I") ∈ wsX10_file := List.mem_of_getElem? (i := 9) rfl
theorem iX10_file_X8 : ∀ w ∈ wsX80, w ∈ wsX10_file := fun _ h => List.mem_cons_of_mem _ (List.mem_append_left _ (List.mem_append_left _ (List.mem_append_left _ (List.mem_append_right _ h))))
theorem mX10_file_10 : (Cond.fieldLink RX10 104 "VoteFiles$Telling" "items" "I") ∈ wsX10_file := List.mem_of_getElem? (i := 10) rfl
theorem hdX10_file : yX10_file.cls ≠ "java/lang/invoke/MethodHandle" ∧ yX10_file.cls ≠ "java/lang/invoke/VarHandle" ∧ (parseMethodDescriptor yX10_file.desc).map (fun d => d.parameters.length) = some 0 := by decide +kernel
set_option maxHeartbeats 4000000 in
set_option maxRecDepth 100000 in
theorem ctX10_file (l : Launch) (D : va_G) (cI cZ : ClassId) (sz0 : Nat) (ad av : Nat → Nat) (a_t a_t_text a_t_telling a_t_now a_t_past a_t_images a_t_meeting a_t_seen a_t_chances a_t_search a_t_text_letters a_t_telling_tokens a_t_telling_votes a_t_now_row a_t_past_rows a_t_images_rows a_t_images_kept a_t_seen_ways a_t_seen_enough : Nat) (z_t : sz0 ≤ a_t) (z_t_text : sz0 ≤ a_t_text) (z_t_text_letters : sz0 ≤ a_t_text_letters) (z_t_telling : sz0 ≤ a_t_telling) (z_t_telling_tokens : sz0 ≤ a_t_telling_tokens) (z_t_telling_votes : sz0 ≤ a_t_telling_votes) (z_t_now : sz0 ≤ a_t_now) (z_t_now_row : sz0 ≤ a_t_now_row) (z_t_past : sz0 ≤ a_t_past) (z_t_images : sz0 ≤ a_t_images) (z_t_images_kept : sz0 ≤ a_t_images_kept) (z_t_seen : sz0 ≤ a_t_seen) (v_t_text_length : Int32) (v_t_text_letters : (Nat → Int32)) (v_t_telling_witnesses : Int32) (v_t_telling_copies : Int32) (v_t_telling_read : Int32) (v_t_telling_write : Int32) (v_t_telling_items : Int32) (v_t_telling_tokens_kind : Int32) (v_t_telling_tokens_start : Int32) (v_t_telling_tokens_number : Int32) (v_t_telling_tokens_behind : Int32) (v_t_telling_votes : (Nat → Int32)) (v_t_now_row : (Nat → Int32)) (v_t_past_size : Int32) (v_t_images_kept : (Nat → Int32)) (v_t_seen_size : Int32) (v_t_valueRead : Int32) (v_t_past_next : Int32) (r : Int32) (o_t_text_length : Int32) (o_t_telling_witnesses : Int32) (o_t_telling_copies : Int32) (o_t_telling_read : Int32) (o_t_telling_write : Int32) (o_t_telling_items : Int32) (o_t_telling_tokens_kind : Int32) (o_t_telling_tokens_start : Int32) (o_t_telling_tokens_number : Int32) (o_t_telling_tokens_behind : Int32) (o_t_telling_votes : (Nat → Int32)) (o_t_now_row : (Nat → Int32)) (o_t_past_size : Int32) (o_t_images_kept : (Nat → Int32)) (o_t_seen_size : Int32) (hf : fX10_file v_t_text_length v_t_text_letters v_t_telling_witnesses v_t_telling_copies v_t_telling_read v_t_telling_write v_t_telling_items v_t_telling_tokens_kind v_t_telling_tokens_start v_t_telling_tokens_number v_t_telling_tokens_behind v_t_telling_votes v_t_now_row v_t_past_size v_t_images_kept v_t_seen_size = some (r, o_t_text_length, o_t_telling_witnesses, o_t_telling_copies, o_t_telling_read, o_t_telling_write, o_t_telling_items, o_t_telling_tokens_kind, o_t_telling_tokens_start, o_t_telling_tokens_number, o_t_telling_tokens_behind, o_t_telling_votes, o_t_now_row, o_t_past_size, o_t_images_kept, o_t_seen_size)) : cM l yX10_file wsX10_file rmX10_file [.ref a_t] D [(a_t, .inr (10, [.ref a_t_text, .ref a_t_telling, .ref a_t_now, .ref a_t_past, .ref a_t_images, .ref a_t_meeting, .ref a_t_seen, .ref a_t_chances, .ref a_t_search, .int v_t_valueRead])), (a_t_text, .inr (2, [.ref a_t_text_letters, .int v_t_text_length])), (a_t_text_letters, .inl (cI, 120, .inl v_t_text_letters)), (a_t_telling, .inr (8, [.ref a_t_telling_tokens, .ref a_t_telling_votes, .int v_t_telling_witnesses, .int v_t_telling_copies, .int v_t_telling_read, .int v_t_telling_write, .int v_t_telling_items])), (a_t_telling_tokens, .inr (9, [.ref a_t_text, .int v_t_telling_tokens_kind, .int v_t_telling_tokens_start, .int v_t_telling_tokens_number, .int v_t_telling_tokens_behind])), (a_t_telling_votes, .inl (cI, 6, .inl v_t_telling_votes)), (a_t_now, .inr (7, [.ref a_t_now_row])), (a_t_now_row, .inl (cI, 104, .inl v_t_now_row)), (a_t_past, .inr (4, [.ref a_t_past_rows, .int v_t_past_next, .int v_t_past_size])), (a_t_images, .inr (1, [.ref a_t_images_rows, .ref a_t_images_kept])), (a_t_images_kept, .inl (cZ, 2, .inl v_t_images_kept)), (a_t_seen, .inr (6, [.ref a_t_seen_ways, .ref a_t_seen_enough, .int v_t_seen_size]))] [(a_t, .inr (10, [.ref a_t_text, .ref a_t_telling, .ref a_t_now, .ref a_t_past, .ref a_t_images, .ref a_t_meeting, .ref a_t_seen, .ref a_t_chances, .ref a_t_search, .int v_t_valueRead])), (a_t_text, .inr (2, [.ref a_t_text_letters, .int o_t_text_length])), (a_t_text_letters, .inl (cI, 120, .inl v_t_text_letters)), (a_t_telling, .inr (8, [.ref a_t_telling_tokens, .ref a_t_telling_votes, .int o_t_telling_witnesses, .int o_t_telling_copies, .int o_t_telling_read, .int o_t_telling_write, .int o_t_telling_items])), (a_t_telling_tokens, .inr (9, [.ref a_t_text, .int o_t_telling_tokens_kind, .int o_t_telling_tokens_start, .int o_t_telling_tokens_number, .int o_t_telling_tokens_behind])), (a_t_telling_votes, .inl (cI, 6, .inl o_t_telling_votes)), (a_t_now, .inr (7, [.ref a_t_now_row])), (a_t_now_row, .inl (cI, 104, .inl o_t_now_row)), (a_t_past, .inr (4, [.ref a_t_past_rows, .int v_t_past_next, .int o_t_past_size])), (a_t_images, .inr (1, [.ref a_t_images_rows, .ref a_t_images_kept])), (a_t_images_kept, .inl (cZ, 2, .inl o_t_images_kept)), (a_t_seen, .inr (6, [.ref a_t_seen_ways, .ref a_t_seen_enough, .int o_t_seen_size]))] (XT D cI cZ sz0 ad av) (some (.int r)) := by
  refine cM_ofZ (cc := cX10_file) (maxL := 2) (ret := some .int) (by decide +kernel) rfl _ (Nat.le_of_ble_eq_true rfl) (zc_cons z_t (zc_cons z_t_text (zc_cons z_t_text_letters (zc_cons z_t_telling (zc_cons z_t_telling_tokens (zc_cons z_t_telling_votes (zc_cons z_t_now (zc_cons z_t_now_row (zc_cons z_t_past (zc_cons z_t_images (zc_cons z_t_images_kept (zc_cons z_t_seen zc_nil)))))))))))) (fun U h => h.2.1) ?_
  intro p e s m below meth c ls A S hr hlk hP hT hl hD hA hZ hS
  have hK := hT.1
  obtain ⟨hx, hb, hml, hown, hts⟩ := id S
  have hl : lv_has ls 2 [(0, .ref a_t)] := hl
  unfold fX10_file at hf
  refine lv_aload_n hx hb dX10_file_0 rfl (lv_at hl 0 rfl) ?_
  refine va_get (D := D) (ci := 10) (v := .ref a_t_telling) (C := RX10) (T := TX10) (N := 10) hx hb hts iX10_file_X10 hown hK.1 hP 0 rfl rfl 1 (by decide) (hts _ mX10_file_1) (fun _ h9 => h9) rfl dX10_file_1 ?_
  obtain ⟨jr1, jg2, jg3, jg4, jg5, jg6, jg7, jg8, jg9, jg10, jg11, je12, hf⟩ := bd11_inv hf
  refine callMV (As := []) (rest := []) (wr := [(a_t, .inr (10, [.ref a_t_text, .ref a_t_telling, .ref a_t_now, .ref a_t_past, .ref a_t_images, .ref a_t_meeting, .ref a_t_seen, .ref a_t_chances, .ref a_t_search, .int v_t_valueRead])), (a_t_now, .inr (7, [.ref a_t_now_row])), (a_t_now_row, .inl (cI, 104, .inl v_t_now_row)), (a_t_past, .inr (4, [.ref a_t_past_rows, .int v_t_past_next, .int v_t_past_size])), (a_t_images, .inr (1, [.ref a_t_images_rows, .ref a_t_images_kept])), (a_t_images_kept, .inl (cZ, 2, .inl v_t_images_kept)), (a_t_seen, .inr (6, [.ref a_t_seen_ways, .ref a_t_seen_enough, .int v_t_seen_size]))]) (wn := [(a_t, .inr (10, [.ref a_t_text, .ref a_t_telling, .ref a_t_now, .ref a_t_past, .ref a_t_images, .ref a_t_meeting, .ref a_t_seen, .ref a_t_chances, .ref a_t_search, .int v_t_valueRead])), (a_t_text, .inr (2, [.ref a_t_text_letters, .int v_t_text_length])), (a_t_text_letters, .inl (cI, 120, .inl v_t_text_letters)), (a_t_telling, .inr (8, [.ref a_t_telling_tokens, .ref a_t_telling_votes, .int jg2, .int jg3, .int jg4, .int jg5, .int jg6])), (a_t_telling_tokens, .inr (9, [.ref a_t_text, .int jg7, .int jg8, .int jg9, .int jg10])), (a_t_telling_votes, .inl (cI, 6, .inl jg11)), (a_t_now, .inr (7, [.ref a_t_now_row])), (a_t_now_row, .inl (cI, 104, .inl v_t_now_row)), (a_t_past, .inr (4, [.ref a_t_past_rows, .int v_t_past_next, .int v_t_past_size])), (a_t_images, .inr (1, [.ref a_t_images_rows, .ref a_t_images_kept])), (a_t_images_kept, .inl (cZ, 2, .inl v_t_images_kept)), (a_t_seen, .inr (6, [.ref a_t_seen_ways, .ref a_t_seen_enough, .int v_t_seen_size]))]) S (ctX8_faultOf l D cI cZ sz0 ad av a_t_telling a_t_telling_tokens a_t_telling_votes a_t_text a_t_text_letters z_t_telling z_t_telling_tokens z_t_text z_t_text_letters z_t_telling_votes v_t_telling_witnesses v_t_telling_copies v_t_telling_read v_t_telling_write v_t_telling_items v_t_telling_tokens_kind v_t_telling_tokens_start v_t_telling_tokens_number v_t_telling_tokens_behind v_t_text_length v_t_text_letters v_t_telling_votes jr1 jg2 jg3 jg4 jg5 jg6 jg7 jg8 jg9 jg10 jg11 je12) (cwV 0 hts gX10_file_X8_faultOf rfl rfl rfl ⟨rfl, hdX8_faultOf⟩ ⟨Nat.le_of_ble_eq_true rfl, Nat.le_of_ble_eq_true rfl⟩) hP hD hS hA [3, 4, 1, 2, 5] [0, 6, 7, 8, 9, 10, 11] [0, 9, 10, 7, 8, 11, 1, 2, 3, 4, 5, 6] rfl rfl (by decide) (by decide) (by decide) (by decide) rfl XT.xs (hT.at hS hZ) (va_recv hK.1 hP (ci := 8) (q0 := 3) rfl rfl) rfl hl.1 rfl (Nat.le_of_ble_eq_true rfl) dX10_file_4 ⟨Nat.zero_le _, Nat.zero_le _⟩ (fun H locs hP hD hS => ?_)
  refine W.eq (g2 := F0 m 7 ls [.int jr1]) rfl ?_
  refine lv_istore_n (lv' := [(1, .int jr1), (0, .ref a_t)]) hx hb dX10_file_7 rfl hl (by decide) rfl (fun ls hl => ?_)
  refine lv_iload_n hx hb dX10_file_8 rfl (lv_at hl 0 rfl) ?_
  refine lv_bipush (v := -9) hx hb dX10_file_9 (by decide) ?_
  refine lv_icmp_eq (tgt := 19) hx hb dX10_file_11 (by decide) (fun jc13 => ?_) (fun jc13 => ?_)
  · have hf := ite_t jc13 hf
    refine lv_aload_n hx hb dX10_file_19 rfl (lv_at hl 1 rfl) ?_
    refine va_get (D := D) (ci := 10) (v := .ref a_t_now) (C := RX10) (T := TX10) (N := 10) hx hb hts iX10_file_X10 hown hK.1 hP 0 rfl rfl 2 (by decide) (hts _ mX10_file_2) (fun _ h9 => h9) rfl dX10_file_20 ?_
    refine lv_aload_n hx hb dX10_file_23 rfl (lv_at hl 1 rfl) ?_
    refine va_get (D := D) (ci := 10) (v := .ref a_t_telling) (C := RX10) (T := TX10) (N := 10) hx hb hts iX10_file_X10 hown hK.1 hP 0 rfl rfl 1 (by decide) (hts _ mX10_file_1) (fun _ h9 => h9) rfl dX10_file_24 ?_
    obtain ⟨jg14, je15, hf⟩ := bd1_inv hf
    refine callMV (As := [.ref a_t_telling]) (rest := []) (wr := [(a_t, .inr (10, [.ref a_t_text, .ref a_t_telling, .ref a_t_now, .ref a_t_past, .ref a_t_images, .ref a_t_meeting, .ref a_t_seen, .ref a_t_chances, .ref a_t_search, .int v_t_valueRead])), (a_t_text, .inr (2, [.ref a_t_text_letters, .int v_t_text_length])), (a_t_text_letters, .inl (cI, 120, .inl v_t_text_letters)), (a_t_telling_tokens, .inr (9, [.ref a_t_text, .int jg7, .int jg8, .int jg9, .int jg10])), (a_t_past, .inr (4, [.ref a_t_past_rows, .int v_t_past_next, .int v_t_past_size])), (a_t_images, .inr (1, [.ref a_t_images_rows, .ref a_t_images_kept])), (a_t_images_kept, .inl (cZ, 2, .inl v_t_images_kept)), (a_t_seen, .inr (6, [.ref a_t_seen_ways, .ref a_t_seen_enough, .int v_t_seen_size]))]) (wn := [(a_t, .inr (10, [.ref a_t_text, .ref a_t_telling, .ref a_t_now, .ref a_t_past, .ref a_t_images, .ref a_t_meeting, .ref a_t_seen, .ref a_t_chances, .ref a_t_search, .int v_t_valueRead])), (a_t_text, .inr (2, [.ref a_t_text_letters, .int v_t_text_length])), (a_t_text_letters, .inl (cI, 120, .inl v_t_text_letters)), (a_t_telling, .inr (8, [.ref a_t_telling_tokens, .ref a_t_telling_votes, .int jg2, .int jg3, .int jg4, .int jg5, .int jg6])), (a_t_telling_tokens, .inr (9, [.ref a_t_text, .int jg7, .int jg8, .int jg9, .int jg10])), (a_t_telling_votes, .inl (cI, 6, .inl jg11)), (a_t_now, .inr (7, [.ref a_t_now_row])), (a_t_now_row, .inl (cI, 104, .inl jg14)), (a_t_past, .inr (4, [.ref a_t_past_rows, .int v_t_past_next, .int v_t_past_size])), (a_t_images, .inr (1, [.ref a_t_images_rows, .ref a_t_images_kept])), (a_t_images_kept, .inl (cZ, 2, .inl v_t_images_kept)), (a_t_seen, .inr (6, [.ref a_t_seen_ways, .ref a_t_seen_enough, .int v_t_seen_size]))]) S (ctX7_begin l D cI cZ a_t_now a_t_now_row a_t_telling a_t_telling_tokens a_t_telling_votes v_t_now_row jg2 jg3 jg4 jg5 jg11 jg6 jg14 je15) (cwV 1 hts gX10_file_X7_begin rfl rfl rfl ⟨rfl, hdX7_begin⟩ ⟨Nat.le_of_ble_eq_true rfl, Nat.le_of_ble_eq_true rfl⟩) hP hD hS hA [6, 7, 3, 5] [0, 1, 2, 4, 8, 9, 10, 11] [0, 1, 2, 10, 3, 11, 8, 9, 4, 5, 6, 7] rfl rfl (by decide) (by decide) (by decide) (by decide) rfl KX.xs (fun U _ hW => hK.warm hW) (va_recv hK.1 hP (ci := 7) (q0 := 6) rfl rfl) rfl hl.1 rfl (Nat.le_of_ble_eq_true rfl) dX10_file_27 ⟨Nat.zero_le _, Nat.zero_le _⟩ (fun H locs hP hD hS => ?_)
    refine W.eq (g2 := F0 m 30 ls []) rfl ?_
    refine lv_aload_n hx hb dX10_file_30 rfl (lv_at hl 1 rfl) ?_
    refine va_get (D := D) (ci := 10) (v := .ref a_t_past) (C := RX10) (T := TX10) (N := 10) hx hb hts iX10_file_X10 hown hK.1 hP 0 rfl rfl 3 (by decide) (hts _ mX10_file_3) (fun _ h9 => h9) rfl dX10_file_31 ?_
    refine lv_iconst (v := 0) hx hb dX10_file_34 (by decide) ?_
    refine va_put (D := D) (ci := 4) (v := .int (0 : Int32)) (ty := .int) (C := RX4) (T := TX4) (N := 3) hx hb hts iX10_file_X4 tyX4 tyX4_ok nmX4 hown hK.1 hP hD hS 8 rfl rfl 2 (by decide) (hts _ mX10_file_4) (fun _ h9 => h9) rfl (tyX4_ok 2 (by decide)) rfl rfl (Nat.le_of_ble_eq_true rfl) dX10_file_35 (fun H locs hP hD hS => ?_)
    have hP : va_P D vwCl [(a_t, .inr (10, [.ref a_t_text, .ref a_t_telling, .ref a_t_now, .ref a_t_past, .ref a_t_images, .ref a_t_meeting, .ref a_t_seen, .ref a_t_chances, .ref a_t_search, .int v_t_valueRead])), (a_t_text, .inr (2, [.ref a_t_text_letters, .int v_t_text_length])), (a_t_text_letters, .inl (cI, 120, .inl v_t_text_letters)), (a_t_telling, .inr (8, [.ref a_t_telling_tokens, .ref a_t_telling_votes, .int jg2, .int jg3, .int jg4, .int jg5, .int jg6])), (a_t_telling_tokens, .inr (9, [.ref a_t_text, .int jg7, .int jg8, .int jg9, .int jg10])), (a_t_telling_votes, .inl (cI, 6, .inl jg11)), (a_t_now, .inr (7, [.ref a_t_now_row])), (a_t_now_row, .inl (cI, 104, .inl jg14)), (a_t_past, .inr (4, [.ref a_t_past_rows, .int v_t_past_next, .int (0 : Int32)])), (a_t_images, .inr (1, [.ref a_t_images_rows, .ref a_t_images_kept])), (a_t_images_kept, .inl (cZ, 2, .inl v_t_images_kept)), (a_t_seen, .inr (6, [.ref a_t_seen_ways, .ref a_t_seen_enough, .int v_t_seen_size]))] H := hP
    have hD : va_D A [(a_t, .inr (10, [.ref a_t_text, .ref a_t_telling, .ref a_t_now, .ref a_t_past, .ref a_t_images, .ref a_t_meeting, .ref a_t_seen, .ref a_t_chances, .ref a_t_search, .int v_t_valueRead])), (a_t_text, .inr (2, [.ref a_t_text_letters, .int v_t_text_length])), (a_t_text_letters, .inl (cI, 120, .inl v_t_text_letters)), (a_t_telling, .inr (8, [.ref a_t_telling_tokens, .ref a_t_telling_votes, .int jg2, .int jg3, .int jg4, .int jg5, .int jg6])), (a_t_telling_tokens, .inr (9, [.ref a_t_text, .int jg7, .int jg8, .int jg9, .int jg10])), (a_t_telling_votes, .inl (cI, 6, .inl jg11)), (a_t_now, .inr (7, [.ref a_t_now_row])), (a_t_now_row, .inl (cI, 104, .inl jg14)), (a_t_past, .inr (4, [.ref a_t_past_rows, .int v_t_past_next, .int (0 : Int32)])), (a_t_images, .inr (1, [.ref a_t_images_rows, .ref a_t_images_kept])), (a_t_images_kept, .inl (cZ, 2, .inl v_t_images_kept)), (a_t_seen, .inr (6, [.ref a_t_seen_ways, .ref a_t_seen_enough, .int v_t_seen_size]))] := hD
    refine lv_aload_n hx hb dX10_file_38 rfl (lv_at hl 1 rfl) ?_
    refine va_get (D := D) (ci := 10) (v := .ref a_t_seen) (C := RX10) (T := TX10) (N := 10) hx hb hts iX10_file_X10 hown hK.1 hP 0 rfl rfl 6 (by decide) (hts _ mX10_file_5) (fun _ h9 => h9) rfl dX10_file_39 ?_
    refine lv_iconst (v := 0) hx hb dX10_file_42 (by decide) ?_
    refine va_put (D := D) (ci := 6) (v := .int (0 : Int32)) (ty := .int) (C := RX6) (T := TX6) (N := 3) hx hb hts iX10_file_X6 tyX6 tyX6_ok nmX6 hown hK.1 hP hD hS 11 rfl rfl 2 (by decide) (hts _ mX10_file_6) (fun _ h9 => h9) rfl (tyX6_ok 2 (by decide)) rfl rfl (Nat.le_of_ble_eq_true rfl) dX10_file_43 (fun H locs hP hD hS => ?_)
    have hP : va_P D vwCl [(a_t, .inr (10, [.ref a_t_text, .ref a_t_telling, .ref a_t_now, .ref a_t_past, .ref a_t_images, .ref a_t_meeting, .ref a_t_seen, .ref a_t_chances, .ref a_t_search, .int v_t_valueRead])), (a_t_text, .inr (2, [.ref a_t_text_letters, .int v_t_text_length])), (a_t_text_letters, .inl (cI, 120, .inl v_t_text_letters)), (a_t_telling, .inr (8, [.ref a_t_telling_tokens, .ref a_t_telling_votes, .int jg2, .int jg3, .int jg4, .int jg5, .int jg6])), (a_t_telling_tokens, .inr (9, [.ref a_t_text, .int jg7, .int jg8, .int jg9, .int jg10])), (a_t_telling_votes, .inl (cI, 6, .inl jg11)), (a_t_now, .inr (7, [.ref a_t_now_row])), (a_t_now_row, .inl (cI, 104, .inl jg14)), (a_t_past, .inr (4, [.ref a_t_past_rows, .int v_t_past_next, .int (0 : Int32)])), (a_t_images, .inr (1, [.ref a_t_images_rows, .ref a_t_images_kept])), (a_t_images_kept, .inl (cZ, 2, .inl v_t_images_kept)), (a_t_seen, .inr (6, [.ref a_t_seen_ways, .ref a_t_seen_enough, .int (0 : Int32)]))] H := hP
    have hD : va_D A [(a_t, .inr (10, [.ref a_t_text, .ref a_t_telling, .ref a_t_now, .ref a_t_past, .ref a_t_images, .ref a_t_meeting, .ref a_t_seen, .ref a_t_chances, .ref a_t_search, .int v_t_valueRead])), (a_t_text, .inr (2, [.ref a_t_text_letters, .int v_t_text_length])), (a_t_text_letters, .inl (cI, 120, .inl v_t_text_letters)), (a_t_telling, .inr (8, [.ref a_t_telling_tokens, .ref a_t_telling_votes, .int jg2, .int jg3, .int jg4, .int jg5, .int jg6])), (a_t_telling_tokens, .inr (9, [.ref a_t_text, .int jg7, .int jg8, .int jg9, .int jg10])), (a_t_telling_votes, .inl (cI, 6, .inl jg11)), (a_t_now, .inr (7, [.ref a_t_now_row])), (a_t_now_row, .inl (cI, 104, .inl jg14)), (a_t_past, .inr (4, [.ref a_t_past_rows, .int v_t_past_next, .int (0 : Int32)])), (a_t_images, .inr (1, [.ref a_t_images_rows, .ref a_t_images_kept])), (a_t_images_kept, .inl (cZ, 2, .inl v_t_images_kept)), (a_t_seen, .inr (6, [.ref a_t_seen_ways, .ref a_t_seen_enough, .int (0 : Int32)]))] := hD
    refine lv_aload_n hx hb dX10_file_46 rfl (lv_at hl 1 rfl) ?_
    refine va_get (D := D) (ci := 10) (v := .ref a_t_images) (C := RX10) (T := TX10) (N := 10) hx hb hts iX10_file_X10 hown hK.1 hP 0 rfl rfl 4 (by decide) (hts _ mX10_file_7) (fun _ h9 => h9) rfl dX10_file_47 ?_
    obtain ⟨jg16, je17, hf⟩ := bd1_inv hf
    refine callMV (As := []) (rest := []) (wr := [(a_t, .inr (10, [.ref a_t_text, .ref a_t_telling, .ref a_t_now, .ref a_t_past, .ref a_t_images, .ref a_t_meeting, .ref a_t_seen, .ref a_t_chances, .ref a_t_search, .int v_t_valueRead])), (a_t_text, .inr (2, [.ref a_t_text_letters, .int v_t_text_length])), (a_t_text_letters, .inl (cI, 120, .inl v_t_text_letters)), (a_t_telling, .inr (8, [.ref a_t_telling_tokens, .ref a_t_telling_votes, .int jg2, .int jg3, .int jg4, .int jg5, .int jg6])), (a_t_telling_tokens, .inr (9, [.ref a_t_text, .int jg7, .int jg8, .int jg9, .int jg10])), (a_t_telling_votes, .inl (cI, 6, .inl jg11)), (a_t_now, .inr (7, [.ref a_t_now_row])), (a_t_now_row, .inl (cI, 104, .inl jg14)), (a_t_past, .inr (4, [.ref a_t_past_rows, .int v_t_past_next, .int (0 : Int32)])), (a_t_seen, .inr (6, [.ref a_t_seen_ways, .ref a_t_seen_enough, .int (0 : Int32)]))]) (wn := [(a_t, .inr (10, [.ref a_t_text, .ref a_t_telling, .ref a_t_now, .ref a_t_past, .ref a_t_images, .ref a_t_meeting, .ref a_t_seen, .ref a_t_chances, .ref a_t_search, .int v_t_valueRead])), (a_t_text, .inr (2, [.ref a_t_text_letters, .int v_t_text_length])), (a_t_text_letters, .inl (cI, 120, .inl v_t_text_letters)), (a_t_telling, .inr (8, [.ref a_t_telling_tokens, .ref a_t_telling_votes, .int jg2, .int jg3, .int jg4, .int jg5, .int jg6])), (a_t_telling_tokens, .inr (9, [.ref a_t_text, .int jg7, .int jg8, .int jg9, .int jg10])), (a_t_telling_votes, .inl (cI, 6, .inl jg11)), (a_t_now, .inr (7, [.ref a_t_now_row])), (a_t_now_row, .inl (cI, 104, .inl jg14)), (a_t_past, .inr (4, [.ref a_t_past_rows, .int v_t_past_next, .int (0 : Int32)])), (a_t_images, .inr (1, [.ref a_t_images_rows, .ref a_t_images_kept])), (a_t_images_kept, .inl (cZ, 2, .inl jg16)), (a_t_seen, .inr (6, [.ref a_t_seen_ways, .ref a_t_seen_enough, .int (0 : Int32)]))]) S (ctX1_drop l D cI cZ a_t_images a_t_images_rows a_t_images_kept v_t_images_kept jg16 je17) (cwV 0 hts gX10_file_X1_drop rfl rfl rfl ⟨rfl, hdX1_drop⟩ ⟨Nat.le_of_ble_eq_true rfl, Nat.le_of_ble_eq_true rfl⟩) hP hD hS hA [9, 10] [0, 1, 2, 3, 4, 5, 6, 7, 8, 11] [0, 1, 2, 3, 4, 5, 6, 7, 8, 10, 11, 9] rfl rfl (by decide) (by decide) (by decide) (by decide) rfl KX.xs (fun U _ hW => hK.warm hW) (va_recv hK.1 hP (ci := 1) (q0 := 9) rfl rfl) rfl hl.1 rfl (Nat.le_of_ble_eq_true rfl) dX10_file_50 ⟨Nat.zero_le _, Nat.zero_le _⟩ (fun H locs hP hD hS => ?_)
    refine W.eq (g2 := F0 m 53 ls []) rfl ?_
    refine lv_aload_n hx hb dX10_file_53 rfl (lv_at hl 1 rfl) ?_
    refine va_get (D := D) (ci := 10) (v := .ref a_t_text) (C := RX10) (T := TX10) (N := 10) hx hb hts iX10_file_X10 hown hK.1 hP 0 rfl rfl 0 (by decide) (hts _ mX10_file_8) (fun _ h9 => h9) rfl dX10_file_54 ?_
    refine lv_iconst (v := 0) hx hb dX10_file_57 (by decide) ?_
    refine va_put (D := D) (ci := 2) (v := .int (0 : Int32)) (ty := .int) (C := RX2) (T := TX2) (N := 2) hx hb hts iX10_file_X2 tyX2 tyX2_ok nmX2 hown hK.1 hP hD hS 1 rfl rfl 1 (by decide) (hts _ mX10_file_9) (fun _ h9 => h9) rfl (tyX2_ok 1 (by decide)) rfl rfl (Nat.le_of_ble_eq_true rfl) dX10_file_58 (fun H locs hP hD hS => ?_)
    have hP : va_P D vwCl [(a_t, .inr (10, [.ref a_t_text, .ref a_t_telling, .ref a_t_now, .ref a_t_past, .ref a_t_images, .ref a_t_meeting, .ref a_t_seen, .ref a_t_chances, .ref a_t_search, .int v_t_valueRead])), (a_t_text, .inr (2, [.ref a_t_text_letters, .int (0 : Int32)])), (a_t_text_letters, .inl (cI, 120, .inl v_t_text_letters)), (a_t_telling, .inr (8, [.ref a_t_telling_tokens, .ref a_t_telling_votes, .int jg2, .int jg3, .int jg4, .int jg5, .int jg6])), (a_t_telling_tokens, .inr (9, [.ref a_t_text, .int jg7, .int jg8, .int jg9, .int jg10])), (a_t_telling_votes, .inl (cI, 6, .inl jg11)), (a_t_now, .inr (7, [.ref a_t_now_row])), (a_t_now_row, .inl (cI, 104, .inl jg14)), (a_t_past, .inr (4, [.ref a_t_past_rows, .int v_t_past_next, .int (0 : Int32)])), (a_t_images, .inr (1, [.ref a_t_images_rows, .ref a_t_images_kept])), (a_t_images_kept, .inl (cZ, 2, .inl jg16)), (a_t_seen, .inr (6, [.ref a_t_seen_ways, .ref a_t_seen_enough, .int (0 : Int32)]))] H := hP
    have hD : va_D A [(a_t, .inr (10, [.ref a_t_text, .ref a_t_telling, .ref a_t_now, .ref a_t_past, .ref a_t_images, .ref a_t_meeting, .ref a_t_seen, .ref a_t_chances, .ref a_t_search, .int v_t_valueRead])), (a_t_text, .inr (2, [.ref a_t_text_letters, .int (0 : Int32)])), (a_t_text_letters, .inl (cI, 120, .inl v_t_text_letters)), (a_t_telling, .inr (8, [.ref a_t_telling_tokens, .ref a_t_telling_votes, .int jg2, .int jg3, .int jg4, .int jg5, .int jg6])), (a_t_telling_tokens, .inr (9, [.ref a_t_text, .int jg7, .int jg8, .int jg9, .int jg10])), (a_t_telling_votes, .inl (cI, 6, .inl jg11)), (a_t_now, .inr (7, [.ref a_t_now_row])), (a_t_now_row, .inl (cI, 104, .inl jg14)), (a_t_past, .inr (4, [.ref a_t_past_rows, .int v_t_past_next, .int (0 : Int32)])), (a_t_images, .inr (1, [.ref a_t_images_rows, .ref a_t_images_kept])), (a_t_images_kept, .inl (cZ, 2, .inl jg16)), (a_t_seen, .inr (6, [.ref a_t_seen_ways, .ref a_t_seen_enough, .int (0 : Int32)]))] := hD
    refine lv_aload_n hx hb dX10_file_61 rfl (lv_at hl 1 rfl) ?_
    refine va_get (D := D) (ci := 10) (v := .ref a_t_telling) (C := RX10) (T := TX10) (N := 10) hx hb hts iX10_file_X10 hown hK.1 hP 0 rfl rfl 1 (by decide) (hts _ mX10_file_1) (fun _ h9 => h9) rfl dX10_file_62 ?_
    refine va_get (D := D) (ci := 8) (v := .int jg6) (C := RX8) (T := TX8) (N := 7) hx hb hts iX10_file_X8 hown hK.1 hP 3 rfl rfl 6 (by decide) (hts _ mX10_file_10) (fun _ h9 => h9) rfl dX10_file_65 ?_
    obtain ⟨rfl, rfl, rfl, rfl, rfl, rfl, rfl, rfl, rfl, rfl, rfl, rfl, rfl, rfl, rfl, rfl⟩ := pr16_inv hf
    exact retM hx hb hr hlk hP hD hS dX10_file_68
  · have hf := ite_f jc13 hf
    refine lv_bipush (v := -10) hx hb dX10_file_14 (by decide) ?_
    refine lv_iload_n hx hb dX10_file_16 rfl (lv_at hl 0 rfl) ?_
    refine lv_isub hx hb dX10_file_17 ?_
    obtain ⟨rfl, rfl, rfl, rfl, rfl, rfl, rfl, rfl, rfl, rfl, rfl, rfl, rfl, rfl, rfl, rfl⟩ := pr16_inv hf
    exact retM hx hb hr hlk hP hD hS dX10_file_18
def fX10_isGroup (jx0 : Int32) : Option (Int32) := bd1 (fX10_isWithin jx0 (0 : Int32) (2 : Int32)) (fun jr1 => zcI jr1 (some jr1))
abbrev rmX10_isGroup : Room := { frames := 1, cells := 0, slots := 0, locals := 22 }
theorem hdX10_isGroup : yX10_isGroup.cls ≠ "java/lang/invoke/MethodHandle" ∧ yX10_isGroup.cls ≠ "java/lang/invoke/VarHandle" ∧ (parseMethodDescriptor yX10_isGroup.desc).map (fun d => d.parameters.length) = some 1 := by decide +kernel
set_option maxHeartbeats 4000000 in
set_option maxRecDepth 100000 in
theorem ctX10_isGroup (l : Launch) (D : va_G) (cI cZ : ClassId) (jx0 : Int32) (r : Int32) (hf : fX10_isGroup jx0 = some r) : cR l yX10_isGroup wsX10_isGroup rmX10_isGroup [.int jx0] D [] (KX D cI cZ) r := by
  refine cR_of (cc := cX10_isGroup) (maxL := 1) (ret := some .boolean) (by decide +kernel) rfl _ (Nat.le_of_ble_eq_true rfl) ?_
  intro p e s m below meth c ls S hr hlk hP hK hl
  obtain ⟨hx, hb, hml, hown, hts⟩ := id S
  have hl : lv_has ls 1 [(0, .int jx0)] := hl
  unfold fX10_isGroup at hf
  refine lv_iload_n hx hb dX10_isGroup_0 rfl (lv_at hl 0 rfl) ?_
  refine lv_iconst (v := 0) hx hb dX10_isGroup_1 (by decide) ?_
  refine lv_iconst (v := 2) hx hb dX10_isGroup_2 (by decide) ?_
  obtain ⟨jr1, je2, hf⟩ := bd1_inv hf
  refine callRS (As := [.int jx0, .int (0 : Int32), .int (2 : Int32)]) (rest := []) S (ctX10_isWithin l D cI cZ jx0 (0 : Int32) (2 : Int32) jr1 je2) (va_cwS 3 hts gX10_isGroup_X10_isWithin rfl rfl rfl hdX10_isWithin ⟨Nat.le_of_ble_eq_true rfl, Nat.le_of_ble_eq_true rfl⟩) hP [] rfl KX.xs (fun U _ hW => hK.warm hW) rfl hl.1 rfl (Nat.le_of_ble_eq_true rfl) dX10_isGroup_3 ⟨Nat.zero_le _, Nat.zero_le _⟩ ?_
  obtain ⟨jh3, hf⟩ := zcI_inv hf
  obtain rfl := Option.some.inj hf
  exact retRz hx hb hr hlk (nar_z jh3) dX10_isGroup_6
def fX10_lookToRead (jx1 : Int32) (v_t_now_row : (Nat → Int32)) (v_t_meeting_present : Int32) (v_t_meeting_known : Int32) (v_t_meeting_votes : Int32) (v_t_meeting_latest : Int32) (v_t_meeting_value : Int32) (v_t_meeting_read : Int32) (v_t_meeting_write : Int32) : Option (Int32 × Int32 × Int32 × Int32 × Int32 × Int32 × Int32 × Int32) := bd1 (fX10_isGroup jx1) (fun jr1 => if jr1 = 0 then some ((-1 : Int32), v_t_meeting_present, v_t_meeting_known, v_t_meeting_votes, v_t_meeting_latest, v_t_meeting_value, v_t_meeting_read, v_t_meeting_write) else bd7 (fX3_look jx1 v_t_meeting_present v_t_meeting_known v_t_meeting_votes v_t_meeting_latest v_t_meeting_value v_t_meeting_read v_t_meeting_write v_t_now_row) (fun jg4 jg5 jg6 jg7 jg8 jg9 jg10 => bd1 (fX3_refusal jg9 (1 : Int32) jg4 jg6 jg8) (fun jr12 => some (jr12, jg4, jg5, jg6, jg7, jg8, jg9, jg10))))
abbrev rmX10_lookToRead : Room := { frames := 3, cells := 0, slots := 0, locals := 69 }
theorem iX10_lookToRead_X10 : ∀ w ∈ wsX100, w ∈ wsX10_lookToRead := fun _ h => List.mem_cons_of_mem _ (List.mem_append_left _ (List.mem_append_left _ (List.mem_append_right _ h)))
theorem mX10_lookToRead_1 : (Cond.fieldLink RX10 49 "VoteFiles" "meeting" "LVoteFiles$Meeting;") ∈ wsX10_lookToRead := List.mem_of_getElem? (i := 1) rfl
theorem mX10_lookToRead_2 : (Cond.fieldLink RX10 28 "VoteFiles" "now" "LVoteFiles$Shape;") ∈ wsX10_lookToRead := List.mem_of_getElem? (i := 2) rfl
theorem iX10_lookToRead_X3 : ∀ w ∈ wsX30, w ∈ wsX10_lookToRead := fun _ h => List.mem_cons_of_mem _ (List.mem_append_left _ (List.mem_append_right _ h))
theorem mX10_lookToRead_3 : (Cond.fieldLink RX10 208 "VoteFiles$Meeting" "read" "I") ∈ wsX10_lookToRead := List.mem_of_getElem? (i := 3) rfl
theorem hdX10_lookToRead : yX10_lookToRead.cls ≠ "java/lang/invoke/MethodHandle" ∧ yX10_lookToRead.cls ≠ "java/lang/invoke/VarHandle" ∧ (parseMethodDescriptor yX10_lookToRead.desc).map (fun d => d.parameters.length) = some 1 := by decide +kernel
set_option maxHeartbeats 4000000 in
set_option maxRecDepth 100000 in
theorem ctX10_lookToRead (l : Launch) (D : va_G) (cI cZ : ClassId) (a_t a_t_text a_t_telling a_t_now a_t_past a_t_images a_t_meeting a_t_seen a_t_chances a_t_search a_t_now_row : Nat) (jx1 : Int32) (v_t_now_row : (Nat → Int32)) (v_t_meeting_present : Int32) (v_t_meeting_known : Int32) (v_t_meeting_votes : Int32) (v_t_meeting_latest : Int32) (v_t_meeting_value : Int32) (v_t_meeting_read : Int32) (v_t_meeting_write : Int32) (v_t_valueRead : Int32) (r : Int32) (o_t_meeting_present : Int32) (o_t_meeting_known : Int32) (o_t_meeting_votes : Int32) (o_t_meeting_latest : Int32) (o_t_meeting_value : Int32) (o_t_meeting_read : Int32) (o_t_meeting_write : Int32) (hf : fX10_lookToRead jx1 v_t_now_row v_t_meeting_present v_t_meeting_known v_t_meeting_votes v_t_meeting_latest v_t_meeting_value v_t_meeting_read v_t_meeting_write = some (r, o_t_meeting_present, o_t_meeting_known, o_t_meeting_votes, o_t_meeting_latest, o_t_meeting_value, o_t_meeting_read, o_t_meeting_write)) : cM l yX10_lookToRead wsX10_lookToRead rmX10_lookToRead [.ref a_t, .int jx1] D [(a_t, .inr (10, [.ref a_t_text, .ref a_t_telling, .ref a_t_now, .ref a_t_past, .ref a_t_images, .ref a_t_meeting, .ref a_t_seen, .ref a_t_chances, .ref a_t_search, .int v_t_valueRead])), (a_t_now, .inr (7, [.ref a_t_now_row])), (a_t_now_row, .inl (cI, 104, .inl v_t_now_row)), (a_t_meeting, .inr (3, [.int v_t_meeting_present, .int v_t_meeting_known, .int v_t_meeting_votes, .int v_t_meeting_latest, .int v_t_meeting_value, .int v_t_meeting_read, .int v_t_meeting_write]))] [(a_t, .inr (10, [.ref a_t_text, .ref a_t_telling, .ref a_t_now, .ref a_t_past, .ref a_t_images, .ref a_t_meeting, .ref a_t_seen, .ref a_t_chances, .ref a_t_search, .int v_t_valueRead])), (a_t_now, .inr (7, [.ref a_t_now_row])), (a_t_now_row, .inl (cI, 104, .inl v_t_now_row)), (a_t_meeting, .inr (3, [.int o_t_meeting_present, .int o_t_meeting_known, .int o_t_meeting_votes, .int o_t_meeting_latest, .int o_t_meeting_value, .int o_t_meeting_read, .int o_t_meeting_write]))] (KX D cI cZ) (some (.int r)) := by
  refine cM_of (cc := cX10_lookToRead) (maxL := 2) (ret := some .int) (by decide +kernel) rfl _ (Nat.le_of_ble_eq_true rfl) ?_
  intro p e s m below meth c ls A S hr hlk hP hK hl hD hA hS
  obtain ⟨hx, hb, hml, hown, hts⟩ := id S
  have hl : lv_has ls 2 [(0, .ref a_t), (1, .int jx1)] := hl
  unfold fX10_lookToRead at hf
  refine lv_iload_n hx hb dX10_lookToRead_0 rfl (lv_at hl 1 rfl) ?_
  obtain ⟨jr1, je2, hf⟩ := bd1_inv hf
  refine callRS (As := [.int jx1]) (rest := []) S (ctX10_isGroup l D cI cZ jx1 jr1 je2) (va_cwS 1 hts gX10_lookToRead_X10_isGroup rfl rfl rfl hdX10_isGroup ⟨Nat.le_of_ble_eq_true rfl, Nat.le_of_ble_eq_true rfl⟩) hP [] rfl KX.xs (fun U _ hW => hK.warm hW) rfl hl.1 rfl (Nat.le_of_ble_eq_true rfl) dX10_lookToRead_1 ⟨Nat.zero_le _, Nat.zero_le _⟩ ?_
  refine lv_if_ne (tgt := 9) hx hb dX10_lookToRead_4 (by decide) (fun jc3 => ?_) (fun jc3 => ?_)
  · have hf := ite_f jc3 hf
    refine lv_aload_n hx hb dX10_lookToRead_9 rfl (lv_at hl 0 rfl) ?_
    refine va_get (D := D) (ci := 10) (v := .ref a_t_meeting) (C := RX10) (T := TX10) (N := 10) hx hb hts iX10_lookToRead_X10 hown hK.1 hP 0 rfl rfl 5 (by decide) (hts _ mX10_lookToRead_1) (fun _ h9 => h9) rfl dX10_lookToRead_10 ?_
    refine lv_aload_n hx hb dX10_lookToRead_13 rfl (lv_at hl 0 rfl) ?_
    refine va_get (D := D) (ci := 10) (v := .ref a_t_now) (C := RX10) (T := TX10) (N := 10) hx hb hts iX10_lookToRead_X10 hown hK.1 hP 0 rfl rfl 2 (by decide) (hts _ mX10_lookToRead_2) (fun _ h9 => h9) rfl dX10_lookToRead_14 ?_
    refine lv_iload_n hx hb dX10_lookToRead_17 rfl (lv_at hl 1 rfl) ?_
    obtain ⟨jg4, jg5, jg6, jg7, jg8, jg9, jg10, je11, hf⟩ := bd7_inv hf
    refine callMV (As := [.ref a_t_now, .int jx1]) (rest := []) (wr := [(a_t, .inr (10, [.ref a_t_text, .ref a_t_telling, .ref a_t_now, .ref a_t_past, .ref a_t_images, .ref a_t_meeting, .ref a_t_seen, .ref a_t_chances, .ref a_t_search, .int v_t_valueRead]))]) (wn := [(a_t, .inr (10, [.ref a_t_text, .ref a_t_telling, .ref a_t_now, .ref a_t_past, .ref a_t_images, .ref a_t_meeting, .ref a_t_seen, .ref a_t_chances, .ref a_t_search, .int v_t_valueRead])), (a_t_now, .inr (7, [.ref a_t_now_row])), (a_t_now_row, .inl (cI, 104, .inl v_t_now_row)), (a_t_meeting, .inr (3, [.int jg4, .int jg5, .int jg6, .int jg7, .int jg8, .int jg9, .int jg10]))]) S (ctX3_look l D cI cZ a_t_meeting a_t_now a_t_now_row jx1 v_t_meeting_present v_t_meeting_known v_t_meeting_votes v_t_meeting_latest v_t_meeting_value v_t_meeting_read v_t_meeting_write v_t_now_row jg4 jg5 jg6 jg7 jg8 jg9 jg10 je11) (cwV 2 hts gX10_lookToRead_X3_look rfl rfl rfl ⟨rfl, hdX3_look⟩ ⟨Nat.le_of_ble_eq_true rfl, Nat.le_of_ble_eq_true rfl⟩) hP hD hS hA [3, 1, 2] [0] [0, 2, 3, 1] rfl rfl (by decide) (by decide) (by decide) (by decide) rfl KX.xs (fun U _ hW => hK.warm hW) (va_recv hK.1 hP (ci := 3) (q0 := 3) rfl rfl) rfl hl.1 rfl (Nat.le_of_ble_eq_true rfl) dX10_lookToRead_18 ⟨Nat.zero_le _, Nat.zero_le _⟩ (fun H locs hP hD hS => ?_)
    refine W.eq (g2 := F0 m 21 ls []) rfl ?_
    refine lv_aload_n hx hb dX10_lookToRead_21 rfl (lv_at hl 0 rfl) ?_
    refine va_get (D := D) (ci := 10) (v := .ref a_t_meeting) (C := RX10) (T := TX10) (N := 10) hx hb hts iX10_lookToRead_X10 hown hK.1 hP 0 rfl rfl 5 (by decide) (hts _ mX10_lookToRead_1) (fun _ h9 => h9) rfl dX10_lookToRead_22 ?_
    refine lv_aload_n hx hb dX10_lookToRead_25 rfl (lv_at hl 0 rfl) ?_
    refine va_get (D := D) (ci := 10) (v := .ref a_t_meeting) (C := RX10) (T := TX10) (N := 10) hx hb hts iX10_lookToRead_X10 hown hK.1 hP 0 rfl rfl 5 (by decide) (hts _ mX10_lookToRead_1) (fun _ h9 => h9) rfl dX10_lookToRead_26 ?_
    refine va_get (D := D) (ci := 3) (v := .int jg9) (C := RX3) (T := TX3) (N := 7) hx hb hts iX10_lookToRead_X3 hown hK.1 hP 3 rfl rfl 5 (by decide) (hts _ mX10_lookToRead_3) (fun _ h9 => h9) rfl dX10_lookToRead_29 ?_
    refine lv_iconst (v := 1) hx hb dX10_lookToRead_32 (by decide) ?_
    obtain ⟨jr12, je13, hf⟩ := bd1_inv hf
    refine callRV (As := [.int jg9, .int (1 : Int32)]) (rest := []) S (ctX3_refusal l D cI cZ a_t_meeting jg9 (1 : Int32) jg4 jg6 jg8 jg5 jg7 jg9 jg10 jr12 je13) (cwV 2 hts gX10_lookToRead_X3_refusal rfl rfl rfl ⟨rfl, hdX3_refusal⟩ ⟨Nat.le_of_ble_eq_true rfl, Nat.le_of_ble_eq_true rfl⟩) hP [3] rfl KX.xs (fun U _ hW => hK.warm hW) (va_recv hK.1 hP (ci := 3) (q0 := 3) rfl rfl) rfl hl.1 rfl (Nat.le_of_ble_eq_true rfl) dX10_lookToRead_33 ⟨Nat.zero_le _, Nat.zero_le _⟩ ?_
    obtain ⟨rfl, rfl, rfl, rfl, rfl, rfl, rfl, rfl⟩ := pr8_inv hf
    exact retM hx hb hr hlk hP hD hS dX10_lookToRead_36
  · have hf := ite_t jc3 hf
    refine lv_iconst (v := -1) hx hb dX10_lookToRead_7 (by decide) ?_
    obtain ⟨rfl, rfl, rfl, rfl, rfl, rfl, rfl, rfl⟩ := pr8_inv hf
    exact retM hx hb hr hlk hP hD hS dX10_lookToRead_8
def fX10_reads (jx1 : Int32) (v_t_valueRead : Int32) (v_t_now_row : (Nat → Int32)) (v_t_meeting_present : Int32) (v_t_meeting_known : Int32) (v_t_meeting_votes : Int32) (v_t_meeting_latest : Int32) (v_t_meeting_value : Int32) (v_t_meeting_read : Int32) (v_t_meeting_write : Int32) : Option (Int32 × Int32 × Int32 × Int32 × Int32 × Int32 × Int32 × Int32 × Int32) := bd8 (fX10_lookToRead jx1 v_t_now_row v_t_meeting_present v_t_meeting_known v_t_meeting_votes v_t_meeting_latest v_t_meeting_value v_t_meeting_read v_t_meeting_write) (fun jr1 jg2 jg3 jg4 jg5 jg6 jg7 jg8 => if jr1 = 0 then some (jg5, jg6, jg2, jg3, jg4, jg5, jg6, jg7, jg8) else some (jr1, v_t_valueRead, jg2, jg3, jg4, jg5, jg6, jg7, jg8))
abbrev rmX10_reads : Room := { frames := 4, cells := 0, slots := 0, locals := 90 }
theorem iX10_reads_X10 : ∀ w ∈ wsX100, w ∈ wsX10_reads := fun _ h => List.mem_cons_of_mem _ (List.mem_append_left _ (List.mem_append_left _ (List.mem_append_right _ h)))
theorem mX10_reads_1 : (Cond.fieldLink RX10 49 "VoteFiles" "meeting" "LVoteFiles$Meeting;") ∈ wsX10_reads := List.mem_of_getElem? (i := 1) rfl
theorem iX10_reads_X3 : ∀ w ∈ wsX30, w ∈ wsX10_reads := fun _ h => List.mem_cons_of_mem _ (List.mem_append_left _ (List.mem_append_right _ h))
theorem mX10_reads_2 : (Cond.fieldLink RX10 111 "VoteFiles$Meeting" "value" "I") ∈ wsX10_reads := List.mem_of_getElem? (i := 2) rfl
theorem mX10_reads_3 : (Cond.fieldLink RX10 74 "VoteFiles" "valueRead" "I") ∈ wsX10_reads := List.mem_of_getElem? (i := 3) rfl
theorem mX10_reads_4 : (Cond.fieldLink RX10 114 "VoteFiles$Meeting" "latest" "I") ∈ wsX10_reads := List.mem_of_getElem? (i := 4) rfl
theorem hdX10_reads : yX10_reads.cls ≠ "java/lang/invoke/MethodHandle" ∧ yX10_reads.cls ≠ "java/lang/invoke/VarHandle" ∧ (parseMethodDescriptor yX10_reads.desc).map (fun d => d.parameters.length) = some 1 := by decide +kernel
set_option maxHeartbeats 4000000 in
set_option maxRecDepth 100000 in
theorem ctX10_reads (l : Launch) (D : va_G) (cI cZ : ClassId) (a_t a_t_text a_t_telling a_t_now a_t_past a_t_images a_t_meeting a_t_seen a_t_chances a_t_search a_t_now_row : Nat) (jx1 : Int32) (v_t_valueRead : Int32) (v_t_now_row : (Nat → Int32)) (v_t_meeting_present : Int32) (v_t_meeting_known : Int32) (v_t_meeting_votes : Int32) (v_t_meeting_latest : Int32) (v_t_meeting_value : Int32) (v_t_meeting_read : Int32) (v_t_meeting_write : Int32) (r : Int32) (o_t_valueRead : Int32) (o_t_meeting_present : Int32) (o_t_meeting_known : Int32) (o_t_meeting_votes : Int32) (o_t_meeting_latest : Int32) (o_t_meeting_value : Int32) (o_t_meeting_read : Int32) (o_t_meeting_write : Int32) (hf : fX10_reads jx1 v_t_valueRead v_t_now_row v_t_meeting_present v_t_meeting_known v_t_meeting_votes v_t_meeting_latest v_t_meeting_value v_t_meeting_read v_t_meeting_write = some (r, o_t_valueRead, o_t_meeting_present, o_t_meeting_known, o_t_meeting_votes, o_t_meeting_latest, o_t_meeting_value, o_t_meeting_read, o_t_meeting_write)) : cM l yX10_reads wsX10_reads rmX10_reads [.ref a_t, .int jx1] D [(a_t, .inr (10, [.ref a_t_text, .ref a_t_telling, .ref a_t_now, .ref a_t_past, .ref a_t_images, .ref a_t_meeting, .ref a_t_seen, .ref a_t_chances, .ref a_t_search, .int v_t_valueRead])), (a_t_now, .inr (7, [.ref a_t_now_row])), (a_t_now_row, .inl (cI, 104, .inl v_t_now_row)), (a_t_meeting, .inr (3, [.int v_t_meeting_present, .int v_t_meeting_known, .int v_t_meeting_votes, .int v_t_meeting_latest, .int v_t_meeting_value, .int v_t_meeting_read, .int v_t_meeting_write]))] [(a_t, .inr (10, [.ref a_t_text, .ref a_t_telling, .ref a_t_now, .ref a_t_past, .ref a_t_images, .ref a_t_meeting, .ref a_t_seen, .ref a_t_chances, .ref a_t_search, .int o_t_valueRead])), (a_t_now, .inr (7, [.ref a_t_now_row])), (a_t_now_row, .inl (cI, 104, .inl v_t_now_row)), (a_t_meeting, .inr (3, [.int o_t_meeting_present, .int o_t_meeting_known, .int o_t_meeting_votes, .int o_t_meeting_latest, .int o_t_meeting_value, .int o_t_meeting_read, .int o_t_meeting_write]))] (KX D cI cZ) (some (.int r)) := by
  refine cM_of (cc := cX10_reads) (maxL := 3) (ret := some .int) (by decide +kernel) rfl _ (Nat.le_of_ble_eq_true rfl) ?_
  intro p e s m below meth c ls A S hr hlk hP hK hl hD hA hS
  obtain ⟨hx, hb, hml, hown, hts⟩ := id S
  have hl : lv_has ls 3 [(0, .ref a_t), (1, .int jx1)] := hl
  unfold fX10_reads at hf
  refine lv_aload_n hx hb dX10_reads_0 rfl (lv_at hl 0 rfl) ?_
  refine lv_iload_n hx hb dX10_reads_1 rfl (lv_at hl 1 rfl) ?_
  obtain ⟨jr1, jg2, jg3, jg4, jg5, jg6, jg7, jg8, je9, hf⟩ := bd8_inv hf
  refine callMV (As := [.int jx1]) (rest := []) (wr := []) (wn := [(a_t, .inr (10, [.ref a_t_text, .ref a_t_telling, .ref a_t_now, .ref a_t_past, .ref a_t_images, .ref a_t_meeting, .ref a_t_seen, .ref a_t_chances, .ref a_t_search, .int v_t_valueRead])), (a_t_now, .inr (7, [.ref a_t_now_row])), (a_t_now_row, .inl (cI, 104, .inl v_t_now_row)), (a_t_meeting, .inr (3, [.int jg2, .int jg3, .int jg4, .int jg5, .int jg6, .int jg7, .int jg8]))]) S (ctX10_lookToRead l D cI cZ a_t a_t_text a_t_telling a_t_now a_t_past a_t_images a_t_meeting a_t_seen a_t_chances a_t_search a_t_now_row jx1 v_t_now_row v_t_meeting_present v_t_meeting_known v_t_meeting_votes v_t_meeting_latest v_t_meeting_value v_t_meeting_read v_t_meeting_write v_t_valueRead jr1 jg2 jg3 jg4 jg5 jg6 jg7 jg8 je9) (cwV 1 hts gX10_reads_X10_lookToRead rfl rfl rfl ⟨rfl, hdX10_lookToRead⟩ ⟨Nat.le_of_ble_eq_true rfl, Nat.le_of_ble_eq_true rfl⟩) hP hD hS hA [0, 1, 2, 3] [] [0, 1, 2, 3] rfl rfl (by decide) (by decide) (by decide) (by decide) rfl KX.xs (fun U _ hW => hK.warm hW) (va_recv hK.1 hP (ci := 10) (q0 := 0) rfl rfl) rfl hl.1 rfl (Nat.le_of_ble_eq_true rfl) dX10_reads_2 ⟨Nat.zero_le _, Nat.zero_le _⟩ (fun H locs hP hD hS => ?_)
  refine W.eq (g2 := F0 m 5 ls [.int jr1]) rfl ?_
  refine lv_istore_n (lv' := [(2, .int jr1), (0, .ref a_t), (1, .int jx1)]) hx hb dX10_reads_5 rfl hl (by decide) rfl (fun ls hl => ?_)
  refine lv_iload_n hx hb dX10_reads_6 rfl (lv_at hl 0 rfl) ?_
  refine lv_if_eq (tgt := 12) hx hb dX10_reads_7 (by decide) (fun jc10 => ?_) (fun jc10 => ?_)
  · have hf := ite_t jc10 hf
    refine lv_aload_n hx hb dX10_reads_12 rfl (lv_at hl 1 rfl) ?_
    refine lv_aload_n hx hb dX10_reads_13 rfl (lv_at hl 1 rfl) ?_
    refine va_get (D := D) (ci := 10) (v := .ref a_t_meeting) (C := RX10) (T := TX10) (N := 10) hx hb hts iX10_reads_X10 hown hK.1 hP 0 rfl rfl 5 (by decide) (hts _ mX10_reads_1) (fun _ h9 => h9) rfl dX10_reads_14 ?_
    refine va_get (D := D) (ci := 3) (v := .int jg6) (C := RX3) (T := TX3) (N := 7) hx hb hts iX10_reads_X3 hown hK.1 hP 3 rfl rfl 4 (by decide) (hts _ mX10_reads_2) (fun _ h9 => h9) rfl dX10_reads_17 ?_
    refine va_put (D := D) (ci := 10) (v := .int jg6) (ty := .int) (C := RX10) (T := TX10) (N := 10) hx hb hts iX10_reads_X10 tyX10 tyX10_ok nmX10 hown hK.1 hP hD hS 0 rfl rfl 9 (by decide) (hts _ mX10_reads_3) (fun _ h9 => h9) rfl (tyX10_ok 9 (by decide)) rfl rfl (Nat.le_of_ble_eq_true rfl) dX10_reads_20 (fun H locs hP hD hS => ?_)
    have hP : va_P D vwCl [(a_t, .inr (10, [.ref a_t_text, .ref a_t_telling, .ref a_t_now, .ref a_t_past, .ref a_t_images, .ref a_t_meeting, .ref a_t_seen, .ref a_t_chances, .ref a_t_search, .int jg6])), (a_t_now, .inr (7, [.ref a_t_now_row])), (a_t_now_row, .inl (cI, 104, .inl v_t_now_row)), (a_t_meeting, .inr (3, [.int jg2, .int jg3, .int jg4, .int jg5, .int jg6, .int jg7, .int jg8]))] H := hP
    have hD : va_D A [(a_t, .inr (10, [.ref a_t_text, .ref a_t_telling, .ref a_t_now, .ref a_t_past, .ref a_t_images, .ref a_t_meeting, .ref a_t_seen, .ref a_t_chances, .ref a_t_search, .int jg6])), (a_t_now, .inr (7, [.ref a_t_now_row])), (a_t_now_row, .inl (cI, 104, .inl v_t_now_row)), (a_t_meeting, .inr (3, [.int jg2, .int jg3, .int jg4, .int jg5, .int jg6, .int jg7, .int jg8]))] := hD
    refine lv_aload_n hx hb dX10_reads_23 rfl (lv_at hl 1 rfl) ?_
    refine va_get (D := D) (ci := 10) (v := .ref a_t_meeting) (C := RX10) (T := TX10) (N := 10) hx hb hts iX10_reads_X10 hown hK.1 hP 0 rfl rfl 5 (by decide) (hts _ mX10_reads_1) (fun _ h9 => h9) rfl dX10_reads_24 ?_
    refine va_get (D := D) (ci := 3) (v := .int jg5) (C := RX3) (T := TX3) (N := 7) hx hb hts iX10_reads_X3 hown hK.1 hP 3 rfl rfl 3 (by decide) (hts _ mX10_reads_4) (fun _ h9 => h9) rfl dX10_reads_27 ?_
    obtain ⟨rfl, rfl, rfl, rfl, rfl, rfl, rfl, rfl, rfl⟩ := pr9_inv hf
    exact retM hx hb hr hlk hP hD hS dX10_reads_30
  · have hf := ite_f jc10 hf
    refine lv_iload_n hx hb dX10_reads_10 rfl (lv_at hl 0 rfl) ?_
    obtain ⟨rfl, rfl, rfl, rfl, rfl, rfl, rfl, rfl, rfl⟩ := pr9_inv hf
    exact retM hx hb hr hlk hP hD hS dX10_reads_11
def fX10_writes (jx1 : Int32) (jx2 : Int32) (v_t_now_row : (Nat → Int32)) (v_t_past_next : Int32) (v_t_past_size : Int32) (v_t_past_rows : (Nat → Int32)) (v_t_meeting_present : Int32) (v_t_meeting_known : Int32) (v_t_meeting_votes : Int32) (v_t_meeting_latest : Int32) (v_t_meeting_value : Int32) (v_t_meeting_read : Int32) (v_t_meeting_write : Int32) : Option (Int32 × (Nat → Int32) × Int32 × Int32 × (Nat → Int32) × Int32 × Int32 × Int32 × Int32 × Int32 × Int32 × Int32) := bd1 (fX10_isGroup jx1) (fun jr1 => if jr1 = 0 then some ((-1 : Int32), v_t_now_row, v_t_past_next, v_t_past_size, v_t_past_rows, v_t_meeting_present, v_t_meeting_known, v_t_meeting_votes, v_t_meeting_latest, v_t_meeting_value, v_t_meeting_read, v_t_meeting_write) else bd1 (fX10_isWithin jx2 (0 : Int32) (999 : Int32)) (fun jr4 => if jr4 = 0 then some ((-1 : Int32), v_t_now_row, v_t_past_next, v_t_past_size, v_t_past_rows, v_t_meeting_present, v_t_meeting_known, v_t_meeting_votes, v_t_meeting_latest, v_t_meeting_value, v_t_meeting_read, v_t_meeting_write) else bd7 (fX3_look jx1 v_t_meeting_present v_t_meeting_known v_t_meeting_votes v_t_meeting_latest v_t_meeting_value v_t_meeting_read v_t_meeting_write v_t_now_row) (fun jg7 jg8 jg9 jg10 jg11 jg12 jg13 => bd1 (fX3_refusal jg13 (0 : Int32) jg7 jg9 jg11) (fun jr15 => if jr15 = 0 then bd3 (fX4_remember v_t_past_next v_t_past_size v_t_past_rows v_t_now_row) (fun jg18 jg19 jg20 => bd2 (fX7_renew jg7 jg8 (jg10 + (1 : Int32)) jx2 v_t_now_row) (fun jr22 jg23 => some ((jg10 + (1 : Int32)), jg23, jg18, jg19, jg20, jg7, jg8, jg9, jg10, jg11, jg12, jg13))) else some (jr15, v_t_now_row, v_t_past_next, v_t_past_size, v_t_past_rows, jg7, jg8, jg9, jg10, jg11, jg12, jg13)))))
abbrev rmX10_writes : Room := { frames := 3, cells := 0, slots := 0, locals := 69 }
theorem iX10_writes_X10 : ∀ w ∈ wsX100, w ∈ wsX10_writes := fun _ h => List.mem_cons_of_mem _ (List.mem_append_left _ (List.mem_append_left _ (List.mem_append_left _ (List.mem_append_right _ h))))
theorem mX10_writes_1 : (Cond.fieldLink RX10 49 "VoteFiles" "meeting" "LVoteFiles$Meeting;") ∈ wsX10_writes := List.mem_of_getElem? (i := 1) rfl
theorem mX10_writes_2 : (Cond.fieldLink RX10 28 "VoteFiles" "now" "LVoteFiles$Shape;") ∈ wsX10_writes := List.mem_of_getElem? (i := 2) rfl
theorem iX10_writes_X3 : ∀ w ∈ wsX30, w ∈ wsX10_writes := fun _ h => List.mem_cons_of_mem _ (List.mem_append_left _ (List.mem_append_left _ (List.mem_append_right _ h)))
theorem mX10_writes_3 : (Cond.fieldLink RX10 124 "VoteFiles$Meeting" "write" "I") ∈ wsX10_writes := List.mem_of_getElem? (i := 3) rfl
theorem mX10_writes_4 : (Cond.fieldLink RX10 35 "VoteFiles" "past" "LVoteFiles$Past;") ∈ wsX10_writes := List.mem_of_getElem? (i := 4) rfl
theorem mX10_writes_5 : (Cond.fieldLink RX10 135 "VoteFiles$Meeting" "present" "I") ∈ wsX10_writes := List.mem_of_getElem? (i := 5) rfl
theorem mX10_writes_6 : (Cond.fieldLink RX10 138 "VoteFiles$Meeting" "known" "I") ∈ wsX10_writes := List.mem_of_getElem? (i := 6) rfl
theorem mX10_writes_7 : (Cond.fieldLink RX10 114 "VoteFiles$Meeting" "latest" "I") ∈ wsX10_writes := List.mem_of_getElem? (i := 7) rfl
theorem hdX10_writes : yX10_writes.cls ≠ "java/lang/invoke/MethodHandle" ∧ yX10_writes.cls ≠ "java/lang/invoke/VarHandle" ∧ (parseMethodDescriptor yX10_writes.desc).map (fun d => d.parameters.length) = some 2 := by decide +kernel
set_option maxHeartbeats 4000000 in
set_option maxRecDepth 100000 in
theorem ctX10_writes (l : Launch) (D : va_G) (cI cZ : ClassId) (a_t a_t_text a_t_telling a_t_now a_t_past a_t_images a_t_meeting a_t_seen a_t_chances a_t_search a_t_now_row a_t_past_rows : Nat) (jx1 : Int32) (jx2 : Int32) (v_t_now_row : (Nat → Int32)) (v_t_past_next : Int32) (v_t_past_size : Int32) (v_t_past_rows : (Nat → Int32)) (v_t_meeting_present : Int32) (v_t_meeting_known : Int32) (v_t_meeting_votes : Int32) (v_t_meeting_latest : Int32) (v_t_meeting_value : Int32) (v_t_meeting_read : Int32) (v_t_meeting_write : Int32) (v_t_valueRead : Int32) (r : Int32) (o_t_now_row : (Nat → Int32)) (o_t_past_next : Int32) (o_t_past_size : Int32) (o_t_past_rows : (Nat → Int32)) (o_t_meeting_present : Int32) (o_t_meeting_known : Int32) (o_t_meeting_votes : Int32) (o_t_meeting_latest : Int32) (o_t_meeting_value : Int32) (o_t_meeting_read : Int32) (o_t_meeting_write : Int32) (hf : fX10_writes jx1 jx2 v_t_now_row v_t_past_next v_t_past_size v_t_past_rows v_t_meeting_present v_t_meeting_known v_t_meeting_votes v_t_meeting_latest v_t_meeting_value v_t_meeting_read v_t_meeting_write = some (r, o_t_now_row, o_t_past_next, o_t_past_size, o_t_past_rows, o_t_meeting_present, o_t_meeting_known, o_t_meeting_votes, o_t_meeting_latest, o_t_meeting_value, o_t_meeting_read, o_t_meeting_write)) : cM l yX10_writes wsX10_writes rmX10_writes [.ref a_t, .int jx1, .int jx2] D [(a_t, .inr (10, [.ref a_t_text, .ref a_t_telling, .ref a_t_now, .ref a_t_past, .ref a_t_images, .ref a_t_meeting, .ref a_t_seen, .ref a_t_chances, .ref a_t_search, .int v_t_valueRead])), (a_t_now, .inr (7, [.ref a_t_now_row])), (a_t_now_row, .inl (cI, 104, .inl v_t_now_row)), (a_t_past, .inr (4, [.ref a_t_past_rows, .int v_t_past_next, .int v_t_past_size])), (a_t_past_rows, .inl (cI, 1040, .inl v_t_past_rows)), (a_t_meeting, .inr (3, [.int v_t_meeting_present, .int v_t_meeting_known, .int v_t_meeting_votes, .int v_t_meeting_latest, .int v_t_meeting_value, .int v_t_meeting_read, .int v_t_meeting_write]))] [(a_t, .inr (10, [.ref a_t_text, .ref a_t_telling, .ref a_t_now, .ref a_t_past, .ref a_t_images, .ref a_t_meeting, .ref a_t_seen, .ref a_t_chances, .ref a_t_search, .int v_t_valueRead])), (a_t_now, .inr (7, [.ref a_t_now_row])), (a_t_now_row, .inl (cI, 104, .inl o_t_now_row)), (a_t_past, .inr (4, [.ref a_t_past_rows, .int o_t_past_next, .int o_t_past_size])), (a_t_past_rows, .inl (cI, 1040, .inl o_t_past_rows)), (a_t_meeting, .inr (3, [.int o_t_meeting_present, .int o_t_meeting_known, .int o_t_meeting_votes, .int o_t_meeting_latest, .int o_t_meeting_value, .int o_t_meeting_read, .int o_t_meeting_write]))] (KX D cI cZ) (some (.int r)) := by
  refine cM_of (cc := cX10_writes) (maxL := 4) (ret := some .int) (by decide +kernel) rfl _ (Nat.le_of_ble_eq_true rfl) ?_
  intro p e s m below meth c ls A S hr hlk hP hK hl hD hA hS
  obtain ⟨hx, hb, hml, hown, hts⟩ := id S
  have hl : lv_has ls 4 [(0, .ref a_t), (1, .int jx1), (2, .int jx2)] := hl
  unfold fX10_writes at hf
  refine lv_iload_n hx hb dX10_writes_0 rfl (lv_at hl 1 rfl) ?_
  obtain ⟨jr1, je2, hf⟩ := bd1_inv hf
  refine callRS (As := [.int jx1]) (rest := []) S (ctX10_isGroup l D cI cZ jx1 jr1 je2) (va_cwS 1 hts gX10_writes_X10_isGroup rfl rfl rfl hdX10_isGroup ⟨Nat.le_of_ble_eq_true rfl, Nat.le_of_ble_eq_true rfl⟩) hP [] rfl KX.xs (fun U _ hW => hK.warm hW) rfl hl.1 rfl (Nat.le_of_ble_eq_true rfl) dX10_writes_1 ⟨Nat.zero_le _, Nat.zero_le _⟩ ?_
  refine lv_if_eq (tgt := 18) hx hb dX10_writes_4 (by decide) (fun jc3 => ?_) (fun jc3 => ?_)
  · have hf := ite_t jc3 hf
    refine lv_iconst (v := -1) hx hb dX10_writes_18 (by decide) ?_
    obtain ⟨rfl, rfl, rfl, rfl, rfl, rfl, rfl, rfl, rfl, rfl, rfl, rfl⟩ := pr12_inv hf
    exact retM hx hb hr hlk hP hD hS dX10_writes_19
  · have hf := ite_f jc3 hf
    refine lv_iload_n hx hb dX10_writes_7 rfl (lv_at hl 2 rfl) ?_
    refine lv_iconst (v := 0) hx hb dX10_writes_8 (by decide) ?_
    refine lv_sipush (v := 999) hx hb dX10_writes_9 (by decide) ?_
    obtain ⟨jr4, je5, hf⟩ := bd1_inv hf
    refine callRS (As := [.int jx2, .int (0 : Int32), .int (999 : Int32)]) (rest := []) S (ctX10_isWithin l D cI cZ jx2 (0 : Int32) (999 : Int32) jr4 je5) (va_cwS 3 hts gX10_writes_X10_isWithin rfl rfl rfl hdX10_isWithin ⟨Nat.le_of_ble_eq_true rfl, Nat.le_of_ble_eq_true rfl⟩) hP [] rfl KX.xs (fun U _ hW => hK.warm hW) rfl hl.1 rfl (Nat.le_of_ble_eq_true rfl) dX10_writes_12 ⟨Nat.zero_le _, Nat.zero_le _⟩ ?_
    refine lv_if_ne (tgt := 20) hx hb dX10_writes_15 (by decide) (fun jc6 => ?_) (fun jc6 => ?_)
    · have hf := ite_f jc6 hf
      refine lv_aload_n hx hb dX10_writes_20 rfl (lv_at hl 0 rfl) ?_
      refine va_get (D := D) (ci := 10) (v := .ref a_t_meeting) (C := RX10) (T := TX10) (N := 10) hx hb hts iX10_writes_X10 hown hK.1 hP 0 rfl rfl 5 (by decide) (hts _ mX10_writes_1) (fun _ h9 => h9) rfl dX10_writes_21 ?_
      refine lv_aload_n hx hb dX10_writes_24 rfl (lv_at hl 0 rfl) ?_
      refine va_get (D := D) (ci := 10) (v := .ref a_t_now) (C := RX10) (T := TX10) (N := 10) hx hb hts iX10_writes_X10 hown hK.1 hP 0 rfl rfl 2 (by decide) (hts _ mX10_writes_2) (fun _ h9 => h9) rfl dX10_writes_25 ?_
      refine lv_iload_n hx hb dX10_writes_28 rfl (lv_at hl 1 rfl) ?_
      obtain ⟨jg7, jg8, jg9, jg10, jg11, jg12, jg13, je14, hf⟩ := bd7_inv hf
      refine callMV (As := [.ref a_t_now, .int jx1]) (rest := []) (wr := [(a_t, .inr (10, [.ref a_t_text, .ref a_t_telling, .ref a_t_now, .ref a_t_past, .ref a_t_images, .ref a_t_meeting, .ref a_t_seen, .ref a_t_chances, .ref a_t_search, .int v_t_valueRead])), (a_t_past, .inr (4, [.ref a_t_past_rows, .int v_t_past_next, .int v_t_past_size])), (a_t_past_rows, .inl (cI, 1040, .inl v_t_past_rows))]) (wn := [(a_t, .inr (10, [.ref a_t_text, .ref a_t_telling, .ref a_t_now, .ref a_t_past, .ref a_t_images, .ref a_t_meeting, .ref a_t_seen, .ref a_t_chances, .ref a_t_search, .int v_t_valueRead])), (a_t_now, .inr (7, [.ref a_t_now_row])), (a_t_now_row, .inl (cI, 104, .inl v_t_now_row)), (a_t_past, .inr (4, [.ref a_t_past_rows, .int v_t_past_next, .int v_t_past_size])), (a_t_past_rows, .inl (cI, 1040, .inl v_t_past_rows)), (a_t_meeting, .inr (3, [.int jg7, .int jg8, .int jg9, .int jg10, .int jg11, .int jg12, .int jg13]))]) S (ctX3_look l D cI cZ a_t_meeting a_t_now a_t_now_row jx1 v_t_meeting_present v_t_meeting_known v_t_meeting_votes v_t_meeting_latest v_t_meeting_value v_t_meeting_read v_t_meeting_write v_t_now_row jg7 jg8 jg9 jg10 jg11 jg12 jg13 je14) (cwV 2 hts gX10_writes_X3_look rfl rfl rfl ⟨rfl, hdX3_look⟩ ⟨Nat.le_of_ble_eq_true rfl, Nat.le_of_ble_eq_true rfl⟩) hP hD hS hA [5, 1, 2] [0, 3, 4] [0, 4, 5, 1, 2, 3] rfl rfl (by decide) (by decide) (by decide) (by decide) rfl KX.xs (fun U _ hW => hK.warm hW) (va_recv hK.1 hP (ci := 3) (q0 := 5) rfl rfl) rfl hl.1 rfl (Nat.le_of_ble_eq_true rfl) dX10_writes_29 ⟨Nat.zero_le _, Nat.zero_le _⟩ (fun H locs hP hD hS => ?_)
      refine W.eq (g2 := F0 m 32 ls []) rfl ?_
      refine lv_aload_n hx hb dX10_writes_32 rfl (lv_at hl 0 rfl) ?_
      refine va_get (D := D) (ci := 10) (v := .ref a_t_meeting) (C := RX10) (T := TX10) (N := 10) hx hb hts iX10_writes_X10 hown hK.1 hP 0 rfl rfl 5 (by decide) (hts _ mX10_writes_1) (fun _ h9 => h9) rfl dX10_writes_33 ?_
      refine lv_aload_n hx hb dX10_writes_36 rfl (lv_at hl 0 rfl) ?_
      refine va_get (D := D) (ci := 10) (v := .ref a_t_meeting) (C := RX10) (T := TX10) (N := 10) hx hb hts iX10_writes_X10 hown hK.1 hP 0 rfl rfl 5 (by decide) (hts _ mX10_writes_1) (fun _ h9 => h9) rfl dX10_writes_37 ?_
      refine va_get (D := D) (ci := 3) (v := .int jg13) (C := RX3) (T := TX3) (N := 7) hx hb hts iX10_writes_X3 hown hK.1 hP 5 rfl rfl 6 (by decide) (hts _ mX10_writes_3) (fun _ h9 => h9) rfl dX10_writes_40 ?_
      refine lv_iconst (v := 0) hx hb dX10_writes_43 (by decide) ?_
      obtain ⟨jr15, je16, hf⟩ := bd1_inv hf
      refine callRV (As := [.int jg13, .int (0 : Int32)]) (rest := []) S (ctX3_refusal l D cI cZ a_t_meeting jg13 (0 : Int32) jg7 jg9 jg11 jg8 jg10 jg12 jg13 jr15 je16) (cwV 2 hts gX10_writes_X3_refusal rfl rfl rfl ⟨rfl, hdX3_refusal⟩ ⟨Nat.le_of_ble_eq_true rfl, Nat.le_of_ble_eq_true rfl⟩) hP [5] rfl KX.xs (fun U _ hW => hK.warm hW) (va_recv hK.1 hP (ci := 3) (q0 := 5) rfl rfl) rfl hl.1 rfl (Nat.le_of_ble_eq_true rfl) dX10_writes_44 ⟨Nat.zero_le _, Nat.zero_le _⟩ ?_
      refine lv_istore_n (lv' := [(3, .int jr15), (0, .ref a_t), (1, .int jx1), (2, .int jx2)]) hx hb dX10_writes_47 rfl hl (by decide) rfl (fun ls hl => ?_)
      refine lv_iload_n hx hb dX10_writes_48 rfl (lv_at hl 0 rfl) ?_
      refine lv_if_eq (tgt := 54) hx hb dX10_writes_49 (by decide) (fun jc17 => ?_) (fun jc17 => ?_)
      · have hf := ite_t jc17 hf
        refine lv_aload_n hx hb dX10_writes_54 rfl (lv_at hl 1 rfl) ?_
        refine va_get (D := D) (ci := 10) (v := .ref a_t_past) (C := RX10) (T := TX10) (N := 10) hx hb hts iX10_writes_X10 hown hK.1 hP 0 rfl rfl 3 (by decide) (hts _ mX10_writes_4) (fun _ h9 => h9) rfl dX10_writes_55 ?_
        refine lv_aload_n hx hb dX10_writes_58 rfl (lv_at hl 1 rfl) ?_
        refine va_get (D := D) (ci := 10) (v := .ref a_t_now) (C := RX10) (T := TX10) (N := 10) hx hb hts iX10_writes_X10 hown hK.1 hP 0 rfl rfl 2 (by decide) (hts _ mX10_writes_2) (fun _ h9 => h9) rfl dX10_writes_59 ?_
        obtain ⟨jg18, jg19, jg20, je21, hf⟩ := bd3_inv hf
        refine callMV (As := [.ref a_t_now]) (rest := []) (wr := [(a_t, .inr (10, [.ref a_t_text, .ref a_t_telling, .ref a_t_now, .ref a_t_past, .ref a_t_images, .ref a_t_meeting, .ref a_t_seen, .ref a_t_chances, .ref a_t_search, .int v_t_valueRead])), (a_t_meeting, .inr (3, [.int jg7, .int jg8, .int jg9, .int jg10, .int jg11, .int jg12, .int jg13]))]) (wn := [(a_t, .inr (10, [.ref a_t_text, .ref a_t_telling, .ref a_t_now, .ref a_t_past, .ref a_t_images, .ref a_t_meeting, .ref a_t_seen, .ref a_t_chances, .ref a_t_search, .int v_t_valueRead])), (a_t_now, .inr (7, [.ref a_t_now_row])), (a_t_now_row, .inl (cI, 104, .inl v_t_now_row)), (a_t_past, .inr (4, [.ref a_t_past_rows, .int jg18, .int jg19])), (a_t_past_rows, .inl (cI, 1040, .inl jg20)), (a_t_meeting, .inr (3, [.int jg7, .int jg8, .int jg9, .int jg10, .int jg11, .int jg12, .int jg13]))]) S (ctX4_remember l D cI cZ a_t_past a_t_past_rows a_t_now a_t_now_row v_t_past_next v_t_past_size v_t_past_rows v_t_now_row jg18 jg19 jg20 je21) (cwV 1 hts gX10_writes_X4_remember rfl rfl rfl ⟨rfl, hdX4_remember⟩ ⟨Nat.le_of_ble_eq_true rfl, Nat.le_of_ble_eq_true rfl⟩) hP hD hS hA [3, 4, 1, 2] [0, 5] [0, 4, 5, 2, 3, 1] rfl rfl (by decide) (by decide) (by decide) (by decide) rfl KX.xs (fun U _ hW => hK.warm hW) (va_recv hK.1 hP (ci := 4) (q0 := 3) rfl rfl) rfl hl.1 rfl (Nat.le_of_ble_eq_true rfl) dX10_writes_62 ⟨Nat.zero_le _, Nat.zero_le _⟩ (fun H locs hP hD hS => ?_)
        refine W.eq (g2 := F0 m 65 ls []) rfl ?_
        refine lv_aload_n hx hb dX10_writes_65 rfl (lv_at hl 1 rfl) ?_
        refine va_get (D := D) (ci := 10) (v := .ref a_t_now) (C := RX10) (T := TX10) (N := 10) hx hb hts iX10_writes_X10 hown hK.1 hP 0 rfl rfl 2 (by decide) (hts _ mX10_writes_2) (fun _ h9 => h9) rfl dX10_writes_66 ?_
        refine lv_aload_n hx hb dX10_writes_69 rfl (lv_at hl 1 rfl) ?_
        refine va_get (D := D) (ci := 10) (v := .ref a_t_meeting) (C := RX10) (T := TX10) (N := 10) hx hb hts iX10_writes_X10 hown hK.1 hP 0 rfl rfl 5 (by decide) (hts _ mX10_writes_1) (fun _ h9 => h9) rfl dX10_writes_70 ?_
        refine va_get (D := D) (ci := 3) (v := .int jg7) (C := RX3) (T := TX3) (N := 7) hx hb hts iX10_writes_X3 hown hK.1 hP 5 rfl rfl 0 (by decide) (hts _ mX10_writes_5) (fun _ h9 => h9) rfl dX10_writes_73 ?_
        refine lv_aload_n hx hb dX10_writes_76 rfl (lv_at hl 1 rfl) ?_
        refine va_get (D := D) (ci := 10) (v := .ref a_t_meeting) (C := RX10) (T := TX10) (N := 10) hx hb hts iX10_writes_X10 hown hK.1 hP 0 rfl rfl 5 (by decide) (hts _ mX10_writes_1) (fun _ h9 => h9) rfl dX10_writes_77 ?_
        refine va_get (D := D) (ci := 3) (v := .int jg8) (C := RX3) (T := TX3) (N := 7) hx hb hts iX10_writes_X3 hown hK.1 hP 5 rfl rfl 1 (by decide) (hts _ mX10_writes_6) (fun _ h9 => h9) rfl dX10_writes_80 ?_
        refine lv_aload_n hx hb dX10_writes_83 rfl (lv_at hl 1 rfl) ?_
        refine va_get (D := D) (ci := 10) (v := .ref a_t_meeting) (C := RX10) (T := TX10) (N := 10) hx hb hts iX10_writes_X10 hown hK.1 hP 0 rfl rfl 5 (by decide) (hts _ mX10_writes_1) (fun _ h9 => h9) rfl dX10_writes_84 ?_
        refine va_get (D := D) (ci := 3) (v := .int jg10) (C := RX3) (T := TX3) (N := 7) hx hb hts iX10_writes_X3 hown hK.1 hP 5 rfl rfl 3 (by decide) (hts _ mX10_writes_7) (fun _ h9 => h9) rfl dX10_writes_87 ?_
        refine lv_iconst (v := 1) hx hb dX10_writes_90 (by decide) ?_
        refine lv_iadd hx hb dX10_writes_91 ?_
        refine lv_iload_n hx hb dX10_writes_92 rfl (lv_at hl 3 rfl) ?_
        obtain ⟨jr22, jg23, je24, hf⟩ := bd2_inv hf
        refine callMV (As := [.int jg7, .int jg8, .int (jg10 + (1 : Int32)), .int jx2]) (rest := []) (wr := [(a_t, .inr (10, [.ref a_t_text, .ref a_t_telling, .ref a_t_now, .ref a_t_past, .ref a_t_images, .ref a_t_meeting, .ref a_t_seen, .ref a_t_chances, .ref a_t_search, .int v_t_valueRead])), (a_t_past, .inr (4, [.ref a_t_past_rows, .int jg18, .int jg19])), (a_t_past_rows, .inl (cI, 1040, .inl jg20)), (a_t_meeting, .inr (3, [.int jg7, .int jg8, .int jg9, .int jg10, .int jg11, .int jg12, .int jg13]))]) (wn := [(a_t, .inr (10, [.ref a_t_text, .ref a_t_telling, .ref a_t_now, .ref a_t_past, .ref a_t_images, .ref a_t_meeting, .ref a_t_seen, .ref a_t_chances, .ref a_t_search, .int v_t_valueRead])), (a_t_now, .inr (7, [.ref a_t_now_row])), (a_t_now_row, .inl (cI, 104, .inl jg23)), (a_t_past, .inr (4, [.ref a_t_past_rows, .int jg18, .int jg19])), (a_t_past_rows, .inl (cI, 1040, .inl jg20)), (a_t_meeting, .inr (3, [.int jg7, .int jg8, .int jg9, .int jg10, .int jg11, .int jg12, .int jg13]))]) S (ctX7_renew l D cI cZ a_t_now a_t_now_row jg7 jg8 (jg10 + (1 : Int32)) jx2 v_t_now_row jr22 jg23 je24) (cwV 4 hts gX10_writes_X7_renew rfl rfl rfl ⟨rfl, hdX7_renew⟩ ⟨Nat.le_of_ble_eq_true rfl, Nat.le_of_ble_eq_true rfl⟩) hP hD hS hA [1, 2] [0, 3, 4, 5] [0, 4, 5, 1, 2, 3] rfl rfl (by decide) (by decide) (by decide) (by decide) rfl KX.xs (fun U _ hW => hK.warm hW) (va_recv hK.1 hP (ci := 7) (q0 := 1) rfl rfl) rfl hl.1 rfl (Nat.le_of_ble_eq_true rfl) dX10_writes_93 ⟨Nat.zero_le _, Nat.zero_le _⟩ (fun H locs hP hD hS => ?_)
        refine W.eq (g2 := F0 m 96 ls [.int jr22]) rfl ?_
        refine lv_pop hx hb dX10_writes_96 rfl ?_
        refine lv_aload_n hx hb dX10_writes_97 rfl (lv_at hl 1 rfl) ?_
        refine va_get (D := D) (ci := 10) (v := .ref a_t_meeting) (C := RX10) (T := TX10) (N := 10) hx hb hts iX10_writes_X10 hown hK.1 hP 0 rfl rfl 5 (by decide) (hts _ mX10_writes_1) (fun _ h9 => h9) rfl dX10_writes_98 ?_
        refine va_get (D := D) (ci := 3) (v := .int jg10) (C := RX3) (T := TX3) (N := 7) hx hb hts iX10_writes_X3 hown hK.1 hP 5 rfl rfl 3 (by decide) (hts _ mX10_writes_7) (fun _ h9 => h9) rfl dX10_writes_101 ?_
        refine lv_iconst (v := 1) hx hb dX10_writes_104 (by decide) ?_
        refine lv_iadd hx hb dX10_writes_105 ?_
        obtain ⟨rfl, rfl, rfl, rfl, rfl, rfl, rfl, rfl, rfl, rfl, rfl, rfl⟩ := pr12_inv hf
        exact retM hx hb hr hlk hP hD hS dX10_writes_106
      · have hf := ite_f jc17 hf
        refine lv_iload_n hx hb dX10_writes_52 rfl (lv_at hl 0 rfl) ?_
        obtain ⟨rfl, rfl, rfl, rfl, rfl, rfl, rfl, rfl, rfl, rfl, rfl, rfl⟩ := pr12_inv hf
        exact retM hx hb hr hlk hP hD hS dX10_writes_53
    · have hf := ite_t jc6 hf
      refine lv_iconst (v := -1) hx hb dX10_writes_18 (by decide) ?_
      obtain ⟨rfl, rfl, rfl, rfl, rfl, rfl, rfl, rfl, rfl, rfl, rfl, rfl⟩ := pr12_inv hf
      exact retM hx hb hr hlk hP hD hS dX10_writes_19
def fX10_mends (jx1 : Int32) (v_t_now_row : (Nat → Int32)) (v_t_past_next : Int32) (v_t_past_size : Int32) (v_t_past_rows : (Nat → Int32)) (v_t_meeting_present : Int32) (v_t_meeting_known : Int32) (v_t_meeting_votes : Int32) (v_t_meeting_latest : Int32) (v_t_meeting_value : Int32) (v_t_meeting_read : Int32) (v_t_meeting_write : Int32) : Option (Int32 × (Nat → Int32) × Int32 × Int32 × (Nat → Int32) × Int32 × Int32 × Int32 × Int32 × Int32 × Int32 × Int32) := bd8 (fX10_lookToRead jx1 v_t_now_row v_t_meeting_present v_t_meeting_known v_t_meeting_votes v_t_meeting_latest v_t_meeting_value v_t_meeting_read v_t_meeting_write) (fun jr1 jg2 jg3 jg4 jg5 jg6 jg7 jg8 => if jr1 = 0 then bd3 (fX4_remember v_t_past_next v_t_past_size v_t_past_rows v_t_now_row) (fun jg11 jg12 jg13 => bd2 (fX7_renew jg2 jg3 jg5 jg6 v_t_now_row) (fun jr15 jg16 => some (jr15, jg16, jg11, jg12, jg13, jg2, jg3, jg4, jg5, jg6, jg7, jg8))) else some (jr1, v_t_now_row, v_t_past_next, v_t_past_size, v_t_past_rows, jg2, jg3, jg4, jg5, jg6, jg7, jg8))
abbrev rmX10_mends : Room := { frames := 4, cells := 0, slots := 0, locals := 90 }
theorem iX10_mends_X10 : ∀ w ∈ wsX100, w ∈ wsX10_mends := fun _ h => List.mem_cons_of_mem _ (List.mem_append_left _ (List.mem_append_left _ (List.mem_append_left _ (List.mem_append_right _ h))))
theorem mX10_mends_1 : (Cond.fieldLink RX10 35 "VoteFiles" "past" "LVoteFiles$Past;") ∈ wsX10_mends := List.mem_of_getElem? (i := 1) rfl
theorem mX10_mends_2 : (Cond.fieldLink RX10 28 "VoteFiles" "now" "LVoteFiles$Shape;") ∈ wsX10_mends := List.mem_of_getElem? (i := 2) rfl
theorem mX10_mends_3 : (Cond.fieldLink RX10 49 "VoteFiles" "meeting" "LVoteFiles$Meeting;") ∈ wsX10_mends := List.mem_of_getElem? (i := 3) rfl
theorem iX10_mends_X3 : ∀ w ∈ wsX30, w ∈ wsX10_mends := fun _ h => List.mem_cons_of_mem _ (List.mem_append_left _ (List.mem_append_left _ (List.mem_append_right _ h)))
theorem mX10_mends_4 : (Cond.fieldLink RX10 135 "VoteFiles$Meeting" "present" "I") ∈ wsX10_mends := List.mem_of_getElem? (i := 4) rfl
theorem mX10_mends_5 : (Cond.fieldLink RX10 138 "VoteFiles$Meeting" "known" "I") ∈ wsX10_mends := List.mem_of_getElem? (i := 5) rfl
theorem mX10_mends_6 : (Cond.fieldLink RX10 114 "VoteFiles$Meeting" "latest" "I") ∈ wsX10_mends := List.mem_of_getElem? (i := 6) rfl
theorem mX10_mends_7 : (Cond.fieldLink RX10 111 "VoteFiles$Meeting" "value" "I") ∈ wsX10_mends := List.mem_of_getElem? (i := 7) rfl
theorem hdX10_mends : yX10_mends.cls ≠ "java/lang/invoke/MethodHandle" ∧ yX10_mends.cls ≠ "java/lang/invoke/VarHandle" ∧ (parseMethodDescriptor yX10_mends.desc).map (fun d => d.parameters.length) = some 1 := by decide +kernel
set_option maxHeartbeats 4000000 in
set_option maxRecDepth 100000 in
theorem ctX10_mends (l : Launch) (D : va_G) (cI cZ : ClassId) (a_t a_t_text a_t_telling a_t_now a_t_past a_t_images a_t_meeting a_t_seen a_t_chances a_t_search a_t_now_row a_t_past_rows : Nat) (jx1 : Int32) (v_t_now_row : (Nat → Int32)) (v_t_past_next : Int32) (v_t_past_size : Int32) (v_t_past_rows : (Nat → Int32)) (v_t_meeting_present : Int32) (v_t_meeting_known : Int32) (v_t_meeting_votes : Int32) (v_t_meeting_latest : Int32) (v_t_meeting_value : Int32) (v_t_meeting_read : Int32) (v_t_meeting_write : Int32) (v_t_valueRead : Int32) (r : Int32) (o_t_now_row : (Nat → Int32)) (o_t_past_next : Int32) (o_t_past_size : Int32) (o_t_past_rows : (Nat → Int32)) (o_t_meeting_present : Int32) (o_t_meeting_known : Int32) (o_t_meeting_votes : Int32) (o_t_meeting_latest : Int32) (o_t_meeting_value : Int32) (o_t_meeting_read : Int32) (o_t_meeting_write : Int32) (hf : fX10_mends jx1 v_t_now_row v_t_past_next v_t_past_size v_t_past_rows v_t_meeting_present v_t_meeting_known v_t_meeting_votes v_t_meeting_latest v_t_meeting_value v_t_meeting_read v_t_meeting_write = some (r, o_t_now_row, o_t_past_next, o_t_past_size, o_t_past_rows, o_t_meeting_present, o_t_meeting_known, o_t_meeting_votes, o_t_meeting_latest, o_t_meeting_value, o_t_meeting_read, o_t_meeting_write)) : cM l yX10_mends wsX10_mends rmX10_mends [.ref a_t, .int jx1] D [(a_t, .inr (10, [.ref a_t_text, .ref a_t_telling, .ref a_t_now, .ref a_t_past, .ref a_t_images, .ref a_t_meeting, .ref a_t_seen, .ref a_t_chances, .ref a_t_search, .int v_t_valueRead])), (a_t_now, .inr (7, [.ref a_t_now_row])), (a_t_now_row, .inl (cI, 104, .inl v_t_now_row)), (a_t_past, .inr (4, [.ref a_t_past_rows, .int v_t_past_next, .int v_t_past_size])), (a_t_past_rows, .inl (cI, 1040, .inl v_t_past_rows)), (a_t_meeting, .inr (3, [.int v_t_meeting_present, .int v_t_meeting_known, .int v_t_meeting_votes, .int v_t_meeting_latest, .int v_t_meeting_value, .int v_t_meeting_read, .int v_t_meeting_write]))] [(a_t, .inr (10, [.ref a_t_text, .ref a_t_telling, .ref a_t_now, .ref a_t_past, .ref a_t_images, .ref a_t_meeting, .ref a_t_seen, .ref a_t_chances, .ref a_t_search, .int v_t_valueRead])), (a_t_now, .inr (7, [.ref a_t_now_row])), (a_t_now_row, .inl (cI, 104, .inl o_t_now_row)), (a_t_past, .inr (4, [.ref a_t_past_rows, .int o_t_past_next, .int o_t_past_size])), (a_t_past_rows, .inl (cI, 1040, .inl o_t_past_rows)), (a_t_meeting, .inr (3, [.int o_t_meeting_present, .int o_t_meeting_known, .int o_t_meeting_votes, .int o_t_meeting_latest, .int o_t_meeting_value, .int o_t_meeting_read, .int o_t_meeting_write]))] (KX D cI cZ) (some (.int r)) := by
  refine cM_of (cc := cX10_mends) (maxL := 3) (ret := some .int) (by decide +kernel) rfl _ (Nat.le_of_ble_eq_true rfl) ?_
  intro p e s m below meth c ls A S hr hlk hP hK hl hD hA hS
  obtain ⟨hx, hb, hml, hown, hts⟩ := id S
  have hl : lv_has ls 3 [(0, .ref a_t), (1, .int jx1)] := hl
  unfold fX10_mends at hf
  refine lv_aload_n hx hb dX10_mends_0 rfl (lv_at hl 0 rfl) ?_
  refine lv_iload_n hx hb dX10_mends_1 rfl (lv_at hl 1 rfl) ?_
  obtain ⟨jr1, jg2, jg3, jg4, jg5, jg6, jg7, jg8, je9, hf⟩ := bd8_inv hf
  refine callMV (As := [.int jx1]) (rest := []) (wr := [(a_t_past, .inr (4, [.ref a_t_past_rows, .int v_t_past_next, .int v_t_past_size])), (a_t_past_rows, .inl (cI, 1040, .inl v_t_past_rows))]) (wn := [(a_t, .inr (10, [.ref a_t_text, .ref a_t_telling, .ref a_t_now, .ref a_t_past, .ref a_t_images, .ref a_t_meeting, .ref a_t_seen, .ref a_t_chances, .ref a_t_search, .int v_t_valueRead])), (a_t_now, .inr (7, [.ref a_t_now_row])), (a_t_now_row, .inl (cI, 104, .inl v_t_now_row)), (a_t_past, .inr (4, [.ref a_t_past_rows, .int v_t_past_next, .int v_t_past_size])), (a_t_past_rows, .inl (cI, 1040, .inl v_t_past_rows)), (a_t_meeting, .inr (3, [.int jg2, .int jg3, .int jg4, .int jg5, .int jg6, .int jg7, .int jg8]))]) S (ctX10_lookToRead l D cI cZ a_t a_t_text a_t_telling a_t_now a_t_past a_t_images a_t_meeting a_t_seen a_t_chances a_t_search a_t_now_row jx1 v_t_now_row v_t_meeting_present v_t_meeting_known v_t_meeting_votes v_t_meeting_latest v_t_meeting_value v_t_meeting_read v_t_meeting_write v_t_valueRead jr1 jg2 jg3 jg4 jg5 jg6 jg7 jg8 je9) (cwV 1 hts gX10_mends_X10_lookToRead rfl rfl rfl ⟨rfl, hdX10_lookToRead⟩ ⟨Nat.le_of_ble_eq_true rfl, Nat.le_of_ble_eq_true rfl⟩) hP hD hS hA [0, 1, 2, 5] [3, 4] [2, 3, 4, 0, 1, 5] rfl rfl (by decide) (by decide) (by decide) (by decide) rfl KX.xs (fun U _ hW => hK.warm hW) (va_recv hK.1 hP (ci := 10) (q0 := 0) rfl rfl) rfl hl.1 rfl (Nat.le_of_ble_eq_true rfl) dX10_mends_2 ⟨Nat.zero_le _, Nat.zero_le _⟩ (fun H locs hP hD hS => ?_)
  refine W.eq (g2 := F0 m 5 ls [.int jr1]) rfl ?_
  refine lv_istore_n (lv' := [(2, .int jr1), (0, .ref a_t), (1, .int jx1)]) hx hb dX10_mends_5 rfl hl (by decide) rfl (fun ls hl => ?_)
  refine lv_iload_n hx hb dX10_mends_6 rfl (lv_at hl 0 rfl) ?_
  refine lv_if_eq (tgt := 12) hx hb dX10_mends_7 (by decide) (fun jc10 => ?_) (fun jc10 => ?_)
  · have hf := ite_t jc10 hf
    refine lv_aload_n hx hb dX10_mends_12 rfl (lv_at hl 1 rfl) ?_
    refine va_get (D := D) (ci := 10) (v := .ref a_t_past) (C := RX10) (T := TX10) (N := 10) hx hb hts iX10_mends_X10 hown hK.1 hP 0 rfl rfl 3 (by decide) (hts _ mX10_mends_1) (fun _ h9 => h9) rfl dX10_mends_13 ?_
    refine lv_aload_n hx hb dX10_mends_16 rfl (lv_at hl 1 rfl) ?_
    refine va_get (D := D) (ci := 10) (v := .ref a_t_now) (C := RX10) (T := TX10) (N := 10) hx hb hts iX10_mends_X10 hown hK.1 hP 0 rfl rfl 2 (by decide) (hts _ mX10_mends_2) (fun _ h9 => h9) rfl dX10_mends_17 ?_
    obtain ⟨jg11, jg12, jg13, je14, hf⟩ := bd3_inv hf
    refine callMV (As := [.ref a_t_now]) (rest := []) (wr := [(a_t, .inr (10, [.ref a_t_text, .ref a_t_telling, .ref a_t_now, .ref a_t_past, .ref a_t_images, .ref a_t_meeting, .ref a_t_seen, .ref a_t_chances, .ref a_t_search, .int v_t_valueRead])), (a_t_meeting, .inr (3, [.int jg2, .int jg3, .int jg4, .int jg5, .int jg6, .int jg7, .int jg8]))]) (wn := [(a_t, .inr (10, [.ref a_t_text, .ref a_t_telling, .ref a_t_now, .ref a_t_past, .ref a_t_images, .ref a_t_meeting, .ref a_t_seen, .ref a_t_chances, .ref a_t_search, .int v_t_valueRead])), (a_t_now, .inr (7, [.ref a_t_now_row])), (a_t_now_row, .inl (cI, 104, .inl v_t_now_row)), (a_t_past, .inr (4, [.ref a_t_past_rows, .int jg11, .int jg12])), (a_t_past_rows, .inl (cI, 1040, .inl jg13)), (a_t_meeting, .inr (3, [.int jg2, .int jg3, .int jg4, .int jg5, .int jg6, .int jg7, .int jg8]))]) S (ctX4_remember l D cI cZ a_t_past a_t_past_rows a_t_now a_t_now_row v_t_past_next v_t_past_size v_t_past_rows v_t_now_row jg11 jg12 jg13 je14) (cwV 1 hts gX10_mends_X4_remember rfl rfl rfl ⟨rfl, hdX4_remember⟩ ⟨Nat.le_of_ble_eq_true rfl, Nat.le_of_ble_eq_true rfl⟩) hP hD hS hA [3, 4, 1, 2] [0, 5] [0, 4, 5, 2, 3, 1] rfl rfl (by decide) (by decide) (by decide) (by decide) rfl KX.xs (fun U _ hW => hK.warm hW) (va_recv hK.1 hP (ci := 4) (q0 := 3) rfl rfl) rfl hl.1 rfl (Nat.le_of_ble_eq_true rfl) dX10_mends_20 ⟨Nat.zero_le _, Nat.zero_le _⟩ (fun H locs hP hD hS => ?_)
    refine W.eq (g2 := F0 m 23 ls []) rfl ?_
    refine lv_aload_n hx hb dX10_mends_23 rfl (lv_at hl 1 rfl) ?_
    refine va_get (D := D) (ci := 10) (v := .ref a_t_now) (C := RX10) (T := TX10) (N := 10) hx hb hts iX10_mends_X10 hown hK.1 hP 0 rfl rfl 2 (by decide) (hts _ mX10_mends_2) (fun _ h9 => h9) rfl dX10_mends_24 ?_
    refine lv_aload_n hx hb dX10_mends_27 rfl (lv_at hl 1 rfl) ?_
    refine va_get (D := D) (ci := 10) (v := .ref a_t_meeting) (C := RX10) (T := TX10) (N := 10) hx hb hts iX10_mends_X10 hown hK.1 hP 0 rfl rfl 5 (by decide) (hts _ mX10_mends_3) (fun _ h9 => h9) rfl dX10_mends_28 ?_
    refine va_get (D := D) (ci := 3) (v := .int jg2) (C := RX3) (T := TX3) (N := 7) hx hb hts iX10_mends_X3 hown hK.1 hP 5 rfl rfl 0 (by decide) (hts _ mX10_mends_4) (fun _ h9 => h9) rfl dX10_mends_31 ?_
    refine lv_aload_n hx hb dX10_mends_34 rfl (lv_at hl 1 rfl) ?_
    refine va_get (D := D) (ci := 10) (v := .ref a_t_meeting) (C := RX10) (T := TX10) (N := 10) hx hb hts iX10_mends_X10 hown hK.1 hP 0 rfl rfl 5 (by decide) (hts _ mX10_mends_3) (fun _ h9 => h9) rfl dX10_mends_35 ?_
    refine va_get (D := D) (ci := 3) (v := .int jg3) (C := RX3) (T := TX3) (N := 7) hx hb hts iX10_mends_X3 hown hK.1 hP 5 rfl rfl 1 (by decide) (hts _ mX10_mends_5) (fun _ h9 => h9) rfl dX10_mends_38 ?_
    refine lv_aload_n hx hb dX10_mends_41 rfl (lv_at hl 1 rfl) ?_
    refine va_get (D := D) (ci := 10) (v := .ref a_t_meeting) (C := RX10) (T := TX10) (N := 10) hx hb hts iX10_mends_X10 hown hK.1 hP 0 rfl rfl 5 (by decide) (hts _ mX10_mends_3) (fun _ h9 => h9) rfl dX10_mends_42 ?_
    refine va_get (D := D) (ci := 3) (v := .int jg5) (C := RX3) (T := TX3) (N := 7) hx hb hts iX10_mends_X3 hown hK.1 hP 5 rfl rfl 3 (by decide) (hts _ mX10_mends_6) (fun _ h9 => h9) rfl dX10_mends_45 ?_
    refine lv_aload_n hx hb dX10_mends_48 rfl (lv_at hl 1 rfl) ?_
    refine va_get (D := D) (ci := 10) (v := .ref a_t_meeting) (C := RX10) (T := TX10) (N := 10) hx hb hts iX10_mends_X10 hown hK.1 hP 0 rfl rfl 5 (by decide) (hts _ mX10_mends_3) (fun _ h9 => h9) rfl dX10_mends_49 ?_
    refine va_get (D := D) (ci := 3) (v := .int jg6) (C := RX3) (T := TX3) (N := 7) hx hb hts iX10_mends_X3 hown hK.1 hP 5 rfl rfl 4 (by decide) (hts _ mX10_mends_7) (fun _ h9 => h9) rfl dX10_mends_52 ?_
    obtain ⟨jr15, jg16, je17, hf⟩ := bd2_inv hf
    refine callMV (As := [.int jg2, .int jg3, .int jg5, .int jg6]) (rest := []) (wr := [(a_t, .inr (10, [.ref a_t_text, .ref a_t_telling, .ref a_t_now, .ref a_t_past, .ref a_t_images, .ref a_t_meeting, .ref a_t_seen, .ref a_t_chances, .ref a_t_search, .int v_t_valueRead])), (a_t_past, .inr (4, [.ref a_t_past_rows, .int jg11, .int jg12])), (a_t_past_rows, .inl (cI, 1040, .inl jg13)), (a_t_meeting, .inr (3, [.int jg2, .int jg3, .int jg4, .int jg5, .int jg6, .int jg7, .int jg8]))]) (wn := [(a_t, .inr (10, [.ref a_t_text, .ref a_t_telling, .ref a_t_now, .ref a_t_past, .ref a_t_images, .ref a_t_meeting, .ref a_t_seen, .ref a_t_chances, .ref a_t_search, .int v_t_valueRead])), (a_t_now, .inr (7, [.ref a_t_now_row])), (a_t_now_row, .inl (cI, 104, .inl jg16)), (a_t_past, .inr (4, [.ref a_t_past_rows, .int jg11, .int jg12])), (a_t_past_rows, .inl (cI, 1040, .inl jg13)), (a_t_meeting, .inr (3, [.int jg2, .int jg3, .int jg4, .int jg5, .int jg6, .int jg7, .int jg8]))]) S (ctX7_renew l D cI cZ a_t_now a_t_now_row jg2 jg3 jg5 jg6 v_t_now_row jr15 jg16 je17) (cwV 4 hts gX10_mends_X7_renew rfl rfl rfl ⟨rfl, hdX7_renew⟩ ⟨Nat.le_of_ble_eq_true rfl, Nat.le_of_ble_eq_true rfl⟩) hP hD hS hA [1, 2] [0, 3, 4, 5] [0, 4, 5, 1, 2, 3] rfl rfl (by decide) (by decide) (by decide) (by decide) rfl KX.xs (fun U _ hW => hK.warm hW) (va_recv hK.1 hP (ci := 7) (q0 := 1) rfl rfl) rfl hl.1 rfl (Nat.le_of_ble_eq_true rfl) dX10_mends_55 ⟨Nat.zero_le _, Nat.zero_le _⟩ (fun H locs hP hD hS => ?_)
    refine W.eq (g2 := F0 m 58 ls [.int jr15]) rfl ?_
    obtain ⟨rfl, rfl, rfl, rfl, rfl, rfl, rfl, rfl, rfl, rfl, rfl, rfl⟩ := pr12_inv hf
    exact retM hx hb hr hlk hP hD hS dX10_mends_58
  · have hf := ite_f jc10 hf
    refine lv_iload_n hx hb dX10_mends_10 rfl (lv_at hl 0 rfl) ?_
    obtain ⟨rfl, rfl, rfl, rfl, rfl, rfl, rfl, rfl, rfl, rfl, rfl, rfl⟩ := pr12_inv hf
    exact retM hx hb hr hlk hP hD hS dX10_mends_11
def fX10_isCopy (jx1 : Int32) (v_t_now_row : (Nat → Int32)) : Option (Int32) := bd1 (fX7_copies v_t_now_row) (fun jr1 => bd1 (fX10_isWithin jx1 (0 : Int32) (jr1 - (1 : Int32))) (fun jr3 => zcI jr3 (some jr3)))
abbrev rmX10_isCopy : Room := { frames := 1, cells := 0, slots := 0, locals := 22 }
theorem iX10_isCopy_X10 : ∀ w ∈ wsX100, w ∈ wsX10_isCopy := fun _ h => List.mem_cons_of_mem _ (List.mem_append_left _ (List.mem_append_right _ h))
theorem mX10_isCopy_1 : (Cond.fieldLink RX10 28 "VoteFiles" "now" "LVoteFiles$Shape;") ∈ wsX10_isCopy := List.mem_of_getElem? (i := 1) rfl
theorem hdX10_isCopy : yX10_isCopy.cls ≠ "java/lang/invoke/MethodHandle" ∧ yX10_isCopy.cls ≠ "java/lang/invoke/VarHandle" ∧ (parseMethodDescriptor yX10_isCopy.desc).map (fun d => d.parameters.length) = some 1 := by decide +kernel
set_option maxHeartbeats 4000000 in
set_option maxRecDepth 100000 in
theorem ctX10_isCopy (l : Launch) (D : va_G) (cI cZ : ClassId) (a_t a_t_text a_t_telling a_t_now a_t_past a_t_images a_t_meeting a_t_seen a_t_chances a_t_search a_t_now_row : Nat) (jx1 : Int32) (v_t_now_row : (Nat → Int32)) (v_t_valueRead : Int32) (r : Int32) (hf : fX10_isCopy jx1 v_t_now_row = some r) : cR l yX10_isCopy wsX10_isCopy rmX10_isCopy [.ref a_t, .int jx1] D [(a_t, .inr (10, [.ref a_t_text, .ref a_t_telling, .ref a_t_now, .ref a_t_past, .ref a_t_images, .ref a_t_meeting, .ref a_t_seen, .ref a_t_chances, .ref a_t_search, .int v_t_valueRead])), (a_t_now, .inr (7, [.ref a_t_now_row])), (a_t_now_row, .inl (cI, 104, .inl v_t_now_row))] (KX D cI cZ) r := by
  refine cR_of (cc := cX10_isCopy) (maxL := 2) (ret := some .boolean) (by decide +kernel) rfl _ (Nat.le_of_ble_eq_true rfl) ?_
  intro p e s m below meth c ls S hr hlk hP hK hl
  obtain ⟨hx, hb, hml, hown, hts⟩ := id S
  have hl : lv_has ls 2 [(0, .ref a_t), (1, .int jx1)] := hl
  unfold fX10_isCopy at hf
  refine lv_iload_n hx hb dX10_isCopy_0 rfl (lv_at hl 1 rfl) ?_
  refine lv_iconst (v := 0) hx hb dX10_isCopy_1 (by decide) ?_
  refine lv_aload_n hx hb dX10_isCopy_2 rfl (lv_at hl 0 rfl) ?_
  refine va_get (D := D) (ci := 10) (v := .ref a_t_now) (C := RX10) (T := TX10) (N := 10) hx hb hts iX10_isCopy_X10 hown hK.1 hP 0 rfl rfl 2 (by decide) (hts _ mX10_isCopy_1) (fun _ h9 => h9) rfl dX10_isCopy_3 ?_
  obtain ⟨jr1, je2, hf⟩ := bd1_inv hf
  refine callRV (As := []) (rest := [.int (0 : Int32), .int jx1]) S (ctX7_copies l D cI cZ a_t_now a_t_now_row v_t_now_row jr1 je2) (cwV 0 hts gX10_isCopy_X7_copies rfl rfl rfl ⟨rfl, hdX7_copies⟩ ⟨Nat.le_of_ble_eq_true rfl, Nat.le_of_ble_eq_true rfl⟩) hP [1, 2] rfl KX.xs (fun U _ hW => hK.warm hW) (va_recv hK.1 hP (ci := 7) (q0 := 1) rfl rfl) rfl hl.1 rfl (Nat.le_of_ble_eq_true rfl) dX10_isCopy_6 ⟨Nat.zero_le _, Nat.zero_le _⟩ ?_
  refine lv_iconst (v := 1) hx hb dX10_isCopy_9 (by decide) ?_
  refine lv_isub hx hb dX10_isCopy_10 ?_
  obtain ⟨jr3, je4, hf⟩ := bd1_inv hf
  refine callRS (As := [.int jx1, .int (0 : Int32), .int (jr1 - (1 : Int32))]) (rest := []) S (ctX10_isWithin l D cI cZ jx1 (0 : Int32) (jr1 - (1 : Int32)) jr3 je4) (va_cwS 3 hts gX10_isCopy_X10_isWithin rfl rfl rfl hdX10_isWithin ⟨Nat.le_of_ble_eq_true rfl, Nat.le_of_ble_eq_true rfl⟩) hP [] rfl KX.xs (fun U _ hW => hK.warm hW) rfl hl.1 rfl (Nat.le_of_ble_eq_true rfl) dX10_isCopy_11 ⟨Nat.zero_le _, Nat.zero_le _⟩ ?_
  obtain ⟨jh5, hf⟩ := zcI_inv hf
  obtain rfl := Option.some.inj hf
  exact retRz hx hb hr hlk (nar_z jh5) dX10_isCopy_14
def fX10_votes_231 (jx9 : Int32) (jy0 : Int32) (jy1 : Int32) (jy2 : Int32) (jy3 : Int32) (v_t_now_row : (Nat → Int32)) (v_t_past_next : Int32) (v_t_past_size : Int32) (v_t_past_rows : (Nat → Int32)) (v_t_meeting_present : Int32) (v_t_meeting_known : Int32) (v_t_meeting_votes : Int32) (v_t_meeting_latest : Int32) (v_t_meeting_value : Int32) (v_t_meeting_read : Int32) (v_t_meeting_write : Int32) : Option (Int32 × (Nat → Int32) × Int32 × Int32 × (Nat → Int32) × Int32 × Int32 × Int32 × Int32 × Int32 × Int32 × Int32) := bd1 (fX7_setVoter jy3 jy2 jy1 jy0 v_t_now_row) (fun jg1 => bd2 (fX7_renew v_t_meeting_present jx9 v_t_meeting_latest v_t_meeting_value jg1) (fun jr3 jg4 => some (jx9, jg4, v_t_past_next, v_t_past_size, v_t_past_rows, v_t_meeting_present, v_t_meeting_known, v_t_meeting_votes, v_t_meeting_latest, v_t_meeting_value, v_t_meeting_read, v_t_meeting_write)))
def fX10_votes (jx1 : Int32) (jx2 : Int32) (jx3 : Int32) (jx4 : Int32) (jx5 : Int32) (jx6 : Int32) (v_t_now_row : (Nat → Int32)) (v_t_past_next : Int32) (v_t_past_size : Int32) (v_t_past_rows : (Nat → Int32)) (v_t_meeting_present : Int32) (v_t_meeting_known : Int32) (v_t_meeting_votes : Int32) (v_t_meeting_latest : Int32) (v_t_meeting_value : Int32) (v_t_meeting_read : Int32) (v_t_meeting_write : Int32) : Option (Int32 × (Nat → Int32) × Int32 × Int32 × (Nat → Int32) × Int32 × Int32 × Int32 × Int32 × Int32 × Int32 × Int32) := bd1 (fX10_isGroup jx1) (fun jr1 => if jr1 = 0 then some ((-1 : Int32), v_t_now_row, v_t_past_next, v_t_past_size, v_t_past_rows, v_t_meeting_present, v_t_meeting_known, v_t_meeting_votes, v_t_meeting_latest, v_t_meeting_value, v_t_meeting_read, v_t_meeting_write) else bd1 (fX10_isCopy jx2 v_t_now_row) (fun jr4 => if jr4 = 0 then some ((-1 : Int32), v_t_now_row, v_t_past_next, v_t_past_size, v_t_past_rows, v_t_meeting_present, v_t_meeting_known, v_t_meeting_votes, v_t_meeting_latest, v_t_meeting_value, v_t_meeting_read, v_t_meeting_write) else bd1 (fX10_isWithin jx3 (0 : Int32) (5 : Int32)) (fun jr7 => if jr7 = 0 then some ((-1 : Int32), v_t_now_row, v_t_past_next, v_t_past_size, v_t_past_rows, v_t_meeting_present, v_t_meeting_known, v_t_meeting_votes, v_t_meeting_latest, v_t_meeting_value, v_t_meeting_read, v_t_meeting_write) else bd1 (fX10_isWithin jx4 (0 : Int32) (1 : Int32)) (fun jr10 => if jr10 = 0 then some ((-1 : Int32), v_t_now_row, v_t_past_next, v_t_past_size, v_t_past_rows, v_t_meeting_present, v_t_meeting_known, v_t_meeting_votes, v_t_meeting_latest, v_t_meeting_value, v_t_meeting_read, v_t_meeting_write) else bd1 (fX10_isWithin jx5 (1 : Int32) (30 : Int32)) (fun jr13 => if jr13 = 0 then some ((-1 : Int32), v_t_now_row, v_t_past_next, v_t_past_size, v_t_past_rows, v_t_meeting_present, v_t_meeting_known, v_t_meeting_votes, v_t_meeting_latest, v_t_meeting_value, v_t_meeting_read, v_t_meeting_write) else bd1 (fX10_isWithin jx6 (1 : Int32) (30 : Int32)) (fun jr16 => if jr16 = 0 then some ((-1 : Int32), v_t_now_row, v_t_past_next, v_t_past_size, v_t_past_rows, v_t_meeting_present, v_t_meeting_known, v_t_meeting_votes, v_t_meeting_latest, v_t_meeting_value, v_t_meeting_read, v_t_meeting_write) else bd1 (fX7_configurations v_t_now_row) (fun jr19 => if jr19 < (8 : Int32) then bd7 (fX3_look jx1 v_t_meeting_present v_t_meeting_known v_t_meeting_votes v_t_meeting_latest v_t_meeting_value v_t_meeting_read v_t_meeting_write v_t_now_row) (fun jg22 jg23 jg24 jg25 jg26 jg27 jg28 => if jg22 = 0 then some ((-4 : Int32), v_t_now_row, v_t_past_next, v_t_past_size, v_t_past_rows, jg22, jg23, jg24, jg25, jg26, jg27, jg28) else bd1 (fX7_total jg23 v_t_now_row) (fun jr31 => bd1 (fX7_votesOf jg23 jx2 v_t_now_row) (fun jr33 => bd1 (fX10_isLawful ((jr31 - jr33) + jx3) jx5 jx6) (fun jr35 => if jr35 = 0 then some ((-2 : Int32), v_t_now_row, v_t_past_next, v_t_past_size, v_t_past_rows, jg22, jg23, jg24, jg25, jg26, jg27, jg28) else bd1 (fX3_refusal jg28 (1 : Int32) jg22 jg24 jg26) (fun jr38 => if jr38 = 0 then bd3 (fX4_remember v_t_past_next v_t_past_size v_t_past_rows v_t_now_row) (fun jg41 jg42 jg43 => bd2 (fX7_addLike jg23 v_t_now_row) (fun jr45 jg46 => bd1 (fX7_setNeeds jr45 jx5 jx6 jg46) (fun jg48 => if jx4 = (1 : Int32) then fX10_votes_231 jr45 (1 : Int32) jx3 jx2 jr45 jg48 jg41 jg42 jg43 jg22 jg23 jg24 jg25 jg26 jg27 jg28 else fX10_votes_231 jr45 (0 : Int32) jx3 jx2 jr45 jg48 jg41 jg42 jg43 jg22 jg23 jg24 jg25 jg26 jg27 jg28))) else some (jr38, v_t_now_row, v_t_past_next, v_t_past_size, v_t_past_rows, jg22, jg23, jg24, jg25, jg26, jg27, jg28)))))) else some ((-3 : Int32), v_t_now_row, v_t_past_next, v_t_past_size, v_t_past_rows, v_t_meeting_present, v_t_meeting_known, v_t_meeting_votes, v_t_meeting_latest, v_t_meeting_value, v_t_meeting_read, v_t_meeting_write))))))))
abbrev rmX10_votes : Room := { frames := 3, cells := 0, slots := 0, locals := 69 }
theorem iX10_votes_X10 : ∀ w ∈ wsX100, w ∈ wsX10_votes := fun _ h => List.mem_cons_of_mem _ (List.mem_append_left _ (List.mem_append_left _ (List.mem_append_left _ (List.mem_append_right _ h))))
theorem mX10_votes_1 : (Cond.fieldLink RX10 28 "VoteFiles" "now" "LVoteFiles$Shape;") ∈ wsX10_votes := List.mem_of_getElem? (i := 1) rfl
theorem mX10_votes_2 : (Cond.fieldLink RX10 49 "VoteFiles" "meeting" "LVoteFiles$Meeting;") ∈ wsX10_votes := List.mem_of_getElem? (i := 2) rfl
theorem iX10_votes_X3 : ∀ w ∈ wsX30, w ∈ wsX10_votes := fun _ h => List.mem_cons_of_mem _ (List.mem_append_left _ (List.mem_append_left _ (List.mem_append_right _ h)))
theorem mX10_votes_3 : (Cond.fieldLink RX10 135 "VoteFiles$Meeting" "present" "I") ∈ wsX10_votes := List.mem_of_getElem? (i := 3) rfl
theorem mX10_votes_7 : (Cond.fieldLink RX10 114 "VoteFiles$Meeting" "latest" "I") ∈ wsX10_votes := List.mem_of_getElem? (i := 7) rfl
theorem mX10_votes_8 : (Cond.fieldLink RX10 111 "VoteFiles$Meeting" "value" "I") ∈ wsX10_votes := List.mem_of_getElem? (i := 8) rfl
theorem mX10_votes_4 : (Cond.fieldLink RX10 138 "VoteFiles$Meeting" "known" "I") ∈ wsX10_votes := List.mem_of_getElem? (i := 4) rfl
theorem mX10_votes_5 : (Cond.fieldLink RX10 124 "VoteFiles$Meeting" "write" "I") ∈ wsX10_votes := List.mem_of_getElem? (i := 5) rfl
theorem mX10_votes_6 : (Cond.fieldLink RX10 35 "VoteFiles" "past" "LVoteFiles$Past;") ∈ wsX10_votes := List.mem_of_getElem? (i := 6) rfl
set_option maxHeartbeats 4000000 in
set_option maxRecDepth 100000 in
theorem wX10_votes_231 {p : Program} {l : Launch} {e : Env} {s : State} {m : MethodId} {args : Array Value} {below : List Frame} {meth : Method} {c : Code} {D : va_G} {cI cZ : ClassId} (S : CallFix p m c cX10_votes 10 s args wsX10_votes RX10) (hr : meth.sig.returnType = some .int) (hlk : meth.locks = false) (hK : KX D cI cZ s) {a_t a_t_text a_t_telling a_t_now a_t_past a_t_images a_t_meeting a_t_seen a_t_chances a_t_search a_t_now_row a_t_past_rows : Nat} {v_t_valueRead : Int32} {r : Int32} {o_t_now_row : (Nat → Int32)} {o_t_past_next : Int32} {o_t_past_size : Int32} {o_t_past_rows : (Nat → Int32)} {o_t_meeting_present : Int32} {o_t_meeting_known : Int32} {o_t_meeting_votes : Int32} {o_t_meeting_latest : Int32} {o_t_meeting_value : Int32} {o_t_meeting_read : Int32} {o_t_meeting_write : Int32} {A : Nat → Prop} (hA : ∀ q : Nat, s.heap.size ≤ q → A q) : ∀ (jx9 : Int32) (jy0 : Int32) (jy1 : Int32) (jy2 : Int32) (jy3 : Int32) (v_t_now_row : (Nat → Int32)) (v_t_past_next : Int32) (v_t_past_size : Int32) (v_t_past_rows : (Nat → Int32)) (v_t_meeting_present : Int32) (v_t_meeting_known : Int32) (v_t_meeting_votes : Int32) (v_t_meeting_latest : Int32) (v_t_meeting_value : Int32) (v_t_meeting_read : Int32) (v_t_meeting_write : Int32) (ls : Array Slot) (H : Heap) (locs : List Loc), fX10_votes_231  jx9 jy0 jy1 jy2 jy3 v_t_now_row v_t_past_next v_t_past_size v_t_past_rows v_t_meeting_present v_t_meeting_known v_t_meeting_votes v_t_meeting_latest v_t_meeting_value v_t_meeting_read v_t_meeting_write = some (r, o_t_now_row, o_t_past_next, o_t_past_size, o_t_past_rows, o_t_meeting_present, o_t_meeting_known, o_t_meeting_votes, o_t_meeting_latest, o_t_meeting_value, o_t_meeting_read, o_t_meeting_write) → lv_has ls 10 [(0, .ref a_t), (9, .int jx9)] → va_P D vwCl [(a_t, .inr (10, [.ref a_t_text, .ref a_t_telling, .ref a_t_now, .ref a_t_past, .ref a_t_images, .ref a_t_meeting, .ref a_t_seen, .ref a_t_chances, .ref a_t_search, .int v_t_valueRead])), (a_t_now, .inr (7, [.ref a_t_now_row])), (a_t_now_row, .inl (cI, 104, .inl v_t_now_row)), (a_t_past, .inr (4, [.ref a_t_past_rows, .int v_t_past_next, .int v_t_past_size])), (a_t_past_rows, .inl (cI, 1040, .inl v_t_past_rows)), (a_t_meeting, .inr (3, [.int v_t_meeting_present, .int v_t_meeting_known, .int v_t_meeting_votes, .int v_t_meeting_latest, .int v_t_meeting_value, .int v_t_meeting_read, .int v_t_meeting_write]))] H → va_D A [(a_t, .inr (10, [.ref a_t_text, .ref a_t_telling, .ref a_t_now, .ref a_t_past, .ref a_t_images, .ref a_t_meeting, .ref a_t_seen, .ref a_t_chances, .ref a_t_search, .int v_t_valueRead])), (a_t_now, .inr (7, [.ref a_t_now_row])), (a_t_now_row, .inl (cI, 104, .inl v_t_now_row)), (a_t_past, .inr (4, [.ref a_t_past_rows, .int v_t_past_next, .int v_t_past_size])), (a_t_past_rows, .inl (cI, 1040, .inl v_t_past_rows)), (a_t_meeting, .inr (3, [.int v_t_meeting_present, .int v_t_meeting_known, .int v_t_meeting_votes, .int v_t_meeting_latest, .int v_t_meeting_value, .int v_t_meeting_read, .int v_t_meeting_write]))] → va_S A s.heap H locs → W p l e rmX10_votes s m args below meth c H locs 0 0 (MQ below (qM D (some (.int r)) [(a_t, .inr (10, [.ref a_t_text, .ref a_t_telling, .ref a_t_now, .ref a_t_past, .ref a_t_images, .ref a_t_meeting, .ref a_t_seen, .ref a_t_chances, .ref a_t_search, .int v_t_valueRead])), (a_t_now, .inr (7, [.ref a_t_now_row])), (a_t_now_row, .inl (cI, 104, .inl o_t_now_row)), (a_t_past, .inr (4, [.ref a_t_past_rows, .int o_t_past_next, .int o_t_past_size])), (a_t_past_rows, .inl (cI, 1040, .inl o_t_past_rows)), (a_t_meeting, .inr (3, [.int o_t_meeting_present, .int o_t_meeting_known, .int o_t_meeting_votes, .int o_t_meeting_latest, .int o_t_meeting_value, .int o_t_meeting_read, .int o_t_meeting_write]))] A) args s 0 0 A) (F0 m 231 ls [.int jy0, .int jy1, .int jy2, .int jy3, .ref a_t_now]) := by
  obtain ⟨hx, hb, hml, hown, hts⟩ := id S
  intro jx9 jy0 jy1 jy2 jy3 v_t_now_row v_t_past_next v_t_past_size v_t_past_rows v_t_meeting_present v_t_meeting_known v_t_meeting_votes v_t_meeting_latest v_t_meeting_value v_t_meeting_read v_t_meeting_write ls H locs hf hl hP hD hS
  unfold fX10_votes_231 at hf
  obtain ⟨jg1, je2, hf⟩ := bd1_inv hf
  refine callMV (As := [.int jy3, .int jy2, .int jy1, .int jy0]) (rest := []) (wr := [(a_t, .inr (10, [.ref a_t_text, .ref a_t_telling, .ref a_t_now, .ref a_t_past, .ref a_t_images, .ref a_t_meeting, .ref a_t_seen, .ref a_t_chances, .ref a_t_search, .int v_t_valueRead])), (a_t_past, .inr (4, [.ref a_t_past_rows, .int v_t_past_next, .int v_t_past_size])), (a_t_past_rows, .inl (cI, 1040, .inl v_t_past_rows)), (a_t_meeting, .inr (3, [.int v_t_meeting_present, .int v_t_meeting_known, .int v_t_meeting_votes, .int v_t_meeting_latest, .int v_t_meeting_value, .int v_t_meeting_read, .int v_t_meeting_write]))]) (wn := [(a_t, .inr (10, [.ref a_t_text, .ref a_t_telling, .ref a_t_now, .ref a_t_past, .ref a_t_images, .ref a_t_meeting, .ref a_t_seen, .ref a_t_chances, .ref a_t_search, .int v_t_valueRead])), (a_t_now, .inr (7, [.ref a_t_now_row])), (a_t_now_row, .inl (cI, 104, .inl jg1)), (a_t_past, .inr (4, [.ref a_t_past_rows, .int v_t_past_next, .int v_t_past_size])), (a_t_past_rows, .inl (cI, 1040, .inl v_t_past_rows)), (a_t_meeting, .inr (3, [.int v_t_meeting_present, .int v_t_meeting_known, .int v_t_meeting_votes, .int v_t_meeting_latest, .int v_t_meeting_value, .int v_t_meeting_read, .int v_t_meeting_write]))]) S (ctX7_setVoter l D cI cZ a_t_now a_t_now_row jy3 jy2 jy1 jy0 v_t_now_row jg1 je2) (cwV 4 hts gX10_votes_X7_setVoter rfl rfl rfl ⟨rfl, hdX7_setVoter⟩ ⟨Nat.le_of_ble_eq_true rfl, Nat.le_of_ble_eq_true rfl⟩) hP hD hS hA [1, 2] [0, 3, 4, 5] [0, 4, 5, 1, 2, 3] rfl rfl (by decide) (by decide) (by decide) (by decide) rfl KX.xs (fun U _ hW => hK.warm hW) (va_recv hK.1 hP (ci := 7) (q0 := 1) rfl rfl) rfl hl.1 rfl (Nat.le_of_ble_eq_true rfl) dX10_votes_231 ⟨Nat.zero_le _, Nat.zero_le _⟩ (fun H locs hP hD hS => ?_)
  refine W.eq (g2 := F0 m 234 ls []) rfl ?_
  refine lv_aload_n hx hb dX10_votes_234 rfl (lv_at hl 0 rfl) ?_
  refine va_get (D := D) (ci := 10) (v := .ref a_t_now) (C := RX10) (T := TX10) (N := 10) hx hb hts iX10_votes_X10 hown hK.1 hP 0 rfl rfl 2 (by decide) (hts _ mX10_votes_1) (fun _ h9 => h9) rfl dX10_votes_235 ?_
  refine lv_aload_n hx hb dX10_votes_238 rfl (lv_at hl 0 rfl) ?_
  refine va_get (D := D) (ci := 10) (v := .ref a_t_meeting) (C := RX10) (T := TX10) (N := 10) hx hb hts iX10_votes_X10 hown hK.1 hP 0 rfl rfl 5 (by decide) (hts _ mX10_votes_2) (fun _ h9 => h9) rfl dX10_votes_239 ?_
  refine va_get (D := D) (ci := 3) (v := .int v_t_meeting_present) (C := RX3) (T := TX3) (N := 7) hx hb hts iX10_votes_X3 hown hK.1 hP 5 rfl rfl 0 (by decide) (hts _ mX10_votes_3) (fun _ h9 => h9) rfl dX10_votes_242 ?_
  refine lv_iload hx hb dX10_votes_245 (lv_at hl 1 rfl) ?_
  refine lv_aload_n hx hb dX10_votes_247 rfl (lv_at hl 0 rfl) ?_
  refine va_get (D := D) (ci := 10) (v := .ref a_t_meeting) (C := RX10) (T := TX10) (N := 10) hx hb hts iX10_votes_X10 hown hK.1 hP 0 rfl rfl 5 (by decide) (hts _ mX10_votes_2) (fun _ h9 => h9) rfl dX10_votes_248 ?_
  refine va_get (D := D) (ci := 3) (v := .int v_t_meeting_latest) (C := RX3) (T := TX3) (N := 7) hx hb hts iX10_votes_X3 hown hK.1 hP 5 rfl rfl 3 (by decide) (hts _ mX10_votes_7) (fun _ h9 => h9) rfl dX10_votes_251 ?_
  refine lv_aload_n hx hb dX10_votes_254 rfl (lv_at hl 0 rfl) ?_
  refine va_get (D := D) (ci := 10) (v := .ref a_t_meeting) (C := RX10) (T := TX10) (N := 10) hx hb hts iX10_votes_X10 hown hK.1 hP 0 rfl rfl 5 (by decide) (hts _ mX10_votes_2) (fun _ h9 => h9) rfl dX10_votes_255 ?_
  refine va_get (D := D) (ci := 3) (v := .int v_t_meeting_value) (C := RX3) (T := TX3) (N := 7) hx hb hts iX10_votes_X3 hown hK.1 hP 5 rfl rfl 4 (by decide) (hts _ mX10_votes_8) (fun _ h9 => h9) rfl dX10_votes_258 ?_
  obtain ⟨jr3, jg4, je5, hf⟩ := bd2_inv hf
  refine callMV (As := [.int v_t_meeting_present, .int jx9, .int v_t_meeting_latest, .int v_t_meeting_value]) (rest := []) (wr := [(a_t, .inr (10, [.ref a_t_text, .ref a_t_telling, .ref a_t_now, .ref a_t_past, .ref a_t_images, .ref a_t_meeting, .ref a_t_seen, .ref a_t_chances, .ref a_t_search, .int v_t_valueRead])), (a_t_past, .inr (4, [.ref a_t_past_rows, .int v_t_past_next, .int v_t_past_size])), (a_t_past_rows, .inl (cI, 1040, .inl v_t_past_rows)), (a_t_meeting, .inr (3, [.int v_t_meeting_present, .int v_t_meeting_known, .int v_t_meeting_votes, .int v_t_meeting_latest, .int v_t_meeting_value, .int v_t_meeting_read, .int v_t_meeting_write]))]) (wn := [(a_t, .inr (10, [.ref a_t_text, .ref a_t_telling, .ref a_t_now, .ref a_t_past, .ref a_t_images, .ref a_t_meeting, .ref a_t_seen, .ref a_t_chances, .ref a_t_search, .int v_t_valueRead])), (a_t_now, .inr (7, [.ref a_t_now_row])), (a_t_now_row, .inl (cI, 104, .inl jg4)), (a_t_past, .inr (4, [.ref a_t_past_rows, .int v_t_past_next, .int v_t_past_size])), (a_t_past_rows, .inl (cI, 1040, .inl v_t_past_rows)), (a_t_meeting, .inr (3, [.int v_t_meeting_present, .int v_t_meeting_known, .int v_t_meeting_votes, .int v_t_meeting_latest, .int v_t_meeting_value, .int v_t_meeting_read, .int v_t_meeting_write]))]) S (ctX7_renew l D cI cZ a_t_now a_t_now_row v_t_meeting_present jx9 v_t_meeting_latest v_t_meeting_value jg1 jr3 jg4 je5) (cwV 4 hts gX10_votes_X7_renew rfl rfl rfl ⟨rfl, hdX7_renew⟩ ⟨Nat.le_of_ble_eq_true rfl, Nat.le_of_ble_eq_true rfl⟩) hP hD hS hA [1, 2] [0, 3, 4, 5] [0, 4, 5, 1, 2, 3] rfl rfl (by decide) (by decide) (by decide) (by decide) rfl KX.xs (fun U _ hW => hK.warm hW) (va_recv hK.1 hP (ci := 7) (q0 := 1) rfl rfl) rfl hl.1 rfl (Nat.le_of_ble_eq_true rfl) dX10_votes_261 ⟨Nat.zero_le _, Nat.zero_le _⟩ (fun H locs hP hD hS => ?_)
  refine W.eq (g2 := F0 m 264 ls [.int jr3]) rfl ?_
  refine lv_pop hx hb dX10_votes_264 rfl ?_
  refine lv_iload hx hb dX10_votes_265 (lv_at hl 1 rfl) ?_
  obtain ⟨rfl, rfl, rfl, rfl, rfl, rfl, rfl, rfl, rfl, rfl, rfl, rfl⟩ := pr12_inv hf
  exact retM hx hb hr hlk hP hD hS dX10_votes_267
theorem hdX10_votes : yX10_votes.cls ≠ "java/lang/invoke/MethodHandle" ∧ yX10_votes.cls ≠ "java/lang/invoke/VarHandle" ∧ (parseMethodDescriptor yX10_votes.desc).map (fun d => d.parameters.length) = some 6 := by decide +kernel
set_option maxHeartbeats 4000000 in
set_option maxRecDepth 100000 in
theorem ctX10_votes (l : Launch) (D : va_G) (cI cZ : ClassId) (a_t a_t_text a_t_telling a_t_now a_t_past a_t_images a_t_meeting a_t_seen a_t_chances a_t_search a_t_now_row a_t_past_rows : Nat) (jx1 : Int32) (jx2 : Int32) (jx3 : Int32) (jx4 : Int32) (jx5 : Int32) (jx6 : Int32) (v_t_now_row : (Nat → Int32)) (v_t_past_next : Int32) (v_t_past_size : Int32) (v_t_past_rows : (Nat → Int32)) (v_t_meeting_present : Int32) (v_t_meeting_known : Int32) (v_t_meeting_votes : Int32) (v_t_meeting_latest : Int32) (v_t_meeting_value : Int32) (v_t_meeting_read : Int32) (v_t_meeting_write : Int32) (v_t_valueRead : Int32) (r : Int32) (o_t_now_row : (Nat → Int32)) (o_t_past_next : Int32) (o_t_past_size : Int32) (o_t_past_rows : (Nat → Int32)) (o_t_meeting_present : Int32) (o_t_meeting_known : Int32) (o_t_meeting_votes : Int32) (o_t_meeting_latest : Int32) (o_t_meeting_value : Int32) (o_t_meeting_read : Int32) (o_t_meeting_write : Int32) (hf : fX10_votes jx1 jx2 jx3 jx4 jx5 jx6 v_t_now_row v_t_past_next v_t_past_size v_t_past_rows v_t_meeting_present v_t_meeting_known v_t_meeting_votes v_t_meeting_latest v_t_meeting_value v_t_meeting_read v_t_meeting_write = some (r, o_t_now_row, o_t_past_next, o_t_past_size, o_t_past_rows, o_t_meeting_present, o_t_meeting_known, o_t_meeting_votes, o_t_meeting_latest, o_t_meeting_value, o_t_meeting_read, o_t_meeting_write)) : cM l yX10_votes wsX10_votes rmX10_votes [.ref a_t, .int jx1, .int jx2, .int jx3, .int jx4, .int jx5, .int jx6] D [(a_t, .inr (10, [.ref a_t_text, .ref a_t_telling, .ref a_t_now, .ref a_t_past, .ref a_t_images, .ref a_t_meeting, .ref a_t_seen, .ref a_t_chances, .ref a_t_search, .int v_t_valueRead])), (a_t_now, .inr (7, [.ref a_t_now_row])), (a_t_now_row, .inl (cI, 104, .inl v_t_now_row)), (a_t_past, .inr (4, [.ref a_t_past_rows, .int v_t_past_next, .int v_t_past_size])), (a_t_past_rows, .inl (cI, 1040, .inl v_t_past_rows)), (a_t_meeting, .inr (3, [.int v_t_meeting_present, .int v_t_meeting_known, .int v_t_meeting_votes, .int v_t_meeting_latest, .int v_t_meeting_value, .int v_t_meeting_read, .int v_t_meeting_write]))] [(a_t, .inr (10, [.ref a_t_text, .ref a_t_telling, .ref a_t_now, .ref a_t_past, .ref a_t_images, .ref a_t_meeting, .ref a_t_seen, .ref a_t_chances, .ref a_t_search, .int v_t_valueRead])), (a_t_now, .inr (7, [.ref a_t_now_row])), (a_t_now_row, .inl (cI, 104, .inl o_t_now_row)), (a_t_past, .inr (4, [.ref a_t_past_rows, .int o_t_past_next, .int o_t_past_size])), (a_t_past_rows, .inl (cI, 1040, .inl o_t_past_rows)), (a_t_meeting, .inr (3, [.int o_t_meeting_present, .int o_t_meeting_known, .int o_t_meeting_votes, .int o_t_meeting_latest, .int o_t_meeting_value, .int o_t_meeting_read, .int o_t_meeting_write]))] (KX D cI cZ) (some (.int r)) := by
  refine cM_of (cc := cX10_votes) (maxL := 10) (ret := some .int) (by decide +kernel) rfl _ (Nat.le_of_ble_eq_true rfl) ?_
  intro p e s m below meth c ls A S hr hlk hP hK hl hD hA hS
  obtain ⟨hx, hb, hml, hown, hts⟩ := id S
  have hl : lv_has ls 10 [(0, .ref a_t), (1, .int jx1), (2, .int jx2), (3, .int jx3), (4, .int jx4), (5, .int jx5), (6, .int jx6)] := hl
  unfold fX10_votes at hf
  refine lv_iload_n hx hb dX10_votes_0 rfl (lv_at hl 1 rfl) ?_
  obtain ⟨jr1, je2, hf⟩ := bd1_inv hf
  refine callRS (As := [.int jx1]) (rest := []) S (ctX10_isGroup l D cI cZ jx1 jr1 je2) (va_cwS 1 hts gX10_votes_X10_isGroup rfl rfl rfl hdX10_isGroup ⟨Nat.le_of_ble_eq_true rfl, Nat.le_of_ble_eq_true rfl⟩) hP [] rfl KX.xs (fun U _ hW => hK.warm hW) rfl hl.1 rfl (Nat.le_of_ble_eq_true rfl) dX10_votes_1 ⟨Nat.zero_le _, Nat.zero_le _⟩ ?_
  refine lv_if_eq (tgt := 56) hx hb dX10_votes_4 (by decide) (fun jc3 => ?_) (fun jc3 => ?_)
  · have hf := ite_t jc3 hf
    refine lv_iconst (v := -1) hx hb dX10_votes_56 (by decide) ?_
    obtain ⟨rfl, rfl, rfl, rfl, rfl, rfl, rfl, rfl, rfl, rfl, rfl, rfl⟩ := pr12_inv hf
    exact retM hx hb hr hlk hP hD hS dX10_votes_57
  · have hf := ite_f jc3 hf
    refine lv_aload_n hx hb dX10_votes_7 rfl (lv_at hl 0 rfl) ?_
    refine lv_iload_n hx hb dX10_votes_8 rfl (lv_at hl 2 rfl) ?_
    obtain ⟨jr4, je5, hf⟩ := bd1_inv hf
    refine callRV (As := [.int jx2]) (rest := []) S (ctX10_isCopy l D cI cZ a_t a_t_text a_t_telling a_t_now a_t_past a_t_images a_t_meeting a_t_seen a_t_chances a_t_search a_t_now_row jx2 v_t_now_row v_t_valueRead jr4 je5) (cwV 1 hts gX10_votes_X10_isCopy rfl rfl rfl ⟨rfl, hdX10_isCopy⟩ ⟨Nat.le_of_ble_eq_true rfl, Nat.le_of_ble_eq_true rfl⟩) hP [0, 1, 2] rfl KX.xs (fun U _ hW => hK.warm hW) (va_recv hK.1 hP (ci := 10) (q0 := 0) rfl rfl) rfl hl.1 rfl (Nat.le_of_ble_eq_true rfl) dX10_votes_9 ⟨Nat.zero_le _, Nat.zero_le _⟩ ?_
    refine lv_if_eq (tgt := 56) hx hb dX10_votes_12 (by decide) (fun jc6 => ?_) (fun jc6 => ?_)
    · have hf := ite_t jc6 hf
      refine lv_iconst (v := -1) hx hb dX10_votes_56 (by decide) ?_
      obtain ⟨rfl, rfl, rfl, rfl, rfl, rfl, rfl, rfl, rfl, rfl, rfl, rfl⟩ := pr12_inv hf
      exact retM hx hb hr hlk hP hD hS dX10_votes_57
    · have hf := ite_f jc6 hf
      refine lv_iload_n hx hb dX10_votes_15 rfl (lv_at hl 3 rfl) ?_
      refine lv_iconst (v := 0) hx hb dX10_votes_16 (by decide) ?_
      refine lv_iconst (v := 5) hx hb dX10_votes_17 (by decide) ?_
      obtain ⟨jr7, je8, hf⟩ := bd1_inv hf
      refine callRS (As := [.int jx3, .int (0 : Int32), .int (5 : Int32)]) (rest := []) S (ctX10_isWithin l D cI cZ jx3 (0 : Int32) (5 : Int32) jr7 je8) (va_cwS 3 hts gX10_votes_X10_isWithin rfl rfl rfl hdX10_isWithin ⟨Nat.le_of_ble_eq_true rfl, Nat.le_of_ble_eq_true rfl⟩) hP [] rfl KX.xs (fun U _ hW => hK.warm hW) rfl hl.1 rfl (Nat.le_of_ble_eq_true rfl) dX10_votes_18 ⟨Nat.zero_le _, Nat.zero_le _⟩ ?_
      refine lv_if_eq (tgt := 56) hx hb dX10_votes_21 (by decide) (fun jc9 => ?_) (fun jc9 => ?_)
      · have hf := ite_t jc9 hf
        refine lv_iconst (v := -1) hx hb dX10_votes_56 (by decide) ?_
        obtain ⟨rfl, rfl, rfl, rfl, rfl, rfl, rfl, rfl, rfl, rfl, rfl, rfl⟩ := pr12_inv hf
        exact retM hx hb hr hlk hP hD hS dX10_votes_57
      · have hf := ite_f jc9 hf
        refine lv_iload hx hb dX10_votes_24 (lv_at hl 4 rfl) ?_
        refine lv_iconst (v := 0) hx hb dX10_votes_26 (by decide) ?_
        refine lv_iconst (v := 1) hx hb dX10_votes_27 (by decide) ?_
        obtain ⟨jr10, je11, hf⟩ := bd1_inv hf
        refine callRS (As := [.int jx4, .int (0 : Int32), .int (1 : Int32)]) (rest := []) S (ctX10_isWithin l D cI cZ jx4 (0 : Int32) (1 : Int32) jr10 je11) (va_cwS 3 hts gX10_votes_X10_isWithin rfl rfl rfl hdX10_isWithin ⟨Nat.le_of_ble_eq_true rfl, Nat.le_of_ble_eq_true rfl⟩) hP [] rfl KX.xs (fun U _ hW => hK.warm hW) rfl hl.1 rfl (Nat.le_of_ble_eq_true rfl) dX10_votes_28 ⟨Nat.zero_le _, Nat.zero_le _⟩ ?_
        refine lv_if_eq (tgt := 56) hx hb dX10_votes_31 (by decide) (fun jc12 => ?_) (fun jc12 => ?_)
        · have hf := ite_t jc12 hf
          refine lv_iconst (v := -1) hx hb dX10_votes_56 (by decide) ?_
          obtain ⟨rfl, rfl, rfl, rfl, rfl, rfl, rfl, rfl, rfl, rfl, rfl, rfl⟩ := pr12_inv hf
          exact retM hx hb hr hlk hP hD hS dX10_votes_57
        · have hf := ite_f jc12 hf
          refine lv_iload hx hb dX10_votes_34 (lv_at hl 5 rfl) ?_
          refine lv_iconst (v := 1) hx hb dX10_votes_36 (by decide) ?_
          refine lv_bipush (v := 30) hx hb dX10_votes_37 (by decide) ?_
          obtain ⟨jr13, je14, hf⟩ := bd1_inv hf
          refine callRS (As := [.int jx5, .int (1 : Int32), .int (30 : Int32)]) (rest := []) S (ctX10_isWithin l D cI cZ jx5 (1 : Int32) (30 : Int32) jr13 je14) (va_cwS 3 hts gX10_votes_X10_isWithin rfl rfl rfl hdX10_isWithin ⟨Nat.le_of_ble_eq_true rfl, Nat.le_of_ble_eq_true rfl⟩) hP [] rfl KX.xs (fun U _ hW => hK.warm hW) rfl hl.1 rfl (Nat.le_of_ble_eq_true rfl) dX10_votes_39 ⟨Nat.zero_le _, Nat.zero_le _⟩ ?_
          refine lv_if_eq (tgt := 56) hx hb dX10_votes_42 (by decide) (fun jc15 => ?_) (fun jc15 => ?_)
          · have hf := ite_t jc15 hf
            refine lv_iconst (v := -1) hx hb dX10_votes_56 (by decide) ?_
            obtain ⟨rfl, rfl, rfl, rfl, rfl, rfl, rfl, rfl, rfl, rfl, rfl, rfl⟩ := pr12_inv hf
            exact retM hx hb hr hlk hP hD hS dX10_votes_57
          · have hf := ite_f jc15 hf
            refine lv_iload hx hb dX10_votes_45 (lv_at hl 6 rfl) ?_
            refine lv_iconst (v := 1) hx hb dX10_votes_47 (by decide) ?_
            refine lv_bipush (v := 30) hx hb dX10_votes_48 (by decide) ?_
            obtain ⟨jr16, je17, hf⟩ := bd1_inv hf
            refine callRS (As := [.int jx6, .int (1 : Int32), .int (30 : Int32)]) (rest := []) S (ctX10_isWithin l D cI cZ jx6 (1 : Int32) (30 : Int32) jr16 je17) (va_cwS 3 hts gX10_votes_X10_isWithin rfl rfl rfl hdX10_isWithin ⟨Nat.le_of_ble_eq_true rfl, Nat.le_of_ble_eq_true rfl⟩) hP [] rfl KX.xs (fun U _ hW => hK.warm hW) rfl hl.1 rfl (Nat.le_of_ble_eq_true rfl) dX10_votes_50 ⟨Nat.zero_le _, Nat.zero_le _⟩ ?_
            refine lv_if_ne (tgt := 58) hx hb dX10_votes_53 (by decide) (fun jc18 => ?_) (fun jc18 => ?_)
            · have hf := ite_f jc18 hf
              refine lv_aload_n hx hb dX10_votes_58 rfl (lv_at hl 0 rfl) ?_
              refine va_get (D := D) (ci := 10) (v := .ref a_t_now) (C := RX10) (T := TX10) (N := 10) hx hb hts iX10_votes_X10 hown hK.1 hP 0 rfl rfl 2 (by decide) (hts _ mX10_votes_1) (fun _ h9 => h9) rfl dX10_votes_59 ?_
              obtain ⟨jr19, je20, hf⟩ := bd1_inv hf
              refine callRV (As := []) (rest := []) S (ctX7_configurations l D cI cZ a_t_now a_t_now_row v_t_now_row jr19 je20) (cwV 0 hts gX10_votes_X7_configurations rfl rfl rfl ⟨rfl, hdX7_configurations⟩ ⟨Nat.le_of_ble_eq_true rfl, Nat.le_of_ble_eq_true rfl⟩) hP [1, 2] rfl KX.xs (fun U _ hW => hK.warm hW) (va_recv hK.1 hP (ci := 7) (q0 := 1) rfl rfl) rfl hl.1 rfl (Nat.le_of_ble_eq_true rfl) dX10_votes_62 ⟨Nat.zero_le _, Nat.zero_le _⟩ ?_
              refine lv_bipush (v := 8) hx hb dX10_votes_65 (by decide) ?_
              refine lv_icmp_lt (tgt := 73) hx hb dX10_votes_67 (by decide) (fun jc21 => ?_) (fun jc21 => ?_)
              · have hf := ite_t jc21 hf
                refine lv_aload_n hx hb dX10_votes_73 rfl (lv_at hl 0 rfl) ?_
                refine va_get (D := D) (ci := 10) (v := .ref a_t_meeting) (C := RX10) (T := TX10) (N := 10) hx hb hts iX10_votes_X10 hown hK.1 hP 0 rfl rfl 5 (by decide) (hts _ mX10_votes_2) (fun _ h9 => h9) rfl dX10_votes_74 ?_
                refine lv_aload_n hx hb dX10_votes_77 rfl (lv_at hl 0 rfl) ?_
                refine va_get (D := D) (ci := 10) (v := .ref a_t_now) (C := RX10) (T := TX10) (N := 10) hx hb hts iX10_votes_X10 hown hK.1 hP 0 rfl rfl 2 (by decide) (hts _ mX10_votes_1) (fun _ h9 => h9) rfl dX10_votes_78 ?_
                refine lv_iload_n hx hb dX10_votes_81 rfl (lv_at hl 1 rfl) ?_
                obtain ⟨jg22, jg23, jg24, jg25, jg26, jg27, jg28, je29, hf⟩ := bd7_inv hf
                refine callMV (As := [.ref a_t_now, .int jx1]) (rest := []) (wr := [(a_t, .inr (10, [.ref a_t_text, .ref a_t_telling, .ref a_t_now, .ref a_t_past, .ref a_t_images, .ref a_t_meeting, .ref a_t_seen, .ref a_t_chances, .ref a_t_search, .int v_t_valueRead])), (a_t_past, .inr (4, [.ref a_t_past_rows, .int v_t_past_next, .int v_t_past_size])), (a_t_past_rows, .inl (cI, 1040, .inl v_t_past_rows))]) (wn := [(a_t, .inr (10, [.ref a_t_text, .ref a_t_telling, .ref a_t_now, .ref a_t_past, .ref a_t_images, .ref a_t_meeting, .ref a_t_seen, .ref a_t_chances, .ref a_t_search, .int v_t_valueRead])), (a_t_now, .inr (7, [.ref a_t_now_row])), (a_t_now_row, .inl (cI, 104, .inl v_t_now_row)), (a_t_past, .inr (4, [.ref a_t_past_rows, .int v_t_past_next, .int v_t_past_size])), (a_t_past_rows, .inl (cI, 1040, .inl v_t_past_rows)), (a_t_meeting, .inr (3, [.int jg22, .int jg23, .int jg24, .int jg25, .int jg26, .int jg27, .int jg28]))]) S (ctX3_look l D cI cZ a_t_meeting a_t_now a_t_now_row jx1 v_t_meeting_present v_t_meeting_known v_t_meeting_votes v_t_meeting_latest v_t_meeting_value v_t_meeting_read v_t_meeting_write v_t_now_row jg22 jg23 jg24 jg25 jg26 jg27 jg28 je29) (cwV 2 hts gX10_votes_X3_look rfl rfl rfl ⟨rfl, hdX3_look⟩ ⟨Nat.le_of_ble_eq_true rfl, Nat.le_of_ble_eq_true rfl⟩) hP hD hS hA [5, 1, 2] [0, 3, 4] [0, 4, 5, 1, 2, 3] rfl rfl (by decide) (by decide) (by decide) (by decide) rfl KX.xs (fun U _ hW => hK.warm hW) (va_recv hK.1 hP (ci := 3) (q0 := 5) rfl rfl) rfl hl.1 rfl (Nat.le_of_ble_eq_true rfl) dX10_votes_82 ⟨Nat.zero_le _, Nat.zero_le _⟩ (fun H locs hP hD hS => ?_)
                refine W.eq (g2 := F0 m 85 ls []) rfl ?_
                refine lv_aload_n hx hb dX10_votes_85 rfl (lv_at hl 0 rfl) ?_
                refine va_get (D := D) (ci := 10) (v := .ref a_t_meeting) (C := RX10) (T := TX10) (N := 10) hx hb hts iX10_votes_X10 hown hK.1 hP 0 rfl rfl 5 (by decide) (hts _ mX10_votes_2) (fun _ h9 => h9) rfl dX10_votes_86 ?_
                refine va_get (D := D) (ci := 3) (v := .int jg22) (C := RX3) (T := TX3) (N := 7) hx hb hts iX10_votes_X3 hown hK.1 hP 5 rfl rfl 0 (by decide) (hts _ mX10_votes_3) (fun _ h9 => h9) rfl dX10_votes_89 ?_
                refine lv_if_ne (tgt := 98) hx hb dX10_votes_92 (by decide) (fun jc30 => ?_) (fun jc30 => ?_)
                · have hf := ite_f jc30 hf
                  refine lv_aload_n hx hb dX10_votes_98 rfl (lv_at hl 0 rfl) ?_
                  refine va_get (D := D) (ci := 10) (v := .ref a_t_now) (C := RX10) (T := TX10) (N := 10) hx hb hts iX10_votes_X10 hown hK.1 hP 0 rfl rfl 2 (by decide) (hts _ mX10_votes_1) (fun _ h9 => h9) rfl dX10_votes_99 ?_
                  refine lv_aload_n hx hb dX10_votes_102 rfl (lv_at hl 0 rfl) ?_
                  refine va_get (D := D) (ci := 10) (v := .ref a_t_meeting) (C := RX10) (T := TX10) (N := 10) hx hb hts iX10_votes_X10 hown hK.1 hP 0 rfl rfl 5 (by decide) (hts _ mX10_votes_2) (fun _ h9 => h9) rfl dX10_votes_103 ?_
                  refine va_get (D := D) (ci := 3) (v := .int jg23) (C := RX3) (T := TX3) (N := 7) hx hb hts iX10_votes_X3 hown hK.1 hP 5 rfl rfl 1 (by decide) (hts _ mX10_votes_4) (fun _ h9 => h9) rfl dX10_votes_106 ?_
                  obtain ⟨jr31, je32, hf⟩ := bd1_inv hf
                  refine callRV (As := [.int jg23]) (rest := []) S (ctX7_total l D cI cZ a_t_now a_t_now_row jg23 v_t_now_row jr31 je32) (cwV 1 hts gX10_votes_X7_total rfl rfl rfl ⟨rfl, hdX7_total⟩ ⟨Nat.le_of_ble_eq_true rfl, Nat.le_of_ble_eq_true rfl⟩) hP [1, 2] rfl KX.xs (fun U _ hW => hK.warm hW) (va_recv hK.1 hP (ci := 7) (q0 := 1) rfl rfl) rfl hl.1 rfl (Nat.le_of_ble_eq_true rfl) dX10_votes_109 ⟨Nat.zero_le _, Nat.zero_le _⟩ ?_
                  refine lv_aload_n hx hb dX10_votes_112 rfl (lv_at hl 0 rfl) ?_
                  refine va_get (D := D) (ci := 10) (v := .ref a_t_now) (C := RX10) (T := TX10) (N := 10) hx hb hts iX10_votes_X10 hown hK.1 hP 0 rfl rfl 2 (by decide) (hts _ mX10_votes_1) (fun _ h9 => h9) rfl dX10_votes_113 ?_
                  refine lv_aload_n hx hb dX10_votes_116 rfl (lv_at hl 0 rfl) ?_
                  refine va_get (D := D) (ci := 10) (v := .ref a_t_meeting) (C := RX10) (T := TX10) (N := 10) hx hb hts iX10_votes_X10 hown hK.1 hP 0 rfl rfl 5 (by decide) (hts _ mX10_votes_2) (fun _ h9 => h9) rfl dX10_votes_117 ?_
                  refine va_get (D := D) (ci := 3) (v := .int jg23) (C := RX3) (T := TX3) (N := 7) hx hb hts iX10_votes_X3 hown hK.1 hP 5 rfl rfl 1 (by decide) (hts _ mX10_votes_4) (fun _ h9 => h9) rfl dX10_votes_120 ?_
                  refine lv_iload_n hx hb dX10_votes_123 rfl (lv_at hl 2 rfl) ?_
                  obtain ⟨jr33, je34, hf⟩ := bd1_inv hf
                  refine callRV (As := [.int jg23, .int jx2]) (rest := [.int jr31]) S (ctX7_votesOf l D cI cZ a_t_now a_t_now_row jg23 jx2 v_t_now_row jr33 je34) (cwV 2 hts gX10_votes_X7_votesOf rfl rfl rfl ⟨rfl, hdX7_votesOf⟩ ⟨Nat.le_of_ble_eq_true rfl, Nat.le_of_ble_eq_true rfl⟩) hP [1, 2] rfl KX.xs (fun U _ hW => hK.warm hW) (va_recv hK.1 hP (ci := 7) (q0 := 1) rfl rfl) rfl hl.1 rfl (Nat.le_of_ble_eq_true rfl) dX10_votes_124 ⟨Nat.zero_le _, Nat.zero_le _⟩ ?_
                  refine lv_isub hx hb dX10_votes_127 ?_
                  refine lv_iload_n hx hb dX10_votes_128 rfl (lv_at hl 3 rfl) ?_
                  refine lv_iadd hx hb dX10_votes_129 ?_
                  refine lv_istore (lv' := [(7, .int ((jr31 - jr33) + jx3)), (0, .ref a_t), (1, .int jx1), (2, .int jx2), (3, .int jx3), (4, .int jx4), (5, .int jx5), (6, .int jx6)]) hx hb dX10_votes_130 hl (by decide) rfl (fun ls hl => ?_)
                  refine lv_iload hx hb dX10_votes_132 (lv_at hl 0 rfl) ?_
                  refine lv_iload hx hb dX10_votes_134 (lv_at hl 6 rfl) ?_
                  refine lv_iload hx hb dX10_votes_136 (lv_at hl 7 rfl) ?_
                  obtain ⟨jr35, je36, hf⟩ := bd1_inv hf
                  refine callRS (As := [.int ((jr31 - jr33) + jx3), .int jx5, .int jx6]) (rest := []) S (ctX10_isLawful l D cI cZ ((jr31 - jr33) + jx3) jx5 jx6 jr35 je36) (va_cwS 3 hts gX10_votes_X10_isLawful rfl rfl rfl hdX10_isLawful ⟨Nat.le_of_ble_eq_true rfl, Nat.le_of_ble_eq_true rfl⟩) hP [] rfl KX.xs (fun U _ hW => hK.warm hW) rfl hl.1 rfl (Nat.le_of_ble_eq_true rfl) dX10_votes_138 ⟨Nat.zero_le _, Nat.zero_le _⟩ ?_
                  refine lv_if_ne (tgt := 147) hx hb dX10_votes_141 (by decide) (fun jc37 => ?_) (fun jc37 => ?_)
                  · have hf := ite_f jc37 hf
                    refine lv_aload_n hx hb dX10_votes_147 rfl (lv_at hl 1 rfl) ?_
                    refine va_get (D := D) (ci := 10) (v := .ref a_t_meeting) (C := RX10) (T := TX10) (N := 10) hx hb hts iX10_votes_X10 hown hK.1 hP 0 rfl rfl 5 (by decide) (hts _ mX10_votes_2) (fun _ h9 => h9) rfl dX10_votes_148 ?_
                    refine lv_aload_n hx hb dX10_votes_151 rfl (lv_at hl 1 rfl) ?_
                    refine va_get (D := D) (ci := 10) (v := .ref a_t_meeting) (C := RX10) (T := TX10) (N := 10) hx hb hts iX10_votes_X10 hown hK.1 hP 0 rfl rfl 5 (by decide) (hts _ mX10_votes_2) (fun _ h9 => h9) rfl dX10_votes_152 ?_
                    refine va_get (D := D) (ci := 3) (v := .int jg28) (C := RX3) (T := TX3) (N := 7) hx hb hts iX10_votes_X3 hown hK.1 hP 5 rfl rfl 6 (by decide) (hts _ mX10_votes_5) (fun _ h9 => h9) rfl dX10_votes_155 ?_
                    refine lv_iconst (v := 1) hx hb dX10_votes_158 (by decide) ?_
                    obtain ⟨jr38, je39, hf⟩ := bd1_inv hf
                    refine callRV (As := [.int jg28, .int (1 : Int32)]) (rest := []) S (ctX3_refusal l D cI cZ a_t_meeting jg28 (1 : Int32) jg22 jg24 jg26 jg23 jg25 jg27 jg28 jr38 je39) (cwV 2 hts gX10_votes_X3_refusal rfl rfl rfl ⟨rfl, hdX3_refusal⟩ ⟨Nat.le_of_ble_eq_true rfl, Nat.le_of_ble_eq_true rfl⟩) hP [5] rfl KX.xs (fun U _ hW => hK.warm hW) (va_recv hK.1 hP (ci := 3) (q0 := 5) rfl rfl) rfl hl.1 rfl (Nat.le_of_ble_eq_true rfl) dX10_votes_159 ⟨Nat.zero_le _, Nat.zero_le _⟩ ?_
                    refine lv_istore (lv' := [(8, .int jr38), (7, .int ((jr31 - jr33) + jx3)), (0, .ref a_t), (1, .int jx1), (2, .int jx2), (3, .int jx3), (4, .int jx4), (5, .int jx5), (6, .int jx6)]) hx hb dX10_votes_162 hl (by decide) rfl (fun ls hl => ?_)
                    refine lv_iload hx hb dX10_votes_164 (lv_at hl 0 rfl) ?_
                    refine lv_if_eq (tgt := 172) hx hb dX10_votes_166 (by decide) (fun jc40 => ?_) (fun jc40 => ?_)
                    · have hf := ite_t jc40 hf
                      refine lv_aload_n hx hb dX10_votes_172 rfl (lv_at hl 2 rfl) ?_
                      refine va_get (D := D) (ci := 10) (v := .ref a_t_past) (C := RX10) (T := TX10) (N := 10) hx hb hts iX10_votes_X10 hown hK.1 hP 0 rfl rfl 3 (by decide) (hts _ mX10_votes_6) (fun _ h9 => h9) rfl dX10_votes_173 ?_
                      refine lv_aload_n hx hb dX10_votes_176 rfl (lv_at hl 2 rfl) ?_
                      refine va_get (D := D) (ci := 10) (v := .ref a_t_now) (C := RX10) (T := TX10) (N := 10) hx hb hts iX10_votes_X10 hown hK.1 hP 0 rfl rfl 2 (by decide) (hts _ mX10_votes_1) (fun _ h9 => h9) rfl dX10_votes_177 ?_
                      obtain ⟨jg41, jg42, jg43, je44, hf⟩ := bd3_inv hf
                      refine callMV (As := [.ref a_t_now]) (rest := []) (wr := [(a_t, .inr (10, [.ref a_t_text, .ref a_t_telling, .ref a_t_now, .ref a_t_past, .ref a_t_images, .ref a_t_meeting, .ref a_t_seen, .ref a_t_chances, .ref a_t_search, .int v_t_valueRead])), (a_t_meeting, .inr (3, [.int jg22, .int jg23, .int jg24, .int jg25, .int jg26, .int jg27, .int jg28]))]) (wn := [(a_t, .inr (10, [.ref a_t_text, .ref a_t_telling, .ref a_t_now, .ref a_t_past, .ref a_t_images, .ref a_t_meeting, .ref a_t_seen, .ref a_t_chances, .ref a_t_search, .int v_t_valueRead])), (a_t_now, .inr (7, [.ref a_t_now_row])), (a_t_now_row, .inl (cI, 104, .inl v_t_now_row)), (a_t_past, .inr (4, [.ref a_t_past_rows, .int jg41, .int jg42])), (a_t_past_rows, .inl (cI, 1040, .inl jg43)), (a_t_meeting, .inr (3, [.int jg22, .int jg23, .int jg24, .int jg25, .int jg26, .int jg27, .int jg28]))]) S (ctX4_remember l D cI cZ a_t_past a_t_past_rows a_t_now a_t_now_row v_t_past_next v_t_past_size v_t_past_rows v_t_now_row jg41 jg42 jg43 je44) (cwV 1 hts gX10_votes_X4_remember rfl rfl rfl ⟨rfl, hdX4_remember⟩ ⟨Nat.le_of_ble_eq_true rfl, Nat.le_of_ble_eq_true rfl⟩) hP hD hS hA [3, 4, 1, 2] [0, 5] [0, 4, 5, 2, 3, 1] rfl rfl (by decide) (by decide) (by decide) (by decide) rfl KX.xs (fun U _ hW => hK.warm hW) (va_recv hK.1 hP (ci := 4) (q0 := 3) rfl rfl) rfl hl.1 rfl (Nat.le_of_ble_eq_true rfl) dX10_votes_180 ⟨Nat.zero_le _, Nat.zero_le _⟩ (fun H locs hP hD hS => ?_)
                      refine W.eq (g2 := F0 m 183 ls []) rfl ?_
                      refine lv_aload_n hx hb dX10_votes_183 rfl (lv_at hl 2 rfl) ?_
                      refine va_get (D := D) (ci := 10) (v := .ref a_t_now) (C := RX10) (T := TX10) (N := 10) hx hb hts iX10_votes_X10 hown hK.1 hP 0 rfl rfl 2 (by decide) (hts _ mX10_votes_1) (fun _ h9 => h9) rfl dX10_votes_184 ?_
                      refine lv_aload_n hx hb dX10_votes_187 rfl (lv_at hl 2 rfl) ?_
                      refine va_get (D := D) (ci := 10) (v := .ref a_t_meeting) (C := RX10) (T := TX10) (N := 10) hx hb hts iX10_votes_X10 hown hK.1 hP 0 rfl rfl 5 (by decide) (hts _ mX10_votes_2) (fun _ h9 => h9) rfl dX10_votes_188 ?_
                      refine va_get (D := D) (ci := 3) (v := .int jg23) (C := RX3) (T := TX3) (N := 7) hx hb hts iX10_votes_X3 hown hK.1 hP 5 rfl rfl 1 (by decide) (hts _ mX10_votes_4) (fun _ h9 => h9) rfl dX10_votes_191 ?_
                      obtain ⟨jr45, jg46, je47, hf⟩ := bd2_inv hf
                      refine callMV (As := [.int jg23]) (rest := []) (wr := [(a_t, .inr (10, [.ref a_t_text, .ref a_t_telling, .ref a_t_now, .ref a_t_past, .ref a_t_images, .ref a_t_meeting, .ref a_t_seen, .ref a_t_chances, .ref a_t_search, .int v_t_valueRead])), (a_t_past, .inr (4, [.ref a_t_past_rows, .int jg41, .int jg42])), (a_t_past_rows, .inl (cI, 1040, .inl jg43)), (a_t_meeting, .inr (3, [.int jg22, .int jg23, .int jg24, .int jg25, .int jg26, .int jg27, .int jg28]))]) (wn := [(a_t, .inr (10, [.ref a_t_text, .ref a_t_telling, .ref a_t_now, .ref a_t_past, .ref a_t_images, .ref a_t_meeting, .ref a_t_seen, .ref a_t_chances, .ref a_t_search, .int v_t_valueRead])), (a_t_now, .inr (7, [.ref a_t_now_row])), (a_t_now_row, .inl (cI, 104, .inl jg46)), (a_t_past, .inr (4, [.ref a_t_past_rows, .int jg41, .int jg42])), (a_t_past_rows, .inl (cI, 1040, .inl jg43)), (a_t_meeting, .inr (3, [.int jg22, .int jg23, .int jg24, .int jg25, .int jg26, .int jg27, .int jg28]))]) S (ctX7_addLike l D cI cZ a_t_now a_t_now_row jg23 v_t_now_row jr45 jg46 je47) (cwV 1 hts gX10_votes_X7_addLike rfl rfl rfl ⟨rfl, hdX7_addLike⟩ ⟨Nat.le_of_ble_eq_true rfl, Nat.le_of_ble_eq_true rfl⟩) hP hD hS hA [1, 2] [0, 3, 4, 5] [0, 4, 5, 1, 2, 3] rfl rfl (by decide) (by decide) (by decide) (by decide) rfl KX.xs (fun U _ hW => hK.warm hW) (va_recv hK.1 hP (ci := 7) (q0 := 1) rfl rfl) rfl hl.1 rfl (Nat.le_of_ble_eq_true rfl) dX10_votes_194 ⟨Nat.zero_le _, Nat.zero_le _⟩ (fun H locs hP hD hS => ?_)
                      refine W.eq (g2 := F0 m 197 ls [.int jr45]) rfl ?_
                      refine lv_istore (lv' := [(9, .int jr45), (8, .int jr38), (7, .int ((jr31 - jr33) + jx3)), (0, .ref a_t), (1, .int jx1), (2, .int jx2), (3, .int jx3), (4, .int jx4), (5, .int jx5), (6, .int jx6)]) hx hb dX10_votes_197 hl (by decide) rfl (fun ls hl => ?_)
                      refine lv_aload_n hx hb dX10_votes_199 rfl (lv_at hl 3 rfl) ?_
                      refine va_get (D := D) (ci := 10) (v := .ref a_t_now) (C := RX10) (T := TX10) (N := 10) hx hb hts iX10_votes_X10 hown hK.1 hP 0 rfl rfl 2 (by decide) (hts _ mX10_votes_1) (fun _ h9 => h9) rfl dX10_votes_200 ?_
                      refine lv_iload hx hb dX10_votes_203 (lv_at hl 0 rfl) ?_
                      refine lv_iload hx hb dX10_votes_205 (lv_at hl 8 rfl) ?_
                      refine lv_iload hx hb dX10_votes_207 (lv_at hl 9 rfl) ?_
                      obtain ⟨jg48, je49, hf⟩ := bd1_inv hf
                      refine callMV (As := [.int jr45, .int jx5, .int jx6]) (rest := []) (wr := [(a_t, .inr (10, [.ref a_t_text, .ref a_t_telling, .ref a_t_now, .ref a_t_past, .ref a_t_images, .ref a_t_meeting, .ref a_t_seen, .ref a_t_chances, .ref a_t_search, .int v_t_valueRead])), (a_t_past, .inr (4, [.ref a_t_past_rows, .int jg41, .int jg42])), (a_t_past_rows, .inl (cI, 1040, .inl jg43)), (a_t_meeting, .inr (3, [.int jg22, .int jg23, .int jg24, .int jg25, .int jg26, .int jg27, .int jg28]))]) (wn := [(a_t, .inr (10, [.ref a_t_text, .ref a_t_telling, .ref a_t_now, .ref a_t_past, .ref a_t_images, .ref a_t_meeting, .ref a_t_seen, .ref a_t_chances, .ref a_t_search, .int v_t_valueRead])), (a_t_now, .inr (7, [.ref a_t_now_row])), (a_t_now_row, .inl (cI, 104, .inl jg48)), (a_t_past, .inr (4, [.ref a_t_past_rows, .int jg41, .int jg42])), (a_t_past_rows, .inl (cI, 1040, .inl jg43)), (a_t_meeting, .inr (3, [.int jg22, .int jg23, .int jg24, .int jg25, .int jg26, .int jg27, .int jg28]))]) S (ctX7_setNeeds l D cI cZ a_t_now a_t_now_row jr45 jx5 jx6 jg46 jg48 je49) (cwV 3 hts gX10_votes_X7_setNeeds rfl rfl rfl ⟨rfl, hdX7_setNeeds⟩ ⟨Nat.le_of_ble_eq_true rfl, Nat.le_of_ble_eq_true rfl⟩) hP hD hS hA [1, 2] [0, 3, 4, 5] [0, 4, 5, 1, 2, 3] rfl rfl (by decide) (by decide) (by decide) (by decide) rfl KX.xs (fun U _ hW => hK.warm hW) (va_recv hK.1 hP (ci := 7) (q0 := 1) rfl rfl) rfl hl.1 rfl (Nat.le_of_ble_eq_true rfl) dX10_votes_209 ⟨Nat.zero_le _, Nat.zero_le _⟩ (fun H locs hP hD hS => ?_)
                      refine W.eq (g2 := F0 m 212 ls []) rfl ?_
                      refine lv_aload_n hx hb dX10_votes_212 rfl (lv_at hl 3 rfl) ?_
                      refine va_get (D := D) (ci := 10) (v := .ref a_t_now) (C := RX10) (T := TX10) (N := 10) hx hb hts iX10_votes_X10 hown hK.1 hP 0 rfl rfl 2 (by decide) (hts _ mX10_votes_1) (fun _ h9 => h9) rfl dX10_votes_213 ?_
                      refine lv_iload hx hb dX10_votes_216 (lv_at hl 0 rfl) ?_
                      refine lv_iload_n hx hb dX10_votes_218 rfl (lv_at hl 5 rfl) ?_
                      refine lv_iload_n hx hb dX10_votes_219 rfl (lv_at hl 6 rfl) ?_
                      refine lv_iload hx hb dX10_votes_220 (lv_at hl 7 rfl) ?_
                      refine lv_iconst (v := 1) hx hb dX10_votes_222 (by decide) ?_
                      refine lv_icmp_ne (tgt := 230) hx hb dX10_votes_223 (by decide) (fun jc50 => ?_) (fun jc50 => ?_)
                      · have hf := ite_f jc50 hf
                        refine lv_iconst (v := 0) hx hb dX10_votes_230 (by decide) ?_
                        exact wX10_votes_231 S hr hlk hK hA jr45 (0 : Int32) jx3 jx2 jr45 jg48 jg41 jg42 jg43 jg22 jg23 jg24 jg25 jg26 jg27 jg28 ls _ _ hf (lv_sub hl [3, 0] rfl) hP hD hS
                      · have hf := ite_t jc50 hf
                        refine lv_iconst (v := 1) hx hb dX10_votes_226 (by decide) ?_
                        refine lv_goto (tgt := 231) hx hb dX10_votes_227 (by decide) ?_
                        exact wX10_votes_231 S hr hlk hK hA jr45 (1 : Int32) jx3 jx2 jr45 jg48 jg41 jg42 jg43 jg22 jg23 jg24 jg25 jg26 jg27 jg28 ls _ _ hf (lv_sub hl [3, 0] rfl) hP hD hS
                    · have hf := ite_f jc40 hf
                      refine lv_iload hx hb dX10_votes_169 (lv_at hl 0 rfl) ?_
                      obtain ⟨rfl, rfl, rfl, rfl, rfl, rfl, rfl, rfl, rfl, rfl, rfl, rfl⟩ := pr12_inv hf
                      exact retM hx hb hr hlk hP hD hS dX10_votes_171
                  · have hf := ite_t jc37 hf
                    refine lv_bipush (v := -2) hx hb dX10_votes_144 (by decide) ?_
                    obtain ⟨rfl, rfl, rfl, rfl, rfl, rfl, rfl, rfl, rfl, rfl, rfl, rfl⟩ := pr12_inv hf
                    exact retM hx hb hr hlk hP hD hS dX10_votes_146
                · have hf := ite_t jc30 hf
                  refine lv_bipush (v := -4) hx hb dX10_votes_95 (by decide) ?_
                  obtain ⟨rfl, rfl, rfl, rfl, rfl, rfl, rfl, rfl, rfl, rfl, rfl, rfl⟩ := pr12_inv hf
                  exact retM hx hb hr hlk hP hD hS dX10_votes_97
              · have hf := ite_f jc21 hf
                refine lv_bipush (v := -3) hx hb dX10_votes_70 (by decide) ?_
                obtain ⟨rfl, rfl, rfl, rfl, rfl, rfl, rfl, rfl, rfl, rfl, rfl, rfl⟩ := pr12_inv hf
                exact retM hx hb hr hlk hP hD hS dX10_votes_72
            · have hf := ite_t jc18 hf
              refine lv_iconst (v := -1) hx hb dX10_votes_56 (by decide) ?_
              obtain ⟨rfl, rfl, rfl, rfl, rfl, rfl, rfl, rfl, rfl, rfl, rfl, rfl⟩ := pr12_inv hf
              exact retM hx hb hr hlk hP hD hS dX10_votes_57
def fX10_flips (jx1 : Int32) (v_t_now_row : (Nat → Int32)) (v_t_past_next : Int32) (v_t_past_size : Int32) (v_t_past_rows : (Nat → Int32)) : Option (Int32 × (Nat → Int32) × Int32 × Int32 × (Nat → Int32)) := bd1 (fX10_isCopy jx1 v_t_now_row) (fun jr1 => if jr1 = 0 then some ((-1 : Int32), v_t_now_row, v_t_past_next, v_t_past_size, v_t_past_rows) else bd3 (fX4_remember v_t_past_next v_t_past_size v_t_past_rows v_t_now_row) (fun jg4 jg5 jg6 => bd2 (fX7_turn jx1 v_t_now_row) (fun jr8 jg9 => some (jr8, jg9, jg4, jg5, jg6))))
abbrev rmX10_flips : Room := { frames := 3, cells := 0, slots := 0, locals := 69 }
theorem iX10_flips_X10 : ∀ w ∈ wsX100, w ∈ wsX10_flips := fun _ h => List.mem_cons_of_mem _ (List.mem_append_left _ (List.mem_append_left _ (List.mem_append_right _ h)))
theorem mX10_flips_1 : (Cond.fieldLink RX10 35 "VoteFiles" "past" "LVoteFiles$Past;") ∈ wsX10_flips := List.mem_of_getElem? (i := 1) rfl
theorem mX10_flips_2 : (Cond.fieldLink RX10 28 "VoteFiles" "now" "LVoteFiles$Shape;") ∈ wsX10_flips := List.mem_of_getElem? (i := 2) rfl
theorem hdX10_flips : yX10_flips.cls ≠ "java/lang/invoke/MethodHandle" ∧ yX10_flips.cls ≠ "java/lang/invoke/VarHandle" ∧ (parseMethodDescriptor yX10_flips.desc).map (fun d => d.parameters.length) = some 1 := by decide +kernel
set_option maxHeartbeats 4000000 in
set_option maxRecDepth 100000 in
theorem ctX10_flips (l : Launch) (D : va_G) (cI cZ : ClassId) (a_t a_t_text a_t_telling a_t_now a_t_past a_t_images a_t_meeting a_t_seen a_t_chances a_t_search a_t_now_row a_t_past_rows : Nat) (jx1 : Int32) (v_t_now_row : (Nat → Int32)) (v_t_past_next : Int32) (v_t_past_size : Int32) (v_t_past_rows : (Nat → Int32)) (v_t_valueRead : Int32) (r : Int32) (o_t_now_row : (Nat → Int32)) (o_t_past_next : Int32) (o_t_past_size : Int32) (o_t_past_rows : (Nat → Int32)) (hf : fX10_flips jx1 v_t_now_row v_t_past_next v_t_past_size v_t_past_rows = some (r, o_t_now_row, o_t_past_next, o_t_past_size, o_t_past_rows)) : cM l yX10_flips wsX10_flips rmX10_flips [.ref a_t, .int jx1] D [(a_t, .inr (10, [.ref a_t_text, .ref a_t_telling, .ref a_t_now, .ref a_t_past, .ref a_t_images, .ref a_t_meeting, .ref a_t_seen, .ref a_t_chances, .ref a_t_search, .int v_t_valueRead])), (a_t_now, .inr (7, [.ref a_t_now_row])), (a_t_now_row, .inl (cI, 104, .inl v_t_now_row)), (a_t_past, .inr (4, [.ref a_t_past_rows, .int v_t_past_next, .int v_t_past_size])), (a_t_past_rows, .inl (cI, 1040, .inl v_t_past_rows))] [(a_t, .inr (10, [.ref a_t_text, .ref a_t_telling, .ref a_t_now, .ref a_t_past, .ref a_t_images, .ref a_t_meeting, .ref a_t_seen, .ref a_t_chances, .ref a_t_search, .int v_t_valueRead])), (a_t_now, .inr (7, [.ref a_t_now_row])), (a_t_now_row, .inl (cI, 104, .inl o_t_now_row)), (a_t_past, .inr (4, [.ref a_t_past_rows, .int o_t_past_next, .int o_t_past_size])), (a_t_past_rows, .inl (cI, 1040, .inl o_t_past_rows))] (KX D cI cZ) (some (.int r)) := by
  refine cM_of (cc := cX10_flips) (maxL := 2) (ret := some .int) (by decide +kernel) rfl _ (Nat.le_of_ble_eq_true rfl) ?_
  intro p e s m below meth c ls A S hr hlk hP hK hl hD hA hS
  obtain ⟨hx, hb, hml, hown, hts⟩ := id S
  have hl : lv_has ls 2 [(0, .ref a_t), (1, .int jx1)] := hl
  unfold fX10_flips at hf
  refine lv_aload_n hx hb dX10_flips_0 rfl (lv_at hl 0 rfl) ?_
  refine lv_iload_n hx hb dX10_flips_1 rfl (lv_at hl 1 rfl) ?_
  obtain ⟨jr1, je2, hf⟩ := bd1_inv hf
  refine callRV (As := [.int jx1]) (rest := []) S (ctX10_isCopy l D cI cZ a_t a_t_text a_t_telling a_t_now a_t_past a_t_images a_t_meeting a_t_seen a_t_chances a_t_search a_t_now_row jx1 v_t_now_row v_t_valueRead jr1 je2) (cwV 1 hts gX10_flips_X10_isCopy rfl rfl rfl ⟨rfl, hdX10_isCopy⟩ ⟨Nat.le_of_ble_eq_true rfl, Nat.le_of_ble_eq_true rfl⟩) hP [0, 1, 2] rfl KX.xs (fun U _ hW => hK.warm hW) (va_recv hK.1 hP (ci := 10) (q0 := 0) rfl rfl) rfl hl.1 rfl (Nat.le_of_ble_eq_true rfl) dX10_flips_2 ⟨Nat.zero_le _, Nat.zero_le _⟩ ?_
  refine lv_if_ne (tgt := 10) hx hb dX10_flips_5 (by decide) (fun jc3 => ?_) (fun jc3 => ?_)
  · have hf := ite_f jc3 hf
    refine lv_aload_n hx hb dX10_flips_10 rfl (lv_at hl 0 rfl) ?_
    refine va_get (D := D) (ci := 10) (v := .ref a_t_past) (C := RX10) (T := TX10) (N := 10) hx hb hts iX10_flips_X10 hown hK.1 hP 0 rfl rfl 3 (by decide) (hts _ mX10_flips_1) (fun _ h9 => h9) rfl dX10_flips_11 ?_
    refine lv_aload_n hx hb dX10_flips_14 rfl (lv_at hl 0 rfl) ?_
    refine va_get (D := D) (ci := 10) (v := .ref a_t_now) (C := RX10) (T := TX10) (N := 10) hx hb hts iX10_flips_X10 hown hK.1 hP 0 rfl rfl 2 (by decide) (hts _ mX10_flips_2) (fun _ h9 => h9) rfl dX10_flips_15 ?_
    obtain ⟨jg4, jg5, jg6, je7, hf⟩ := bd3_inv hf
    refine callMV (As := [.ref a_t_now]) (rest := []) (wr := [(a_t, .inr (10, [.ref a_t_text, .ref a_t_telling, .ref a_t_now, .ref a_t_past, .ref a_t_images, .ref a_t_meeting, .ref a_t_seen, .ref a_t_chances, .ref a_t_search, .int v_t_valueRead]))]) (wn := [(a_t, .inr (10, [.ref a_t_text, .ref a_t_telling, .ref a_t_now, .ref a_t_past, .ref a_t_images, .ref a_t_meeting, .ref a_t_seen, .ref a_t_chances, .ref a_t_search, .int v_t_valueRead])), (a_t_now, .inr (7, [.ref a_t_now_row])), (a_t_now_row, .inl (cI, 104, .inl v_t_now_row)), (a_t_past, .inr (4, [.ref a_t_past_rows, .int jg4, .int jg5])), (a_t_past_rows, .inl (cI, 1040, .inl jg6))]) S (ctX4_remember l D cI cZ a_t_past a_t_past_rows a_t_now a_t_now_row v_t_past_next v_t_past_size v_t_past_rows v_t_now_row jg4 jg5 jg6 je7) (cwV 1 hts gX10_flips_X4_remember rfl rfl rfl ⟨rfl, hdX4_remember⟩ ⟨Nat.le_of_ble_eq_true rfl, Nat.le_of_ble_eq_true rfl⟩) hP hD hS hA [3, 4, 1, 2] [0] [0, 3, 4, 1, 2] rfl rfl (by decide) (by decide) (by decide) (by decide) rfl KX.xs (fun U _ hW => hK.warm hW) (va_recv hK.1 hP (ci := 4) (q0 := 3) rfl rfl) rfl hl.1 rfl (Nat.le_of_ble_eq_true rfl) dX10_flips_18 ⟨Nat.zero_le _, Nat.zero_le _⟩ (fun H locs hP hD hS => ?_)
    refine W.eq (g2 := F0 m 21 ls []) rfl ?_
    refine lv_aload_n hx hb dX10_flips_21 rfl (lv_at hl 0 rfl) ?_
    refine va_get (D := D) (ci := 10) (v := .ref a_t_now) (C := RX10) (T := TX10) (N := 10) hx hb hts iX10_flips_X10 hown hK.1 hP 0 rfl rfl 2 (by decide) (hts _ mX10_flips_2) (fun _ h9 => h9) rfl dX10_flips_22 ?_
    refine lv_iload_n hx hb dX10_flips_25 rfl (lv_at hl 1 rfl) ?_
    obtain ⟨jr8, jg9, je10, hf⟩ := bd2_inv hf
    refine callMV (As := [.int jx1]) (rest := []) (wr := [(a_t, .inr (10, [.ref a_t_text, .ref a_t_telling, .ref a_t_now, .ref a_t_past, .ref a_t_images, .ref a_t_meeting, .ref a_t_seen, .ref a_t_chances, .ref a_t_search, .int v_t_valueRead])), (a_t_past, .inr (4, [.ref a_t_past_rows, .int jg4, .int jg5])), (a_t_past_rows, .inl (cI, 1040, .inl jg6))]) (wn := [(a_t, .inr (10, [.ref a_t_text, .ref a_t_telling, .ref a_t_now, .ref a_t_past, .ref a_t_images, .ref a_t_meeting, .ref a_t_seen, .ref a_t_chances, .ref a_t_search, .int v_t_valueRead])), (a_t_now, .inr (7, [.ref a_t_now_row])), (a_t_now_row, .inl (cI, 104, .inl jg9)), (a_t_past, .inr (4, [.ref a_t_past_rows, .int jg4, .int jg5])), (a_t_past_rows, .inl (cI, 1040, .inl jg6))]) S (ctX7_turn l D cI cZ a_t_now a_t_now_row jx1 v_t_now_row jr8 jg9 je10) (cwV 1 hts gX10_flips_X7_turn rfl rfl rfl ⟨rfl, hdX7_turn⟩ ⟨Nat.le_of_ble_eq_true rfl, Nat.le_of_ble_eq_true rfl⟩) hP hD hS hA [1, 2] [0, 3, 4] [0, 3, 4, 1, 2] rfl rfl (by decide) (by decide) (by decide) (by decide) rfl KX.xs (fun U _ hW => hK.warm hW) (va_recv hK.1 hP (ci := 7) (q0 := 1) rfl rfl) rfl hl.1 rfl (Nat.le_of_ble_eq_true rfl) dX10_flips_26 ⟨Nat.zero_le _, Nat.zero_le _⟩ (fun H locs hP hD hS => ?_)
    refine W.eq (g2 := F0 m 29 ls [.int jr8]) rfl ?_
    obtain ⟨rfl, rfl, rfl, rfl, rfl⟩ := pr5_inv hf
    exact retM hx hb hr hlk hP hD hS dX10_flips_29
  · have hf := ite_t jc3 hf
    refine lv_iconst (v := -1) hx hb dX10_flips_8 (by decide) ?_
    obtain ⟨rfl, rfl, rfl, rfl, rfl⟩ := pr5_inv hf
    exact retM hx hb hr hlk hP hD hS dX10_flips_9
def fX10_moves (jx1 : Int32) (jx2 : Int32) (v_t_now_row : (Nat → Int32)) (v_t_past_next : Int32) (v_t_past_size : Int32) (v_t_past_rows : (Nat → Int32)) : Option (Int32 × (Nat → Int32) × Int32 × Int32 × (Nat → Int32)) := bd1 (fX10_isCopy jx1 v_t_now_row) (fun jr1 => if jr1 = 0 then some ((-1 : Int32), v_t_now_row, v_t_past_next, v_t_past_size, v_t_past_rows) else bd1 (fX10_isGroup jx2) (fun jr4 => if jr4 = 0 then some ((-1 : Int32), v_t_now_row, v_t_past_next, v_t_past_size, v_t_past_rows) else bd1 (fX7_groupOf jx1 v_t_now_row) (fun jr7 => if jr7 = jx2 then some ((-2 : Int32), v_t_now_row, v_t_past_next, v_t_past_size, v_t_past_rows) else bd3 (fX4_remember v_t_past_next v_t_past_size v_t_past_rows v_t_now_row) (fun jg10 jg11 jg12 => bd1 (fX7_setGroup jx1 jx2 v_t_now_row) (fun jg14 => some (jr7, jg14, jg10, jg11, jg12))))))
abbrev rmX10_moves : Room := { frames := 3, cells := 0, slots := 0, locals := 69 }
theorem iX10_moves_X10 : ∀ w ∈ wsX100, w ∈ wsX10_moves := fun _ h => List.mem_cons_of_mem _ (List.mem_append_left _ (List.mem_append_left _ (List.mem_append_right _ h)))
theorem mX10_moves_1 : (Cond.fieldLink RX10 28 "VoteFiles" "now" "LVoteFiles$Shape;") ∈ wsX10_moves := List.mem_of_getElem? (i := 1) rfl
theorem mX10_moves_2 : (Cond.fieldLink RX10 35 "VoteFiles" "past" "LVoteFiles$Past;") ∈ wsX10_moves := List.mem_of_getElem? (i := 2) rfl
theorem hdX10_moves : yX10_moves.cls ≠ "java/lang/invoke/MethodHandle" ∧ yX10_moves.cls ≠ "java/lang/invoke/VarHandle" ∧ (parseMethodDescriptor yX10_moves.desc).map (fun d => d.parameters.length) = some 2 := by decide +kernel
set_option maxHeartbeats 4000000 in
set_option maxRecDepth 100000 in
theorem ctX10_moves (l : Launch) (D : va_G) (cI cZ : ClassId) (a_t a_t_text a_t_telling a_t_now a_t_past a_t_images a_t_meeting a_t_seen a_t_chances a_t_search a_t_now_row a_t_past_rows : Nat) (jx1 : Int32) (jx2 : Int32) (v_t_now_row : (Nat → Int32)) (v_t_past_next : Int32) (v_t_past_size : Int32) (v_t_past_rows : (Nat → Int32)) (v_t_valueRead : Int32) (r : Int32) (o_t_now_row : (Nat → Int32)) (o_t_past_next : Int32) (o_t_past_size : Int32) (o_t_past_rows : (Nat → Int32)) (hf : fX10_moves jx1 jx2 v_t_now_row v_t_past_next v_t_past_size v_t_past_rows = some (r, o_t_now_row, o_t_past_next, o_t_past_size, o_t_past_rows)) : cM l yX10_moves wsX10_moves rmX10_moves [.ref a_t, .int jx1, .int jx2] D [(a_t, .inr (10, [.ref a_t_text, .ref a_t_telling, .ref a_t_now, .ref a_t_past, .ref a_t_images, .ref a_t_meeting, .ref a_t_seen, .ref a_t_chances, .ref a_t_search, .int v_t_valueRead])), (a_t_now, .inr (7, [.ref a_t_now_row])), (a_t_now_row, .inl (cI, 104, .inl v_t_now_row)), (a_t_past, .inr (4, [.ref a_t_past_rows, .int v_t_past_next, .int v_t_past_size])), (a_t_past_rows, .inl (cI, 1040, .inl v_t_past_rows))] [(a_t, .inr (10, [.ref a_t_text, .ref a_t_telling, .ref a_t_now, .ref a_t_past, .ref a_t_images, .ref a_t_meeting, .ref a_t_seen, .ref a_t_chances, .ref a_t_search, .int v_t_valueRead])), (a_t_now, .inr (7, [.ref a_t_now_row])), (a_t_now_row, .inl (cI, 104, .inl o_t_now_row)), (a_t_past, .inr (4, [.ref a_t_past_rows, .int o_t_past_next, .int o_t_past_size])), (a_t_past_rows, .inl (cI, 1040, .inl o_t_past_rows))] (KX D cI cZ) (some (.int r)) := by
  refine cM_of (cc := cX10_moves) (maxL := 4) (ret := some .int) (by decide +kernel) rfl _ (Nat.le_of_ble_eq_true rfl) ?_
  intro p e s m below meth c ls A S hr hlk hP hK hl hD hA hS
  obtain ⟨hx, hb, hml, hown, hts⟩ := id S
  have hl : lv_has ls 4 [(0, .ref a_t), (1, .int jx1), (2, .int jx2)] := hl
  unfold fX10_moves at hf
  refine lv_aload_n hx hb dX10_moves_0 rfl (lv_at hl 0 rfl) ?_
  refine lv_iload_n hx hb dX10_moves_1 rfl (lv_at hl 1 rfl) ?_
  obtain ⟨jr1, je2, hf⟩ := bd1_inv hf
  refine callRV (As := [.int jx1]) (rest := []) S (ctX10_isCopy l D cI cZ a_t a_t_text a_t_telling a_t_now a_t_past a_t_images a_t_meeting a_t_seen a_t_chances a_t_search a_t_now_row jx1 v_t_now_row v_t_valueRead jr1 je2) (cwV 1 hts gX10_moves_X10_isCopy rfl rfl rfl ⟨rfl, hdX10_isCopy⟩ ⟨Nat.le_of_ble_eq_true rfl, Nat.le_of_ble_eq_true rfl⟩) hP [0, 1, 2] rfl KX.xs (fun U _ hW => hK.warm hW) (va_recv hK.1 hP (ci := 10) (q0 := 0) rfl rfl) rfl hl.1 rfl (Nat.le_of_ble_eq_true rfl) dX10_moves_2 ⟨Nat.zero_le _, Nat.zero_le _⟩ ?_
  refine lv_if_eq (tgt := 15) hx hb dX10_moves_5 (by decide) (fun jc3 => ?_) (fun jc3 => ?_)
  · have hf := ite_t jc3 hf
    refine lv_iconst (v := -1) hx hb dX10_moves_15 (by decide) ?_
    obtain ⟨rfl, rfl, rfl, rfl, rfl⟩ := pr5_inv hf
    exact retM hx hb hr hlk hP hD hS dX10_moves_16
  · have hf := ite_f jc3 hf
    refine lv_iload_n hx hb dX10_moves_8 rfl (lv_at hl 2 rfl) ?_
    obtain ⟨jr4, je5, hf⟩ := bd1_inv hf
    refine callRS (As := [.int jx2]) (rest := []) S (ctX10_isGroup l D cI cZ jx2 jr4 je5) (va_cwS 1 hts gX10_moves_X10_isGroup rfl rfl rfl hdX10_isGroup ⟨Nat.le_of_ble_eq_true rfl, Nat.le_of_ble_eq_true rfl⟩) hP [] rfl KX.xs (fun U _ hW => hK.warm hW) rfl hl.1 rfl (Nat.le_of_ble_eq_true rfl) dX10_moves_9 ⟨Nat.zero_le _, Nat.zero_le _⟩ ?_
    refine lv_if_ne (tgt := 17) hx hb dX10_moves_12 (by decide) (fun jc6 => ?_) (fun jc6 => ?_)
    · have hf := ite_f jc6 hf
      refine lv_aload_n hx hb dX10_moves_17 rfl (lv_at hl 0 rfl) ?_
      refine va_get (D := D) (ci := 10) (v := .ref a_t_now) (C := RX10) (T := TX10) (N := 10) hx hb hts iX10_moves_X10 hown hK.1 hP 0 rfl rfl 2 (by decide) (hts _ mX10_moves_1) (fun _ h9 => h9) rfl dX10_moves_18 ?_
      refine lv_iload_n hx hb dX10_moves_21 rfl (lv_at hl 1 rfl) ?_
      obtain ⟨jr7, je8, hf⟩ := bd1_inv hf
      refine callRV (As := [.int jx1]) (rest := []) S (ctX7_groupOf l D cI cZ a_t_now a_t_now_row jx1 v_t_now_row jr7 je8) (cwV 1 hts gX10_moves_X7_groupOf rfl rfl rfl ⟨rfl, hdX7_groupOf⟩ ⟨Nat.le_of_ble_eq_true rfl, Nat.le_of_ble_eq_true rfl⟩) hP [1, 2] rfl KX.xs (fun U _ hW => hK.warm hW) (va_recv hK.1 hP (ci := 7) (q0 := 1) rfl rfl) rfl hl.1 rfl (Nat.le_of_ble_eq_true rfl) dX10_moves_22 ⟨Nat.zero_le _, Nat.zero_le _⟩ ?_
      refine lv_istore_n (lv' := [(3, .int jr7), (0, .ref a_t), (1, .int jx1), (2, .int jx2)]) hx hb dX10_moves_25 rfl hl (by decide) rfl (fun ls hl => ?_)
      refine lv_iload_n hx hb dX10_moves_26 rfl (lv_at hl 0 rfl) ?_
      refine lv_iload_n hx hb dX10_moves_27 rfl (lv_at hl 3 rfl) ?_
      refine lv_icmp_ne (tgt := 34) hx hb dX10_moves_28 (by decide) (fun jc9 => ?_) (fun jc9 => ?_)
      · have hf := ite_f jc9 hf
        refine lv_aload_n hx hb dX10_moves_34 rfl (lv_at hl 1 rfl) ?_
        refine va_get (D := D) (ci := 10) (v := .ref a_t_past) (C := RX10) (T := TX10) (N := 10) hx hb hts iX10_moves_X10 hown hK.1 hP 0 rfl rfl 3 (by decide) (hts _ mX10_moves_2) (fun _ h9 => h9) rfl dX10_moves_35 ?_
        refine lv_aload_n hx hb dX10_moves_38 rfl (lv_at hl 1 rfl) ?_
        refine va_get (D := D) (ci := 10) (v := .ref a_t_now) (C := RX10) (T := TX10) (N := 10) hx hb hts iX10_moves_X10 hown hK.1 hP 0 rfl rfl 2 (by decide) (hts _ mX10_moves_1) (fun _ h9 => h9) rfl dX10_moves_39 ?_
        obtain ⟨jg10, jg11, jg12, je13, hf⟩ := bd3_inv hf
        refine callMV (As := [.ref a_t_now]) (rest := []) (wr := [(a_t, .inr (10, [.ref a_t_text, .ref a_t_telling, .ref a_t_now, .ref a_t_past, .ref a_t_images, .ref a_t_meeting, .ref a_t_seen, .ref a_t_chances, .ref a_t_search, .int v_t_valueRead]))]) (wn := [(a_t, .inr (10, [.ref a_t_text, .ref a_t_telling, .ref a_t_now, .ref a_t_past, .ref a_t_images, .ref a_t_meeting, .ref a_t_seen, .ref a_t_chances, .ref a_t_search, .int v_t_valueRead])), (a_t_now, .inr (7, [.ref a_t_now_row])), (a_t_now_row, .inl (cI, 104, .inl v_t_now_row)), (a_t_past, .inr (4, [.ref a_t_past_rows, .int jg10, .int jg11])), (a_t_past_rows, .inl (cI, 1040, .inl jg12))]) S (ctX4_remember l D cI cZ a_t_past a_t_past_rows a_t_now a_t_now_row v_t_past_next v_t_past_size v_t_past_rows v_t_now_row jg10 jg11 jg12 je13) (cwV 1 hts gX10_moves_X4_remember rfl rfl rfl ⟨rfl, hdX4_remember⟩ ⟨Nat.le_of_ble_eq_true rfl, Nat.le_of_ble_eq_true rfl⟩) hP hD hS hA [3, 4, 1, 2] [0] [0, 3, 4, 1, 2] rfl rfl (by decide) (by decide) (by decide) (by decide) rfl KX.xs (fun U _ hW => hK.warm hW) (va_recv hK.1 hP (ci := 4) (q0 := 3) rfl rfl) rfl hl.1 rfl (Nat.le_of_ble_eq_true rfl) dX10_moves_42 ⟨Nat.zero_le _, Nat.zero_le _⟩ (fun H locs hP hD hS => ?_)
        refine W.eq (g2 := F0 m 45 ls []) rfl ?_
        refine lv_aload_n hx hb dX10_moves_45 rfl (lv_at hl 1 rfl) ?_
        refine va_get (D := D) (ci := 10) (v := .ref a_t_now) (C := RX10) (T := TX10) (N := 10) hx hb hts iX10_moves_X10 hown hK.1 hP 0 rfl rfl 2 (by decide) (hts _ mX10_moves_1) (fun _ h9 => h9) rfl dX10_moves_46 ?_
        refine lv_iload_n hx hb dX10_moves_49 rfl (lv_at hl 2 rfl) ?_
        refine lv_iload_n hx hb dX10_moves_50 rfl (lv_at hl 3 rfl) ?_
        obtain ⟨jg14, je15, hf⟩ := bd1_inv hf
        refine callMV (As := [.int jx1, .int jx2]) (rest := []) (wr := [(a_t, .inr (10, [.ref a_t_text, .ref a_t_telling, .ref a_t_now, .ref a_t_past, .ref a_t_images, .ref a_t_meeting, .ref a_t_seen, .ref a_t_chances, .ref a_t_search, .int v_t_valueRead])), (a_t_past, .inr (4, [.ref a_t_past_rows, .int jg10, .int jg11])), (a_t_past_rows, .inl (cI, 1040, .inl jg12))]) (wn := [(a_t, .inr (10, [.ref a_t_text, .ref a_t_telling, .ref a_t_now, .ref a_t_past, .ref a_t_images, .ref a_t_meeting, .ref a_t_seen, .ref a_t_chances, .ref a_t_search, .int v_t_valueRead])), (a_t_now, .inr (7, [.ref a_t_now_row])), (a_t_now_row, .inl (cI, 104, .inl jg14)), (a_t_past, .inr (4, [.ref a_t_past_rows, .int jg10, .int jg11])), (a_t_past_rows, .inl (cI, 1040, .inl jg12))]) S (ctX7_setGroup l D cI cZ a_t_now a_t_now_row jx1 jx2 v_t_now_row jg14 je15) (cwV 2 hts gX10_moves_X7_setGroup rfl rfl rfl ⟨rfl, hdX7_setGroup⟩ ⟨Nat.le_of_ble_eq_true rfl, Nat.le_of_ble_eq_true rfl⟩) hP hD hS hA [1, 2] [0, 3, 4] [0, 3, 4, 1, 2] rfl rfl (by decide) (by decide) (by decide) (by decide) rfl KX.xs (fun U _ hW => hK.warm hW) (va_recv hK.1 hP (ci := 7) (q0 := 1) rfl rfl) rfl hl.1 rfl (Nat.le_of_ble_eq_true rfl) dX10_moves_51 ⟨Nat.zero_le _, Nat.zero_le _⟩ (fun H locs hP hD hS => ?_)
        refine W.eq (g2 := F0 m 54 ls []) rfl ?_
        refine lv_iload_n hx hb dX10_moves_54 rfl (lv_at hl 0 rfl) ?_
        obtain ⟨rfl, rfl, rfl, rfl, rfl⟩ := pr5_inv hf
        exact retM hx hb hr hlk hP hD hS dX10_moves_55
      · have hf := ite_t jc9 hf
        refine lv_bipush (v := -2) hx hb dX10_moves_31 (by decide) ?_
        obtain ⟨rfl, rfl, rfl, rfl, rfl⟩ := pr5_inv hf
        exact retM hx hb hr hlk hP hD hS dX10_moves_33
    · have hf := ite_t jc6 hf
      refine lv_iconst (v := -1) hx hb dX10_moves_15 (by decide) ?_
      obtain ⟨rfl, rfl, rfl, rfl, rfl⟩ := pr5_inv hf
      exact retM hx hb hr hlk hP hD hS dX10_moves_16
def fX10_undo (v_t_now_row : (Nat → Int32)) (v_t_past_next : Int32) (v_t_past_size : Int32) (v_t_past_rows : (Nat → Int32)) : Option (Int32 × (Nat → Int32) × Int32 × Int32) := bd4 (fX4_restore v_t_past_next v_t_past_size v_t_past_rows v_t_now_row) (fun jr1 jg2 jg3 jg4 => if jr1 = 0 then some ((-2 : Int32), jg4, jg2, jg3) else some (jg3, jg4, jg2, jg3))
abbrev rmX10_undo : Room := { frames := 3, cells := 0, slots := 0, locals := 69 }
theorem iX10_undo_X10 : ∀ w ∈ wsX100, w ∈ wsX10_undo := fun _ h => List.mem_cons_of_mem _ (List.mem_append_left _ (List.mem_append_left _ (List.mem_append_right _ h)))
theorem mX10_undo_1 : (Cond.fieldLink RX10 35 "VoteFiles" "past" "LVoteFiles$Past;") ∈ wsX10_undo := List.mem_of_getElem? (i := 1) rfl
theorem mX10_undo_2 : (Cond.fieldLink RX10 28 "VoteFiles" "now" "LVoteFiles$Shape;") ∈ wsX10_undo := List.mem_of_getElem? (i := 2) rfl
theorem iX10_undo_X4 : ∀ w ∈ wsX40, w ∈ wsX10_undo := fun _ h => List.mem_cons_of_mem _ (List.mem_append_left _ (List.mem_append_right _ h))
theorem mX10_undo_3 : (Cond.fieldLink RX10 97 "VoteFiles$Past" "size" "I") ∈ wsX10_undo := List.mem_of_getElem? (i := 3) rfl
theorem hdX10_undo : yX10_undo.cls ≠ "java/lang/invoke/MethodHandle" ∧ yX10_undo.cls ≠ "java/lang/invoke/VarHandle" ∧ (parseMethodDescriptor yX10_undo.desc).map (fun d => d.parameters.length) = some 0 := by decide +kernel
set_option maxHeartbeats 4000000 in
set_option maxRecDepth 100000 in
theorem ctX10_undo (l : Launch) (D : va_G) (cI cZ : ClassId) (a_t a_t_text a_t_telling a_t_now a_t_past a_t_images a_t_meeting a_t_seen a_t_chances a_t_search a_t_now_row a_t_past_rows : Nat) (v_t_now_row : (Nat → Int32)) (v_t_past_next : Int32) (v_t_past_size : Int32) (v_t_past_rows : (Nat → Int32)) (v_t_valueRead : Int32) (r : Int32) (o_t_now_row : (Nat → Int32)) (o_t_past_next : Int32) (o_t_past_size : Int32) (hf : fX10_undo v_t_now_row v_t_past_next v_t_past_size v_t_past_rows = some (r, o_t_now_row, o_t_past_next, o_t_past_size)) : cM l yX10_undo wsX10_undo rmX10_undo [.ref a_t] D [(a_t, .inr (10, [.ref a_t_text, .ref a_t_telling, .ref a_t_now, .ref a_t_past, .ref a_t_images, .ref a_t_meeting, .ref a_t_seen, .ref a_t_chances, .ref a_t_search, .int v_t_valueRead])), (a_t_now, .inr (7, [.ref a_t_now_row])), (a_t_now_row, .inl (cI, 104, .inl v_t_now_row)), (a_t_past, .inr (4, [.ref a_t_past_rows, .int v_t_past_next, .int v_t_past_size])), (a_t_past_rows, .inl (cI, 1040, .inl v_t_past_rows))] [(a_t, .inr (10, [.ref a_t_text, .ref a_t_telling, .ref a_t_now, .ref a_t_past, .ref a_t_images, .ref a_t_meeting, .ref a_t_seen, .ref a_t_chances, .ref a_t_search, .int v_t_valueRead])), (a_t_now, .inr (7, [.ref a_t_now_row])), (a_t_now_row, .inl (cI, 104, .inl o_t_now_row)), (a_t_past, .inr (4, [.ref a_t_past_rows, .int o_t_past_next, .int o_t_past_size])), (a_t_past_rows, .inl (cI, 1040, .inl v_t_past_rows))] (KX D cI cZ) (some (.int r)) := by
  refine cM_of (cc := cX10_undo) (maxL := 1) (ret := some .int) (by decide +kernel) rfl _ (Nat.le_of_ble_eq_true rfl) ?_
  intro p e s m below meth c ls A S hr hlk hP hK hl hD hA hS
  obtain ⟨hx, hb, hml, hown, hts⟩ := id S
  have hl : lv_has ls 1 [(0, .ref a_t)] := hl
  unfold fX10_undo at hf
  refine lv_aload_n hx hb dX10_undo_0 rfl (lv_at hl 0 rfl) ?_
  refine va_get (D := D) (ci := 10) (v := .ref a_t_past) (C := RX10) (T := TX10) (N := 10) hx hb hts iX10_undo_X10 hown hK.1 hP 0 rfl rfl 3 (by decide) (hts _ mX10_undo_1) (fun _ h9 => h9) rfl dX10_undo_1 ?_
  refine lv_aload_n hx hb dX10_undo_4 rfl (lv_at hl 0 rfl) ?_
  refine va_get (D := D) (ci := 10) (v := .ref a_t_now) (C := RX10) (T := TX10) (N := 10) hx hb hts iX10_undo_X10 hown hK.1 hP 0 rfl rfl 2 (by decide) (hts _ mX10_undo_2) (fun _ h9 => h9) rfl dX10_undo_5 ?_
  obtain ⟨jr1, jg2, jg3, jg4, je5, hf⟩ := bd4_inv hf
  refine callMV (As := [.ref a_t_now]) (rest := []) (wr := [(a_t, .inr (10, [.ref a_t_text, .ref a_t_telling, .ref a_t_now, .ref a_t_past, .ref a_t_images, .ref a_t_meeting, .ref a_t_seen, .ref a_t_chances, .ref a_t_search, .int v_t_valueRead]))]) (wn := [(a_t, .inr (10, [.ref a_t_text, .ref a_t_telling, .ref a_t_now, .ref a_t_past, .ref a_t_images, .ref a_t_meeting, .ref a_t_seen, .ref a_t_chances, .ref a_t_search, .int v_t_valueRead])), (a_t_now, .inr (7, [.ref a_t_now_row])), (a_t_now_row, .inl (cI, 104, .inl jg4)), (a_t_past, .inr (4, [.ref a_t_past_rows, .int jg2, .int jg3])), (a_t_past_rows, .inl (cI, 1040, .inl v_t_past_rows))]) S (ctX4_restore l D cI cZ a_t_past a_t_past_rows a_t_now a_t_now_row v_t_past_next v_t_past_size v_t_past_rows v_t_now_row jr1 jg2 jg3 jg4 je5) (cwV 1 hts gX10_undo_X4_restore rfl rfl rfl ⟨rfl, hdX4_restore⟩ ⟨Nat.le_of_ble_eq_true rfl, Nat.le_of_ble_eq_true rfl⟩) hP hD hS hA [3, 4, 1, 2] [0] [0, 3, 4, 1, 2] rfl rfl (by decide) (by decide) (by decide) (by decide) rfl KX.xs (fun U _ hW => hK.warm hW) (va_recv hK.1 hP (ci := 4) (q0 := 3) rfl rfl) rfl hl.1 rfl (Nat.le_of_ble_eq_true rfl) dX10_undo_8 ⟨Nat.zero_le _, Nat.zero_le _⟩ (fun H locs hP hD hS => ?_)
  refine W.eq (g2 := F0 m 11 ls [.int jr1]) rfl ?_
  refine lv_if_eq (tgt := 24) hx hb dX10_undo_11 (by decide) (fun jc6 => ?_) (fun jc6 => ?_)
  · have hf := ite_t jc6 hf
    refine lv_bipush (v := -2) hx hb dX10_undo_24 (by decide) ?_
    obtain ⟨rfl, rfl, rfl, rfl⟩ := pr4_inv hf
    exact retM hx hb hr hlk hP hD hS dX10_undo_26
  · have hf := ite_f jc6 hf
    refine lv_aload_n hx hb dX10_undo_14 rfl (lv_at hl 0 rfl) ?_
    refine va_get (D := D) (ci := 10) (v := .ref a_t_past) (C := RX10) (T := TX10) (N := 10) hx hb hts iX10_undo_X10 hown hK.1 hP 0 rfl rfl 3 (by decide) (hts _ mX10_undo_1) (fun _ h9 => h9) rfl dX10_undo_15 ?_
    refine va_get (D := D) (ci := 4) (v := .int jg3) (C := RX4) (T := TX4) (N := 3) hx hb hts iX10_undo_X4 hown hK.1 hP 3 rfl rfl 2 (by decide) (hts _ mX10_undo_3) (fun _ h9 => h9) rfl dX10_undo_18 ?_
    refine lv_goto (tgt := 26) hx hb dX10_undo_21 (by decide) ?_
    obtain ⟨rfl, rfl, rfl, rfl⟩ := pr4_inv hf
    exact retM hx hb hr hlk hP hD hS dX10_undo_26
def fX10_copy (jx1 : Int32) (jx2 : Int32) (v_t_now_row : (Nat → Int32)) : Option (Int32) := bd1 (fX10_isCopy jx1 v_t_now_row) (fun jr1 => if jr1 = 0 then some (-1 : Int32) else if jx2 = (0 : Int32) then bd1 (fX7_isUp jx1 v_t_now_row) (fun jr5 => if jr5 = 0 then some (0 : Int32) else some (1 : Int32)) else if jx2 = (1 : Int32) then bd1 (fX7_groupOf jx1 v_t_now_row) (fun jr9 => some jr9) else if jx2 = (2 : Int32) then bd1 (fX7_versionOf jx1 v_t_now_row) (fun jr12 => some jr12) else if jx2 = (3 : Int32) then bd1 (fX7_valueOf jx1 v_t_now_row) (fun jr15 => some jr15) else if jx2 = (4 : Int32) then bd1 (fX7_configurationOf jx1 v_t_now_row) (fun jr18 => some jr18) else if jx2 = (5 : Int32) then bd1 (fX7_newest v_t_now_row) (fun jr21 => bd1 (fX7_votesOf jr21 jx1 v_t_now_row) (fun jr23 => some jr23)) else if jx2 = (6 : Int32) then bd1 (fX7_newest v_t_now_row) (fun jr26 => bd1 (fX7_isWitness jr26 jx1 v_t_now_row) (fun jr28 => if jr28 = 0 then some (0 : Int32) else some (1 : Int32))) else some (-1 : Int32))
abbrev rmX10_copy : Room := { frames := 2, cells := 0, slots := 0, locals := 43 }
theorem iX10_copy_X10 : ∀ w ∈ wsX100, w ∈ wsX10_copy := fun _ h => List.mem_cons_of_mem _ (List.mem_append_left _ (List.mem_append_right _ h))
theorem mX10_copy_1 : (Cond.fieldLink RX10 28 "VoteFiles" "now" "LVoteFiles$Shape;") ∈ wsX10_copy := List.mem_of_getElem? (i := 1) rfl
theorem hdX10_copy : yX10_copy.cls ≠ "java/lang/invoke/MethodHandle" ∧ yX10_copy.cls ≠ "java/lang/invoke/VarHandle" ∧ (parseMethodDescriptor yX10_copy.desc).map (fun d => d.parameters.length) = some 2 := by decide +kernel
set_option maxHeartbeats 4000000 in
set_option maxRecDepth 100000 in
theorem ctX10_copy (l : Launch) (D : va_G) (cI cZ : ClassId) (a_t a_t_text a_t_telling a_t_now a_t_past a_t_images a_t_meeting a_t_seen a_t_chances a_t_search a_t_now_row : Nat) (jx1 : Int32) (jx2 : Int32) (v_t_now_row : (Nat → Int32)) (v_t_valueRead : Int32) (r : Int32) (hf : fX10_copy jx1 jx2 v_t_now_row = some r) : cR l yX10_copy wsX10_copy rmX10_copy [.ref a_t, .int jx1, .int jx2] D [(a_t, .inr (10, [.ref a_t_text, .ref a_t_telling, .ref a_t_now, .ref a_t_past, .ref a_t_images, .ref a_t_meeting, .ref a_t_seen, .ref a_t_chances, .ref a_t_search, .int v_t_valueRead])), (a_t_now, .inr (7, [.ref a_t_now_row])), (a_t_now_row, .inl (cI, 104, .inl v_t_now_row))] (KX D cI cZ) r := by
  refine cR_of (cc := cX10_copy) (maxL := 3) (ret := some .int) (by decide +kernel) rfl _ (Nat.le_of_ble_eq_true rfl) ?_
  intro p e s m below meth c ls S hr hlk hP hK hl
  obtain ⟨hx, hb, hml, hown, hts⟩ := id S
  have hl : lv_has ls 3 [(0, .ref a_t), (1, .int jx1), (2, .int jx2)] := hl
  unfold fX10_copy at hf
  refine lv_aload_n hx hb dX10_copy_0 rfl (lv_at hl 0 rfl) ?_
  refine lv_iload_n hx hb dX10_copy_1 rfl (lv_at hl 1 rfl) ?_
  obtain ⟨jr1, je2, hf⟩ := bd1_inv hf
  refine callRV (As := [.int jx1]) (rest := []) S (ctX10_isCopy l D cI cZ a_t a_t_text a_t_telling a_t_now a_t_past a_t_images a_t_meeting a_t_seen a_t_chances a_t_search a_t_now_row jx1 v_t_now_row v_t_valueRead jr1 je2) (cwV 1 hts gX10_copy_X10_isCopy rfl rfl rfl ⟨rfl, hdX10_isCopy⟩ ⟨Nat.le_of_ble_eq_true rfl, Nat.le_of_ble_eq_true rfl⟩) hP [0, 1, 2] rfl KX.xs (fun U _ hW => hK.warm hW) (va_recv hK.1 hP (ci := 10) (q0 := 0) rfl rfl) rfl hl.1 rfl (Nat.le_of_ble_eq_true rfl) dX10_copy_2 ⟨Nat.zero_le _, Nat.zero_le _⟩ ?_
  refine lv_if_ne (tgt := 10) hx hb dX10_copy_5 (by decide) (fun jc3 => ?_) (fun jc3 => ?_)
  · have hf := ite_f jc3 hf
    refine lv_iload_n hx hb dX10_copy_10 rfl (lv_at hl 2 rfl) ?_
    by_cases jc4 : jx2 = (0 : Int32)
    · have hf := ite_t jc4 hf
      refine lv_tableIn (off := 41) (tgt := 52) hx hb dX10_copy_11 (by rw [jc4]; decide) (by rw [jc4]; decide) (by rw [jc4]; decide +kernel) (by decide) ?_
      refine lv_aload_n hx hb dX10_copy_52 rfl (lv_at hl 0 rfl) ?_
      refine va_get (D := D) (ci := 10) (v := .ref a_t_now) (C := RX10) (T := TX10) (N := 10) hx hb hts iX10_copy_X10 hown hK.1 hP 0 rfl rfl 2 (by decide) (hts _ mX10_copy_1) (fun _ h9 => h9) rfl dX10_copy_53 ?_
      refine lv_iload_n hx hb dX10_copy_56 rfl (lv_at hl 1 rfl) ?_
      obtain ⟨jr5, je6, hf⟩ := bd1_inv hf
      refine callRV (As := [.int jx1]) (rest := []) S (ctX7_isUp l D cI cZ a_t_now a_t_now_row jx1 v_t_now_row jr5 je6) (cwV 1 hts gX10_copy_X7_isUp rfl rfl rfl ⟨rfl, hdX7_isUp⟩ ⟨Nat.le_of_ble_eq_true rfl, Nat.le_of_ble_eq_true rfl⟩) hP [1, 2] rfl KX.xs (fun U _ hW => hK.warm hW) (va_recv hK.1 hP (ci := 7) (q0 := 1) rfl rfl) rfl hl.1 rfl (Nat.le_of_ble_eq_true rfl) dX10_copy_57 ⟨Nat.zero_le _, Nat.zero_le _⟩ ?_
      refine lv_if_eq (tgt := 67) hx hb dX10_copy_60 (by decide) (fun jc7 => ?_) (fun jc7 => ?_)
      · have hf := ite_t jc7 hf
        refine lv_iconst (v := 0) hx hb dX10_copy_67 (by decide) ?_
        obtain rfl := Option.some.inj hf
        exact retR hx hb hr hlk dX10_copy_68
      · have hf := ite_f jc7 hf
        refine lv_iconst (v := 1) hx hb dX10_copy_63 (by decide) ?_
        refine lv_goto (tgt := 68) hx hb dX10_copy_64 (by decide) ?_
        obtain rfl := Option.some.inj hf
        exact retR hx hb hr hlk dX10_copy_68
    have hf := ite_f jc4 hf
    by_cases jc8 : jx2 = (1 : Int32)
    · have hf := ite_t jc8 hf
      refine lv_tableIn (off := 58) (tgt := 69) hx hb dX10_copy_11 (by rw [jc8]; decide) (by rw [jc8]; decide) (by rw [jc8]; decide +kernel) (by decide) ?_
      refine lv_aload_n hx hb dX10_copy_69 rfl (lv_at hl 0 rfl) ?_
      refine va_get (D := D) (ci := 10) (v := .ref a_t_now) (C := RX10) (T := TX10) (N := 10) hx hb hts iX10_copy_X10 hown hK.1 hP 0 rfl rfl 2 (by decide) (hts _ mX10_copy_1) (fun _ h9 => h9) rfl dX10_copy_70 ?_
      refine lv_iload_n hx hb dX10_copy_73 rfl (lv_at hl 1 rfl) ?_
      obtain ⟨jr9, je10, hf⟩ := bd1_inv hf
      refine callRV (As := [.int jx1]) (rest := []) S (ctX7_groupOf l D cI cZ a_t_now a_t_now_row jx1 v_t_now_row jr9 je10) (cwV 1 hts gX10_copy_X7_groupOf rfl rfl rfl ⟨rfl, hdX7_groupOf⟩ ⟨Nat.le_of_ble_eq_true rfl, Nat.le_of_ble_eq_true rfl⟩) hP [1, 2] rfl KX.xs (fun U _ hW => hK.warm hW) (va_recv hK.1 hP (ci := 7) (q0 := 1) rfl rfl) rfl hl.1 rfl (Nat.le_of_ble_eq_true rfl) dX10_copy_74 ⟨Nat.zero_le _, Nat.zero_le _⟩ ?_
      obtain rfl := Option.some.inj hf
      exact retR hx hb hr hlk dX10_copy_77
    have hf := ite_f jc8 hf
    by_cases jc11 : jx2 = (2 : Int32)
    · have hf := ite_t jc11 hf
      refine lv_tableIn (off := 67) (tgt := 78) hx hb dX10_copy_11 (by rw [jc11]; decide) (by rw [jc11]; decide) (by rw [jc11]; decide +kernel) (by decide) ?_
      refine lv_aload_n hx hb dX10_copy_78 rfl (lv_at hl 0 rfl) ?_
      refine va_get (D := D) (ci := 10) (v := .ref a_t_now) (C := RX10) (T := TX10) (N := 10) hx hb hts iX10_copy_X10 hown hK.1 hP 0 rfl rfl 2 (by decide) (hts _ mX10_copy_1) (fun _ h9 => h9) rfl dX10_copy_79 ?_
      refine lv_iload_n hx hb dX10_copy_82 rfl (lv_at hl 1 rfl) ?_
      obtain ⟨jr12, je13, hf⟩ := bd1_inv hf
      refine callRV (As := [.int jx1]) (rest := []) S (ctX7_versionOf l D cI cZ a_t_now a_t_now_row jx1 v_t_now_row jr12 je13) (cwV 1 hts gX10_copy_X7_versionOf rfl rfl rfl ⟨rfl, hdX7_versionOf⟩ ⟨Nat.le_of_ble_eq_true rfl, Nat.le_of_ble_eq_true rfl⟩) hP [1, 2] rfl KX.xs (fun U _ hW => hK.warm hW) (va_recv hK.1 hP (ci := 7) (q0 := 1) rfl rfl) rfl hl.1 rfl (Nat.le_of_ble_eq_true rfl) dX10_copy_83 ⟨Nat.zero_le _, Nat.zero_le _⟩ ?_
      obtain rfl := Option.some.inj hf
      exact retR hx hb hr hlk dX10_copy_86
    have hf := ite_f jc11 hf
    by_cases jc14 : jx2 = (3 : Int32)
    · have hf := ite_t jc14 hf
      refine lv_tableIn (off := 76) (tgt := 87) hx hb dX10_copy_11 (by rw [jc14]; decide) (by rw [jc14]; decide) (by rw [jc14]; decide +kernel) (by decide) ?_
      refine lv_aload_n hx hb dX10_copy_87 rfl (lv_at hl 0 rfl) ?_
      refine va_get (D := D) (ci := 10) (v := .ref a_t_now) (C := RX10) (T := TX10) (N := 10) hx hb hts iX10_copy_X10 hown hK.1 hP 0 rfl rfl 2 (by decide) (hts _ mX10_copy_1) (fun _ h9 => h9) rfl dX10_copy_88 ?_
      refine lv_iload_n hx hb dX10_copy_91 rfl (lv_at hl 1 rfl) ?_
      obtain ⟨jr15, je16, hf⟩ := bd1_inv hf
      refine callRV (As := [.int jx1]) (rest := []) S (ctX7_valueOf l D cI cZ a_t_now a_t_now_row jx1 v_t_now_row jr15 je16) (cwV 1 hts gX10_copy_X7_valueOf rfl rfl rfl ⟨rfl, hdX7_valueOf⟩ ⟨Nat.le_of_ble_eq_true rfl, Nat.le_of_ble_eq_true rfl⟩) hP [1, 2] rfl KX.xs (fun U _ hW => hK.warm hW) (va_recv hK.1 hP (ci := 7) (q0 := 1) rfl rfl) rfl hl.1 rfl (Nat.le_of_ble_eq_true rfl) dX10_copy_92 ⟨Nat.zero_le _, Nat.zero_le _⟩ ?_
      obtain rfl := Option.some.inj hf
      exact retR hx hb hr hlk dX10_copy_95
    have hf := ite_f jc14 hf
    by_cases jc17 : jx2 = (4 : Int32)
    · have hf := ite_t jc17 hf
      refine lv_tableIn (off := 85) (tgt := 96) hx hb dX10_copy_11 (by rw [jc17]; decide) (by rw [jc17]; decide) (by rw [jc17]; decide +kernel) (by decide) ?_
      refine lv_aload_n hx hb dX10_copy_96 rfl (lv_at hl 0 rfl) ?_
      refine va_get (D := D) (ci := 10) (v := .ref a_t_now) (C := RX10) (T := TX10) (N := 10) hx hb hts iX10_copy_X10 hown hK.1 hP 0 rfl rfl 2 (by decide) (hts _ mX10_copy_1) (fun _ h9 => h9) rfl dX10_copy_97 ?_
      refine lv_iload_n hx hb dX10_copy_100 rfl (lv_at hl 1 rfl) ?_
      obtain ⟨jr18, je19, hf⟩ := bd1_inv hf
      refine callRV (As := [.int jx1]) (rest := []) S (ctX7_configurationOf l D cI cZ a_t_now a_t_now_row jx1 v_t_now_row jr18 je19) (cwV 1 hts gX10_copy_X7_configurationOf rfl rfl rfl ⟨rfl, hdX7_configurationOf⟩ ⟨Nat.le_of_ble_eq_true rfl, Nat.le_of_ble_eq_true rfl⟩) hP [1, 2] rfl KX.xs (fun U _ hW => hK.warm hW) (va_recv hK.1 hP (ci := 7) (q0 := 1) rfl rfl) rfl hl.1 rfl (Nat.le_of_ble_eq_true rfl) dX10_copy_101 ⟨Nat.zero_le _, Nat.zero_le _⟩ ?_
      obtain rfl := Option.some.inj hf
      exact retR hx hb hr hlk dX10_copy_104
    have hf := ite_f jc17 hf
    by_cases jc20 : jx2 = (5 : Int32)
    · have hf := ite_t jc20 hf
      refine lv_tableIn (off := 94) (tgt := 105) hx hb dX10_copy_11 (by rw [jc20]; decide) (by rw [jc20]; decide) (by rw [jc20]; decide +kernel) (by decide) ?_
      refine lv_aload_n hx hb dX10_copy_105 rfl (lv_at hl 0 rfl) ?_
      refine va_get (D := D) (ci := 10) (v := .ref a_t_now) (C := RX10) (T := TX10) (N := 10) hx hb hts iX10_copy_X10 hown hK.1 hP 0 rfl rfl 2 (by decide) (hts _ mX10_copy_1) (fun _ h9 => h9) rfl dX10_copy_106 ?_
      refine lv_aload_n hx hb dX10_copy_109 rfl (lv_at hl 0 rfl) ?_
      refine va_get (D := D) (ci := 10) (v := .ref a_t_now) (C := RX10) (T := TX10) (N := 10) hx hb hts iX10_copy_X10 hown hK.1 hP 0 rfl rfl 2 (by decide) (hts _ mX10_copy_1) (fun _ h9 => h9) rfl dX10_copy_110 ?_
      obtain ⟨jr21, je22, hf⟩ := bd1_inv hf
      refine callRV (As := []) (rest := [.ref a_t_now]) S (ctX7_newest l D cI cZ a_t_now a_t_now_row v_t_now_row jr21 je22) (cwV 0 hts gX10_copy_X7_newest rfl rfl rfl ⟨rfl, hdX7_newest⟩ ⟨Nat.le_of_ble_eq_true rfl, Nat.le_of_ble_eq_true rfl⟩) hP [1, 2] rfl KX.xs (fun U _ hW => hK.warm hW) (va_recv hK.1 hP (ci := 7) (q0 := 1) rfl rfl) rfl hl.1 rfl (Nat.le_of_ble_eq_true rfl) dX10_copy_113 ⟨Nat.zero_le _, Nat.zero_le _⟩ ?_
      refine lv_iload_n hx hb dX10_copy_116 rfl (lv_at hl 1 rfl) ?_
      obtain ⟨jr23, je24, hf⟩ := bd1_inv hf
      refine callRV (As := [.int jr21, .int jx1]) (rest := []) S (ctX7_votesOf l D cI cZ a_t_now a_t_now_row jr21 jx1 v_t_now_row jr23 je24) (cwV 2 hts gX10_copy_X7_votesOf rfl rfl rfl ⟨rfl, hdX7_votesOf⟩ ⟨Nat.le_of_ble_eq_true rfl, Nat.le_of_ble_eq_true rfl⟩) hP [1, 2] rfl KX.xs (fun U _ hW => hK.warm hW) (va_recv hK.1 hP (ci := 7) (q0 := 1) rfl rfl) rfl hl.1 rfl (Nat.le_of_ble_eq_true rfl) dX10_copy_117 ⟨Nat.zero_le _, Nat.zero_le _⟩ ?_
      obtain rfl := Option.some.inj hf
      exact retR hx hb hr hlk dX10_copy_120
    have hf := ite_f jc20 hf
    by_cases jc25 : jx2 = (6 : Int32)
    · have hf := ite_t jc25 hf
      refine lv_tableIn (off := 110) (tgt := 121) hx hb dX10_copy_11 (by rw [jc25]; decide) (by rw [jc25]; decide) (by rw [jc25]; decide +kernel) (by decide) ?_
      refine lv_aload_n hx hb dX10_copy_121 rfl (lv_at hl 0 rfl) ?_
      refine va_get (D := D) (ci := 10) (v := .ref a_t_now) (C := RX10) (T := TX10) (N := 10) hx hb hts iX10_copy_X10 hown hK.1 hP 0 rfl rfl 2 (by decide) (hts _ mX10_copy_1) (fun _ h9 => h9) rfl dX10_copy_122 ?_
      refine lv_aload_n hx hb dX10_copy_125 rfl (lv_at hl 0 rfl) ?_
      refine va_get (D := D) (ci := 10) (v := .ref a_t_now) (C := RX10) (T := TX10) (N := 10) hx hb hts iX10_copy_X10 hown hK.1 hP 0 rfl rfl 2 (by decide) (hts _ mX10_copy_1) (fun _ h9 => h9) rfl dX10_copy_126 ?_
      obtain ⟨jr26, je27, hf⟩ := bd1_inv hf
      refine callRV (As := []) (rest := [.ref a_t_now]) S (ctX7_newest l D cI cZ a_t_now a_t_now_row v_t_now_row jr26 je27) (cwV 0 hts gX10_copy_X7_newest rfl rfl rfl ⟨rfl, hdX7_newest⟩ ⟨Nat.le_of_ble_eq_true rfl, Nat.le_of_ble_eq_true rfl⟩) hP [1, 2] rfl KX.xs (fun U _ hW => hK.warm hW) (va_recv hK.1 hP (ci := 7) (q0 := 1) rfl rfl) rfl hl.1 rfl (Nat.le_of_ble_eq_true rfl) dX10_copy_129 ⟨Nat.zero_le _, Nat.zero_le _⟩ ?_
      refine lv_iload_n hx hb dX10_copy_132 rfl (lv_at hl 1 rfl) ?_
      obtain ⟨jr28, je29, hf⟩ := bd1_inv hf
      refine callRV (As := [.int jr26, .int jx1]) (rest := []) S (ctX7_isWitness l D cI cZ a_t_now a_t_now_row jr26 jx1 v_t_now_row jr28 je29) (cwV 2 hts gX10_copy_X7_isWitness rfl rfl rfl ⟨rfl, hdX7_isWitness⟩ ⟨Nat.le_of_ble_eq_true rfl, Nat.le_of_ble_eq_true rfl⟩) hP [1, 2] rfl KX.xs (fun U _ hW => hK.warm hW) (va_recv hK.1 hP (ci := 7) (q0 := 1) rfl rfl) rfl hl.1 rfl (Nat.le_of_ble_eq_true rfl) dX10_copy_133 ⟨Nat.zero_le _, Nat.zero_le _⟩ ?_
      refine lv_if_eq (tgt := 143) hx hb dX10_copy_136 (by decide) (fun jc30 => ?_) (fun jc30 => ?_)
      · have hf := ite_t jc30 hf
        refine lv_iconst (v := 0) hx hb dX10_copy_143 (by decide) ?_
        obtain rfl := Option.some.inj hf
        exact retR hx hb hr hlk dX10_copy_144
      · have hf := ite_f jc30 hf
        refine lv_iconst (v := 1) hx hb dX10_copy_139 (by decide) ?_
        refine lv_goto (tgt := 144) hx hb dX10_copy_140 (by decide) ?_
        obtain rfl := Option.some.inj hf
        exact retR hx hb hr hlk dX10_copy_144
    have hf := ite_f jc25 hf
    have jh31 : (jx2).toInt < 0 ∨ 6 < (jx2).toInt := by
      refine sw_out (fun v h1 h2 => ?_)
      rcases (show v = 0 ∨ v = 1 ∨ v = 2 ∨ v = 3 ∨ v = 4 ∨ v = 5 ∨ v = 6 by omega) with rfl | rfl | rfl | rfl | rfl | rfl | rfl
      · exact jc4
      · exact jc8
      · exact jc11
      · exact jc14
      · exact jc17
      · exact jc20
      · exact jc25
    refine lv_tableOut (tgt := 145) hx hb dX10_copy_11 jh31 (by decide) ?_
    refine lv_iconst (v := -1) hx hb dX10_copy_145 (by decide) ?_
    obtain rfl := Option.some.inj hf
    exact retR hx hb hr hlk dX10_copy_146
  · have hf := ite_t jc3 hf
    refine lv_iconst (v := -1) hx hb dX10_copy_8 (by decide) ?_
    obtain rfl := Option.some.inj hf
    exact retR hx hb hr hlk dX10_copy_9
def fX10_group (jx1 : Int32) (jx2 : Int32) (v_t_now_row : (Nat → Int32)) (v_t_meeting_present : Int32) (v_t_meeting_known : Int32) (v_t_meeting_votes : Int32) (v_t_meeting_latest : Int32) (v_t_meeting_value : Int32) (v_t_meeting_read : Int32) (v_t_meeting_write : Int32) : Option (Int32 × Int32 × Int32 × Int32 × Int32 × Int32 × Int32 × Int32) := bd1 (fX10_isGroup jx1) (fun jr1 => if jr1 = 0 then some ((-1 : Int32), v_t_meeting_present, v_t_meeting_known, v_t_meeting_votes, v_t_meeting_latest, v_t_meeting_value, v_t_meeting_read, v_t_meeting_write) else bd7 (fX3_look jx1 v_t_meeting_present v_t_meeting_known v_t_meeting_votes v_t_meeting_latest v_t_meeting_value v_t_meeting_read v_t_meeting_write v_t_now_row) (fun jg4 jg5 jg6 jg7 jg8 jg9 jg10 => if jx2 = (0 : Int32) then some (jg4, jg4, jg5, jg6, jg7, jg8, jg9, jg10) else if jx2 = (1 : Int32) then some (jg5, jg4, jg5, jg6, jg7, jg8, jg9, jg10) else if jx2 = (2 : Int32) then some (jg6, jg4, jg5, jg6, jg7, jg8, jg9, jg10) else if jx2 = (3 : Int32) then some (jg7, jg4, jg5, jg6, jg7, jg8, jg9, jg10) else if jx2 = (4 : Int32) then if jg8 = (-9 : Int32) then some ((0 : Int32), jg4, jg5, jg6, jg7, jg8, jg9, jg10) else some ((1 : Int32), jg4, jg5, jg6, jg7, jg8, jg9, jg10) else if jx2 = (5 : Int32) then bd1 (fX3_can jg9 (1 : Int32) jg4 jg6 jg8) (fun jr19 => some (jr19, jg4, jg5, jg6, jg7, jg8, jg9, jg10)) else if jx2 = (6 : Int32) then bd1 (fX3_can jg10 (0 : Int32) jg4 jg6 jg8) (fun jr22 => some (jr22, jg4, jg5, jg6, jg7, jg8, jg9, jg10)) else if jx2 = (7 : Int32) then bd1 (fX7_configurations v_t_now_row) (fun jr25 => if (8 : Int32) ≤ jr25 then some ((0 : Int32), jg4, jg5, jg6, jg7, jg8, jg9, jg10) else bd1 (fX3_can jg10 (1 : Int32) jg4 jg6 jg8) (fun jr28 => some (jr28, jg4, jg5, jg6, jg7, jg8, jg9, jg10))) else some ((-1 : Int32), jg4, jg5, jg6, jg7, jg8, jg9, jg10)))
abbrev rmX10_group : Room := { frames := 3, cells := 0, slots := 0, locals := 69 }
theorem iX10_group_X10 : ∀ w ∈ wsX100, w ∈ wsX10_group := fun _ h => List.mem_cons_of_mem _ (List.mem_append_left _ (List.mem_append_left _ (List.mem_append_right _ h)))
theorem mX10_group_1 : (Cond.fieldLink RX10 49 "VoteFiles" "meeting" "LVoteFiles$Meeting;") ∈ wsX10_group := List.mem_of_getElem? (i := 1) rfl
theorem mX10_group_2 : (Cond.fieldLink RX10 28 "VoteFiles" "now" "LVoteFiles$Shape;") ∈ wsX10_group := List.mem_of_getElem? (i := 2) rfl
theorem iX10_group_X3 : ∀ w ∈ wsX30, w ∈ wsX10_group := fun _ h => List.mem_cons_of_mem _ (List.mem_append_left _ (List.mem_append_right _ h))
theorem mX10_group_3 : (Cond.fieldLink RX10 135 "VoteFiles$Meeting" "present" "I") ∈ wsX10_group := List.mem_of_getElem? (i := 3) rfl
theorem mX10_group_4 : (Cond.fieldLink RX10 138 "VoteFiles$Meeting" "known" "I") ∈ wsX10_group := List.mem_of_getElem? (i := 4) rfl
theorem mX10_group_5 : (Cond.fieldLink RX10 205 "VoteFiles$Meeting" "votes" "I") ∈ wsX10_group := List.mem_of_getElem? (i := 5) rfl
theorem mX10_group_6 : (Cond.fieldLink RX10 114 "VoteFiles$Meeting" "latest" "I") ∈ wsX10_group := List.mem_of_getElem? (i := 6) rfl
theorem mX10_group_7 : (Cond.fieldLink RX10 111 "VoteFiles$Meeting" "value" "I") ∈ wsX10_group := List.mem_of_getElem? (i := 7) rfl
theorem mX10_group_8 : (Cond.fieldLink RX10 208 "VoteFiles$Meeting" "read" "I") ∈ wsX10_group := List.mem_of_getElem? (i := 8) rfl
theorem mX10_group_9 : (Cond.fieldLink RX10 124 "VoteFiles$Meeting" "write" "I") ∈ wsX10_group := List.mem_of_getElem? (i := 9) rfl
theorem hdX10_group : yX10_group.cls ≠ "java/lang/invoke/MethodHandle" ∧ yX10_group.cls ≠ "java/lang/invoke/VarHandle" ∧ (parseMethodDescriptor yX10_group.desc).map (fun d => d.parameters.length) = some 2 := by decide +kernel
set_option maxHeartbeats 4000000 in
set_option maxRecDepth 100000 in
theorem ctX10_group (l : Launch) (D : va_G) (cI cZ : ClassId) (a_t a_t_text a_t_telling a_t_now a_t_past a_t_images a_t_meeting a_t_seen a_t_chances a_t_search a_t_now_row : Nat) (jx1 : Int32) (jx2 : Int32) (v_t_now_row : (Nat → Int32)) (v_t_meeting_present : Int32) (v_t_meeting_known : Int32) (v_t_meeting_votes : Int32) (v_t_meeting_latest : Int32) (v_t_meeting_value : Int32) (v_t_meeting_read : Int32) (v_t_meeting_write : Int32) (v_t_valueRead : Int32) (r : Int32) (o_t_meeting_present : Int32) (o_t_meeting_known : Int32) (o_t_meeting_votes : Int32) (o_t_meeting_latest : Int32) (o_t_meeting_value : Int32) (o_t_meeting_read : Int32) (o_t_meeting_write : Int32) (hf : fX10_group jx1 jx2 v_t_now_row v_t_meeting_present v_t_meeting_known v_t_meeting_votes v_t_meeting_latest v_t_meeting_value v_t_meeting_read v_t_meeting_write = some (r, o_t_meeting_present, o_t_meeting_known, o_t_meeting_votes, o_t_meeting_latest, o_t_meeting_value, o_t_meeting_read, o_t_meeting_write)) : cM l yX10_group wsX10_group rmX10_group [.ref a_t, .int jx1, .int jx2] D [(a_t, .inr (10, [.ref a_t_text, .ref a_t_telling, .ref a_t_now, .ref a_t_past, .ref a_t_images, .ref a_t_meeting, .ref a_t_seen, .ref a_t_chances, .ref a_t_search, .int v_t_valueRead])), (a_t_now, .inr (7, [.ref a_t_now_row])), (a_t_now_row, .inl (cI, 104, .inl v_t_now_row)), (a_t_meeting, .inr (3, [.int v_t_meeting_present, .int v_t_meeting_known, .int v_t_meeting_votes, .int v_t_meeting_latest, .int v_t_meeting_value, .int v_t_meeting_read, .int v_t_meeting_write]))] [(a_t, .inr (10, [.ref a_t_text, .ref a_t_telling, .ref a_t_now, .ref a_t_past, .ref a_t_images, .ref a_t_meeting, .ref a_t_seen, .ref a_t_chances, .ref a_t_search, .int v_t_valueRead])), (a_t_now, .inr (7, [.ref a_t_now_row])), (a_t_now_row, .inl (cI, 104, .inl v_t_now_row)), (a_t_meeting, .inr (3, [.int o_t_meeting_present, .int o_t_meeting_known, .int o_t_meeting_votes, .int o_t_meeting_latest, .int o_t_meeting_value, .int o_t_meeting_read, .int o_t_meeting_write]))] (KX D cI cZ) (some (.int r)) := by
  refine cM_of (cc := cX10_group) (maxL := 3) (ret := some .int) (by decide +kernel) rfl _ (Nat.le_of_ble_eq_true rfl) ?_
  intro p e s m below meth c ls A S hr hlk hP hK hl hD hA hS
  obtain ⟨hx, hb, hml, hown, hts⟩ := id S
  have hl : lv_has ls 3 [(0, .ref a_t), (1, .int jx1), (2, .int jx2)] := hl
  unfold fX10_group at hf
  refine lv_iload_n hx hb dX10_group_0 rfl (lv_at hl 1 rfl) ?_
  obtain ⟨jr1, je2, hf⟩ := bd1_inv hf
  refine callRS (As := [.int jx1]) (rest := []) S (ctX10_isGroup l D cI cZ jx1 jr1 je2) (va_cwS 1 hts gX10_group_X10_isGroup rfl rfl rfl hdX10_isGroup ⟨Nat.le_of_ble_eq_true rfl, Nat.le_of_ble_eq_true rfl⟩) hP [] rfl KX.xs (fun U _ hW => hK.warm hW) rfl hl.1 rfl (Nat.le_of_ble_eq_true rfl) dX10_group_1 ⟨Nat.zero_le _, Nat.zero_le _⟩ ?_
  refine lv_if_ne (tgt := 9) hx hb dX10_group_4 (by decide) (fun jc3 => ?_) (fun jc3 => ?_)
  · have hf := ite_f jc3 hf
    refine lv_aload_n hx hb dX10_group_9 rfl (lv_at hl 0 rfl) ?_
    refine va_get (D := D) (ci := 10) (v := .ref a_t_meeting) (C := RX10) (T := TX10) (N := 10) hx hb hts iX10_group_X10 hown hK.1 hP 0 rfl rfl 5 (by decide) (hts _ mX10_group_1) (fun _ h9 => h9) rfl dX10_group_10 ?_
    refine lv_aload_n hx hb dX10_group_13 rfl (lv_at hl 0 rfl) ?_
    refine va_get (D := D) (ci := 10) (v := .ref a_t_now) (C := RX10) (T := TX10) (N := 10) hx hb hts iX10_group_X10 hown hK.1 hP 0 rfl rfl 2 (by decide) (hts _ mX10_group_2) (fun _ h9 => h9) rfl dX10_group_14 ?_
    refine lv_iload_n hx hb dX10_group_17 rfl (lv_at hl 1 rfl) ?_
    obtain ⟨jg4, jg5, jg6, jg7, jg8, jg9, jg10, je11, hf⟩ := bd7_inv hf
    refine callMV (As := [.ref a_t_now, .int jx1]) (rest := []) (wr := [(a_t, .inr (10, [.ref a_t_text, .ref a_t_telling, .ref a_t_now, .ref a_t_past, .ref a_t_images, .ref a_t_meeting, .ref a_t_seen, .ref a_t_chances, .ref a_t_search, .int v_t_valueRead]))]) (wn := [(a_t, .inr (10, [.ref a_t_text, .ref a_t_telling, .ref a_t_now, .ref a_t_past, .ref a_t_images, .ref a_t_meeting, .ref a_t_seen, .ref a_t_chances, .ref a_t_search, .int v_t_valueRead])), (a_t_now, .inr (7, [.ref a_t_now_row])), (a_t_now_row, .inl (cI, 104, .inl v_t_now_row)), (a_t_meeting, .inr (3, [.int jg4, .int jg5, .int jg6, .int jg7, .int jg8, .int jg9, .int jg10]))]) S (ctX3_look l D cI cZ a_t_meeting a_t_now a_t_now_row jx1 v_t_meeting_present v_t_meeting_known v_t_meeting_votes v_t_meeting_latest v_t_meeting_value v_t_meeting_read v_t_meeting_write v_t_now_row jg4 jg5 jg6 jg7 jg8 jg9 jg10 je11) (cwV 2 hts gX10_group_X3_look rfl rfl rfl ⟨rfl, hdX3_look⟩ ⟨Nat.le_of_ble_eq_true rfl, Nat.le_of_ble_eq_true rfl⟩) hP hD hS hA [3, 1, 2] [0] [0, 2, 3, 1] rfl rfl (by decide) (by decide) (by decide) (by decide) rfl KX.xs (fun U _ hW => hK.warm hW) (va_recv hK.1 hP (ci := 3) (q0 := 3) rfl rfl) rfl hl.1 rfl (Nat.le_of_ble_eq_true rfl) dX10_group_18 ⟨Nat.zero_le _, Nat.zero_le _⟩ (fun H locs hP hD hS => ?_)
    refine W.eq (g2 := F0 m 21 ls []) rfl ?_
    refine lv_iload_n hx hb dX10_group_21 rfl (lv_at hl 2 rfl) ?_
    by_cases jc12 : jx2 = (0 : Int32)
    · have hf := ite_t jc12 hf
      refine lv_tableIn (off := 46) (tgt := 68) hx hb dX10_group_22 (by rw [jc12]; decide) (by rw [jc12]; decide) (by rw [jc12]; decide +kernel) (by decide) ?_
      refine lv_aload_n hx hb dX10_group_68 rfl (lv_at hl 0 rfl) ?_
      refine va_get (D := D) (ci := 10) (v := .ref a_t_meeting) (C := RX10) (T := TX10) (N := 10) hx hb hts iX10_group_X10 hown hK.1 hP 0 rfl rfl 5 (by decide) (hts _ mX10_group_1) (fun _ h9 => h9) rfl dX10_group_69 ?_
      refine va_get (D := D) (ci := 3) (v := .int jg4) (C := RX3) (T := TX3) (N := 7) hx hb hts iX10_group_X3 hown hK.1 hP 3 rfl rfl 0 (by decide) (hts _ mX10_group_3) (fun _ h9 => h9) rfl dX10_group_72 ?_
      obtain ⟨rfl, rfl, rfl, rfl, rfl, rfl, rfl, rfl⟩ := pr8_inv hf
      exact retM hx hb hr hlk hP hD hS dX10_group_75
    have hf := ite_f jc12 hf
    by_cases jc13 : jx2 = (1 : Int32)
    · have hf := ite_t jc13 hf
      refine lv_tableIn (off := 54) (tgt := 76) hx hb dX10_group_22 (by rw [jc13]; decide) (by rw [jc13]; decide) (by rw [jc13]; decide +kernel) (by decide) ?_
      refine lv_aload_n hx hb dX10_group_76 rfl (lv_at hl 0 rfl) ?_
      refine va_get (D := D) (ci := 10) (v := .ref a_t_meeting) (C := RX10) (T := TX10) (N := 10) hx hb hts iX10_group_X10 hown hK.1 hP 0 rfl rfl 5 (by decide) (hts _ mX10_group_1) (fun _ h9 => h9) rfl dX10_group_77 ?_
      refine va_get (D := D) (ci := 3) (v := .int jg5) (C := RX3) (T := TX3) (N := 7) hx hb hts iX10_group_X3 hown hK.1 hP 3 rfl rfl 1 (by decide) (hts _ mX10_group_4) (fun _ h9 => h9) rfl dX10_group_80 ?_
      obtain ⟨rfl, rfl, rfl, rfl, rfl, rfl, rfl, rfl⟩ := pr8_inv hf
      exact retM hx hb hr hlk hP hD hS dX10_group_83
    have hf := ite_f jc13 hf
    by_cases jc14 : jx2 = (2 : Int32)
    · have hf := ite_t jc14 hf
      refine lv_tableIn (off := 62) (tgt := 84) hx hb dX10_group_22 (by rw [jc14]; decide) (by rw [jc14]; decide) (by rw [jc14]; decide +kernel) (by decide) ?_
      refine lv_aload_n hx hb dX10_group_84 rfl (lv_at hl 0 rfl) ?_
      refine va_get (D := D) (ci := 10) (v := .ref a_t_meeting) (C := RX10) (T := TX10) (N := 10) hx hb hts iX10_group_X10 hown hK.1 hP 0 rfl rfl 5 (by decide) (hts _ mX10_group_1) (fun _ h9 => h9) rfl dX10_group_85 ?_
      refine va_get (D := D) (ci := 3) (v := .int jg6) (C := RX3) (T := TX3) (N := 7) hx hb hts iX10_group_X3 hown hK.1 hP 3 rfl rfl 2 (by decide) (hts _ mX10_group_5) (fun _ h9 => h9) rfl dX10_group_88 ?_
      obtain ⟨rfl, rfl, rfl, rfl, rfl, rfl, rfl, rfl⟩ := pr8_inv hf
      exact retM hx hb hr hlk hP hD hS dX10_group_91
    have hf := ite_f jc14 hf
    by_cases jc15 : jx2 = (3 : Int32)
    · have hf := ite_t jc15 hf
      refine lv_tableIn (off := 70) (tgt := 92) hx hb dX10_group_22 (by rw [jc15]; decide) (by rw [jc15]; decide) (by rw [jc15]; decide +kernel) (by decide) ?_
      refine lv_aload_n hx hb dX10_group_92 rfl (lv_at hl 0 rfl) ?_
      refine va_get (D := D) (ci := 10) (v := .ref a_t_meeting) (C := RX10) (T := TX10) (N := 10) hx hb hts iX10_group_X10 hown hK.1 hP 0 rfl rfl 5 (by decide) (hts _ mX10_group_1) (fun _ h9 => h9) rfl dX10_group_93 ?_
      refine va_get (D := D) (ci := 3) (v := .int jg7) (C := RX3) (T := TX3) (N := 7) hx hb hts iX10_group_X3 hown hK.1 hP 3 rfl rfl 3 (by decide) (hts _ mX10_group_6) (fun _ h9 => h9) rfl dX10_group_96 ?_
      obtain ⟨rfl, rfl, rfl, rfl, rfl, rfl, rfl, rfl⟩ := pr8_inv hf
      exact retM hx hb hr hlk hP hD hS dX10_group_99
    have hf := ite_f jc15 hf
    by_cases jc16 : jx2 = (4 : Int32)
    · have hf := ite_t jc16 hf
      refine lv_tableIn (off := 78) (tgt := 100) hx hb dX10_group_22 (by rw [jc16]; decide) (by rw [jc16]; decide) (by rw [jc16]; decide +kernel) (by decide) ?_
      refine lv_aload_n hx hb dX10_group_100 rfl (lv_at hl 0 rfl) ?_
      refine va_get (D := D) (ci := 10) (v := .ref a_t_meeting) (C := RX10) (T := TX10) (N := 10) hx hb hts iX10_group_X10 hown hK.1 hP 0 rfl rfl 5 (by decide) (hts _ mX10_group_1) (fun _ h9 => h9) rfl dX10_group_101 ?_
      refine va_get (D := D) (ci := 3) (v := .int jg8) (C := RX3) (T := TX3) (N := 7) hx hb hts iX10_group_X3 hown hK.1 hP 3 rfl rfl 4 (by decide) (hts _ mX10_group_7) (fun _ h9 => h9) rfl dX10_group_104 ?_
      refine lv_bipush (v := -9) hx hb dX10_group_107 (by decide) ?_
      refine lv_icmp_eq (tgt := 116) hx hb dX10_group_109 (by decide) (fun jc17 => ?_) (fun jc17 => ?_)
      · have hf := ite_t jc17 hf
        refine lv_iconst (v := 0) hx hb dX10_group_116 (by decide) ?_
        obtain ⟨rfl, rfl, rfl, rfl, rfl, rfl, rfl, rfl⟩ := pr8_inv hf
        exact retM hx hb hr hlk hP hD hS dX10_group_117
      · have hf := ite_f jc17 hf
        refine lv_iconst (v := 1) hx hb dX10_group_112 (by decide) ?_
        refine lv_goto (tgt := 117) hx hb dX10_group_113 (by decide) ?_
        obtain ⟨rfl, rfl, rfl, rfl, rfl, rfl, rfl, rfl⟩ := pr8_inv hf
        exact retM hx hb hr hlk hP hD hS dX10_group_117
    have hf := ite_f jc16 hf
    by_cases jc18 : jx2 = (5 : Int32)
    · have hf := ite_t jc18 hf
      refine lv_tableIn (off := 96) (tgt := 118) hx hb dX10_group_22 (by rw [jc18]; decide) (by rw [jc18]; decide) (by rw [jc18]; decide +kernel) (by decide) ?_
      refine lv_aload_n hx hb dX10_group_118 rfl (lv_at hl 0 rfl) ?_
      refine va_get (D := D) (ci := 10) (v := .ref a_t_meeting) (C := RX10) (T := TX10) (N := 10) hx hb hts iX10_group_X10 hown hK.1 hP 0 rfl rfl 5 (by decide) (hts _ mX10_group_1) (fun _ h9 => h9) rfl dX10_group_119 ?_
      refine lv_aload_n hx hb dX10_group_122 rfl (lv_at hl 0 rfl) ?_
      refine va_get (D := D) (ci := 10) (v := .ref a_t_meeting) (C := RX10) (T := TX10) (N := 10) hx hb hts iX10_group_X10 hown hK.1 hP 0 rfl rfl 5 (by decide) (hts _ mX10_group_1) (fun _ h9 => h9) rfl dX10_group_123 ?_
      refine va_get (D := D) (ci := 3) (v := .int jg9) (C := RX3) (T := TX3) (N := 7) hx hb hts iX10_group_X3 hown hK.1 hP 3 rfl rfl 5 (by decide) (hts _ mX10_group_8) (fun _ h9 => h9) rfl dX10_group_126 ?_
      refine lv_iconst (v := 1) hx hb dX10_group_129 (by decide) ?_
      obtain ⟨jr19, je20, hf⟩ := bd1_inv hf
      refine callRV (As := [.int jg9, .int (1 : Int32)]) (rest := []) S (ctX3_can l D cI cZ a_t_meeting jg9 (1 : Int32) jg4 jg6 jg8 jg5 jg7 jg9 jg10 jr19 je20) (cwV 2 hts gX10_group_X3_can rfl rfl rfl ⟨rfl, hdX3_can⟩ ⟨Nat.le_of_ble_eq_true rfl, Nat.le_of_ble_eq_true rfl⟩) hP [3] rfl KX.xs (fun U _ hW => hK.warm hW) (va_recv hK.1 hP (ci := 3) (q0 := 3) rfl rfl) rfl hl.1 rfl (Nat.le_of_ble_eq_true rfl) dX10_group_130 ⟨Nat.zero_le _, Nat.zero_le _⟩ ?_
      obtain ⟨rfl, rfl, rfl, rfl, rfl, rfl, rfl, rfl⟩ := pr8_inv hf
      exact retM hx hb hr hlk hP hD hS dX10_group_133
    have hf := ite_f jc18 hf
    by_cases jc21 : jx2 = (6 : Int32)
    · have hf := ite_t jc21 hf
      refine lv_tableIn (off := 112) (tgt := 134) hx hb dX10_group_22 (by rw [jc21]; decide) (by rw [jc21]; decide) (by rw [jc21]; decide +kernel) (by decide) ?_
      refine lv_aload_n hx hb dX10_group_134 rfl (lv_at hl 0 rfl) ?_
      refine va_get (D := D) (ci := 10) (v := .ref a_t_meeting) (C := RX10) (T := TX10) (N := 10) hx hb hts iX10_group_X10 hown hK.1 hP 0 rfl rfl 5 (by decide) (hts _ mX10_group_1) (fun _ h9 => h9) rfl dX10_group_135 ?_
      refine lv_aload_n hx hb dX10_group_138 rfl (lv_at hl 0 rfl) ?_
      refine va_get (D := D) (ci := 10) (v := .ref a_t_meeting) (C := RX10) (T := TX10) (N := 10) hx hb hts iX10_group_X10 hown hK.1 hP 0 rfl rfl 5 (by decide) (hts _ mX10_group_1) (fun _ h9 => h9) rfl dX10_group_139 ?_
      refine va_get (D := D) (ci := 3) (v := .int jg10) (C := RX3) (T := TX3) (N := 7) hx hb hts iX10_group_X3 hown hK.1 hP 3 rfl rfl 6 (by decide) (hts _ mX10_group_9) (fun _ h9 => h9) rfl dX10_group_142 ?_
      refine lv_iconst (v := 0) hx hb dX10_group_145 (by decide) ?_
      obtain ⟨jr22, je23, hf⟩ := bd1_inv hf
      refine callRV (As := [.int jg10, .int (0 : Int32)]) (rest := []) S (ctX3_can l D cI cZ a_t_meeting jg10 (0 : Int32) jg4 jg6 jg8 jg5 jg7 jg9 jg10 jr22 je23) (cwV 2 hts gX10_group_X3_can rfl rfl rfl ⟨rfl, hdX3_can⟩ ⟨Nat.le_of_ble_eq_true rfl, Nat.le_of_ble_eq_true rfl⟩) hP [3] rfl KX.xs (fun U _ hW => hK.warm hW) (va_recv hK.1 hP (ci := 3) (q0 := 3) rfl rfl) rfl hl.1 rfl (Nat.le_of_ble_eq_true rfl) dX10_group_146 ⟨Nat.zero_le _, Nat.zero_le _⟩ ?_
      obtain ⟨rfl, rfl, rfl, rfl, rfl, rfl, rfl, rfl⟩ := pr8_inv hf
      exact retM hx hb hr hlk hP hD hS dX10_group_149
    have hf := ite_f jc21 hf
    by_cases jc24 : jx2 = (7 : Int32)
    · have hf := ite_t jc24 hf
      refine lv_tableIn (off := 128) (tgt := 150) hx hb dX10_group_22 (by rw [jc24]; decide) (by rw [jc24]; decide) (by rw [jc24]; decide +kernel) (by decide) ?_
      refine lv_aload_n hx hb dX10_group_150 rfl (lv_at hl 0 rfl) ?_
      refine va_get (D := D) (ci := 10) (v := .ref a_t_now) (C := RX10) (T := TX10) (N := 10) hx hb hts iX10_group_X10 hown hK.1 hP 0 rfl rfl 2 (by decide) (hts _ mX10_group_2) (fun _ h9 => h9) rfl dX10_group_151 ?_
      obtain ⟨jr25, je26, hf⟩ := bd1_inv hf
      refine callRV (As := []) (rest := []) S (ctX7_configurations l D cI cZ a_t_now a_t_now_row v_t_now_row jr25 je26) (cwV 0 hts gX10_group_X7_configurations rfl rfl rfl ⟨rfl, hdX7_configurations⟩ ⟨Nat.le_of_ble_eq_true rfl, Nat.le_of_ble_eq_true rfl⟩) hP [1, 2] rfl KX.xs (fun U _ hW => hK.warm hW) (va_recv hK.1 hP (ci := 7) (q0 := 1) rfl rfl) rfl hl.1 rfl (Nat.le_of_ble_eq_true rfl) dX10_group_154 ⟨Nat.zero_le _, Nat.zero_le _⟩ ?_
      refine lv_bipush (v := 8) hx hb dX10_group_157 (by decide) ?_
      refine lv_icmp_ge (tgt := 180) hx hb dX10_group_159 (by decide) (fun jc27 => ?_) (fun jc27 => ?_)
      · have hf := ite_t jc27 hf
        refine lv_iconst (v := 0) hx hb dX10_group_180 (by decide) ?_
        obtain ⟨rfl, rfl, rfl, rfl, rfl, rfl, rfl, rfl⟩ := pr8_inv hf
        exact retM hx hb hr hlk hP hD hS dX10_group_181
      · have hf := ite_f jc27 hf
        refine lv_aload_n hx hb dX10_group_162 rfl (lv_at hl 0 rfl) ?_
        refine va_get (D := D) (ci := 10) (v := .ref a_t_meeting) (C := RX10) (T := TX10) (N := 10) hx hb hts iX10_group_X10 hown hK.1 hP 0 rfl rfl 5 (by decide) (hts _ mX10_group_1) (fun _ h9 => h9) rfl dX10_group_163 ?_
        refine lv_aload_n hx hb dX10_group_166 rfl (lv_at hl 0 rfl) ?_
        refine va_get (D := D) (ci := 10) (v := .ref a_t_meeting) (C := RX10) (T := TX10) (N := 10) hx hb hts iX10_group_X10 hown hK.1 hP 0 rfl rfl 5 (by decide) (hts _ mX10_group_1) (fun _ h9 => h9) rfl dX10_group_167 ?_
        refine va_get (D := D) (ci := 3) (v := .int jg10) (C := RX3) (T := TX3) (N := 7) hx hb hts iX10_group_X3 hown hK.1 hP 3 rfl rfl 6 (by decide) (hts _ mX10_group_9) (fun _ h9 => h9) rfl dX10_group_170 ?_
        refine lv_iconst (v := 1) hx hb dX10_group_173 (by decide) ?_
        obtain ⟨jr28, je29, hf⟩ := bd1_inv hf
        refine callRV (As := [.int jg10, .int (1 : Int32)]) (rest := []) S (ctX3_can l D cI cZ a_t_meeting jg10 (1 : Int32) jg4 jg6 jg8 jg5 jg7 jg9 jg10 jr28 je29) (cwV 2 hts gX10_group_X3_can rfl rfl rfl ⟨rfl, hdX3_can⟩ ⟨Nat.le_of_ble_eq_true rfl, Nat.le_of_ble_eq_true rfl⟩) hP [3] rfl KX.xs (fun U _ hW => hK.warm hW) (va_recv hK.1 hP (ci := 3) (q0 := 3) rfl rfl) rfl hl.1 rfl (Nat.le_of_ble_eq_true rfl) dX10_group_174 ⟨Nat.zero_le _, Nat.zero_le _⟩ ?_
        refine lv_goto (tgt := 181) hx hb dX10_group_177 (by decide) ?_
        obtain ⟨rfl, rfl, rfl, rfl, rfl, rfl, rfl, rfl⟩ := pr8_inv hf
        exact retM hx hb hr hlk hP hD hS dX10_group_181
    have hf := ite_f jc24 hf
    have jh30 : (jx2).toInt < 0 ∨ 7 < (jx2).toInt := by
      refine sw_out (fun v h1 h2 => ?_)
      rcases (show v = 0 ∨ v = 1 ∨ v = 2 ∨ v = 3 ∨ v = 4 ∨ v = 5 ∨ v = 6 ∨ v = 7 by omega) with rfl | rfl | rfl | rfl | rfl | rfl | rfl | rfl
      · exact jc12
      · exact jc13
      · exact jc14
      · exact jc15
      · exact jc16
      · exact jc18
      · exact jc21
      · exact jc24
    refine lv_tableOut (tgt := 182) hx hb dX10_group_22 jh30 (by decide) ?_
    refine lv_iconst (v := -1) hx hb dX10_group_182 (by decide) ?_
    obtain ⟨rfl, rfl, rfl, rfl, rfl, rfl, rfl, rfl⟩ := pr8_inv hf
    exact retM hx hb hr hlk hP hD hS dX10_group_183
  · have hf := ite_t jc3 hf
    refine lv_iconst (v := -1) hx hb dX10_group_7 (by decide) ?_
    obtain ⟨rfl, rfl, rfl, rfl, rfl, rfl, rfl, rfl⟩ := pr8_inv hf
    exact retM hx hb hr hlk hP hD hS dX10_group_8
def fX10_asked (v_t_valueRead : Int32) : Option (Int32) := some v_t_valueRead
abbrev rmX10_asked : Room := { frames := 0, cells := 0, slots := 0, locals := 0 }
theorem iX10_asked_X10 : ∀ w ∈ wsX100, w ∈ wsX10_asked := fun _ h => List.mem_cons_of_mem _ (List.mem_append_right _ h)
theorem mX10_asked_1 : (Cond.fieldLink RX10 74 "VoteFiles" "valueRead" "I") ∈ wsX10_asked := List.mem_of_getElem? (i := 1) rfl
theorem hdX10_asked : yX10_asked.cls ≠ "java/lang/invoke/MethodHandle" ∧ yX10_asked.cls ≠ "java/lang/invoke/VarHandle" ∧ (parseMethodDescriptor yX10_asked.desc).map (fun d => d.parameters.length) = some 0 := by decide +kernel
set_option maxHeartbeats 4000000 in
set_option maxRecDepth 100000 in
theorem ctX10_asked (l : Launch) (D : va_G) (cI cZ : ClassId) (a_t a_t_text a_t_telling a_t_now a_t_past a_t_images a_t_meeting a_t_seen a_t_chances a_t_search : Nat) (v_t_valueRead : Int32) (r : Int32) (hf : fX10_asked v_t_valueRead = some r) : cR l yX10_asked wsX10_asked rmX10_asked [.ref a_t] D [(a_t, .inr (10, [.ref a_t_text, .ref a_t_telling, .ref a_t_now, .ref a_t_past, .ref a_t_images, .ref a_t_meeting, .ref a_t_seen, .ref a_t_chances, .ref a_t_search, .int v_t_valueRead]))] (KX D cI cZ) r := by
  refine cR_of (cc := cX10_asked) (maxL := 1) (ret := some .int) (by decide +kernel) rfl _ (Nat.le_of_ble_eq_true rfl) ?_
  intro p e s m below meth c ls S hr hlk hP hK hl
  obtain ⟨hx, hb, hml, hown, hts⟩ := id S
  have hl : lv_has ls 1 [(0, .ref a_t)] := hl
  unfold fX10_asked at hf
  refine lv_aload_n hx hb dX10_asked_0 rfl (lv_at hl 0 rfl) ?_
  refine va_get (D := D) (ci := 10) (v := .int v_t_valueRead) (C := RX10) (T := TX10) (N := 10) hx hb hts iX10_asked_X10 hown hK.1 hP 0 rfl rfl 9 (by decide) (hts _ mX10_asked_1) (fun _ h9 => h9) rfl dX10_asked_1 ?_
  obtain rfl := Option.some.inj hf
  exact retR hx hb hr hlk dX10_asked_4
def fX10_chance_40 (jx1 : Int32) (jx2 : Int32) (jx3 : Int32) (v_t_now_row : (Nat → Int32)) : Nat → Int32 → Int32 → Int32 → Int32 → (Nat → Int32) → Option (Int32 × Int32 × Int32 × Int32 × (Nat → Int32))
  | 0, _, _, _, _, _ => none
  | n + 1, jx4, v_t_chances_total, v_t_chances_upper, v_t_chances_lower, v_t_chances_likely => bd1 (fX7_copies v_t_now_row) (fun jr1 => if jr1 ≤ jx4 then bd1 (fX7_newest v_t_now_row) (fun jr4 => bd1 (fX7_need jr4 jx2 v_t_now_row) (fun jr6 => bd1 (fX7_copies v_t_now_row) (fun jr8 => bd2 (fX0_reduce jr6 jr8 v_t_chances_total v_t_chances_upper v_t_chances_lower v_t_chances_likely) (fun jg10 jg11 => if jx3 = 0 then some (jg10, v_t_chances_total, jg10, jg11, v_t_chances_likely) else some (jg11, v_t_chances_total, jg10, jg11, v_t_chances_likely))))) else bd1 (fX7_newest v_t_now_row) (fun jr14 => bd1 (fX7_votesOf jr14 jx4 v_t_now_row) (fun jr16 => bd2 (fX0_join jr16 jx1 v_t_chances_total v_t_chances_likely) (fun jg18 jg19 => (fX10_chance_40 jx1 jx2 jx3 v_t_now_row n) (jx4 + (1 : Int32)) jg18 v_t_chances_upper v_t_chances_lower jg19))))
theorem fX10_chance_40_s (jx1 : Int32) (jx2 : Int32) (jx3 : Int32) (v_t_now_row : (Nat → Int32)) (n : Nat) (jx4 : Int32) (v_t_chances_total : Int32) (v_t_chances_upper : Int32) (v_t_chances_lower : Int32) (v_t_chances_likely : (Nat → Int32)) : fX10_chance_40 jx1 jx2 jx3 v_t_now_row (n + 1) jx4 v_t_chances_total v_t_chances_upper v_t_chances_lower v_t_chances_likely = bd1 (fX7_copies v_t_now_row) (fun jr1 => if jr1 ≤ jx4 then bd1 (fX7_newest v_t_now_row) (fun jr4 => bd1 (fX7_need jr4 jx2 v_t_now_row) (fun jr6 => bd1 (fX7_copies v_t_now_row) (fun jr8 => bd2 (fX0_reduce jr6 jr8 v_t_chances_total v_t_chances_upper v_t_chances_lower v_t_chances_likely) (fun jg10 jg11 => if jx3 = 0 then some (jg10, v_t_chances_total, jg10, jg11, v_t_chances_likely) else some (jg11, v_t_chances_total, jg10, jg11, v_t_chances_likely))))) else bd1 (fX7_newest v_t_now_row) (fun jr14 => bd1 (fX7_votesOf jr14 jx4 v_t_now_row) (fun jr16 => bd2 (fX0_join jr16 jx1 v_t_chances_total v_t_chances_likely) (fun jg18 jg19 => (fX10_chance_40 jx1 jx2 jx3 v_t_now_row n) (jx4 + (1 : Int32)) jg18 v_t_chances_upper v_t_chances_lower jg19)))) := rfl
def fX10_chance (jx1 : Int32) (jx2 : Int32) (jx3 : Int32) (v_t_now_row : (Nat → Int32)) (v_t_chances_total : Int32) (v_t_chances_upper : Int32) (v_t_chances_lower : Int32) (v_t_chances_likely : (Nat → Int32)) : Option (Int32 × Int32 × Int32 × Int32 × (Nat → Int32)) := bd1 (fX10_isWithin jx1 (0 : Int32) (10 : Int32)) (fun jr1 => if jr1 = 0 then some ((-1 : Int32), v_t_chances_total, v_t_chances_upper, v_t_chances_lower, v_t_chances_likely) else bd1 (fX10_isWithin jx2 (0 : Int32) (1 : Int32)) (fun jr4 => if jr4 = 0 then some ((-1 : Int32), v_t_chances_total, v_t_chances_upper, v_t_chances_lower, v_t_chances_likely) else bd1 (fX10_isWithin jx3 (0 : Int32) (1 : Int32)) (fun jr7 => if jr7 = 0 then some ((-1 : Int32), v_t_chances_total, v_t_chances_upper, v_t_chances_lower, v_t_chances_likely) else bd2 (fX0_begin v_t_chances_total v_t_chances_likely) (fun jg10 jg11 => fX10_chance_40 jx1 jx2 jx3 v_t_now_row fuel (0 : Int32) jg10 v_t_chances_upper v_t_chances_lower jg11))))
abbrev rmX10_chance : Room := { frames := 3, cells := 0, slots := 0, locals := 67 }
theorem iX10_chance_X10 : ∀ w ∈ wsX100, w ∈ wsX10_chance := fun _ h => List.mem_cons_of_mem _ (List.mem_append_left _ (List.mem_append_left _ (List.mem_append_right _ h)))
theorem mX10_chance_2 : (Cond.fieldLink RX10 28 "VoteFiles" "now" "LVoteFiles$Shape;") ∈ wsX10_chance := List.mem_of_getElem? (i := 2) rfl
theorem mX10_chance_1 : (Cond.fieldLink RX10 63 "VoteFiles" "chances" "LVoteFiles$Chances;") ∈ wsX10_chance := List.mem_of_getElem? (i := 1) rfl
theorem iX10_chance_X0 : ∀ w ∈ wsX00, w ∈ wsX10_chance := fun _ h => List.mem_cons_of_mem _ (List.mem_append_left _ (List.mem_append_right _ h))
theorem mX10_chance_4 : (Cond.fieldLink RX10 231 "VoteFiles$Chances" "lower" "I") ∈ wsX10_chance := List.mem_of_getElem? (i := 4) rfl
theorem mX10_chance_3 : (Cond.fieldLink RX10 228 "VoteFiles$Chances" "upper" "I") ∈ wsX10_chance := List.mem_of_getElem? (i := 3) rfl
set_option maxHeartbeats 4000000 in
set_option maxRecDepth 100000 in
theorem wX10_chance_40 {p : Program} {l : Launch} {e : Env} {s : State} {m : MethodId} {args : Array Value} {below : List Frame} {meth : Method} {c : Code} {D : va_G} {cI cZ : ClassId} (S : CallFix p m c cX10_chance 5 s args wsX10_chance RX10) (hr : meth.sig.returnType = some .int) (hlk : meth.locks = false) (hK : KX D cI cZ s) {a_t a_t_text a_t_telling a_t_now a_t_past a_t_images a_t_meeting a_t_seen a_t_chances a_t_search a_t_now_row a_t_chances_likely : Nat} {jx1 : Int32} {jx2 : Int32} {jx3 : Int32} {v_t_now_row : (Nat → Int32)} {v_t_valueRead : Int32} {r : Int32} {o_t_chances_total : Int32} {o_t_chances_upper : Int32} {o_t_chances_lower : Int32} {o_t_chances_likely : (Nat → Int32)} {A : Nat → Prop} (hA : ∀ q : Nat, s.heap.size ≤ q → A q) : ∀ (n : Nat), ∀ (jx4 : Int32) (v_t_chances_total : Int32) (v_t_chances_upper : Int32) (v_t_chances_lower : Int32) (v_t_chances_likely : (Nat → Int32)) (ls : Array Slot) (H : Heap) (locs : List Loc), fX10_chance_40 jx1 jx2 jx3 v_t_now_row n jx4 v_t_chances_total v_t_chances_upper v_t_chances_lower v_t_chances_likely = some (r, o_t_chances_total, o_t_chances_upper, o_t_chances_lower, o_t_chances_likely) → lv_has ls 5 [(0, .ref a_t), (1, .int jx1), (2, .int jx2), (3, .int jx3), (4, .int jx4)] → va_P D vwCl [(a_t, .inr (10, [.ref a_t_text, .ref a_t_telling, .ref a_t_now, .ref a_t_past, .ref a_t_images, .ref a_t_meeting, .ref a_t_seen, .ref a_t_chances, .ref a_t_search, .int v_t_valueRead])), (a_t_now, .inr (7, [.ref a_t_now_row])), (a_t_now_row, .inl (cI, 104, .inl v_t_now_row)), (a_t_chances, .inr (0, [.ref a_t_chances_likely, .int v_t_chances_total, .int v_t_chances_upper, .int v_t_chances_lower])), (a_t_chances_likely, .inl (cI, 31, .inl v_t_chances_likely))] H → va_D A [(a_t, .inr (10, [.ref a_t_text, .ref a_t_telling, .ref a_t_now, .ref a_t_past, .ref a_t_images, .ref a_t_meeting, .ref a_t_seen, .ref a_t_chances, .ref a_t_search, .int v_t_valueRead])), (a_t_now, .inr (7, [.ref a_t_now_row])), (a_t_now_row, .inl (cI, 104, .inl v_t_now_row)), (a_t_chances, .inr (0, [.ref a_t_chances_likely, .int v_t_chances_total, .int v_t_chances_upper, .int v_t_chances_lower])), (a_t_chances_likely, .inl (cI, 31, .inl v_t_chances_likely))] → va_S A s.heap H locs → W p l e rmX10_chance s m args below meth c H locs 0 0 (MQ below (qM D (some (.int r)) [(a_t, .inr (10, [.ref a_t_text, .ref a_t_telling, .ref a_t_now, .ref a_t_past, .ref a_t_images, .ref a_t_meeting, .ref a_t_seen, .ref a_t_chances, .ref a_t_search, .int v_t_valueRead])), (a_t_now, .inr (7, [.ref a_t_now_row])), (a_t_now_row, .inl (cI, 104, .inl v_t_now_row)), (a_t_chances, .inr (0, [.ref a_t_chances_likely, .int o_t_chances_total, .int o_t_chances_upper, .int o_t_chances_lower])), (a_t_chances_likely, .inl (cI, 31, .inl o_t_chances_likely))] A) args s 0 0 A) (F0 m 40 ls []) := by
  obtain ⟨hx, hb, hml, hown, hts⟩ := id S
  intro n
  induction n with
  | zero =>
    intro jx4 v_t_chances_total v_t_chances_upper v_t_chances_lower v_t_chances_likely ls H locs hf hl hP hD hS
    cases (show (none : Option _) = some _ from hf)
  | succ n ih =>
    intro jx4 v_t_chances_total v_t_chances_upper v_t_chances_lower v_t_chances_likely ls H locs hf hl hP hD hS
    have hf := (fX10_chance_40_s _ _ _ _ n _ _ _ _ _).symm.trans hf
    refine lv_iload hx hb dX10_chance_40 (lv_at hl 4 rfl) ?_
    refine lv_aload_n hx hb dX10_chance_42 rfl (lv_at hl 0 rfl) ?_
    refine va_get (D := D) (ci := 10) (v := .ref a_t_now) (C := RX10) (T := TX10) (N := 10) hx hb hts iX10_chance_X10 hown hK.1 hP 0 rfl rfl 2 (by decide) (hts _ mX10_chance_2) (fun _ h9 => h9) rfl dX10_chance_43 ?_
    obtain ⟨jr1, je2, hf⟩ := bd1_inv hf
    refine callRV (As := []) (rest := [.int jx4]) S (ctX7_copies l D cI cZ a_t_now a_t_now_row v_t_now_row jr1 je2) (cwV 0 hts gX10_chance_X7_copies rfl rfl rfl ⟨rfl, hdX7_copies⟩ ⟨Nat.le_of_ble_eq_true rfl, Nat.le_of_ble_eq_true rfl⟩) hP [1, 2] rfl KX.xs (fun U _ hW => hK.warm hW) (va_recv hK.1 hP (ci := 7) (q0 := 1) rfl rfl) rfl hl.1 rfl (Nat.le_of_ble_eq_true rfl) dX10_chance_46 ⟨Nat.zero_le _, Nat.zero_le _⟩ ?_
    refine lv_icmp_ge (tgt := 82) hx hb dX10_chance_49 (by decide) (fun jc3 => ?_) (fun jc3 => ?_)
    · have hf := ite_t jc3 hf
      refine lv_aload_n hx hb dX10_chance_82 rfl (lv_at hl 0 rfl) ?_
      refine va_get (D := D) (ci := 10) (v := .ref a_t_chances) (C := RX10) (T := TX10) (N := 10) hx hb hts iX10_chance_X10 hown hK.1 hP 0 rfl rfl 7 (by decide) (hts _ mX10_chance_1) (fun _ h9 => h9) rfl dX10_chance_83 ?_
      refine lv_aload_n hx hb dX10_chance_86 rfl (lv_at hl 0 rfl) ?_
      refine va_get (D := D) (ci := 10) (v := .ref a_t_now) (C := RX10) (T := TX10) (N := 10) hx hb hts iX10_chance_X10 hown hK.1 hP 0 rfl rfl 2 (by decide) (hts _ mX10_chance_2) (fun _ h9 => h9) rfl dX10_chance_87 ?_
      refine lv_aload_n hx hb dX10_chance_90 rfl (lv_at hl 0 rfl) ?_
      refine va_get (D := D) (ci := 10) (v := .ref a_t_now) (C := RX10) (T := TX10) (N := 10) hx hb hts iX10_chance_X10 hown hK.1 hP 0 rfl rfl 2 (by decide) (hts _ mX10_chance_2) (fun _ h9 => h9) rfl dX10_chance_91 ?_
      obtain ⟨jr4, je5, hf⟩ := bd1_inv hf
      refine callRV (As := []) (rest := [.ref a_t_now, .ref a_t_chances]) S (ctX7_newest l D cI cZ a_t_now a_t_now_row v_t_now_row jr4 je5) (cwV 0 hts gX10_chance_X7_newest rfl rfl rfl ⟨rfl, hdX7_newest⟩ ⟨Nat.le_of_ble_eq_true rfl, Nat.le_of_ble_eq_true rfl⟩) hP [1, 2] rfl KX.xs (fun U _ hW => hK.warm hW) (va_recv hK.1 hP (ci := 7) (q0 := 1) rfl rfl) rfl hl.1 rfl (Nat.le_of_ble_eq_true rfl) dX10_chance_94 ⟨Nat.zero_le _, Nat.zero_le _⟩ ?_
      refine lv_iload_n hx hb dX10_chance_97 rfl (lv_at hl 2 rfl) ?_
      obtain ⟨jr6, je7, hf⟩ := bd1_inv hf
      refine callRV (As := [.int jr4, .int jx2]) (rest := [.ref a_t_chances]) S (ctX7_need l D cI cZ a_t_now a_t_now_row jr4 jx2 v_t_now_row jr6 je7) (cwV 2 hts gX10_chance_X7_need rfl rfl rfl ⟨rfl, hdX7_need⟩ ⟨Nat.le_of_ble_eq_true rfl, Nat.le_of_ble_eq_true rfl⟩) hP [1, 2] rfl KX.xs (fun U _ hW => hK.warm hW) (va_recv hK.1 hP (ci := 7) (q0 := 1) rfl rfl) rfl hl.1 rfl (Nat.le_of_ble_eq_true rfl) dX10_chance_98 ⟨Nat.zero_le _, Nat.zero_le _⟩ ?_
      refine lv_aload_n hx hb dX10_chance_101 rfl (lv_at hl 0 rfl) ?_
      refine va_get (D := D) (ci := 10) (v := .ref a_t_now) (C := RX10) (T := TX10) (N := 10) hx hb hts iX10_chance_X10 hown hK.1 hP 0 rfl rfl 2 (by decide) (hts _ mX10_chance_2) (fun _ h9 => h9) rfl dX10_chance_102 ?_
      obtain ⟨jr8, je9, hf⟩ := bd1_inv hf
      refine callRV (As := []) (rest := [.int jr6, .ref a_t_chances]) S (ctX7_copies l D cI cZ a_t_now a_t_now_row v_t_now_row jr8 je9) (cwV 0 hts gX10_chance_X7_copies rfl rfl rfl ⟨rfl, hdX7_copies⟩ ⟨Nat.le_of_ble_eq_true rfl, Nat.le_of_ble_eq_true rfl⟩) hP [1, 2] rfl KX.xs (fun U _ hW => hK.warm hW) (va_recv hK.1 hP (ci := 7) (q0 := 1) rfl rfl) rfl hl.1 rfl (Nat.le_of_ble_eq_true rfl) dX10_chance_105 ⟨Nat.zero_le _, Nat.zero_le _⟩ ?_
      obtain ⟨jg10, jg11, je12, hf⟩ := bd2_inv hf
      refine callMV (As := [.int jr6, .int jr8]) (rest := []) (wr := [(a_t, .inr (10, [.ref a_t_text, .ref a_t_telling, .ref a_t_now, .ref a_t_past, .ref a_t_images, .ref a_t_meeting, .ref a_t_seen, .ref a_t_chances, .ref a_t_search, .int v_t_valueRead])), (a_t_now, .inr (7, [.ref a_t_now_row])), (a_t_now_row, .inl (cI, 104, .inl v_t_now_row))]) (wn := [(a_t, .inr (10, [.ref a_t_text, .ref a_t_telling, .ref a_t_now, .ref a_t_past, .ref a_t_images, .ref a_t_meeting, .ref a_t_seen, .ref a_t_chances, .ref a_t_search, .int v_t_valueRead])), (a_t_now, .inr (7, [.ref a_t_now_row])), (a_t_now_row, .inl (cI, 104, .inl v_t_now_row)), (a_t_chances, .inr (0, [.ref a_t_chances_likely, .int v_t_chances_total, .int jg10, .int jg11])), (a_t_chances_likely, .inl (cI, 31, .inl v_t_chances_likely))]) S (ctX0_reduce l D cI cZ a_t_chances a_t_chances_likely jr6 jr8 v_t_chances_total v_t_chances_upper v_t_chances_lower v_t_chances_likely jg10 jg11 je12) (cwV 2 hts gX10_chance_X0_reduce rfl rfl rfl ⟨rfl, hdX0_reduce⟩ ⟨Nat.le_of_ble_eq_true rfl, Nat.le_of_ble_eq_true rfl⟩) hP hD hS hA [3, 4] [0, 1, 2] [0, 1, 2, 3, 4] rfl rfl (by decide) (by decide) (by decide) (by decide) rfl KX.xs (fun U _ hW => hK.warm hW) (va_recv hK.1 hP (ci := 0) (q0 := 3) rfl rfl) rfl hl.1 rfl (Nat.le_of_ble_eq_true rfl) dX10_chance_108 ⟨Nat.zero_le _, Nat.zero_le _⟩ (fun H locs hP hD hS => ?_)
      refine W.eq (g2 := F0 m 111 ls []) rfl ?_
      refine lv_iload_n hx hb dX10_chance_111 rfl (lv_at hl 3 rfl) ?_
      refine lv_if_ne (tgt := 125) hx hb dX10_chance_112 (by decide) (fun jc13 => ?_) (fun jc13 => ?_)
      · have hf := ite_f jc13 hf
        refine lv_aload_n hx hb dX10_chance_125 rfl (lv_at hl 0 rfl) ?_
        refine va_get (D := D) (ci := 10) (v := .ref a_t_chances) (C := RX10) (T := TX10) (N := 10) hx hb hts iX10_chance_X10 hown hK.1 hP 0 rfl rfl 7 (by decide) (hts _ mX10_chance_1) (fun _ h9 => h9) rfl dX10_chance_126 ?_
        refine va_get (D := D) (ci := 0) (v := .int jg11) (C := RX0) (T := TX0) (N := 4) hx hb hts iX10_chance_X0 hown hK.1 hP 3 rfl rfl 3 (by decide) (hts _ mX10_chance_4) (fun _ h9 => h9) rfl dX10_chance_129 ?_
        obtain ⟨rfl, rfl, rfl, rfl, rfl⟩ := pr5_inv hf
        exact retM hx hb hr hlk hP hD hS dX10_chance_132
      · have hf := ite_t jc13 hf
        refine lv_aload_n hx hb dX10_chance_115 rfl (lv_at hl 0 rfl) ?_
        refine va_get (D := D) (ci := 10) (v := .ref a_t_chances) (C := RX10) (T := TX10) (N := 10) hx hb hts iX10_chance_X10 hown hK.1 hP 0 rfl rfl 7 (by decide) (hts _ mX10_chance_1) (fun _ h9 => h9) rfl dX10_chance_116 ?_
        refine va_get (D := D) (ci := 0) (v := .int jg10) (C := RX0) (T := TX0) (N := 4) hx hb hts iX10_chance_X0 hown hK.1 hP 3 rfl rfl 2 (by decide) (hts _ mX10_chance_3) (fun _ h9 => h9) rfl dX10_chance_119 ?_
        refine lv_goto (tgt := 132) hx hb dX10_chance_122 (by decide) ?_
        obtain ⟨rfl, rfl, rfl, rfl, rfl⟩ := pr5_inv hf
        exact retM hx hb hr hlk hP hD hS dX10_chance_132
    · have hf := ite_f jc3 hf
      refine lv_aload_n hx hb dX10_chance_52 rfl (lv_at hl 0 rfl) ?_
      refine va_get (D := D) (ci := 10) (v := .ref a_t_chances) (C := RX10) (T := TX10) (N := 10) hx hb hts iX10_chance_X10 hown hK.1 hP 0 rfl rfl 7 (by decide) (hts _ mX10_chance_1) (fun _ h9 => h9) rfl dX10_chance_53 ?_
      refine lv_aload_n hx hb dX10_chance_56 rfl (lv_at hl 0 rfl) ?_
      refine va_get (D := D) (ci := 10) (v := .ref a_t_now) (C := RX10) (T := TX10) (N := 10) hx hb hts iX10_chance_X10 hown hK.1 hP 0 rfl rfl 2 (by decide) (hts _ mX10_chance_2) (fun _ h9 => h9) rfl dX10_chance_57 ?_
      refine lv_aload_n hx hb dX10_chance_60 rfl (lv_at hl 0 rfl) ?_
      refine va_get (D := D) (ci := 10) (v := .ref a_t_now) (C := RX10) (T := TX10) (N := 10) hx hb hts iX10_chance_X10 hown hK.1 hP 0 rfl rfl 2 (by decide) (hts _ mX10_chance_2) (fun _ h9 => h9) rfl dX10_chance_61 ?_
      obtain ⟨jr14, je15, hf⟩ := bd1_inv hf
      refine callRV (As := []) (rest := [.ref a_t_now, .ref a_t_chances]) S (ctX7_newest l D cI cZ a_t_now a_t_now_row v_t_now_row jr14 je15) (cwV 0 hts gX10_chance_X7_newest rfl rfl rfl ⟨rfl, hdX7_newest⟩ ⟨Nat.le_of_ble_eq_true rfl, Nat.le_of_ble_eq_true rfl⟩) hP [1, 2] rfl KX.xs (fun U _ hW => hK.warm hW) (va_recv hK.1 hP (ci := 7) (q0 := 1) rfl rfl) rfl hl.1 rfl (Nat.le_of_ble_eq_true rfl) dX10_chance_64 ⟨Nat.zero_le _, Nat.zero_le _⟩ ?_
      refine lv_iload hx hb dX10_chance_67 (lv_at hl 4 rfl) ?_
      obtain ⟨jr16, je17, hf⟩ := bd1_inv hf
      refine callRV (As := [.int jr14, .int jx4]) (rest := [.ref a_t_chances]) S (ctX7_votesOf l D cI cZ a_t_now a_t_now_row jr14 jx4 v_t_now_row jr16 je17) (cwV 2 hts gX10_chance_X7_votesOf rfl rfl rfl ⟨rfl, hdX7_votesOf⟩ ⟨Nat.le_of_ble_eq_true rfl, Nat.le_of_ble_eq_true rfl⟩) hP [1, 2] rfl KX.xs (fun U _ hW => hK.warm hW) (va_recv hK.1 hP (ci := 7) (q0 := 1) rfl rfl) rfl hl.1 rfl (Nat.le_of_ble_eq_true rfl) dX10_chance_69 ⟨Nat.zero_le _, Nat.zero_le _⟩ ?_
      refine lv_iload_n hx hb dX10_chance_72 rfl (lv_at hl 1 rfl) ?_
      obtain ⟨jg18, jg19, je20, hf⟩ := bd2_inv hf
      refine callMV (As := [.int jr16, .int jx1]) (rest := []) (wr := [(a_t, .inr (10, [.ref a_t_text, .ref a_t_telling, .ref a_t_now, .ref a_t_past, .ref a_t_images, .ref a_t_meeting, .ref a_t_seen, .ref a_t_chances, .ref a_t_search, .int v_t_valueRead])), (a_t_now, .inr (7, [.ref a_t_now_row])), (a_t_now_row, .inl (cI, 104, .inl v_t_now_row))]) (wn := [(a_t, .inr (10, [.ref a_t_text, .ref a_t_telling, .ref a_t_now, .ref a_t_past, .ref a_t_images, .ref a_t_meeting, .ref a_t_seen, .ref a_t_chances, .ref a_t_search, .int v_t_valueRead])), (a_t_now, .inr (7, [.ref a_t_now_row])), (a_t_now_row, .inl (cI, 104, .inl v_t_now_row)), (a_t_chances, .inr (0, [.ref a_t_chances_likely, .int jg18, .int v_t_chances_upper, .int v_t_chances_lower])), (a_t_chances_likely, .inl (cI, 31, .inl jg19))]) S (ctX0_join l D cI cZ a_t_chances a_t_chances_likely jr16 jx1 v_t_chances_total v_t_chances_likely v_t_chances_upper v_t_chances_lower jg18 jg19 je20) (cwV 2 hts gX10_chance_X0_join rfl rfl rfl ⟨rfl, hdX0_join⟩ ⟨Nat.le_of_ble_eq_true rfl, Nat.le_of_ble_eq_true rfl⟩) hP hD hS hA [3, 4] [0, 1, 2] [0, 1, 2, 3, 4] rfl rfl (by decide) (by decide) (by decide) (by decide) rfl KX.xs (fun U _ hW => hK.warm hW) (va_recv hK.1 hP (ci := 0) (q0 := 3) rfl rfl) rfl hl.1 rfl (Nat.le_of_ble_eq_true rfl) dX10_chance_73 ⟨Nat.zero_le _, Nat.zero_le _⟩ (fun H locs hP hD hS => ?_)
      refine W.eq (g2 := F0 m 76 ls []) rfl ?_
      refine lv_iinc (v := (jx4 + (1 : Int32))) (lv' := [(4, .int (jx4 + (1 : Int32))), (0, .ref a_t), (1, .int jx1), (2, .int jx2), (3, .int jx3)]) hx hb dX10_chance_76 hl (k := 4) rfl rfl (by decide) rfl (fun ls hl => ?_)
      refine lv_goto (tgt := 40) hx hb dX10_chance_79 (by decide) ?_
      exact ih (jx4 + (1 : Int32)) jg18 v_t_chances_upper v_t_chances_lower jg19 ls _ _ hf (lv_sub hl [1, 2, 3, 4, 0] rfl) hP hD hS
theorem hdX10_chance : yX10_chance.cls ≠ "java/lang/invoke/MethodHandle" ∧ yX10_chance.cls ≠ "java/lang/invoke/VarHandle" ∧ (parseMethodDescriptor yX10_chance.desc).map (fun d => d.parameters.length) = some 3 := by decide +kernel
set_option maxHeartbeats 4000000 in
set_option maxRecDepth 100000 in
theorem ctX10_chance (l : Launch) (D : va_G) (cI cZ : ClassId) (a_t a_t_text a_t_telling a_t_now a_t_past a_t_images a_t_meeting a_t_seen a_t_chances a_t_search a_t_now_row a_t_chances_likely : Nat) (jx1 : Int32) (jx2 : Int32) (jx3 : Int32) (v_t_now_row : (Nat → Int32)) (v_t_chances_total : Int32) (v_t_chances_upper : Int32) (v_t_chances_lower : Int32) (v_t_chances_likely : (Nat → Int32)) (v_t_valueRead : Int32) (r : Int32) (o_t_chances_total : Int32) (o_t_chances_upper : Int32) (o_t_chances_lower : Int32) (o_t_chances_likely : (Nat → Int32)) (hf : fX10_chance jx1 jx2 jx3 v_t_now_row v_t_chances_total v_t_chances_upper v_t_chances_lower v_t_chances_likely = some (r, o_t_chances_total, o_t_chances_upper, o_t_chances_lower, o_t_chances_likely)) : cM l yX10_chance wsX10_chance rmX10_chance [.ref a_t, .int jx1, .int jx2, .int jx3] D [(a_t, .inr (10, [.ref a_t_text, .ref a_t_telling, .ref a_t_now, .ref a_t_past, .ref a_t_images, .ref a_t_meeting, .ref a_t_seen, .ref a_t_chances, .ref a_t_search, .int v_t_valueRead])), (a_t_now, .inr (7, [.ref a_t_now_row])), (a_t_now_row, .inl (cI, 104, .inl v_t_now_row)), (a_t_chances, .inr (0, [.ref a_t_chances_likely, .int v_t_chances_total, .int v_t_chances_upper, .int v_t_chances_lower])), (a_t_chances_likely, .inl (cI, 31, .inl v_t_chances_likely))] [(a_t, .inr (10, [.ref a_t_text, .ref a_t_telling, .ref a_t_now, .ref a_t_past, .ref a_t_images, .ref a_t_meeting, .ref a_t_seen, .ref a_t_chances, .ref a_t_search, .int v_t_valueRead])), (a_t_now, .inr (7, [.ref a_t_now_row])), (a_t_now_row, .inl (cI, 104, .inl v_t_now_row)), (a_t_chances, .inr (0, [.ref a_t_chances_likely, .int o_t_chances_total, .int o_t_chances_upper, .int o_t_chances_lower])), (a_t_chances_likely, .inl (cI, 31, .inl o_t_chances_likely))] (KX D cI cZ) (some (.int r)) := by
  refine cM_of (cc := cX10_chance) (maxL := 5) (ret := some .int) (by decide +kernel) rfl _ (Nat.le_of_ble_eq_true rfl) ?_
  intro p e s m below meth c ls A S hr hlk hP hK hl hD hA hS
  obtain ⟨hx, hb, hml, hown, hts⟩ := id S
  have hl : lv_has ls 5 [(0, .ref a_t), (1, .int jx1), (2, .int jx2), (3, .int jx3)] := hl
  unfold fX10_chance at hf
  refine lv_iload_n hx hb dX10_chance_0 rfl (lv_at hl 1 rfl) ?_
  refine lv_iconst (v := 0) hx hb dX10_chance_1 (by decide) ?_
  refine lv_bipush (v := 10) hx hb dX10_chance_2 (by decide) ?_
  obtain ⟨jr1, je2, hf⟩ := bd1_inv hf
  refine callRS (As := [.int jx1, .int (0 : Int32), .int (10 : Int32)]) (rest := []) S (ctX10_isWithin l D cI cZ jx1 (0 : Int32) (10 : Int32) jr1 je2) (va_cwS 3 hts gX10_chance_X10_isWithin rfl rfl rfl hdX10_isWithin ⟨Nat.le_of_ble_eq_true rfl, Nat.le_of_ble_eq_true rfl⟩) hP [] rfl KX.xs (fun U _ hW => hK.warm hW) rfl hl.1 rfl (Nat.le_of_ble_eq_true rfl) dX10_chance_4 ⟨Nat.zero_le _, Nat.zero_le _⟩ ?_
  refine lv_if_eq (tgt := 28) hx hb dX10_chance_7 (by decide) (fun jc3 => ?_) (fun jc3 => ?_)
  · have hf := ite_t jc3 hf
    refine lv_iconst (v := -1) hx hb dX10_chance_28 (by decide) ?_
    obtain ⟨rfl, rfl, rfl, rfl, rfl⟩ := pr5_inv hf
    exact retM hx hb hr hlk hP hD hS dX10_chance_29
  · have hf := ite_f jc3 hf
    refine lv_iload_n hx hb dX10_chance_10 rfl (lv_at hl 2 rfl) ?_
    refine lv_iconst (v := 0) hx hb dX10_chance_11 (by decide) ?_
    refine lv_iconst (v := 1) hx hb dX10_chance_12 (by decide) ?_
    obtain ⟨jr4, je5, hf⟩ := bd1_inv hf
    refine callRS (As := [.int jx2, .int (0 : Int32), .int (1 : Int32)]) (rest := []) S (ctX10_isWithin l D cI cZ jx2 (0 : Int32) (1 : Int32) jr4 je5) (va_cwS 3 hts gX10_chance_X10_isWithin rfl rfl rfl hdX10_isWithin ⟨Nat.le_of_ble_eq_true rfl, Nat.le_of_ble_eq_true rfl⟩) hP [] rfl KX.xs (fun U _ hW => hK.warm hW) rfl hl.1 rfl (Nat.le_of_ble_eq_true rfl) dX10_chance_13 ⟨Nat.zero_le _, Nat.zero_le _⟩ ?_
    refine lv_if_eq (tgt := 28) hx hb dX10_chance_16 (by decide) (fun jc6 => ?_) (fun jc6 => ?_)
    · have hf := ite_t jc6 hf
      refine lv_iconst (v := -1) hx hb dX10_chance_28 (by decide) ?_
      obtain ⟨rfl, rfl, rfl, rfl, rfl⟩ := pr5_inv hf
      exact retM hx hb hr hlk hP hD hS dX10_chance_29
    · have hf := ite_f jc6 hf
      refine lv_iload_n hx hb dX10_chance_19 rfl (lv_at hl 3 rfl) ?_
      refine lv_iconst (v := 0) hx hb dX10_chance_20 (by decide) ?_
      refine lv_iconst (v := 1) hx hb dX10_chance_21 (by decide) ?_
      obtain ⟨jr7, je8, hf⟩ := bd1_inv hf
      refine callRS (As := [.int jx3, .int (0 : Int32), .int (1 : Int32)]) (rest := []) S (ctX10_isWithin l D cI cZ jx3 (0 : Int32) (1 : Int32) jr7 je8) (va_cwS 3 hts gX10_chance_X10_isWithin rfl rfl rfl hdX10_isWithin ⟨Nat.le_of_ble_eq_true rfl, Nat.le_of_ble_eq_true rfl⟩) hP [] rfl KX.xs (fun U _ hW => hK.warm hW) rfl hl.1 rfl (Nat.le_of_ble_eq_true rfl) dX10_chance_22 ⟨Nat.zero_le _, Nat.zero_le _⟩ ?_
      refine lv_if_ne (tgt := 30) hx hb dX10_chance_25 (by decide) (fun jc9 => ?_) (fun jc9 => ?_)
      · have hf := ite_f jc9 hf
        refine lv_aload_n hx hb dX10_chance_30 rfl (lv_at hl 0 rfl) ?_
        refine va_get (D := D) (ci := 10) (v := .ref a_t_chances) (C := RX10) (T := TX10) (N := 10) hx hb hts iX10_chance_X10 hown hK.1 hP 0 rfl rfl 7 (by decide) (hts _ mX10_chance_1) (fun _ h9 => h9) rfl dX10_chance_31 ?_
        obtain ⟨jg10, jg11, je12, hf⟩ := bd2_inv hf
        refine callMV (As := []) (rest := []) (wr := [(a_t, .inr (10, [.ref a_t_text, .ref a_t_telling, .ref a_t_now, .ref a_t_past, .ref a_t_images, .ref a_t_meeting, .ref a_t_seen, .ref a_t_chances, .ref a_t_search, .int v_t_valueRead])), (a_t_now, .inr (7, [.ref a_t_now_row])), (a_t_now_row, .inl (cI, 104, .inl v_t_now_row))]) (wn := [(a_t, .inr (10, [.ref a_t_text, .ref a_t_telling, .ref a_t_now, .ref a_t_past, .ref a_t_images, .ref a_t_meeting, .ref a_t_seen, .ref a_t_chances, .ref a_t_search, .int v_t_valueRead])), (a_t_now, .inr (7, [.ref a_t_now_row])), (a_t_now_row, .inl (cI, 104, .inl v_t_now_row)), (a_t_chances, .inr (0, [.ref a_t_chances_likely, .int jg10, .int v_t_chances_upper, .int v_t_chances_lower])), (a_t_chances_likely, .inl (cI, 31, .inl jg11))]) S (ctX0_begin l D cI cZ a_t_chances a_t_chances_likely v_t_chances_total v_t_chances_likely v_t_chances_upper v_t_chances_lower jg10 jg11 je12) (cwV 0 hts gX10_chance_X0_begin rfl rfl rfl ⟨rfl, hdX0_begin⟩ ⟨Nat.le_of_ble_eq_true rfl, Nat.le_of_ble_eq_true rfl⟩) hP hD hS hA [3, 4] [0, 1, 2] [0, 1, 2, 3, 4] rfl rfl (by decide) (by decide) (by decide) (by decide) rfl KX.xs (fun U _ hW => hK.warm hW) (va_recv hK.1 hP (ci := 0) (q0 := 3) rfl rfl) rfl hl.1 rfl (Nat.le_of_ble_eq_true rfl) dX10_chance_34 ⟨Nat.zero_le _, Nat.zero_le _⟩ (fun H locs hP hD hS => ?_)
        refine W.eq (g2 := F0 m 37 ls []) rfl ?_
        refine lv_iconst (v := 0) hx hb dX10_chance_37 (by decide) ?_
        refine lv_istore (lv' := [(4, .int (0 : Int32)), (0, .ref a_t), (1, .int jx1), (2, .int jx2), (3, .int jx3)]) hx hb dX10_chance_38 hl (by decide) rfl (fun ls hl => ?_)
        exact wX10_chance_40 S hr hlk hK hA fuel (0 : Int32) jg10 v_t_chances_upper v_t_chances_lower jg11 ls _ _ hf (lv_sub hl [1, 2, 3, 4, 0] rfl) hP hD hS
      · have hf := ite_t jc9 hf
        refine lv_iconst (v := -1) hx hb dX10_chance_28 (by decide) ?_
        obtain ⟨rfl, rfl, rfl, rfl, rfl⟩ := pr5_inv hf
        exact retM hx hb hr hlk hP hD hS dX10_chance_29
def fX10_least_36 (jx2 : Int32) (v_t_now_row : (Nat → Int32)) : Nat → Int32 → Int32 → Int32 → Option (Int32)
  | 0, _, _, _ => none
  | n + 1, jx3, jx4, jx5 => bd1 (fX7_sets v_t_now_row) (fun jr1 => if jr1 ≤ jx5 then some jx4 else bd1 (fJ6_bitCount_0f7a4 jx5) (fun jr4 => if jx3 ≤ jr4 then (fX10_least_36 jx2 v_t_now_row n) jx3 jx4 (jx5 + (1 : Int32)) else bd1 (fX7_newest v_t_now_row) (fun jr7 => bd1 (fX7_votesOfSet jr7 jx5 v_t_now_row) (fun jr9 => if jr9 < jx2 then (fX10_least_36 jx2 v_t_now_row n) jx3 jx4 (jx5 + (1 : Int32)) else (fX10_least_36 jx2 v_t_now_row n) jr4 jx5 (jx5 + (1 : Int32))))))
theorem fX10_least_36_s (jx2 : Int32) (v_t_now_row : (Nat → Int32)) (n : Nat) (jx3 : Int32) (jx4 : Int32) (jx5 : Int32) : fX10_least_36 jx2 v_t_now_row (n + 1) jx3 jx4 jx5 = bd1 (fX7_sets v_t_now_row) (fun jr1 => if jr1 ≤ jx5 then some jx4 else bd1 (fJ6_bitCount_0f7a4 jx5) (fun jr4 => if jx3 ≤ jr4 then (fX10_least_36 jx2 v_t_now_row n) jx3 jx4 (jx5 + (1 : Int32)) else bd1 (fX7_newest v_t_now_row) (fun jr7 => bd1 (fX7_votesOfSet jr7 jx5 v_t_now_row) (fun jr9 => if jr9 < jx2 then (fX10_least_36 jx2 v_t_now_row n) jx3 jx4 (jx5 + (1 : Int32)) else (fX10_least_36 jx2 v_t_now_row n) jr4 jx5 (jx5 + (1 : Int32)))))) := rfl
def fX10_least (jx1 : Int32) (v_t_now_row : (Nat → Int32)) : Option (Int32) := bd1 (fX10_isWithin jx1 (0 : Int32) (1 : Int32)) (fun jr1 => if jr1 = 0 then some (-1 : Int32) else bd1 (fX7_newest v_t_now_row) (fun jr4 => bd1 (fX7_need jr4 jx1 v_t_now_row) (fun jr6 => fX10_least_36 jr6 v_t_now_row fuel (7 : Int32) (0 : Int32) (0 : Int32))))
abbrev rmX10_least : Room := { frames := 2, cells := 0, slots := 0, locals := 46 }
theorem iX10_least_X10 : ∀ w ∈ wsX100, w ∈ wsX10_least := fun _ h => List.mem_cons_of_mem _ (List.mem_append_left _ (List.mem_append_right _ h))
theorem mX10_least_1 : (Cond.fieldLink RX10 28 "VoteFiles" "now" "LVoteFiles$Shape;") ∈ wsX10_least := List.mem_of_getElem? (i := 1) rfl
set_option maxHeartbeats 4000000 in
set_option maxRecDepth 100000 in
theorem wX10_least_36 {p : Program} {l : Launch} {e : Env} {s : State} {m : MethodId} {args : Array Value} {below : List Frame} {meth : Method} {c : Code} {D : va_G} {cI cZ : ClassId} (S : CallFix p m c cX10_least 7 s args wsX10_least RX10) (hr : meth.sig.returnType = some .int) (hlk : meth.locks = false) (hK : KX D cI cZ s) {a_t a_t_text a_t_telling a_t_now a_t_past a_t_images a_t_meeting a_t_seen a_t_chances a_t_search a_t_now_row : Nat} {jx2 : Int32} {v_t_now_row : (Nat → Int32)} {v_t_valueRead : Int32} {r : Int32} (hP : va_P D vwCl [(a_t, .inr (10, [.ref a_t_text, .ref a_t_telling, .ref a_t_now, .ref a_t_past, .ref a_t_images, .ref a_t_meeting, .ref a_t_seen, .ref a_t_chances, .ref a_t_search, .int v_t_valueRead])), (a_t_now, .inr (7, [.ref a_t_now_row])), (a_t_now_row, .inl (cI, 104, .inl v_t_now_row))] s.heap) : ∀ (n : Nat), ∀ (jx3 : Int32) (jx4 : Int32) (jx5 : Int32) (ls : Array Slot), fX10_least_36 jx2 v_t_now_row n jx3 jx4 jx5 = some r → lv_has ls 7 [(0, .ref a_t), (2, .int jx2), (3, .int jx3), (4, .int jx4), (5, .int jx5)] → W p l e rmX10_least s m args below meth c s.heap [] 0 0 (MQ below (QcRead r) args s 0 0 (fun _ => False)) (F0 m 36 ls []) := by
  obtain ⟨hx, hb, hml, hown, hts⟩ := id S
  intro n
  induction n with
  | zero =>
    intro jx3 jx4 jx5 ls hf hl
    cases (show (none : Option _) = some _ from hf)
  | succ n ih =>
    intro jx3 jx4 jx5 ls hf hl
    have hf := (fX10_least_36_s _ _ n _ _ _).symm.trans hf
    refine lv_iload hx hb dX10_least_36 (lv_at hl 4 rfl) ?_
    refine lv_aload_n hx hb dX10_least_38 rfl (lv_at hl 0 rfl) ?_
    refine va_get (D := D) (ci := 10) (v := .ref a_t_now) (C := RX10) (T := TX10) (N := 10) hx hb hts iX10_least_X10 hown hK.1 hP 0 rfl rfl 2 (by decide) (hts _ mX10_least_1) (fun _ h9 => h9) rfl dX10_least_39 ?_
    obtain ⟨jr1, je2, hf⟩ := bd1_inv hf
    refine callRV (As := []) (rest := [.int jx5]) S (ctX7_sets l D cI cZ a_t_now a_t_now_row v_t_now_row jr1 je2) (cwV 0 hts gX10_least_X7_sets rfl rfl rfl ⟨rfl, hdX7_sets⟩ ⟨Nat.le_of_ble_eq_true rfl, Nat.le_of_ble_eq_true rfl⟩) hP [1, 2] rfl KX.xs (fun U _ hW => hK.warm hW) (va_recv hK.1 hP (ci := 7) (q0 := 1) rfl rfl) rfl hl.1 rfl (Nat.le_of_ble_eq_true rfl) dX10_least_42 ⟨Nat.zero_le _, Nat.zero_le _⟩ ?_
    refine lv_icmp_ge (tgt := 94) hx hb dX10_least_45 (by decide) (fun jc3 => ?_) (fun jc3 => ?_)
    · have hf := ite_t jc3 hf
      refine lv_iload hx hb dX10_least_94 (lv_at hl 3 rfl) ?_
      obtain rfl := Option.some.inj hf
      exact retR hx hb hr hlk dX10_least_96
    · have hf := ite_f jc3 hf
      refine lv_iload hx hb dX10_least_48 (lv_at hl 4 rfl) ?_
      obtain ⟨jr4, je5, hf⟩ := bd1_inv hf
      refine callRS (As := [.int jx5]) (rest := []) S (ctJ6_bitCount_0f7a4 l D cI cZ jx5 jr4 je5) (va_cwS 1 hts gX10_least_J6_bitCount_0f7a4 rfl rfl rfl hdJ6_bitCount_0f7a4 ⟨Nat.le_of_ble_eq_true rfl, Nat.le_of_ble_eq_true rfl⟩) hP [] rfl KX.xs (fun U _ hW => hK.warm hW) rfl hl.1 rfl (Nat.le_of_ble_eq_true rfl) dX10_least_50 ⟨Nat.zero_le _, Nat.zero_le _⟩ ?_
      refine lv_istore (lv' := [(6, .int jr4), (0, .ref a_t), (2, .int jx2), (3, .int jx3), (4, .int jx4), (5, .int jx5)]) hx hb dX10_least_53 hl (by decide) rfl (fun ls hl => ?_)
      refine lv_iload hx hb dX10_least_55 (lv_at hl 0 rfl) ?_
      refine lv_iload_n hx hb dX10_least_57 rfl (lv_at hl 3 rfl) ?_
      refine lv_icmp_ge (tgt := 88) hx hb dX10_least_58 (by decide) (fun jc6 => ?_) (fun jc6 => ?_)
      · have hf := ite_t jc6 hf
        refine lv_iinc (v := (jx5 + (1 : Int32))) (lv' := [(5, .int (jx5 + (1 : Int32))), (6, .int jr4), (0, .ref a_t), (2, .int jx2), (3, .int jx3), (4, .int jx4)]) hx hb dX10_least_88 hl (k := 5) rfl rfl (by decide) rfl (fun ls hl => ?_)
        refine lv_goto (tgt := 36) hx hb dX10_least_91 (by decide) ?_
        exact ih jx3 jx4 (jx5 + (1 : Int32)) ls hf (lv_sub hl [2, 3, 4, 5, 0] rfl)
      · have hf := ite_f jc6 hf
        refine lv_aload_n hx hb dX10_least_61 rfl (lv_at hl 1 rfl) ?_
        refine va_get (D := D) (ci := 10) (v := .ref a_t_now) (C := RX10) (T := TX10) (N := 10) hx hb hts iX10_least_X10 hown hK.1 hP 0 rfl rfl 2 (by decide) (hts _ mX10_least_1) (fun _ h9 => h9) rfl dX10_least_62 ?_
        refine lv_aload_n hx hb dX10_least_65 rfl (lv_at hl 1 rfl) ?_
        refine va_get (D := D) (ci := 10) (v := .ref a_t_now) (C := RX10) (T := TX10) (N := 10) hx hb hts iX10_least_X10 hown hK.1 hP 0 rfl rfl 2 (by decide) (hts _ mX10_least_1) (fun _ h9 => h9) rfl dX10_least_66 ?_
        obtain ⟨jr7, je8, hf⟩ := bd1_inv hf
        refine callRV (As := []) (rest := [.ref a_t_now]) S (ctX7_newest l D cI cZ a_t_now a_t_now_row v_t_now_row jr7 je8) (cwV 0 hts gX10_least_X7_newest rfl rfl rfl ⟨rfl, hdX7_newest⟩ ⟨Nat.le_of_ble_eq_true rfl, Nat.le_of_ble_eq_true rfl⟩) hP [1, 2] rfl KX.xs (fun U _ hW => hK.warm hW) (va_recv hK.1 hP (ci := 7) (q0 := 1) rfl rfl) rfl hl.1 rfl (Nat.le_of_ble_eq_true rfl) dX10_least_69 ⟨Nat.zero_le _, Nat.zero_le _⟩ ?_
        refine lv_iload hx hb dX10_least_72 (lv_at hl 5 rfl) ?_
        obtain ⟨jr9, je10, hf⟩ := bd1_inv hf
        refine callRV (As := [.int jr7, .int jx5]) (rest := []) S (ctX7_votesOfSet l D cI cZ a_t_now a_t_now_row jr7 jx5 v_t_now_row jr9 je10) (cwV 2 hts gX10_least_X7_votesOfSet rfl rfl rfl ⟨rfl, hdX7_votesOfSet⟩ ⟨Nat.le_of_ble_eq_true rfl, Nat.le_of_ble_eq_true rfl⟩) hP [1, 2] rfl KX.xs (fun U _ hW => hK.warm hW) (va_recv hK.1 hP (ci := 7) (q0 := 1) rfl rfl) rfl hl.1 rfl (Nat.le_of_ble_eq_true rfl) dX10_least_74 ⟨Nat.zero_le _, Nat.zero_le _⟩ ?_
        refine lv_iload_n hx hb dX10_least_77 rfl (lv_at hl 2 rfl) ?_
        refine lv_icmp_lt (tgt := 88) hx hb dX10_least_78 (by decide) (fun jc11 => ?_) (fun jc11 => ?_)
        · have hf := ite_t jc11 hf
          refine lv_iinc (v := (jx5 + (1 : Int32))) (lv' := [(5, .int (jx5 + (1 : Int32))), (6, .int jr4), (0, .ref a_t), (2, .int jx2), (3, .int jx3), (4, .int jx4)]) hx hb dX10_least_88 hl (k := 5) rfl rfl (by decide) rfl (fun ls hl => ?_)
          refine lv_goto (tgt := 36) hx hb dX10_least_91 (by decide) ?_
          exact ih jx3 jx4 (jx5 + (1 : Int32)) ls hf (lv_sub hl [2, 3, 4, 5, 0] rfl)
        · have hf := ite_f jc11 hf
          refine lv_iload hx hb dX10_least_81 (lv_at hl 0 rfl) ?_
          refine lv_istore_n (lv' := [(3, .int jr4), (6, .int jr4), (0, .ref a_t), (2, .int jx2), (4, .int jx4), (5, .int jx5)]) hx hb dX10_least_83 rfl hl (by decide) rfl (fun ls hl => ?_)
          refine lv_iload hx hb dX10_least_84 (lv_at hl 5 rfl) ?_
          refine lv_istore (lv' := [(4, .int jx5), (3, .int jr4), (6, .int jr4), (0, .ref a_t), (2, .int jx2), (5, .int jx5)]) hx hb dX10_least_86 hl (by decide) rfl (fun ls hl => ?_)
          refine lv_iinc (v := (jx5 + (1 : Int32))) (lv' := [(5, .int (jx5 + (1 : Int32))), (4, .int jx5), (3, .int jr4), (6, .int jr4), (0, .ref a_t), (2, .int jx2)]) hx hb dX10_least_88 hl (k := 5) rfl rfl (by decide) rfl (fun ls hl => ?_)
          refine lv_goto (tgt := 36) hx hb dX10_least_91 (by decide) ?_
          exact ih jr4 jx5 (jx5 + (1 : Int32)) ls hf (lv_sub hl [4, 5, 2, 1, 0] rfl)
theorem hdX10_least : yX10_least.cls ≠ "java/lang/invoke/MethodHandle" ∧ yX10_least.cls ≠ "java/lang/invoke/VarHandle" ∧ (parseMethodDescriptor yX10_least.desc).map (fun d => d.parameters.length) = some 1 := by decide +kernel
set_option maxHeartbeats 4000000 in
set_option maxRecDepth 100000 in
theorem ctX10_least (l : Launch) (D : va_G) (cI cZ : ClassId) (a_t a_t_text a_t_telling a_t_now a_t_past a_t_images a_t_meeting a_t_seen a_t_chances a_t_search a_t_now_row : Nat) (jx1 : Int32) (v_t_now_row : (Nat → Int32)) (v_t_valueRead : Int32) (r : Int32) (hf : fX10_least jx1 v_t_now_row = some r) : cR l yX10_least wsX10_least rmX10_least [.ref a_t, .int jx1] D [(a_t, .inr (10, [.ref a_t_text, .ref a_t_telling, .ref a_t_now, .ref a_t_past, .ref a_t_images, .ref a_t_meeting, .ref a_t_seen, .ref a_t_chances, .ref a_t_search, .int v_t_valueRead])), (a_t_now, .inr (7, [.ref a_t_now_row])), (a_t_now_row, .inl (cI, 104, .inl v_t_now_row))] (KX D cI cZ) r := by
  refine cR_of (cc := cX10_least) (maxL := 7) (ret := some .int) (by decide +kernel) rfl _ (Nat.le_of_ble_eq_true rfl) ?_
  intro p e s m below meth c ls S hr hlk hP hK hl
  obtain ⟨hx, hb, hml, hown, hts⟩ := id S
  have hl : lv_has ls 7 [(0, .ref a_t), (1, .int jx1)] := hl
  unfold fX10_least at hf
  refine lv_iload_n hx hb dX10_least_0 rfl (lv_at hl 1 rfl) ?_
  refine lv_iconst (v := 0) hx hb dX10_least_1 (by decide) ?_
  refine lv_iconst (v := 1) hx hb dX10_least_2 (by decide) ?_
  obtain ⟨jr1, je2, hf⟩ := bd1_inv hf
  refine callRS (As := [.int jx1, .int (0 : Int32), .int (1 : Int32)]) (rest := []) S (ctX10_isWithin l D cI cZ jx1 (0 : Int32) (1 : Int32) jr1 je2) (va_cwS 3 hts gX10_least_X10_isWithin rfl rfl rfl hdX10_isWithin ⟨Nat.le_of_ble_eq_true rfl, Nat.le_of_ble_eq_true rfl⟩) hP [] rfl KX.xs (fun U _ hW => hK.warm hW) rfl hl.1 rfl (Nat.le_of_ble_eq_true rfl) dX10_least_3 ⟨Nat.zero_le _, Nat.zero_le _⟩ ?_
  refine lv_if_ne (tgt := 11) hx hb dX10_least_6 (by decide) (fun jc3 => ?_) (fun jc3 => ?_)
  · have hf := ite_f jc3 hf
    refine lv_aload_n hx hb dX10_least_11 rfl (lv_at hl 0 rfl) ?_
    refine va_get (D := D) (ci := 10) (v := .ref a_t_now) (C := RX10) (T := TX10) (N := 10) hx hb hts iX10_least_X10 hown hK.1 hP 0 rfl rfl 2 (by decide) (hts _ mX10_least_1) (fun _ h9 => h9) rfl dX10_least_12 ?_
    refine lv_aload_n hx hb dX10_least_15 rfl (lv_at hl 0 rfl) ?_
    refine va_get (D := D) (ci := 10) (v := .ref a_t_now) (C := RX10) (T := TX10) (N := 10) hx hb hts iX10_least_X10 hown hK.1 hP 0 rfl rfl 2 (by decide) (hts _ mX10_least_1) (fun _ h9 => h9) rfl dX10_least_16 ?_
    obtain ⟨jr4, je5, hf⟩ := bd1_inv hf
    refine callRV (As := []) (rest := [.ref a_t_now]) S (ctX7_newest l D cI cZ a_t_now a_t_now_row v_t_now_row jr4 je5) (cwV 0 hts gX10_least_X7_newest rfl rfl rfl ⟨rfl, hdX7_newest⟩ ⟨Nat.le_of_ble_eq_true rfl, Nat.le_of_ble_eq_true rfl⟩) hP [1, 2] rfl KX.xs (fun U _ hW => hK.warm hW) (va_recv hK.1 hP (ci := 7) (q0 := 1) rfl rfl) rfl hl.1 rfl (Nat.le_of_ble_eq_true rfl) dX10_least_19 ⟨Nat.zero_le _, Nat.zero_le _⟩ ?_
    refine lv_iload_n hx hb dX10_least_22 rfl (lv_at hl 1 rfl) ?_
    obtain ⟨jr6, je7, hf⟩ := bd1_inv hf
    refine callRV (As := [.int jr4, .int jx1]) (rest := []) S (ctX7_need l D cI cZ a_t_now a_t_now_row jr4 jx1 v_t_now_row jr6 je7) (cwV 2 hts gX10_least_X7_need rfl rfl rfl ⟨rfl, hdX7_need⟩ ⟨Nat.le_of_ble_eq_true rfl, Nat.le_of_ble_eq_true rfl⟩) hP [1, 2] rfl KX.xs (fun U _ hW => hK.warm hW) (va_recv hK.1 hP (ci := 7) (q0 := 1) rfl rfl) rfl hl.1 rfl (Nat.le_of_ble_eq_true rfl) dX10_least_23 ⟨Nat.zero_le _, Nat.zero_le _⟩ ?_
    refine lv_istore_n (lv' := [(2, .int jr6), (0, .ref a_t), (1, .int jx1)]) hx hb dX10_least_26 rfl hl (by decide) rfl (fun ls hl => ?_)
    refine lv_bipush (v := 7) hx hb dX10_least_27 (by decide) ?_
    refine lv_istore_n (lv' := [(3, .int (7 : Int32)), (2, .int jr6), (0, .ref a_t), (1, .int jx1)]) hx hb dX10_least_29 rfl hl (by decide) rfl (fun ls hl => ?_)
    refine lv_iconst (v := 0) hx hb dX10_least_30 (by decide) ?_
    refine lv_istore (lv' := [(4, .int (0 : Int32)), (3, .int (7 : Int32)), (2, .int jr6), (0, .ref a_t), (1, .int jx1)]) hx hb dX10_least_31 hl (by decide) rfl (fun ls hl => ?_)
    refine lv_iconst (v := 0) hx hb dX10_least_33 (by decide) ?_
    refine lv_istore (lv' := [(5, .int (0 : Int32)), (4, .int (0 : Int32)), (3, .int (7 : Int32)), (2, .int jr6), (0, .ref a_t), (1, .int jx1)]) hx hb dX10_least_34 hl (by decide) rfl (fun ls hl => ?_)
    exact wX10_least_36 S hr hlk hK hP fuel (7 : Int32) (0 : Int32) (0 : Int32) ls hf (lv_sub hl [4, 3, 2, 1, 0] rfl)
  · have hf := ite_t jc3 hf
    refine lv_iconst (v := -1) hx hb dX10_least_9 (by decide) ?_
    obtain rfl := Option.some.inj hf
    exact retR hx hb hr hlk dX10_least_10
def fX10_best (jx1 : Int32) (jx2 : Int32) (jx3 : Int32) (v_t_now_row : (Nat → Int32)) (v_t_chances_total : Int32) (v_t_chances_likely : (Nat → Int32)) (v_t_search_much : Int32) (v_t_search_votes : Int32) (v_t_search_write : Int32) : Option (Int32 × Int32 × (Nat → Int32) × Int32 × Int32 × Int32) := bd1 (fX10_isWithin jx1 (0 : Int32) (10 : Int32)) (fun jr1 => if jr1 = 0 then some ((-1 : Int32), v_t_chances_total, v_t_chances_likely, v_t_search_much, v_t_search_votes, v_t_search_write) else bd1 (fX10_isWithin jx2 (0 : Int32) (10 : Int32)) (fun jr4 => if jr4 = 0 then some ((-1 : Int32), v_t_chances_total, v_t_chances_likely, v_t_search_much, v_t_search_votes, v_t_search_write) else bd1 (fX10_isWithin jx3 (0 : Int32) (2 : Int32)) (fun jr7 => if jr7 = 0 then some ((-1 : Int32), v_t_chances_total, v_t_chances_likely, v_t_search_much, v_t_search_votes, v_t_search_write) else bd1 (fX7_copies v_t_now_row) (fun jr10 => if jr10 = 0 then some ((-9 : Int32), v_t_chances_total, v_t_chances_likely, v_t_search_much, v_t_search_votes, v_t_search_write) else bd1 (fX7_copies v_t_now_row) (fun jr13 => bd5 (fX5_run jr13 jx1 jx2 v_t_search_much v_t_search_votes v_t_search_write v_t_chances_total v_t_chances_likely) (fun jg15 jg16 jg17 jg18 jg19 => if jx3 = 0 then some (jg15, jg18, jg19, jg15, jg16, jg17) else if jx3 = (1 : Int32) then some (jg16, jg18, jg19, jg15, jg16, jg17) else some (jg17, jg18, jg19, jg15, jg16, jg17)))))))
abbrev rmX10_best : Room := { frames := 4, cells := 0, slots := 0, locals := 96 }
theorem iX10_best_X10 : ∀ w ∈ wsX100, w ∈ wsX10_best := fun _ h => List.mem_cons_of_mem _ (List.mem_append_left _ (List.mem_append_left _ (List.mem_append_left _ (List.mem_append_right _ h))))
theorem mX10_best_1 : (Cond.fieldLink RX10 28 "VoteFiles" "now" "LVoteFiles$Shape;") ∈ wsX10_best := List.mem_of_getElem? (i := 1) rfl
theorem mX10_best_2 : (Cond.fieldLink RX10 70 "VoteFiles" "search" "LVoteFiles$Search;") ∈ wsX10_best := List.mem_of_getElem? (i := 2) rfl
theorem mX10_best_3 : (Cond.fieldLink RX10 63 "VoteFiles" "chances" "LVoteFiles$Chances;") ∈ wsX10_best := List.mem_of_getElem? (i := 3) rfl
theorem iX10_best_X5 : ∀ w ∈ wsX50, w ∈ wsX10_best := fun _ h => List.mem_cons_of_mem _ (List.mem_append_left _ (List.mem_append_left _ (List.mem_append_right _ h)))
theorem mX10_best_6 : (Cond.fieldLink RX10 253 "VoteFiles$Search" "write" "I") ∈ wsX10_best := List.mem_of_getElem? (i := 6) rfl
theorem mX10_best_5 : (Cond.fieldLink RX10 252 "VoteFiles$Search" "votes" "I") ∈ wsX10_best := List.mem_of_getElem? (i := 5) rfl
theorem mX10_best_4 : (Cond.fieldLink RX10 249 "VoteFiles$Search" "much" "I") ∈ wsX10_best := List.mem_of_getElem? (i := 4) rfl
theorem hdX10_best : yX10_best.cls ≠ "java/lang/invoke/MethodHandle" ∧ yX10_best.cls ≠ "java/lang/invoke/VarHandle" ∧ (parseMethodDescriptor yX10_best.desc).map (fun d => d.parameters.length) = some 3 := by decide +kernel
set_option maxHeartbeats 4000000 in
set_option maxRecDepth 100000 in
theorem ctX10_best (l : Launch) (D : va_G) (cI cZ : ClassId) (a_t a_t_text a_t_telling a_t_now a_t_past a_t_images a_t_meeting a_t_seen a_t_chances a_t_search a_t_now_row a_t_chances_likely : Nat) (jx1 : Int32) (jx2 : Int32) (jx3 : Int32) (v_t_now_row : (Nat → Int32)) (v_t_chances_total : Int32) (v_t_chances_likely : (Nat → Int32)) (v_t_search_much : Int32) (v_t_search_votes : Int32) (v_t_search_write : Int32) (v_t_valueRead : Int32) (v_t_chances_upper : Int32) (v_t_chances_lower : Int32) (r : Int32) (o_t_chances_total : Int32) (o_t_chances_likely : (Nat → Int32)) (o_t_search_much : Int32) (o_t_search_votes : Int32) (o_t_search_write : Int32) (hf : fX10_best jx1 jx2 jx3 v_t_now_row v_t_chances_total v_t_chances_likely v_t_search_much v_t_search_votes v_t_search_write = some (r, o_t_chances_total, o_t_chances_likely, o_t_search_much, o_t_search_votes, o_t_search_write)) : cM l yX10_best wsX10_best rmX10_best [.ref a_t, .int jx1, .int jx2, .int jx3] D [(a_t, .inr (10, [.ref a_t_text, .ref a_t_telling, .ref a_t_now, .ref a_t_past, .ref a_t_images, .ref a_t_meeting, .ref a_t_seen, .ref a_t_chances, .ref a_t_search, .int v_t_valueRead])), (a_t_now, .inr (7, [.ref a_t_now_row])), (a_t_now_row, .inl (cI, 104, .inl v_t_now_row)), (a_t_chances, .inr (0, [.ref a_t_chances_likely, .int v_t_chances_total, .int v_t_chances_upper, .int v_t_chances_lower])), (a_t_chances_likely, .inl (cI, 31, .inl v_t_chances_likely)), (a_t_search, .inr (5, [.int v_t_search_much, .int v_t_search_votes, .int v_t_search_write]))] [(a_t, .inr (10, [.ref a_t_text, .ref a_t_telling, .ref a_t_now, .ref a_t_past, .ref a_t_images, .ref a_t_meeting, .ref a_t_seen, .ref a_t_chances, .ref a_t_search, .int v_t_valueRead])), (a_t_now, .inr (7, [.ref a_t_now_row])), (a_t_now_row, .inl (cI, 104, .inl v_t_now_row)), (a_t_chances, .inr (0, [.ref a_t_chances_likely, .int o_t_chances_total, .int v_t_chances_upper, .int v_t_chances_lower])), (a_t_chances_likely, .inl (cI, 31, .inl o_t_chances_likely)), (a_t_search, .inr (5, [.int o_t_search_much, .int o_t_search_votes, .int o_t_search_write]))] (KX D cI cZ) (some (.int r)) := by
  refine cM_of (cc := cX10_best) (maxL := 4) (ret := some .int) (by decide +kernel) rfl _ (Nat.le_of_ble_eq_true rfl) ?_
  intro p e s m below meth c ls A S hr hlk hP hK hl hD hA hS
  obtain ⟨hx, hb, hml, hown, hts⟩ := id S
  have hl : lv_has ls 4 [(0, .ref a_t), (1, .int jx1), (2, .int jx2), (3, .int jx3)] := hl
  unfold fX10_best at hf
  refine lv_iload_n hx hb dX10_best_0 rfl (lv_at hl 1 rfl) ?_
  refine lv_iconst (v := 0) hx hb dX10_best_1 (by decide) ?_
  refine lv_bipush (v := 10) hx hb dX10_best_2 (by decide) ?_
  obtain ⟨jr1, je2, hf⟩ := bd1_inv hf
  refine callRS (As := [.int jx1, .int (0 : Int32), .int (10 : Int32)]) (rest := []) S (ctX10_isWithin l D cI cZ jx1 (0 : Int32) (10 : Int32) jr1 je2) (va_cwS 3 hts gX10_best_X10_isWithin rfl rfl rfl hdX10_isWithin ⟨Nat.le_of_ble_eq_true rfl, Nat.le_of_ble_eq_true rfl⟩) hP [] rfl KX.xs (fun U _ hW => hK.warm hW) rfl hl.1 rfl (Nat.le_of_ble_eq_true rfl) dX10_best_4 ⟨Nat.zero_le _, Nat.zero_le _⟩ ?_
  refine lv_if_eq (tgt := 29) hx hb dX10_best_7 (by decide) (fun jc3 => ?_) (fun jc3 => ?_)
  · have hf := ite_t jc3 hf
    refine lv_iconst (v := -1) hx hb dX10_best_29 (by decide) ?_
    obtain ⟨rfl, rfl, rfl, rfl, rfl, rfl⟩ := pr6_inv hf
    exact retM hx hb hr hlk hP hD hS dX10_best_30
  · have hf := ite_f jc3 hf
    refine lv_iload_n hx hb dX10_best_10 rfl (lv_at hl 2 rfl) ?_
    refine lv_iconst (v := 0) hx hb dX10_best_11 (by decide) ?_
    refine lv_bipush (v := 10) hx hb dX10_best_12 (by decide) ?_
    obtain ⟨jr4, je5, hf⟩ := bd1_inv hf
    refine callRS (As := [.int jx2, .int (0 : Int32), .int (10 : Int32)]) (rest := []) S (ctX10_isWithin l D cI cZ jx2 (0 : Int32) (10 : Int32) jr4 je5) (va_cwS 3 hts gX10_best_X10_isWithin rfl rfl rfl hdX10_isWithin ⟨Nat.le_of_ble_eq_true rfl, Nat.le_of_ble_eq_true rfl⟩) hP [] rfl KX.xs (fun U _ hW => hK.warm hW) rfl hl.1 rfl (Nat.le_of_ble_eq_true rfl) dX10_best_14 ⟨Nat.zero_le _, Nat.zero_le _⟩ ?_
    refine lv_if_eq (tgt := 29) hx hb dX10_best_17 (by decide) (fun jc6 => ?_) (fun jc6 => ?_)
    · have hf := ite_t jc6 hf
      refine lv_iconst (v := -1) hx hb dX10_best_29 (by decide) ?_
      obtain ⟨rfl, rfl, rfl, rfl, rfl, rfl⟩ := pr6_inv hf
      exact retM hx hb hr hlk hP hD hS dX10_best_30
    · have hf := ite_f jc6 hf
      refine lv_iload_n hx hb dX10_best_20 rfl (lv_at hl 3 rfl) ?_
      refine lv_iconst (v := 0) hx hb dX10_best_21 (by decide) ?_
      refine lv_iconst (v := 2) hx hb dX10_best_22 (by decide) ?_
      obtain ⟨jr7, je8, hf⟩ := bd1_inv hf
      refine callRS (As := [.int jx3, .int (0 : Int32), .int (2 : Int32)]) (rest := []) S (ctX10_isWithin l D cI cZ jx3 (0 : Int32) (2 : Int32) jr7 je8) (va_cwS 3 hts gX10_best_X10_isWithin rfl rfl rfl hdX10_isWithin ⟨Nat.le_of_ble_eq_true rfl, Nat.le_of_ble_eq_true rfl⟩) hP [] rfl KX.xs (fun U _ hW => hK.warm hW) rfl hl.1 rfl (Nat.le_of_ble_eq_true rfl) dX10_best_23 ⟨Nat.zero_le _, Nat.zero_le _⟩ ?_
      refine lv_if_ne (tgt := 31) hx hb dX10_best_26 (by decide) (fun jc9 => ?_) (fun jc9 => ?_)
      · have hf := ite_f jc9 hf
        refine lv_aload_n hx hb dX10_best_31 rfl (lv_at hl 0 rfl) ?_
        refine va_get (D := D) (ci := 10) (v := .ref a_t_now) (C := RX10) (T := TX10) (N := 10) hx hb hts iX10_best_X10 hown hK.1 hP 0 rfl rfl 2 (by decide) (hts _ mX10_best_1) (fun _ h9 => h9) rfl dX10_best_32 ?_
        obtain ⟨jr10, je11, hf⟩ := bd1_inv hf
        refine callRV (As := []) (rest := []) S (ctX7_copies l D cI cZ a_t_now a_t_now_row v_t_now_row jr10 je11) (cwV 0 hts gX10_best_X7_copies rfl rfl rfl ⟨rfl, hdX7_copies⟩ ⟨Nat.le_of_ble_eq_true rfl, Nat.le_of_ble_eq_true rfl⟩) hP [1, 2] rfl KX.xs (fun U _ hW => hK.warm hW) (va_recv hK.1 hP (ci := 7) (q0 := 1) rfl rfl) rfl hl.1 rfl (Nat.le_of_ble_eq_true rfl) dX10_best_35 ⟨Nat.zero_le _, Nat.zero_le _⟩ ?_
        refine lv_if_ne (tgt := 44) hx hb dX10_best_38 (by decide) (fun jc12 => ?_) (fun jc12 => ?_)
        · have hf := ite_f jc12 hf
          refine lv_aload_n hx hb dX10_best_44 rfl (lv_at hl 0 rfl) ?_
          refine va_get (D := D) (ci := 10) (v := .ref a_t_search) (C := RX10) (T := TX10) (N := 10) hx hb hts iX10_best_X10 hown hK.1 hP 0 rfl rfl 8 (by decide) (hts _ mX10_best_2) (fun _ h9 => h9) rfl dX10_best_45 ?_
          refine lv_aload_n hx hb dX10_best_48 rfl (lv_at hl 0 rfl) ?_
          refine va_get (D := D) (ci := 10) (v := .ref a_t_chances) (C := RX10) (T := TX10) (N := 10) hx hb hts iX10_best_X10 hown hK.1 hP 0 rfl rfl 7 (by decide) (hts _ mX10_best_3) (fun _ h9 => h9) rfl dX10_best_49 ?_
          refine lv_aload_n hx hb dX10_best_52 rfl (lv_at hl 0 rfl) ?_
          refine va_get (D := D) (ci := 10) (v := .ref a_t_now) (C := RX10) (T := TX10) (N := 10) hx hb hts iX10_best_X10 hown hK.1 hP 0 rfl rfl 2 (by decide) (hts _ mX10_best_1) (fun _ h9 => h9) rfl dX10_best_53 ?_
          obtain ⟨jr13, je14, hf⟩ := bd1_inv hf
          refine callRV (As := []) (rest := [.ref a_t_chances, .ref a_t_search]) S (ctX7_copies l D cI cZ a_t_now a_t_now_row v_t_now_row jr13 je14) (cwV 0 hts gX10_best_X7_copies rfl rfl rfl ⟨rfl, hdX7_copies⟩ ⟨Nat.le_of_ble_eq_true rfl, Nat.le_of_ble_eq_true rfl⟩) hP [1, 2] rfl KX.xs (fun U _ hW => hK.warm hW) (va_recv hK.1 hP (ci := 7) (q0 := 1) rfl rfl) rfl hl.1 rfl (Nat.le_of_ble_eq_true rfl) dX10_best_56 ⟨Nat.zero_le _, Nat.zero_le _⟩ ?_
          refine lv_iload_n hx hb dX10_best_59 rfl (lv_at hl 1 rfl) ?_
          refine lv_iload_n hx hb dX10_best_60 rfl (lv_at hl 2 rfl) ?_
          obtain ⟨jg15, jg16, jg17, jg18, jg19, je20, hf⟩ := bd5_inv hf
          refine callMV (As := [.ref a_t_chances, .int jr13, .int jx1, .int jx2]) (rest := []) (wr := [(a_t, .inr (10, [.ref a_t_text, .ref a_t_telling, .ref a_t_now, .ref a_t_past, .ref a_t_images, .ref a_t_meeting, .ref a_t_seen, .ref a_t_chances, .ref a_t_search, .int v_t_valueRead])), (a_t_now, .inr (7, [.ref a_t_now_row])), (a_t_now_row, .inl (cI, 104, .inl v_t_now_row))]) (wn := [(a_t, .inr (10, [.ref a_t_text, .ref a_t_telling, .ref a_t_now, .ref a_t_past, .ref a_t_images, .ref a_t_meeting, .ref a_t_seen, .ref a_t_chances, .ref a_t_search, .int v_t_valueRead])), (a_t_now, .inr (7, [.ref a_t_now_row])), (a_t_now_row, .inl (cI, 104, .inl v_t_now_row)), (a_t_chances, .inr (0, [.ref a_t_chances_likely, .int jg18, .int v_t_chances_upper, .int v_t_chances_lower])), (a_t_chances_likely, .inl (cI, 31, .inl jg19)), (a_t_search, .inr (5, [.int jg15, .int jg16, .int jg17]))]) S (ctX5_run l D cI cZ a_t_search a_t_chances a_t_chances_likely jr13 jx1 jx2 v_t_search_much v_t_search_votes v_t_search_write v_t_chances_total v_t_chances_likely v_t_chances_upper v_t_chances_lower jg15 jg16 jg17 jg18 jg19 je20) (cwV 4 hts gX10_best_X5_run rfl rfl rfl ⟨rfl, hdX5_run⟩ ⟨Nat.le_of_ble_eq_true rfl, Nat.le_of_ble_eq_true rfl⟩) hP hD hS hA [5, 3, 4] [0, 1, 2] [0, 1, 2, 4, 5, 3] rfl rfl (by decide) (by decide) (by decide) (by decide) rfl KX.xs (fun U _ hW => hK.warm hW) (va_recv hK.1 hP (ci := 5) (q0 := 5) rfl rfl) rfl hl.1 rfl (Nat.le_of_ble_eq_true rfl) dX10_best_61 ⟨Nat.zero_le _, Nat.zero_le _⟩ (fun H locs hP hD hS => ?_)
          refine W.eq (g2 := F0 m 64 ls []) rfl ?_
          refine lv_iload_n hx hb dX10_best_64 rfl (lv_at hl 3 rfl) ?_
          refine lv_if_ne (tgt := 76) hx hb dX10_best_65 (by decide) (fun jc21 => ?_) (fun jc21 => ?_)
          · have hf := ite_f jc21 hf
            refine lv_iload_n hx hb dX10_best_76 rfl (lv_at hl 3 rfl) ?_
            refine lv_iconst (v := 1) hx hb dX10_best_77 (by decide) ?_
            refine lv_icmp_ne (tgt := 91) hx hb dX10_best_78 (by decide) (fun jc22 => ?_) (fun jc22 => ?_)
            · have hf := ite_f jc22 hf
              refine lv_aload_n hx hb dX10_best_91 rfl (lv_at hl 0 rfl) ?_
              refine va_get (D := D) (ci := 10) (v := .ref a_t_search) (C := RX10) (T := TX10) (N := 10) hx hb hts iX10_best_X10 hown hK.1 hP 0 rfl rfl 8 (by decide) (hts _ mX10_best_2) (fun _ h9 => h9) rfl dX10_best_92 ?_
              refine va_get (D := D) (ci := 5) (v := .int jg17) (C := RX5) (T := TX5) (N := 3) hx hb hts iX10_best_X5 hown hK.1 hP 5 rfl rfl 2 (by decide) (hts _ mX10_best_6) (fun _ h9 => h9) rfl dX10_best_95 ?_
              obtain ⟨rfl, rfl, rfl, rfl, rfl, rfl⟩ := pr6_inv hf
              exact retM hx hb hr hlk hP hD hS dX10_best_98
            · have hf := ite_t jc22 hf
              refine lv_aload_n hx hb dX10_best_81 rfl (lv_at hl 0 rfl) ?_
              refine va_get (D := D) (ci := 10) (v := .ref a_t_search) (C := RX10) (T := TX10) (N := 10) hx hb hts iX10_best_X10 hown hK.1 hP 0 rfl rfl 8 (by decide) (hts _ mX10_best_2) (fun _ h9 => h9) rfl dX10_best_82 ?_
              refine va_get (D := D) (ci := 5) (v := .int jg16) (C := RX5) (T := TX5) (N := 3) hx hb hts iX10_best_X5 hown hK.1 hP 5 rfl rfl 1 (by decide) (hts _ mX10_best_5) (fun _ h9 => h9) rfl dX10_best_85 ?_
              refine lv_goto (tgt := 98) hx hb dX10_best_88 (by decide) ?_
              obtain ⟨rfl, rfl, rfl, rfl, rfl, rfl⟩ := pr6_inv hf
              exact retM hx hb hr hlk hP hD hS dX10_best_98
          · have hf := ite_t jc21 hf
            refine lv_aload_n hx hb dX10_best_68 rfl (lv_at hl 0 rfl) ?_
            refine va_get (D := D) (ci := 10) (v := .ref a_t_search) (C := RX10) (T := TX10) (N := 10) hx hb hts iX10_best_X10 hown hK.1 hP 0 rfl rfl 8 (by decide) (hts _ mX10_best_2) (fun _ h9 => h9) rfl dX10_best_69 ?_
            refine va_get (D := D) (ci := 5) (v := .int jg15) (C := RX5) (T := TX5) (N := 3) hx hb hts iX10_best_X5 hown hK.1 hP 5 rfl rfl 0 (by decide) (hts _ mX10_best_4) (fun _ h9 => h9) rfl dX10_best_72 ?_
            obtain ⟨rfl, rfl, rfl, rfl, rfl, rfl⟩ := pr6_inv hf
            exact retM hx hb hr hlk hP hD hS dX10_best_75
        · have hf := ite_t jc12 hf
          refine lv_bipush (v := -9) hx hb dX10_best_41 (by decide) ?_
          obtain ⟨rfl, rfl, rfl, rfl, rfl, rfl⟩ := pr6_inv hf
          exact retM hx hb hr hlk hP hD hS dX10_best_43
      · have hf := ite_t jc9 hf
        refine lv_iconst (v := -1) hx hb dX10_best_29 (by decide) ?_
        obtain ⟨rfl, rfl, rfl, rfl, rfl, rfl⟩ := pr6_inv hf
        exact retM hx hb hr hlk hP hD hS dX10_best_30
def fX10_sees (jx1 : Int32) (jx2 : Int32) (v_t_seen_size : Int32) (v_t_seen_ways : (Nat → Int32)) (v_t_seen_enough : (Nat → Int32)) : Option (Int32 × Int32 × (Nat → Int32) × (Nat → Int32)) := bd1 (fX10_isWithin jx1 (0 : Int32) (1 : Int32)) (fun jr1 => if jr1 = 0 then some ((-1 : Int32), v_t_seen_size, v_t_seen_ways, v_t_seen_enough) else bd1 (fX10_isWithin jx2 (0 : Int32) (1 : Int32)) (fun jr4 => if jr4 = 0 then some ((-1 : Int32), v_t_seen_size, v_t_seen_ways, v_t_seen_enough) else if jx2 = (1 : Int32) then bd4 (fX6_append jx1 (1 : Int32) v_t_seen_size v_t_seen_ways v_t_seen_enough) (fun jr14 jg15 jg16 jg17 => if jr14 = 0 then some ((-3 : Int32), jg15, jg16, jg17) else some (jg15, jg15, jg16, jg17)) else bd4 (fX6_append jx1 (0 : Int32) v_t_seen_size v_t_seen_ways v_t_seen_enough) (fun jr8 jg9 jg10 jg11 => if jr8 = 0 then some ((-3 : Int32), jg9, jg10, jg11) else some (jg9, jg9, jg10, jg11))))
abbrev rmX10_sees : Room := { frames := 1, cells := 0, slots := 0, locals := 22 }
theorem iX10_sees_X10 : ∀ w ∈ wsX100, w ∈ wsX10_sees := fun _ h => List.mem_cons_of_mem _ (List.mem_append_left _ (List.mem_append_right _ h))
theorem mX10_sees_1 : (Cond.fieldLink RX10 56 "VoteFiles" "seen" "LVoteFiles$Seen;") ∈ wsX10_sees := List.mem_of_getElem? (i := 1) rfl
theorem iX10_sees_X6 : ∀ w ∈ wsX60, w ∈ wsX10_sees := fun _ h => List.mem_cons_of_mem _ (List.mem_append_right _ h)
theorem mX10_sees_2 : (Cond.fieldLink RX10 100 "VoteFiles$Seen" "size" "I") ∈ wsX10_sees := List.mem_of_getElem? (i := 2) rfl
theorem hdX10_sees : yX10_sees.cls ≠ "java/lang/invoke/MethodHandle" ∧ yX10_sees.cls ≠ "java/lang/invoke/VarHandle" ∧ (parseMethodDescriptor yX10_sees.desc).map (fun d => d.parameters.length) = some 2 := by decide +kernel
set_option maxHeartbeats 4000000 in
set_option maxRecDepth 100000 in
theorem ctX10_sees (l : Launch) (D : va_G) (cI cZ : ClassId) (a_t a_t_text a_t_telling a_t_now a_t_past a_t_images a_t_meeting a_t_seen a_t_chances a_t_search a_t_seen_ways a_t_seen_enough : Nat) (jx1 : Int32) (jx2 : Int32) (v_t_seen_size : Int32) (v_t_seen_ways : (Nat → Int32)) (v_t_seen_enough : (Nat → Int32)) (v_t_valueRead : Int32) (r : Int32) (o_t_seen_size : Int32) (o_t_seen_ways : (Nat → Int32)) (o_t_seen_enough : (Nat → Int32)) (hf : fX10_sees jx1 jx2 v_t_seen_size v_t_seen_ways v_t_seen_enough = some (r, o_t_seen_size, o_t_seen_ways, o_t_seen_enough)) : cM l yX10_sees wsX10_sees rmX10_sees [.ref a_t, .int jx1, .int jx2] D [(a_t, .inr (10, [.ref a_t_text, .ref a_t_telling, .ref a_t_now, .ref a_t_past, .ref a_t_images, .ref a_t_meeting, .ref a_t_seen, .ref a_t_chances, .ref a_t_search, .int v_t_valueRead])), (a_t_seen, .inr (6, [.ref a_t_seen_ways, .ref a_t_seen_enough, .int v_t_seen_size])), (a_t_seen_ways, .inl (cI, 6, .inl v_t_seen_ways)), (a_t_seen_enough, .inl (cZ, 6, .inl v_t_seen_enough))] [(a_t, .inr (10, [.ref a_t_text, .ref a_t_telling, .ref a_t_now, .ref a_t_past, .ref a_t_images, .ref a_t_meeting, .ref a_t_seen, .ref a_t_chances, .ref a_t_search, .int v_t_valueRead])), (a_t_seen, .inr (6, [.ref a_t_seen_ways, .ref a_t_seen_enough, .int o_t_seen_size])), (a_t_seen_ways, .inl (cI, 6, .inl o_t_seen_ways)), (a_t_seen_enough, .inl (cZ, 6, .inl o_t_seen_enough))] (KX D cI cZ) (some (.int r)) := by
  refine cM_of (cc := cX10_sees) (maxL := 3) (ret := some .int) (by decide +kernel) rfl _ (Nat.le_of_ble_eq_true rfl) ?_
  intro p e s m below meth c ls A S hr hlk hP hK hl hD hA hS
  obtain ⟨hx, hb, hml, hown, hts⟩ := id S
  have hl : lv_has ls 3 [(0, .ref a_t), (1, .int jx1), (2, .int jx2)] := hl
  unfold fX10_sees at hf
  refine lv_iload_n hx hb dX10_sees_0 rfl (lv_at hl 1 rfl) ?_
  refine lv_iconst (v := 0) hx hb dX10_sees_1 (by decide) ?_
  refine lv_iconst (v := 1) hx hb dX10_sees_2 (by decide) ?_
  obtain ⟨jr1, je2, hf⟩ := bd1_inv hf
  refine callRS (As := [.int jx1, .int (0 : Int32), .int (1 : Int32)]) (rest := []) S (ctX10_isWithin l D cI cZ jx1 (0 : Int32) (1 : Int32) jr1 je2) (va_cwS 3 hts gX10_sees_X10_isWithin rfl rfl rfl hdX10_isWithin ⟨Nat.le_of_ble_eq_true rfl, Nat.le_of_ble_eq_true rfl⟩) hP [] rfl KX.xs (fun U _ hW => hK.warm hW) rfl hl.1 rfl (Nat.le_of_ble_eq_true rfl) dX10_sees_3 ⟨Nat.zero_le _, Nat.zero_le _⟩ ?_
  refine lv_if_eq (tgt := 18) hx hb dX10_sees_6 (by decide) (fun jc3 => ?_) (fun jc3 => ?_)
  · have hf := ite_t jc3 hf
    refine lv_iconst (v := -1) hx hb dX10_sees_18 (by decide) ?_
    obtain ⟨rfl, rfl, rfl, rfl⟩ := pr4_inv hf
    exact retM hx hb hr hlk hP hD hS dX10_sees_19
  · have hf := ite_f jc3 hf
    refine lv_iload_n hx hb dX10_sees_9 rfl (lv_at hl 2 rfl) ?_
    refine lv_iconst (v := 0) hx hb dX10_sees_10 (by decide) ?_
    refine lv_iconst (v := 1) hx hb dX10_sees_11 (by decide) ?_
    obtain ⟨jr4, je5, hf⟩ := bd1_inv hf
    refine callRS (As := [.int jx2, .int (0 : Int32), .int (1 : Int32)]) (rest := []) S (ctX10_isWithin l D cI cZ jx2 (0 : Int32) (1 : Int32) jr4 je5) (va_cwS 3 hts gX10_sees_X10_isWithin rfl rfl rfl hdX10_isWithin ⟨Nat.le_of_ble_eq_true rfl, Nat.le_of_ble_eq_true rfl⟩) hP [] rfl KX.xs (fun U _ hW => hK.warm hW) rfl hl.1 rfl (Nat.le_of_ble_eq_true rfl) dX10_sees_12 ⟨Nat.zero_le _, Nat.zero_le _⟩ ?_
    refine lv_if_ne (tgt := 20) hx hb dX10_sees_15 (by decide) (fun jc6 => ?_) (fun jc6 => ?_)
    · have hf := ite_f jc6 hf
      refine lv_aload_n hx hb dX10_sees_20 rfl (lv_at hl 0 rfl) ?_
      refine va_get (D := D) (ci := 10) (v := .ref a_t_seen) (C := RX10) (T := TX10) (N := 10) hx hb hts iX10_sees_X10 hown hK.1 hP 0 rfl rfl 6 (by decide) (hts _ mX10_sees_1) (fun _ h9 => h9) rfl dX10_sees_21 ?_
      refine lv_iload_n hx hb dX10_sees_24 rfl (lv_at hl 1 rfl) ?_
      refine lv_iload_n hx hb dX10_sees_25 rfl (lv_at hl 2 rfl) ?_
      refine lv_iconst (v := 1) hx hb dX10_sees_26 (by decide) ?_
      refine lv_icmp_ne (tgt := 34) hx hb dX10_sees_27 (by decide) (fun jc7 => ?_) (fun jc7 => ?_)
      · have hf := ite_f jc7 hf
        refine lv_iconst (v := 0) hx hb dX10_sees_34 (by decide) ?_
        obtain ⟨jr8, jg9, jg10, jg11, je12, hf⟩ := bd4_inv hf
        refine callMV (As := [.int jx1, .int (0 : Int32)]) (rest := []) (wr := [(a_t, .inr (10, [.ref a_t_text, .ref a_t_telling, .ref a_t_now, .ref a_t_past, .ref a_t_images, .ref a_t_meeting, .ref a_t_seen, .ref a_t_chances, .ref a_t_search, .int v_t_valueRead]))]) (wn := [(a_t, .inr (10, [.ref a_t_text, .ref a_t_telling, .ref a_t_now, .ref a_t_past, .ref a_t_images, .ref a_t_meeting, .ref a_t_seen, .ref a_t_chances, .ref a_t_search, .int v_t_valueRead])), (a_t_seen, .inr (6, [.ref a_t_seen_ways, .ref a_t_seen_enough, .int jg9])), (a_t_seen_ways, .inl (cI, 6, .inl jg10)), (a_t_seen_enough, .inl (cZ, 6, .inl jg11))]) S (ctX6_append l D cI cZ a_t_seen a_t_seen_ways a_t_seen_enough jx1 (0 : Int32) v_t_seen_size v_t_seen_ways v_t_seen_enough jr8 jg9 jg10 jg11 je12) (cwV 2 hts gX10_sees_X6_append rfl rfl rfl ⟨rfl, hdX6_append⟩ ⟨Nat.le_of_ble_eq_true rfl, Nat.le_of_ble_eq_true rfl⟩) hP hD hS hA [1, 2, 3] [0] [0, 1, 2, 3] rfl rfl (by decide) (by decide) (by decide) (by decide) rfl KX.xs (fun U _ hW => hK.warm hW) (va_recv hK.1 hP (ci := 6) (q0 := 1) rfl rfl) rfl hl.1 rfl (Nat.le_of_ble_eq_true rfl) dX10_sees_35 ⟨Nat.zero_le _, Nat.zero_le _⟩ (fun H locs hP hD hS => ?_)
        refine W.eq (g2 := F0 m 38 ls [.int jr8]) rfl ?_
        refine lv_if_eq (tgt := 51) hx hb dX10_sees_38 (by decide) (fun jc13 => ?_) (fun jc13 => ?_)
        · have hf := ite_t jc13 hf
          refine lv_bipush (v := -3) hx hb dX10_sees_51 (by decide) ?_
          obtain ⟨rfl, rfl, rfl, rfl⟩ := pr4_inv hf
          exact retM hx hb hr hlk hP hD hS dX10_sees_53
        · have hf := ite_f jc13 hf
          refine lv_aload_n hx hb dX10_sees_41 rfl (lv_at hl 0 rfl) ?_
          refine va_get (D := D) (ci := 10) (v := .ref a_t_seen) (C := RX10) (T := TX10) (N := 10) hx hb hts iX10_sees_X10 hown hK.1 hP 0 rfl rfl 6 (by decide) (hts _ mX10_sees_1) (fun _ h9 => h9) rfl dX10_sees_42 ?_
          refine va_get (D := D) (ci := 6) (v := .int jg9) (C := RX6) (T := TX6) (N := 3) hx hb hts iX10_sees_X6 hown hK.1 hP 1 rfl rfl 2 (by decide) (hts _ mX10_sees_2) (fun _ h9 => h9) rfl dX10_sees_45 ?_
          refine lv_goto (tgt := 53) hx hb dX10_sees_48 (by decide) ?_
          obtain ⟨rfl, rfl, rfl, rfl⟩ := pr4_inv hf
          exact retM hx hb hr hlk hP hD hS dX10_sees_53
      · have hf := ite_t jc7 hf
        refine lv_iconst (v := 1) hx hb dX10_sees_30 (by decide) ?_
        refine lv_goto (tgt := 35) hx hb dX10_sees_31 (by decide) ?_
        obtain ⟨jr14, jg15, jg16, jg17, je18, hf⟩ := bd4_inv hf
        refine callMV (As := [.int jx1, .int (1 : Int32)]) (rest := []) (wr := [(a_t, .inr (10, [.ref a_t_text, .ref a_t_telling, .ref a_t_now, .ref a_t_past, .ref a_t_images, .ref a_t_meeting, .ref a_t_seen, .ref a_t_chances, .ref a_t_search, .int v_t_valueRead]))]) (wn := [(a_t, .inr (10, [.ref a_t_text, .ref a_t_telling, .ref a_t_now, .ref a_t_past, .ref a_t_images, .ref a_t_meeting, .ref a_t_seen, .ref a_t_chances, .ref a_t_search, .int v_t_valueRead])), (a_t_seen, .inr (6, [.ref a_t_seen_ways, .ref a_t_seen_enough, .int jg15])), (a_t_seen_ways, .inl (cI, 6, .inl jg16)), (a_t_seen_enough, .inl (cZ, 6, .inl jg17))]) S (ctX6_append l D cI cZ a_t_seen a_t_seen_ways a_t_seen_enough jx1 (1 : Int32) v_t_seen_size v_t_seen_ways v_t_seen_enough jr14 jg15 jg16 jg17 je18) (cwV 2 hts gX10_sees_X6_append rfl rfl rfl ⟨rfl, hdX6_append⟩ ⟨Nat.le_of_ble_eq_true rfl, Nat.le_of_ble_eq_true rfl⟩) hP hD hS hA [1, 2, 3] [0] [0, 1, 2, 3] rfl rfl (by decide) (by decide) (by decide) (by decide) rfl KX.xs (fun U _ hW => hK.warm hW) (va_recv hK.1 hP (ci := 6) (q0 := 1) rfl rfl) rfl hl.1 rfl (Nat.le_of_ble_eq_true rfl) dX10_sees_35 ⟨Nat.zero_le _, Nat.zero_le _⟩ (fun H locs hP hD hS => ?_)
        refine W.eq (g2 := F0 m 38 ls [.int jr14]) rfl ?_
        refine lv_if_eq (tgt := 51) hx hb dX10_sees_38 (by decide) (fun jc19 => ?_) (fun jc19 => ?_)
        · have hf := ite_t jc19 hf
          refine lv_bipush (v := -3) hx hb dX10_sees_51 (by decide) ?_
          obtain ⟨rfl, rfl, rfl, rfl⟩ := pr4_inv hf
          exact retM hx hb hr hlk hP hD hS dX10_sees_53
        · have hf := ite_f jc19 hf
          refine lv_aload_n hx hb dX10_sees_41 rfl (lv_at hl 0 rfl) ?_
          refine va_get (D := D) (ci := 10) (v := .ref a_t_seen) (C := RX10) (T := TX10) (N := 10) hx hb hts iX10_sees_X10 hown hK.1 hP 0 rfl rfl 6 (by decide) (hts _ mX10_sees_1) (fun _ h9 => h9) rfl dX10_sees_42 ?_
          refine va_get (D := D) (ci := 6) (v := .int jg15) (C := RX6) (T := TX6) (N := 3) hx hb hts iX10_sees_X6 hown hK.1 hP 1 rfl rfl 2 (by decide) (hts _ mX10_sees_2) (fun _ h9 => h9) rfl dX10_sees_45 ?_
          refine lv_goto (tgt := 53) hx hb dX10_sees_48 (by decide) ?_
          obtain ⟨rfl, rfl, rfl, rfl⟩ := pr4_inv hf
          exact retM hx hb hr hlk hP hD hS dX10_sees_53
    · have hf := ite_t jc6 hf
      refine lv_iconst (v := -1) hx hb dX10_sees_18 (by decide) ?_
      obtain ⟨rfl, rfl, rfl, rfl⟩ := pr4_inv hf
      exact retM hx hb hr hlk hP hD hS dX10_sees_19
def fX10_forget (v_t_seen_size : Int32) : Option (Int32 × Int32) := some (v_t_seen_size, (0 : Int32))
abbrev rmX10_forget : Room := { frames := 0, cells := 0, slots := 0, locals := 0 }
theorem iX10_forget_X10 : ∀ w ∈ wsX100, w ∈ wsX10_forget := fun _ h => List.mem_cons_of_mem _ (List.mem_append_left _ (List.mem_append_right _ h))
theorem mX10_forget_1 : (Cond.fieldLink RX10 56 "VoteFiles" "seen" "LVoteFiles$Seen;") ∈ wsX10_forget := List.mem_of_getElem? (i := 1) rfl
theorem iX10_forget_X6 : ∀ w ∈ wsX60, w ∈ wsX10_forget := fun _ h => List.mem_cons_of_mem _ (List.mem_append_right _ h)
theorem mX10_forget_2 : (Cond.fieldLink RX10 100 "VoteFiles$Seen" "size" "I") ∈ wsX10_forget := List.mem_of_getElem? (i := 2) rfl
theorem hdX10_forget : yX10_forget.cls ≠ "java/lang/invoke/MethodHandle" ∧ yX10_forget.cls ≠ "java/lang/invoke/VarHandle" ∧ (parseMethodDescriptor yX10_forget.desc).map (fun d => d.parameters.length) = some 0 := by decide +kernel
set_option maxHeartbeats 4000000 in
set_option maxRecDepth 100000 in
theorem ctX10_forget (l : Launch) (D : va_G) (cI cZ : ClassId) (a_t a_t_text a_t_telling a_t_now a_t_past a_t_images a_t_meeting a_t_seen a_t_chances a_t_search a_t_seen_ways a_t_seen_enough : Nat) (v_t_seen_size : Int32) (v_t_valueRead : Int32) (r : Int32) (o_t_seen_size : Int32) (hf : fX10_forget v_t_seen_size = some (r, o_t_seen_size)) : cM l yX10_forget wsX10_forget rmX10_forget [.ref a_t] D [(a_t, .inr (10, [.ref a_t_text, .ref a_t_telling, .ref a_t_now, .ref a_t_past, .ref a_t_images, .ref a_t_meeting, .ref a_t_seen, .ref a_t_chances, .ref a_t_search, .int v_t_valueRead])), (a_t_seen, .inr (6, [.ref a_t_seen_ways, .ref a_t_seen_enough, .int v_t_seen_size]))] [(a_t, .inr (10, [.ref a_t_text, .ref a_t_telling, .ref a_t_now, .ref a_t_past, .ref a_t_images, .ref a_t_meeting, .ref a_t_seen, .ref a_t_chances, .ref a_t_search, .int v_t_valueRead])), (a_t_seen, .inr (6, [.ref a_t_seen_ways, .ref a_t_seen_enough, .int o_t_seen_size]))] (KX D cI cZ) (some (.int r)) := by
  refine cM_of (cc := cX10_forget) (maxL := 2) (ret := some .int) (by decide +kernel) rfl _ (Nat.le_of_ble_eq_true rfl) ?_
  intro p e s m below meth c ls A S hr hlk hP hK hl hD hA hS
  obtain ⟨hx, hb, hml, hown, hts⟩ := id S
  have hl : lv_has ls 2 [(0, .ref a_t)] := hl
  unfold fX10_forget at hf
  refine lv_aload_n hx hb dX10_forget_0 rfl (lv_at hl 0 rfl) ?_
  refine va_get (D := D) (ci := 10) (v := .ref a_t_seen) (C := RX10) (T := TX10) (N := 10) hx hb hts iX10_forget_X10 hown hK.1 hP 0 rfl rfl 6 (by decide) (hts _ mX10_forget_1) (fun _ h9 => h9) rfl dX10_forget_1 ?_
  refine va_get (D := D) (ci := 6) (v := .int v_t_seen_size) (C := RX6) (T := TX6) (N := 3) hx hb hts iX10_forget_X6 hown hK.1 hP 1 rfl rfl 2 (by decide) (hts _ mX10_forget_2) (fun _ h9 => h9) rfl dX10_forget_4 ?_
  refine lv_istore_n (lv' := [(1, .int v_t_seen_size), (0, .ref a_t)]) hx hb dX10_forget_7 rfl hl (by decide) rfl (fun ls hl => ?_)
  refine lv_aload_n hx hb dX10_forget_8 rfl (lv_at hl 1 rfl) ?_
  refine va_get (D := D) (ci := 10) (v := .ref a_t_seen) (C := RX10) (T := TX10) (N := 10) hx hb hts iX10_forget_X10 hown hK.1 hP 0 rfl rfl 6 (by decide) (hts _ mX10_forget_1) (fun _ h9 => h9) rfl dX10_forget_9 ?_
  refine lv_iconst (v := 0) hx hb dX10_forget_12 (by decide) ?_
  refine va_put (D := D) (ci := 6) (v := .int (0 : Int32)) (ty := .int) (C := RX6) (T := TX6) (N := 3) hx hb hts iX10_forget_X6 tyX6 tyX6_ok nmX6 hown hK.1 hP hD hS 1 rfl rfl 2 (by decide) (hts _ mX10_forget_2) (fun _ h9 => h9) rfl (tyX6_ok 2 (by decide)) rfl rfl (Nat.le_of_ble_eq_true rfl) dX10_forget_13 (fun H locs hP hD hS => ?_)
  have hP : va_P D vwCl [(a_t, .inr (10, [.ref a_t_text, .ref a_t_telling, .ref a_t_now, .ref a_t_past, .ref a_t_images, .ref a_t_meeting, .ref a_t_seen, .ref a_t_chances, .ref a_t_search, .int v_t_valueRead])), (a_t_seen, .inr (6, [.ref a_t_seen_ways, .ref a_t_seen_enough, .int (0 : Int32)]))] H := hP
  have hD : va_D A [(a_t, .inr (10, [.ref a_t_text, .ref a_t_telling, .ref a_t_now, .ref a_t_past, .ref a_t_images, .ref a_t_meeting, .ref a_t_seen, .ref a_t_chances, .ref a_t_search, .int v_t_valueRead])), (a_t_seen, .inr (6, [.ref a_t_seen_ways, .ref a_t_seen_enough, .int (0 : Int32)]))] := hD
  refine lv_iload_n hx hb dX10_forget_16 rfl (lv_at hl 0 rfl) ?_
  obtain ⟨rfl, rfl⟩ := pr2_inv hf
  exact retM hx hb hr hlk hP hD hS dX10_forget_17
def fX10_unseen_19 (jx1 : Int32) (v_t_now_row : (Nat → Int32)) (v_t_seen_size : Int32) (v_t_seen_ways : (Nat → Int32)) (v_t_seen_enough : (Nat → Int32)) : Nat → Int32 → Int32 → Int32 → Option (Int32)
  | 0, _, _, _ => none
  | n + 1, jx2, jx3, jx4 => bd1 (fX7_sets v_t_now_row) (fun jr1 => if jr1 ≤ jx4 then if jx1 = 0 then some jx2 else some jx3 else bd1 (fX6_allows jx4 v_t_seen_size v_t_seen_ways v_t_seen_enough v_t_now_row) (fun jr5 => if jr5 = 0 then (fX10_unseen_19 jx1 v_t_now_row v_t_seen_size v_t_seen_ways v_t_seen_enough n) jx2 jx3 (jx4 + (1 : Int32)) else if jx3 = (-9 : Int32) then (fX10_unseen_19 jx1 v_t_now_row v_t_seen_size v_t_seen_ways v_t_seen_enough n) (jx2 + (1 : Int32)) jx4 (jx4 + (1 : Int32)) else (fX10_unseen_19 jx1 v_t_now_row v_t_seen_size v_t_seen_ways v_t_seen_enough n) (jx2 + (1 : Int32)) jx3 (jx4 + (1 : Int32))))
theorem fX10_unseen_19_s (jx1 : Int32) (v_t_now_row : (Nat → Int32)) (v_t_seen_size : Int32) (v_t_seen_ways : (Nat → Int32)) (v_t_seen_enough : (Nat → Int32)) (n : Nat) (jx2 : Int32) (jx3 : Int32) (jx4 : Int32) : fX10_unseen_19 jx1 v_t_now_row v_t_seen_size v_t_seen_ways v_t_seen_enough (n + 1) jx2 jx3 jx4 = bd1 (fX7_sets v_t_now_row) (fun jr1 => if jr1 ≤ jx4 then if jx1 = 0 then some jx2 else some jx3 else bd1 (fX6_allows jx4 v_t_seen_size v_t_seen_ways v_t_seen_enough v_t_now_row) (fun jr5 => if jr5 = 0 then (fX10_unseen_19 jx1 v_t_now_row v_t_seen_size v_t_seen_ways v_t_seen_enough n) jx2 jx3 (jx4 + (1 : Int32)) else if jx3 = (-9 : Int32) then (fX10_unseen_19 jx1 v_t_now_row v_t_seen_size v_t_seen_ways v_t_seen_enough n) (jx2 + (1 : Int32)) jx4 (jx4 + (1 : Int32)) else (fX10_unseen_19 jx1 v_t_now_row v_t_seen_size v_t_seen_ways v_t_seen_enough n) (jx2 + (1 : Int32)) jx3 (jx4 + (1 : Int32)))) := rfl
def fX10_unseen (jx1 : Int32) (v_t_now_row : (Nat → Int32)) (v_t_seen_size : Int32) (v_t_seen_ways : (Nat → Int32)) (v_t_seen_enough : (Nat → Int32)) : Option (Int32) := bd1 (fX10_isWithin jx1 (0 : Int32) (1 : Int32)) (fun jr1 => if jr1 = 0 then some (-1 : Int32) else fX10_unseen_19 jx1 v_t_now_row v_t_seen_size v_t_seen_ways v_t_seen_enough fuel (0 : Int32) (-9 : Int32) (0 : Int32))
abbrev rmX10_unseen : Room := { frames := 3, cells := 0, slots := 0, locals := 71 }
theorem iX10_unseen_X10 : ∀ w ∈ wsX100, w ∈ wsX10_unseen := fun _ h => List.mem_cons_of_mem _ (List.mem_append_left _ (List.mem_append_left _ (List.mem_append_right _ h)))
theorem mX10_unseen_1 : (Cond.fieldLink RX10 28 "VoteFiles" "now" "LVoteFiles$Shape;") ∈ wsX10_unseen := List.mem_of_getElem? (i := 1) rfl
theorem mX10_unseen_2 : (Cond.fieldLink RX10 56 "VoteFiles" "seen" "LVoteFiles$Seen;") ∈ wsX10_unseen := List.mem_of_getElem? (i := 2) rfl
set_option maxHeartbeats 4000000 in
set_option maxRecDepth 100000 in
theorem wX10_unseen_19 {p : Program} {l : Launch} {e : Env} {s : State} {m : MethodId} {args : Array Value} {below : List Frame} {meth : Method} {c : Code} {D : va_G} {cI cZ : ClassId} (S : CallFix p m c cX10_unseen 5 s args wsX10_unseen RX10) (hr : meth.sig.returnType = some .int) (hlk : meth.locks = false) (hK : KX D cI cZ s) {a_t a_t_text a_t_telling a_t_now a_t_past a_t_images a_t_meeting a_t_seen a_t_chances a_t_search a_t_now_row a_t_seen_ways a_t_seen_enough : Nat} {jx1 : Int32} {v_t_now_row : (Nat → Int32)} {v_t_seen_size : Int32} {v_t_seen_ways : (Nat → Int32)} {v_t_seen_enough : (Nat → Int32)} {v_t_valueRead : Int32} {r : Int32} (hP : va_P D vwCl [(a_t, .inr (10, [.ref a_t_text, .ref a_t_telling, .ref a_t_now, .ref a_t_past, .ref a_t_images, .ref a_t_meeting, .ref a_t_seen, .ref a_t_chances, .ref a_t_search, .int v_t_valueRead])), (a_t_now, .inr (7, [.ref a_t_now_row])), (a_t_now_row, .inl (cI, 104, .inl v_t_now_row)), (a_t_seen, .inr (6, [.ref a_t_seen_ways, .ref a_t_seen_enough, .int v_t_seen_size])), (a_t_seen_ways, .inl (cI, 6, .inl v_t_seen_ways)), (a_t_seen_enough, .inl (cZ, 6, .inl v_t_seen_enough))] s.heap) : ∀ (n : Nat), ∀ (jx2 : Int32) (jx3 : Int32) (jx4 : Int32) (ls : Array Slot), fX10_unseen_19 jx1 v_t_now_row v_t_seen_size v_t_seen_ways v_t_seen_enough n jx2 jx3 jx4 = some r → lv_has ls 5 [(0, .ref a_t), (1, .int jx1), (2, .int jx2), (3, .int jx3), (4, .int jx4)] → W p l e rmX10_unseen s m args below meth c s.heap [] 0 0 (MQ below (QcRead r) args s 0 0 (fun _ => False)) (F0 m 19 ls []) := by
  obtain ⟨hx, hb, hml, hown, hts⟩ := id S
  intro n
  induction n with
  | zero =>
    intro jx2 jx3 jx4 ls hf hl
    cases (show (none : Option _) = some _ from hf)
  | succ n ih =>
    intro jx2 jx3 jx4 ls hf hl
    have hf := (fX10_unseen_19_s _ _ _ _ _ n _ _ _).symm.trans hf
    refine lv_iload hx hb dX10_unseen_19 (lv_at hl 4 rfl) ?_
    refine lv_aload_n hx hb dX10_unseen_21 rfl (lv_at hl 0 rfl) ?_
    refine va_get (D := D) (ci := 10) (v := .ref a_t_now) (C := RX10) (T := TX10) (N := 10) hx hb hts iX10_unseen_X10 hown hK.1 hP 0 rfl rfl 2 (by decide) (hts _ mX10_unseen_1) (fun _ h9 => h9) rfl dX10_unseen_22 ?_
    obtain ⟨jr1, je2, hf⟩ := bd1_inv hf
    refine callRV (As := []) (rest := [.int jx4]) S (ctX7_sets l D cI cZ a_t_now a_t_now_row v_t_now_row jr1 je2) (cwV 0 hts gX10_unseen_X7_sets rfl rfl rfl ⟨rfl, hdX7_sets⟩ ⟨Nat.le_of_ble_eq_true rfl, Nat.le_of_ble_eq_true rfl⟩) hP [1, 2] rfl KX.xs (fun U _ hW => hK.warm hW) (va_recv hK.1 hP (ci := 7) (q0 := 1) rfl rfl) rfl hl.1 rfl (Nat.le_of_ble_eq_true rfl) dX10_unseen_25 ⟨Nat.zero_le _, Nat.zero_le _⟩ ?_
    refine lv_icmp_ge (tgt := 65) hx hb dX10_unseen_28 (by decide) (fun jc3 => ?_) (fun jc3 => ?_)
    · have hf := ite_t jc3 hf
      refine lv_iload_n hx hb dX10_unseen_65 rfl (lv_at hl 1 rfl) ?_
      refine lv_if_ne (tgt := 73) hx hb dX10_unseen_66 (by decide) (fun jc4 => ?_) (fun jc4 => ?_)
      · have hf := ite_f jc4 hf
        refine lv_iload_n hx hb dX10_unseen_73 rfl (lv_at hl 3 rfl) ?_
        obtain rfl := Option.some.inj hf
        exact retR hx hb hr hlk dX10_unseen_74
      · have hf := ite_t jc4 hf
        refine lv_iload_n hx hb dX10_unseen_69 rfl (lv_at hl 2 rfl) ?_
        refine lv_goto (tgt := 74) hx hb dX10_unseen_70 (by decide) ?_
        obtain rfl := Option.some.inj hf
        exact retR hx hb hr hlk dX10_unseen_74
    · have hf := ite_f jc3 hf
      refine lv_aload_n hx hb dX10_unseen_31 rfl (lv_at hl 0 rfl) ?_
      refine va_get (D := D) (ci := 10) (v := .ref a_t_seen) (C := RX10) (T := TX10) (N := 10) hx hb hts iX10_unseen_X10 hown hK.1 hP 0 rfl rfl 6 (by decide) (hts _ mX10_unseen_2) (fun _ h9 => h9) rfl dX10_unseen_32 ?_
      refine lv_aload_n hx hb dX10_unseen_35 rfl (lv_at hl 0 rfl) ?_
      refine va_get (D := D) (ci := 10) (v := .ref a_t_now) (C := RX10) (T := TX10) (N := 10) hx hb hts iX10_unseen_X10 hown hK.1 hP 0 rfl rfl 2 (by decide) (hts _ mX10_unseen_1) (fun _ h9 => h9) rfl dX10_unseen_36 ?_
      refine lv_iload hx hb dX10_unseen_39 (lv_at hl 4 rfl) ?_
      obtain ⟨jr5, je6, hf⟩ := bd1_inv hf
      refine callRV (As := [.ref a_t_now, .int jx4]) (rest := []) S (ctX6_allows l D cI cZ a_t_seen a_t_seen_ways a_t_seen_enough a_t_now a_t_now_row jx4 v_t_seen_size v_t_seen_ways v_t_seen_enough v_t_now_row jr5 je6) (cwV 2 hts gX10_unseen_X6_allows rfl rfl rfl ⟨rfl, hdX6_allows⟩ ⟨Nat.le_of_ble_eq_true rfl, Nat.le_of_ble_eq_true rfl⟩) hP [3, 4, 5, 1, 2] rfl KX.xs (fun U _ hW => hK.warm hW) (va_recv hK.1 hP (ci := 6) (q0 := 3) rfl rfl) rfl hl.1 rfl (Nat.le_of_ble_eq_true rfl) dX10_unseen_41 ⟨Nat.zero_le _, Nat.zero_le _⟩ ?_
      refine lv_if_eq (tgt := 59) hx hb dX10_unseen_44 (by decide) (fun jc7 => ?_) (fun jc7 => ?_)
      · have hf := ite_t jc7 hf
        refine lv_iinc (v := (jx4 + (1 : Int32))) (lv' := [(4, .int (jx4 + (1 : Int32))), (0, .ref a_t), (1, .int jx1), (2, .int jx2), (3, .int jx3)]) hx hb dX10_unseen_59 hl (k := 4) rfl rfl (by decide) rfl (fun ls hl => ?_)
        refine lv_goto (tgt := 19) hx hb dX10_unseen_62 (by decide) ?_
        exact ih jx2 jx3 (jx4 + (1 : Int32)) ls hf (lv_sub hl [1, 2, 3, 4, 0] rfl)
      · have hf := ite_f jc7 hf
        refine lv_iinc (v := (jx2 + (1 : Int32))) (lv' := [(2, .int (jx2 + (1 : Int32))), (0, .ref a_t), (1, .int jx1), (3, .int jx3), (4, .int jx4)]) hx hb dX10_unseen_47 hl (k := 2) rfl rfl (by decide) rfl (fun ls hl => ?_)
        refine lv_iload_n hx hb dX10_unseen_50 rfl (lv_at hl 3 rfl) ?_
        refine lv_bipush (v := -9) hx hb dX10_unseen_51 (by decide) ?_
        refine lv_icmp_ne (tgt := 59) hx hb dX10_unseen_53 (by decide) (fun jc8 => ?_) (fun jc8 => ?_)
        · have hf := ite_f jc8 hf
          refine lv_iinc (v := (jx4 + (1 : Int32))) (lv' := [(4, .int (jx4 + (1 : Int32))), (2, .int (jx2 + (1 : Int32))), (0, .ref a_t), (1, .int jx1), (3, .int jx3)]) hx hb dX10_unseen_59 hl (k := 4) rfl rfl (by decide) rfl (fun ls hl => ?_)
          refine lv_goto (tgt := 19) hx hb dX10_unseen_62 (by decide) ?_
          exact ih (jx2 + (1 : Int32)) jx3 (jx4 + (1 : Int32)) ls hf (lv_sub hl [2, 3, 1, 4, 0] rfl)
        · have hf := ite_t jc8 hf
          refine lv_iload hx hb dX10_unseen_56 (lv_at hl 4 rfl) ?_
          refine lv_istore_n (lv' := [(3, .int jx4), (2, .int (jx2 + (1 : Int32))), (0, .ref a_t), (1, .int jx1), (4, .int jx4)]) hx hb dX10_unseen_58 rfl hl (by decide) rfl (fun ls hl => ?_)
          refine lv_iinc (v := (jx4 + (1 : Int32))) (lv' := [(4, .int (jx4 + (1 : Int32))), (3, .int jx4), (2, .int (jx2 + (1 : Int32))), (0, .ref a_t), (1, .int jx1)]) hx hb dX10_unseen_59 hl (k := 4) rfl rfl (by decide) rfl (fun ls hl => ?_)
          refine lv_goto (tgt := 19) hx hb dX10_unseen_62 (by decide) ?_
          exact ih (jx2 + (1 : Int32)) jx4 (jx4 + (1 : Int32)) ls hf (lv_sub hl [3, 4, 2, 1, 0] rfl)
theorem hdX10_unseen : yX10_unseen.cls ≠ "java/lang/invoke/MethodHandle" ∧ yX10_unseen.cls ≠ "java/lang/invoke/VarHandle" ∧ (parseMethodDescriptor yX10_unseen.desc).map (fun d => d.parameters.length) = some 1 := by decide +kernel
set_option maxHeartbeats 4000000 in
set_option maxRecDepth 100000 in
theorem ctX10_unseen (l : Launch) (D : va_G) (cI cZ : ClassId) (a_t a_t_text a_t_telling a_t_now a_t_past a_t_images a_t_meeting a_t_seen a_t_chances a_t_search a_t_now_row a_t_seen_ways a_t_seen_enough : Nat) (jx1 : Int32) (v_t_now_row : (Nat → Int32)) (v_t_seen_size : Int32) (v_t_seen_ways : (Nat → Int32)) (v_t_seen_enough : (Nat → Int32)) (v_t_valueRead : Int32) (r : Int32) (hf : fX10_unseen jx1 v_t_now_row v_t_seen_size v_t_seen_ways v_t_seen_enough = some r) : cR l yX10_unseen wsX10_unseen rmX10_unseen [.ref a_t, .int jx1] D [(a_t, .inr (10, [.ref a_t_text, .ref a_t_telling, .ref a_t_now, .ref a_t_past, .ref a_t_images, .ref a_t_meeting, .ref a_t_seen, .ref a_t_chances, .ref a_t_search, .int v_t_valueRead])), (a_t_now, .inr (7, [.ref a_t_now_row])), (a_t_now_row, .inl (cI, 104, .inl v_t_now_row)), (a_t_seen, .inr (6, [.ref a_t_seen_ways, .ref a_t_seen_enough, .int v_t_seen_size])), (a_t_seen_ways, .inl (cI, 6, .inl v_t_seen_ways)), (a_t_seen_enough, .inl (cZ, 6, .inl v_t_seen_enough))] (KX D cI cZ) r := by
  refine cR_of (cc := cX10_unseen) (maxL := 5) (ret := some .int) (by decide +kernel) rfl _ (Nat.le_of_ble_eq_true rfl) ?_
  intro p e s m below meth c ls S hr hlk hP hK hl
  obtain ⟨hx, hb, hml, hown, hts⟩ := id S
  have hl : lv_has ls 5 [(0, .ref a_t), (1, .int jx1)] := hl
  unfold fX10_unseen at hf
  refine lv_iload_n hx hb dX10_unseen_0 rfl (lv_at hl 1 rfl) ?_
  refine lv_iconst (v := 0) hx hb dX10_unseen_1 (by decide) ?_
  refine lv_iconst (v := 1) hx hb dX10_unseen_2 (by decide) ?_
  obtain ⟨jr1, je2, hf⟩ := bd1_inv hf
  refine callRS (As := [.int jx1, .int (0 : Int32), .int (1 : Int32)]) (rest := []) S (ctX10_isWithin l D cI cZ jx1 (0 : Int32) (1 : Int32) jr1 je2) (va_cwS 3 hts gX10_unseen_X10_isWithin rfl rfl rfl hdX10_isWithin ⟨Nat.le_of_ble_eq_true rfl, Nat.le_of_ble_eq_true rfl⟩) hP [] rfl KX.xs (fun U _ hW => hK.warm hW) rfl hl.1 rfl (Nat.le_of_ble_eq_true rfl) dX10_unseen_3 ⟨Nat.zero_le _, Nat.zero_le _⟩ ?_
  refine lv_if_ne (tgt := 11) hx hb dX10_unseen_6 (by decide) (fun jc3 => ?_) (fun jc3 => ?_)
  · have hf := ite_f jc3 hf
    refine lv_iconst (v := 0) hx hb dX10_unseen_11 (by decide) ?_
    refine lv_istore_n (lv' := [(2, .int (0 : Int32)), (0, .ref a_t), (1, .int jx1)]) hx hb dX10_unseen_12 rfl hl (by decide) rfl (fun ls hl => ?_)
    refine lv_bipush (v := -9) hx hb dX10_unseen_13 (by decide) ?_
    refine lv_istore_n (lv' := [(3, .int (-9 : Int32)), (2, .int (0 : Int32)), (0, .ref a_t), (1, .int jx1)]) hx hb dX10_unseen_15 rfl hl (by decide) rfl (fun ls hl => ?_)
    refine lv_iconst (v := 0) hx hb dX10_unseen_16 (by decide) ?_
    refine lv_istore (lv' := [(4, .int (0 : Int32)), (3, .int (-9 : Int32)), (2, .int (0 : Int32)), (0, .ref a_t), (1, .int jx1)]) hx hb dX10_unseen_17 hl (by decide) rfl (fun ls hl => ?_)
    exact wX10_unseen_19 S hr hlk hK hP fuel (0 : Int32) (-9 : Int32) (0 : Int32) ls hf (lv_sub hl [3, 4, 2, 1, 0] rfl)
  · have hf := ite_t jc3 hf
    refine lv_iconst (v := -1) hx hb dX10_unseen_9 (by decide) ?_
    obtain rfl := Option.some.inj hf
    exact retR hx hb hr hlk dX10_unseen_10
def fX10_keep (jx1 : Int32) (v_t_now_row : (Nat → Int32)) (v_t_images_rows : (Nat → Int32)) (v_t_images_kept : (Nat → Int32)) : Option (Int32 × (Nat → Int32) × (Nat → Int32)) := bd1 (fX10_isWithin jx1 (0 : Int32) (1 : Int32)) (fun jr1 => if jr1 = 0 then some ((-1 : Int32), v_t_images_rows, v_t_images_kept) else bd2 (fX1_store jx1 v_t_images_rows v_t_images_kept v_t_now_row) (fun jg4 jg5 => bd1 (fX7_copies v_t_now_row) (fun jr7 => some (jr7, jg4, jg5))))
abbrev rmX10_keep : Room := { frames := 3, cells := 0, slots := 0, locals := 70 }
theorem iX10_keep_X10 : ∀ w ∈ wsX100, w ∈ wsX10_keep := fun _ h => List.mem_cons_of_mem _ (List.mem_append_left _ (List.mem_append_left _ (List.mem_append_right _ h)))
theorem mX10_keep_1 : (Cond.fieldLink RX10 42 "VoteFiles" "images" "LVoteFiles$Images;") ∈ wsX10_keep := List.mem_of_getElem? (i := 1) rfl
theorem mX10_keep_2 : (Cond.fieldLink RX10 28 "VoteFiles" "now" "LVoteFiles$Shape;") ∈ wsX10_keep := List.mem_of_getElem? (i := 2) rfl
theorem hdX10_keep : yX10_keep.cls ≠ "java/lang/invoke/MethodHandle" ∧ yX10_keep.cls ≠ "java/lang/invoke/VarHandle" ∧ (parseMethodDescriptor yX10_keep.desc).map (fun d => d.parameters.length) = some 1 := by decide +kernel
set_option maxHeartbeats 4000000 in
set_option maxRecDepth 100000 in
theorem ctX10_keep (l : Launch) (D : va_G) (cI cZ : ClassId) (a_t a_t_text a_t_telling a_t_now a_t_past a_t_images a_t_meeting a_t_seen a_t_chances a_t_search a_t_now_row a_t_images_rows a_t_images_kept : Nat) (jx1 : Int32) (v_t_now_row : (Nat → Int32)) (v_t_images_rows : (Nat → Int32)) (v_t_images_kept : (Nat → Int32)) (v_t_valueRead : Int32) (r : Int32) (o_t_images_rows : (Nat → Int32)) (o_t_images_kept : (Nat → Int32)) (hf : fX10_keep jx1 v_t_now_row v_t_images_rows v_t_images_kept = some (r, o_t_images_rows, o_t_images_kept)) : cM l yX10_keep wsX10_keep rmX10_keep [.ref a_t, .int jx1] D [(a_t, .inr (10, [.ref a_t_text, .ref a_t_telling, .ref a_t_now, .ref a_t_past, .ref a_t_images, .ref a_t_meeting, .ref a_t_seen, .ref a_t_chances, .ref a_t_search, .int v_t_valueRead])), (a_t_now, .inr (7, [.ref a_t_now_row])), (a_t_now_row, .inl (cI, 104, .inl v_t_now_row)), (a_t_images, .inr (1, [.ref a_t_images_rows, .ref a_t_images_kept])), (a_t_images_rows, .inl (cI, 208, .inl v_t_images_rows)), (a_t_images_kept, .inl (cZ, 2, .inl v_t_images_kept))] [(a_t, .inr (10, [.ref a_t_text, .ref a_t_telling, .ref a_t_now, .ref a_t_past, .ref a_t_images, .ref a_t_meeting, .ref a_t_seen, .ref a_t_chances, .ref a_t_search, .int v_t_valueRead])), (a_t_now, .inr (7, [.ref a_t_now_row])), (a_t_now_row, .inl (cI, 104, .inl v_t_now_row)), (a_t_images, .inr (1, [.ref a_t_images_rows, .ref a_t_images_kept])), (a_t_images_rows, .inl (cI, 208, .inl o_t_images_rows)), (a_t_images_kept, .inl (cZ, 2, .inl o_t_images_kept))] (KX D cI cZ) (some (.int r)) := by
  refine cM_of (cc := cX10_keep) (maxL := 2) (ret := some .int) (by decide +kernel) rfl _ (Nat.le_of_ble_eq_true rfl) ?_
  intro p e s m below meth c ls A S hr hlk hP hK hl hD hA hS
  obtain ⟨hx, hb, hml, hown, hts⟩ := id S
  have hl : lv_has ls 2 [(0, .ref a_t), (1, .int jx1)] := hl
  unfold fX10_keep at hf
  refine lv_iload_n hx hb dX10_keep_0 rfl (lv_at hl 1 rfl) ?_
  refine lv_iconst (v := 0) hx hb dX10_keep_1 (by decide) ?_
  refine lv_iconst (v := 1) hx hb dX10_keep_2 (by decide) ?_
  obtain ⟨jr1, je2, hf⟩ := bd1_inv hf
  refine callRS (As := [.int jx1, .int (0 : Int32), .int (1 : Int32)]) (rest := []) S (ctX10_isWithin l D cI cZ jx1 (0 : Int32) (1 : Int32) jr1 je2) (va_cwS 3 hts gX10_keep_X10_isWithin rfl rfl rfl hdX10_isWithin ⟨Nat.le_of_ble_eq_true rfl, Nat.le_of_ble_eq_true rfl⟩) hP [] rfl KX.xs (fun U _ hW => hK.warm hW) rfl hl.1 rfl (Nat.le_of_ble_eq_true rfl) dX10_keep_3 ⟨Nat.zero_le _, Nat.zero_le _⟩ ?_
  refine lv_if_ne (tgt := 11) hx hb dX10_keep_6 (by decide) (fun jc3 => ?_) (fun jc3 => ?_)
  · have hf := ite_f jc3 hf
    refine lv_aload_n hx hb dX10_keep_11 rfl (lv_at hl 0 rfl) ?_
    refine va_get (D := D) (ci := 10) (v := .ref a_t_images) (C := RX10) (T := TX10) (N := 10) hx hb hts iX10_keep_X10 hown hK.1 hP 0 rfl rfl 4 (by decide) (hts _ mX10_keep_1) (fun _ h9 => h9) rfl dX10_keep_12 ?_
    refine lv_iload_n hx hb dX10_keep_15 rfl (lv_at hl 1 rfl) ?_
    refine lv_aload_n hx hb dX10_keep_16 rfl (lv_at hl 0 rfl) ?_
    refine va_get (D := D) (ci := 10) (v := .ref a_t_now) (C := RX10) (T := TX10) (N := 10) hx hb hts iX10_keep_X10 hown hK.1 hP 0 rfl rfl 2 (by decide) (hts _ mX10_keep_2) (fun _ h9 => h9) rfl dX10_keep_17 ?_
    obtain ⟨jg4, jg5, je6, hf⟩ := bd2_inv hf
    refine callMV (As := [.int jx1, .ref a_t_now]) (rest := []) (wr := [(a_t, .inr (10, [.ref a_t_text, .ref a_t_telling, .ref a_t_now, .ref a_t_past, .ref a_t_images, .ref a_t_meeting, .ref a_t_seen, .ref a_t_chances, .ref a_t_search, .int v_t_valueRead]))]) (wn := [(a_t, .inr (10, [.ref a_t_text, .ref a_t_telling, .ref a_t_now, .ref a_t_past, .ref a_t_images, .ref a_t_meeting, .ref a_t_seen, .ref a_t_chances, .ref a_t_search, .int v_t_valueRead])), (a_t_now, .inr (7, [.ref a_t_now_row])), (a_t_now_row, .inl (cI, 104, .inl v_t_now_row)), (a_t_images, .inr (1, [.ref a_t_images_rows, .ref a_t_images_kept])), (a_t_images_rows, .inl (cI, 208, .inl jg4)), (a_t_images_kept, .inl (cZ, 2, .inl jg5))]) S (ctX1_store l D cI cZ a_t_images a_t_images_rows a_t_images_kept a_t_now a_t_now_row jx1 v_t_images_rows v_t_images_kept v_t_now_row jg4 jg5 je6) (cwV 2 hts gX10_keep_X1_store rfl rfl rfl ⟨rfl, hdX1_store⟩ ⟨Nat.le_of_ble_eq_true rfl, Nat.le_of_ble_eq_true rfl⟩) hP hD hS hA [3, 4, 5, 1, 2] [0] [0, 4, 5, 1, 2, 3] rfl rfl (by decide) (by decide) (by decide) (by decide) rfl KX.xs (fun U _ hW => hK.warm hW) (va_recv hK.1 hP (ci := 1) (q0 := 3) rfl rfl) rfl hl.1 rfl (Nat.le_of_ble_eq_true rfl) dX10_keep_20 ⟨Nat.zero_le _, Nat.zero_le _⟩ (fun H locs hP hD hS => ?_)
    refine W.eq (g2 := F0 m 23 ls []) rfl ?_
    refine lv_aload_n hx hb dX10_keep_23 rfl (lv_at hl 0 rfl) ?_
    refine va_get (D := D) (ci := 10) (v := .ref a_t_now) (C := RX10) (T := TX10) (N := 10) hx hb hts iX10_keep_X10 hown hK.1 hP 0 rfl rfl 2 (by decide) (hts _ mX10_keep_2) (fun _ h9 => h9) rfl dX10_keep_24 ?_
    obtain ⟨jr7, je8, hf⟩ := bd1_inv hf
    refine callRV (As := []) (rest := []) S (ctX7_copies l D cI cZ a_t_now a_t_now_row v_t_now_row jr7 je8) (cwV 0 hts gX10_keep_X7_copies rfl rfl rfl ⟨rfl, hdX7_copies⟩ ⟨Nat.le_of_ble_eq_true rfl, Nat.le_of_ble_eq_true rfl⟩) hP [1, 2] rfl KX.xs (fun U _ hW => hK.warm hW) (va_recv hK.1 hP (ci := 7) (q0 := 1) rfl rfl) rfl hl.1 rfl (Nat.le_of_ble_eq_true rfl) dX10_keep_27 ⟨Nat.zero_le _, Nat.zero_le _⟩ ?_
    obtain ⟨rfl, rfl, rfl⟩ := pr3_inv hf
    exact retM hx hb hr hlk hP hD hS dX10_keep_30
  · have hf := ite_t jc3 hf
    refine lv_iconst (v := -1) hx hb dX10_keep_9 (by decide) ?_
    obtain ⟨rfl, rfl, rfl⟩ := pr3_inv hf
    exact retM hx hb hr hlk hP hD hS dX10_keep_10
def fX10_back (jx1 : Int32) (v_t_now_row : (Nat → Int32)) (v_t_past_size : Int32) (v_t_images_rows : (Nat → Int32)) (v_t_images_kept : (Nat → Int32)) : Option (Int32 × (Nat → Int32) × Int32) := bd1 (fX10_isWithin jx1 (0 : Int32) (1 : Int32)) (fun jr1 => if jr1 = 0 then some ((-1 : Int32), v_t_now_row, v_t_past_size) else bd2 (fX1_restore jx1 v_t_images_rows v_t_images_kept v_t_now_row) (fun jr4 jg5 => if jr4 = 0 then some ((-2 : Int32), jg5, v_t_past_size) else bd1 (fX7_copies jg5) (fun jr8 => some (jr8, jg5, (0 : Int32)))))
abbrev rmX10_back : Room := { frames := 3, cells := 0, slots := 0, locals := 70 }
theorem iX10_back_X10 : ∀ w ∈ wsX100, w ∈ wsX10_back := fun _ h => List.mem_cons_of_mem _ (List.mem_append_left _ (List.mem_append_left _ (List.mem_append_left _ (List.mem_append_right _ h))))
theorem mX10_back_1 : (Cond.fieldLink RX10 42 "VoteFiles" "images" "LVoteFiles$Images;") ∈ wsX10_back := List.mem_of_getElem? (i := 1) rfl
theorem mX10_back_2 : (Cond.fieldLink RX10 28 "VoteFiles" "now" "LVoteFiles$Shape;") ∈ wsX10_back := List.mem_of_getElem? (i := 2) rfl
theorem mX10_back_3 : (Cond.fieldLink RX10 35 "VoteFiles" "past" "LVoteFiles$Past;") ∈ wsX10_back := List.mem_of_getElem? (i := 3) rfl
theorem iX10_back_X4 : ∀ w ∈ wsX40, w ∈ wsX10_back := fun _ h => List.mem_cons_of_mem _ (List.mem_append_left _ (List.mem_append_left _ (List.mem_append_right _ h)))
theorem mX10_back_4 : (Cond.fieldLink RX10 97 "VoteFiles$Past" "size" "I") ∈ wsX10_back := List.mem_of_getElem? (i := 4) rfl
theorem hdX10_back : yX10_back.cls ≠ "java/lang/invoke/MethodHandle" ∧ yX10_back.cls ≠ "java/lang/invoke/VarHandle" ∧ (parseMethodDescriptor yX10_back.desc).map (fun d => d.parameters.length) = some 1 := by decide +kernel
set_option maxHeartbeats 4000000 in
set_option maxRecDepth 100000 in
theorem ctX10_back (l : Launch) (D : va_G) (cI cZ : ClassId) (a_t a_t_text a_t_telling a_t_now a_t_past a_t_images a_t_meeting a_t_seen a_t_chances a_t_search a_t_now_row a_t_past_rows a_t_images_rows a_t_images_kept : Nat) (jx1 : Int32) (v_t_now_row : (Nat → Int32)) (v_t_past_size : Int32) (v_t_images_rows : (Nat → Int32)) (v_t_images_kept : (Nat → Int32)) (v_t_valueRead : Int32) (v_t_past_next : Int32) (r : Int32) (o_t_now_row : (Nat → Int32)) (o_t_past_size : Int32) (hf : fX10_back jx1 v_t_now_row v_t_past_size v_t_images_rows v_t_images_kept = some (r, o_t_now_row, o_t_past_size)) : cM l yX10_back wsX10_back rmX10_back [.ref a_t, .int jx1] D [(a_t, .inr (10, [.ref a_t_text, .ref a_t_telling, .ref a_t_now, .ref a_t_past, .ref a_t_images, .ref a_t_meeting, .ref a_t_seen, .ref a_t_chances, .ref a_t_search, .int v_t_valueRead])), (a_t_now, .inr (7, [.ref a_t_now_row])), (a_t_now_row, .inl (cI, 104, .inl v_t_now_row)), (a_t_past, .inr (4, [.ref a_t_past_rows, .int v_t_past_next, .int v_t_past_size])), (a_t_images, .inr (1, [.ref a_t_images_rows, .ref a_t_images_kept])), (a_t_images_rows, .inl (cI, 208, .inl v_t_images_rows)), (a_t_images_kept, .inl (cZ, 2, .inl v_t_images_kept))] [(a_t, .inr (10, [.ref a_t_text, .ref a_t_telling, .ref a_t_now, .ref a_t_past, .ref a_t_images, .ref a_t_meeting, .ref a_t_seen, .ref a_t_chances, .ref a_t_search, .int v_t_valueRead])), (a_t_now, .inr (7, [.ref a_t_now_row])), (a_t_now_row, .inl (cI, 104, .inl o_t_now_row)), (a_t_past, .inr (4, [.ref a_t_past_rows, .int v_t_past_next, .int o_t_past_size])), (a_t_images, .inr (1, [.ref a_t_images_rows, .ref a_t_images_kept])), (a_t_images_rows, .inl (cI, 208, .inl v_t_images_rows)), (a_t_images_kept, .inl (cZ, 2, .inl v_t_images_kept))] (KX D cI cZ) (some (.int r)) := by
  refine cM_of (cc := cX10_back) (maxL := 2) (ret := some .int) (by decide +kernel) rfl _ (Nat.le_of_ble_eq_true rfl) ?_
  intro p e s m below meth c ls A S hr hlk hP hK hl hD hA hS
  obtain ⟨hx, hb, hml, hown, hts⟩ := id S
  have hl : lv_has ls 2 [(0, .ref a_t), (1, .int jx1)] := hl
  unfold fX10_back at hf
  refine lv_iload_n hx hb dX10_back_0 rfl (lv_at hl 1 rfl) ?_
  refine lv_iconst (v := 0) hx hb dX10_back_1 (by decide) ?_
  refine lv_iconst (v := 1) hx hb dX10_back_2 (by decide) ?_
  obtain ⟨jr1, je2, hf⟩ := bd1_inv hf
  refine callRS (As := [.int jx1, .int (0 : Int32), .int (1 : Int32)]) (rest := []) S (ctX10_isWithin l D cI cZ jx1 (0 : Int32) (1 : Int32) jr1 je2) (va_cwS 3 hts gX10_back_X10_isWithin rfl rfl rfl hdX10_isWithin ⟨Nat.le_of_ble_eq_true rfl, Nat.le_of_ble_eq_true rfl⟩) hP [] rfl KX.xs (fun U _ hW => hK.warm hW) rfl hl.1 rfl (Nat.le_of_ble_eq_true rfl) dX10_back_3 ⟨Nat.zero_le _, Nat.zero_le _⟩ ?_
  refine lv_if_ne (tgt := 11) hx hb dX10_back_6 (by decide) (fun jc3 => ?_) (fun jc3 => ?_)
  · have hf := ite_f jc3 hf
    refine lv_aload_n hx hb dX10_back_11 rfl (lv_at hl 0 rfl) ?_
    refine va_get (D := D) (ci := 10) (v := .ref a_t_images) (C := RX10) (T := TX10) (N := 10) hx hb hts iX10_back_X10 hown hK.1 hP 0 rfl rfl 4 (by decide) (hts _ mX10_back_1) (fun _ h9 => h9) rfl dX10_back_12 ?_
    refine lv_iload_n hx hb dX10_back_15 rfl (lv_at hl 1 rfl) ?_
    refine lv_aload_n hx hb dX10_back_16 rfl (lv_at hl 0 rfl) ?_
    refine va_get (D := D) (ci := 10) (v := .ref a_t_now) (C := RX10) (T := TX10) (N := 10) hx hb hts iX10_back_X10 hown hK.1 hP 0 rfl rfl 2 (by decide) (hts _ mX10_back_2) (fun _ h9 => h9) rfl dX10_back_17 ?_
    obtain ⟨jr4, jg5, je6, hf⟩ := bd2_inv hf
    refine callMV (As := [.int jx1, .ref a_t_now]) (rest := []) (wr := [(a_t, .inr (10, [.ref a_t_text, .ref a_t_telling, .ref a_t_now, .ref a_t_past, .ref a_t_images, .ref a_t_meeting, .ref a_t_seen, .ref a_t_chances, .ref a_t_search, .int v_t_valueRead])), (a_t_past, .inr (4, [.ref a_t_past_rows, .int v_t_past_next, .int v_t_past_size]))]) (wn := [(a_t, .inr (10, [.ref a_t_text, .ref a_t_telling, .ref a_t_now, .ref a_t_past, .ref a_t_images, .ref a_t_meeting, .ref a_t_seen, .ref a_t_chances, .ref a_t_search, .int v_t_valueRead])), (a_t_now, .inr (7, [.ref a_t_now_row])), (a_t_now_row, .inl (cI, 104, .inl jg5)), (a_t_past, .inr (4, [.ref a_t_past_rows, .int v_t_past_next, .int v_t_past_size])), (a_t_images, .inr (1, [.ref a_t_images_rows, .ref a_t_images_kept])), (a_t_images_rows, .inl (cI, 208, .inl v_t_images_rows)), (a_t_images_kept, .inl (cZ, 2, .inl v_t_images_kept))]) S (ctX1_restore l D cI cZ a_t_images a_t_images_rows a_t_images_kept a_t_now a_t_now_row jx1 v_t_images_rows v_t_images_kept v_t_now_row jr4 jg5 je6) (cwV 2 hts gX10_back_X1_restore rfl rfl rfl ⟨rfl, hdX1_restore⟩ ⟨Nat.le_of_ble_eq_true rfl, Nat.le_of_ble_eq_true rfl⟩) hP hD hS hA [4, 5, 6, 1, 2] [0, 3] [0, 5, 6, 1, 2, 3, 4] rfl rfl (by decide) (by decide) (by decide) (by decide) rfl KX.xs (fun U _ hW => hK.warm hW) (va_recv hK.1 hP (ci := 1) (q0 := 4) rfl rfl) rfl hl.1 rfl (Nat.le_of_ble_eq_true rfl) dX10_back_20 ⟨Nat.zero_le _, Nat.zero_le _⟩ (fun H locs hP hD hS => ?_)
    refine W.eq (g2 := F0 m 23 ls [.int jr4]) rfl ?_
    refine lv_if_ne (tgt := 29) hx hb dX10_back_23 (by decide) (fun jc7 => ?_) (fun jc7 => ?_)
    · have hf := ite_f jc7 hf
      refine lv_aload_n hx hb dX10_back_29 rfl (lv_at hl 0 rfl) ?_
      refine va_get (D := D) (ci := 10) (v := .ref a_t_past) (C := RX10) (T := TX10) (N := 10) hx hb hts iX10_back_X10 hown hK.1 hP 0 rfl rfl 3 (by decide) (hts _ mX10_back_3) (fun _ h9 => h9) rfl dX10_back_30 ?_
      refine lv_iconst (v := 0) hx hb dX10_back_33 (by decide) ?_
      refine va_put (D := D) (ci := 4) (v := .int (0 : Int32)) (ty := .int) (C := RX4) (T := TX4) (N := 3) hx hb hts iX10_back_X4 tyX4 tyX4_ok nmX4 hown hK.1 hP hD hS 3 rfl rfl 2 (by decide) (hts _ mX10_back_4) (fun _ h9 => h9) rfl (tyX4_ok 2 (by decide)) rfl rfl (Nat.le_of_ble_eq_true rfl) dX10_back_34 (fun H locs hP hD hS => ?_)
      have hP : va_P D vwCl [(a_t, .inr (10, [.ref a_t_text, .ref a_t_telling, .ref a_t_now, .ref a_t_past, .ref a_t_images, .ref a_t_meeting, .ref a_t_seen, .ref a_t_chances, .ref a_t_search, .int v_t_valueRead])), (a_t_now, .inr (7, [.ref a_t_now_row])), (a_t_now_row, .inl (cI, 104, .inl jg5)), (a_t_past, .inr (4, [.ref a_t_past_rows, .int v_t_past_next, .int (0 : Int32)])), (a_t_images, .inr (1, [.ref a_t_images_rows, .ref a_t_images_kept])), (a_t_images_rows, .inl (cI, 208, .inl v_t_images_rows)), (a_t_images_kept, .inl (cZ, 2, .inl v_t_images_kept))] H := hP
      have hD : va_D A [(a_t, .inr (10, [.ref a_t_text, .ref a_t_telling, .ref a_t_now, .ref a_t_past, .ref a_t_images, .ref a_t_meeting, .ref a_t_seen, .ref a_t_chances, .ref a_t_search, .int v_t_valueRead])), (a_t_now, .inr (7, [.ref a_t_now_row])), (a_t_now_row, .inl (cI, 104, .inl jg5)), (a_t_past, .inr (4, [.ref a_t_past_rows, .int v_t_past_next, .int (0 : Int32)])), (a_t_images, .inr (1, [.ref a_t_images_rows, .ref a_t_images_kept])), (a_t_images_rows, .inl (cI, 208, .inl v_t_images_rows)), (a_t_images_kept, .inl (cZ, 2, .inl v_t_images_kept))] := hD
      refine lv_aload_n hx hb dX10_back_37 rfl (lv_at hl 0 rfl) ?_
      refine va_get (D := D) (ci := 10) (v := .ref a_t_now) (C := RX10) (T := TX10) (N := 10) hx hb hts iX10_back_X10 hown hK.1 hP 0 rfl rfl 2 (by decide) (hts _ mX10_back_2) (fun _ h9 => h9) rfl dX10_back_38 ?_
      obtain ⟨jr8, je9, hf⟩ := bd1_inv hf
      refine callRV (As := []) (rest := []) S (ctX7_copies l D cI cZ a_t_now a_t_now_row jg5 jr8 je9) (cwV 0 hts gX10_back_X7_copies rfl rfl rfl ⟨rfl, hdX7_copies⟩ ⟨Nat.le_of_ble_eq_true rfl, Nat.le_of_ble_eq_true rfl⟩) hP [1, 2] rfl KX.xs (fun U _ hW => hK.warm hW) (va_recv hK.1 hP (ci := 7) (q0 := 1) rfl rfl) rfl hl.1 rfl (Nat.le_of_ble_eq_true rfl) dX10_back_41 ⟨Nat.zero_le _, Nat.zero_le _⟩ ?_
      obtain ⟨rfl, rfl, rfl⟩ := pr3_inv hf
      exact retM hx hb hr hlk hP hD hS dX10_back_44
    · have hf := ite_t jc7 hf
      refine lv_bipush (v := -2) hx hb dX10_back_26 (by decide) ?_
      obtain ⟨rfl, rfl, rfl⟩ := pr3_inv hf
      exact retM hx hb hr hlk hP hD hS dX10_back_28
  · have hf := ite_t jc3 hf
    refine lv_iconst (v := -1) hx hb dX10_back_9 (by decide) ?_
    obtain ⟨rfl, rfl, rfl⟩ := pr3_inv hf
    exact retM hx hb hr hlk hP hD hS dX10_back_10
def fX10_count (jx1 : Int32) (v_t_text_length : Int32) (v_t_now_row : (Nat → Int32)) (v_t_past_size : Int32) (v_t_seen_size : Int32) : Option (Int32) := if jx1 = (0 : Int32) then bd1 (fX7_copies v_t_now_row) (fun jr2 => some jr2) else if jx1 = (1 : Int32) then bd1 (fX7_configurations v_t_now_row) (fun jr5 => some jr5) else if jx1 = (2 : Int32) then bd1 (fX7_newest v_t_now_row) (fun jr8 => bd1 (fX7_readOf jr8 v_t_now_row) (fun jr10 => some jr10)) else if jx1 = (3 : Int32) then bd1 (fX7_newest v_t_now_row) (fun jr13 => bd1 (fX7_writeOf jr13 v_t_now_row) (fun jr15 => some jr15)) else if jx1 = (4 : Int32) then bd1 (fX7_newest v_t_now_row) (fun jr18 => bd1 (fX7_total jr18 v_t_now_row) (fun jr20 => some jr20)) else if jx1 = (5 : Int32) then some v_t_seen_size else if jx1 = (6 : Int32) then some v_t_text_length else if jx1 = (7 : Int32) then some v_t_past_size else some (-1 : Int32)
abbrev rmX10_count : Room := { frames := 3, cells := 0, slots := 0, locals := 67 }
theorem iX10_count_X10 : ∀ w ∈ wsX100, w ∈ wsX10_count := fun _ h => List.mem_cons_of_mem _ (List.mem_append_left _ (List.mem_append_left _ (List.mem_append_left _ (List.mem_append_left _ (List.mem_append_right _ h)))))
theorem mX10_count_1 : (Cond.fieldLink RX10 28 "VoteFiles" "now" "LVoteFiles$Shape;") ∈ wsX10_count := List.mem_of_getElem? (i := 1) rfl
theorem mX10_count_2 : (Cond.fieldLink RX10 56 "VoteFiles" "seen" "LVoteFiles$Seen;") ∈ wsX10_count := List.mem_of_getElem? (i := 2) rfl
theorem iX10_count_X6 : ∀ w ∈ wsX60, w ∈ wsX10_count := fun _ h => List.mem_cons_of_mem _ (List.mem_append_left _ (List.mem_append_left _ (List.mem_append_left _ (List.mem_append_right _ h))))
theorem mX10_count_3 : (Cond.fieldLink RX10 100 "VoteFiles$Seen" "size" "I") ∈ wsX10_count := List.mem_of_getElem? (i := 3) rfl
theorem mX10_count_4 : (Cond.fieldLink RX10 12 "VoteFiles" "text" "LVoteFiles$Letters;") ∈ wsX10_count := List.mem_of_getElem? (i := 4) rfl
theorem iX10_count_X2 : ∀ w ∈ wsX20, w ∈ wsX10_count := fun _ h => List.mem_cons_of_mem _ (List.mem_append_left _ (List.mem_append_left _ (List.mem_append_right _ h)))
theorem mX10_count_5 : (Cond.fieldLink RX10 90 "VoteFiles$Letters" "length" "I") ∈ wsX10_count := List.mem_of_getElem? (i := 5) rfl
theorem mX10_count_6 : (Cond.fieldLink RX10 35 "VoteFiles" "past" "LVoteFiles$Past;") ∈ wsX10_count := List.mem_of_getElem? (i := 6) rfl
theorem iX10_count_X4 : ∀ w ∈ wsX40, w ∈ wsX10_count := fun _ h => List.mem_cons_of_mem _ (List.mem_append_left _ (List.mem_append_right _ h))
theorem mX10_count_7 : (Cond.fieldLink RX10 97 "VoteFiles$Past" "size" "I") ∈ wsX10_count := List.mem_of_getElem? (i := 7) rfl
theorem hdX10_count : yX10_count.cls ≠ "java/lang/invoke/MethodHandle" ∧ yX10_count.cls ≠ "java/lang/invoke/VarHandle" ∧ (parseMethodDescriptor yX10_count.desc).map (fun d => d.parameters.length) = some 1 := by decide +kernel
set_option maxHeartbeats 4000000 in
set_option maxRecDepth 100000 in
theorem ctX10_count (l : Launch) (D : va_G) (cI cZ : ClassId) (a_t a_t_text a_t_telling a_t_now a_t_past a_t_images a_t_meeting a_t_seen a_t_chances a_t_search a_t_text_letters a_t_now_row a_t_past_rows a_t_seen_ways a_t_seen_enough : Nat) (jx1 : Int32) (v_t_text_length : Int32) (v_t_now_row : (Nat → Int32)) (v_t_past_size : Int32) (v_t_seen_size : Int32) (v_t_valueRead : Int32) (v_t_past_next : Int32) (r : Int32) (hf : fX10_count jx1 v_t_text_length v_t_now_row v_t_past_size v_t_seen_size = some r) : cR l yX10_count wsX10_count rmX10_count [.ref a_t, .int jx1] D [(a_t, .inr (10, [.ref a_t_text, .ref a_t_telling, .ref a_t_now, .ref a_t_past, .ref a_t_images, .ref a_t_meeting, .ref a_t_seen, .ref a_t_chances, .ref a_t_search, .int v_t_valueRead])), (a_t_text, .inr (2, [.ref a_t_text_letters, .int v_t_text_length])), (a_t_now, .inr (7, [.ref a_t_now_row])), (a_t_now_row, .inl (cI, 104, .inl v_t_now_row)), (a_t_past, .inr (4, [.ref a_t_past_rows, .int v_t_past_next, .int v_t_past_size])), (a_t_seen, .inr (6, [.ref a_t_seen_ways, .ref a_t_seen_enough, .int v_t_seen_size]))] (KX D cI cZ) r := by
  refine cR_of (cc := cX10_count) (maxL := 2) (ret := some .int) (by decide +kernel) rfl _ (Nat.le_of_ble_eq_true rfl) ?_
  intro p e s m below meth c ls S hr hlk hP hK hl
  obtain ⟨hx, hb, hml, hown, hts⟩ := id S
  have hl : lv_has ls 2 [(0, .ref a_t), (1, .int jx1)] := hl
  unfold fX10_count at hf
  refine lv_iload_n hx hb dX10_count_0 rfl (lv_at hl 1 rfl) ?_
  by_cases jc1 : jx1 = (0 : Int32)
  · have hf := ite_t jc1 hf
    refine lv_tableIn (off := 47) (tgt := 48) hx hb dX10_count_1 (by rw [jc1]; decide) (by rw [jc1]; decide) (by rw [jc1]; decide +kernel) (by decide) ?_
    refine lv_aload_n hx hb dX10_count_48 rfl (lv_at hl 0 rfl) ?_
    refine va_get (D := D) (ci := 10) (v := .ref a_t_now) (C := RX10) (T := TX10) (N := 10) hx hb hts iX10_count_X10 hown hK.1 hP 0 rfl rfl 2 (by decide) (hts _ mX10_count_1) (fun _ h9 => h9) rfl dX10_count_49 ?_
    obtain ⟨jr2, je3, hf⟩ := bd1_inv hf
    refine callRV (As := []) (rest := []) S (ctX7_copies l D cI cZ a_t_now a_t_now_row v_t_now_row jr2 je3) (cwV 0 hts gX10_count_X7_copies rfl rfl rfl ⟨rfl, hdX7_copies⟩ ⟨Nat.le_of_ble_eq_true rfl, Nat.le_of_ble_eq_true rfl⟩) hP [2, 3] rfl KX.xs (fun U _ hW => hK.warm hW) (va_recv hK.1 hP (ci := 7) (q0 := 2) rfl rfl) rfl hl.1 rfl (Nat.le_of_ble_eq_true rfl) dX10_count_52 ⟨Nat.zero_le _, Nat.zero_le _⟩ ?_
    obtain rfl := Option.some.inj hf
    exact retR hx hb hr hlk dX10_count_55
  have hf := ite_f jc1 hf
  by_cases jc4 : jx1 = (1 : Int32)
  · have hf := ite_t jc4 hf
    refine lv_tableIn (off := 55) (tgt := 56) hx hb dX10_count_1 (by rw [jc4]; decide) (by rw [jc4]; decide) (by rw [jc4]; decide +kernel) (by decide) ?_
    refine lv_aload_n hx hb dX10_count_56 rfl (lv_at hl 0 rfl) ?_
    refine va_get (D := D) (ci := 10) (v := .ref a_t_now) (C := RX10) (T := TX10) (N := 10) hx hb hts iX10_count_X10 hown hK.1 hP 0 rfl rfl 2 (by decide) (hts _ mX10_count_1) (fun _ h9 => h9) rfl dX10_count_57 ?_
    obtain ⟨jr5, je6, hf⟩ := bd1_inv hf
    refine callRV (As := []) (rest := []) S (ctX7_configurations l D cI cZ a_t_now a_t_now_row v_t_now_row jr5 je6) (cwV 0 hts gX10_count_X7_configurations rfl rfl rfl ⟨rfl, hdX7_configurations⟩ ⟨Nat.le_of_ble_eq_true rfl, Nat.le_of_ble_eq_true rfl⟩) hP [2, 3] rfl KX.xs (fun U _ hW => hK.warm hW) (va_recv hK.1 hP (ci := 7) (q0 := 2) rfl rfl) rfl hl.1 rfl (Nat.le_of_ble_eq_true rfl) dX10_count_60 ⟨Nat.zero_le _, Nat.zero_le _⟩ ?_
    obtain rfl := Option.some.inj hf
    exact retR hx hb hr hlk dX10_count_63
  have hf := ite_f jc4 hf
  by_cases jc7 : jx1 = (2 : Int32)
  · have hf := ite_t jc7 hf
    refine lv_tableIn (off := 63) (tgt := 64) hx hb dX10_count_1 (by rw [jc7]; decide) (by rw [jc7]; decide) (by rw [jc7]; decide +kernel) (by decide) ?_
    refine lv_aload_n hx hb dX10_count_64 rfl (lv_at hl 0 rfl) ?_
    refine va_get (D := D) (ci := 10) (v := .ref a_t_now) (C := RX10) (T := TX10) (N := 10) hx hb hts iX10_count_X10 hown hK.1 hP 0 rfl rfl 2 (by decide) (hts _ mX10_count_1) (fun _ h9 => h9) rfl dX10_count_65 ?_
    refine lv_aload_n hx hb dX10_count_68 rfl (lv_at hl 0 rfl) ?_
    refine va_get (D := D) (ci := 10) (v := .ref a_t_now) (C := RX10) (T := TX10) (N := 10) hx hb hts iX10_count_X10 hown hK.1 hP 0 rfl rfl 2 (by decide) (hts _ mX10_count_1) (fun _ h9 => h9) rfl dX10_count_69 ?_
    obtain ⟨jr8, je9, hf⟩ := bd1_inv hf
    refine callRV (As := []) (rest := [.ref a_t_now]) S (ctX7_newest l D cI cZ a_t_now a_t_now_row v_t_now_row jr8 je9) (cwV 0 hts gX10_count_X7_newest rfl rfl rfl ⟨rfl, hdX7_newest⟩ ⟨Nat.le_of_ble_eq_true rfl, Nat.le_of_ble_eq_true rfl⟩) hP [2, 3] rfl KX.xs (fun U _ hW => hK.warm hW) (va_recv hK.1 hP (ci := 7) (q0 := 2) rfl rfl) rfl hl.1 rfl (Nat.le_of_ble_eq_true rfl) dX10_count_72 ⟨Nat.zero_le _, Nat.zero_le _⟩ ?_
    obtain ⟨jr10, je11, hf⟩ := bd1_inv hf
    refine callRV (As := [.int jr8]) (rest := []) S (ctX7_readOf l D cI cZ a_t_now a_t_now_row jr8 v_t_now_row jr10 je11) (cwV 1 hts gX10_count_X7_readOf rfl rfl rfl ⟨rfl, hdX7_readOf⟩ ⟨Nat.le_of_ble_eq_true rfl, Nat.le_of_ble_eq_true rfl⟩) hP [2, 3] rfl KX.xs (fun U _ hW => hK.warm hW) (va_recv hK.1 hP (ci := 7) (q0 := 2) rfl rfl) rfl hl.1 rfl (Nat.le_of_ble_eq_true rfl) dX10_count_75 ⟨Nat.zero_le _, Nat.zero_le _⟩ ?_
    obtain rfl := Option.some.inj hf
    exact retR hx hb hr hlk dX10_count_78
  have hf := ite_f jc7 hf
  by_cases jc12 : jx1 = (3 : Int32)
  · have hf := ite_t jc12 hf
    refine lv_tableIn (off := 78) (tgt := 79) hx hb dX10_count_1 (by rw [jc12]; decide) (by rw [jc12]; decide) (by rw [jc12]; decide +kernel) (by decide) ?_
    refine lv_aload_n hx hb dX10_count_79 rfl (lv_at hl 0 rfl) ?_
    refine va_get (D := D) (ci := 10) (v := .ref a_t_now) (C := RX10) (T := TX10) (N := 10) hx hb hts iX10_count_X10 hown hK.1 hP 0 rfl rfl 2 (by decide) (hts _ mX10_count_1) (fun _ h9 => h9) rfl dX10_count_80 ?_
    refine lv_aload_n hx hb dX10_count_83 rfl (lv_at hl 0 rfl) ?_
    refine va_get (D := D) (ci := 10) (v := .ref a_t_now) (C := RX10) (T := TX10) (N := 10) hx hb hts iX10_count_X10 hown hK.1 hP 0 rfl rfl 2 (by decide) (hts _ mX10_count_1) (fun _ h9 => h9) rfl dX10_count_84 ?_
    obtain ⟨jr13, je14, hf⟩ := bd1_inv hf
    refine callRV (As := []) (rest := [.ref a_t_now]) S (ctX7_newest l D cI cZ a_t_now a_t_now_row v_t_now_row jr13 je14) (cwV 0 hts gX10_count_X7_newest rfl rfl rfl ⟨rfl, hdX7_newest⟩ ⟨Nat.le_of_ble_eq_true rfl, Nat.le_of_ble_eq_true rfl⟩) hP [2, 3] rfl KX.xs (fun U _ hW => hK.warm hW) (va_recv hK.1 hP (ci := 7) (q0 := 2) rfl rfl) rfl hl.1 rfl (Nat.le_of_ble_eq_true rfl) dX10_count_87 ⟨Nat.zero_le _, Nat.zero_le _⟩ ?_
    obtain ⟨jr15, je16, hf⟩ := bd1_inv hf
    refine callRV (As := [.int jr13]) (rest := []) S (ctX7_writeOf l D cI cZ a_t_now a_t_now_row jr13 v_t_now_row jr15 je16) (cwV 1 hts gX10_count_X7_writeOf rfl rfl rfl ⟨rfl, hdX7_writeOf⟩ ⟨Nat.le_of_ble_eq_true rfl, Nat.le_of_ble_eq_true rfl⟩) hP [2, 3] rfl KX.xs (fun U _ hW => hK.warm hW) (va_recv hK.1 hP (ci := 7) (q0 := 2) rfl rfl) rfl hl.1 rfl (Nat.le_of_ble_eq_true rfl) dX10_count_90 ⟨Nat.zero_le _, Nat.zero_le _⟩ ?_
    obtain rfl := Option.some.inj hf
    exact retR hx hb hr hlk dX10_count_93
  have hf := ite_f jc12 hf
  by_cases jc17 : jx1 = (4 : Int32)
  · have hf := ite_t jc17 hf
    refine lv_tableIn (off := 93) (tgt := 94) hx hb dX10_count_1 (by rw [jc17]; decide) (by rw [jc17]; decide) (by rw [jc17]; decide +kernel) (by decide) ?_
    refine lv_aload_n hx hb dX10_count_94 rfl (lv_at hl 0 rfl) ?_
    refine va_get (D := D) (ci := 10) (v := .ref a_t_now) (C := RX10) (T := TX10) (N := 10) hx hb hts iX10_count_X10 hown hK.1 hP 0 rfl rfl 2 (by decide) (hts _ mX10_count_1) (fun _ h9 => h9) rfl dX10_count_95 ?_
    refine lv_aload_n hx hb dX10_count_98 rfl (lv_at hl 0 rfl) ?_
    refine va_get (D := D) (ci := 10) (v := .ref a_t_now) (C := RX10) (T := TX10) (N := 10) hx hb hts iX10_count_X10 hown hK.1 hP 0 rfl rfl 2 (by decide) (hts _ mX10_count_1) (fun _ h9 => h9) rfl dX10_count_99 ?_
    obtain ⟨jr18, je19, hf⟩ := bd1_inv hf
    refine callRV (As := []) (rest := [.ref a_t_now]) S (ctX7_newest l D cI cZ a_t_now a_t_now_row v_t_now_row jr18 je19) (cwV 0 hts gX10_count_X7_newest rfl rfl rfl ⟨rfl, hdX7_newest⟩ ⟨Nat.le_of_ble_eq_true rfl, Nat.le_of_ble_eq_true rfl⟩) hP [2, 3] rfl KX.xs (fun U _ hW => hK.warm hW) (va_recv hK.1 hP (ci := 7) (q0 := 2) rfl rfl) rfl hl.1 rfl (Nat.le_of_ble_eq_true rfl) dX10_count_102 ⟨Nat.zero_le _, Nat.zero_le _⟩ ?_
    obtain ⟨jr20, je21, hf⟩ := bd1_inv hf
    refine callRV (As := [.int jr18]) (rest := []) S (ctX7_total l D cI cZ a_t_now a_t_now_row jr18 v_t_now_row jr20 je21) (cwV 1 hts gX10_count_X7_total rfl rfl rfl ⟨rfl, hdX7_total⟩ ⟨Nat.le_of_ble_eq_true rfl, Nat.le_of_ble_eq_true rfl⟩) hP [2, 3] rfl KX.xs (fun U _ hW => hK.warm hW) (va_recv hK.1 hP (ci := 7) (q0 := 2) rfl rfl) rfl hl.1 rfl (Nat.le_of_ble_eq_true rfl) dX10_count_105 ⟨Nat.zero_le _, Nat.zero_le _⟩ ?_
    obtain rfl := Option.some.inj hf
    exact retR hx hb hr hlk dX10_count_108
  have hf := ite_f jc17 hf
  by_cases jc22 : jx1 = (5 : Int32)
  · have hf := ite_t jc22 hf
    refine lv_tableIn (off := 108) (tgt := 109) hx hb dX10_count_1 (by rw [jc22]; decide) (by rw [jc22]; decide) (by rw [jc22]; decide +kernel) (by decide) ?_
    refine lv_aload_n hx hb dX10_count_109 rfl (lv_at hl 0 rfl) ?_
    refine va_get (D := D) (ci := 10) (v := .ref a_t_seen) (C := RX10) (T := TX10) (N := 10) hx hb hts iX10_count_X10 hown hK.1 hP 0 rfl rfl 6 (by decide) (hts _ mX10_count_2) (fun _ h9 => h9) rfl dX10_count_110 ?_
    refine va_get (D := D) (ci := 6) (v := .int v_t_seen_size) (C := RX6) (T := TX6) (N := 3) hx hb hts iX10_count_X6 hown hK.1 hP 5 rfl rfl 2 (by decide) (hts _ mX10_count_3) (fun _ h9 => h9) rfl dX10_count_113 ?_
    obtain rfl := Option.some.inj hf
    exact retR hx hb hr hlk dX10_count_116
  have hf := ite_f jc22 hf
  by_cases jc23 : jx1 = (6 : Int32)
  · have hf := ite_t jc23 hf
    refine lv_tableIn (off := 116) (tgt := 117) hx hb dX10_count_1 (by rw [jc23]; decide) (by rw [jc23]; decide) (by rw [jc23]; decide +kernel) (by decide) ?_
    refine lv_aload_n hx hb dX10_count_117 rfl (lv_at hl 0 rfl) ?_
    refine va_get (D := D) (ci := 10) (v := .ref a_t_text) (C := RX10) (T := TX10) (N := 10) hx hb hts iX10_count_X10 hown hK.1 hP 0 rfl rfl 0 (by decide) (hts _ mX10_count_4) (fun _ h9 => h9) rfl dX10_count_118 ?_
    refine va_get (D := D) (ci := 2) (v := .int v_t_text_length) (C := RX2) (T := TX2) (N := 2) hx hb hts iX10_count_X2 hown hK.1 hP 1 rfl rfl 1 (by decide) (hts _ mX10_count_5) (fun _ h9 => h9) rfl dX10_count_121 ?_
    obtain rfl := Option.some.inj hf
    exact retR hx hb hr hlk dX10_count_124
  have hf := ite_f jc23 hf
  by_cases jc24 : jx1 = (7 : Int32)
  · have hf := ite_t jc24 hf
    refine lv_tableIn (off := 124) (tgt := 125) hx hb dX10_count_1 (by rw [jc24]; decide) (by rw [jc24]; decide) (by rw [jc24]; decide +kernel) (by decide) ?_
    refine lv_aload_n hx hb dX10_count_125 rfl (lv_at hl 0 rfl) ?_
    refine va_get (D := D) (ci := 10) (v := .ref a_t_past) (C := RX10) (T := TX10) (N := 10) hx hb hts iX10_count_X10 hown hK.1 hP 0 rfl rfl 3 (by decide) (hts _ mX10_count_6) (fun _ h9 => h9) rfl dX10_count_126 ?_
    refine va_get (D := D) (ci := 4) (v := .int v_t_past_size) (C := RX4) (T := TX4) (N := 3) hx hb hts iX10_count_X4 hown hK.1 hP 4 rfl rfl 2 (by decide) (hts _ mX10_count_7) (fun _ h9 => h9) rfl dX10_count_129 ?_
    obtain rfl := Option.some.inj hf
    exact retR hx hb hr hlk dX10_count_132
  have hf := ite_f jc24 hf
  have jh25 : (jx1).toInt < 0 ∨ 7 < (jx1).toInt := by
    refine sw_out (fun v h1 h2 => ?_)
    rcases (show v = 0 ∨ v = 1 ∨ v = 2 ∨ v = 3 ∨ v = 4 ∨ v = 5 ∨ v = 6 ∨ v = 7 by omega) with rfl | rfl | rfl | rfl | rfl | rfl | rfl | rfl
    · exact jc1
    · exact jc4
    · exact jc7
    · exact jc12
    · exact jc17
    · exact jc22
    · exact jc23
    · exact jc24
  refine lv_tableOut (tgt := 133) hx hb dX10_count_1 jh25 (by decide) ?_
  refine lv_iconst (v := -1) hx hb dX10_count_133 (by decide) ?_
  obtain rfl := Option.some.inj hf
  exact retR hx hb hr hlk dX10_count_134
