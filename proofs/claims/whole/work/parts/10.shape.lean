def fX7_setNeeds (jx1 : Int32) (jx2 : Int32) (jx3 : Int32) (v_t_row : (Nat → Int32)) : Option ((Nat → Int32)) := ckI 104 (((32 : Int32) + (jx1 * (9 : Int32))) + (7 : Int32)) (ckI 104 (((32 : Int32) + (jx1 * (9 : Int32))) + (8 : Int32)) (some (upd (upd v_t_row (Int32.toNatClampNeg (((32 : Int32) + (jx1 * (9 : Int32))) + (7 : Int32))) jx2) (Int32.toNatClampNeg (((32 : Int32) + (jx1 * (9 : Int32))) + (8 : Int32))) jx3)))
abbrev rmX7_setNeeds : Room := { frames := 0, cells := 0, slots := 0, locals := 0 }
theorem iX7_setNeeds_X7 : ∀ w ∈ wsX70, w ∈ wsX7_setNeeds := fun _ h => List.mem_cons_of_mem _ (List.mem_append_right _ h)
theorem mX7_setNeeds_1 : (Cond.fieldLink RX7 11 "VoteFiles$Shape" "row" "[I") ∈ wsX7_setNeeds := List.mem_of_getElem? (i := 1) rfl
theorem hdX7_setNeeds : yX7_setNeeds.cls ≠ "java/lang/invoke/MethodHandle" ∧ yX7_setNeeds.cls ≠ "java/lang/invoke/VarHandle" ∧ (parseMethodDescriptor yX7_setNeeds.desc).map (fun d => d.parameters.length) = some 3 := by decide +kernel
set_option maxHeartbeats 4000000 in
set_option maxRecDepth 100000 in
theorem ctX7_setNeeds (l : Launch) (D : va_G) (cI cZ : ClassId) (a_t a_t_row : Nat) (jx1 : Int32) (jx2 : Int32) (jx3 : Int32) (v_t_row : (Nat → Int32)) (o_t_row : (Nat → Int32)) (hf : fX7_setNeeds jx1 jx2 jx3 v_t_row = some o_t_row) : cM l yX7_setNeeds wsX7_setNeeds rmX7_setNeeds [.ref a_t, .int jx1, .int jx2, .int jx3] D [(a_t, .inr (7, [.ref a_t_row])), (a_t_row, .inl (cI, 104, .inl v_t_row))] [(a_t, .inr (7, [.ref a_t_row])), (a_t_row, .inl (cI, 104, .inl o_t_row))] (KX D cI cZ) none := by
  refine cM_of (cc := cX7_setNeeds) (maxL := 4) (ret := none) (by decide +kernel) rfl _ (Nat.le_of_ble_eq_true rfl) ?_
  intro p e s m below meth c ls A S hr hlk hP hK hl hD hA hS
  obtain ⟨hx, hb, hml, hown, hts⟩ := id S
  have hl : lv_has ls 4 [(0, .ref a_t), (1, .int jx1), (2, .int jx2), (3, .int jx3)] := hl
  unfold fX7_setNeeds at hf
  refine lv_aload_n hx hb dX7_setNeeds_0 rfl (lv_at hl 0 rfl) ?_
  refine va_get (D := D) (ci := 7) (v := .ref a_t_row) (C := RX7) (T := TX7) (N := 1) hx hb hts iX7_setNeeds_X7 hown hK.1 hP 0 rfl rfl 0 (by decide) (hts _ mX7_setNeeds_1) (fun _ h9 => h9) rfl dX7_setNeeds_1 ?_
  refine lv_bipush (v := 32) hx hb dX7_setNeeds_4 (by decide) ?_
  refine lv_iload_n hx hb dX7_setNeeds_6 rfl (lv_at hl 1 rfl) ?_
  refine lv_bipush (v := 9) hx hb dX7_setNeeds_7 (by decide) ?_
  refine lv_imul hx hb dX7_setNeeds_9 ?_
  refine lv_iadd hx hb dX7_setNeeds_10 ?_
  refine lv_bipush (v := 7) hx hb dX7_setNeeds_11 (by decide) ?_
  refine lv_iadd hx hb dX7_setNeeds_13 ?_
  refine lv_iload_n hx hb dX7_setNeeds_14 rfl (lv_at hl 2 rfl) ?_
  obtain ⟨jh1, hf⟩ := ckI_inv hf
  refine va_iast hx hb hK.1 hP hD hS 1 0 rfl rfl jh1 dX7_setNeeds_15 (fun H locs hP hD hS => ?_)
  have hP : va_P D vwCl [(a_t, .inr (7, [.ref a_t_row])), (a_t_row, .inl (cI, 104, .inl (upd v_t_row (Int32.toNatClampNeg (((32 : Int32) + (jx1 * (9 : Int32))) + (7 : Int32))) jx2)))] H := hP
  have hD : va_D A [(a_t, .inr (7, [.ref a_t_row])), (a_t_row, .inl (cI, 104, .inl (upd v_t_row (Int32.toNatClampNeg (((32 : Int32) + (jx1 * (9 : Int32))) + (7 : Int32))) jx2)))] := hD
  refine lv_aload_n hx hb dX7_setNeeds_16 rfl (lv_at hl 0 rfl) ?_
  refine va_get (D := D) (ci := 7) (v := .ref a_t_row) (C := RX7) (T := TX7) (N := 1) hx hb hts iX7_setNeeds_X7 hown hK.1 hP 0 rfl rfl 0 (by decide) (hts _ mX7_setNeeds_1) (fun _ h9 => h9) rfl dX7_setNeeds_17 ?_
  refine lv_bipush (v := 32) hx hb dX7_setNeeds_20 (by decide) ?_
  refine lv_iload_n hx hb dX7_setNeeds_22 rfl (lv_at hl 1 rfl) ?_
  refine lv_bipush (v := 9) hx hb dX7_setNeeds_23 (by decide) ?_
  refine lv_imul hx hb dX7_setNeeds_25 ?_
  refine lv_iadd hx hb dX7_setNeeds_26 ?_
  refine lv_bipush (v := 8) hx hb dX7_setNeeds_27 (by decide) ?_
  refine lv_iadd hx hb dX7_setNeeds_29 ?_
  refine lv_iload_n hx hb dX7_setNeeds_30 rfl (lv_at hl 3 rfl) ?_
  obtain ⟨jh2, hf⟩ := ckI_inv hf
  refine va_iast hx hb hK.1 hP hD hS 1 0 rfl rfl jh2 dX7_setNeeds_31 (fun H locs hP hD hS => ?_)
  have hP : va_P D vwCl [(a_t, .inr (7, [.ref a_t_row])), (a_t_row, .inl (cI, 104, .inl (upd (upd v_t_row (Int32.toNatClampNeg (((32 : Int32) + (jx1 * (9 : Int32))) + (7 : Int32))) jx2) (Int32.toNatClampNeg (((32 : Int32) + (jx1 * (9 : Int32))) + (8 : Int32))) jx3)))] H := hP
  have hD : va_D A [(a_t, .inr (7, [.ref a_t_row])), (a_t_row, .inl (cI, 104, .inl (upd (upd v_t_row (Int32.toNatClampNeg (((32 : Int32) + (jx1 * (9 : Int32))) + (7 : Int32))) jx2) (Int32.toNatClampNeg (((32 : Int32) + (jx1 * (9 : Int32))) + (8 : Int32))) jx3)))] := hD
  obtain rfl := Option.some.inj hf
  exact retMv hx hb hr hlk hP hD hS dX7_setNeeds_32
def fX7_setVoter (jx1 : Int32) (jx2 : Int32) (jx3 : Int32) (jx4 : Int32) (v_t_row : (Nat → Int32)) : Option ((Nat → Int32)) := ckI 104 (((32 : Int32) + (jx1 * (9 : Int32))) + jx2) (ckI 104 (((32 : Int32) + (jx1 * (9 : Int32))) + (6 : Int32)) (nmI (((upd v_t_row (Int32.toNatClampNeg (((32 : Int32) + (jx1 * (9 : Int32))) + jx2)) jx3) (Int32.toNatClampNeg (((32 : Int32) + (jx1 * (9 : Int32))) + (6 : Int32)))) &&& (((1 : Int32) <<< (jx2 &&& 31)) ^^^ (-1 : Int32))) (fun jz3 => if jx4 = 0 then ckI 104 (((32 : Int32) + (jx1 * (9 : Int32))) + (6 : Int32)) (some (upd (upd v_t_row (Int32.toNatClampNeg (((32 : Int32) + (jx1 * (9 : Int32))) + jx2)) jx3) (Int32.toNatClampNeg (((32 : Int32) + (jx1 * (9 : Int32))) + (6 : Int32))) jz3)) else ckI 104 (((32 : Int32) + (jx1 * (9 : Int32))) + (6 : Int32)) (some (upd (upd v_t_row (Int32.toNatClampNeg (((32 : Int32) + (jx1 * (9 : Int32))) + jx2)) jx3) (Int32.toNatClampNeg (((32 : Int32) + (jx1 * (9 : Int32))) + (6 : Int32))) (jz3 ||| ((1 : Int32) <<< (jx2 &&& 31))))))))
abbrev rmX7_setVoter : Room := { frames := 0, cells := 0, slots := 0, locals := 0 }
theorem iX7_setVoter_X7 : ∀ w ∈ wsX70, w ∈ wsX7_setVoter := fun _ h => List.mem_cons_of_mem _ (List.mem_append_right _ h)
theorem mX7_setVoter_1 : (Cond.fieldLink RX7 11 "VoteFiles$Shape" "row" "[I") ∈ wsX7_setVoter := List.mem_of_getElem? (i := 1) rfl
theorem hdX7_setVoter : yX7_setVoter.cls ≠ "java/lang/invoke/MethodHandle" ∧ yX7_setVoter.cls ≠ "java/lang/invoke/VarHandle" ∧ (parseMethodDescriptor yX7_setVoter.desc).map (fun d => d.parameters.length) = some 4 := by decide +kernel
set_option maxHeartbeats 4000000 in
set_option maxRecDepth 100000 in
theorem ctX7_setVoter (l : Launch) (D : va_G) (cI cZ : ClassId) (a_t a_t_row : Nat) (jx1 : Int32) (jx2 : Int32) (jx3 : Int32) (jx4 : Int32) (v_t_row : (Nat → Int32)) (o_t_row : (Nat → Int32)) (hf : fX7_setVoter jx1 jx2 jx3 jx4 v_t_row = some o_t_row) : cM l yX7_setVoter wsX7_setVoter rmX7_setVoter [.ref a_t, .int jx1, .int jx2, .int jx3, .int jx4] D [(a_t, .inr (7, [.ref a_t_row])), (a_t_row, .inl (cI, 104, .inl v_t_row))] [(a_t, .inr (7, [.ref a_t_row])), (a_t_row, .inl (cI, 104, .inl o_t_row))] (KX D cI cZ) none := by
  refine cM_of (cc := cX7_setVoter) (maxL := 7) (ret := none) (by decide +kernel) rfl _ (Nat.le_of_ble_eq_true rfl) ?_
  intro p e s m below meth c ls A S hr hlk hP hK hl hD hA hS
  obtain ⟨hx, hb, hml, hown, hts⟩ := id S
  have hl : lv_has ls 7 [(0, .ref a_t), (1, .int jx1), (2, .int jx2), (3, .int jx3), (4, .int jx4)] := hl
  unfold fX7_setVoter at hf
  refine lv_bipush (v := 32) hx hb dX7_setVoter_0 (by decide) ?_
  refine lv_iload_n hx hb dX7_setVoter_2 rfl (lv_at hl 1 rfl) ?_
  refine lv_bipush (v := 9) hx hb dX7_setVoter_3 (by decide) ?_
  refine lv_imul hx hb dX7_setVoter_5 ?_
  refine lv_iadd hx hb dX7_setVoter_6 ?_
  refine lv_istore (lv' := [(5, .int ((32 : Int32) + (jx1 * (9 : Int32)))), (0, .ref a_t), (1, .int jx1), (2, .int jx2), (3, .int jx3), (4, .int jx4)]) hx hb dX7_setVoter_7 hl (by decide) rfl (fun ls hl => ?_)
  refine lv_aload_n hx hb dX7_setVoter_9 rfl (lv_at hl 1 rfl) ?_
  refine va_get (D := D) (ci := 7) (v := .ref a_t_row) (C := RX7) (T := TX7) (N := 1) hx hb hts iX7_setVoter_X7 hown hK.1 hP 0 rfl rfl 0 (by decide) (hts _ mX7_setVoter_1) (fun _ h9 => h9) rfl dX7_setVoter_10 ?_
  refine lv_iload hx hb dX7_setVoter_13 (lv_at hl 0 rfl) ?_
  refine lv_iload_n hx hb dX7_setVoter_15 rfl (lv_at hl 3 rfl) ?_
  refine lv_iadd hx hb dX7_setVoter_16 ?_
  refine lv_iload_n hx hb dX7_setVoter_17 rfl (lv_at hl 4 rfl) ?_
  obtain ⟨jh1, hf⟩ := ckI_inv hf
  refine va_iast hx hb hK.1 hP hD hS 1 0 rfl rfl jh1 dX7_setVoter_18 (fun H locs hP hD hS => ?_)
  have hP : va_P D vwCl [(a_t, .inr (7, [.ref a_t_row])), (a_t_row, .inl (cI, 104, .inl (upd v_t_row (Int32.toNatClampNeg (((32 : Int32) + (jx1 * (9 : Int32))) + jx2)) jx3)))] H := hP
  have hD : va_D A [(a_t, .inr (7, [.ref a_t_row])), (a_t_row, .inl (cI, 104, .inl (upd v_t_row (Int32.toNatClampNeg (((32 : Int32) + (jx1 * (9 : Int32))) + jx2)) jx3)))] := hD
  refine lv_aload_n hx hb dX7_setVoter_19 rfl (lv_at hl 1 rfl) ?_
  refine va_get (D := D) (ci := 7) (v := .ref a_t_row) (C := RX7) (T := TX7) (N := 1) hx hb hts iX7_setVoter_X7 hown hK.1 hP 0 rfl rfl 0 (by decide) (hts _ mX7_setVoter_1) (fun _ h9 => h9) rfl dX7_setVoter_20 ?_
  refine lv_iload hx hb dX7_setVoter_23 (lv_at hl 0 rfl) ?_
  refine lv_bipush (v := 6) hx hb dX7_setVoter_25 (by decide) ?_
  refine lv_iadd hx hb dX7_setVoter_27 ?_
  obtain ⟨jh2, hf⟩ := ckI_inv hf
  refine va_iald hx hb hK.1 hP 1 0 rfl rfl jh2 dX7_setVoter_28 ?_
  refine lv_iconst (v := 1) hx hb dX7_setVoter_29 (by decide) ?_
  refine lv_iload_n hx hb dX7_setVoter_30 rfl (lv_at hl 3 rfl) ?_
  refine lv_ishl hx hb dX7_setVoter_31 ?_
  refine lv_iconst (v := -1) hx hb dX7_setVoter_32 (by decide) ?_
  refine lv_ixor hx hb dX7_setVoter_33 ?_
  refine lv_iand hx hb dX7_setVoter_34 ?_
  obtain ⟨jz3, ejz3, hf⟩ := nmI_inv hf
  refine lv_nmI ejz3 ?_
  refine lv_istore (lv' := [(6, .int jz3), (5, .int ((32 : Int32) + (jx1 * (9 : Int32)))), (0, .ref a_t), (1, .int jx1), (2, .int jx2), (3, .int jx3), (4, .int jx4)]) hx hb dX7_setVoter_35 hl (by decide) rfl (fun ls hl => ?_)
  refine lv_aload_n hx hb dX7_setVoter_37 rfl (lv_at hl 2 rfl) ?_
  refine va_get (D := D) (ci := 7) (v := .ref a_t_row) (C := RX7) (T := TX7) (N := 1) hx hb hts iX7_setVoter_X7 hown hK.1 hP 0 rfl rfl 0 (by decide) (hts _ mX7_setVoter_1) (fun _ h9 => h9) rfl dX7_setVoter_38 ?_
  refine lv_iload hx hb dX7_setVoter_41 (lv_at hl 1 rfl) ?_
  refine lv_bipush (v := 6) hx hb dX7_setVoter_43 (by decide) ?_
  refine lv_iadd hx hb dX7_setVoter_45 ?_
  refine lv_iload hx hb dX7_setVoter_46 (lv_at hl 6 rfl) ?_
  refine lv_if_eq (tgt := 60) hx hb dX7_setVoter_48 (by decide) (fun jc4 => ?_) (fun jc4 => ?_)
  · have hf := ite_t jc4 hf
    refine lv_iload hx hb dX7_setVoter_60 (lv_at hl 0 rfl) ?_
    obtain ⟨jh5, hf⟩ := ckI_inv hf
    refine va_iast hx hb hK.1 hP hD hS 1 0 rfl rfl jh5 dX7_setVoter_62 (fun H locs hP hD hS => ?_)
    have hP : va_P D vwCl [(a_t, .inr (7, [.ref a_t_row])), (a_t_row, .inl (cI, 104, .inl (upd (upd v_t_row (Int32.toNatClampNeg (((32 : Int32) + (jx1 * (9 : Int32))) + jx2)) jx3) (Int32.toNatClampNeg (((32 : Int32) + (jx1 * (9 : Int32))) + (6 : Int32))) jz3)))] H := hP
    have hD : va_D A [(a_t, .inr (7, [.ref a_t_row])), (a_t_row, .inl (cI, 104, .inl (upd (upd v_t_row (Int32.toNatClampNeg (((32 : Int32) + (jx1 * (9 : Int32))) + jx2)) jx3) (Int32.toNatClampNeg (((32 : Int32) + (jx1 * (9 : Int32))) + (6 : Int32))) jz3)))] := hD
    obtain rfl := Option.some.inj hf
    exact retMv hx hb hr hlk hP hD hS dX7_setVoter_63
  · have hf := ite_f jc4 hf
    refine lv_iload hx hb dX7_setVoter_51 (lv_at hl 0 rfl) ?_
    refine lv_iconst (v := 1) hx hb dX7_setVoter_53 (by decide) ?_
    refine lv_iload_n hx hb dX7_setVoter_54 rfl (lv_at hl 4 rfl) ?_
    refine lv_ishl hx hb dX7_setVoter_55 ?_
    refine lv_ior hx hb dX7_setVoter_56 ?_
    refine lv_goto (tgt := 62) hx hb dX7_setVoter_57 (by decide) ?_
    obtain ⟨jh6, hf⟩ := ckI_inv hf
    refine va_iast hx hb hK.1 hP hD hS 1 0 rfl rfl jh6 dX7_setVoter_62 (fun H locs hP hD hS => ?_)
    have hP : va_P D vwCl [(a_t, .inr (7, [.ref a_t_row])), (a_t_row, .inl (cI, 104, .inl (upd (upd v_t_row (Int32.toNatClampNeg (((32 : Int32) + (jx1 * (9 : Int32))) + jx2)) jx3) (Int32.toNatClampNeg (((32 : Int32) + (jx1 * (9 : Int32))) + (6 : Int32))) (jz3 ||| ((1 : Int32) <<< (jx2 &&& 31))))))] H := hP
    have hD : va_D A [(a_t, .inr (7, [.ref a_t_row])), (a_t_row, .inl (cI, 104, .inl (upd (upd v_t_row (Int32.toNatClampNeg (((32 : Int32) + (jx1 * (9 : Int32))) + jx2)) jx3) (Int32.toNatClampNeg (((32 : Int32) + (jx1 * (9 : Int32))) + (6 : Int32))) (jz3 ||| ((1 : Int32) <<< (jx2 &&& 31))))))] := hD
    obtain rfl := Option.some.inj hf
    exact retMv hx hb hr hlk hP hD hS dX7_setVoter_63
def fX7_begin_80 (jk55 : Int32 → (Nat → Int32) → Option ((Nat → Int32))) (v_p1_witnesses : Int32) (v_p1_copies : Int32) (v_p1_read : Int32) (v_p1_write : Int32) (v_p1_votes : (Nat → Int32)) (jx2 : Int32) (jy0 : Int32) (v_t_row : (Nat → Int32)) : Option ((Nat → Int32)) := ckI 6 jx2 (bd1 (fX7_setVoter (0 : Int32) jx2 (v_p1_votes (Int32.toNatClampNeg jx2)) jy0 v_t_row) (fun jg2 => ckI 104 ((0 : Int32) + jx2) (if jy0 = 0 then ckI 104 ((18 : Int32) + jx2) (jk55 (jx2 + (1 : Int32)) (upd (upd jg2 (Int32.toNatClampNeg ((0 : Int32) + jx2)) (1 : Int32)) (Int32.toNatClampNeg ((18 : Int32) + jx2)) (0 : Int32))) else ckI 104 ((18 : Int32) + jx2) (jk55 (jx2 + (1 : Int32)) (upd (upd jg2 (Int32.toNatClampNeg ((0 : Int32) + jx2)) (1 : Int32)) (Int32.toNatClampNeg ((18 : Int32) + jx2)) (-9 : Int32))))))
def fX7_begin_55 (v_p1_witnesses : Int32) (v_p1_copies : Int32) (v_p1_read : Int32) (v_p1_write : Int32) (v_p1_votes : (Nat → Int32)) : Nat → Int32 → (Nat → Int32) → Option ((Nat → Int32))
  | 0, _, _ => none
  | n + 1, jx2, v_t_row => if v_p1_copies ≤ jx2 then some v_t_row else if ((v_p1_witnesses >>> (jx2 &&& 31)) &&& (1 : Int32)) = (1 : Int32) then fX7_begin_80 (fX7_begin_55 v_p1_witnesses v_p1_copies v_p1_read v_p1_write v_p1_votes n) v_p1_witnesses v_p1_copies v_p1_read v_p1_write v_p1_votes jx2 (1 : Int32) v_t_row else fX7_begin_80 (fX7_begin_55 v_p1_witnesses v_p1_copies v_p1_read v_p1_write v_p1_votes n) v_p1_witnesses v_p1_copies v_p1_read v_p1_write v_p1_votes jx2 (0 : Int32) v_t_row
theorem fX7_begin_55_s (v_p1_witnesses : Int32) (v_p1_copies : Int32) (v_p1_read : Int32) (v_p1_write : Int32) (v_p1_votes : (Nat → Int32)) (n : Nat) (jx2 : Int32) (v_t_row : (Nat → Int32)) : fX7_begin_55 v_p1_witnesses v_p1_copies v_p1_read v_p1_write v_p1_votes (n + 1) jx2 v_t_row = if v_p1_copies ≤ jx2 then some v_t_row else if ((v_p1_witnesses >>> (jx2 &&& 31)) &&& (1 : Int32)) = (1 : Int32) then fX7_begin_80 (fX7_begin_55 v_p1_witnesses v_p1_copies v_p1_read v_p1_write v_p1_votes n) v_p1_witnesses v_p1_copies v_p1_read v_p1_write v_p1_votes jx2 (1 : Int32) v_t_row else fX7_begin_80 (fX7_begin_55 v_p1_witnesses v_p1_copies v_p1_read v_p1_write v_p1_votes n) v_p1_witnesses v_p1_copies v_p1_read v_p1_write v_p1_votes jx2 (0 : Int32) v_t_row := rfl
def fX7_begin_2 (v_p1_witnesses : Int32) (v_p1_copies : Int32) (v_p1_read : Int32) (v_p1_write : Int32) (v_p1_votes : (Nat → Int32)) : Nat → Int32 → (Nat → Int32) → Option ((Nat → Int32))
  | 0, _, _ => none
  | n + 1, jx2, v_t_row => if (104 : Int32) ≤ jx2 then ckI 104 (30 : Int32) (ckI 104 (31 : Int32) (bd1 (fX7_setNeeds (0 : Int32) v_p1_read v_p1_write (upd (upd v_t_row (Int32.toNatClampNeg (30 : Int32)) v_p1_copies) (Int32.toNatClampNeg (31 : Int32)) (1 : Int32))) (fun jg4 => fX7_begin_55 v_p1_witnesses v_p1_copies v_p1_read v_p1_write v_p1_votes fuel (0 : Int32) jg4))) else ckI 104 jx2 ((fX7_begin_2 v_p1_witnesses v_p1_copies v_p1_read v_p1_write v_p1_votes n) (jx2 + (1 : Int32)) (upd v_t_row (Int32.toNatClampNeg jx2) (0 : Int32)))
theorem fX7_begin_2_s (v_p1_witnesses : Int32) (v_p1_copies : Int32) (v_p1_read : Int32) (v_p1_write : Int32) (v_p1_votes : (Nat → Int32)) (n : Nat) (jx2 : Int32) (v_t_row : (Nat → Int32)) : fX7_begin_2 v_p1_witnesses v_p1_copies v_p1_read v_p1_write v_p1_votes (n + 1) jx2 v_t_row = if (104 : Int32) ≤ jx2 then ckI 104 (30 : Int32) (ckI 104 (31 : Int32) (bd1 (fX7_setNeeds (0 : Int32) v_p1_read v_p1_write (upd (upd v_t_row (Int32.toNatClampNeg (30 : Int32)) v_p1_copies) (Int32.toNatClampNeg (31 : Int32)) (1 : Int32))) (fun jg4 => fX7_begin_55 v_p1_witnesses v_p1_copies v_p1_read v_p1_write v_p1_votes fuel (0 : Int32) jg4))) else ckI 104 jx2 ((fX7_begin_2 v_p1_witnesses v_p1_copies v_p1_read v_p1_write v_p1_votes n) (jx2 + (1 : Int32)) (upd v_t_row (Int32.toNatClampNeg jx2) (0 : Int32))) := rfl
def fX7_begin (v_t_row : (Nat → Int32)) (v_p1_witnesses : Int32) (v_p1_copies : Int32) (v_p1_read : Int32) (v_p1_write : Int32) (v_p1_votes : (Nat → Int32)) : Option ((Nat → Int32)) := fX7_begin_2 v_p1_witnesses v_p1_copies v_p1_read v_p1_write v_p1_votes fuel (0 : Int32) v_t_row
abbrev rmX7_begin : Room := { frames := 1, cells := 0, slots := 0, locals := 26 }
theorem iX7_begin_X8 : ∀ w ∈ wsX80, w ∈ wsX7_begin := fun _ h => List.mem_cons_of_mem _ (List.mem_append_right _ h)
theorem mX7_begin_6 : (Cond.fieldLink RX7 34 "VoteFiles$Telling" "votes" "[I") ∈ wsX7_begin := List.mem_of_getElem? (i := 6) rfl
theorem iX7_begin_X7 : ∀ w ∈ wsX70, w ∈ wsX7_begin := fun _ h => List.mem_cons_of_mem _ (List.mem_append_left _ (List.mem_append_right _ h))
theorem mX7_begin_1 : (Cond.fieldLink RX7 11 "VoteFiles$Shape" "row" "[I") ∈ wsX7_begin := List.mem_of_getElem? (i := 1) rfl
theorem mX7_begin_2 : (Cond.fieldLink RX7 15 "VoteFiles$Telling" "copies" "I") ∈ wsX7_begin := List.mem_of_getElem? (i := 2) rfl
theorem mX7_begin_5 : (Cond.fieldLink RX7 31 "VoteFiles$Telling" "witnesses" "I") ∈ wsX7_begin := List.mem_of_getElem? (i := 5) rfl
theorem mX7_begin_3 : (Cond.fieldLink RX7 21 "VoteFiles$Telling" "read" "I") ∈ wsX7_begin := List.mem_of_getElem? (i := 3) rfl
theorem mX7_begin_4 : (Cond.fieldLink RX7 24 "VoteFiles$Telling" "write" "I") ∈ wsX7_begin := List.mem_of_getElem? (i := 4) rfl
set_option maxHeartbeats 4000000 in
set_option maxRecDepth 100000 in
theorem wX7_begin_80 {p : Program} {l : Launch} {e : Env} {s : State} {m : MethodId} {args : Array Value} {below : List Frame} {meth : Method} {c : Code} {D : va_G} {cI cZ : ClassId} (S : CallFix p m c cX7_begin 4 s args wsX7_begin RX7) (hr : meth.sig.returnType = none) (hlk : meth.locks = false) (hK : KX D cI cZ s) {a_t a_t_row a_p1 a_p1_tokens a_p1_votes : Nat} {jk55 : Int32 → (Nat → Int32) → Option ((Nat → Int32))} {v_p1_witnesses : Int32} {v_p1_copies : Int32} {v_p1_read : Int32} {v_p1_write : Int32} {v_p1_votes : (Nat → Int32)} {v_p1_items : Int32} {o_t_row : (Nat → Int32)} {A : Nat → Prop} (hA : ∀ q : Nat, s.heap.size ≤ q → A q) (hk55 : ∀ (jx2 : Int32) (v_t_row : (Nat → Int32)) (ls : Array Slot) (H : Heap) (locs : List Loc), jk55 jx2 v_t_row = some o_t_row → lv_has ls 4 [(0, .ref a_t), (1, .ref a_p1), (2, .int jx2)] → va_P D vwCl [(a_t, .inr (7, [.ref a_t_row])), (a_t_row, .inl (cI, 104, .inl v_t_row)), (a_p1, .inr (8, [.ref a_p1_tokens, .ref a_p1_votes, .int v_p1_witnesses, .int v_p1_copies, .int v_p1_read, .int v_p1_write, .int v_p1_items])), (a_p1_votes, .inl (cI, 6, .inl v_p1_votes))] H → va_D A [(a_t, .inr (7, [.ref a_t_row])), (a_t_row, .inl (cI, 104, .inl v_t_row)), (a_p1, .inr (8, [.ref a_p1_tokens, .ref a_p1_votes, .int v_p1_witnesses, .int v_p1_copies, .int v_p1_read, .int v_p1_write, .int v_p1_items])), (a_p1_votes, .inl (cI, 6, .inl v_p1_votes))] → va_S A s.heap H locs → W p l e rmX7_begin s m args below meth c H locs 0 0 (MQ below (qM D none [(a_t, .inr (7, [.ref a_t_row])), (a_t_row, .inl (cI, 104, .inl o_t_row)), (a_p1, .inr (8, [.ref a_p1_tokens, .ref a_p1_votes, .int v_p1_witnesses, .int v_p1_copies, .int v_p1_read, .int v_p1_write, .int v_p1_items])), (a_p1_votes, .inl (cI, 6, .inl v_p1_votes))] A) args s 0 0 A) (F0 m 55 ls [])) : ∀ (jx2 : Int32) (jy0 : Int32) (v_t_row : (Nat → Int32)) (ls : Array Slot) (H : Heap) (locs : List Loc), fX7_begin_80 jk55 v_p1_witnesses v_p1_copies v_p1_read v_p1_write v_p1_votes jx2 jy0 v_t_row = some o_t_row → lv_has ls 4 [(0, .ref a_t), (1, .ref a_p1), (2, .int jx2)] → va_P D vwCl [(a_t, .inr (7, [.ref a_t_row])), (a_t_row, .inl (cI, 104, .inl v_t_row)), (a_p1, .inr (8, [.ref a_p1_tokens, .ref a_p1_votes, .int v_p1_witnesses, .int v_p1_copies, .int v_p1_read, .int v_p1_write, .int v_p1_items])), (a_p1_votes, .inl (cI, 6, .inl v_p1_votes))] H → va_D A [(a_t, .inr (7, [.ref a_t_row])), (a_t_row, .inl (cI, 104, .inl v_t_row)), (a_p1, .inr (8, [.ref a_p1_tokens, .ref a_p1_votes, .int v_p1_witnesses, .int v_p1_copies, .int v_p1_read, .int v_p1_write, .int v_p1_items])), (a_p1_votes, .inl (cI, 6, .inl v_p1_votes))] → va_S A s.heap H locs → W p l e rmX7_begin s m args below meth c H locs 0 0 (MQ below (qM D none [(a_t, .inr (7, [.ref a_t_row])), (a_t_row, .inl (cI, 104, .inl o_t_row)), (a_p1, .inr (8, [.ref a_p1_tokens, .ref a_p1_votes, .int v_p1_witnesses, .int v_p1_copies, .int v_p1_read, .int v_p1_write, .int v_p1_items])), (a_p1_votes, .inl (cI, 6, .inl v_p1_votes))] A) args s 0 0 A) (F0 m 80 ls [.int jy0]) := by
  obtain ⟨hx, hb, hml, hown, hts⟩ := id S
  intro jx2 jy0 v_t_row ls H locs hf hl hP hD hS
  unfold fX7_begin_80 at hf
  refine lv_istore_n (lv' := [(3, .int jy0), (0, .ref a_t), (1, .ref a_p1), (2, .int jx2)]) hx hb dX7_begin_80 rfl hl (by decide) rfl (fun ls hl => ?_)
  refine lv_aload_n hx hb dX7_begin_81 rfl (lv_at hl 1 rfl) ?_
  refine lv_iconst (v := 0) hx hb dX7_begin_82 (by decide) ?_
  refine lv_iload_n hx hb dX7_begin_83 rfl (lv_at hl 3 rfl) ?_
  refine lv_aload_n hx hb dX7_begin_84 rfl (lv_at hl 2 rfl) ?_
  refine va_get (D := D) (ci := 8) (v := .ref a_p1_votes) (C := RX8) (T := TX8) (N := 7) hx hb hts iX7_begin_X8 hown hK.1 hP 2 rfl rfl 1 (by decide) (hts _ mX7_begin_6) (fun _ h9 => h9) rfl dX7_begin_85 ?_
  refine lv_iload_n hx hb dX7_begin_88 rfl (lv_at hl 3 rfl) ?_
  obtain ⟨jh1, hf⟩ := ckI_inv hf
  refine va_iald hx hb hK.1 hP 3 0 rfl rfl jh1 dX7_begin_89 ?_
  refine lv_iload_n hx hb dX7_begin_90 rfl (lv_at hl 0 rfl) ?_
  obtain ⟨jg2, je3, hf⟩ := bd1_inv hf
  refine callMV (As := [.int (0 : Int32), .int jx2, .int (v_p1_votes (Int32.toNatClampNeg jx2)), .int jy0]) (rest := []) (wr := [(a_p1, .inr (8, [.ref a_p1_tokens, .ref a_p1_votes, .int v_p1_witnesses, .int v_p1_copies, .int v_p1_read, .int v_p1_write, .int v_p1_items])), (a_p1_votes, .inl (cI, 6, .inl v_p1_votes))]) (wn := [(a_t, .inr (7, [.ref a_t_row])), (a_t_row, .inl (cI, 104, .inl jg2)), (a_p1, .inr (8, [.ref a_p1_tokens, .ref a_p1_votes, .int v_p1_witnesses, .int v_p1_copies, .int v_p1_read, .int v_p1_write, .int v_p1_items])), (a_p1_votes, .inl (cI, 6, .inl v_p1_votes))]) S (ctX7_setVoter l D cI cZ a_t a_t_row (0 : Int32) jx2 (v_p1_votes (Int32.toNatClampNeg jx2)) jy0 v_t_row jg2 je3) (cwV 4 hts gX7_begin_X7_setVoter rfl rfl rfl ⟨rfl, hdX7_setVoter⟩ ⟨Nat.le_of_ble_eq_true rfl, Nat.le_of_ble_eq_true rfl⟩) hP hD hS hA [0, 1] [2, 3] [2, 3, 0, 1] rfl rfl (by decide) (by decide) (by decide) (by decide) rfl KX.xs (fun U _ hW => hK.warm hW) (va_recv hK.1 hP (ci := 7) (q0 := 0) rfl rfl) rfl hl.1 rfl (Nat.le_of_ble_eq_true rfl) dX7_begin_91 ⟨Nat.zero_le _, Nat.zero_le _⟩ (fun H locs hP hD hS => ?_)
  refine W.eq (g2 := F0 m 94 ls []) rfl ?_
  refine lv_aload_n hx hb dX7_begin_94 rfl (lv_at hl 1 rfl) ?_
  refine va_get (D := D) (ci := 7) (v := .ref a_t_row) (C := RX7) (T := TX7) (N := 1) hx hb hts iX7_begin_X7 hown hK.1 hP 0 rfl rfl 0 (by decide) (hts _ mX7_begin_1) (fun _ h9 => h9) rfl dX7_begin_95 ?_
  refine lv_iconst (v := 0) hx hb dX7_begin_98 (by decide) ?_
  refine lv_iload_n hx hb dX7_begin_99 rfl (lv_at hl 3 rfl) ?_
  refine lv_iadd hx hb dX7_begin_100 ?_
  refine lv_iconst (v := 1) hx hb dX7_begin_101 (by decide) ?_
  obtain ⟨jh4, hf⟩ := ckI_inv hf
  refine va_iast hx hb hK.1 hP hD hS 1 0 rfl rfl jh4 dX7_begin_102 (fun H locs hP hD hS => ?_)
  have hP : va_P D vwCl [(a_t, .inr (7, [.ref a_t_row])), (a_t_row, .inl (cI, 104, .inl (upd jg2 (Int32.toNatClampNeg ((0 : Int32) + jx2)) (1 : Int32)))), (a_p1, .inr (8, [.ref a_p1_tokens, .ref a_p1_votes, .int v_p1_witnesses, .int v_p1_copies, .int v_p1_read, .int v_p1_write, .int v_p1_items])), (a_p1_votes, .inl (cI, 6, .inl v_p1_votes))] H := hP
  have hD : va_D A [(a_t, .inr (7, [.ref a_t_row])), (a_t_row, .inl (cI, 104, .inl (upd jg2 (Int32.toNatClampNeg ((0 : Int32) + jx2)) (1 : Int32)))), (a_p1, .inr (8, [.ref a_p1_tokens, .ref a_p1_votes, .int v_p1_witnesses, .int v_p1_copies, .int v_p1_read, .int v_p1_write, .int v_p1_items])), (a_p1_votes, .inl (cI, 6, .inl v_p1_votes))] := hD
  refine lv_aload_n hx hb dX7_begin_103 rfl (lv_at hl 1 rfl) ?_
  refine va_get (D := D) (ci := 7) (v := .ref a_t_row) (C := RX7) (T := TX7) (N := 1) hx hb hts iX7_begin_X7 hown hK.1 hP 0 rfl rfl 0 (by decide) (hts _ mX7_begin_1) (fun _ h9 => h9) rfl dX7_begin_104 ?_
  refine lv_bipush (v := 18) hx hb dX7_begin_107 (by decide) ?_
  refine lv_iload_n hx hb dX7_begin_109 rfl (lv_at hl 3 rfl) ?_
  refine lv_iadd hx hb dX7_begin_110 ?_
  refine lv_iload_n hx hb dX7_begin_111 rfl (lv_at hl 0 rfl) ?_
  refine lv_if_eq (tgt := 120) hx hb dX7_begin_112 (by decide) (fun jc5 => ?_) (fun jc5 => ?_)
  · have hf := ite_t jc5 hf
    refine lv_iconst (v := 0) hx hb dX7_begin_120 (by decide) ?_
    obtain ⟨jh6, hf⟩ := ckI_inv hf
    refine va_iast hx hb hK.1 hP hD hS 1 0 rfl rfl jh6 dX7_begin_121 (fun H locs hP hD hS => ?_)
    have hP : va_P D vwCl [(a_t, .inr (7, [.ref a_t_row])), (a_t_row, .inl (cI, 104, .inl (upd (upd jg2 (Int32.toNatClampNeg ((0 : Int32) + jx2)) (1 : Int32)) (Int32.toNatClampNeg ((18 : Int32) + jx2)) (0 : Int32)))), (a_p1, .inr (8, [.ref a_p1_tokens, .ref a_p1_votes, .int v_p1_witnesses, .int v_p1_copies, .int v_p1_read, .int v_p1_write, .int v_p1_items])), (a_p1_votes, .inl (cI, 6, .inl v_p1_votes))] H := hP
    have hD : va_D A [(a_t, .inr (7, [.ref a_t_row])), (a_t_row, .inl (cI, 104, .inl (upd (upd jg2 (Int32.toNatClampNeg ((0 : Int32) + jx2)) (1 : Int32)) (Int32.toNatClampNeg ((18 : Int32) + jx2)) (0 : Int32)))), (a_p1, .inr (8, [.ref a_p1_tokens, .ref a_p1_votes, .int v_p1_witnesses, .int v_p1_copies, .int v_p1_read, .int v_p1_write, .int v_p1_items])), (a_p1_votes, .inl (cI, 6, .inl v_p1_votes))] := hD
    refine lv_iinc (v := (jx2 + (1 : Int32))) (lv' := [(2, .int (jx2 + (1 : Int32))), (3, .int jy0), (0, .ref a_t), (1, .ref a_p1)]) hx hb dX7_begin_122 hl (k := 3) rfl rfl (by decide) rfl (fun ls hl => ?_)
    refine lv_goto (tgt := 55) hx hb dX7_begin_125 (by decide) ?_
    exact hk55 (jx2 + (1 : Int32)) (upd (upd jg2 (Int32.toNatClampNeg ((0 : Int32) + jx2)) (1 : Int32)) (Int32.toNatClampNeg ((18 : Int32) + jx2)) (0 : Int32)) ls _ _ hf (lv_sub hl [2, 3, 0] rfl) hP hD hS
  · have hf := ite_f jc5 hf
    refine lv_bipush (v := -9) hx hb dX7_begin_115 (by decide) ?_
    refine lv_goto (tgt := 121) hx hb dX7_begin_117 (by decide) ?_
    obtain ⟨jh7, hf⟩ := ckI_inv hf
    refine va_iast hx hb hK.1 hP hD hS 1 0 rfl rfl jh7 dX7_begin_121 (fun H locs hP hD hS => ?_)
    have hP : va_P D vwCl [(a_t, .inr (7, [.ref a_t_row])), (a_t_row, .inl (cI, 104, .inl (upd (upd jg2 (Int32.toNatClampNeg ((0 : Int32) + jx2)) (1 : Int32)) (Int32.toNatClampNeg ((18 : Int32) + jx2)) (-9 : Int32)))), (a_p1, .inr (8, [.ref a_p1_tokens, .ref a_p1_votes, .int v_p1_witnesses, .int v_p1_copies, .int v_p1_read, .int v_p1_write, .int v_p1_items])), (a_p1_votes, .inl (cI, 6, .inl v_p1_votes))] H := hP
    have hD : va_D A [(a_t, .inr (7, [.ref a_t_row])), (a_t_row, .inl (cI, 104, .inl (upd (upd jg2 (Int32.toNatClampNeg ((0 : Int32) + jx2)) (1 : Int32)) (Int32.toNatClampNeg ((18 : Int32) + jx2)) (-9 : Int32)))), (a_p1, .inr (8, [.ref a_p1_tokens, .ref a_p1_votes, .int v_p1_witnesses, .int v_p1_copies, .int v_p1_read, .int v_p1_write, .int v_p1_items])), (a_p1_votes, .inl (cI, 6, .inl v_p1_votes))] := hD
    refine lv_iinc (v := (jx2 + (1 : Int32))) (lv' := [(2, .int (jx2 + (1 : Int32))), (3, .int jy0), (0, .ref a_t), (1, .ref a_p1)]) hx hb dX7_begin_122 hl (k := 3) rfl rfl (by decide) rfl (fun ls hl => ?_)
    refine lv_goto (tgt := 55) hx hb dX7_begin_125 (by decide) ?_
    exact hk55 (jx2 + (1 : Int32)) (upd (upd jg2 (Int32.toNatClampNeg ((0 : Int32) + jx2)) (1 : Int32)) (Int32.toNatClampNeg ((18 : Int32) + jx2)) (-9 : Int32)) ls _ _ hf (lv_sub hl [2, 3, 0] rfl) hP hD hS
set_option maxHeartbeats 4000000 in
set_option maxRecDepth 100000 in
theorem wX7_begin_55 {p : Program} {l : Launch} {e : Env} {s : State} {m : MethodId} {args : Array Value} {below : List Frame} {meth : Method} {c : Code} {D : va_G} {cI cZ : ClassId} (S : CallFix p m c cX7_begin 4 s args wsX7_begin RX7) (hr : meth.sig.returnType = none) (hlk : meth.locks = false) (hK : KX D cI cZ s) {a_t a_t_row a_p1 a_p1_tokens a_p1_votes : Nat} {v_p1_witnesses : Int32} {v_p1_copies : Int32} {v_p1_read : Int32} {v_p1_write : Int32} {v_p1_votes : (Nat → Int32)} {v_p1_items : Int32} {o_t_row : (Nat → Int32)} {A : Nat → Prop} (hA : ∀ q : Nat, s.heap.size ≤ q → A q) : ∀ (n : Nat), ∀ (jx2 : Int32) (v_t_row : (Nat → Int32)) (ls : Array Slot) (H : Heap) (locs : List Loc), fX7_begin_55 v_p1_witnesses v_p1_copies v_p1_read v_p1_write v_p1_votes n jx2 v_t_row = some o_t_row → lv_has ls 4 [(0, .ref a_t), (1, .ref a_p1), (2, .int jx2)] → va_P D vwCl [(a_t, .inr (7, [.ref a_t_row])), (a_t_row, .inl (cI, 104, .inl v_t_row)), (a_p1, .inr (8, [.ref a_p1_tokens, .ref a_p1_votes, .int v_p1_witnesses, .int v_p1_copies, .int v_p1_read, .int v_p1_write, .int v_p1_items])), (a_p1_votes, .inl (cI, 6, .inl v_p1_votes))] H → va_D A [(a_t, .inr (7, [.ref a_t_row])), (a_t_row, .inl (cI, 104, .inl v_t_row)), (a_p1, .inr (8, [.ref a_p1_tokens, .ref a_p1_votes, .int v_p1_witnesses, .int v_p1_copies, .int v_p1_read, .int v_p1_write, .int v_p1_items])), (a_p1_votes, .inl (cI, 6, .inl v_p1_votes))] → va_S A s.heap H locs → W p l e rmX7_begin s m args below meth c H locs 0 0 (MQ below (qM D none [(a_t, .inr (7, [.ref a_t_row])), (a_t_row, .inl (cI, 104, .inl o_t_row)), (a_p1, .inr (8, [.ref a_p1_tokens, .ref a_p1_votes, .int v_p1_witnesses, .int v_p1_copies, .int v_p1_read, .int v_p1_write, .int v_p1_items])), (a_p1_votes, .inl (cI, 6, .inl v_p1_votes))] A) args s 0 0 A) (F0 m 55 ls []) := by
  obtain ⟨hx, hb, hml, hown, hts⟩ := id S
  intro n
  induction n with
  | zero =>
    intro jx2 v_t_row ls H locs hf hl hP hD hS
    cases (show (none : Option _) = some _ from hf)
  | succ n ih =>
    intro jx2 v_t_row ls H locs hf hl hP hD hS
    have hf := (fX7_begin_55_s _ _ _ _ _ n _ _).symm.trans hf
    refine lv_iload_n hx hb dX7_begin_55 rfl (lv_at hl 2 rfl) ?_
    refine lv_aload_n hx hb dX7_begin_56 rfl (lv_at hl 1 rfl) ?_
    refine va_get (D := D) (ci := 8) (v := .int v_p1_copies) (C := RX8) (T := TX8) (N := 7) hx hb hts iX7_begin_X8 hown hK.1 hP 2 rfl rfl 3 (by decide) (hts _ mX7_begin_2) (fun _ h9 => h9) rfl dX7_begin_57 ?_
    refine lv_icmp_ge (tgt := 128) hx hb dX7_begin_60 (by decide) (fun jc1 => ?_) (fun jc1 => ?_)
    · have hf := ite_t jc1 hf
      obtain rfl := Option.some.inj hf
      exact retMv hx hb hr hlk hP hD hS dX7_begin_128
    · have hf := ite_f jc1 hf
      refine lv_aload_n hx hb dX7_begin_63 rfl (lv_at hl 1 rfl) ?_
      refine va_get (D := D) (ci := 8) (v := .int v_p1_witnesses) (C := RX8) (T := TX8) (N := 7) hx hb hts iX7_begin_X8 hown hK.1 hP 2 rfl rfl 2 (by decide) (hts _ mX7_begin_5) (fun _ h9 => h9) rfl dX7_begin_64 ?_
      refine lv_iload_n hx hb dX7_begin_67 rfl (lv_at hl 2 rfl) ?_
      refine lv_ishr hx hb dX7_begin_68 ?_
      refine lv_iconst (v := 1) hx hb dX7_begin_69 (by decide) ?_
      refine lv_iand hx hb dX7_begin_70 ?_
      refine lv_iconst (v := 1) hx hb dX7_begin_71 (by decide) ?_
      refine lv_icmp_ne (tgt := 79) hx hb dX7_begin_72 (by decide) (fun jc2 => ?_) (fun jc2 => ?_)
      · have hf := ite_f jc2 hf
        refine lv_iconst (v := 0) hx hb dX7_begin_79 (by decide) ?_
        exact wX7_begin_80 S hr hlk hK hA ih jx2 (0 : Int32) v_t_row ls _ _ hf (lv_sub hl [0, 1, 2] rfl) hP hD hS
      · have hf := ite_t jc2 hf
        refine lv_iconst (v := 1) hx hb dX7_begin_75 (by decide) ?_
        refine lv_goto (tgt := 80) hx hb dX7_begin_76 (by decide) ?_
        exact wX7_begin_80 S hr hlk hK hA ih jx2 (1 : Int32) v_t_row ls _ _ hf (lv_sub hl [0, 1, 2] rfl) hP hD hS
set_option maxHeartbeats 4000000 in
set_option maxRecDepth 100000 in
theorem wX7_begin_2 {p : Program} {l : Launch} {e : Env} {s : State} {m : MethodId} {args : Array Value} {below : List Frame} {meth : Method} {c : Code} {D : va_G} {cI cZ : ClassId} (S : CallFix p m c cX7_begin 4 s args wsX7_begin RX7) (hr : meth.sig.returnType = none) (hlk : meth.locks = false) (hK : KX D cI cZ s) {a_t a_t_row a_p1 a_p1_tokens a_p1_votes : Nat} {v_p1_witnesses : Int32} {v_p1_copies : Int32} {v_p1_read : Int32} {v_p1_write : Int32} {v_p1_votes : (Nat → Int32)} {v_p1_items : Int32} {o_t_row : (Nat → Int32)} {A : Nat → Prop} (hA : ∀ q : Nat, s.heap.size ≤ q → A q) : ∀ (n : Nat), ∀ (jx2 : Int32) (v_t_row : (Nat → Int32)) (ls : Array Slot) (H : Heap) (locs : List Loc), fX7_begin_2 v_p1_witnesses v_p1_copies v_p1_read v_p1_write v_p1_votes n jx2 v_t_row = some o_t_row → lv_has ls 4 [(0, .ref a_t), (1, .ref a_p1), (2, .int jx2)] → va_P D vwCl [(a_t, .inr (7, [.ref a_t_row])), (a_t_row, .inl (cI, 104, .inl v_t_row)), (a_p1, .inr (8, [.ref a_p1_tokens, .ref a_p1_votes, .int v_p1_witnesses, .int v_p1_copies, .int v_p1_read, .int v_p1_write, .int v_p1_items])), (a_p1_votes, .inl (cI, 6, .inl v_p1_votes))] H → va_D A [(a_t, .inr (7, [.ref a_t_row])), (a_t_row, .inl (cI, 104, .inl v_t_row)), (a_p1, .inr (8, [.ref a_p1_tokens, .ref a_p1_votes, .int v_p1_witnesses, .int v_p1_copies, .int v_p1_read, .int v_p1_write, .int v_p1_items])), (a_p1_votes, .inl (cI, 6, .inl v_p1_votes))] → va_S A s.heap H locs → W p l e rmX7_begin s m args below meth c H locs 0 0 (MQ below (qM D none [(a_t, .inr (7, [.ref a_t_row])), (a_t_row, .inl (cI, 104, .inl o_t_row)), (a_p1, .inr (8, [.ref a_p1_tokens, .ref a_p1_votes, .int v_p1_witnesses, .int v_p1_copies, .int v_p1_read, .int v_p1_write, .int v_p1_items])), (a_p1_votes, .inl (cI, 6, .inl v_p1_votes))] A) args s 0 0 A) (F0 m 2 ls []) := by
  obtain ⟨hx, hb, hml, hown, hts⟩ := id S
  intro n
  induction n with
  | zero =>
    intro jx2 v_t_row ls H locs hf hl hP hD hS
    cases (show (none : Option _) = some _ from hf)
  | succ n ih =>
    intro jx2 v_t_row ls H locs hf hl hP hD hS
    have hf := (fX7_begin_2_s _ _ _ _ _ n _ _).symm.trans hf
    refine lv_iload_n hx hb dX7_begin_2 rfl (lv_at hl 2 rfl) ?_
    refine lv_bipush (v := 104) hx hb dX7_begin_3 (by decide) ?_
    refine lv_icmp_ge (tgt := 21) hx hb dX7_begin_5 (by decide) (fun jc1 => ?_) (fun jc1 => ?_)
    · have hf := ite_t jc1 hf
      refine lv_aload_n hx hb dX7_begin_21 rfl (lv_at hl 0 rfl) ?_
      refine va_get (D := D) (ci := 7) (v := .ref a_t_row) (C := RX7) (T := TX7) (N := 1) hx hb hts iX7_begin_X7 hown hK.1 hP 0 rfl rfl 0 (by decide) (hts _ mX7_begin_1) (fun _ h9 => h9) rfl dX7_begin_22 ?_
      refine lv_bipush (v := 30) hx hb dX7_begin_25 (by decide) ?_
      refine lv_aload_n hx hb dX7_begin_27 rfl (lv_at hl 1 rfl) ?_
      refine va_get (D := D) (ci := 8) (v := .int v_p1_copies) (C := RX8) (T := TX8) (N := 7) hx hb hts iX7_begin_X8 hown hK.1 hP 2 rfl rfl 3 (by decide) (hts _ mX7_begin_2) (fun _ h9 => h9) rfl dX7_begin_28 ?_
      obtain ⟨jh2, hf⟩ := ckI_inv hf
      refine va_iast hx hb hK.1 hP hD hS 1 0 rfl rfl jh2 dX7_begin_31 (fun H locs hP hD hS => ?_)
      have hP : va_P D vwCl [(a_t, .inr (7, [.ref a_t_row])), (a_t_row, .inl (cI, 104, .inl (upd v_t_row (Int32.toNatClampNeg (30 : Int32)) v_p1_copies))), (a_p1, .inr (8, [.ref a_p1_tokens, .ref a_p1_votes, .int v_p1_witnesses, .int v_p1_copies, .int v_p1_read, .int v_p1_write, .int v_p1_items])), (a_p1_votes, .inl (cI, 6, .inl v_p1_votes))] H := hP
      have hD : va_D A [(a_t, .inr (7, [.ref a_t_row])), (a_t_row, .inl (cI, 104, .inl (upd v_t_row (Int32.toNatClampNeg (30 : Int32)) v_p1_copies))), (a_p1, .inr (8, [.ref a_p1_tokens, .ref a_p1_votes, .int v_p1_witnesses, .int v_p1_copies, .int v_p1_read, .int v_p1_write, .int v_p1_items])), (a_p1_votes, .inl (cI, 6, .inl v_p1_votes))] := hD
      refine lv_aload_n hx hb dX7_begin_32 rfl (lv_at hl 0 rfl) ?_
      refine va_get (D := D) (ci := 7) (v := .ref a_t_row) (C := RX7) (T := TX7) (N := 1) hx hb hts iX7_begin_X7 hown hK.1 hP 0 rfl rfl 0 (by decide) (hts _ mX7_begin_1) (fun _ h9 => h9) rfl dX7_begin_33 ?_
      refine lv_bipush (v := 31) hx hb dX7_begin_36 (by decide) ?_
      refine lv_iconst (v := 1) hx hb dX7_begin_38 (by decide) ?_
      obtain ⟨jh3, hf⟩ := ckI_inv hf
      refine va_iast hx hb hK.1 hP hD hS 1 0 rfl rfl jh3 dX7_begin_39 (fun H locs hP hD hS => ?_)
      have hP : va_P D vwCl [(a_t, .inr (7, [.ref a_t_row])), (a_t_row, .inl (cI, 104, .inl (upd (upd v_t_row (Int32.toNatClampNeg (30 : Int32)) v_p1_copies) (Int32.toNatClampNeg (31 : Int32)) (1 : Int32)))), (a_p1, .inr (8, [.ref a_p1_tokens, .ref a_p1_votes, .int v_p1_witnesses, .int v_p1_copies, .int v_p1_read, .int v_p1_write, .int v_p1_items])), (a_p1_votes, .inl (cI, 6, .inl v_p1_votes))] H := hP
      have hD : va_D A [(a_t, .inr (7, [.ref a_t_row])), (a_t_row, .inl (cI, 104, .inl (upd (upd v_t_row (Int32.toNatClampNeg (30 : Int32)) v_p1_copies) (Int32.toNatClampNeg (31 : Int32)) (1 : Int32)))), (a_p1, .inr (8, [.ref a_p1_tokens, .ref a_p1_votes, .int v_p1_witnesses, .int v_p1_copies, .int v_p1_read, .int v_p1_write, .int v_p1_items])), (a_p1_votes, .inl (cI, 6, .inl v_p1_votes))] := hD
      refine lv_aload_n hx hb dX7_begin_40 rfl (lv_at hl 0 rfl) ?_
      refine lv_iconst (v := 0) hx hb dX7_begin_41 (by decide) ?_
      refine lv_aload_n hx hb dX7_begin_42 rfl (lv_at hl 1 rfl) ?_
      refine va_get (D := D) (ci := 8) (v := .int v_p1_read) (C := RX8) (T := TX8) (N := 7) hx hb hts iX7_begin_X8 hown hK.1 hP 2 rfl rfl 4 (by decide) (hts _ mX7_begin_3) (fun _ h9 => h9) rfl dX7_begin_43 ?_
      refine lv_aload_n hx hb dX7_begin_46 rfl (lv_at hl 1 rfl) ?_
      refine va_get (D := D) (ci := 8) (v := .int v_p1_write) (C := RX8) (T := TX8) (N := 7) hx hb hts iX7_begin_X8 hown hK.1 hP 2 rfl rfl 5 (by decide) (hts _ mX7_begin_4) (fun _ h9 => h9) rfl dX7_begin_47 ?_
      obtain ⟨jg4, je5, hf⟩ := bd1_inv hf
      refine callMV (As := [.int (0 : Int32), .int v_p1_read, .int v_p1_write]) (rest := []) (wr := [(a_p1, .inr (8, [.ref a_p1_tokens, .ref a_p1_votes, .int v_p1_witnesses, .int v_p1_copies, .int v_p1_read, .int v_p1_write, .int v_p1_items])), (a_p1_votes, .inl (cI, 6, .inl v_p1_votes))]) (wn := [(a_t, .inr (7, [.ref a_t_row])), (a_t_row, .inl (cI, 104, .inl jg4)), (a_p1, .inr (8, [.ref a_p1_tokens, .ref a_p1_votes, .int v_p1_witnesses, .int v_p1_copies, .int v_p1_read, .int v_p1_write, .int v_p1_items])), (a_p1_votes, .inl (cI, 6, .inl v_p1_votes))]) S (ctX7_setNeeds l D cI cZ a_t a_t_row (0 : Int32) v_p1_read v_p1_write (upd (upd v_t_row (Int32.toNatClampNeg (30 : Int32)) v_p1_copies) (Int32.toNatClampNeg (31 : Int32)) (1 : Int32)) jg4 je5) (cwV 3 hts gX7_begin_X7_setNeeds rfl rfl rfl ⟨rfl, hdX7_setNeeds⟩ ⟨Nat.le_of_ble_eq_true rfl, Nat.le_of_ble_eq_true rfl⟩) hP hD hS hA [0, 1] [2, 3] [2, 3, 0, 1] rfl rfl (by decide) (by decide) (by decide) (by decide) rfl KX.xs (fun U _ hW => hK.warm hW) (va_recv hK.1 hP (ci := 7) (q0 := 0) rfl rfl) rfl hl.1 rfl (Nat.le_of_ble_eq_true rfl) dX7_begin_50 ⟨Nat.zero_le _, Nat.zero_le _⟩ (fun H locs hP hD hS => ?_)
      refine W.eq (g2 := F0 m 53 ls []) rfl ?_
      refine lv_iconst (v := 0) hx hb dX7_begin_53 (by decide) ?_
      refine lv_istore_n (lv' := [(2, .int (0 : Int32)), (0, .ref a_t), (1, .ref a_p1)]) hx hb dX7_begin_54 rfl hl (by decide) rfl (fun ls hl => ?_)
      exact wX7_begin_55 S hr hlk hK hA fuel (0 : Int32) jg4 ls _ _ hf (lv_sub hl [1, 2, 0] rfl) hP hD hS
    · have hf := ite_f jc1 hf
      refine lv_aload_n hx hb dX7_begin_8 rfl (lv_at hl 0 rfl) ?_
      refine va_get (D := D) (ci := 7) (v := .ref a_t_row) (C := RX7) (T := TX7) (N := 1) hx hb hts iX7_begin_X7 hown hK.1 hP 0 rfl rfl 0 (by decide) (hts _ mX7_begin_1) (fun _ h9 => h9) rfl dX7_begin_9 ?_
      refine lv_iload_n hx hb dX7_begin_12 rfl (lv_at hl 2 rfl) ?_
      refine lv_iconst (v := 0) hx hb dX7_begin_13 (by decide) ?_
      obtain ⟨jh6, hf⟩ := ckI_inv hf
      refine va_iast hx hb hK.1 hP hD hS 1 0 rfl rfl jh6 dX7_begin_14 (fun H locs hP hD hS => ?_)
      have hP : va_P D vwCl [(a_t, .inr (7, [.ref a_t_row])), (a_t_row, .inl (cI, 104, .inl (upd v_t_row (Int32.toNatClampNeg jx2) (0 : Int32)))), (a_p1, .inr (8, [.ref a_p1_tokens, .ref a_p1_votes, .int v_p1_witnesses, .int v_p1_copies, .int v_p1_read, .int v_p1_write, .int v_p1_items])), (a_p1_votes, .inl (cI, 6, .inl v_p1_votes))] H := hP
      have hD : va_D A [(a_t, .inr (7, [.ref a_t_row])), (a_t_row, .inl (cI, 104, .inl (upd v_t_row (Int32.toNatClampNeg jx2) (0 : Int32)))), (a_p1, .inr (8, [.ref a_p1_tokens, .ref a_p1_votes, .int v_p1_witnesses, .int v_p1_copies, .int v_p1_read, .int v_p1_write, .int v_p1_items])), (a_p1_votes, .inl (cI, 6, .inl v_p1_votes))] := hD
      refine lv_iinc (v := (jx2 + (1 : Int32))) (lv' := [(2, .int (jx2 + (1 : Int32))), (0, .ref a_t), (1, .ref a_p1)]) hx hb dX7_begin_15 hl (k := 2) rfl rfl (by decide) rfl (fun ls hl => ?_)
      refine lv_goto (tgt := 2) hx hb dX7_begin_18 (by decide) ?_
      exact ih (jx2 + (1 : Int32)) (upd v_t_row (Int32.toNatClampNeg jx2) (0 : Int32)) ls _ _ hf (lv_sub hl [1, 2, 0] rfl) hP hD hS
theorem hdX7_begin : yX7_begin.cls ≠ "java/lang/invoke/MethodHandle" ∧ yX7_begin.cls ≠ "java/lang/invoke/VarHandle" ∧ (parseMethodDescriptor yX7_begin.desc).map (fun d => d.parameters.length) = some 1 := by decide +kernel
set_option maxHeartbeats 4000000 in
set_option maxRecDepth 100000 in
theorem ctX7_begin (l : Launch) (D : va_G) (cI cZ : ClassId) (a_t a_t_row a_p1 a_p1_tokens a_p1_votes : Nat) (v_t_row : (Nat → Int32)) (v_p1_witnesses : Int32) (v_p1_copies : Int32) (v_p1_read : Int32) (v_p1_write : Int32) (v_p1_votes : (Nat → Int32)) (v_p1_items : Int32) (o_t_row : (Nat → Int32)) (hf : fX7_begin v_t_row v_p1_witnesses v_p1_copies v_p1_read v_p1_write v_p1_votes = some o_t_row) : cM l yX7_begin wsX7_begin rmX7_begin [.ref a_t, .ref a_p1] D [(a_t, .inr (7, [.ref a_t_row])), (a_t_row, .inl (cI, 104, .inl v_t_row)), (a_p1, .inr (8, [.ref a_p1_tokens, .ref a_p1_votes, .int v_p1_witnesses, .int v_p1_copies, .int v_p1_read, .int v_p1_write, .int v_p1_items])), (a_p1_votes, .inl (cI, 6, .inl v_p1_votes))] [(a_t, .inr (7, [.ref a_t_row])), (a_t_row, .inl (cI, 104, .inl o_t_row)), (a_p1, .inr (8, [.ref a_p1_tokens, .ref a_p1_votes, .int v_p1_witnesses, .int v_p1_copies, .int v_p1_read, .int v_p1_write, .int v_p1_items])), (a_p1_votes, .inl (cI, 6, .inl v_p1_votes))] (KX D cI cZ) none := by
  refine cM_of (cc := cX7_begin) (maxL := 4) (ret := none) (by decide +kernel) rfl _ (Nat.le_of_ble_eq_true rfl) ?_
  intro p e s m below meth c ls A S hr hlk hP hK hl hD hA hS
  obtain ⟨hx, hb, hml, hown, hts⟩ := id S
  have hl : lv_has ls 4 [(0, .ref a_t), (1, .ref a_p1)] := hl
  unfold fX7_begin at hf
  refine lv_iconst (v := 0) hx hb dX7_begin_0 (by decide) ?_
  refine lv_istore_n (lv' := [(2, .int (0 : Int32)), (0, .ref a_t), (1, .ref a_p1)]) hx hb dX7_begin_1 rfl hl (by decide) rfl (fun ls hl => ?_)
  exact wX7_begin_2 S hr hlk hK hA fuel (0 : Int32) v_t_row ls _ _ hf (lv_sub hl [1, 2, 0] rfl) hP hD hS
def fX7_saveTo (n_p1 : Nat) (jx2 : Int32) (v_t_row : (Nat → Int32)) (v_p1 : (Nat → Int32)) : Option ((Nat → Int32)) := cpI 104 n_p1 (0 : Int32) (jx2 * (104 : Int32)) (104 : Int32) (some (va_cpy v_t_row v_p1 (Int32.toNatClampNeg (0 : Int32)) (Int32.toNatClampNeg (jx2 * (104 : Int32))) (Int32.toNatClampNeg (104 : Int32))))
abbrev rmX7_saveTo : Room := { frames := 1, cells := 0, slots := 0, locals := 26 }
theorem iX7_saveTo_X7 : ∀ w ∈ wsX70, w ∈ wsX7_saveTo := fun _ h => List.mem_cons_of_mem _ (List.mem_append_right _ h)
theorem mX7_saveTo_1 : (Cond.fieldLink RX7 11 "VoteFiles$Shape" "row" "[I") ∈ wsX7_saveTo := List.mem_of_getElem? (i := 1) rfl
theorem mX7_saveTo_2 : (Cond.methodLink RX7 41 arraycopyName) ∈ wsX7_saveTo := List.mem_of_getElem? (i := 2) rfl
theorem mX7_saveTo_3 : (Cond.native arraycopyName) ∈ wsX7_saveTo := List.mem_of_getElem? (i := 3) rfl
theorem mX7_saveTo_4 : (Cond.static arraycopyName) ∈ wsX7_saveTo := List.mem_of_getElem? (i := 4) rfl
theorem mX7_saveTo_5 : (Cond.initialized "java/lang/System") ∈ wsX7_saveTo := List.mem_of_getElem? (i := 5) rfl
theorem hdX7_saveTo : yX7_saveTo.cls ≠ "java/lang/invoke/MethodHandle" ∧ yX7_saveTo.cls ≠ "java/lang/invoke/VarHandle" ∧ (parseMethodDescriptor yX7_saveTo.desc).map (fun d => d.parameters.length) = some 2 := by decide +kernel
set_option maxHeartbeats 4000000 in
set_option maxRecDepth 100000 in
theorem ctX7_saveTo (l : Launch) (D : va_G) (cI cZ : ClassId) (a_t a_t_row a_p1 : Nat) (n_p1 : Nat) (jx2 : Int32) (v_t_row : (Nat → Int32)) (v_p1 : (Nat → Int32)) (o_p1 : (Nat → Int32)) (hf : fX7_saveTo n_p1 jx2 v_t_row v_p1 = some o_p1) : cM l yX7_saveTo wsX7_saveTo rmX7_saveTo [.ref a_t, .ref a_p1, .int jx2] D [(a_t, .inr (7, [.ref a_t_row])), (a_t_row, .inl (cI, 104, .inl v_t_row)), (a_p1, .inl (cI, n_p1, .inl v_p1))] [(a_t, .inr (7, [.ref a_t_row])), (a_t_row, .inl (cI, 104, .inl v_t_row)), (a_p1, .inl (cI, n_p1, .inl o_p1))] (KX D cI cZ) none := by
  refine cM_of (cc := cX7_saveTo) (maxL := 3) (ret := none) (by decide +kernel) rfl _ (Nat.le_of_ble_eq_true rfl) ?_
  intro p e s m below meth c ls A S hr hlk hP hK hl hD hA hS
  obtain ⟨hx, hb, hml, hown, hts⟩ := id S
  have hl : lv_has ls 3 [(0, .ref a_t), (1, .ref a_p1), (2, .int jx2)] := hl
  unfold fX7_saveTo at hf
  refine lv_aload_n hx hb dX7_saveTo_0 rfl (lv_at hl 0 rfl) ?_
  refine va_get (D := D) (ci := 7) (v := .ref a_t_row) (C := RX7) (T := TX7) (N := 1) hx hb hts iX7_saveTo_X7 hown hK.1 hP 0 rfl rfl 0 (by decide) (hts _ mX7_saveTo_1) (fun _ h9 => h9) rfl dX7_saveTo_1 ?_
  refine lv_iconst (v := 0) hx hb dX7_saveTo_4 (by decide) ?_
  refine lv_aload_n hx hb dX7_saveTo_5 rfl (lv_at hl 1 rfl) ?_
  refine lv_iload_n hx hb dX7_saveTo_6 rfl (lv_at hl 2 rfl) ?_
  refine lv_bipush (v := 104) hx hb dX7_saveTo_7 (by decide) ?_
  refine lv_imul hx hb dX7_saveTo_9 ?_
  refine lv_bipush (v := 104) hx hb dX7_saveTo_10 (by decide) ?_
  obtain ⟨jh1, jh2, jh3, jh4, jh5, hf⟩ := cpI_inv hf
  refine va_copyi hx hb (hml.trans hl.1.symm) hown (hts _ mX7_saveTo_2) (hts _ mX7_saveTo_3) (hts _ mX7_saveTo_4) (hts _ mX7_saveTo_5) hK.1 hP hD hS 1 2 0 0 rfl rfl rfl rfl rfl jh1 jh2 jh3 jh4 jh5 (fun _ _ => rfl) (Nat.le_of_ble_eq_true rfl) (Nat.le_of_ble_eq_true rfl) dX7_saveTo_12 (fun H locs hP hD hS => ?_)
  have hP : va_P D vwCl [(a_t, .inr (7, [.ref a_t_row])), (a_t_row, .inl (cI, 104, .inl v_t_row)), (a_p1, .inl (cI, n_p1, .inl (va_cpy v_t_row v_p1 (Int32.toNatClampNeg (0 : Int32)) (Int32.toNatClampNeg (jx2 * (104 : Int32))) (Int32.toNatClampNeg (104 : Int32)))))] H := hP
  have hD : va_D A [(a_t, .inr (7, [.ref a_t_row])), (a_t_row, .inl (cI, 104, .inl v_t_row)), (a_p1, .inl (cI, n_p1, .inl (va_cpy v_t_row v_p1 (Int32.toNatClampNeg (0 : Int32)) (Int32.toNatClampNeg (jx2 * (104 : Int32))) (Int32.toNatClampNeg (104 : Int32)))))] := hD
  obtain rfl := Option.some.inj hf
  exact retMv hx hb hr hlk hP hD hS dX7_saveTo_15
def fX7_loadFrom (n_p1 : Nat) (jx2 : Int32) (v_t_row : (Nat → Int32)) (v_p1 : (Nat → Int32)) : Option ((Nat → Int32)) := cpI n_p1 104 (jx2 * (104 : Int32)) (0 : Int32) (104 : Int32) (some (va_cpy v_p1 v_t_row (Int32.toNatClampNeg (jx2 * (104 : Int32))) (Int32.toNatClampNeg (0 : Int32)) (Int32.toNatClampNeg (104 : Int32))))
abbrev rmX7_loadFrom : Room := { frames := 1, cells := 0, slots := 0, locals := 26 }
theorem iX7_loadFrom_X7 : ∀ w ∈ wsX70, w ∈ wsX7_loadFrom := fun _ h => List.mem_cons_of_mem _ (List.mem_append_right _ h)
theorem mX7_loadFrom_1 : (Cond.fieldLink RX7 11 "VoteFiles$Shape" "row" "[I") ∈ wsX7_loadFrom := List.mem_of_getElem? (i := 1) rfl
theorem mX7_loadFrom_2 : (Cond.methodLink RX7 41 arraycopyName) ∈ wsX7_loadFrom := List.mem_of_getElem? (i := 2) rfl
theorem mX7_loadFrom_3 : (Cond.native arraycopyName) ∈ wsX7_loadFrom := List.mem_of_getElem? (i := 3) rfl
theorem mX7_loadFrom_4 : (Cond.static arraycopyName) ∈ wsX7_loadFrom := List.mem_of_getElem? (i := 4) rfl
theorem mX7_loadFrom_5 : (Cond.initialized "java/lang/System") ∈ wsX7_loadFrom := List.mem_of_getElem? (i := 5) rfl
theorem hdX7_loadFrom : yX7_loadFrom.cls ≠ "java/lang/invoke/MethodHandle" ∧ yX7_loadFrom.cls ≠ "java/lang/invoke/VarHandle" ∧ (parseMethodDescriptor yX7_loadFrom.desc).map (fun d => d.parameters.length) = some 2 := by decide +kernel
set_option maxHeartbeats 4000000 in
set_option maxRecDepth 100000 in
theorem ctX7_loadFrom (l : Launch) (D : va_G) (cI cZ : ClassId) (a_t a_t_row a_p1 : Nat) (n_p1 : Nat) (jx2 : Int32) (v_t_row : (Nat → Int32)) (v_p1 : (Nat → Int32)) (o_t_row : (Nat → Int32)) (hf : fX7_loadFrom n_p1 jx2 v_t_row v_p1 = some o_t_row) : cM l yX7_loadFrom wsX7_loadFrom rmX7_loadFrom [.ref a_t, .ref a_p1, .int jx2] D [(a_t, .inr (7, [.ref a_t_row])), (a_t_row, .inl (cI, 104, .inl v_t_row)), (a_p1, .inl (cI, n_p1, .inl v_p1))] [(a_t, .inr (7, [.ref a_t_row])), (a_t_row, .inl (cI, 104, .inl o_t_row)), (a_p1, .inl (cI, n_p1, .inl v_p1))] (KX D cI cZ) none := by
  refine cM_of (cc := cX7_loadFrom) (maxL := 3) (ret := none) (by decide +kernel) rfl _ (Nat.le_of_ble_eq_true rfl) ?_
  intro p e s m below meth c ls A S hr hlk hP hK hl hD hA hS
  obtain ⟨hx, hb, hml, hown, hts⟩ := id S
  have hl : lv_has ls 3 [(0, .ref a_t), (1, .ref a_p1), (2, .int jx2)] := hl
  unfold fX7_loadFrom at hf
  refine lv_aload_n hx hb dX7_loadFrom_0 rfl (lv_at hl 1 rfl) ?_
  refine lv_iload_n hx hb dX7_loadFrom_1 rfl (lv_at hl 2 rfl) ?_
  refine lv_bipush (v := 104) hx hb dX7_loadFrom_2 (by decide) ?_
  refine lv_imul hx hb dX7_loadFrom_4 ?_
  refine lv_aload_n hx hb dX7_loadFrom_5 rfl (lv_at hl 0 rfl) ?_
  refine va_get (D := D) (ci := 7) (v := .ref a_t_row) (C := RX7) (T := TX7) (N := 1) hx hb hts iX7_loadFrom_X7 hown hK.1 hP 0 rfl rfl 0 (by decide) (hts _ mX7_loadFrom_1) (fun _ h9 => h9) rfl dX7_loadFrom_6 ?_
  refine lv_iconst (v := 0) hx hb dX7_loadFrom_9 (by decide) ?_
  refine lv_bipush (v := 104) hx hb dX7_loadFrom_10 (by decide) ?_
  obtain ⟨jh1, jh2, jh3, jh4, jh5, hf⟩ := cpI_inv hf
  refine va_copyi hx hb (hml.trans hl.1.symm) hown (hts _ mX7_loadFrom_2) (hts _ mX7_loadFrom_3) (hts _ mX7_loadFrom_4) (hts _ mX7_loadFrom_5) hK.1 hP hD hS 2 1 0 0 rfl rfl rfl rfl rfl jh1 jh2 jh3 jh4 jh5 (fun _ _ => rfl) (Nat.le_of_ble_eq_true rfl) (Nat.le_of_ble_eq_true rfl) dX7_loadFrom_12 (fun H locs hP hD hS => ?_)
  have hP : va_P D vwCl [(a_t, .inr (7, [.ref a_t_row])), (a_t_row, .inl (cI, 104, .inl (va_cpy v_p1 v_t_row (Int32.toNatClampNeg (jx2 * (104 : Int32))) (Int32.toNatClampNeg (0 : Int32)) (Int32.toNatClampNeg (104 : Int32))))), (a_p1, .inl (cI, n_p1, .inl v_p1))] H := hP
  have hD : va_D A [(a_t, .inr (7, [.ref a_t_row])), (a_t_row, .inl (cI, 104, .inl (va_cpy v_p1 v_t_row (Int32.toNatClampNeg (jx2 * (104 : Int32))) (Int32.toNatClampNeg (0 : Int32)) (Int32.toNatClampNeg (104 : Int32))))), (a_p1, .inl (cI, n_p1, .inl v_p1))] := hD
  obtain rfl := Option.some.inj hf
  exact retMv hx hb hr hlk hP hD hS dX7_loadFrom_15
def fX7_copies (v_t_row : (Nat → Int32)) : Option (Int32) := ckI 104 (30 : Int32) (some (v_t_row (Int32.toNatClampNeg (30 : Int32))))
abbrev rmX7_copies : Room := { frames := 0, cells := 0, slots := 0, locals := 0 }
theorem iX7_copies_X7 : ∀ w ∈ wsX70, w ∈ wsX7_copies := fun _ h => List.mem_cons_of_mem _ (List.mem_append_right _ h)
theorem mX7_copies_1 : (Cond.fieldLink RX7 11 "VoteFiles$Shape" "row" "[I") ∈ wsX7_copies := List.mem_of_getElem? (i := 1) rfl
theorem hdX7_copies : yX7_copies.cls ≠ "java/lang/invoke/MethodHandle" ∧ yX7_copies.cls ≠ "java/lang/invoke/VarHandle" ∧ (parseMethodDescriptor yX7_copies.desc).map (fun d => d.parameters.length) = some 0 := by decide +kernel
set_option maxHeartbeats 4000000 in
set_option maxRecDepth 100000 in
theorem ctX7_copies (l : Launch) (D : va_G) (cI cZ : ClassId) (a_t a_t_row : Nat) (v_t_row : (Nat → Int32)) (r : Int32) (hf : fX7_copies v_t_row = some r) : cR l yX7_copies wsX7_copies rmX7_copies [.ref a_t] D [(a_t, .inr (7, [.ref a_t_row])), (a_t_row, .inl (cI, 104, .inl v_t_row))] (KX D cI cZ) r := by
  refine cR_of (cc := cX7_copies) (maxL := 1) (ret := some .int) (by decide +kernel) rfl _ (Nat.le_of_ble_eq_true rfl) ?_
  intro p e s m below meth c ls S hr hlk hP hK hl
  obtain ⟨hx, hb, hml, hown, hts⟩ := id S
  have hl : lv_has ls 1 [(0, .ref a_t)] := hl
  unfold fX7_copies at hf
  refine lv_aload_n hx hb dX7_copies_0 rfl (lv_at hl 0 rfl) ?_
  refine va_get (D := D) (ci := 7) (v := .ref a_t_row) (C := RX7) (T := TX7) (N := 1) hx hb hts iX7_copies_X7 hown hK.1 hP 0 rfl rfl 0 (by decide) (hts _ mX7_copies_1) (fun _ h9 => h9) rfl dX7_copies_1 ?_
  refine lv_bipush (v := 30) hx hb dX7_copies_4 (by decide) ?_
  obtain ⟨jh1, hf⟩ := ckI_inv hf
  refine va_iald hx hb hK.1 hP 1 0 rfl rfl jh1 dX7_copies_6 ?_
  obtain rfl := Option.some.inj hf
  exact retR hx hb hr hlk dX7_copies_7
def fX7_sets (v_t_row : (Nat → Int32)) : Option (Int32) := ckI 104 (30 : Int32) (some ((1 : Int32) <<< ((v_t_row (Int32.toNatClampNeg (30 : Int32))) &&& 31)))
abbrev rmX7_sets : Room := { frames := 0, cells := 0, slots := 0, locals := 0 }
theorem iX7_sets_X7 : ∀ w ∈ wsX70, w ∈ wsX7_sets := fun _ h => List.mem_cons_of_mem _ (List.mem_append_right _ h)
theorem mX7_sets_1 : (Cond.fieldLink RX7 11 "VoteFiles$Shape" "row" "[I") ∈ wsX7_sets := List.mem_of_getElem? (i := 1) rfl
theorem hdX7_sets : yX7_sets.cls ≠ "java/lang/invoke/MethodHandle" ∧ yX7_sets.cls ≠ "java/lang/invoke/VarHandle" ∧ (parseMethodDescriptor yX7_sets.desc).map (fun d => d.parameters.length) = some 0 := by decide +kernel
set_option maxHeartbeats 4000000 in
set_option maxRecDepth 100000 in
theorem ctX7_sets (l : Launch) (D : va_G) (cI cZ : ClassId) (a_t a_t_row : Nat) (v_t_row : (Nat → Int32)) (r : Int32) (hf : fX7_sets v_t_row = some r) : cR l yX7_sets wsX7_sets rmX7_sets [.ref a_t] D [(a_t, .inr (7, [.ref a_t_row])), (a_t_row, .inl (cI, 104, .inl v_t_row))] (KX D cI cZ) r := by
  refine cR_of (cc := cX7_sets) (maxL := 1) (ret := some .int) (by decide +kernel) rfl _ (Nat.le_of_ble_eq_true rfl) ?_
  intro p e s m below meth c ls S hr hlk hP hK hl
  obtain ⟨hx, hb, hml, hown, hts⟩ := id S
  have hl : lv_has ls 1 [(0, .ref a_t)] := hl
  unfold fX7_sets at hf
  refine lv_iconst (v := 1) hx hb dX7_sets_0 (by decide) ?_
  refine lv_aload_n hx hb dX7_sets_1 rfl (lv_at hl 0 rfl) ?_
  refine va_get (D := D) (ci := 7) (v := .ref a_t_row) (C := RX7) (T := TX7) (N := 1) hx hb hts iX7_sets_X7 hown hK.1 hP 0 rfl rfl 0 (by decide) (hts _ mX7_sets_1) (fun _ h9 => h9) rfl dX7_sets_2 ?_
  refine lv_bipush (v := 30) hx hb dX7_sets_5 (by decide) ?_
  obtain ⟨jh1, hf⟩ := ckI_inv hf
  refine va_iald hx hb hK.1 hP 1 0 rfl rfl jh1 dX7_sets_7 ?_
  refine lv_ishl hx hb dX7_sets_8 ?_
  obtain rfl := Option.some.inj hf
  exact retR hx hb hr hlk dX7_sets_9
def fX7_isUp (jx1 : Int32) (v_t_row : (Nat → Int32)) : Option (Int32) := ckI 104 ((0 : Int32) + jx1) (if (v_t_row (Int32.toNatClampNeg ((0 : Int32) + jx1))) = (1 : Int32) then some (1 : Int32) else some (0 : Int32))
abbrev rmX7_isUp : Room := { frames := 0, cells := 0, slots := 0, locals := 0 }
theorem iX7_isUp_X7 : ∀ w ∈ wsX70, w ∈ wsX7_isUp := fun _ h => List.mem_cons_of_mem _ (List.mem_append_right _ h)
theorem mX7_isUp_1 : (Cond.fieldLink RX7 11 "VoteFiles$Shape" "row" "[I") ∈ wsX7_isUp := List.mem_of_getElem? (i := 1) rfl
theorem hdX7_isUp : yX7_isUp.cls ≠ "java/lang/invoke/MethodHandle" ∧ yX7_isUp.cls ≠ "java/lang/invoke/VarHandle" ∧ (parseMethodDescriptor yX7_isUp.desc).map (fun d => d.parameters.length) = some 1 := by decide +kernel
set_option maxHeartbeats 4000000 in
set_option maxRecDepth 100000 in
theorem ctX7_isUp (l : Launch) (D : va_G) (cI cZ : ClassId) (a_t a_t_row : Nat) (jx1 : Int32) (v_t_row : (Nat → Int32)) (r : Int32) (hf : fX7_isUp jx1 v_t_row = some r) : cR l yX7_isUp wsX7_isUp rmX7_isUp [.ref a_t, .int jx1] D [(a_t, .inr (7, [.ref a_t_row])), (a_t_row, .inl (cI, 104, .inl v_t_row))] (KX D cI cZ) r := by
  refine cR_of (cc := cX7_isUp) (maxL := 2) (ret := some .boolean) (by decide +kernel) rfl _ (Nat.le_of_ble_eq_true rfl) ?_
  intro p e s m below meth c ls S hr hlk hP hK hl
  obtain ⟨hx, hb, hml, hown, hts⟩ := id S
  have hl : lv_has ls 2 [(0, .ref a_t), (1, .int jx1)] := hl
  unfold fX7_isUp at hf
  refine lv_aload_n hx hb dX7_isUp_0 rfl (lv_at hl 0 rfl) ?_
  refine va_get (D := D) (ci := 7) (v := .ref a_t_row) (C := RX7) (T := TX7) (N := 1) hx hb hts iX7_isUp_X7 hown hK.1 hP 0 rfl rfl 0 (by decide) (hts _ mX7_isUp_1) (fun _ h9 => h9) rfl dX7_isUp_1 ?_
  refine lv_iconst (v := 0) hx hb dX7_isUp_4 (by decide) ?_
  refine lv_iload_n hx hb dX7_isUp_5 rfl (lv_at hl 1 rfl) ?_
  refine lv_iadd hx hb dX7_isUp_6 ?_
  obtain ⟨jh1, hf⟩ := ckI_inv hf
  refine va_iald hx hb hK.1 hP 1 0 rfl rfl jh1 dX7_isUp_7 ?_
  refine lv_iconst (v := 1) hx hb dX7_isUp_8 (by decide) ?_
  refine lv_icmp_ne (tgt := 16) hx hb dX7_isUp_9 (by decide) (fun jc2 => ?_) (fun jc2 => ?_)
  · have hf := ite_f jc2 hf
    refine lv_iconst (v := 0) hx hb dX7_isUp_16 (by decide) ?_
    obtain rfl := Option.some.inj hf
    exact retRz hx hb hr hlk (by decide) dX7_isUp_17
  · have hf := ite_t jc2 hf
    refine lv_iconst (v := 1) hx hb dX7_isUp_12 (by decide) ?_
    refine lv_goto (tgt := 17) hx hb dX7_isUp_13 (by decide) ?_
    obtain rfl := Option.some.inj hf
    exact retRz hx hb hr hlk (by decide) dX7_isUp_17
def fX7_groupOf (jx1 : Int32) (v_t_row : (Nat → Int32)) : Option (Int32) := ckI 104 ((6 : Int32) + jx1) (some (v_t_row (Int32.toNatClampNeg ((6 : Int32) + jx1))))
abbrev rmX7_groupOf : Room := { frames := 0, cells := 0, slots := 0, locals := 0 }
theorem iX7_groupOf_X7 : ∀ w ∈ wsX70, w ∈ wsX7_groupOf := fun _ h => List.mem_cons_of_mem _ (List.mem_append_right _ h)
theorem mX7_groupOf_1 : (Cond.fieldLink RX7 11 "VoteFiles$Shape" "row" "[I") ∈ wsX7_groupOf := List.mem_of_getElem? (i := 1) rfl
theorem hdX7_groupOf : yX7_groupOf.cls ≠ "java/lang/invoke/MethodHandle" ∧ yX7_groupOf.cls ≠ "java/lang/invoke/VarHandle" ∧ (parseMethodDescriptor yX7_groupOf.desc).map (fun d => d.parameters.length) = some 1 := by decide +kernel
set_option maxHeartbeats 4000000 in
set_option maxRecDepth 100000 in
theorem ctX7_groupOf (l : Launch) (D : va_G) (cI cZ : ClassId) (a_t a_t_row : Nat) (jx1 : Int32) (v_t_row : (Nat → Int32)) (r : Int32) (hf : fX7_groupOf jx1 v_t_row = some r) : cR l yX7_groupOf wsX7_groupOf rmX7_groupOf [.ref a_t, .int jx1] D [(a_t, .inr (7, [.ref a_t_row])), (a_t_row, .inl (cI, 104, .inl v_t_row))] (KX D cI cZ) r := by
  refine cR_of (cc := cX7_groupOf) (maxL := 2) (ret := some .int) (by decide +kernel) rfl _ (Nat.le_of_ble_eq_true rfl) ?_
  intro p e s m below meth c ls S hr hlk hP hK hl
  obtain ⟨hx, hb, hml, hown, hts⟩ := id S
  have hl : lv_has ls 2 [(0, .ref a_t), (1, .int jx1)] := hl
  unfold fX7_groupOf at hf
  refine lv_aload_n hx hb dX7_groupOf_0 rfl (lv_at hl 0 rfl) ?_
  refine va_get (D := D) (ci := 7) (v := .ref a_t_row) (C := RX7) (T := TX7) (N := 1) hx hb hts iX7_groupOf_X7 hown hK.1 hP 0 rfl rfl 0 (by decide) (hts _ mX7_groupOf_1) (fun _ h9 => h9) rfl dX7_groupOf_1 ?_
  refine lv_bipush (v := 6) hx hb dX7_groupOf_4 (by decide) ?_
  refine lv_iload_n hx hb dX7_groupOf_6 rfl (lv_at hl 1 rfl) ?_
  refine lv_iadd hx hb dX7_groupOf_7 ?_
  obtain ⟨jh1, hf⟩ := ckI_inv hf
  refine va_iald hx hb hK.1 hP 1 0 rfl rfl jh1 dX7_groupOf_8 ?_
  obtain rfl := Option.some.inj hf
  exact retR hx hb hr hlk dX7_groupOf_9
def fX7_versionOf (jx1 : Int32) (v_t_row : (Nat → Int32)) : Option (Int32) := ckI 104 ((12 : Int32) + jx1) (some (v_t_row (Int32.toNatClampNeg ((12 : Int32) + jx1))))
abbrev rmX7_versionOf : Room := { frames := 0, cells := 0, slots := 0, locals := 0 }
theorem iX7_versionOf_X7 : ∀ w ∈ wsX70, w ∈ wsX7_versionOf := fun _ h => List.mem_cons_of_mem _ (List.mem_append_right _ h)
theorem mX7_versionOf_1 : (Cond.fieldLink RX7 11 "VoteFiles$Shape" "row" "[I") ∈ wsX7_versionOf := List.mem_of_getElem? (i := 1) rfl
theorem hdX7_versionOf : yX7_versionOf.cls ≠ "java/lang/invoke/MethodHandle" ∧ yX7_versionOf.cls ≠ "java/lang/invoke/VarHandle" ∧ (parseMethodDescriptor yX7_versionOf.desc).map (fun d => d.parameters.length) = some 1 := by decide +kernel
set_option maxHeartbeats 4000000 in
set_option maxRecDepth 100000 in
theorem ctX7_versionOf (l : Launch) (D : va_G) (cI cZ : ClassId) (a_t a_t_row : Nat) (jx1 : Int32) (v_t_row : (Nat → Int32)) (r : Int32) (hf : fX7_versionOf jx1 v_t_row = some r) : cR l yX7_versionOf wsX7_versionOf rmX7_versionOf [.ref a_t, .int jx1] D [(a_t, .inr (7, [.ref a_t_row])), (a_t_row, .inl (cI, 104, .inl v_t_row))] (KX D cI cZ) r := by
  refine cR_of (cc := cX7_versionOf) (maxL := 2) (ret := some .int) (by decide +kernel) rfl _ (Nat.le_of_ble_eq_true rfl) ?_
  intro p e s m below meth c ls S hr hlk hP hK hl
  obtain ⟨hx, hb, hml, hown, hts⟩ := id S
  have hl : lv_has ls 2 [(0, .ref a_t), (1, .int jx1)] := hl
  unfold fX7_versionOf at hf
  refine lv_aload_n hx hb dX7_versionOf_0 rfl (lv_at hl 0 rfl) ?_
  refine va_get (D := D) (ci := 7) (v := .ref a_t_row) (C := RX7) (T := TX7) (N := 1) hx hb hts iX7_versionOf_X7 hown hK.1 hP 0 rfl rfl 0 (by decide) (hts _ mX7_versionOf_1) (fun _ h9 => h9) rfl dX7_versionOf_1 ?_
  refine lv_bipush (v := 12) hx hb dX7_versionOf_4 (by decide) ?_
  refine lv_iload_n hx hb dX7_versionOf_6 rfl (lv_at hl 1 rfl) ?_
  refine lv_iadd hx hb dX7_versionOf_7 ?_
  obtain ⟨jh1, hf⟩ := ckI_inv hf
  refine va_iald hx hb hK.1 hP 1 0 rfl rfl jh1 dX7_versionOf_8 ?_
  obtain rfl := Option.some.inj hf
  exact retR hx hb hr hlk dX7_versionOf_9
def fX7_valueOf (jx1 : Int32) (v_t_row : (Nat → Int32)) : Option (Int32) := ckI 104 ((18 : Int32) + jx1) (some (v_t_row (Int32.toNatClampNeg ((18 : Int32) + jx1))))
abbrev rmX7_valueOf : Room := { frames := 0, cells := 0, slots := 0, locals := 0 }
theorem iX7_valueOf_X7 : ∀ w ∈ wsX70, w ∈ wsX7_valueOf := fun _ h => List.mem_cons_of_mem _ (List.mem_append_right _ h)
theorem mX7_valueOf_1 : (Cond.fieldLink RX7 11 "VoteFiles$Shape" "row" "[I") ∈ wsX7_valueOf := List.mem_of_getElem? (i := 1) rfl
theorem hdX7_valueOf : yX7_valueOf.cls ≠ "java/lang/invoke/MethodHandle" ∧ yX7_valueOf.cls ≠ "java/lang/invoke/VarHandle" ∧ (parseMethodDescriptor yX7_valueOf.desc).map (fun d => d.parameters.length) = some 1 := by decide +kernel
set_option maxHeartbeats 4000000 in
set_option maxRecDepth 100000 in
theorem ctX7_valueOf (l : Launch) (D : va_G) (cI cZ : ClassId) (a_t a_t_row : Nat) (jx1 : Int32) (v_t_row : (Nat → Int32)) (r : Int32) (hf : fX7_valueOf jx1 v_t_row = some r) : cR l yX7_valueOf wsX7_valueOf rmX7_valueOf [.ref a_t, .int jx1] D [(a_t, .inr (7, [.ref a_t_row])), (a_t_row, .inl (cI, 104, .inl v_t_row))] (KX D cI cZ) r := by
  refine cR_of (cc := cX7_valueOf) (maxL := 2) (ret := some .int) (by decide +kernel) rfl _ (Nat.le_of_ble_eq_true rfl) ?_
  intro p e s m below meth c ls S hr hlk hP hK hl
  obtain ⟨hx, hb, hml, hown, hts⟩ := id S
  have hl : lv_has ls 2 [(0, .ref a_t), (1, .int jx1)] := hl
  unfold fX7_valueOf at hf
  refine lv_aload_n hx hb dX7_valueOf_0 rfl (lv_at hl 0 rfl) ?_
  refine va_get (D := D) (ci := 7) (v := .ref a_t_row) (C := RX7) (T := TX7) (N := 1) hx hb hts iX7_valueOf_X7 hown hK.1 hP 0 rfl rfl 0 (by decide) (hts _ mX7_valueOf_1) (fun _ h9 => h9) rfl dX7_valueOf_1 ?_
  refine lv_bipush (v := 18) hx hb dX7_valueOf_4 (by decide) ?_
  refine lv_iload_n hx hb dX7_valueOf_6 rfl (lv_at hl 1 rfl) ?_
  refine lv_iadd hx hb dX7_valueOf_7 ?_
  obtain ⟨jh1, hf⟩ := ckI_inv hf
  refine va_iald hx hb hK.1 hP 1 0 rfl rfl jh1 dX7_valueOf_8 ?_
  obtain rfl := Option.some.inj hf
  exact retR hx hb hr hlk dX7_valueOf_9
def fX7_configurationOf (jx1 : Int32) (v_t_row : (Nat → Int32)) : Option (Int32) := ckI 104 ((24 : Int32) + jx1) (some (v_t_row (Int32.toNatClampNeg ((24 : Int32) + jx1))))
abbrev rmX7_configurationOf : Room := { frames := 0, cells := 0, slots := 0, locals := 0 }
theorem iX7_configurationOf_X7 : ∀ w ∈ wsX70, w ∈ wsX7_configurationOf := fun _ h => List.mem_cons_of_mem _ (List.mem_append_right _ h)
theorem mX7_configurationOf_1 : (Cond.fieldLink RX7 11 "VoteFiles$Shape" "row" "[I") ∈ wsX7_configurationOf := List.mem_of_getElem? (i := 1) rfl
theorem hdX7_configurationOf : yX7_configurationOf.cls ≠ "java/lang/invoke/MethodHandle" ∧ yX7_configurationOf.cls ≠ "java/lang/invoke/VarHandle" ∧ (parseMethodDescriptor yX7_configurationOf.desc).map (fun d => d.parameters.length) = some 1 := by decide +kernel
set_option maxHeartbeats 4000000 in
set_option maxRecDepth 100000 in
theorem ctX7_configurationOf (l : Launch) (D : va_G) (cI cZ : ClassId) (a_t a_t_row : Nat) (jx1 : Int32) (v_t_row : (Nat → Int32)) (r : Int32) (hf : fX7_configurationOf jx1 v_t_row = some r) : cR l yX7_configurationOf wsX7_configurationOf rmX7_configurationOf [.ref a_t, .int jx1] D [(a_t, .inr (7, [.ref a_t_row])), (a_t_row, .inl (cI, 104, .inl v_t_row))] (KX D cI cZ) r := by
  refine cR_of (cc := cX7_configurationOf) (maxL := 2) (ret := some .int) (by decide +kernel) rfl _ (Nat.le_of_ble_eq_true rfl) ?_
  intro p e s m below meth c ls S hr hlk hP hK hl
  obtain ⟨hx, hb, hml, hown, hts⟩ := id S
  have hl : lv_has ls 2 [(0, .ref a_t), (1, .int jx1)] := hl
  unfold fX7_configurationOf at hf
  refine lv_aload_n hx hb dX7_configurationOf_0 rfl (lv_at hl 0 rfl) ?_
  refine va_get (D := D) (ci := 7) (v := .ref a_t_row) (C := RX7) (T := TX7) (N := 1) hx hb hts iX7_configurationOf_X7 hown hK.1 hP 0 rfl rfl 0 (by decide) (hts _ mX7_configurationOf_1) (fun _ h9 => h9) rfl dX7_configurationOf_1 ?_
  refine lv_bipush (v := 24) hx hb dX7_configurationOf_4 (by decide) ?_
  refine lv_iload_n hx hb dX7_configurationOf_6 rfl (lv_at hl 1 rfl) ?_
  refine lv_iadd hx hb dX7_configurationOf_7 ?_
  obtain ⟨jh1, hf⟩ := ckI_inv hf
  refine va_iald hx hb hK.1 hP 1 0 rfl rfl jh1 dX7_configurationOf_8 ?_
  obtain rfl := Option.some.inj hf
  exact retR hx hb hr hlk dX7_configurationOf_9
def fX7_turn (jx1 : Int32) (v_t_row : (Nat → Int32)) : Option (Int32 × (Nat → Int32)) := ckI 104 ((0 : Int32) + jx1) (ckI 104 ((0 : Int32) + jx1) (ckI 104 ((0 : Int32) + jx1) (some (((upd v_t_row (Int32.toNatClampNeg ((0 : Int32) + jx1)) ((1 : Int32) - (v_t_row (Int32.toNatClampNeg ((0 : Int32) + jx1))))) (Int32.toNatClampNeg ((0 : Int32) + jx1))), (upd v_t_row (Int32.toNatClampNeg ((0 : Int32) + jx1)) ((1 : Int32) - (v_t_row (Int32.toNatClampNeg ((0 : Int32) + jx1)))))))))
abbrev rmX7_turn : Room := { frames := 0, cells := 0, slots := 0, locals := 0 }
theorem iX7_turn_X7 : ∀ w ∈ wsX70, w ∈ wsX7_turn := fun _ h => List.mem_cons_of_mem _ (List.mem_append_right _ h)
theorem mX7_turn_1 : (Cond.fieldLink RX7 11 "VoteFiles$Shape" "row" "[I") ∈ wsX7_turn := List.mem_of_getElem? (i := 1) rfl
theorem hdX7_turn : yX7_turn.cls ≠ "java/lang/invoke/MethodHandle" ∧ yX7_turn.cls ≠ "java/lang/invoke/VarHandle" ∧ (parseMethodDescriptor yX7_turn.desc).map (fun d => d.parameters.length) = some 1 := by decide +kernel
set_option maxHeartbeats 4000000 in
set_option maxRecDepth 100000 in
theorem ctX7_turn (l : Launch) (D : va_G) (cI cZ : ClassId) (a_t a_t_row : Nat) (jx1 : Int32) (v_t_row : (Nat → Int32)) (r : Int32) (o_t_row : (Nat → Int32)) (hf : fX7_turn jx1 v_t_row = some (r, o_t_row)) : cM l yX7_turn wsX7_turn rmX7_turn [.ref a_t, .int jx1] D [(a_t, .inr (7, [.ref a_t_row])), (a_t_row, .inl (cI, 104, .inl v_t_row))] [(a_t, .inr (7, [.ref a_t_row])), (a_t_row, .inl (cI, 104, .inl o_t_row))] (KX D cI cZ) (some (.int r)) := by
  refine cM_of (cc := cX7_turn) (maxL := 2) (ret := some .int) (by decide +kernel) rfl _ (Nat.le_of_ble_eq_true rfl) ?_
  intro p e s m below meth c ls A S hr hlk hP hK hl hD hA hS
  obtain ⟨hx, hb, hml, hown, hts⟩ := id S
  have hl : lv_has ls 2 [(0, .ref a_t), (1, .int jx1)] := hl
  unfold fX7_turn at hf
  refine lv_aload_n hx hb dX7_turn_0 rfl (lv_at hl 0 rfl) ?_
  refine va_get (D := D) (ci := 7) (v := .ref a_t_row) (C := RX7) (T := TX7) (N := 1) hx hb hts iX7_turn_X7 hown hK.1 hP 0 rfl rfl 0 (by decide) (hts _ mX7_turn_1) (fun _ h9 => h9) rfl dX7_turn_1 ?_
  refine lv_iconst (v := 0) hx hb dX7_turn_4 (by decide) ?_
  refine lv_iload_n hx hb dX7_turn_5 rfl (lv_at hl 1 rfl) ?_
  refine lv_iadd hx hb dX7_turn_6 ?_
  refine lv_iconst (v := 1) hx hb dX7_turn_7 (by decide) ?_
  refine lv_aload_n hx hb dX7_turn_8 rfl (lv_at hl 0 rfl) ?_
  refine va_get (D := D) (ci := 7) (v := .ref a_t_row) (C := RX7) (T := TX7) (N := 1) hx hb hts iX7_turn_X7 hown hK.1 hP 0 rfl rfl 0 (by decide) (hts _ mX7_turn_1) (fun _ h9 => h9) rfl dX7_turn_9 ?_
  refine lv_iconst (v := 0) hx hb dX7_turn_12 (by decide) ?_
  refine lv_iload_n hx hb dX7_turn_13 rfl (lv_at hl 1 rfl) ?_
  refine lv_iadd hx hb dX7_turn_14 ?_
  obtain ⟨jh1, hf⟩ := ckI_inv hf
  refine va_iald hx hb hK.1 hP 1 0 rfl rfl jh1 dX7_turn_15 ?_
  refine lv_isub hx hb dX7_turn_16 ?_
  obtain ⟨jh2, hf⟩ := ckI_inv hf
  refine va_iast hx hb hK.1 hP hD hS 1 0 rfl rfl jh2 dX7_turn_17 (fun H locs hP hD hS => ?_)
  have hP : va_P D vwCl [(a_t, .inr (7, [.ref a_t_row])), (a_t_row, .inl (cI, 104, .inl (upd v_t_row (Int32.toNatClampNeg ((0 : Int32) + jx1)) ((1 : Int32) - (v_t_row (Int32.toNatClampNeg ((0 : Int32) + jx1)))))))] H := hP
  have hD : va_D A [(a_t, .inr (7, [.ref a_t_row])), (a_t_row, .inl (cI, 104, .inl (upd v_t_row (Int32.toNatClampNeg ((0 : Int32) + jx1)) ((1 : Int32) - (v_t_row (Int32.toNatClampNeg ((0 : Int32) + jx1)))))))] := hD
  refine lv_aload_n hx hb dX7_turn_18 rfl (lv_at hl 0 rfl) ?_
  refine va_get (D := D) (ci := 7) (v := .ref a_t_row) (C := RX7) (T := TX7) (N := 1) hx hb hts iX7_turn_X7 hown hK.1 hP 0 rfl rfl 0 (by decide) (hts _ mX7_turn_1) (fun _ h9 => h9) rfl dX7_turn_19 ?_
  refine lv_iconst (v := 0) hx hb dX7_turn_22 (by decide) ?_
  refine lv_iload_n hx hb dX7_turn_23 rfl (lv_at hl 1 rfl) ?_
  refine lv_iadd hx hb dX7_turn_24 ?_
  obtain ⟨jh3, hf⟩ := ckI_inv hf
  refine va_iald hx hb hK.1 hP 1 0 rfl rfl jh3 dX7_turn_25 ?_
  obtain ⟨rfl, rfl⟩ := pr2_inv hf
  exact retM hx hb hr hlk hP hD hS dX7_turn_26
def fX7_setGroup (jx1 : Int32) (jx2 : Int32) (v_t_row : (Nat → Int32)) : Option ((Nat → Int32)) := ckI 104 ((6 : Int32) + jx1) (some (upd v_t_row (Int32.toNatClampNeg ((6 : Int32) + jx1)) jx2))
abbrev rmX7_setGroup : Room := { frames := 0, cells := 0, slots := 0, locals := 0 }
theorem iX7_setGroup_X7 : ∀ w ∈ wsX70, w ∈ wsX7_setGroup := fun _ h => List.mem_cons_of_mem _ (List.mem_append_right _ h)
theorem mX7_setGroup_1 : (Cond.fieldLink RX7 11 "VoteFiles$Shape" "row" "[I") ∈ wsX7_setGroup := List.mem_of_getElem? (i := 1) rfl
theorem hdX7_setGroup : yX7_setGroup.cls ≠ "java/lang/invoke/MethodHandle" ∧ yX7_setGroup.cls ≠ "java/lang/invoke/VarHandle" ∧ (parseMethodDescriptor yX7_setGroup.desc).map (fun d => d.parameters.length) = some 2 := by decide +kernel
set_option maxHeartbeats 4000000 in
set_option maxRecDepth 100000 in
theorem ctX7_setGroup (l : Launch) (D : va_G) (cI cZ : ClassId) (a_t a_t_row : Nat) (jx1 : Int32) (jx2 : Int32) (v_t_row : (Nat → Int32)) (o_t_row : (Nat → Int32)) (hf : fX7_setGroup jx1 jx2 v_t_row = some o_t_row) : cM l yX7_setGroup wsX7_setGroup rmX7_setGroup [.ref a_t, .int jx1, .int jx2] D [(a_t, .inr (7, [.ref a_t_row])), (a_t_row, .inl (cI, 104, .inl v_t_row))] [(a_t, .inr (7, [.ref a_t_row])), (a_t_row, .inl (cI, 104, .inl o_t_row))] (KX D cI cZ) none := by
  refine cM_of (cc := cX7_setGroup) (maxL := 3) (ret := none) (by decide +kernel) rfl _ (Nat.le_of_ble_eq_true rfl) ?_
  intro p e s m below meth c ls A S hr hlk hP hK hl hD hA hS
  obtain ⟨hx, hb, hml, hown, hts⟩ := id S
  have hl : lv_has ls 3 [(0, .ref a_t), (1, .int jx1), (2, .int jx2)] := hl
  unfold fX7_setGroup at hf
  refine lv_aload_n hx hb dX7_setGroup_0 rfl (lv_at hl 0 rfl) ?_
  refine va_get (D := D) (ci := 7) (v := .ref a_t_row) (C := RX7) (T := TX7) (N := 1) hx hb hts iX7_setGroup_X7 hown hK.1 hP 0 rfl rfl 0 (by decide) (hts _ mX7_setGroup_1) (fun _ h9 => h9) rfl dX7_setGroup_1 ?_
  refine lv_bipush (v := 6) hx hb dX7_setGroup_4 (by decide) ?_
  refine lv_iload_n hx hb dX7_setGroup_6 rfl (lv_at hl 1 rfl) ?_
  refine lv_iadd hx hb dX7_setGroup_7 ?_
  refine lv_iload_n hx hb dX7_setGroup_8 rfl (lv_at hl 2 rfl) ?_
  obtain ⟨jh1, hf⟩ := ckI_inv hf
  refine va_iast hx hb hK.1 hP hD hS 1 0 rfl rfl jh1 dX7_setGroup_9 (fun H locs hP hD hS => ?_)
  have hP : va_P D vwCl [(a_t, .inr (7, [.ref a_t_row])), (a_t_row, .inl (cI, 104, .inl (upd v_t_row (Int32.toNatClampNeg ((6 : Int32) + jx1)) jx2)))] H := hP
  have hD : va_D A [(a_t, .inr (7, [.ref a_t_row])), (a_t_row, .inl (cI, 104, .inl (upd v_t_row (Int32.toNatClampNeg ((6 : Int32) + jx1)) jx2)))] := hD
  obtain rfl := Option.some.inj hf
  exact retMv hx hb hr hlk hP hD hS dX7_setGroup_10
def fX7_isWitness (jx1 : Int32) (jx2 : Int32) (v_t_row : (Nat → Int32)) : Option (Int32) := ckI 104 (((32 : Int32) + (jx1 * (9 : Int32))) + (6 : Int32)) (if (((v_t_row (Int32.toNatClampNeg (((32 : Int32) + (jx1 * (9 : Int32))) + (6 : Int32)))) >>> (jx2 &&& 31)) &&& (1 : Int32)) = (1 : Int32) then some (1 : Int32) else some (0 : Int32))
abbrev rmX7_isWitness : Room := { frames := 0, cells := 0, slots := 0, locals := 0 }
theorem iX7_isWitness_X7 : ∀ w ∈ wsX70, w ∈ wsX7_isWitness := fun _ h => List.mem_cons_of_mem _ (List.mem_append_right _ h)
theorem mX7_isWitness_1 : (Cond.fieldLink RX7 11 "VoteFiles$Shape" "row" "[I") ∈ wsX7_isWitness := List.mem_of_getElem? (i := 1) rfl
theorem hdX7_isWitness : yX7_isWitness.cls ≠ "java/lang/invoke/MethodHandle" ∧ yX7_isWitness.cls ≠ "java/lang/invoke/VarHandle" ∧ (parseMethodDescriptor yX7_isWitness.desc).map (fun d => d.parameters.length) = some 2 := by decide +kernel
set_option maxHeartbeats 4000000 in
set_option maxRecDepth 100000 in
theorem ctX7_isWitness (l : Launch) (D : va_G) (cI cZ : ClassId) (a_t a_t_row : Nat) (jx1 : Int32) (jx2 : Int32) (v_t_row : (Nat → Int32)) (r : Int32) (hf : fX7_isWitness jx1 jx2 v_t_row = some r) : cR l yX7_isWitness wsX7_isWitness rmX7_isWitness [.ref a_t, .int jx1, .int jx2] D [(a_t, .inr (7, [.ref a_t_row])), (a_t_row, .inl (cI, 104, .inl v_t_row))] (KX D cI cZ) r := by
  refine cR_of (cc := cX7_isWitness) (maxL := 3) (ret := some .boolean) (by decide +kernel) rfl _ (Nat.le_of_ble_eq_true rfl) ?_
  intro p e s m below meth c ls S hr hlk hP hK hl
  obtain ⟨hx, hb, hml, hown, hts⟩ := id S
  have hl : lv_has ls 3 [(0, .ref a_t), (1, .int jx1), (2, .int jx2)] := hl
  unfold fX7_isWitness at hf
  refine lv_aload_n hx hb dX7_isWitness_0 rfl (lv_at hl 0 rfl) ?_
  refine va_get (D := D) (ci := 7) (v := .ref a_t_row) (C := RX7) (T := TX7) (N := 1) hx hb hts iX7_isWitness_X7 hown hK.1 hP 0 rfl rfl 0 (by decide) (hts _ mX7_isWitness_1) (fun _ h9 => h9) rfl dX7_isWitness_1 ?_
  refine lv_bipush (v := 32) hx hb dX7_isWitness_4 (by decide) ?_
  refine lv_iload_n hx hb dX7_isWitness_6 rfl (lv_at hl 1 rfl) ?_
  refine lv_bipush (v := 9) hx hb dX7_isWitness_7 (by decide) ?_
  refine lv_imul hx hb dX7_isWitness_9 ?_
  refine lv_iadd hx hb dX7_isWitness_10 ?_
  refine lv_bipush (v := 6) hx hb dX7_isWitness_11 (by decide) ?_
  refine lv_iadd hx hb dX7_isWitness_13 ?_
  obtain ⟨jh1, hf⟩ := ckI_inv hf
  refine va_iald hx hb hK.1 hP 1 0 rfl rfl jh1 dX7_isWitness_14 ?_
  refine lv_iload_n hx hb dX7_isWitness_15 rfl (lv_at hl 2 rfl) ?_
  refine lv_ishr hx hb dX7_isWitness_16 ?_
  refine lv_iconst (v := 1) hx hb dX7_isWitness_17 (by decide) ?_
  refine lv_iand hx hb dX7_isWitness_18 ?_
  refine lv_iconst (v := 1) hx hb dX7_isWitness_19 (by decide) ?_
  refine lv_icmp_ne (tgt := 27) hx hb dX7_isWitness_20 (by decide) (fun jc2 => ?_) (fun jc2 => ?_)
  · have hf := ite_f jc2 hf
    refine lv_iconst (v := 0) hx hb dX7_isWitness_27 (by decide) ?_
    obtain rfl := Option.some.inj hf
    exact retRz hx hb hr hlk (by decide) dX7_isWitness_28
  · have hf := ite_t jc2 hf
    refine lv_iconst (v := 1) hx hb dX7_isWitness_23 (by decide) ?_
    refine lv_goto (tgt := 28) hx hb dX7_isWitness_24 (by decide) ?_
    obtain rfl := Option.some.inj hf
    exact retRz hx hb hr hlk (by decide) dX7_isWitness_28
def fX7_renew_42 (jk6 : Int32 → Int32 → (Nat → Int32) → Option (Int32 × (Nat → Int32))) (jx1 : Int32) (jx2 : Int32) (jx3 : Int32) (jx4 : Int32) (jx5 : Int32) (jx6 : Int32) (v_t_row : (Nat → Int32)) : Option (Int32 × (Nat → Int32)) := ckI 104 ((12 : Int32) + jx6) (ckI 104 ((24 : Int32) + jx6) (bd1 (fX7_isWitness jx2 jx6 (upd (upd v_t_row (Int32.toNatClampNeg ((12 : Int32) + jx6)) jx3) (Int32.toNatClampNeg ((24 : Int32) + jx6)) jx2)) (fun jr3 => if jr3 = 0 then ckI 104 ((18 : Int32) + jx6) (jk6 jx5 (jx6 + (1 : Int32)) (upd (upd (upd v_t_row (Int32.toNatClampNeg ((12 : Int32) + jx6)) jx3) (Int32.toNatClampNeg ((24 : Int32) + jx6)) jx2) (Int32.toNatClampNeg ((18 : Int32) + jx6)) jx4)) else ckI 104 ((18 : Int32) + jx6) (jk6 jx5 (jx6 + (1 : Int32)) (upd (upd (upd v_t_row (Int32.toNatClampNeg ((12 : Int32) + jx6)) jx3) (Int32.toNatClampNeg ((24 : Int32) + jx6)) jx2) (Int32.toNatClampNeg ((18 : Int32) + jx6)) (-9 : Int32))))))
def fX7_renew_6 (jx1 : Int32) (jx2 : Int32) (jx3 : Int32) (jx4 : Int32) : Nat → Int32 → Int32 → (Nat → Int32) → Option (Int32 × (Nat → Int32))
  | 0, _, _, _ => none
  | n + 1, jx5, jx6, v_t_row => bd1 (fX7_copies v_t_row) (fun jr1 => if jr1 ≤ jx6 then some (jx5, v_t_row) else if ((jx1 >>> (jx6 &&& 31)) &&& (1 : Int32)) = (1 : Int32) then ckI 104 ((12 : Int32) + jx6) (if (v_t_row (Int32.toNatClampNeg ((12 : Int32) + jx6))) = jx3 then fX7_renew_42 (fX7_renew_6 jx1 jx2 jx3 jx4 n) jx1 jx2 jx3 jx4 jx5 jx6 v_t_row else fX7_renew_42 (fX7_renew_6 jx1 jx2 jx3 jx4 n) jx1 jx2 jx3 jx4 (jx5 + (1 : Int32)) jx6 v_t_row) else (fX7_renew_6 jx1 jx2 jx3 jx4 n) jx5 (jx6 + (1 : Int32)) v_t_row)
theorem fX7_renew_6_s (jx1 : Int32) (jx2 : Int32) (jx3 : Int32) (jx4 : Int32) (n : Nat) (jx5 : Int32) (jx6 : Int32) (v_t_row : (Nat → Int32)) : fX7_renew_6 jx1 jx2 jx3 jx4 (n + 1) jx5 jx6 v_t_row = bd1 (fX7_copies v_t_row) (fun jr1 => if jr1 ≤ jx6 then some (jx5, v_t_row) else if ((jx1 >>> (jx6 &&& 31)) &&& (1 : Int32)) = (1 : Int32) then ckI 104 ((12 : Int32) + jx6) (if (v_t_row (Int32.toNatClampNeg ((12 : Int32) + jx6))) = jx3 then fX7_renew_42 (fX7_renew_6 jx1 jx2 jx3 jx4 n) jx1 jx2 jx3 jx4 jx5 jx6 v_t_row else fX7_renew_42 (fX7_renew_6 jx1 jx2 jx3 jx4 n) jx1 jx2 jx3 jx4 (jx5 + (1 : Int32)) jx6 v_t_row) else (fX7_renew_6 jx1 jx2 jx3 jx4 n) jx5 (jx6 + (1 : Int32)) v_t_row) := rfl
def fX7_renew (jx1 : Int32) (jx2 : Int32) (jx3 : Int32) (jx4 : Int32) (v_t_row : (Nat → Int32)) : Option (Int32 × (Nat → Int32)) := fX7_renew_6 jx1 jx2 jx3 jx4 fuel (0 : Int32) (0 : Int32) v_t_row
abbrev rmX7_renew : Room := { frames := 1, cells := 0, slots := 0, locals := 22 }
theorem iX7_renew_X7 : ∀ w ∈ wsX70, w ∈ wsX7_renew := fun _ h => List.mem_cons_of_mem _ (List.mem_append_right _ h)
theorem mX7_renew_1 : (Cond.fieldLink RX7 11 "VoteFiles$Shape" "row" "[I") ∈ wsX7_renew := List.mem_of_getElem? (i := 1) rfl
set_option maxHeartbeats 4000000 in
set_option maxRecDepth 100000 in
theorem wX7_renew_42 {p : Program} {l : Launch} {e : Env} {s : State} {m : MethodId} {args : Array Value} {below : List Frame} {meth : Method} {c : Code} {D : va_G} {cI cZ : ClassId} (S : CallFix p m c cX7_renew 7 s args wsX7_renew RX7) (hr : meth.sig.returnType = some .int) (hlk : meth.locks = false) (hK : KX D cI cZ s) {a_t a_t_row : Nat} {jk6 : Int32 → Int32 → (Nat → Int32) → Option (Int32 × (Nat → Int32))} {jx1 : Int32} {jx2 : Int32} {jx3 : Int32} {jx4 : Int32} {r : Int32} {o_t_row : (Nat → Int32)} {A : Nat → Prop} (hA : ∀ q : Nat, s.heap.size ≤ q → A q) (hk6 : ∀ (jx5 : Int32) (jx6 : Int32) (v_t_row : (Nat → Int32)) (ls : Array Slot) (H : Heap) (locs : List Loc), jk6 jx5 jx6 v_t_row = some (r, o_t_row) → lv_has ls 7 [(0, .ref a_t), (1, .int jx1), (2, .int jx2), (3, .int jx3), (4, .int jx4), (5, .int jx5), (6, .int jx6)] → va_P D vwCl [(a_t, .inr (7, [.ref a_t_row])), (a_t_row, .inl (cI, 104, .inl v_t_row))] H → va_D A [(a_t, .inr (7, [.ref a_t_row])), (a_t_row, .inl (cI, 104, .inl v_t_row))] → va_S A s.heap H locs → W p l e rmX7_renew s m args below meth c H locs 0 0 (MQ below (qM D (some (.int r)) [(a_t, .inr (7, [.ref a_t_row])), (a_t_row, .inl (cI, 104, .inl o_t_row))] A) args s 0 0 A) (F0 m 6 ls [])) : ∀ (jx5 : Int32) (jx6 : Int32) (v_t_row : (Nat → Int32)) (ls : Array Slot) (H : Heap) (locs : List Loc), fX7_renew_42 jk6 jx1 jx2 jx3 jx4 jx5 jx6 v_t_row = some (r, o_t_row) → lv_has ls 7 [(0, .ref a_t), (1, .int jx1), (2, .int jx2), (3, .int jx3), (4, .int jx4), (5, .int jx5), (6, .int jx6)] → va_P D vwCl [(a_t, .inr (7, [.ref a_t_row])), (a_t_row, .inl (cI, 104, .inl v_t_row))] H → va_D A [(a_t, .inr (7, [.ref a_t_row])), (a_t_row, .inl (cI, 104, .inl v_t_row))] → va_S A s.heap H locs → W p l e rmX7_renew s m args below meth c H locs 0 0 (MQ below (qM D (some (.int r)) [(a_t, .inr (7, [.ref a_t_row])), (a_t_row, .inl (cI, 104, .inl o_t_row))] A) args s 0 0 A) (F0 m 42 ls []) := by
  obtain ⟨hx, hb, hml, hown, hts⟩ := id S
  intro jx5 jx6 v_t_row ls H locs hf hl hP hD hS
  unfold fX7_renew_42 at hf
  refine lv_aload_n hx hb dX7_renew_42 rfl (lv_at hl 0 rfl) ?_
  refine va_get (D := D) (ci := 7) (v := .ref a_t_row) (C := RX7) (T := TX7) (N := 1) hx hb hts iX7_renew_X7 hown hK.1 hP 0 rfl rfl 0 (by decide) (hts _ mX7_renew_1) (fun _ h9 => h9) rfl dX7_renew_43 ?_
  refine lv_bipush (v := 12) hx hb dX7_renew_46 (by decide) ?_
  refine lv_iload hx hb dX7_renew_48 (lv_at hl 6 rfl) ?_
  refine lv_iadd hx hb dX7_renew_50 ?_
  refine lv_iload_n hx hb dX7_renew_51 rfl (lv_at hl 3 rfl) ?_
  obtain ⟨jh1, hf⟩ := ckI_inv hf
  refine va_iast hx hb hK.1 hP hD hS 1 0 rfl rfl jh1 dX7_renew_52 (fun H locs hP hD hS => ?_)
  have hP : va_P D vwCl [(a_t, .inr (7, [.ref a_t_row])), (a_t_row, .inl (cI, 104, .inl (upd v_t_row (Int32.toNatClampNeg ((12 : Int32) + jx6)) jx3)))] H := hP
  have hD : va_D A [(a_t, .inr (7, [.ref a_t_row])), (a_t_row, .inl (cI, 104, .inl (upd v_t_row (Int32.toNatClampNeg ((12 : Int32) + jx6)) jx3)))] := hD
  refine lv_aload_n hx hb dX7_renew_53 rfl (lv_at hl 0 rfl) ?_
  refine va_get (D := D) (ci := 7) (v := .ref a_t_row) (C := RX7) (T := TX7) (N := 1) hx hb hts iX7_renew_X7 hown hK.1 hP 0 rfl rfl 0 (by decide) (hts _ mX7_renew_1) (fun _ h9 => h9) rfl dX7_renew_54 ?_
  refine lv_bipush (v := 24) hx hb dX7_renew_57 (by decide) ?_
  refine lv_iload hx hb dX7_renew_59 (lv_at hl 6 rfl) ?_
  refine lv_iadd hx hb dX7_renew_61 ?_
  refine lv_iload_n hx hb dX7_renew_62 rfl (lv_at hl 2 rfl) ?_
  obtain ⟨jh2, hf⟩ := ckI_inv hf
  refine va_iast hx hb hK.1 hP hD hS 1 0 rfl rfl jh2 dX7_renew_63 (fun H locs hP hD hS => ?_)
  have hP : va_P D vwCl [(a_t, .inr (7, [.ref a_t_row])), (a_t_row, .inl (cI, 104, .inl (upd (upd v_t_row (Int32.toNatClampNeg ((12 : Int32) + jx6)) jx3) (Int32.toNatClampNeg ((24 : Int32) + jx6)) jx2)))] H := hP
  have hD : va_D A [(a_t, .inr (7, [.ref a_t_row])), (a_t_row, .inl (cI, 104, .inl (upd (upd v_t_row (Int32.toNatClampNeg ((12 : Int32) + jx6)) jx3) (Int32.toNatClampNeg ((24 : Int32) + jx6)) jx2)))] := hD
  refine lv_aload_n hx hb dX7_renew_64 rfl (lv_at hl 0 rfl) ?_
  refine va_get (D := D) (ci := 7) (v := .ref a_t_row) (C := RX7) (T := TX7) (N := 1) hx hb hts iX7_renew_X7 hown hK.1 hP 0 rfl rfl 0 (by decide) (hts _ mX7_renew_1) (fun _ h9 => h9) rfl dX7_renew_65 ?_
  refine lv_bipush (v := 18) hx hb dX7_renew_68 (by decide) ?_
  refine lv_iload hx hb dX7_renew_70 (lv_at hl 6 rfl) ?_
  refine lv_iadd hx hb dX7_renew_72 ?_
  refine lv_aload_n hx hb dX7_renew_73 rfl (lv_at hl 0 rfl) ?_
  refine lv_iload_n hx hb dX7_renew_74 rfl (lv_at hl 2 rfl) ?_
  refine lv_iload hx hb dX7_renew_75 (lv_at hl 6 rfl) ?_
  obtain ⟨jr3, je4, hf⟩ := bd1_inv hf
  refine callRV (As := [.int jx2, .int jx6]) (rest := [.int ((18 : Int32) + jx6), .ref a_t_row]) S (ctX7_isWitness l D cI cZ a_t a_t_row jx2 jx6 (upd (upd v_t_row (Int32.toNatClampNeg ((12 : Int32) + jx6)) jx3) (Int32.toNatClampNeg ((24 : Int32) + jx6)) jx2) jr3 je4) (cwV 2 hts gX7_renew_X7_isWitness rfl rfl rfl ⟨rfl, hdX7_isWitness⟩ ⟨Nat.le_of_ble_eq_true rfl, Nat.le_of_ble_eq_true rfl⟩) hP [0, 1] rfl KX.xs (fun U _ hW => hK.warm hW) (va_recv hK.1 hP (ci := 7) (q0 := 0) rfl rfl) rfl hl.1 rfl (Nat.le_of_ble_eq_true rfl) dX7_renew_77 ⟨Nat.zero_le _, Nat.zero_le _⟩ ?_
  refine lv_if_eq (tgt := 88) hx hb dX7_renew_80 (by decide) (fun jc5 => ?_) (fun jc5 => ?_)
  · have hf := ite_t jc5 hf
    refine lv_iload hx hb dX7_renew_88 (lv_at hl 4 rfl) ?_
    obtain ⟨jh6, hf⟩ := ckI_inv hf
    refine va_iast hx hb hK.1 hP hD hS 1 0 rfl rfl jh6 dX7_renew_90 (fun H locs hP hD hS => ?_)
    have hP : va_P D vwCl [(a_t, .inr (7, [.ref a_t_row])), (a_t_row, .inl (cI, 104, .inl (upd (upd (upd v_t_row (Int32.toNatClampNeg ((12 : Int32) + jx6)) jx3) (Int32.toNatClampNeg ((24 : Int32) + jx6)) jx2) (Int32.toNatClampNeg ((18 : Int32) + jx6)) jx4)))] H := hP
    have hD : va_D A [(a_t, .inr (7, [.ref a_t_row])), (a_t_row, .inl (cI, 104, .inl (upd (upd (upd v_t_row (Int32.toNatClampNeg ((12 : Int32) + jx6)) jx3) (Int32.toNatClampNeg ((24 : Int32) + jx6)) jx2) (Int32.toNatClampNeg ((18 : Int32) + jx6)) jx4)))] := hD
    refine lv_iinc (v := (jx6 + (1 : Int32))) (lv' := [(6, .int (jx6 + (1 : Int32))), (0, .ref a_t), (1, .int jx1), (2, .int jx2), (3, .int jx3), (4, .int jx4), (5, .int jx5)]) hx hb dX7_renew_91 hl (k := 6) rfl rfl (by decide) rfl (fun ls hl => ?_)
    refine lv_goto (tgt := 6) hx hb dX7_renew_94 (by decide) ?_
    exact hk6 jx5 (jx6 + (1 : Int32)) (upd (upd (upd v_t_row (Int32.toNatClampNeg ((12 : Int32) + jx6)) jx3) (Int32.toNatClampNeg ((24 : Int32) + jx6)) jx2) (Int32.toNatClampNeg ((18 : Int32) + jx6)) jx4) ls _ _ hf (lv_sub hl [1, 2, 3, 4, 5, 6, 0] rfl) hP hD hS
  · have hf := ite_f jc5 hf
    refine lv_bipush (v := -9) hx hb dX7_renew_83 (by decide) ?_
    refine lv_goto (tgt := 90) hx hb dX7_renew_85 (by decide) ?_
    obtain ⟨jh7, hf⟩ := ckI_inv hf
    refine va_iast hx hb hK.1 hP hD hS 1 0 rfl rfl jh7 dX7_renew_90 (fun H locs hP hD hS => ?_)
    have hP : va_P D vwCl [(a_t, .inr (7, [.ref a_t_row])), (a_t_row, .inl (cI, 104, .inl (upd (upd (upd v_t_row (Int32.toNatClampNeg ((12 : Int32) + jx6)) jx3) (Int32.toNatClampNeg ((24 : Int32) + jx6)) jx2) (Int32.toNatClampNeg ((18 : Int32) + jx6)) (-9 : Int32))))] H := hP
    have hD : va_D A [(a_t, .inr (7, [.ref a_t_row])), (a_t_row, .inl (cI, 104, .inl (upd (upd (upd v_t_row (Int32.toNatClampNeg ((12 : Int32) + jx6)) jx3) (Int32.toNatClampNeg ((24 : Int32) + jx6)) jx2) (Int32.toNatClampNeg ((18 : Int32) + jx6)) (-9 : Int32))))] := hD
    refine lv_iinc (v := (jx6 + (1 : Int32))) (lv' := [(6, .int (jx6 + (1 : Int32))), (0, .ref a_t), (1, .int jx1), (2, .int jx2), (3, .int jx3), (4, .int jx4), (5, .int jx5)]) hx hb dX7_renew_91 hl (k := 6) rfl rfl (by decide) rfl (fun ls hl => ?_)
    refine lv_goto (tgt := 6) hx hb dX7_renew_94 (by decide) ?_
    exact hk6 jx5 (jx6 + (1 : Int32)) (upd (upd (upd v_t_row (Int32.toNatClampNeg ((12 : Int32) + jx6)) jx3) (Int32.toNatClampNeg ((24 : Int32) + jx6)) jx2) (Int32.toNatClampNeg ((18 : Int32) + jx6)) (-9 : Int32)) ls _ _ hf (lv_sub hl [1, 2, 3, 4, 5, 6, 0] rfl) hP hD hS
set_option maxHeartbeats 4000000 in
set_option maxRecDepth 100000 in
theorem wX7_renew_6 {p : Program} {l : Launch} {e : Env} {s : State} {m : MethodId} {args : Array Value} {below : List Frame} {meth : Method} {c : Code} {D : va_G} {cI cZ : ClassId} (S : CallFix p m c cX7_renew 7 s args wsX7_renew RX7) (hr : meth.sig.returnType = some .int) (hlk : meth.locks = false) (hK : KX D cI cZ s) {a_t a_t_row : Nat} {jx1 : Int32} {jx2 : Int32} {jx3 : Int32} {jx4 : Int32} {r : Int32} {o_t_row : (Nat → Int32)} {A : Nat → Prop} (hA : ∀ q : Nat, s.heap.size ≤ q → A q) : ∀ (n : Nat), ∀ (jx5 : Int32) (jx6 : Int32) (v_t_row : (Nat → Int32)) (ls : Array Slot) (H : Heap) (locs : List Loc), fX7_renew_6 jx1 jx2 jx3 jx4 n jx5 jx6 v_t_row = some (r, o_t_row) → lv_has ls 7 [(0, .ref a_t), (1, .int jx1), (2, .int jx2), (3, .int jx3), (4, .int jx4), (5, .int jx5), (6, .int jx6)] → va_P D vwCl [(a_t, .inr (7, [.ref a_t_row])), (a_t_row, .inl (cI, 104, .inl v_t_row))] H → va_D A [(a_t, .inr (7, [.ref a_t_row])), (a_t_row, .inl (cI, 104, .inl v_t_row))] → va_S A s.heap H locs → W p l e rmX7_renew s m args below meth c H locs 0 0 (MQ below (qM D (some (.int r)) [(a_t, .inr (7, [.ref a_t_row])), (a_t_row, .inl (cI, 104, .inl o_t_row))] A) args s 0 0 A) (F0 m 6 ls []) := by
  obtain ⟨hx, hb, hml, hown, hts⟩ := id S
  intro n
  induction n with
  | zero =>
    intro jx5 jx6 v_t_row ls H locs hf hl hP hD hS
    cases (show (none : Option _) = some _ from hf)
  | succ n ih =>
    intro jx5 jx6 v_t_row ls H locs hf hl hP hD hS
    have hf := (fX7_renew_6_s _ _ _ _ n _ _ _).symm.trans hf
    refine lv_iload hx hb dX7_renew_6 (lv_at hl 6 rfl) ?_
    refine lv_aload_n hx hb dX7_renew_8 rfl (lv_at hl 0 rfl) ?_
    obtain ⟨jr1, je2, hf⟩ := bd1_inv hf
    refine callRV (As := []) (rest := [.int jx6]) S (ctX7_copies l D cI cZ a_t a_t_row v_t_row jr1 je2) (cwV 0 hts gX7_renew_X7_copies rfl rfl rfl ⟨rfl, hdX7_copies⟩ ⟨Nat.le_of_ble_eq_true rfl, Nat.le_of_ble_eq_true rfl⟩) hP [0, 1] rfl KX.xs (fun U _ hW => hK.warm hW) (va_recv hK.1 hP (ci := 7) (q0 := 0) rfl rfl) rfl hl.1 rfl (Nat.le_of_ble_eq_true rfl) dX7_renew_9 ⟨Nat.zero_le _, Nat.zero_le _⟩ ?_
    refine lv_icmp_ge (tgt := 97) hx hb dX7_renew_12 (by decide) (fun jc3 => ?_) (fun jc3 => ?_)
    · have hf := ite_t jc3 hf
      refine lv_iload hx hb dX7_renew_97 (lv_at hl 5 rfl) ?_
      obtain ⟨rfl, rfl⟩ := pr2_inv hf
      exact retM hx hb hr hlk hP hD hS dX7_renew_99
    · have hf := ite_f jc3 hf
      refine lv_iload_n hx hb dX7_renew_15 rfl (lv_at hl 1 rfl) ?_
      refine lv_iload hx hb dX7_renew_16 (lv_at hl 6 rfl) ?_
      refine lv_ishr hx hb dX7_renew_18 ?_
      refine lv_iconst (v := 1) hx hb dX7_renew_19 (by decide) ?_
      refine lv_iand hx hb dX7_renew_20 ?_
      refine lv_iconst (v := 1) hx hb dX7_renew_21 (by decide) ?_
      refine lv_icmp_ne (tgt := 91) hx hb dX7_renew_22 (by decide) (fun jc4 => ?_) (fun jc4 => ?_)
      · have hf := ite_f jc4 hf
        refine lv_iinc (v := (jx6 + (1 : Int32))) (lv' := [(6, .int (jx6 + (1 : Int32))), (0, .ref a_t), (1, .int jx1), (2, .int jx2), (3, .int jx3), (4, .int jx4), (5, .int jx5)]) hx hb dX7_renew_91 hl (k := 6) rfl rfl (by decide) rfl (fun ls hl => ?_)
        refine lv_goto (tgt := 6) hx hb dX7_renew_94 (by decide) ?_
        exact ih jx5 (jx6 + (1 : Int32)) v_t_row ls _ _ hf (lv_sub hl [1, 2, 3, 4, 5, 6, 0] rfl) hP hD hS
      · have hf := ite_t jc4 hf
        refine lv_aload_n hx hb dX7_renew_25 rfl (lv_at hl 0 rfl) ?_
        refine va_get (D := D) (ci := 7) (v := .ref a_t_row) (C := RX7) (T := TX7) (N := 1) hx hb hts iX7_renew_X7 hown hK.1 hP 0 rfl rfl 0 (by decide) (hts _ mX7_renew_1) (fun _ h9 => h9) rfl dX7_renew_26 ?_
        refine lv_bipush (v := 12) hx hb dX7_renew_29 (by decide) ?_
        refine lv_iload hx hb dX7_renew_31 (lv_at hl 6 rfl) ?_
        refine lv_iadd hx hb dX7_renew_33 ?_
        obtain ⟨jh5, hf⟩ := ckI_inv hf
        refine va_iald hx hb hK.1 hP 1 0 rfl rfl jh5 dX7_renew_34 ?_
        refine lv_iload_n hx hb dX7_renew_35 rfl (lv_at hl 3 rfl) ?_
        refine lv_icmp_eq (tgt := 42) hx hb dX7_renew_36 (by decide) (fun jc6 => ?_) (fun jc6 => ?_)
        · have hf := ite_t jc6 hf
          exact wX7_renew_42 S hr hlk hK hA ih jx5 jx6 v_t_row ls _ _ hf (lv_sub hl [0, 1, 2, 3, 4, 5, 6] rfl) hP hD hS
        · have hf := ite_f jc6 hf
          refine lv_iinc (v := (jx5 + (1 : Int32))) (lv' := [(5, .int (jx5 + (1 : Int32))), (0, .ref a_t), (1, .int jx1), (2, .int jx2), (3, .int jx3), (4, .int jx4), (6, .int jx6)]) hx hb dX7_renew_39 hl (k := 5) rfl rfl (by decide) rfl (fun ls hl => ?_)
          exact wX7_renew_42 S hr hlk hK hA ih (jx5 + (1 : Int32)) jx6 v_t_row ls _ _ hf (lv_sub hl [1, 2, 3, 4, 5, 0, 6] rfl) hP hD hS
theorem hdX7_renew : yX7_renew.cls ≠ "java/lang/invoke/MethodHandle" ∧ yX7_renew.cls ≠ "java/lang/invoke/VarHandle" ∧ (parseMethodDescriptor yX7_renew.desc).map (fun d => d.parameters.length) = some 4 := by decide +kernel
set_option maxHeartbeats 4000000 in
set_option maxRecDepth 100000 in
theorem ctX7_renew (l : Launch) (D : va_G) (cI cZ : ClassId) (a_t a_t_row : Nat) (jx1 : Int32) (jx2 : Int32) (jx3 : Int32) (jx4 : Int32) (v_t_row : (Nat → Int32)) (r : Int32) (o_t_row : (Nat → Int32)) (hf : fX7_renew jx1 jx2 jx3 jx4 v_t_row = some (r, o_t_row)) : cM l yX7_renew wsX7_renew rmX7_renew [.ref a_t, .int jx1, .int jx2, .int jx3, .int jx4] D [(a_t, .inr (7, [.ref a_t_row])), (a_t_row, .inl (cI, 104, .inl v_t_row))] [(a_t, .inr (7, [.ref a_t_row])), (a_t_row, .inl (cI, 104, .inl o_t_row))] (KX D cI cZ) (some (.int r)) := by
  refine cM_of (cc := cX7_renew) (maxL := 7) (ret := some .int) (by decide +kernel) rfl _ (Nat.le_of_ble_eq_true rfl) ?_
  intro p e s m below meth c ls A S hr hlk hP hK hl hD hA hS
  obtain ⟨hx, hb, hml, hown, hts⟩ := id S
  have hl : lv_has ls 7 [(0, .ref a_t), (1, .int jx1), (2, .int jx2), (3, .int jx3), (4, .int jx4)] := hl
  unfold fX7_renew at hf
  refine lv_iconst (v := 0) hx hb dX7_renew_0 (by decide) ?_
  refine lv_istore (lv' := [(5, .int (0 : Int32)), (0, .ref a_t), (1, .int jx1), (2, .int jx2), (3, .int jx3), (4, .int jx4)]) hx hb dX7_renew_1 hl (by decide) rfl (fun ls hl => ?_)
  refine lv_iconst (v := 0) hx hb dX7_renew_3 (by decide) ?_
  refine lv_istore (lv' := [(6, .int (0 : Int32)), (5, .int (0 : Int32)), (0, .ref a_t), (1, .int jx1), (2, .int jx2), (3, .int jx3), (4, .int jx4)]) hx hb dX7_renew_4 hl (by decide) rfl (fun ls hl => ?_)
  exact wX7_renew_6 S hr hlk hK hA fuel (0 : Int32) (0 : Int32) v_t_row ls _ _ hf (lv_sub hl [2, 3, 4, 5, 6, 1, 0] rfl) hP hD hS
def fX7_configurations (v_t_row : (Nat → Int32)) : Option (Int32) := ckI 104 (31 : Int32) (some (v_t_row (Int32.toNatClampNeg (31 : Int32))))
abbrev rmX7_configurations : Room := { frames := 0, cells := 0, slots := 0, locals := 0 }
theorem iX7_configurations_X7 : ∀ w ∈ wsX70, w ∈ wsX7_configurations := fun _ h => List.mem_cons_of_mem _ (List.mem_append_right _ h)
theorem mX7_configurations_1 : (Cond.fieldLink RX7 11 "VoteFiles$Shape" "row" "[I") ∈ wsX7_configurations := List.mem_of_getElem? (i := 1) rfl
theorem hdX7_configurations : yX7_configurations.cls ≠ "java/lang/invoke/MethodHandle" ∧ yX7_configurations.cls ≠ "java/lang/invoke/VarHandle" ∧ (parseMethodDescriptor yX7_configurations.desc).map (fun d => d.parameters.length) = some 0 := by decide +kernel
set_option maxHeartbeats 4000000 in
set_option maxRecDepth 100000 in
theorem ctX7_configurations (l : Launch) (D : va_G) (cI cZ : ClassId) (a_t a_t_row : Nat) (v_t_row : (Nat → Int32)) (r : Int32) (hf : fX7_configurations v_t_row = some r) : cR l yX7_configurations wsX7_configurations rmX7_configurations [.ref a_t] D [(a_t, .inr (7, [.ref a_t_row])), (a_t_row, .inl (cI, 104, .inl v_t_row))] (KX D cI cZ) r := by
  refine cR_of (cc := cX7_configurations) (maxL := 1) (ret := some .int) (by decide +kernel) rfl _ (Nat.le_of_ble_eq_true rfl) ?_
  intro p e s m below meth c ls S hr hlk hP hK hl
  obtain ⟨hx, hb, hml, hown, hts⟩ := id S
  have hl : lv_has ls 1 [(0, .ref a_t)] := hl
  unfold fX7_configurations at hf
  refine lv_aload_n hx hb dX7_configurations_0 rfl (lv_at hl 0 rfl) ?_
  refine va_get (D := D) (ci := 7) (v := .ref a_t_row) (C := RX7) (T := TX7) (N := 1) hx hb hts iX7_configurations_X7 hown hK.1 hP 0 rfl rfl 0 (by decide) (hts _ mX7_configurations_1) (fun _ h9 => h9) rfl dX7_configurations_1 ?_
  refine lv_bipush (v := 31) hx hb dX7_configurations_4 (by decide) ?_
  obtain ⟨jh1, hf⟩ := ckI_inv hf
  refine va_iald hx hb hK.1 hP 1 0 rfl rfl jh1 dX7_configurations_6 ?_
  obtain rfl := Option.some.inj hf
  exact retR hx hb hr hlk dX7_configurations_7
def fX7_newest (v_t_row : (Nat → Int32)) : Option (Int32) := ckI 104 (31 : Int32) (some ((v_t_row (Int32.toNatClampNeg (31 : Int32))) - (1 : Int32)))
abbrev rmX7_newest : Room := { frames := 0, cells := 0, slots := 0, locals := 0 }
theorem iX7_newest_X7 : ∀ w ∈ wsX70, w ∈ wsX7_newest := fun _ h => List.mem_cons_of_mem _ (List.mem_append_right _ h)
theorem mX7_newest_1 : (Cond.fieldLink RX7 11 "VoteFiles$Shape" "row" "[I") ∈ wsX7_newest := List.mem_of_getElem? (i := 1) rfl
theorem hdX7_newest : yX7_newest.cls ≠ "java/lang/invoke/MethodHandle" ∧ yX7_newest.cls ≠ "java/lang/invoke/VarHandle" ∧ (parseMethodDescriptor yX7_newest.desc).map (fun d => d.parameters.length) = some 0 := by decide +kernel
set_option maxHeartbeats 4000000 in
set_option maxRecDepth 100000 in
theorem ctX7_newest (l : Launch) (D : va_G) (cI cZ : ClassId) (a_t a_t_row : Nat) (v_t_row : (Nat → Int32)) (r : Int32) (hf : fX7_newest v_t_row = some r) : cR l yX7_newest wsX7_newest rmX7_newest [.ref a_t] D [(a_t, .inr (7, [.ref a_t_row])), (a_t_row, .inl (cI, 104, .inl v_t_row))] (KX D cI cZ) r := by
  refine cR_of (cc := cX7_newest) (maxL := 1) (ret := some .int) (by decide +kernel) rfl _ (Nat.le_of_ble_eq_true rfl) ?_
  intro p e s m below meth c ls S hr hlk hP hK hl
  obtain ⟨hx, hb, hml, hown, hts⟩ := id S
  have hl : lv_has ls 1 [(0, .ref a_t)] := hl
  unfold fX7_newest at hf
  refine lv_aload_n hx hb dX7_newest_0 rfl (lv_at hl 0 rfl) ?_
  refine va_get (D := D) (ci := 7) (v := .ref a_t_row) (C := RX7) (T := TX7) (N := 1) hx hb hts iX7_newest_X7 hown hK.1 hP 0 rfl rfl 0 (by decide) (hts _ mX7_newest_1) (fun _ h9 => h9) rfl dX7_newest_1 ?_
  refine lv_bipush (v := 31) hx hb dX7_newest_4 (by decide) ?_
  obtain ⟨jh1, hf⟩ := ckI_inv hf
  refine va_iald hx hb hK.1 hP 1 0 rfl rfl jh1 dX7_newest_6 ?_
  refine lv_iconst (v := 1) hx hb dX7_newest_7 (by decide) ?_
  refine lv_isub hx hb dX7_newest_8 ?_
  obtain rfl := Option.some.inj hf
  exact retR hx hb hr hlk dX7_newest_9
def fX7_votesOf (jx1 : Int32) (jx2 : Int32) (v_t_row : (Nat → Int32)) : Option (Int32) := ckI 104 (((32 : Int32) + (jx1 * (9 : Int32))) + jx2) (some (v_t_row (Int32.toNatClampNeg (((32 : Int32) + (jx1 * (9 : Int32))) + jx2))))
abbrev rmX7_votesOf : Room := { frames := 0, cells := 0, slots := 0, locals := 0 }
theorem iX7_votesOf_X7 : ∀ w ∈ wsX70, w ∈ wsX7_votesOf := fun _ h => List.mem_cons_of_mem _ (List.mem_append_right _ h)
theorem mX7_votesOf_1 : (Cond.fieldLink RX7 11 "VoteFiles$Shape" "row" "[I") ∈ wsX7_votesOf := List.mem_of_getElem? (i := 1) rfl
theorem hdX7_votesOf : yX7_votesOf.cls ≠ "java/lang/invoke/MethodHandle" ∧ yX7_votesOf.cls ≠ "java/lang/invoke/VarHandle" ∧ (parseMethodDescriptor yX7_votesOf.desc).map (fun d => d.parameters.length) = some 2 := by decide +kernel
set_option maxHeartbeats 4000000 in
set_option maxRecDepth 100000 in
theorem ctX7_votesOf (l : Launch) (D : va_G) (cI cZ : ClassId) (a_t a_t_row : Nat) (jx1 : Int32) (jx2 : Int32) (v_t_row : (Nat → Int32)) (r : Int32) (hf : fX7_votesOf jx1 jx2 v_t_row = some r) : cR l yX7_votesOf wsX7_votesOf rmX7_votesOf [.ref a_t, .int jx1, .int jx2] D [(a_t, .inr (7, [.ref a_t_row])), (a_t_row, .inl (cI, 104, .inl v_t_row))] (KX D cI cZ) r := by
  refine cR_of (cc := cX7_votesOf) (maxL := 3) (ret := some .int) (by decide +kernel) rfl _ (Nat.le_of_ble_eq_true rfl) ?_
  intro p e s m below meth c ls S hr hlk hP hK hl
  obtain ⟨hx, hb, hml, hown, hts⟩ := id S
  have hl : lv_has ls 3 [(0, .ref a_t), (1, .int jx1), (2, .int jx2)] := hl
  unfold fX7_votesOf at hf
  refine lv_aload_n hx hb dX7_votesOf_0 rfl (lv_at hl 0 rfl) ?_
  refine va_get (D := D) (ci := 7) (v := .ref a_t_row) (C := RX7) (T := TX7) (N := 1) hx hb hts iX7_votesOf_X7 hown hK.1 hP 0 rfl rfl 0 (by decide) (hts _ mX7_votesOf_1) (fun _ h9 => h9) rfl dX7_votesOf_1 ?_
  refine lv_bipush (v := 32) hx hb dX7_votesOf_4 (by decide) ?_
  refine lv_iload_n hx hb dX7_votesOf_6 rfl (lv_at hl 1 rfl) ?_
  refine lv_bipush (v := 9) hx hb dX7_votesOf_7 (by decide) ?_
  refine lv_imul hx hb dX7_votesOf_9 ?_
  refine lv_iadd hx hb dX7_votesOf_10 ?_
  refine lv_iload_n hx hb dX7_votesOf_11 rfl (lv_at hl 2 rfl) ?_
  refine lv_iadd hx hb dX7_votesOf_12 ?_
  obtain ⟨jh1, hf⟩ := ckI_inv hf
  refine va_iald hx hb hK.1 hP 1 0 rfl rfl jh1 dX7_votesOf_13 ?_
  obtain rfl := Option.some.inj hf
  exact retR hx hb hr hlk dX7_votesOf_14
def fX7_readOf (jx1 : Int32) (v_t_row : (Nat → Int32)) : Option (Int32) := ckI 104 (((32 : Int32) + (jx1 * (9 : Int32))) + (7 : Int32)) (some (v_t_row (Int32.toNatClampNeg (((32 : Int32) + (jx1 * (9 : Int32))) + (7 : Int32)))))
abbrev rmX7_readOf : Room := { frames := 0, cells := 0, slots := 0, locals := 0 }
theorem iX7_readOf_X7 : ∀ w ∈ wsX70, w ∈ wsX7_readOf := fun _ h => List.mem_cons_of_mem _ (List.mem_append_right _ h)
theorem mX7_readOf_1 : (Cond.fieldLink RX7 11 "VoteFiles$Shape" "row" "[I") ∈ wsX7_readOf := List.mem_of_getElem? (i := 1) rfl
theorem hdX7_readOf : yX7_readOf.cls ≠ "java/lang/invoke/MethodHandle" ∧ yX7_readOf.cls ≠ "java/lang/invoke/VarHandle" ∧ (parseMethodDescriptor yX7_readOf.desc).map (fun d => d.parameters.length) = some 1 := by decide +kernel
set_option maxHeartbeats 4000000 in
set_option maxRecDepth 100000 in
theorem ctX7_readOf (l : Launch) (D : va_G) (cI cZ : ClassId) (a_t a_t_row : Nat) (jx1 : Int32) (v_t_row : (Nat → Int32)) (r : Int32) (hf : fX7_readOf jx1 v_t_row = some r) : cR l yX7_readOf wsX7_readOf rmX7_readOf [.ref a_t, .int jx1] D [(a_t, .inr (7, [.ref a_t_row])), (a_t_row, .inl (cI, 104, .inl v_t_row))] (KX D cI cZ) r := by
  refine cR_of (cc := cX7_readOf) (maxL := 2) (ret := some .int) (by decide +kernel) rfl _ (Nat.le_of_ble_eq_true rfl) ?_
  intro p e s m below meth c ls S hr hlk hP hK hl
  obtain ⟨hx, hb, hml, hown, hts⟩ := id S
  have hl : lv_has ls 2 [(0, .ref a_t), (1, .int jx1)] := hl
  unfold fX7_readOf at hf
  refine lv_aload_n hx hb dX7_readOf_0 rfl (lv_at hl 0 rfl) ?_
  refine va_get (D := D) (ci := 7) (v := .ref a_t_row) (C := RX7) (T := TX7) (N := 1) hx hb hts iX7_readOf_X7 hown hK.1 hP 0 rfl rfl 0 (by decide) (hts _ mX7_readOf_1) (fun _ h9 => h9) rfl dX7_readOf_1 ?_
  refine lv_bipush (v := 32) hx hb dX7_readOf_4 (by decide) ?_
  refine lv_iload_n hx hb dX7_readOf_6 rfl (lv_at hl 1 rfl) ?_
  refine lv_bipush (v := 9) hx hb dX7_readOf_7 (by decide) ?_
  refine lv_imul hx hb dX7_readOf_9 ?_
  refine lv_iadd hx hb dX7_readOf_10 ?_
  refine lv_bipush (v := 7) hx hb dX7_readOf_11 (by decide) ?_
  refine lv_iadd hx hb dX7_readOf_13 ?_
  obtain ⟨jh1, hf⟩ := ckI_inv hf
  refine va_iald hx hb hK.1 hP 1 0 rfl rfl jh1 dX7_readOf_14 ?_
  obtain rfl := Option.some.inj hf
  exact retR hx hb hr hlk dX7_readOf_15
def fX7_writeOf (jx1 : Int32) (v_t_row : (Nat → Int32)) : Option (Int32) := ckI 104 (((32 : Int32) + (jx1 * (9 : Int32))) + (8 : Int32)) (some (v_t_row (Int32.toNatClampNeg (((32 : Int32) + (jx1 * (9 : Int32))) + (8 : Int32)))))
abbrev rmX7_writeOf : Room := { frames := 0, cells := 0, slots := 0, locals := 0 }
theorem iX7_writeOf_X7 : ∀ w ∈ wsX70, w ∈ wsX7_writeOf := fun _ h => List.mem_cons_of_mem _ (List.mem_append_right _ h)
theorem mX7_writeOf_1 : (Cond.fieldLink RX7 11 "VoteFiles$Shape" "row" "[I") ∈ wsX7_writeOf := List.mem_of_getElem? (i := 1) rfl
theorem hdX7_writeOf : yX7_writeOf.cls ≠ "java/lang/invoke/MethodHandle" ∧ yX7_writeOf.cls ≠ "java/lang/invoke/VarHandle" ∧ (parseMethodDescriptor yX7_writeOf.desc).map (fun d => d.parameters.length) = some 1 := by decide +kernel
set_option maxHeartbeats 4000000 in
set_option maxRecDepth 100000 in
theorem ctX7_writeOf (l : Launch) (D : va_G) (cI cZ : ClassId) (a_t a_t_row : Nat) (jx1 : Int32) (v_t_row : (Nat → Int32)) (r : Int32) (hf : fX7_writeOf jx1 v_t_row = some r) : cR l yX7_writeOf wsX7_writeOf rmX7_writeOf [.ref a_t, .int jx1] D [(a_t, .inr (7, [.ref a_t_row])), (a_t_row, .inl (cI, 104, .inl v_t_row))] (KX D cI cZ) r := by
  refine cR_of (cc := cX7_writeOf) (maxL := 2) (ret := some .int) (by decide +kernel) rfl _ (Nat.le_of_ble_eq_true rfl) ?_
  intro p e s m below meth c ls S hr hlk hP hK hl
  obtain ⟨hx, hb, hml, hown, hts⟩ := id S
  have hl : lv_has ls 2 [(0, .ref a_t), (1, .int jx1)] := hl
  unfold fX7_writeOf at hf
  refine lv_aload_n hx hb dX7_writeOf_0 rfl (lv_at hl 0 rfl) ?_
  refine va_get (D := D) (ci := 7) (v := .ref a_t_row) (C := RX7) (T := TX7) (N := 1) hx hb hts iX7_writeOf_X7 hown hK.1 hP 0 rfl rfl 0 (by decide) (hts _ mX7_writeOf_1) (fun _ h9 => h9) rfl dX7_writeOf_1 ?_
  refine lv_bipush (v := 32) hx hb dX7_writeOf_4 (by decide) ?_
  refine lv_iload_n hx hb dX7_writeOf_6 rfl (lv_at hl 1 rfl) ?_
  refine lv_bipush (v := 9) hx hb dX7_writeOf_7 (by decide) ?_
  refine lv_imul hx hb dX7_writeOf_9 ?_
  refine lv_iadd hx hb dX7_writeOf_10 ?_
  refine lv_bipush (v := 8) hx hb dX7_writeOf_11 (by decide) ?_
  refine lv_iadd hx hb dX7_writeOf_13 ?_
  obtain ⟨jh1, hf⟩ := ckI_inv hf
  refine va_iald hx hb hK.1 hP 1 0 rfl rfl jh1 dX7_writeOf_14 ?_
  obtain rfl := Option.some.inj hf
  exact retR hx hb hr hlk dX7_writeOf_15
def fX7_need (jx1 : Int32) (jx2 : Int32) (v_t_row : (Nat → Int32)) : Option (Int32) := if jx2 = 0 then bd1 (fX7_readOf jx1 v_t_row) (fun jr4 => some jr4) else bd1 (fX7_writeOf jx1 v_t_row) (fun jr2 => some jr2)
abbrev rmX7_need : Room := { frames := 1, cells := 0, slots := 0, locals := 21 }
theorem hdX7_need : yX7_need.cls ≠ "java/lang/invoke/MethodHandle" ∧ yX7_need.cls ≠ "java/lang/invoke/VarHandle" ∧ (parseMethodDescriptor yX7_need.desc).map (fun d => d.parameters.length) = some 2 := by decide +kernel
set_option maxHeartbeats 4000000 in
set_option maxRecDepth 100000 in
theorem ctX7_need (l : Launch) (D : va_G) (cI cZ : ClassId) (a_t a_t_row : Nat) (jx1 : Int32) (jx2 : Int32) (v_t_row : (Nat → Int32)) (r : Int32) (hf : fX7_need jx1 jx2 v_t_row = some r) : cR l yX7_need wsX7_need rmX7_need [.ref a_t, .int jx1, .int jx2] D [(a_t, .inr (7, [.ref a_t_row])), (a_t_row, .inl (cI, 104, .inl v_t_row))] (KX D cI cZ) r := by
  refine cR_of (cc := cX7_need) (maxL := 3) (ret := some .int) (by decide +kernel) rfl _ (Nat.le_of_ble_eq_true rfl) ?_
  intro p e s m below meth c ls S hr hlk hP hK hl
  obtain ⟨hx, hb, hml, hown, hts⟩ := id S
  have hl : lv_has ls 3 [(0, .ref a_t), (1, .int jx1), (2, .int jx2)] := hl
  unfold fX7_need at hf
  refine lv_iload_n hx hb dX7_need_0 rfl (lv_at hl 2 rfl) ?_
  refine lv_if_ne (tgt := 12) hx hb dX7_need_1 (by decide) (fun jc1 => ?_) (fun jc1 => ?_)
  · have hf := ite_f jc1 hf
    refine lv_aload_n hx hb dX7_need_12 rfl (lv_at hl 0 rfl) ?_
    refine lv_iload_n hx hb dX7_need_13 rfl (lv_at hl 1 rfl) ?_
    obtain ⟨jr2, je3, hf⟩ := bd1_inv hf
    refine callRV (As := [.int jx1]) (rest := []) S (ctX7_writeOf l D cI cZ a_t a_t_row jx1 v_t_row jr2 je3) (cwV 1 hts gX7_need_X7_writeOf rfl rfl rfl ⟨rfl, hdX7_writeOf⟩ ⟨Nat.le_of_ble_eq_true rfl, Nat.le_of_ble_eq_true rfl⟩) hP [0, 1] rfl KX.xs (fun U _ hW => hK.warm hW) (va_recv hK.1 hP (ci := 7) (q0 := 0) rfl rfl) rfl hl.1 rfl (Nat.le_of_ble_eq_true rfl) dX7_need_14 ⟨Nat.zero_le _, Nat.zero_le _⟩ ?_
    obtain rfl := Option.some.inj hf
    exact retR hx hb hr hlk dX7_need_17
  · have hf := ite_t jc1 hf
    refine lv_aload_n hx hb dX7_need_4 rfl (lv_at hl 0 rfl) ?_
    refine lv_iload_n hx hb dX7_need_5 rfl (lv_at hl 1 rfl) ?_
    obtain ⟨jr4, je5, hf⟩ := bd1_inv hf
    refine callRV (As := [.int jx1]) (rest := []) S (ctX7_readOf l D cI cZ a_t a_t_row jx1 v_t_row jr4 je5) (cwV 1 hts gX7_need_X7_readOf rfl rfl rfl ⟨rfl, hdX7_readOf⟩ ⟨Nat.le_of_ble_eq_true rfl, Nat.le_of_ble_eq_true rfl⟩) hP [0, 1] rfl KX.xs (fun U _ hW => hK.warm hW) (va_recv hK.1 hP (ci := 7) (q0 := 0) rfl rfl) rfl hl.1 rfl (Nat.le_of_ble_eq_true rfl) dX7_need_6 ⟨Nat.zero_le _, Nat.zero_le _⟩ ?_
    refine lv_goto (tgt := 17) hx hb dX7_need_9 (by decide) ?_
    obtain rfl := Option.some.inj hf
    exact retR hx hb hr hlk dX7_need_17
def fX7_votesOfSet_5 (jx1 : Int32) (jx2 : Int32) (v_t_row : (Nat → Int32)) : Nat → Int32 → Int32 → Option (Int32)
  | 0, _, _ => none
  | n + 1, jx3, jx4 => bd1 (fX7_copies v_t_row) (fun jr1 => if jr1 ≤ jx4 then some jx3 else if ((jx2 >>> (jx4 &&& 31)) &&& (1 : Int32)) = (1 : Int32) then bd1 (fX7_votesOf jx1 jx4 v_t_row) (fun jr5 => (fX7_votesOfSet_5 jx1 jx2 v_t_row n) (jx3 + jr5) (jx4 + (1 : Int32))) else (fX7_votesOfSet_5 jx1 jx2 v_t_row n) jx3 (jx4 + (1 : Int32)))
theorem fX7_votesOfSet_5_s (jx1 : Int32) (jx2 : Int32) (v_t_row : (Nat → Int32)) (n : Nat) (jx3 : Int32) (jx4 : Int32) : fX7_votesOfSet_5 jx1 jx2 v_t_row (n + 1) jx3 jx4 = bd1 (fX7_copies v_t_row) (fun jr1 => if jr1 ≤ jx4 then some jx3 else if ((jx2 >>> (jx4 &&& 31)) &&& (1 : Int32)) = (1 : Int32) then bd1 (fX7_votesOf jx1 jx4 v_t_row) (fun jr5 => (fX7_votesOfSet_5 jx1 jx2 v_t_row n) (jx3 + jr5) (jx4 + (1 : Int32))) else (fX7_votesOfSet_5 jx1 jx2 v_t_row n) jx3 (jx4 + (1 : Int32))) := rfl
def fX7_votesOfSet (jx1 : Int32) (jx2 : Int32) (v_t_row : (Nat → Int32)) : Option (Int32) := fX7_votesOfSet_5 jx1 jx2 v_t_row fuel (0 : Int32) (0 : Int32)
abbrev rmX7_votesOfSet : Room := { frames := 1, cells := 0, slots := 0, locals := 22 }
set_option maxHeartbeats 4000000 in
set_option maxRecDepth 100000 in
theorem wX7_votesOfSet_5 {p : Program} {l : Launch} {e : Env} {s : State} {m : MethodId} {args : Array Value} {below : List Frame} {meth : Method} {c : Code} {D : va_G} {cI cZ : ClassId} (S : CallFix p m c cX7_votesOfSet 5 s args wsX7_votesOfSet RX7) (hr : meth.sig.returnType = some .int) (hlk : meth.locks = false) (hK : KX D cI cZ s) {a_t a_t_row : Nat} {jx1 : Int32} {jx2 : Int32} {v_t_row : (Nat → Int32)} {r : Int32} (hP : va_P D vwCl [(a_t, .inr (7, [.ref a_t_row])), (a_t_row, .inl (cI, 104, .inl v_t_row))] s.heap) : ∀ (n : Nat), ∀ (jx3 : Int32) (jx4 : Int32) (ls : Array Slot), fX7_votesOfSet_5 jx1 jx2 v_t_row n jx3 jx4 = some r → lv_has ls 5 [(0, .ref a_t), (1, .int jx1), (2, .int jx2), (3, .int jx3), (4, .int jx4)] → W p l e rmX7_votesOfSet s m args below meth c s.heap [] 0 0 (MQ below (QcRead r) args s 0 0 (fun _ => False)) (F0 m 5 ls []) := by
  obtain ⟨hx, hb, hml, hown, hts⟩ := id S
  intro n
  induction n with
  | zero =>
    intro jx3 jx4 ls hf hl
    cases (show (none : Option _) = some _ from hf)
  | succ n ih =>
    intro jx3 jx4 ls hf hl
    have hf := (fX7_votesOfSet_5_s _ _ _ n _ _).symm.trans hf
    refine lv_iload hx hb dX7_votesOfSet_5 (lv_at hl 4 rfl) ?_
    refine lv_aload_n hx hb dX7_votesOfSet_7 rfl (lv_at hl 0 rfl) ?_
    obtain ⟨jr1, je2, hf⟩ := bd1_inv hf
    refine callRV (As := []) (rest := [.int jx4]) S (ctX7_copies l D cI cZ a_t a_t_row v_t_row jr1 je2) (cwV 0 hts gX7_votesOfSet_X7_copies rfl rfl rfl ⟨rfl, hdX7_copies⟩ ⟨Nat.le_of_ble_eq_true rfl, Nat.le_of_ble_eq_true rfl⟩) hP [0, 1] rfl KX.xs (fun U _ hW => hK.warm hW) (va_recv hK.1 hP (ci := 7) (q0 := 0) rfl rfl) rfl hl.1 rfl (Nat.le_of_ble_eq_true rfl) dX7_votesOfSet_8 ⟨Nat.zero_le _, Nat.zero_le _⟩ ?_
    refine lv_icmp_ge (tgt := 40) hx hb dX7_votesOfSet_11 (by decide) (fun jc3 => ?_) (fun jc3 => ?_)
    · have hf := ite_t jc3 hf
      refine lv_iload_n hx hb dX7_votesOfSet_40 rfl (lv_at hl 3 rfl) ?_
      obtain rfl := Option.some.inj hf
      exact retR hx hb hr hlk dX7_votesOfSet_41
    · have hf := ite_f jc3 hf
      refine lv_iload_n hx hb dX7_votesOfSet_14 rfl (lv_at hl 2 rfl) ?_
      refine lv_iload hx hb dX7_votesOfSet_15 (lv_at hl 4 rfl) ?_
      refine lv_ishr hx hb dX7_votesOfSet_17 ?_
      refine lv_iconst (v := 1) hx hb dX7_votesOfSet_18 (by decide) ?_
      refine lv_iand hx hb dX7_votesOfSet_19 ?_
      refine lv_iconst (v := 1) hx hb dX7_votesOfSet_20 (by decide) ?_
      refine lv_icmp_ne (tgt := 34) hx hb dX7_votesOfSet_21 (by decide) (fun jc4 => ?_) (fun jc4 => ?_)
      · have hf := ite_f jc4 hf
        refine lv_iinc (v := (jx4 + (1 : Int32))) (lv' := [(4, .int (jx4 + (1 : Int32))), (0, .ref a_t), (1, .int jx1), (2, .int jx2), (3, .int jx3)]) hx hb dX7_votesOfSet_34 hl (k := 4) rfl rfl (by decide) rfl (fun ls hl => ?_)
        refine lv_goto (tgt := 5) hx hb dX7_votesOfSet_37 (by decide) ?_
        exact ih jx3 (jx4 + (1 : Int32)) ls hf (lv_sub hl [1, 2, 3, 4, 0] rfl)
      · have hf := ite_t jc4 hf
        refine lv_iload_n hx hb dX7_votesOfSet_24 rfl (lv_at hl 3 rfl) ?_
        refine lv_aload_n hx hb dX7_votesOfSet_25 rfl (lv_at hl 0 rfl) ?_
        refine lv_iload_n hx hb dX7_votesOfSet_26 rfl (lv_at hl 1 rfl) ?_
        refine lv_iload hx hb dX7_votesOfSet_27 (lv_at hl 4 rfl) ?_
        obtain ⟨jr5, je6, hf⟩ := bd1_inv hf
        refine callRV (As := [.int jx1, .int jx4]) (rest := [.int jx3]) S (ctX7_votesOf l D cI cZ a_t a_t_row jx1 jx4 v_t_row jr5 je6) (cwV 2 hts gX7_votesOfSet_X7_votesOf rfl rfl rfl ⟨rfl, hdX7_votesOf⟩ ⟨Nat.le_of_ble_eq_true rfl, Nat.le_of_ble_eq_true rfl⟩) hP [0, 1] rfl KX.xs (fun U _ hW => hK.warm hW) (va_recv hK.1 hP (ci := 7) (q0 := 0) rfl rfl) rfl hl.1 rfl (Nat.le_of_ble_eq_true rfl) dX7_votesOfSet_29 ⟨Nat.zero_le _, Nat.zero_le _⟩ ?_
        refine lv_iadd hx hb dX7_votesOfSet_32 ?_
        refine lv_istore_n (lv' := [(3, .int (jx3 + jr5)), (0, .ref a_t), (1, .int jx1), (2, .int jx2), (4, .int jx4)]) hx hb dX7_votesOfSet_33 rfl hl (by decide) rfl (fun ls hl => ?_)
        refine lv_iinc (v := (jx4 + (1 : Int32))) (lv' := [(4, .int (jx4 + (1 : Int32))), (3, .int (jx3 + jr5)), (0, .ref a_t), (1, .int jx1), (2, .int jx2)]) hx hb dX7_votesOfSet_34 hl (k := 4) rfl rfl (by decide) rfl (fun ls hl => ?_)
        refine lv_goto (tgt := 5) hx hb dX7_votesOfSet_37 (by decide) ?_
        exact ih (jx3 + jr5) (jx4 + (1 : Int32)) ls hf (lv_sub hl [2, 3, 4, 1, 0] rfl)
theorem hdX7_votesOfSet : yX7_votesOfSet.cls ≠ "java/lang/invoke/MethodHandle" ∧ yX7_votesOfSet.cls ≠ "java/lang/invoke/VarHandle" ∧ (parseMethodDescriptor yX7_votesOfSet.desc).map (fun d => d.parameters.length) = some 2 := by decide +kernel
set_option maxHeartbeats 4000000 in
set_option maxRecDepth 100000 in
theorem ctX7_votesOfSet (l : Launch) (D : va_G) (cI cZ : ClassId) (a_t a_t_row : Nat) (jx1 : Int32) (jx2 : Int32) (v_t_row : (Nat → Int32)) (r : Int32) (hf : fX7_votesOfSet jx1 jx2 v_t_row = some r) : cR l yX7_votesOfSet wsX7_votesOfSet rmX7_votesOfSet [.ref a_t, .int jx1, .int jx2] D [(a_t, .inr (7, [.ref a_t_row])), (a_t_row, .inl (cI, 104, .inl v_t_row))] (KX D cI cZ) r := by
  refine cR_of (cc := cX7_votesOfSet) (maxL := 5) (ret := some .int) (by decide +kernel) rfl _ (Nat.le_of_ble_eq_true rfl) ?_
  intro p e s m below meth c ls S hr hlk hP hK hl
  obtain ⟨hx, hb, hml, hown, hts⟩ := id S
  have hl : lv_has ls 5 [(0, .ref a_t), (1, .int jx1), (2, .int jx2)] := hl
  unfold fX7_votesOfSet at hf
  refine lv_iconst (v := 0) hx hb dX7_votesOfSet_0 (by decide) ?_
  refine lv_istore_n (lv' := [(3, .int (0 : Int32)), (0, .ref a_t), (1, .int jx1), (2, .int jx2)]) hx hb dX7_votesOfSet_1 rfl hl (by decide) rfl (fun ls hl => ?_)
  refine lv_iconst (v := 0) hx hb dX7_votesOfSet_2 (by decide) ?_
  refine lv_istore (lv' := [(4, .int (0 : Int32)), (3, .int (0 : Int32)), (0, .ref a_t), (1, .int jx1), (2, .int jx2)]) hx hb dX7_votesOfSet_3 hl (by decide) rfl (fun ls hl => ?_)
  exact wX7_votesOfSet_5 S hr hlk hK hP fuel (0 : Int32) (0 : Int32) ls hf (lv_sub hl [2, 3, 4, 1, 0] rfl)
def fX7_total (jx1 : Int32) (v_t_row : (Nat → Int32)) : Option (Int32) := bd1 (fX7_sets v_t_row) (fun jr1 => bd1 (fX7_votesOfSet jx1 (jr1 - (1 : Int32)) v_t_row) (fun jr3 => some jr3))
abbrev rmX7_total : Room := { frames := 2, cells := 0, slots := 0, locals := 46 }
theorem hdX7_total : yX7_total.cls ≠ "java/lang/invoke/MethodHandle" ∧ yX7_total.cls ≠ "java/lang/invoke/VarHandle" ∧ (parseMethodDescriptor yX7_total.desc).map (fun d => d.parameters.length) = some 1 := by decide +kernel
set_option maxHeartbeats 4000000 in
set_option maxRecDepth 100000 in
theorem ctX7_total (l : Launch) (D : va_G) (cI cZ : ClassId) (a_t a_t_row : Nat) (jx1 : Int32) (v_t_row : (Nat → Int32)) (r : Int32) (hf : fX7_total jx1 v_t_row = some r) : cR l yX7_total wsX7_total rmX7_total [.ref a_t, .int jx1] D [(a_t, .inr (7, [.ref a_t_row])), (a_t_row, .inl (cI, 104, .inl v_t_row))] (KX D cI cZ) r := by
  refine cR_of (cc := cX7_total) (maxL := 2) (ret := some .int) (by decide +kernel) rfl _ (Nat.le_of_ble_eq_true rfl) ?_
  intro p e s m below meth c ls S hr hlk hP hK hl
  obtain ⟨hx, hb, hml, hown, hts⟩ := id S
  have hl : lv_has ls 2 [(0, .ref a_t), (1, .int jx1)] := hl
  unfold fX7_total at hf
  refine lv_aload_n hx hb dX7_total_0 rfl (lv_at hl 0 rfl) ?_
  refine lv_iload_n hx hb dX7_total_1 rfl (lv_at hl 1 rfl) ?_
  refine lv_aload_n hx hb dX7_total_2 rfl (lv_at hl 0 rfl) ?_
  obtain ⟨jr1, je2, hf⟩ := bd1_inv hf
  refine callRV (As := []) (rest := [.int jx1, .ref a_t]) S (ctX7_sets l D cI cZ a_t a_t_row v_t_row jr1 je2) (cwV 0 hts gX7_total_X7_sets rfl rfl rfl ⟨rfl, hdX7_sets⟩ ⟨Nat.le_of_ble_eq_true rfl, Nat.le_of_ble_eq_true rfl⟩) hP [0, 1] rfl KX.xs (fun U _ hW => hK.warm hW) (va_recv hK.1 hP (ci := 7) (q0 := 0) rfl rfl) rfl hl.1 rfl (Nat.le_of_ble_eq_true rfl) dX7_total_3 ⟨Nat.zero_le _, Nat.zero_le _⟩ ?_
  refine lv_iconst (v := 1) hx hb dX7_total_6 (by decide) ?_
  refine lv_isub hx hb dX7_total_7 ?_
  obtain ⟨jr3, je4, hf⟩ := bd1_inv hf
  refine callRV (As := [.int jx1, .int (jr1 - (1 : Int32))]) (rest := []) S (ctX7_votesOfSet l D cI cZ a_t a_t_row jx1 (jr1 - (1 : Int32)) v_t_row jr3 je4) (cwV 2 hts gX7_total_X7_votesOfSet rfl rfl rfl ⟨rfl, hdX7_votesOfSet⟩ ⟨Nat.le_of_ble_eq_true rfl, Nat.le_of_ble_eq_true rfl⟩) hP [0, 1] rfl KX.xs (fun U _ hW => hK.warm hW) (va_recv hK.1 hP (ci := 7) (q0 := 0) rfl rfl) rfl hl.1 rfl (Nat.le_of_ble_eq_true rfl) dX7_total_8 ⟨Nat.zero_le _, Nat.zero_le _⟩ ?_
  obtain rfl := Option.some.inj hf
  exact retR hx hb hr hlk dX7_total_11
def fX7_addLike (jx1 : Int32) (v_t_row : (Nat → Int32)) : Option (Int32 × (Nat → Int32)) := ckI 104 (31 : Int32) (cpI 104 104 ((32 : Int32) + (jx1 * (9 : Int32))) ((32 : Int32) + ((v_t_row (Int32.toNatClampNeg (31 : Int32))) * (9 : Int32))) (9 : Int32) (ckI 104 (31 : Int32) (some ((v_t_row (Int32.toNatClampNeg (31 : Int32))), (upd (va_cpy v_t_row v_t_row (Int32.toNatClampNeg ((32 : Int32) + (jx1 * (9 : Int32)))) (Int32.toNatClampNeg ((32 : Int32) + ((v_t_row (Int32.toNatClampNeg (31 : Int32))) * (9 : Int32)))) (Int32.toNatClampNeg (9 : Int32))) (Int32.toNatClampNeg (31 : Int32)) ((v_t_row (Int32.toNatClampNeg (31 : Int32))) + (1 : Int32)))))))
abbrev rmX7_addLike : Room := { frames := 1, cells := 0, slots := 0, locals := 26 }
theorem iX7_addLike_X7 : ∀ w ∈ wsX70, w ∈ wsX7_addLike := fun _ h => List.mem_cons_of_mem _ (List.mem_append_right _ h)
theorem mX7_addLike_1 : (Cond.fieldLink RX7 11 "VoteFiles$Shape" "row" "[I") ∈ wsX7_addLike := List.mem_of_getElem? (i := 1) rfl
theorem mX7_addLike_2 : (Cond.methodLink RX7 41 arraycopyName) ∈ wsX7_addLike := List.mem_of_getElem? (i := 2) rfl
theorem mX7_addLike_3 : (Cond.native arraycopyName) ∈ wsX7_addLike := List.mem_of_getElem? (i := 3) rfl
theorem mX7_addLike_4 : (Cond.static arraycopyName) ∈ wsX7_addLike := List.mem_of_getElem? (i := 4) rfl
theorem mX7_addLike_5 : (Cond.initialized "java/lang/System") ∈ wsX7_addLike := List.mem_of_getElem? (i := 5) rfl
theorem hdX7_addLike : yX7_addLike.cls ≠ "java/lang/invoke/MethodHandle" ∧ yX7_addLike.cls ≠ "java/lang/invoke/VarHandle" ∧ (parseMethodDescriptor yX7_addLike.desc).map (fun d => d.parameters.length) = some 1 := by decide +kernel
set_option maxHeartbeats 4000000 in
set_option maxRecDepth 100000 in
theorem ctX7_addLike (l : Launch) (D : va_G) (cI cZ : ClassId) (a_t a_t_row : Nat) (jx1 : Int32) (v_t_row : (Nat → Int32)) (r : Int32) (o_t_row : (Nat → Int32)) (hf : fX7_addLike jx1 v_t_row = some (r, o_t_row)) : cM l yX7_addLike wsX7_addLike rmX7_addLike [.ref a_t, .int jx1] D [(a_t, .inr (7, [.ref a_t_row])), (a_t_row, .inl (cI, 104, .inl v_t_row))] [(a_t, .inr (7, [.ref a_t_row])), (a_t_row, .inl (cI, 104, .inl o_t_row))] (KX D cI cZ) (some (.int r)) := by
  refine cM_of (cc := cX7_addLike) (maxL := 3) (ret := some .int) (by decide +kernel) rfl _ (Nat.le_of_ble_eq_true rfl) ?_
  intro p e s m below meth c ls A S hr hlk hP hK hl hD hA hS
  obtain ⟨hx, hb, hml, hown, hts⟩ := id S
  have hl : lv_has ls 3 [(0, .ref a_t), (1, .int jx1)] := hl
  unfold fX7_addLike at hf
  refine lv_aload_n hx hb dX7_addLike_0 rfl (lv_at hl 0 rfl) ?_
  refine va_get (D := D) (ci := 7) (v := .ref a_t_row) (C := RX7) (T := TX7) (N := 1) hx hb hts iX7_addLike_X7 hown hK.1 hP 0 rfl rfl 0 (by decide) (hts _ mX7_addLike_1) (fun _ h9 => h9) rfl dX7_addLike_1 ?_
  refine lv_bipush (v := 31) hx hb dX7_addLike_4 (by decide) ?_
  obtain ⟨jh1, hf⟩ := ckI_inv hf
  refine va_iald hx hb hK.1 hP 1 0 rfl rfl jh1 dX7_addLike_6 ?_
  refine lv_istore_n (lv' := [(2, .int (v_t_row (Int32.toNatClampNeg (31 : Int32)))), (0, .ref a_t), (1, .int jx1)]) hx hb dX7_addLike_7 rfl hl (by decide) rfl (fun ls hl => ?_)
  refine lv_aload_n hx hb dX7_addLike_8 rfl (lv_at hl 1 rfl) ?_
  refine va_get (D := D) (ci := 7) (v := .ref a_t_row) (C := RX7) (T := TX7) (N := 1) hx hb hts iX7_addLike_X7 hown hK.1 hP 0 rfl rfl 0 (by decide) (hts _ mX7_addLike_1) (fun _ h9 => h9) rfl dX7_addLike_9 ?_
  refine lv_bipush (v := 32) hx hb dX7_addLike_12 (by decide) ?_
  refine lv_iload_n hx hb dX7_addLike_14 rfl (lv_at hl 2 rfl) ?_
  refine lv_bipush (v := 9) hx hb dX7_addLike_15 (by decide) ?_
  refine lv_imul hx hb dX7_addLike_17 ?_
  refine lv_iadd hx hb dX7_addLike_18 ?_
  refine lv_aload_n hx hb dX7_addLike_19 rfl (lv_at hl 1 rfl) ?_
  refine va_get (D := D) (ci := 7) (v := .ref a_t_row) (C := RX7) (T := TX7) (N := 1) hx hb hts iX7_addLike_X7 hown hK.1 hP 0 rfl rfl 0 (by decide) (hts _ mX7_addLike_1) (fun _ h9 => h9) rfl dX7_addLike_20 ?_
  refine lv_bipush (v := 32) hx hb dX7_addLike_23 (by decide) ?_
  refine lv_iload_n hx hb dX7_addLike_25 rfl (lv_at hl 0 rfl) ?_
  refine lv_bipush (v := 9) hx hb dX7_addLike_26 (by decide) ?_
  refine lv_imul hx hb dX7_addLike_28 ?_
  refine lv_iadd hx hb dX7_addLike_29 ?_
  refine lv_bipush (v := 9) hx hb dX7_addLike_30 (by decide) ?_
  obtain ⟨jh2, jh3, jh4, jh5, jh6, hf⟩ := cpI_inv hf
  refine va_copyi hx hb (hml.trans hl.1.symm) hown (hts _ mX7_addLike_2) (hts _ mX7_addLike_3) (hts _ mX7_addLike_4) (hts _ mX7_addLike_5) hK.1 hP hD hS 1 1 0 0 rfl rfl rfl rfl rfl jh2 jh3 jh4 jh5 jh6 (fun _ _ => rfl) (Nat.le_of_ble_eq_true rfl) (Nat.le_of_ble_eq_true rfl) dX7_addLike_32 (fun H locs hP hD hS => ?_)
  have hP : va_P D vwCl [(a_t, .inr (7, [.ref a_t_row])), (a_t_row, .inl (cI, 104, .inl (va_cpy v_t_row v_t_row (Int32.toNatClampNeg ((32 : Int32) + (jx1 * (9 : Int32)))) (Int32.toNatClampNeg ((32 : Int32) + ((v_t_row (Int32.toNatClampNeg (31 : Int32))) * (9 : Int32)))) (Int32.toNatClampNeg (9 : Int32)))))] H := hP
  have hD : va_D A [(a_t, .inr (7, [.ref a_t_row])), (a_t_row, .inl (cI, 104, .inl (va_cpy v_t_row v_t_row (Int32.toNatClampNeg ((32 : Int32) + (jx1 * (9 : Int32)))) (Int32.toNatClampNeg ((32 : Int32) + ((v_t_row (Int32.toNatClampNeg (31 : Int32))) * (9 : Int32)))) (Int32.toNatClampNeg (9 : Int32)))))] := hD
  refine lv_aload_n hx hb dX7_addLike_35 rfl (lv_at hl 1 rfl) ?_
  refine va_get (D := D) (ci := 7) (v := .ref a_t_row) (C := RX7) (T := TX7) (N := 1) hx hb hts iX7_addLike_X7 hown hK.1 hP 0 rfl rfl 0 (by decide) (hts _ mX7_addLike_1) (fun _ h9 => h9) rfl dX7_addLike_36 ?_
  refine lv_bipush (v := 31) hx hb dX7_addLike_39 (by decide) ?_
  refine lv_iload_n hx hb dX7_addLike_41 rfl (lv_at hl 0 rfl) ?_
  refine lv_iconst (v := 1) hx hb dX7_addLike_42 (by decide) ?_
  refine lv_iadd hx hb dX7_addLike_43 ?_
  obtain ⟨jh7, hf⟩ := ckI_inv hf
  refine va_iast hx hb hK.1 hP hD hS 1 0 rfl rfl jh7 dX7_addLike_44 (fun H locs hP hD hS => ?_)
  have hP : va_P D vwCl [(a_t, .inr (7, [.ref a_t_row])), (a_t_row, .inl (cI, 104, .inl (upd (va_cpy v_t_row v_t_row (Int32.toNatClampNeg ((32 : Int32) + (jx1 * (9 : Int32)))) (Int32.toNatClampNeg ((32 : Int32) + ((v_t_row (Int32.toNatClampNeg (31 : Int32))) * (9 : Int32)))) (Int32.toNatClampNeg (9 : Int32))) (Int32.toNatClampNeg (31 : Int32)) ((v_t_row (Int32.toNatClampNeg (31 : Int32))) + (1 : Int32)))))] H := hP
  have hD : va_D A [(a_t, .inr (7, [.ref a_t_row])), (a_t_row, .inl (cI, 104, .inl (upd (va_cpy v_t_row v_t_row (Int32.toNatClampNeg ((32 : Int32) + (jx1 * (9 : Int32)))) (Int32.toNatClampNeg ((32 : Int32) + ((v_t_row (Int32.toNatClampNeg (31 : Int32))) * (9 : Int32)))) (Int32.toNatClampNeg (9 : Int32))) (Int32.toNatClampNeg (31 : Int32)) ((v_t_row (Int32.toNatClampNeg (31 : Int32))) + (1 : Int32)))))] := hD
  refine lv_iload_n hx hb dX7_addLike_45 rfl (lv_at hl 0 rfl) ?_
  obtain ⟨rfl, rfl⟩ := pr2_inv hf
  exact retM hx hb hr hlk hP hD hS dX7_addLike_46
