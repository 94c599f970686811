def fX0_begin (v_t_total : Int32) (v_t_likely : (Nat → Int32)) : Option (Int32 × (Nat → Int32)) := ckI 31 (0 : Int32) (some ((0 : Int32), (upd v_t_likely (Int32.toNatClampNeg (0 : Int32)) (1 : Int32))))
abbrev rmX0_begin : Room := { frames := 0, cells := 0, slots := 0, locals := 0 }
theorem iX0_begin_X0 : ∀ w ∈ wsX00, w ∈ wsX0_begin := fun _ h => List.mem_cons_of_mem _ (List.mem_append_right _ h)
theorem mX0_begin_1 : (Cond.fieldLink RX0 9 "VoteFiles$Chances" "likely" "[I") ∈ wsX0_begin := List.mem_of_getElem? (i := 1) rfl
theorem mX0_begin_2 : (Cond.fieldLink RX0 15 "VoteFiles$Chances" "total" "I") ∈ wsX0_begin := List.mem_of_getElem? (i := 2) rfl
theorem hdX0_begin : yX0_begin.cls ≠ "java/lang/invoke/MethodHandle" ∧ yX0_begin.cls ≠ "java/lang/invoke/VarHandle" ∧ (parseMethodDescriptor yX0_begin.desc).map (fun d => d.parameters.length) = some 0 := by decide +kernel
set_option maxHeartbeats 4000000 in
set_option maxRecDepth 100000 in
theorem ctX0_begin (l : Launch) (D : va_G) (cI cZ : ClassId) (a_t a_t_likely : Nat) (v_t_total : Int32) (v_t_likely : (Nat → Int32)) (v_t_upper : Int32) (v_t_lower : Int32) (o_t_total : Int32) (o_t_likely : (Nat → Int32)) (hf : fX0_begin v_t_total v_t_likely = some (o_t_total, o_t_likely)) : cM l yX0_begin wsX0_begin rmX0_begin [.ref a_t] D [(a_t, .inr (0, [.ref a_t_likely, .int v_t_total, .int v_t_upper, .int v_t_lower])), (a_t_likely, .inl (cI, 31, .inl v_t_likely))] [(a_t, .inr (0, [.ref a_t_likely, .int o_t_total, .int v_t_upper, .int v_t_lower])), (a_t_likely, .inl (cI, 31, .inl o_t_likely))] (KX D cI cZ) none := by
  refine cM_of (cc := cX0_begin) (maxL := 1) (ret := none) (by decide +kernel) rfl _ (Nat.le_of_ble_eq_true rfl) ?_
  intro p e s m below meth c ls A S hr hlk hP hK hl hD hA hS
  obtain ⟨hx, hb, hml, hown, hts⟩ := id S
  have hl : lv_has ls 1 [(0, .ref a_t)] := hl
  unfold fX0_begin at hf
  refine lv_aload_n hx hb dX0_begin_0 rfl (lv_at hl 0 rfl) ?_
  refine va_get (D := D) (ci := 0) (v := .ref a_t_likely) (C := RX0) (T := TX0) (N := 4) hx hb hts iX0_begin_X0 hown hK.1 hP 0 rfl rfl 0 (by decide) (hts _ mX0_begin_1) (fun _ h9 => h9) rfl dX0_begin_1 ?_
  refine lv_iconst (v := 0) hx hb dX0_begin_4 (by decide) ?_
  refine lv_iconst (v := 1) hx hb dX0_begin_5 (by decide) ?_
  obtain ⟨jh1, hf⟩ := ckI_inv hf
  refine va_iast hx hb hK.1 hP hD hS 1 0 rfl rfl jh1 dX0_begin_6 (fun H locs hP hD hS => ?_)
  have hP : va_P D vwCl [(a_t, .inr (0, [.ref a_t_likely, .int v_t_total, .int v_t_upper, .int v_t_lower])), (a_t_likely, .inl (cI, 31, .inl (upd v_t_likely (Int32.toNatClampNeg (0 : Int32)) (1 : Int32))))] H := hP
  have hD : va_D A [(a_t, .inr (0, [.ref a_t_likely, .int v_t_total, .int v_t_upper, .int v_t_lower])), (a_t_likely, .inl (cI, 31, .inl (upd v_t_likely (Int32.toNatClampNeg (0 : Int32)) (1 : Int32))))] := hD
  refine lv_aload_n hx hb dX0_begin_7 rfl (lv_at hl 0 rfl) ?_
  refine lv_iconst (v := 0) hx hb dX0_begin_8 (by decide) ?_
  refine va_put (D := D) (ci := 0) (v := .int (0 : Int32)) (ty := .int) (C := RX0) (T := TX0) (N := 4) hx hb hts iX0_begin_X0 tyX0 tyX0_ok nmX0 hown hK.1 hP hD hS 0 rfl rfl 1 (by decide) (hts _ mX0_begin_2) (fun _ h9 => h9) rfl (tyX0_ok 1 (by decide)) rfl rfl (Nat.le_of_ble_eq_true rfl) dX0_begin_9 (fun H locs hP hD hS => ?_)
  have hP : va_P D vwCl [(a_t, .inr (0, [.ref a_t_likely, .int (0 : Int32), .int v_t_upper, .int v_t_lower])), (a_t_likely, .inl (cI, 31, .inl (upd v_t_likely (Int32.toNatClampNeg (0 : Int32)) (1 : Int32))))] H := hP
  have hD : va_D A [(a_t, .inr (0, [.ref a_t_likely, .int (0 : Int32), .int v_t_upper, .int v_t_lower])), (a_t_likely, .inl (cI, 31, .inl (upd v_t_likely (Int32.toNatClampNeg (0 : Int32)) (1 : Int32))))] := hD
  obtain ⟨rfl, rfl⟩ := pr2_inv hf
  exact retMv hx hb hr hlk hP hD hS dX0_begin_12
def fX0_join_68 (jk15 : Int32 → Int32 → (Nat → Int32) → Option (Int32 × (Nat → Int32))) (jx1 : Int32) (jx2 : Int32) (jx3 : Int32) (jx4 : Int32) (jx5 : Int32) (jy0 : Int32) (v_t_total : Int32) (v_t_likely : (Nat → Int32)) : Option (Int32 × (Nat → Int32)) := ckI 31 jx4 (jk15 (jx4 + (-1 : Int32)) v_t_total (upd v_t_likely (Int32.toNatClampNeg jx4) (jx5 + jy0)))
def fX0_join_45 (jk15 : Int32 → Int32 → (Nat → Int32) → Option (Int32 × (Nat → Int32))) (jx1 : Int32) (jx2 : Int32) (jx3 : Int32) (jx4 : Int32) (jy0 : Int32) (v_t_total : Int32) (v_t_likely : (Nat → Int32)) : Option (Int32 × (Nat → Int32)) := if jx4 < jx1 then fX0_join_68 jk15 jx1 jx2 jx3 jx4 jy0 (0 : Int32) v_t_total v_t_likely else ckI 31 (jx4 - jx1) (fX0_join_68 jk15 jx1 jx2 jx3 jx4 jy0 ((v_t_likely (Int32.toNatClampNeg (jx4 - jx1))) * jx2) v_t_total v_t_likely)
def fX0_join_15 (jx1 : Int32) (jx2 : Int32) (jx3 : Int32) : Nat → Int32 → Int32 → (Nat → Int32) → Option (Int32 × (Nat → Int32))
  | 0, _, _, _ => none
  | n + 1, jx4, v_t_total, v_t_likely => if jx4 < 0 then some (jx3, v_t_likely) else if v_t_total < jx4 then fX0_join_45 (fX0_join_15 jx1 jx2 jx3 n) jx1 jx2 jx3 jx4 (0 : Int32) v_t_total v_t_likely else ckI 31 jx4 (fX0_join_45 (fX0_join_15 jx1 jx2 jx3 n) jx1 jx2 jx3 jx4 ((v_t_likely (Int32.toNatClampNeg jx4)) * ((10 : Int32) - jx2)) v_t_total v_t_likely)
theorem fX0_join_15_s (jx1 : Int32) (jx2 : Int32) (jx3 : Int32) (n : Nat) (jx4 : Int32) (v_t_total : Int32) (v_t_likely : (Nat → Int32)) : fX0_join_15 jx1 jx2 jx3 (n + 1) jx4 v_t_total v_t_likely = if jx4 < 0 then some (jx3, v_t_likely) else if v_t_total < jx4 then fX0_join_45 (fX0_join_15 jx1 jx2 jx3 n) jx1 jx2 jx3 jx4 (0 : Int32) v_t_total v_t_likely else ckI 31 jx4 (fX0_join_45 (fX0_join_15 jx1 jx2 jx3 n) jx1 jx2 jx3 jx4 ((v_t_likely (Int32.toNatClampNeg jx4)) * ((10 : Int32) - jx2)) v_t_total v_t_likely) := rfl
def fX0_join (jx1 : Int32) (jx2 : Int32) (v_t_total : Int32) (v_t_likely : (Nat → Int32)) : Option (Int32 × (Nat → Int32)) := nmI (if (30 : Int32) < (v_t_total + jx1) then (30 : Int32) else (v_t_total + jx1)) (fun jz1 => fX0_join_15 jx1 jx2 jz1 fuel jz1 v_t_total v_t_likely)
abbrev rmX0_join : Room := { frames := 1, cells := 0, slots := 0, locals := 21 }
theorem iX0_join_X0 : ∀ w ∈ wsX00, w ∈ wsX0_join := fun _ h => List.mem_cons_of_mem _ (List.mem_append_right _ h)
theorem mX0_join_6 : (Cond.fieldLink RX0 9 "VoteFiles$Chances" "likely" "[I") ∈ wsX0_join := List.mem_of_getElem? (i := 6) rfl
theorem mX0_join_1 : (Cond.fieldLink RX0 15 "VoteFiles$Chances" "total" "I") ∈ wsX0_join := List.mem_of_getElem? (i := 1) rfl
theorem mX0_join_2 : (Cond.methodLink RX0 25 Lib.Math.min.name) ∈ wsX0_join := List.mem_of_getElem? (i := 2) rfl
theorem mX0_join_3 : (Cond.static Lib.Math.min.name) ∈ wsX0_join := List.mem_of_getElem? (i := 3) rfl
theorem mX0_join_4 : (Cond.initialized "java/lang/Math") ∈ wsX0_join := List.mem_of_getElem? (i := 4) rfl
theorem mX0_join_5 : (Cond.code Lib.Math.min.name Lib.Math.min.code 2 (some .int)) ∈ wsX0_join := List.mem_of_getElem? (i := 5) rfl
set_option maxHeartbeats 4000000 in
set_option maxRecDepth 100000 in
theorem wX0_join_68 {p : Program} {l : Launch} {e : Env} {s : State} {m : MethodId} {args : Array Value} {below : List Frame} {meth : Method} {c : Code} {D : va_G} {cI cZ : ClassId} (S : CallFix p m c cX0_join 7 s args wsX0_join RX0) (hr : meth.sig.returnType = none) (hlk : meth.locks = false) (hK : KX D cI cZ s) {a_t a_t_likely : Nat} {jk15 : Int32 → Int32 → (Nat → Int32) → Option (Int32 × (Nat → Int32))} {jx1 : Int32} {jx2 : Int32} {jx3 : Int32} {v_t_upper : Int32} {v_t_lower : Int32} {o_t_total : Int32} {o_t_likely : (Nat → Int32)} {A : Nat → Prop} (hA : ∀ q : Nat, s.heap.size ≤ q → A q) (hk15 : ∀ (jx4 : Int32) (v_t_total : Int32) (v_t_likely : (Nat → Int32)) (ls : Array Slot) (H : Heap) (locs : List Loc), jk15 jx4 v_t_total v_t_likely = some (o_t_total, o_t_likely) → lv_has ls 7 [(0, .ref a_t), (1, .int jx1), (2, .int jx2), (3, .int jx3), (4, .int jx4)] → va_P D vwCl [(a_t, .inr (0, [.ref a_t_likely, .int v_t_total, .int v_t_upper, .int v_t_lower])), (a_t_likely, .inl (cI, 31, .inl v_t_likely))] H → va_D A [(a_t, .inr (0, [.ref a_t_likely, .int v_t_total, .int v_t_upper, .int v_t_lower])), (a_t_likely, .inl (cI, 31, .inl v_t_likely))] → va_S A s.heap H locs → W p l e rmX0_join s m args below meth c H locs 0 0 (MQ below (qM D none [(a_t, .inr (0, [.ref a_t_likely, .int o_t_total, .int v_t_upper, .int v_t_lower])), (a_t_likely, .inl (cI, 31, .inl o_t_likely))] A) args s 0 0 A) (F0 m 15 ls [])) : ∀ (jx4 : Int32) (jx5 : Int32) (jy0 : Int32) (v_t_total : Int32) (v_t_likely : (Nat → Int32)) (ls : Array Slot) (H : Heap) (locs : List Loc), fX0_join_68 jk15 jx1 jx2 jx3 jx4 jx5 jy0 v_t_total v_t_likely = some (o_t_total, o_t_likely) → lv_has ls 7 [(0, .ref a_t), (1, .int jx1), (2, .int jx2), (3, .int jx3), (4, .int jx4), (5, .int jx5)] → va_P D vwCl [(a_t, .inr (0, [.ref a_t_likely, .int v_t_total, .int v_t_upper, .int v_t_lower])), (a_t_likely, .inl (cI, 31, .inl v_t_likely))] H → va_D A [(a_t, .inr (0, [.ref a_t_likely, .int v_t_total, .int v_t_upper, .int v_t_lower])), (a_t_likely, .inl (cI, 31, .inl v_t_likely))] → va_S A s.heap H locs → W p l e rmX0_join s m args below meth c H locs 0 0 (MQ below (qM D none [(a_t, .inr (0, [.ref a_t_likely, .int o_t_total, .int v_t_upper, .int v_t_lower])), (a_t_likely, .inl (cI, 31, .inl o_t_likely))] A) args s 0 0 A) (F0 m 68 ls [.int jy0]) := by
  obtain ⟨hx, hb, hml, hown, hts⟩ := id S
  intro jx4 jx5 jy0 v_t_total v_t_likely ls H locs hf hl hP hD hS
  unfold fX0_join_68 at hf
  refine lv_istore (lv' := [(6, .int jy0), (0, .ref a_t), (1, .int jx1), (2, .int jx2), (3, .int jx3), (4, .int jx4), (5, .int jx5)]) hx hb dX0_join_68 hl (by decide) rfl (fun ls hl => ?_)
  refine lv_aload_n hx hb dX0_join_70 rfl (lv_at hl 1 rfl) ?_
  refine va_get (D := D) (ci := 0) (v := .ref a_t_likely) (C := RX0) (T := TX0) (N := 4) hx hb hts iX0_join_X0 hown hK.1 hP 0 rfl rfl 0 (by decide) (hts _ mX0_join_6) (fun _ h9 => h9) rfl dX0_join_71 ?_
  refine lv_iload hx hb dX0_join_74 (lv_at hl 5 rfl) ?_
  refine lv_iload hx hb dX0_join_76 (lv_at hl 6 rfl) ?_
  refine lv_iload hx hb dX0_join_78 (lv_at hl 0 rfl) ?_
  refine lv_iadd hx hb dX0_join_80 ?_
  obtain ⟨jh1, hf⟩ := ckI_inv hf
  refine va_iast hx hb hK.1 hP hD hS 1 0 rfl rfl jh1 dX0_join_81 (fun H locs hP hD hS => ?_)
  have hP : va_P D vwCl [(a_t, .inr (0, [.ref a_t_likely, .int v_t_total, .int v_t_upper, .int v_t_lower])), (a_t_likely, .inl (cI, 31, .inl (upd v_t_likely (Int32.toNatClampNeg jx4) (jx5 + jy0))))] H := hP
  have hD : va_D A [(a_t, .inr (0, [.ref a_t_likely, .int v_t_total, .int v_t_upper, .int v_t_lower])), (a_t_likely, .inl (cI, 31, .inl (upd v_t_likely (Int32.toNatClampNeg jx4) (jx5 + jy0))))] := hD
  refine lv_iinc (v := (jx4 + (-1 : Int32))) (lv' := [(4, .int (jx4 + (-1 : Int32))), (6, .int jy0), (0, .ref a_t), (1, .int jx1), (2, .int jx2), (3, .int jx3), (5, .int jx5)]) hx hb dX0_join_82 hl (k := 5) rfl rfl (by decide) rfl (fun ls hl => ?_)
  refine lv_goto (tgt := 15) hx hb dX0_join_85 (by decide) ?_
  exact hk15 (jx4 + (-1 : Int32)) v_t_total (upd v_t_likely (Int32.toNatClampNeg jx4) (jx5 + jy0)) ls _ _ hf (lv_sub hl [2, 3, 4, 5, 0] rfl) hP hD hS
set_option maxHeartbeats 4000000 in
set_option maxRecDepth 100000 in
theorem wX0_join_45 {p : Program} {l : Launch} {e : Env} {s : State} {m : MethodId} {args : Array Value} {below : List Frame} {meth : Method} {c : Code} {D : va_G} {cI cZ : ClassId} (S : CallFix p m c cX0_join 7 s args wsX0_join RX0) (hr : meth.sig.returnType = none) (hlk : meth.locks = false) (hK : KX D cI cZ s) {a_t a_t_likely : Nat} {jk15 : Int32 → Int32 → (Nat → Int32) → Option (Int32 × (Nat → Int32))} {jx1 : Int32} {jx2 : Int32} {jx3 : Int32} {v_t_upper : Int32} {v_t_lower : Int32} {o_t_total : Int32} {o_t_likely : (Nat → Int32)} {A : Nat → Prop} (hA : ∀ q : Nat, s.heap.size ≤ q → A q) (hk15 : ∀ (jx4 : Int32) (v_t_total : Int32) (v_t_likely : (Nat → Int32)) (ls : Array Slot) (H : Heap) (locs : List Loc), jk15 jx4 v_t_total v_t_likely = some (o_t_total, o_t_likely) → lv_has ls 7 [(0, .ref a_t), (1, .int jx1), (2, .int jx2), (3, .int jx3), (4, .int jx4)] → va_P D vwCl [(a_t, .inr (0, [.ref a_t_likely, .int v_t_total, .int v_t_upper, .int v_t_lower])), (a_t_likely, .inl (cI, 31, .inl v_t_likely))] H → va_D A [(a_t, .inr (0, [.ref a_t_likely, .int v_t_total, .int v_t_upper, .int v_t_lower])), (a_t_likely, .inl (cI, 31, .inl v_t_likely))] → va_S A s.heap H locs → W p l e rmX0_join s m args below meth c H locs 0 0 (MQ below (qM D none [(a_t, .inr (0, [.ref a_t_likely, .int o_t_total, .int v_t_upper, .int v_t_lower])), (a_t_likely, .inl (cI, 31, .inl o_t_likely))] A) args s 0 0 A) (F0 m 15 ls [])) : ∀ (jx4 : Int32) (jy0 : Int32) (v_t_total : Int32) (v_t_likely : (Nat → Int32)) (ls : Array Slot) (H : Heap) (locs : List Loc), fX0_join_45 jk15 jx1 jx2 jx3 jx4 jy0 v_t_total v_t_likely = some (o_t_total, o_t_likely) → lv_has ls 7 [(0, .ref a_t), (1, .int jx1), (2, .int jx2), (3, .int jx3), (4, .int jx4)] → va_P D vwCl [(a_t, .inr (0, [.ref a_t_likely, .int v_t_total, .int v_t_upper, .int v_t_lower])), (a_t_likely, .inl (cI, 31, .inl v_t_likely))] H → va_D A [(a_t, .inr (0, [.ref a_t_likely, .int v_t_total, .int v_t_upper, .int v_t_lower])), (a_t_likely, .inl (cI, 31, .inl v_t_likely))] → va_S A s.heap H locs → W p l e rmX0_join s m args below meth c H locs 0 0 (MQ below (qM D none [(a_t, .inr (0, [.ref a_t_likely, .int o_t_total, .int v_t_upper, .int v_t_lower])), (a_t_likely, .inl (cI, 31, .inl o_t_likely))] A) args s 0 0 A) (F0 m 45 ls [.int jy0]) := by
  obtain ⟨hx, hb, hml, hown, hts⟩ := id S
  intro jx4 jy0 v_t_total v_t_likely ls H locs hf hl hP hD hS
  unfold fX0_join_45 at hf
  refine lv_istore (lv' := [(5, .int jy0), (0, .ref a_t), (1, .int jx1), (2, .int jx2), (3, .int jx3), (4, .int jx4)]) hx hb dX0_join_45 hl (by decide) rfl (fun ls hl => ?_)
  refine lv_iload hx hb dX0_join_47 (lv_at hl 5 rfl) ?_
  refine lv_iload_n hx hb dX0_join_49 rfl (lv_at hl 2 rfl) ?_
  refine lv_icmp_lt (tgt := 67) hx hb dX0_join_50 (by decide) (fun jc1 => ?_) (fun jc1 => ?_)
  · have hf := ite_t jc1 hf
    refine lv_iconst (v := 0) hx hb dX0_join_67 (by decide) ?_
    exact wX0_join_68 S hr hlk hK hA hk15 jx4 jy0 (0 : Int32) v_t_total v_t_likely ls _ _ hf (lv_sub hl [1, 2, 3, 4, 5, 0] rfl) hP hD hS
  · have hf := ite_f jc1 hf
    refine lv_aload_n hx hb dX0_join_53 rfl (lv_at hl 1 rfl) ?_
    refine va_get (D := D) (ci := 0) (v := .ref a_t_likely) (C := RX0) (T := TX0) (N := 4) hx hb hts iX0_join_X0 hown hK.1 hP 0 rfl rfl 0 (by decide) (hts _ mX0_join_6) (fun _ h9 => h9) rfl dX0_join_54 ?_
    refine lv_iload hx hb dX0_join_57 (lv_at hl 5 rfl) ?_
    refine lv_iload_n hx hb dX0_join_59 rfl (lv_at hl 2 rfl) ?_
    refine lv_isub hx hb dX0_join_60 ?_
    obtain ⟨jh2, hf⟩ := ckI_inv hf
    refine va_iald hx hb hK.1 hP 1 0 rfl rfl jh2 dX0_join_61 ?_
    refine lv_iload_n hx hb dX0_join_62 rfl (lv_at hl 3 rfl) ?_
    refine lv_imul hx hb dX0_join_63 ?_
    refine lv_goto (tgt := 68) hx hb dX0_join_64 (by decide) ?_
    exact wX0_join_68 S hr hlk hK hA hk15 jx4 jy0 ((v_t_likely (Int32.toNatClampNeg (jx4 - jx1))) * jx2) v_t_total v_t_likely ls _ _ hf (lv_sub hl [1, 2, 3, 4, 5, 0] rfl) hP hD hS
set_option maxHeartbeats 4000000 in
set_option maxRecDepth 100000 in
theorem wX0_join_15 {p : Program} {l : Launch} {e : Env} {s : State} {m : MethodId} {args : Array Value} {below : List Frame} {meth : Method} {c : Code} {D : va_G} {cI cZ : ClassId} (S : CallFix p m c cX0_join 7 s args wsX0_join RX0) (hr : meth.sig.returnType = none) (hlk : meth.locks = false) (hK : KX D cI cZ s) {a_t a_t_likely : Nat} {jx1 : Int32} {jx2 : Int32} {jx3 : Int32} {v_t_upper : Int32} {v_t_lower : Int32} {o_t_total : Int32} {o_t_likely : (Nat → Int32)} {A : Nat → Prop} (hA : ∀ q : Nat, s.heap.size ≤ q → A q) : ∀ (n : Nat), ∀ (jx4 : Int32) (v_t_total : Int32) (v_t_likely : (Nat → Int32)) (ls : Array Slot) (H : Heap) (locs : List Loc), fX0_join_15 jx1 jx2 jx3 n jx4 v_t_total v_t_likely = some (o_t_total, o_t_likely) → lv_has ls 7 [(0, .ref a_t), (1, .int jx1), (2, .int jx2), (3, .int jx3), (4, .int jx4)] → va_P D vwCl [(a_t, .inr (0, [.ref a_t_likely, .int v_t_total, .int v_t_upper, .int v_t_lower])), (a_t_likely, .inl (cI, 31, .inl v_t_likely))] H → va_D A [(a_t, .inr (0, [.ref a_t_likely, .int v_t_total, .int v_t_upper, .int v_t_lower])), (a_t_likely, .inl (cI, 31, .inl v_t_likely))] → va_S A s.heap H locs → W p l e rmX0_join s m args below meth c H locs 0 0 (MQ below (qM D none [(a_t, .inr (0, [.ref a_t_likely, .int o_t_total, .int v_t_upper, .int v_t_lower])), (a_t_likely, .inl (cI, 31, .inl o_t_likely))] A) args s 0 0 A) (F0 m 15 ls []) := by
  obtain ⟨hx, hb, hml, hown, hts⟩ := id S
  intro n
  induction n with
  | zero =>
    intro jx4 v_t_total v_t_likely ls H locs hf hl hP hD hS
    cases (show (none : Option _) = some _ from hf)
  | succ n ih =>
    intro jx4 v_t_total v_t_likely ls H locs hf hl hP hD hS
    have hf := (fX0_join_15_s _ _ _ n _ _ _).symm.trans hf
    refine lv_iload hx hb dX0_join_15 (lv_at hl 4 rfl) ?_
    refine lv_if_lt (tgt := 88) hx hb dX0_join_17 (by decide) (fun jc1 => ?_) (fun jc1 => ?_)
    · have hf := ite_t jc1 hf
      refine lv_aload_n hx hb dX0_join_88 rfl (lv_at hl 0 rfl) ?_
      refine lv_iload_n hx hb dX0_join_89 rfl (lv_at hl 3 rfl) ?_
      refine va_put (D := D) (ci := 0) (v := .int jx3) (ty := .int) (C := RX0) (T := TX0) (N := 4) hx hb hts iX0_join_X0 tyX0 tyX0_ok nmX0 hown hK.1 hP hD hS 0 rfl rfl 1 (by decide) (hts _ mX0_join_1) (fun _ h9 => h9) rfl (tyX0_ok 1 (by decide)) rfl rfl (Nat.le_of_ble_eq_true rfl) dX0_join_90 (fun H locs hP hD hS => ?_)
      have hP : va_P D vwCl [(a_t, .inr (0, [.ref a_t_likely, .int jx3, .int v_t_upper, .int v_t_lower])), (a_t_likely, .inl (cI, 31, .inl v_t_likely))] H := hP
      have hD : va_D A [(a_t, .inr (0, [.ref a_t_likely, .int jx3, .int v_t_upper, .int v_t_lower])), (a_t_likely, .inl (cI, 31, .inl v_t_likely))] := hD
      obtain ⟨rfl, rfl⟩ := pr2_inv hf
      exact retMv hx hb hr hlk hP hD hS dX0_join_93
    · have hf := ite_f jc1 hf
      refine lv_iload hx hb dX0_join_20 (lv_at hl 4 rfl) ?_
      refine lv_aload_n hx hb dX0_join_22 rfl (lv_at hl 0 rfl) ?_
      refine va_get (D := D) (ci := 0) (v := .int v_t_total) (C := RX0) (T := TX0) (N := 4) hx hb hts iX0_join_X0 hown hK.1 hP 0 rfl rfl 1 (by decide) (hts _ mX0_join_1) (fun _ h9 => h9) rfl dX0_join_23 ?_
      refine lv_icmp_gt (tgt := 44) hx hb dX0_join_26 (by decide) (fun jc2 => ?_) (fun jc2 => ?_)
      · have hf := ite_t jc2 hf
        refine lv_iconst (v := 0) hx hb dX0_join_44 (by decide) ?_
        exact wX0_join_45 S hr hlk hK hA ih jx4 (0 : Int32) v_t_total v_t_likely ls _ _ hf (lv_sub hl [0, 1, 2, 3, 4] rfl) hP hD hS
      · have hf := ite_f jc2 hf
        refine lv_aload_n hx hb dX0_join_29 rfl (lv_at hl 0 rfl) ?_
        refine va_get (D := D) (ci := 0) (v := .ref a_t_likely) (C := RX0) (T := TX0) (N := 4) hx hb hts iX0_join_X0 hown hK.1 hP 0 rfl rfl 0 (by decide) (hts _ mX0_join_6) (fun _ h9 => h9) rfl dX0_join_30 ?_
        refine lv_iload hx hb dX0_join_33 (lv_at hl 4 rfl) ?_
        obtain ⟨jh3, hf⟩ := ckI_inv hf
        refine va_iald hx hb hK.1 hP 1 0 rfl rfl jh3 dX0_join_35 ?_
        refine lv_bipush (v := 10) hx hb dX0_join_36 (by decide) ?_
        refine lv_iload_n hx hb dX0_join_38 rfl (lv_at hl 2 rfl) ?_
        refine lv_isub hx hb dX0_join_39 ?_
        refine lv_imul hx hb dX0_join_40 ?_
        refine lv_goto (tgt := 45) hx hb dX0_join_41 (by decide) ?_
        exact wX0_join_45 S hr hlk hK hA ih jx4 ((v_t_likely (Int32.toNatClampNeg jx4)) * ((10 : Int32) - jx2)) v_t_total v_t_likely ls _ _ hf (lv_sub hl [0, 1, 2, 3, 4] rfl) hP hD hS
theorem hdX0_join : yX0_join.cls ≠ "java/lang/invoke/MethodHandle" ∧ yX0_join.cls ≠ "java/lang/invoke/VarHandle" ∧ (parseMethodDescriptor yX0_join.desc).map (fun d => d.parameters.length) = some 2 := by decide +kernel
set_option maxHeartbeats 4000000 in
set_option maxRecDepth 100000 in
theorem ctX0_join (l : Launch) (D : va_G) (cI cZ : ClassId) (a_t a_t_likely : Nat) (jx1 : Int32) (jx2 : Int32) (v_t_total : Int32) (v_t_likely : (Nat → Int32)) (v_t_upper : Int32) (v_t_lower : Int32) (o_t_total : Int32) (o_t_likely : (Nat → Int32)) (hf : fX0_join jx1 jx2 v_t_total v_t_likely = some (o_t_total, o_t_likely)) : cM l yX0_join wsX0_join rmX0_join [.ref a_t, .int jx1, .int jx2] D [(a_t, .inr (0, [.ref a_t_likely, .int v_t_total, .int v_t_upper, .int v_t_lower])), (a_t_likely, .inl (cI, 31, .inl v_t_likely))] [(a_t, .inr (0, [.ref a_t_likely, .int o_t_total, .int v_t_upper, .int v_t_lower])), (a_t_likely, .inl (cI, 31, .inl o_t_likely))] (KX D cI cZ) none := by
  refine cM_of (cc := cX0_join) (maxL := 7) (ret := none) (by decide +kernel) rfl _ (Nat.le_of_ble_eq_true rfl) ?_
  intro p e s m below meth c ls A S hr hlk hP hK hl hD hA hS
  obtain ⟨hx, hb, hml, hown, hts⟩ := id S
  have hl : lv_has ls 7 [(0, .ref a_t), (1, .int jx1), (2, .int jx2)] := hl
  unfold fX0_join at hf
  refine lv_aload_n hx hb dX0_join_0 rfl (lv_at hl 0 rfl) ?_
  refine va_get (D := D) (ci := 0) (v := .int v_t_total) (C := RX0) (T := TX0) (N := 4) hx hb hts iX0_join_X0 hown hK.1 hP 0 rfl rfl 1 (by decide) (hts _ mX0_join_1) (fun _ h9 => h9) rfl dX0_join_1 ?_
  refine lv_iload_n hx hb dX0_join_4 rfl (lv_at hl 1 rfl) ?_
  refine lv_iadd hx hb dX0_join_5 ?_
  refine lv_bipush (v := 30) hx hb dX0_join_6 (by decide) ?_
  refine va_mmin hx hb (hml.trans hl.1.symm) hown (hts _ mX0_join_2) (hts _ mX0_join_3) (hts _ mX0_join_4) (hts _ mX0_join_5) (Nat.le_of_ble_eq_true rfl) (Nat.le_of_ble_eq_true rfl) (Nat.zero_le _) (Nat.zero_le _) dX0_join_8 ?_
  obtain ⟨jz1, ejz1, hf⟩ := nmI_inv hf
  refine lv_nmI ejz1 ?_
  refine lv_istore_n (lv' := [(3, .int jz1), (0, .ref a_t), (1, .int jx1), (2, .int jx2)]) hx hb dX0_join_11 rfl hl (by decide) rfl (fun ls hl => ?_)
  refine lv_iload_n hx hb dX0_join_12 rfl (lv_at hl 0 rfl) ?_
  refine lv_istore (lv' := [(4, .int jz1), (3, .int jz1), (0, .ref a_t), (1, .int jx1), (2, .int jx2)]) hx hb dX0_join_13 hl (by decide) rfl (fun ls hl => ?_)
  exact wX0_join_15 S hr hlk hK hA fuel jz1 v_t_total v_t_likely ls _ _ hf (lv_sub hl [2, 3, 4, 1, 0] rfl) hP hD hS
def fX0_atLeast_8 (v_t_total : Int32) (v_t_likely : (Nat → Int32)) : Nat → Int32 → Int32 → Option (Int32)
  | 0, _, _ => none
  | n + 1, jx2, jx3 => if v_t_total < jx3 then some jx2 else ckI 31 jx3 ((fX0_atLeast_8 v_t_total v_t_likely n) (jx2 + (v_t_likely (Int32.toNatClampNeg jx3))) (jx3 + (1 : Int32)))
theorem fX0_atLeast_8_s (v_t_total : Int32) (v_t_likely : (Nat → Int32)) (n : Nat) (jx2 : Int32) (jx3 : Int32) : fX0_atLeast_8 v_t_total v_t_likely (n + 1) jx2 jx3 = if v_t_total < jx3 then some jx2 else ckI 31 jx3 ((fX0_atLeast_8 v_t_total v_t_likely n) (jx2 + (v_t_likely (Int32.toNatClampNeg jx3))) (jx3 + (1 : Int32))) := rfl
def fX0_atLeast (jx1 : Int32) (v_t_total : Int32) (v_t_likely : (Nat → Int32)) : Option (Int32) := fX0_atLeast_8 v_t_total v_t_likely fuel (0 : Int32) (if jx1 < (0 : Int32) then (0 : Int32) else jx1)
abbrev rmX0_atLeast : Room := { frames := 1, cells := 0, slots := 0, locals := 21 }
theorem iX0_atLeast_X0 : ∀ w ∈ wsX00, w ∈ wsX0_atLeast := fun _ h => List.mem_cons_of_mem _ (List.mem_append_right _ h)
theorem mX0_atLeast_5 : (Cond.fieldLink RX0 15 "VoteFiles$Chances" "total" "I") ∈ wsX0_atLeast := List.mem_of_getElem? (i := 5) rfl
theorem mX0_atLeast_6 : (Cond.fieldLink RX0 9 "VoteFiles$Chances" "likely" "[I") ∈ wsX0_atLeast := List.mem_of_getElem? (i := 6) rfl
theorem mX0_atLeast_1 : (Cond.methodLink RX0 31 Lib.Math.max.name) ∈ wsX0_atLeast := List.mem_of_getElem? (i := 1) rfl
theorem mX0_atLeast_2 : (Cond.static Lib.Math.max.name) ∈ wsX0_atLeast := List.mem_of_getElem? (i := 2) rfl
theorem mX0_atLeast_3 : (Cond.initialized "java/lang/Math") ∈ wsX0_atLeast := List.mem_of_getElem? (i := 3) rfl
theorem mX0_atLeast_4 : (Cond.code Lib.Math.max.name Lib.Math.max.code 2 (some .int)) ∈ wsX0_atLeast := List.mem_of_getElem? (i := 4) rfl
set_option maxHeartbeats 4000000 in
set_option maxRecDepth 100000 in
theorem wX0_atLeast_8 {p : Program} {l : Launch} {e : Env} {s : State} {m : MethodId} {args : Array Value} {below : List Frame} {meth : Method} {c : Code} {D : va_G} {cI cZ : ClassId} (S : CallFix p m c cX0_atLeast 4 s args wsX0_atLeast RX0) (hr : meth.sig.returnType = some .int) (hlk : meth.locks = false) (hK : KX D cI cZ s) {a_t a_t_likely : Nat} {v_t_total : Int32} {v_t_likely : (Nat → Int32)} {v_t_upper : Int32} {v_t_lower : Int32} {r : Int32} (hP : va_P D vwCl [(a_t, .inr (0, [.ref a_t_likely, .int v_t_total, .int v_t_upper, .int v_t_lower])), (a_t_likely, .inl (cI, 31, .inl v_t_likely))] s.heap) : ∀ (n : Nat), ∀ (jx2 : Int32) (jx3 : Int32) (ls : Array Slot), fX0_atLeast_8 v_t_total v_t_likely n jx2 jx3 = some r → lv_has ls 4 [(0, .ref a_t), (2, .int jx2), (3, .int jx3)] → W p l e rmX0_atLeast s m args below meth c s.heap [] 0 0 (MQ below (QcRead r) args s 0 0 (fun _ => False)) (F0 m 8 ls []) := by
  obtain ⟨hx, hb, hml, hown, hts⟩ := id S
  intro n
  induction n with
  | zero =>
    intro jx2 jx3 ls hf hl
    cases (show (none : Option _) = some _ from hf)
  | succ n ih =>
    intro jx2 jx3 ls hf hl
    have hf := (fX0_atLeast_8_s _ _ n _ _).symm.trans hf
    refine lv_iload_n hx hb dX0_atLeast_8 rfl (lv_at hl 2 rfl) ?_
    refine lv_aload_n hx hb dX0_atLeast_9 rfl (lv_at hl 0 rfl) ?_
    refine va_get (D := D) (ci := 0) (v := .int v_t_total) (C := RX0) (T := TX0) (N := 4) hx hb hts iX0_atLeast_X0 hown hK.1 hP 0 rfl rfl 1 (by decide) (hts _ mX0_atLeast_5) (fun _ h9 => h9) rfl dX0_atLeast_10 ?_
    refine lv_icmp_gt (tgt := 31) hx hb dX0_atLeast_13 (by decide) (fun jc1 => ?_) (fun jc1 => ?_)
    · have hf := ite_t jc1 hf
      refine lv_iload_n hx hb dX0_atLeast_31 rfl (lv_at hl 1 rfl) ?_
      obtain rfl := Option.some.inj hf
      exact retR hx hb hr hlk dX0_atLeast_32
    · have hf := ite_f jc1 hf
      refine lv_iload_n hx hb dX0_atLeast_16 rfl (lv_at hl 1 rfl) ?_
      refine lv_aload_n hx hb dX0_atLeast_17 rfl (lv_at hl 0 rfl) ?_
      refine va_get (D := D) (ci := 0) (v := .ref a_t_likely) (C := RX0) (T := TX0) (N := 4) hx hb hts iX0_atLeast_X0 hown hK.1 hP 0 rfl rfl 0 (by decide) (hts _ mX0_atLeast_6) (fun _ h9 => h9) rfl dX0_atLeast_18 ?_
      refine lv_iload_n hx hb dX0_atLeast_21 rfl (lv_at hl 2 rfl) ?_
      obtain ⟨jh2, hf⟩ := ckI_inv hf
      refine va_iald hx hb hK.1 hP 1 0 rfl rfl jh2 dX0_atLeast_22 ?_
      refine lv_iadd hx hb dX0_atLeast_23 ?_
      refine lv_istore_n (lv' := [(2, .int (jx2 + (v_t_likely (Int32.toNatClampNeg jx3)))), (0, .ref a_t), (3, .int jx3)]) hx hb dX0_atLeast_24 rfl hl (by decide) rfl (fun ls hl => ?_)
      refine lv_iinc (v := (jx3 + (1 : Int32))) (lv' := [(3, .int (jx3 + (1 : Int32))), (2, .int (jx2 + (v_t_likely (Int32.toNatClampNeg jx3)))), (0, .ref a_t)]) hx hb dX0_atLeast_25 hl (k := 2) rfl rfl (by decide) rfl (fun ls hl => ?_)
      refine lv_goto (tgt := 8) hx hb dX0_atLeast_28 (by decide) ?_
      exact ih (jx2 + (v_t_likely (Int32.toNatClampNeg jx3))) (jx3 + (1 : Int32)) ls hf (lv_sub hl [2, 1, 0] rfl)
theorem hdX0_atLeast : yX0_atLeast.cls ≠ "java/lang/invoke/MethodHandle" ∧ yX0_atLeast.cls ≠ "java/lang/invoke/VarHandle" ∧ (parseMethodDescriptor yX0_atLeast.desc).map (fun d => d.parameters.length) = some 1 := by decide +kernel
set_option maxHeartbeats 4000000 in
set_option maxRecDepth 100000 in
theorem ctX0_atLeast (l : Launch) (D : va_G) (cI cZ : ClassId) (a_t a_t_likely : Nat) (jx1 : Int32) (v_t_total : Int32) (v_t_likely : (Nat → Int32)) (v_t_upper : Int32) (v_t_lower : Int32) (r : Int32) (hf : fX0_atLeast jx1 v_t_total v_t_likely = some r) : cR l yX0_atLeast wsX0_atLeast rmX0_atLeast [.ref a_t, .int jx1] D [(a_t, .inr (0, [.ref a_t_likely, .int v_t_total, .int v_t_upper, .int v_t_lower])), (a_t_likely, .inl (cI, 31, .inl v_t_likely))] (KX D cI cZ) r := by
  refine cR_of (cc := cX0_atLeast) (maxL := 4) (ret := some .int) (by decide +kernel) rfl _ (Nat.le_of_ble_eq_true rfl) ?_
  intro p e s m below meth c ls S hr hlk hP hK hl
  obtain ⟨hx, hb, hml, hown, hts⟩ := id S
  have hl : lv_has ls 4 [(0, .ref a_t), (1, .int jx1)] := hl
  unfold fX0_atLeast at hf
  refine lv_iconst (v := 0) hx hb dX0_atLeast_0 (by decide) ?_
  refine lv_istore_n (lv' := [(2, .int (0 : Int32)), (0, .ref a_t), (1, .int jx1)]) hx hb dX0_atLeast_1 rfl hl (by decide) rfl (fun ls hl => ?_)
  refine lv_iload_n hx hb dX0_atLeast_2 rfl (lv_at hl 2 rfl) ?_
  refine lv_iconst (v := 0) hx hb dX0_atLeast_3 (by decide) ?_
  refine va_mmax hx hb (hml.trans hl.1.symm) hown (hts _ mX0_atLeast_1) (hts _ mX0_atLeast_2) (hts _ mX0_atLeast_3) (hts _ mX0_atLeast_4) (Nat.le_of_ble_eq_true rfl) (Nat.le_of_ble_eq_true rfl) (Nat.zero_le _) (Nat.zero_le _) dX0_atLeast_4 ?_
  refine lv_istore_n (lv' := [(3, .int (if jx1 < (0 : Int32) then (0 : Int32) else jx1)), (2, .int (0 : Int32)), (0, .ref a_t), (1, .int jx1)]) hx hb dX0_atLeast_7 rfl hl (by decide) rfl (fun ls hl => ?_)
  exact wX0_atLeast_8 S hr hlk hK hP fuel (0 : Int32) (if jx1 < (0 : Int32) then (0 : Int32) else jx1) ls hf (lv_sub hl [2, 1, 0] rfl)
def fX0_reduce_74 (jk40 : Int32 → Int32 → Int32 → Option (Int32 × Int32)) (jx2 : Int32) (v_t_total : Int32) (v_t_likely : (Nat → Int32)) (jx3 : Int32) (v_t_upper : Int32) (v_t_lower : Int32) : Option (Int32 × Int32) := if (v_t_upper - v_t_upper / (5 : Int32) * (5 : Int32)) = 0 then jk40 (jx3 + (1 : Int32)) (v_t_upper / (5 : Int32)) (v_t_lower / (5 : Int32)) else jk40 (jx3 + (1 : Int32)) v_t_upper v_t_lower
def fX0_reduce_40 (jx2 : Int32) (v_t_total : Int32) (v_t_likely : (Nat → Int32)) : Nat → Int32 → Int32 → Int32 → Option (Int32 × Int32)
  | 0, _, _, _ => none
  | n + 1, jx3, v_t_upper, v_t_lower => if jx2 ≤ jx3 then some (v_t_upper, v_t_lower) else if (v_t_upper - v_t_upper / (2 : Int32) * (2 : Int32)) = 0 then fX0_reduce_74 (fX0_reduce_40 jx2 v_t_total v_t_likely n) jx2 v_t_total v_t_likely jx3 (v_t_upper / (2 : Int32)) (v_t_lower / (2 : Int32)) else fX0_reduce_74 (fX0_reduce_40 jx2 v_t_total v_t_likely n) jx2 v_t_total v_t_likely jx3 v_t_upper v_t_lower
theorem fX0_reduce_40_s (jx2 : Int32) (v_t_total : Int32) (v_t_likely : (Nat → Int32)) (n : Nat) (jx3 : Int32) (v_t_upper : Int32) (v_t_lower : Int32) : fX0_reduce_40 jx2 v_t_total v_t_likely (n + 1) jx3 v_t_upper v_t_lower = if jx2 ≤ jx3 then some (v_t_upper, v_t_lower) else if (v_t_upper - v_t_upper / (2 : Int32) * (2 : Int32)) = 0 then fX0_reduce_74 (fX0_reduce_40 jx2 v_t_total v_t_likely n) jx2 v_t_total v_t_likely jx3 (v_t_upper / (2 : Int32)) (v_t_lower / (2 : Int32)) else fX0_reduce_74 (fX0_reduce_40 jx2 v_t_total v_t_likely n) jx2 v_t_total v_t_likely jx3 v_t_upper v_t_lower := rfl
def fX0_reduce_16 (jx2 : Int32) (v_t_total : Int32) (v_t_likely : (Nat → Int32)) : Nat → Int32 → Int32 → Int32 → Option (Int32 × Int32)
  | 0, _, _, _ => none
  | n + 1, jx3, v_t_upper, v_t_lower => if jx2 ≤ jx3 then fX0_reduce_40 jx2 v_t_total v_t_likely fuel (0 : Int32) v_t_upper v_t_lower else (fX0_reduce_16 jx2 v_t_total v_t_likely n) (jx3 + (1 : Int32)) v_t_upper (v_t_lower * (10 : Int32))
theorem fX0_reduce_16_s (jx2 : Int32) (v_t_total : Int32) (v_t_likely : (Nat → Int32)) (n : Nat) (jx3 : Int32) (v_t_upper : Int32) (v_t_lower : Int32) : fX0_reduce_16 jx2 v_t_total v_t_likely (n + 1) jx3 v_t_upper v_t_lower = if jx2 ≤ jx3 then fX0_reduce_40 jx2 v_t_total v_t_likely fuel (0 : Int32) v_t_upper v_t_lower else (fX0_reduce_16 jx2 v_t_total v_t_likely n) (jx3 + (1 : Int32)) v_t_upper (v_t_lower * (10 : Int32)) := rfl
def fX0_reduce (jx1 : Int32) (jx2 : Int32) (v_t_total : Int32) (v_t_upper : Int32) (v_t_lower : Int32) (v_t_likely : (Nat → Int32)) : Option (Int32 × Int32) := bd1 (fX0_atLeast jx1 v_t_total v_t_likely) (fun jr1 => fX0_reduce_16 jx2 v_t_total v_t_likely fuel (0 : Int32) jr1 (1 : Int32))
abbrev rmX0_reduce : Room := { frames := 2, cells := 0, slots := 0, locals := 44 }
theorem iX0_reduce_X0 : ∀ w ∈ wsX00, w ∈ wsX0_reduce := fun _ h => List.mem_cons_of_mem _ (List.mem_append_right _ h)
theorem mX0_reduce_1 : (Cond.fieldLink RX0 19 "VoteFiles$Chances" "upper" "I") ∈ wsX0_reduce := List.mem_of_getElem? (i := 1) rfl
theorem mX0_reduce_2 : (Cond.fieldLink RX0 22 "VoteFiles$Chances" "lower" "I") ∈ wsX0_reduce := List.mem_of_getElem? (i := 2) rfl
set_option maxHeartbeats 4000000 in
set_option maxRecDepth 100000 in
theorem wX0_reduce_74 {p : Program} {l : Launch} {e : Env} {s : State} {m : MethodId} {args : Array Value} {below : List Frame} {meth : Method} {c : Code} {D : va_G} {cI cZ : ClassId} (S : CallFix p m c cX0_reduce 4 s args wsX0_reduce RX0) (hr : meth.sig.returnType = none) (hlk : meth.locks = false) (hK : KX D cI cZ s) {a_t a_t_likely : Nat} {jk40 : Int32 → Int32 → Int32 → Option (Int32 × Int32)} {jx2 : Int32} {v_t_total : Int32} {v_t_likely : (Nat → Int32)} {o_t_upper : Int32} {o_t_lower : Int32} {A : Nat → Prop} (hA : ∀ q : Nat, s.heap.size ≤ q → A q) (hk40 : ∀ (jx3 : Int32) (v_t_upper : Int32) (v_t_lower : Int32) (ls : Array Slot) (H : Heap) (locs : List Loc), jk40 jx3 v_t_upper v_t_lower = some (o_t_upper, o_t_lower) → lv_has ls 4 [(0, .ref a_t), (2, .int jx2), (3, .int jx3)] → va_P D vwCl [(a_t, .inr (0, [.ref a_t_likely, .int v_t_total, .int v_t_upper, .int v_t_lower])), (a_t_likely, .inl (cI, 31, .inl v_t_likely))] H → va_D A [(a_t, .inr (0, [.ref a_t_likely, .int v_t_total, .int v_t_upper, .int v_t_lower])), (a_t_likely, .inl (cI, 31, .inl v_t_likely))] → va_S A s.heap H locs → W p l e rmX0_reduce s m args below meth c H locs 0 0 (MQ below (qM D none [(a_t, .inr (0, [.ref a_t_likely, .int v_t_total, .int o_t_upper, .int o_t_lower])), (a_t_likely, .inl (cI, 31, .inl v_t_likely))] A) args s 0 0 A) (F0 m 40 ls [])) : ∀ (jx3 : Int32) (v_t_upper : Int32) (v_t_lower : Int32) (ls : Array Slot) (H : Heap) (locs : List Loc), fX0_reduce_74 jk40 jx2 v_t_total v_t_likely jx3 v_t_upper v_t_lower = some (o_t_upper, o_t_lower) → lv_has ls 4 [(0, .ref a_t), (2, .int jx2), (3, .int jx3)] → va_P D vwCl [(a_t, .inr (0, [.ref a_t_likely, .int v_t_total, .int v_t_upper, .int v_t_lower])), (a_t_likely, .inl (cI, 31, .inl v_t_likely))] H → va_D A [(a_t, .inr (0, [.ref a_t_likely, .int v_t_total, .int v_t_upper, .int v_t_lower])), (a_t_likely, .inl (cI, 31, .inl v_t_likely))] → va_S A s.heap H locs → W p l e rmX0_reduce s m args below meth c H locs 0 0 (MQ below (qM D none [(a_t, .inr (0, [.ref a_t_likely, .int v_t_total, .int o_t_upper, .int o_t_lower])), (a_t_likely, .inl (cI, 31, .inl v_t_likely))] A) args s 0 0 A) (F0 m 74 ls []) := by
  obtain ⟨hx, hb, hml, hown, hts⟩ := id S
  intro jx3 v_t_upper v_t_lower ls H locs hf hl hP hD hS
  unfold fX0_reduce_74 at hf
  refine lv_aload_n hx hb dX0_reduce_74 rfl (lv_at hl 0 rfl) ?_
  refine va_get (D := D) (ci := 0) (v := .int v_t_upper) (C := RX0) (T := TX0) (N := 4) hx hb hts iX0_reduce_X0 hown hK.1 hP 0 rfl rfl 2 (by decide) (hts _ mX0_reduce_1) (fun _ h9 => h9) rfl dX0_reduce_75 ?_
  refine lv_iconst (v := 5) hx hb dX0_reduce_78 (by decide) ?_
  refine lv_irem hx hb dX0_reduce_79 (by decide) ?_
  refine lv_if_ne (tgt := 103) hx hb dX0_reduce_80 (by decide) (fun jc1 => ?_) (fun jc1 => ?_)
  · have hf := ite_f jc1 hf
    refine lv_iinc (v := (jx3 + (1 : Int32))) (lv' := [(3, .int (jx3 + (1 : Int32))), (0, .ref a_t), (2, .int jx2)]) hx hb dX0_reduce_103 hl (k := 2) rfl rfl (by decide) rfl (fun ls hl => ?_)
    refine lv_goto (tgt := 40) hx hb dX0_reduce_106 (by decide) ?_
    exact hk40 (jx3 + (1 : Int32)) v_t_upper v_t_lower ls _ _ hf (lv_sub hl [1, 2, 0] rfl) hP hD hS
  · have hf := ite_t jc1 hf
    refine lv_aload_n hx hb dX0_reduce_83 rfl (lv_at hl 0 rfl) ?_
    refine lv_dup hx hb dX0_reduce_84 rfl ?_
    refine va_get (D := D) (ci := 0) (v := .int v_t_upper) (C := RX0) (T := TX0) (N := 4) hx hb hts iX0_reduce_X0 hown hK.1 hP 0 rfl rfl 2 (by decide) (hts _ mX0_reduce_1) (fun _ h9 => h9) rfl dX0_reduce_85 ?_
    refine lv_iconst (v := 5) hx hb dX0_reduce_88 (by decide) ?_
    refine lv_idiv hx hb dX0_reduce_89 (by decide) ?_
    refine va_put (D := D) (ci := 0) (v := .int (v_t_upper / (5 : Int32))) (ty := .int) (C := RX0) (T := TX0) (N := 4) hx hb hts iX0_reduce_X0 tyX0 tyX0_ok nmX0 hown hK.1 hP hD hS 0 rfl rfl 2 (by decide) (hts _ mX0_reduce_1) (fun _ h9 => h9) rfl (tyX0_ok 2 (by decide)) rfl rfl (Nat.le_of_ble_eq_true rfl) dX0_reduce_90 (fun H locs hP hD hS => ?_)
    have hP : va_P D vwCl [(a_t, .inr (0, [.ref a_t_likely, .int v_t_total, .int (v_t_upper / (5 : Int32)), .int v_t_lower])), (a_t_likely, .inl (cI, 31, .inl v_t_likely))] H := hP
    have hD : va_D A [(a_t, .inr (0, [.ref a_t_likely, .int v_t_total, .int (v_t_upper / (5 : Int32)), .int v_t_lower])), (a_t_likely, .inl (cI, 31, .inl v_t_likely))] := hD
    refine lv_aload_n hx hb dX0_reduce_93 rfl (lv_at hl 0 rfl) ?_
    refine lv_dup hx hb dX0_reduce_94 rfl ?_
    refine va_get (D := D) (ci := 0) (v := .int v_t_lower) (C := RX0) (T := TX0) (N := 4) hx hb hts iX0_reduce_X0 hown hK.1 hP 0 rfl rfl 3 (by decide) (hts _ mX0_reduce_2) (fun _ h9 => h9) rfl dX0_reduce_95 ?_
    refine lv_iconst (v := 5) hx hb dX0_reduce_98 (by decide) ?_
    refine lv_idiv hx hb dX0_reduce_99 (by decide) ?_
    refine va_put (D := D) (ci := 0) (v := .int (v_t_lower / (5 : Int32))) (ty := .int) (C := RX0) (T := TX0) (N := 4) hx hb hts iX0_reduce_X0 tyX0 tyX0_ok nmX0 hown hK.1 hP hD hS 0 rfl rfl 3 (by decide) (hts _ mX0_reduce_2) (fun _ h9 => h9) rfl (tyX0_ok 3 (by decide)) rfl rfl (Nat.le_of_ble_eq_true rfl) dX0_reduce_100 (fun H locs hP hD hS => ?_)
    have hP : va_P D vwCl [(a_t, .inr (0, [.ref a_t_likely, .int v_t_total, .int (v_t_upper / (5 : Int32)), .int (v_t_lower / (5 : Int32))])), (a_t_likely, .inl (cI, 31, .inl v_t_likely))] H := hP
    have hD : va_D A [(a_t, .inr (0, [.ref a_t_likely, .int v_t_total, .int (v_t_upper / (5 : Int32)), .int (v_t_lower / (5 : Int32))])), (a_t_likely, .inl (cI, 31, .inl v_t_likely))] := hD
    refine lv_iinc (v := (jx3 + (1 : Int32))) (lv' := [(3, .int (jx3 + (1 : Int32))), (0, .ref a_t), (2, .int jx2)]) hx hb dX0_reduce_103 hl (k := 2) rfl rfl (by decide) rfl (fun ls hl => ?_)
    refine lv_goto (tgt := 40) hx hb dX0_reduce_106 (by decide) ?_
    exact hk40 (jx3 + (1 : Int32)) (v_t_upper / (5 : Int32)) (v_t_lower / (5 : Int32)) ls _ _ hf (lv_sub hl [1, 2, 0] rfl) hP hD hS
set_option maxHeartbeats 4000000 in
set_option maxRecDepth 100000 in
theorem wX0_reduce_40 {p : Program} {l : Launch} {e : Env} {s : State} {m : MethodId} {args : Array Value} {below : List Frame} {meth : Method} {c : Code} {D : va_G} {cI cZ : ClassId} (S : CallFix p m c cX0_reduce 4 s args wsX0_reduce RX0) (hr : meth.sig.returnType = none) (hlk : meth.locks = false) (hK : KX D cI cZ s) {a_t a_t_likely : Nat} {jx2 : Int32} {v_t_total : Int32} {v_t_likely : (Nat → Int32)} {o_t_upper : Int32} {o_t_lower : Int32} {A : Nat → Prop} (hA : ∀ q : Nat, s.heap.size ≤ q → A q) : ∀ (n : Nat), ∀ (jx3 : Int32) (v_t_upper : Int32) (v_t_lower : Int32) (ls : Array Slot) (H : Heap) (locs : List Loc), fX0_reduce_40 jx2 v_t_total v_t_likely n jx3 v_t_upper v_t_lower = some (o_t_upper, o_t_lower) → lv_has ls 4 [(0, .ref a_t), (2, .int jx2), (3, .int jx3)] → va_P D vwCl [(a_t, .inr (0, [.ref a_t_likely, .int v_t_total, .int v_t_upper, .int v_t_lower])), (a_t_likely, .inl (cI, 31, .inl v_t_likely))] H → va_D A [(a_t, .inr (0, [.ref a_t_likely, .int v_t_total, .int v_t_upper, .int v_t_lower])), (a_t_likely, .inl (cI, 31, .inl v_t_likely))] → va_S A s.heap H locs → W p l e rmX0_reduce s m args below meth c H locs 0 0 (MQ below (qM D none [(a_t, .inr (0, [.ref a_t_likely, .int v_t_total, .int o_t_upper, .int o_t_lower])), (a_t_likely, .inl (cI, 31, .inl v_t_likely))] A) args s 0 0 A) (F0 m 40 ls []) := by
  obtain ⟨hx, hb, hml, hown, hts⟩ := id S
  intro n
  induction n with
  | zero =>
    intro jx3 v_t_upper v_t_lower ls H locs hf hl hP hD hS
    cases (show (none : Option _) = some _ from hf)
  | succ n ih =>
    intro jx3 v_t_upper v_t_lower ls H locs hf hl hP hD hS
    have hf := (fX0_reduce_40_s _ _ _ n _ _ _).symm.trans hf
    refine lv_iload_n hx hb dX0_reduce_40 rfl (lv_at hl 2 rfl) ?_
    refine lv_iload_n hx hb dX0_reduce_41 rfl (lv_at hl 1 rfl) ?_
    refine lv_icmp_ge (tgt := 109) hx hb dX0_reduce_42 (by decide) (fun jc1 => ?_) (fun jc1 => ?_)
    · have hf := ite_t jc1 hf
      obtain ⟨rfl, rfl⟩ := pr2_inv hf
      exact retMv hx hb hr hlk hP hD hS dX0_reduce_109
    · have hf := ite_f jc1 hf
      refine lv_aload_n hx hb dX0_reduce_45 rfl (lv_at hl 0 rfl) ?_
      refine va_get (D := D) (ci := 0) (v := .int v_t_upper) (C := RX0) (T := TX0) (N := 4) hx hb hts iX0_reduce_X0 hown hK.1 hP 0 rfl rfl 2 (by decide) (hts _ mX0_reduce_1) (fun _ h9 => h9) rfl dX0_reduce_46 ?_
      refine lv_iconst (v := 2) hx hb dX0_reduce_49 (by decide) ?_
      refine lv_irem hx hb dX0_reduce_50 (by decide) ?_
      refine lv_if_ne (tgt := 74) hx hb dX0_reduce_51 (by decide) (fun jc2 => ?_) (fun jc2 => ?_)
      · have hf := ite_f jc2 hf
        exact wX0_reduce_74 S hr hlk hK hA ih jx3 v_t_upper v_t_lower ls _ _ hf (lv_sub hl [0, 1, 2] rfl) hP hD hS
      · have hf := ite_t jc2 hf
        refine lv_aload_n hx hb dX0_reduce_54 rfl (lv_at hl 0 rfl) ?_
        refine lv_dup hx hb dX0_reduce_55 rfl ?_
        refine va_get (D := D) (ci := 0) (v := .int v_t_upper) (C := RX0) (T := TX0) (N := 4) hx hb hts iX0_reduce_X0 hown hK.1 hP 0 rfl rfl 2 (by decide) (hts _ mX0_reduce_1) (fun _ h9 => h9) rfl dX0_reduce_56 ?_
        refine lv_iconst (v := 2) hx hb dX0_reduce_59 (by decide) ?_
        refine lv_idiv hx hb dX0_reduce_60 (by decide) ?_
        refine va_put (D := D) (ci := 0) (v := .int (v_t_upper / (2 : Int32))) (ty := .int) (C := RX0) (T := TX0) (N := 4) hx hb hts iX0_reduce_X0 tyX0 tyX0_ok nmX0 hown hK.1 hP hD hS 0 rfl rfl 2 (by decide) (hts _ mX0_reduce_1) (fun _ h9 => h9) rfl (tyX0_ok 2 (by decide)) rfl rfl (Nat.le_of_ble_eq_true rfl) dX0_reduce_61 (fun H locs hP hD hS => ?_)
        have hP : va_P D vwCl [(a_t, .inr (0, [.ref a_t_likely, .int v_t_total, .int (v_t_upper / (2 : Int32)), .int v_t_lower])), (a_t_likely, .inl (cI, 31, .inl v_t_likely))] H := hP
        have hD : va_D A [(a_t, .inr (0, [.ref a_t_likely, .int v_t_total, .int (v_t_upper / (2 : Int32)), .int v_t_lower])), (a_t_likely, .inl (cI, 31, .inl v_t_likely))] := hD
        refine lv_aload_n hx hb dX0_reduce_64 rfl (lv_at hl 0 rfl) ?_
        refine lv_dup hx hb dX0_reduce_65 rfl ?_
        refine va_get (D := D) (ci := 0) (v := .int v_t_lower) (C := RX0) (T := TX0) (N := 4) hx hb hts iX0_reduce_X0 hown hK.1 hP 0 rfl rfl 3 (by decide) (hts _ mX0_reduce_2) (fun _ h9 => h9) rfl dX0_reduce_66 ?_
        refine lv_iconst (v := 2) hx hb dX0_reduce_69 (by decide) ?_
        refine lv_idiv hx hb dX0_reduce_70 (by decide) ?_
        refine va_put (D := D) (ci := 0) (v := .int (v_t_lower / (2 : Int32))) (ty := .int) (C := RX0) (T := TX0) (N := 4) hx hb hts iX0_reduce_X0 tyX0 tyX0_ok nmX0 hown hK.1 hP hD hS 0 rfl rfl 3 (by decide) (hts _ mX0_reduce_2) (fun _ h9 => h9) rfl (tyX0_ok 3 (by decide)) rfl rfl (Nat.le_of_ble_eq_true rfl) dX0_reduce_71 (fun H locs hP hD hS => ?_)
        have hP : va_P D vwCl [(a_t, .inr (0, [.ref a_t_likely, .int v_t_total, .int (v_t_upper / (2 : Int32)), .int (v_t_lower / (2 : Int32))])), (a_t_likely, .inl (cI, 31, .inl v_t_likely))] H := hP
        have hD : va_D A [(a_t, .inr (0, [.ref a_t_likely, .int v_t_total, .int (v_t_upper / (2 : Int32)), .int (v_t_lower / (2 : Int32))])), (a_t_likely, .inl (cI, 31, .inl v_t_likely))] := hD
        exact wX0_reduce_74 S hr hlk hK hA ih jx3 (v_t_upper / (2 : Int32)) (v_t_lower / (2 : Int32)) ls _ _ hf (lv_sub hl [0, 1, 2] rfl) hP hD hS
set_option maxHeartbeats 4000000 in
set_option maxRecDepth 100000 in
theorem wX0_reduce_16 {p : Program} {l : Launch} {e : Env} {s : State} {m : MethodId} {args : Array Value} {below : List Frame} {meth : Method} {c : Code} {D : va_G} {cI cZ : ClassId} (S : CallFix p m c cX0_reduce 4 s args wsX0_reduce RX0) (hr : meth.sig.returnType = none) (hlk : meth.locks = false) (hK : KX D cI cZ s) {a_t a_t_likely : Nat} {jx2 : Int32} {v_t_total : Int32} {v_t_likely : (Nat → Int32)} {o_t_upper : Int32} {o_t_lower : Int32} {A : Nat → Prop} (hA : ∀ q : Nat, s.heap.size ≤ q → A q) : ∀ (n : Nat), ∀ (jx3 : Int32) (v_t_upper : Int32) (v_t_lower : Int32) (ls : Array Slot) (H : Heap) (locs : List Loc), fX0_reduce_16 jx2 v_t_total v_t_likely n jx3 v_t_upper v_t_lower = some (o_t_upper, o_t_lower) → lv_has ls 4 [(0, .ref a_t), (2, .int jx2), (3, .int jx3)] → va_P D vwCl [(a_t, .inr (0, [.ref a_t_likely, .int v_t_total, .int v_t_upper, .int v_t_lower])), (a_t_likely, .inl (cI, 31, .inl v_t_likely))] H → va_D A [(a_t, .inr (0, [.ref a_t_likely, .int v_t_total, .int v_t_upper, .int v_t_lower])), (a_t_likely, .inl (cI, 31, .inl v_t_likely))] → va_S A s.heap H locs → W p l e rmX0_reduce s m args below meth c H locs 0 0 (MQ below (qM D none [(a_t, .inr (0, [.ref a_t_likely, .int v_t_total, .int o_t_upper, .int o_t_lower])), (a_t_likely, .inl (cI, 31, .inl v_t_likely))] A) args s 0 0 A) (F0 m 16 ls []) := by
  obtain ⟨hx, hb, hml, hown, hts⟩ := id S
  intro n
  induction n with
  | zero =>
    intro jx3 v_t_upper v_t_lower ls H locs hf hl hP hD hS
    cases (show (none : Option _) = some _ from hf)
  | succ n ih =>
    intro jx3 v_t_upper v_t_lower ls H locs hf hl hP hD hS
    have hf := (fX0_reduce_16_s _ _ _ n _ _ _).symm.trans hf
    refine lv_iload_n hx hb dX0_reduce_16 rfl (lv_at hl 2 rfl) ?_
    refine lv_iload_n hx hb dX0_reduce_17 rfl (lv_at hl 1 rfl) ?_
    refine lv_icmp_ge (tgt := 38) hx hb dX0_reduce_18 (by decide) (fun jc1 => ?_) (fun jc1 => ?_)
    · have hf := ite_t jc1 hf
      refine lv_iconst (v := 0) hx hb dX0_reduce_38 (by decide) ?_
      refine lv_istore_n (lv' := [(3, .int (0 : Int32)), (0, .ref a_t), (2, .int jx2)]) hx hb dX0_reduce_39 rfl hl (by decide) rfl (fun ls hl => ?_)
      exact wX0_reduce_40 S hr hlk hK hA fuel (0 : Int32) v_t_upper v_t_lower ls _ _ hf (lv_sub hl [1, 2, 0] rfl) hP hD hS
    · have hf := ite_f jc1 hf
      refine lv_aload_n hx hb dX0_reduce_21 rfl (lv_at hl 0 rfl) ?_
      refine lv_dup hx hb dX0_reduce_22 rfl ?_
      refine va_get (D := D) (ci := 0) (v := .int v_t_lower) (C := RX0) (T := TX0) (N := 4) hx hb hts iX0_reduce_X0 hown hK.1 hP 0 rfl rfl 3 (by decide) (hts _ mX0_reduce_2) (fun _ h9 => h9) rfl dX0_reduce_23 ?_
      refine lv_bipush (v := 10) hx hb dX0_reduce_26 (by decide) ?_
      refine lv_imul hx hb dX0_reduce_28 ?_
      refine va_put (D := D) (ci := 0) (v := .int (v_t_lower * (10 : Int32))) (ty := .int) (C := RX0) (T := TX0) (N := 4) hx hb hts iX0_reduce_X0 tyX0 tyX0_ok nmX0 hown hK.1 hP hD hS 0 rfl rfl 3 (by decide) (hts _ mX0_reduce_2) (fun _ h9 => h9) rfl (tyX0_ok 3 (by decide)) rfl rfl (Nat.le_of_ble_eq_true rfl) dX0_reduce_29 (fun H locs hP hD hS => ?_)
      have hP : va_P D vwCl [(a_t, .inr (0, [.ref a_t_likely, .int v_t_total, .int v_t_upper, .int (v_t_lower * (10 : Int32))])), (a_t_likely, .inl (cI, 31, .inl v_t_likely))] H := hP
      have hD : va_D A [(a_t, .inr (0, [.ref a_t_likely, .int v_t_total, .int v_t_upper, .int (v_t_lower * (10 : Int32))])), (a_t_likely, .inl (cI, 31, .inl v_t_likely))] := hD
      refine lv_iinc (v := (jx3 + (1 : Int32))) (lv' := [(3, .int (jx3 + (1 : Int32))), (0, .ref a_t), (2, .int jx2)]) hx hb dX0_reduce_32 hl (k := 2) rfl rfl (by decide) rfl (fun ls hl => ?_)
      refine lv_goto (tgt := 16) hx hb dX0_reduce_35 (by decide) ?_
      exact ih (jx3 + (1 : Int32)) v_t_upper (v_t_lower * (10 : Int32)) ls _ _ hf (lv_sub hl [1, 2, 0] rfl) hP hD hS
theorem hdX0_reduce : yX0_reduce.cls ≠ "java/lang/invoke/MethodHandle" ∧ yX0_reduce.cls ≠ "java/lang/invoke/VarHandle" ∧ (parseMethodDescriptor yX0_reduce.desc).map (fun d => d.parameters.length) = some 2 := by decide +kernel
set_option maxHeartbeats 4000000 in
set_option maxRecDepth 100000 in
theorem ctX0_reduce (l : Launch) (D : va_G) (cI cZ : ClassId) (a_t a_t_likely : Nat) (jx1 : Int32) (jx2 : Int32) (v_t_total : Int32) (v_t_upper : Int32) (v_t_lower : Int32) (v_t_likely : (Nat → Int32)) (o_t_upper : Int32) (o_t_lower : Int32) (hf : fX0_reduce jx1 jx2 v_t_total v_t_upper v_t_lower v_t_likely = some (o_t_upper, o_t_lower)) : cM l yX0_reduce wsX0_reduce rmX0_reduce [.ref a_t, .int jx1, .int jx2] D [(a_t, .inr (0, [.ref a_t_likely, .int v_t_total, .int v_t_upper, .int v_t_lower])), (a_t_likely, .inl (cI, 31, .inl v_t_likely))] [(a_t, .inr (0, [.ref a_t_likely, .int v_t_total, .int o_t_upper, .int o_t_lower])), (a_t_likely, .inl (cI, 31, .inl v_t_likely))] (KX D cI cZ) none := by
  refine cM_of (cc := cX0_reduce) (maxL := 4) (ret := none) (by decide +kernel) rfl _ (Nat.le_of_ble_eq_true rfl) ?_
  intro p e s m below meth c ls A S hr hlk hP hK hl hD hA hS
  obtain ⟨hx, hb, hml, hown, hts⟩ := id S
  have hl : lv_has ls 4 [(0, .ref a_t), (1, .int jx1), (2, .int jx2)] := hl
  unfold fX0_reduce at hf
  refine lv_aload_n hx hb dX0_reduce_0 rfl (lv_at hl 0 rfl) ?_
  refine lv_aload_n hx hb dX0_reduce_1 rfl (lv_at hl 0 rfl) ?_
  refine lv_iload_n hx hb dX0_reduce_2 rfl (lv_at hl 1 rfl) ?_
  obtain ⟨jr1, je2, hf⟩ := bd1_inv hf
  refine callRV (As := [.int jx1]) (rest := [.ref a_t]) S (ctX0_atLeast l D cI cZ a_t a_t_likely jx1 v_t_total v_t_likely v_t_upper v_t_lower jr1 je2) (cwV 1 hts gX0_reduce_X0_atLeast rfl rfl rfl ⟨rfl, hdX0_atLeast⟩ ⟨Nat.le_of_ble_eq_true rfl, Nat.le_of_ble_eq_true rfl⟩) hP [0, 1] rfl KX.xs (fun U _ hW => hK.warm hW) (va_recv hK.1 hP (ci := 0) (q0 := 0) rfl rfl) rfl hl.1 rfl (Nat.le_of_ble_eq_true rfl) dX0_reduce_3 ⟨Nat.zero_le _, Nat.zero_le _⟩ ?_
  refine va_put (D := D) (ci := 0) (v := .int jr1) (ty := .int) (C := RX0) (T := TX0) (N := 4) hx hb hts iX0_reduce_X0 tyX0 tyX0_ok nmX0 hown hK.1 hP hD hS 0 rfl rfl 2 (by decide) (hts _ mX0_reduce_1) (fun _ h9 => h9) rfl (tyX0_ok 2 (by decide)) rfl rfl (Nat.le_of_ble_eq_true rfl) dX0_reduce_6 (fun H locs hP hD hS => ?_)
  have hP : va_P D vwCl [(a_t, .inr (0, [.ref a_t_likely, .int v_t_total, .int jr1, .int v_t_lower])), (a_t_likely, .inl (cI, 31, .inl v_t_likely))] H := hP
  have hD : va_D A [(a_t, .inr (0, [.ref a_t_likely, .int v_t_total, .int jr1, .int v_t_lower])), (a_t_likely, .inl (cI, 31, .inl v_t_likely))] := hD
  refine lv_aload_n hx hb dX0_reduce_9 rfl (lv_at hl 0 rfl) ?_
  refine lv_iconst (v := 1) hx hb dX0_reduce_10 (by decide) ?_
  refine va_put (D := D) (ci := 0) (v := .int (1 : Int32)) (ty := .int) (C := RX0) (T := TX0) (N := 4) hx hb hts iX0_reduce_X0 tyX0 tyX0_ok nmX0 hown hK.1 hP hD hS 0 rfl rfl 3 (by decide) (hts _ mX0_reduce_2) (fun _ h9 => h9) rfl (tyX0_ok 3 (by decide)) rfl rfl (Nat.le_of_ble_eq_true rfl) dX0_reduce_11 (fun H locs hP hD hS => ?_)
  have hP : va_P D vwCl [(a_t, .inr (0, [.ref a_t_likely, .int v_t_total, .int jr1, .int (1 : Int32)])), (a_t_likely, .inl (cI, 31, .inl v_t_likely))] H := hP
  have hD : va_D A [(a_t, .inr (0, [.ref a_t_likely, .int v_t_total, .int jr1, .int (1 : Int32)])), (a_t_likely, .inl (cI, 31, .inl v_t_likely))] := hD
  refine lv_iconst (v := 0) hx hb dX0_reduce_14 (by decide) ?_
  refine lv_istore_n (lv' := [(3, .int (0 : Int32)), (0, .ref a_t), (1, .int jx1), (2, .int jx2)]) hx hb dX0_reduce_15 rfl hl (by decide) rfl (fun ls hl => ?_)
  exact wX0_reduce_16 S hr hlk hK hA fuel (0 : Int32) jr1 (1 : Int32) ls _ _ hf (lv_sub hl [1, 3, 0] rfl) hP hD hS
def fX1_drop_2  : Nat → Int32 → (Nat → Int32) → Option ((Nat → Int32))
  | 0, _, _ => none
  | n + 1, jx1, v_t_kept => if (2 : Int32) ≤ jx1 then some v_t_kept else ckI 2 jx1 ((fX1_drop_2 n) (jx1 + (1 : Int32)) (upd v_t_kept (Int32.toNatClampNeg jx1) (vp_nar .boolean (0 : Int32))))
theorem fX1_drop_2_s  (n : Nat) (jx1 : Int32) (v_t_kept : (Nat → Int32)) : fX1_drop_2  (n + 1) jx1 v_t_kept = if (2 : Int32) ≤ jx1 then some v_t_kept else ckI 2 jx1 ((fX1_drop_2 n) (jx1 + (1 : Int32)) (upd v_t_kept (Int32.toNatClampNeg jx1) (vp_nar .boolean (0 : Int32)))) := rfl
def fX1_drop (v_t_kept : (Nat → Int32)) : Option ((Nat → Int32)) := fX1_drop_2 fuel (0 : Int32) v_t_kept
abbrev rmX1_drop : Room := { frames := 0, cells := 0, slots := 0, locals := 0 }
theorem iX1_drop_X1 : ∀ w ∈ wsX10, w ∈ wsX1_drop := fun _ h => List.mem_cons_of_mem _ (List.mem_append_right _ h)
theorem mX1_drop_1 : (Cond.fieldLink RX1 17 "VoteFiles$Images" "kept" "[Z") ∈ wsX1_drop := List.mem_of_getElem? (i := 1) rfl
set_option maxHeartbeats 4000000 in
set_option maxRecDepth 100000 in
theorem wX1_drop_2 {p : Program} {l : Launch} {e : Env} {s : State} {m : MethodId} {args : Array Value} {below : List Frame} {meth : Method} {c : Code} {D : va_G} {cI cZ : ClassId} (S : CallFix p m c cX1_drop 2 s args wsX1_drop RX1) (hr : meth.sig.returnType = none) (hlk : meth.locks = false) (hK : KX D cI cZ s) {a_t a_t_rows a_t_kept : Nat} {o_t_kept : (Nat → Int32)} {A : Nat → Prop} (hA : ∀ q : Nat, s.heap.size ≤ q → A q) : ∀ (n : Nat), ∀ (jx1 : Int32) (v_t_kept : (Nat → Int32)) (ls : Array Slot) (H : Heap) (locs : List Loc), fX1_drop_2  n jx1 v_t_kept = some o_t_kept → lv_has ls 2 [(0, .ref a_t), (1, .int jx1)] → va_P D vwCl [(a_t, .inr (1, [.ref a_t_rows, .ref a_t_kept])), (a_t_kept, .inl (cZ, 2, .inl v_t_kept))] H → va_D A [(a_t, .inr (1, [.ref a_t_rows, .ref a_t_kept])), (a_t_kept, .inl (cZ, 2, .inl v_t_kept))] → va_S A s.heap H locs → W p l e rmX1_drop s m args below meth c H locs 0 0 (MQ below (qM D none [(a_t, .inr (1, [.ref a_t_rows, .ref a_t_kept])), (a_t_kept, .inl (cZ, 2, .inl o_t_kept))] A) args s 0 0 A) (F0 m 2 ls []) := by
  obtain ⟨hx, hb, hml, hown, hts⟩ := id S
  intro n
  induction n with
  | zero =>
    intro jx1 v_t_kept ls H locs hf hl hP hD hS
    cases (show (none : Option _) = some _ from hf)
  | succ n ih =>
    intro jx1 v_t_kept ls H locs hf hl hP hD hS
    have hf := (fX1_drop_2_s  n _ _).symm.trans hf
    refine lv_iload_n hx hb dX1_drop_2 rfl (lv_at hl 1 rfl) ?_
    refine lv_iconst (v := 2) hx hb dX1_drop_3 (by decide) ?_
    refine lv_icmp_ge (tgt := 20) hx hb dX1_drop_4 (by decide) (fun jc1 => ?_) (fun jc1 => ?_)
    · have hf := ite_t jc1 hf
      obtain rfl := Option.some.inj hf
      exact retMv hx hb hr hlk hP hD hS dX1_drop_20
    · have hf := ite_f jc1 hf
      refine lv_aload_n hx hb dX1_drop_7 rfl (lv_at hl 0 rfl) ?_
      refine va_get (D := D) (ci := 1) (v := .ref a_t_kept) (C := RX1) (T := TX1) (N := 2) hx hb hts iX1_drop_X1 hown hK.1 hP 0 rfl rfl 1 (by decide) (hts _ mX1_drop_1) (fun _ h9 => h9) rfl dX1_drop_8 ?_
      refine lv_iload_n hx hb dX1_drop_11 rfl (lv_at hl 1 rfl) ?_
      refine lv_iconst (v := 0) hx hb dX1_drop_12 (by decide) ?_
      obtain ⟨jh2, hf⟩ := ckI_inv hf
      refine va_zast hx hb hK.1 hP hD hS 1 1 rfl rfl jh2 dX1_drop_13 (fun H locs hP hD hS => ?_)
      have hP : va_P D vwCl [(a_t, .inr (1, [.ref a_t_rows, .ref a_t_kept])), (a_t_kept, .inl (cZ, 2, .inl (upd v_t_kept (Int32.toNatClampNeg jx1) (vp_nar .boolean (0 : Int32)))))] H := hP
      have hD : va_D A [(a_t, .inr (1, [.ref a_t_rows, .ref a_t_kept])), (a_t_kept, .inl (cZ, 2, .inl (upd v_t_kept (Int32.toNatClampNeg jx1) (vp_nar .boolean (0 : Int32)))))] := hD
      refine lv_iinc (v := (jx1 + (1 : Int32))) (lv' := [(1, .int (jx1 + (1 : Int32))), (0, .ref a_t)]) hx hb dX1_drop_14 hl (k := 1) rfl rfl (by decide) rfl (fun ls hl => ?_)
      refine lv_goto (tgt := 2) hx hb dX1_drop_17 (by decide) ?_
      exact ih (jx1 + (1 : Int32)) (upd v_t_kept (Int32.toNatClampNeg jx1) (vp_nar .boolean (0 : Int32))) ls _ _ hf (lv_sub hl [1, 0] rfl) hP hD hS
theorem hdX1_drop : yX1_drop.cls ≠ "java/lang/invoke/MethodHandle" ∧ yX1_drop.cls ≠ "java/lang/invoke/VarHandle" ∧ (parseMethodDescriptor yX1_drop.desc).map (fun d => d.parameters.length) = some 0 := by decide +kernel
set_option maxHeartbeats 4000000 in
set_option maxRecDepth 100000 in
theorem ctX1_drop (l : Launch) (D : va_G) (cI cZ : ClassId) (a_t a_t_rows a_t_kept : Nat) (v_t_kept : (Nat → Int32)) (o_t_kept : (Nat → Int32)) (hf : fX1_drop v_t_kept = some o_t_kept) : cM l yX1_drop wsX1_drop rmX1_drop [.ref a_t] D [(a_t, .inr (1, [.ref a_t_rows, .ref a_t_kept])), (a_t_kept, .inl (cZ, 2, .inl v_t_kept))] [(a_t, .inr (1, [.ref a_t_rows, .ref a_t_kept])), (a_t_kept, .inl (cZ, 2, .inl o_t_kept))] (KX D cI cZ) none := by
  refine cM_of (cc := cX1_drop) (maxL := 2) (ret := none) (by decide +kernel) rfl _ (Nat.le_of_ble_eq_true rfl) ?_
  intro p e s m below meth c ls A S hr hlk hP hK hl hD hA hS
  obtain ⟨hx, hb, hml, hown, hts⟩ := id S
  have hl : lv_has ls 2 [(0, .ref a_t)] := hl
  unfold fX1_drop at hf
  refine lv_iconst (v := 0) hx hb dX1_drop_0 (by decide) ?_
  refine lv_istore_n (lv' := [(1, .int (0 : Int32)), (0, .ref a_t)]) hx hb dX1_drop_1 rfl hl (by decide) rfl (fun ls hl => ?_)
  exact wX1_drop_2 S hr hlk hK hA fuel (0 : Int32) v_t_kept ls _ _ hf (lv_sub hl [1, 0] rfl) hP hD hS
def fX1_store (jx1 : Int32) (v_t_rows : (Nat → Int32)) (v_t_kept : (Nat → Int32)) (v_p2_row : (Nat → Int32)) : Option ((Nat → Int32) × (Nat → Int32)) := bd1 (fX7_saveTo 208 jx1 v_p2_row v_t_rows) (fun jg1 => ckI 2 jx1 (some (jg1, (upd v_t_kept (Int32.toNatClampNeg jx1) (vp_nar .boolean (1 : Int32))))))
abbrev rmX1_store : Room := { frames := 2, cells := 0, slots := 0, locals := 48 }
theorem iX1_store_X1 : ∀ w ∈ wsX10, w ∈ wsX1_store := fun _ h => List.mem_cons_of_mem _ (List.mem_append_left _ (List.mem_append_right _ h))
theorem mX1_store_1 : (Cond.fieldLink RX1 11 "VoteFiles$Images" "rows" "[I") ∈ wsX1_store := List.mem_of_getElem? (i := 1) rfl
theorem mX1_store_2 : (Cond.fieldLink RX1 17 "VoteFiles$Images" "kept" "[Z") ∈ wsX1_store := List.mem_of_getElem? (i := 2) rfl
theorem hdX1_store : yX1_store.cls ≠ "java/lang/invoke/MethodHandle" ∧ yX1_store.cls ≠ "java/lang/invoke/VarHandle" ∧ (parseMethodDescriptor yX1_store.desc).map (fun d => d.parameters.length) = some 2 := by decide +kernel
set_option maxHeartbeats 4000000 in
set_option maxRecDepth 100000 in
theorem ctX1_store (l : Launch) (D : va_G) (cI cZ : ClassId) (a_t a_t_rows a_t_kept a_p2 a_p2_row : Nat) (jx1 : Int32) (v_t_rows : (Nat → Int32)) (v_t_kept : (Nat → Int32)) (v_p2_row : (Nat → Int32)) (o_t_rows : (Nat → Int32)) (o_t_kept : (Nat → Int32)) (hf : fX1_store jx1 v_t_rows v_t_kept v_p2_row = some (o_t_rows, o_t_kept)) : cM l yX1_store wsX1_store rmX1_store [.ref a_t, .int jx1, .ref a_p2] D [(a_t, .inr (1, [.ref a_t_rows, .ref a_t_kept])), (a_t_rows, .inl (cI, 208, .inl v_t_rows)), (a_t_kept, .inl (cZ, 2, .inl v_t_kept)), (a_p2, .inr (7, [.ref a_p2_row])), (a_p2_row, .inl (cI, 104, .inl v_p2_row))] [(a_t, .inr (1, [.ref a_t_rows, .ref a_t_kept])), (a_t_rows, .inl (cI, 208, .inl o_t_rows)), (a_t_kept, .inl (cZ, 2, .inl o_t_kept)), (a_p2, .inr (7, [.ref a_p2_row])), (a_p2_row, .inl (cI, 104, .inl v_p2_row))] (KX D cI cZ) none := by
  refine cM_of (cc := cX1_store) (maxL := 3) (ret := none) (by decide +kernel) rfl _ (Nat.le_of_ble_eq_true rfl) ?_
  intro p e s m below meth c ls A S hr hlk hP hK hl hD hA hS
  obtain ⟨hx, hb, hml, hown, hts⟩ := id S
  have hl : lv_has ls 3 [(0, .ref a_t), (1, .int jx1), (2, .ref a_p2)] := hl
  unfold fX1_store at hf
  refine lv_aload_n hx hb dX1_store_0 rfl (lv_at hl 2 rfl) ?_
  refine lv_aload_n hx hb dX1_store_1 rfl (lv_at hl 0 rfl) ?_
  refine va_get (D := D) (ci := 1) (v := .ref a_t_rows) (C := RX1) (T := TX1) (N := 2) hx hb hts iX1_store_X1 hown hK.1 hP 0 rfl rfl 0 (by decide) (hts _ mX1_store_1) (fun _ h9 => h9) rfl dX1_store_2 ?_
  refine lv_iload_n hx hb dX1_store_5 rfl (lv_at hl 1 rfl) ?_
  obtain ⟨jg1, je2, hf⟩ := bd1_inv hf
  refine callMV (As := [.ref a_t_rows, .int jx1]) (rest := []) (wr := [(a_t, .inr (1, [.ref a_t_rows, .ref a_t_kept])), (a_t_kept, .inl (cZ, 2, .inl v_t_kept))]) (wn := [(a_t, .inr (1, [.ref a_t_rows, .ref a_t_kept])), (a_t_rows, .inl (cI, 208, .inl jg1)), (a_t_kept, .inl (cZ, 2, .inl v_t_kept)), (a_p2, .inr (7, [.ref a_p2_row])), (a_p2_row, .inl (cI, 104, .inl v_p2_row))]) S (ctX7_saveTo l D cI cZ a_p2 a_p2_row a_t_rows 208 jx1 v_p2_row v_t_rows jg1 je2) (cwV 2 hts gX1_store_X7_saveTo rfl rfl rfl ⟨rfl, hdX7_saveTo⟩ ⟨Nat.le_of_ble_eq_true rfl, Nat.le_of_ble_eq_true rfl⟩) hP hD hS hA [3, 4, 1] [0, 2] [0, 4, 1, 2, 3] rfl rfl (by decide) (by decide) (by decide) (by decide) rfl KX.xs (fun U _ hW => hK.warm hW) (va_recv hK.1 hP (ci := 7) (q0 := 3) rfl rfl) rfl hl.1 rfl (Nat.le_of_ble_eq_true rfl) dX1_store_6 ⟨Nat.zero_le _, Nat.zero_le _⟩ (fun H locs hP hD hS => ?_)
  refine W.eq (g2 := F0 m 9 ls []) rfl ?_
  refine lv_aload_n hx hb dX1_store_9 rfl (lv_at hl 0 rfl) ?_
  refine va_get (D := D) (ci := 1) (v := .ref a_t_kept) (C := RX1) (T := TX1) (N := 2) hx hb hts iX1_store_X1 hown hK.1 hP 0 rfl rfl 1 (by decide) (hts _ mX1_store_2) (fun _ h9 => h9) rfl dX1_store_10 ?_
  refine lv_iload_n hx hb dX1_store_13 rfl (lv_at hl 1 rfl) ?_
  refine lv_iconst (v := 1) hx hb dX1_store_14 (by decide) ?_
  obtain ⟨jh3, hf⟩ := ckI_inv hf
  refine va_zast hx hb hK.1 hP hD hS 2 1 rfl rfl jh3 dX1_store_15 (fun H locs hP hD hS => ?_)
  have hP : va_P D vwCl [(a_t, .inr (1, [.ref a_t_rows, .ref a_t_kept])), (a_t_rows, .inl (cI, 208, .inl jg1)), (a_t_kept, .inl (cZ, 2, .inl (upd v_t_kept (Int32.toNatClampNeg jx1) (vp_nar .boolean (1 : Int32))))), (a_p2, .inr (7, [.ref a_p2_row])), (a_p2_row, .inl (cI, 104, .inl v_p2_row))] H := hP
  have hD : va_D A [(a_t, .inr (1, [.ref a_t_rows, .ref a_t_kept])), (a_t_rows, .inl (cI, 208, .inl jg1)), (a_t_kept, .inl (cZ, 2, .inl (upd v_t_kept (Int32.toNatClampNeg jx1) (vp_nar .boolean (1 : Int32))))), (a_p2, .inr (7, [.ref a_p2_row])), (a_p2_row, .inl (cI, 104, .inl v_p2_row))] := hD
  obtain ⟨rfl, rfl⟩ := pr2_inv hf
  exact retMv hx hb hr hlk hP hD hS dX1_store_16
def fX1_restore (jx1 : Int32) (v_t_rows : (Nat → Int32)) (v_t_kept : (Nat → Int32)) (v_p2_row : (Nat → Int32)) : Option (Int32 × (Nat → Int32)) := ckI 2 jx1 (if (v_t_kept (Int32.toNatClampNeg jx1)) = 0 then ckI 2 jx1 (zcI (v_t_kept (Int32.toNatClampNeg jx1)) (some ((v_t_kept (Int32.toNatClampNeg jx1)), v_p2_row))) else bd1 (fX7_loadFrom 208 jx1 v_p2_row v_t_rows) (fun jg5 => ckI 2 jx1 (zcI (v_t_kept (Int32.toNatClampNeg jx1)) (some ((v_t_kept (Int32.toNatClampNeg jx1)), jg5)))))
abbrev rmX1_restore : Room := { frames := 2, cells := 0, slots := 0, locals := 48 }
theorem iX1_restore_X1 : ∀ w ∈ wsX10, w ∈ wsX1_restore := fun _ h => List.mem_cons_of_mem _ (List.mem_append_left _ (List.mem_append_right _ h))
theorem mX1_restore_1 : (Cond.fieldLink RX1 17 "VoteFiles$Images" "kept" "[Z") ∈ wsX1_restore := List.mem_of_getElem? (i := 1) rfl
theorem mX1_restore_2 : (Cond.fieldLink RX1 11 "VoteFiles$Images" "rows" "[I") ∈ wsX1_restore := List.mem_of_getElem? (i := 2) rfl
theorem hdX1_restore : yX1_restore.cls ≠ "java/lang/invoke/MethodHandle" ∧ yX1_restore.cls ≠ "java/lang/invoke/VarHandle" ∧ (parseMethodDescriptor yX1_restore.desc).map (fun d => d.parameters.length) = some 2 := by decide +kernel
set_option maxHeartbeats 4000000 in
set_option maxRecDepth 100000 in
theorem ctX1_restore (l : Launch) (D : va_G) (cI cZ : ClassId) (a_t a_t_rows a_t_kept a_p2 a_p2_row : Nat) (jx1 : Int32) (v_t_rows : (Nat → Int32)) (v_t_kept : (Nat → Int32)) (v_p2_row : (Nat → Int32)) (r : Int32) (o_p2_row : (Nat → Int32)) (hf : fX1_restore jx1 v_t_rows v_t_kept v_p2_row = some (r, o_p2_row)) : cM l yX1_restore wsX1_restore rmX1_restore [.ref a_t, .int jx1, .ref a_p2] D [(a_t, .inr (1, [.ref a_t_rows, .ref a_t_kept])), (a_t_rows, .inl (cI, 208, .inl v_t_rows)), (a_t_kept, .inl (cZ, 2, .inl v_t_kept)), (a_p2, .inr (7, [.ref a_p2_row])), (a_p2_row, .inl (cI, 104, .inl v_p2_row))] [(a_t, .inr (1, [.ref a_t_rows, .ref a_t_kept])), (a_t_rows, .inl (cI, 208, .inl v_t_rows)), (a_t_kept, .inl (cZ, 2, .inl v_t_kept)), (a_p2, .inr (7, [.ref a_p2_row])), (a_p2_row, .inl (cI, 104, .inl o_p2_row))] (KX D cI cZ) (some (.int r)) := by
  refine cM_of (cc := cX1_restore) (maxL := 3) (ret := some .boolean) (by decide +kernel) rfl _ (Nat.le_of_ble_eq_true rfl) ?_
  intro p e s m below meth c ls A S hr hlk hP hK hl hD hA hS
  obtain ⟨hx, hb, hml, hown, hts⟩ := id S
  have hl : lv_has ls 3 [(0, .ref a_t), (1, .int jx1), (2, .ref a_p2)] := hl
  unfold fX1_restore at hf
  refine lv_aload_n hx hb dX1_restore_0 rfl (lv_at hl 0 rfl) ?_
  refine va_get (D := D) (ci := 1) (v := .ref a_t_kept) (C := RX1) (T := TX1) (N := 2) hx hb hts iX1_restore_X1 hown hK.1 hP 0 rfl rfl 1 (by decide) (hts _ mX1_restore_1) (fun _ h9 => h9) rfl dX1_restore_1 ?_
  refine lv_iload_n hx hb dX1_restore_4 rfl (lv_at hl 1 rfl) ?_
  obtain ⟨jh1, hf⟩ := ckI_inv hf
  refine va_zald hx hb hK.1 hP 2 1 rfl rfl jh1 dX1_restore_5 ?_
  refine lv_if_eq (tgt := 18) hx hb dX1_restore_6 (by decide) (fun jc2 => ?_) (fun jc2 => ?_)
  · have hf := ite_t jc2 hf
    refine lv_aload_n hx hb dX1_restore_18 rfl (lv_at hl 0 rfl) ?_
    refine va_get (D := D) (ci := 1) (v := .ref a_t_kept) (C := RX1) (T := TX1) (N := 2) hx hb hts iX1_restore_X1 hown hK.1 hP 0 rfl rfl 1 (by decide) (hts _ mX1_restore_1) (fun _ h9 => h9) rfl dX1_restore_19 ?_
    refine lv_iload_n hx hb dX1_restore_22 rfl (lv_at hl 1 rfl) ?_
    obtain ⟨jh3, hf⟩ := ckI_inv hf
    refine va_zald hx hb hK.1 hP 2 1 rfl rfl jh3 dX1_restore_23 ?_
    obtain ⟨jh4, hf⟩ := zcI_inv hf
    obtain ⟨rfl, rfl⟩ := pr2_inv hf
    exact retMz hx hb hr hlk (nar_z jh4) hP hD hS dX1_restore_24
  · have hf := ite_f jc2 hf
    refine lv_aload_n hx hb dX1_restore_9 rfl (lv_at hl 2 rfl) ?_
    refine lv_aload_n hx hb dX1_restore_10 rfl (lv_at hl 0 rfl) ?_
    refine va_get (D := D) (ci := 1) (v := .ref a_t_rows) (C := RX1) (T := TX1) (N := 2) hx hb hts iX1_restore_X1 hown hK.1 hP 0 rfl rfl 0 (by decide) (hts _ mX1_restore_2) (fun _ h9 => h9) rfl dX1_restore_11 ?_
    refine lv_iload_n hx hb dX1_restore_14 rfl (lv_at hl 1 rfl) ?_
    obtain ⟨jg5, je6, hf⟩ := bd1_inv hf
    refine callMV (As := [.ref a_t_rows, .int jx1]) (rest := []) (wr := [(a_t, .inr (1, [.ref a_t_rows, .ref a_t_kept])), (a_t_kept, .inl (cZ, 2, .inl v_t_kept))]) (wn := [(a_t, .inr (1, [.ref a_t_rows, .ref a_t_kept])), (a_t_rows, .inl (cI, 208, .inl v_t_rows)), (a_t_kept, .inl (cZ, 2, .inl v_t_kept)), (a_p2, .inr (7, [.ref a_p2_row])), (a_p2_row, .inl (cI, 104, .inl jg5))]) S (ctX7_loadFrom l D cI cZ a_p2 a_p2_row a_t_rows 208 jx1 v_p2_row v_t_rows jg5 je6) (cwV 2 hts gX1_restore_X7_loadFrom rfl rfl rfl ⟨rfl, hdX7_loadFrom⟩ ⟨Nat.le_of_ble_eq_true rfl, Nat.le_of_ble_eq_true rfl⟩) hP hD hS hA [3, 4, 1] [0, 2] [0, 4, 1, 2, 3] rfl rfl (by decide) (by decide) (by decide) (by decide) rfl KX.xs (fun U _ hW => hK.warm hW) (va_recv hK.1 hP (ci := 7) (q0 := 3) rfl rfl) rfl hl.1 rfl (Nat.le_of_ble_eq_true rfl) dX1_restore_15 ⟨Nat.zero_le _, Nat.zero_le _⟩ (fun H locs hP hD hS => ?_)
    refine W.eq (g2 := F0 m 18 ls []) rfl ?_
    refine lv_aload_n hx hb dX1_restore_18 rfl (lv_at hl 0 rfl) ?_
    refine va_get (D := D) (ci := 1) (v := .ref a_t_kept) (C := RX1) (T := TX1) (N := 2) hx hb hts iX1_restore_X1 hown hK.1 hP 0 rfl rfl 1 (by decide) (hts _ mX1_restore_1) (fun _ h9 => h9) rfl dX1_restore_19 ?_
    refine lv_iload_n hx hb dX1_restore_22 rfl (lv_at hl 1 rfl) ?_
    obtain ⟨jh7, hf⟩ := ckI_inv hf
    refine va_zald hx hb hK.1 hP 2 1 rfl rfl jh7 dX1_restore_23 ?_
    obtain ⟨jh8, hf⟩ := zcI_inv hf
    obtain ⟨rfl, rfl⟩ := pr2_inv hf
    exact retMz hx hb hr hlk (nar_z jh8) hP hD hS dX1_restore_24
def fX2_append (jx1 : Int32) (v_t_length : Int32) (v_t_letters : (Nat → Int32)) : Option (Int32 × Int32 × (Nat → Int32)) := if v_t_length < (120 : Int32) then ckI 120 v_t_length (some ((1 : Int32), (v_t_length + (1 : Int32)), (upd v_t_letters (Int32.toNatClampNeg v_t_length) jx1))) else some ((0 : Int32), v_t_length, v_t_letters)
abbrev rmX2_append : Room := { frames := 0, cells := 0, slots := 0, locals := 0 }
theorem iX2_append_X2 : ∀ w ∈ wsX20, w ∈ wsX2_append := fun _ h => List.mem_cons_of_mem _ (List.mem_append_right _ h)
theorem mX2_append_1 : (Cond.fieldLink RX2 15 "VoteFiles$Letters" "length" "I") ∈ wsX2_append := List.mem_of_getElem? (i := 1) rfl
theorem mX2_append_2 : (Cond.fieldLink RX2 9 "VoteFiles$Letters" "letters" "[I") ∈ wsX2_append := List.mem_of_getElem? (i := 2) rfl
theorem hdX2_append : yX2_append.cls ≠ "java/lang/invoke/MethodHandle" ∧ yX2_append.cls ≠ "java/lang/invoke/VarHandle" ∧ (parseMethodDescriptor yX2_append.desc).map (fun d => d.parameters.length) = some 1 := by decide +kernel
set_option maxHeartbeats 4000000 in
set_option maxRecDepth 100000 in
theorem ctX2_append (l : Launch) (D : va_G) (cI cZ : ClassId) (a_t a_t_letters : Nat) (jx1 : Int32) (v_t_length : Int32) (v_t_letters : (Nat → Int32)) (r : Int32) (o_t_length : Int32) (o_t_letters : (Nat → Int32)) (hf : fX2_append jx1 v_t_length v_t_letters = some (r, o_t_length, o_t_letters)) : cM l yX2_append wsX2_append rmX2_append [.ref a_t, .int jx1] D [(a_t, .inr (2, [.ref a_t_letters, .int v_t_length])), (a_t_letters, .inl (cI, 120, .inl v_t_letters))] [(a_t, .inr (2, [.ref a_t_letters, .int o_t_length])), (a_t_letters, .inl (cI, 120, .inl o_t_letters))] (KX D cI cZ) (some (.int r)) := by
  refine cM_of (cc := cX2_append) (maxL := 2) (ret := some .boolean) (by decide +kernel) rfl _ (Nat.le_of_ble_eq_true rfl) ?_
  intro p e s m below meth c ls A S hr hlk hP hK hl hD hA hS
  obtain ⟨hx, hb, hml, hown, hts⟩ := id S
  have hl : lv_has ls 2 [(0, .ref a_t), (1, .int jx1)] := hl
  unfold fX2_append at hf
  refine lv_aload_n hx hb dX2_append_0 rfl (lv_at hl 0 rfl) ?_
  refine va_get (D := D) (ci := 2) (v := .int v_t_length) (C := RX2) (T := TX2) (N := 2) hx hb hts iX2_append_X2 hown hK.1 hP 0 rfl rfl 1 (by decide) (hts _ mX2_append_1) (fun _ h9 => h9) rfl dX2_append_1 ?_
  refine lv_bipush (v := 120) hx hb dX2_append_4 (by decide) ?_
  refine lv_icmp_lt (tgt := 11) hx hb dX2_append_6 (by decide) (fun jc1 => ?_) (fun jc1 => ?_)
  · have hf := ite_t jc1 hf
    refine lv_aload_n hx hb dX2_append_11 rfl (lv_at hl 0 rfl) ?_
    refine va_get (D := D) (ci := 2) (v := .ref a_t_letters) (C := RX2) (T := TX2) (N := 2) hx hb hts iX2_append_X2 hown hK.1 hP 0 rfl rfl 0 (by decide) (hts _ mX2_append_2) (fun _ h9 => h9) rfl dX2_append_12 ?_
    refine lv_aload_n hx hb dX2_append_15 rfl (lv_at hl 0 rfl) ?_
    refine va_get (D := D) (ci := 2) (v := .int v_t_length) (C := RX2) (T := TX2) (N := 2) hx hb hts iX2_append_X2 hown hK.1 hP 0 rfl rfl 1 (by decide) (hts _ mX2_append_1) (fun _ h9 => h9) rfl dX2_append_16 ?_
    refine lv_iload_n hx hb dX2_append_19 rfl (lv_at hl 1 rfl) ?_
    obtain ⟨jh2, hf⟩ := ckI_inv hf
    refine va_iast hx hb hK.1 hP hD hS 1 0 rfl rfl jh2 dX2_append_20 (fun H locs hP hD hS => ?_)
    have hP : va_P D vwCl [(a_t, .inr (2, [.ref a_t_letters, .int v_t_length])), (a_t_letters, .inl (cI, 120, .inl (upd v_t_letters (Int32.toNatClampNeg v_t_length) jx1)))] H := hP
    have hD : va_D A [(a_t, .inr (2, [.ref a_t_letters, .int v_t_length])), (a_t_letters, .inl (cI, 120, .inl (upd v_t_letters (Int32.toNatClampNeg v_t_length) jx1)))] := hD
    refine lv_aload_n hx hb dX2_append_21 rfl (lv_at hl 0 rfl) ?_
    refine lv_dup hx hb dX2_append_22 rfl ?_
    refine va_get (D := D) (ci := 2) (v := .int v_t_length) (C := RX2) (T := TX2) (N := 2) hx hb hts iX2_append_X2 hown hK.1 hP 0 rfl rfl 1 (by decide) (hts _ mX2_append_1) (fun _ h9 => h9) rfl dX2_append_23 ?_
    refine lv_iconst (v := 1) hx hb dX2_append_26 (by decide) ?_
    refine lv_iadd hx hb dX2_append_27 ?_
    refine va_put (D := D) (ci := 2) (v := .int (v_t_length + (1 : Int32))) (ty := .int) (C := RX2) (T := TX2) (N := 2) hx hb hts iX2_append_X2 tyX2 tyX2_ok nmX2 hown hK.1 hP hD hS 0 rfl rfl 1 (by decide) (hts _ mX2_append_1) (fun _ h9 => h9) rfl (tyX2_ok 1 (by decide)) rfl rfl (Nat.le_of_ble_eq_true rfl) dX2_append_28 (fun H locs hP hD hS => ?_)
    have hP : va_P D vwCl [(a_t, .inr (2, [.ref a_t_letters, .int (v_t_length + (1 : Int32))])), (a_t_letters, .inl (cI, 120, .inl (upd v_t_letters (Int32.toNatClampNeg v_t_length) jx1)))] H := hP
    have hD : va_D A [(a_t, .inr (2, [.ref a_t_letters, .int (v_t_length + (1 : Int32))])), (a_t_letters, .inl (cI, 120, .inl (upd v_t_letters (Int32.toNatClampNeg v_t_length) jx1)))] := hD
    refine lv_iconst (v := 1) hx hb dX2_append_31 (by decide) ?_
    obtain ⟨rfl, rfl, rfl⟩ := pr3_inv hf
    exact retMz hx hb hr hlk (by decide) hP hD hS dX2_append_32
  · have hf := ite_f jc1 hf
    refine lv_iconst (v := 0) hx hb dX2_append_9 (by decide) ?_
    obtain ⟨rfl, rfl, rfl⟩ := pr3_inv hf
    exact retMz hx hb hr hlk (by decide) hP hD hS dX2_append_10
def fX2_at (jx1 : Int32) (v_t_length : Int32) (v_t_letters : (Nat → Int32)) : Option (Int32) := if jx1 < 0 then some (-9 : Int32) else if v_t_length ≤ jx1 then some (-9 : Int32) else ckI 120 jx1 (some (v_t_letters (Int32.toNatClampNeg jx1)))
abbrev rmX2_at : Room := { frames := 0, cells := 0, slots := 0, locals := 0 }
theorem iX2_at_X2 : ∀ w ∈ wsX20, w ∈ wsX2_at := fun _ h => List.mem_cons_of_mem _ (List.mem_append_right _ h)
theorem mX2_at_1 : (Cond.fieldLink RX2 15 "VoteFiles$Letters" "length" "I") ∈ wsX2_at := List.mem_of_getElem? (i := 1) rfl
theorem mX2_at_2 : (Cond.fieldLink RX2 9 "VoteFiles$Letters" "letters" "[I") ∈ wsX2_at := List.mem_of_getElem? (i := 2) rfl
theorem hdX2_at : yX2_at.cls ≠ "java/lang/invoke/MethodHandle" ∧ yX2_at.cls ≠ "java/lang/invoke/VarHandle" ∧ (parseMethodDescriptor yX2_at.desc).map (fun d => d.parameters.length) = some 1 := by decide +kernel
set_option maxHeartbeats 4000000 in
set_option maxRecDepth 100000 in
theorem ctX2_at (l : Launch) (D : va_G) (cI cZ : ClassId) (a_t a_t_letters : Nat) (jx1 : Int32) (v_t_length : Int32) (v_t_letters : (Nat → Int32)) (r : Int32) (hf : fX2_at jx1 v_t_length v_t_letters = some r) : cR l yX2_at wsX2_at rmX2_at [.ref a_t, .int jx1] D [(a_t, .inr (2, [.ref a_t_letters, .int v_t_length])), (a_t_letters, .inl (cI, 120, .inl v_t_letters))] (KX D cI cZ) r := by
  refine cR_of (cc := cX2_at) (maxL := 2) (ret := some .int) (by decide +kernel) rfl _ (Nat.le_of_ble_eq_true rfl) ?_
  intro p e s m below meth c ls S hr hlk hP hK hl
  obtain ⟨hx, hb, hml, hown, hts⟩ := id S
  have hl : lv_has ls 2 [(0, .ref a_t), (1, .int jx1)] := hl
  unfold fX2_at at hf
  refine lv_iload_n hx hb dX2_at_0 rfl (lv_at hl 1 rfl) ?_
  refine lv_if_lt (tgt := 21) hx hb dX2_at_1 (by decide) (fun jc1 => ?_) (fun jc1 => ?_)
  · have hf := ite_t jc1 hf
    refine lv_bipush (v := -9) hx hb dX2_at_21 (by decide) ?_
    obtain rfl := Option.some.inj hf
    exact retR hx hb hr hlk dX2_at_23
  · have hf := ite_f jc1 hf
    refine lv_iload_n hx hb dX2_at_4 rfl (lv_at hl 1 rfl) ?_
    refine lv_aload_n hx hb dX2_at_5 rfl (lv_at hl 0 rfl) ?_
    refine va_get (D := D) (ci := 2) (v := .int v_t_length) (C := RX2) (T := TX2) (N := 2) hx hb hts iX2_at_X2 hown hK.1 hP 0 rfl rfl 1 (by decide) (hts _ mX2_at_1) (fun _ h9 => h9) rfl dX2_at_6 ?_
    refine lv_icmp_ge (tgt := 21) hx hb dX2_at_9 (by decide) (fun jc2 => ?_) (fun jc2 => ?_)
    · have hf := ite_t jc2 hf
      refine lv_bipush (v := -9) hx hb dX2_at_21 (by decide) ?_
      obtain rfl := Option.some.inj hf
      exact retR hx hb hr hlk dX2_at_23
    · have hf := ite_f jc2 hf
      refine lv_aload_n hx hb dX2_at_12 rfl (lv_at hl 0 rfl) ?_
      refine va_get (D := D) (ci := 2) (v := .ref a_t_letters) (C := RX2) (T := TX2) (N := 2) hx hb hts iX2_at_X2 hown hK.1 hP 0 rfl rfl 0 (by decide) (hts _ mX2_at_2) (fun _ h9 => h9) rfl dX2_at_13 ?_
      refine lv_iload_n hx hb dX2_at_16 rfl (lv_at hl 1 rfl) ?_
      obtain ⟨jh3, hf⟩ := ckI_inv hf
      refine va_iald hx hb hK.1 hP 1 0 rfl rfl jh3 dX2_at_17 ?_
      refine lv_goto (tgt := 23) hx hb dX2_at_18 (by decide) ?_
      obtain rfl := Option.some.inj hf
      exact retR hx hb hr hlk dX2_at_23
def fX3_findValue_2 (v_t_present : Int32) (v_t_latest : Int32) (v_p1_row : (Nat → Int32)) : Nat → Int32 → Int32 → Option (Int32)
  | 0, _, _ => none
  | n + 1, jx2, v_t_value => bd1 (fX7_copies v_p1_row) (fun jr1 => if jr1 ≤ jx2 then some v_t_value else if v_t_value = (-9 : Int32) then if ((v_t_present >>> (jx2 &&& 31)) &&& (1 : Int32)) = (1 : Int32) then bd1 (fX7_versionOf jx2 v_p1_row) (fun jr6 => if jr6 = v_t_latest then bd1 (fX7_valueOf jx2 v_p1_row) (fun jr9 => (fX3_findValue_2 v_t_present v_t_latest v_p1_row n) (jx2 + (1 : Int32)) jr9) else (fX3_findValue_2 v_t_present v_t_latest v_p1_row n) (jx2 + (1 : Int32)) v_t_value) else (fX3_findValue_2 v_t_present v_t_latest v_p1_row n) (jx2 + (1 : Int32)) v_t_value else some v_t_value)
theorem fX3_findValue_2_s (v_t_present : Int32) (v_t_latest : Int32) (v_p1_row : (Nat → Int32)) (n : Nat) (jx2 : Int32) (v_t_value : Int32) : fX3_findValue_2 v_t_present v_t_latest v_p1_row (n + 1) jx2 v_t_value = bd1 (fX7_copies v_p1_row) (fun jr1 => if jr1 ≤ jx2 then some v_t_value else if v_t_value = (-9 : Int32) then if ((v_t_present >>> (jx2 &&& 31)) &&& (1 : Int32)) = (1 : Int32) then bd1 (fX7_versionOf jx2 v_p1_row) (fun jr6 => if jr6 = v_t_latest then bd1 (fX7_valueOf jx2 v_p1_row) (fun jr9 => (fX3_findValue_2 v_t_present v_t_latest v_p1_row n) (jx2 + (1 : Int32)) jr9) else (fX3_findValue_2 v_t_present v_t_latest v_p1_row n) (jx2 + (1 : Int32)) v_t_value) else (fX3_findValue_2 v_t_present v_t_latest v_p1_row n) (jx2 + (1 : Int32)) v_t_value else some v_t_value) := rfl
def fX3_findValue (v_t_present : Int32) (v_t_latest : Int32) (v_t_value : Int32) (v_p1_row : (Nat → Int32)) : Option (Int32) := fX3_findValue_2 v_t_present v_t_latest v_p1_row fuel (0 : Int32) v_t_value
abbrev rmX3_findValue : Room := { frames := 1, cells := 0, slots := 0, locals := 21 }
theorem iX3_findValue_X3 : ∀ w ∈ wsX30, w ∈ wsX3_findValue := fun _ h => List.mem_cons_of_mem _ (List.mem_append_left _ (List.mem_append_right _ h))
theorem mX3_findValue_1 : (Cond.fieldLink RX3 24 "VoteFiles$Meeting" "value" "I") ∈ wsX3_findValue := List.mem_of_getElem? (i := 1) rfl
theorem mX3_findValue_2 : (Cond.fieldLink RX3 9 "VoteFiles$Meeting" "present" "I") ∈ wsX3_findValue := List.mem_of_getElem? (i := 2) rfl
theorem mX3_findValue_3 : (Cond.fieldLink RX3 21 "VoteFiles$Meeting" "latest" "I") ∈ wsX3_findValue := List.mem_of_getElem? (i := 3) rfl
set_option maxHeartbeats 4000000 in
set_option maxRecDepth 100000 in
theorem wX3_findValue_2 {p : Program} {l : Launch} {e : Env} {s : State} {m : MethodId} {args : Array Value} {below : List Frame} {meth : Method} {c : Code} {D : va_G} {cI cZ : ClassId} (S : CallFix p m c cX3_findValue 3 s args wsX3_findValue RX3) (hr : meth.sig.returnType = none) (hlk : meth.locks = false) (hK : KX D cI cZ s) {a_t a_p1 a_p1_row : Nat} {v_t_present : Int32} {v_t_latest : Int32} {v_p1_row : (Nat → Int32)} {v_t_known : Int32} {v_t_votes : Int32} {v_t_read : Int32} {v_t_write : Int32} {o_t_value : Int32} {A : Nat → Prop} (hA : ∀ q : Nat, s.heap.size ≤ q → A q) : ∀ (n : Nat), ∀ (jx2 : Int32) (v_t_value : Int32) (ls : Array Slot) (H : Heap) (locs : List Loc), fX3_findValue_2 v_t_present v_t_latest v_p1_row n jx2 v_t_value = some o_t_value → lv_has ls 3 [(0, .ref a_t), (1, .ref a_p1), (2, .int jx2)] → va_P D vwCl [(a_t, .inr (3, [.int v_t_present, .int v_t_known, .int v_t_votes, .int v_t_latest, .int v_t_value, .int v_t_read, .int v_t_write])), (a_p1, .inr (7, [.ref a_p1_row])), (a_p1_row, .inl (cI, 104, .inl v_p1_row))] H → va_D A [(a_t, .inr (3, [.int v_t_present, .int v_t_known, .int v_t_votes, .int v_t_latest, .int v_t_value, .int v_t_read, .int v_t_write])), (a_p1, .inr (7, [.ref a_p1_row])), (a_p1_row, .inl (cI, 104, .inl v_p1_row))] → va_S A s.heap H locs → W p l e rmX3_findValue s m args below meth c H locs 0 0 (MQ below (qM D none [(a_t, .inr (3, [.int v_t_present, .int v_t_known, .int v_t_votes, .int v_t_latest, .int o_t_value, .int v_t_read, .int v_t_write])), (a_p1, .inr (7, [.ref a_p1_row])), (a_p1_row, .inl (cI, 104, .inl v_p1_row))] A) args s 0 0 A) (F0 m 2 ls []) := by
  obtain ⟨hx, hb, hml, hown, hts⟩ := id S
  intro n
  induction n with
  | zero =>
    intro jx2 v_t_value ls H locs hf hl hP hD hS
    cases (show (none : Option _) = some _ from hf)
  | succ n ih =>
    intro jx2 v_t_value ls H locs hf hl hP hD hS
    have hf := (fX3_findValue_2_s _ _ _ n _ _).symm.trans hf
    refine lv_iload_n hx hb dX3_findValue_2 rfl (lv_at hl 2 rfl) ?_
    refine lv_aload_n hx hb dX3_findValue_3 rfl (lv_at hl 1 rfl) ?_
    obtain ⟨jr1, je2, hf⟩ := bd1_inv hf
    refine callRV (As := []) (rest := [.int jx2]) S (ctX7_copies l D cI cZ a_p1 a_p1_row v_p1_row jr1 je2) (cwV 0 hts gX3_findValue_X7_copies rfl rfl rfl ⟨rfl, hdX7_copies⟩ ⟨Nat.le_of_ble_eq_true rfl, Nat.le_of_ble_eq_true rfl⟩) hP [1, 2] rfl KX.xs (fun U _ hW => hK.warm hW) (va_recv hK.1 hP (ci := 7) (q0 := 1) rfl rfl) rfl hl.1 rfl (Nat.le_of_ble_eq_true rfl) dX3_findValue_4 ⟨Nat.zero_le _, Nat.zero_le _⟩ ?_
    refine lv_icmp_ge (tgt := 58) hx hb dX3_findValue_7 (by decide) (fun jc3 => ?_) (fun jc3 => ?_)
    · have hf := ite_t jc3 hf
      obtain rfl := Option.some.inj hf
      exact retMv hx hb hr hlk hP hD hS dX3_findValue_58
    · have hf := ite_f jc3 hf
      refine lv_aload_n hx hb dX3_findValue_10 rfl (lv_at hl 0 rfl) ?_
      refine va_get (D := D) (ci := 3) (v := .int v_t_value) (C := RX3) (T := TX3) (N := 7) hx hb hts iX3_findValue_X3 hown hK.1 hP 0 rfl rfl 4 (by decide) (hts _ mX3_findValue_1) (fun _ h9 => h9) rfl dX3_findValue_11 ?_
      refine lv_bipush (v := -9) hx hb dX3_findValue_14 (by decide) ?_
      refine lv_icmp_ne (tgt := 58) hx hb dX3_findValue_16 (by decide) (fun jc4 => ?_) (fun jc4 => ?_)
      · have hf := ite_f jc4 hf
        obtain rfl := Option.some.inj hf
        exact retMv hx hb hr hlk hP hD hS dX3_findValue_58
      · have hf := ite_t jc4 hf
        refine lv_aload_n hx hb dX3_findValue_19 rfl (lv_at hl 0 rfl) ?_
        refine va_get (D := D) (ci := 3) (v := .int v_t_present) (C := RX3) (T := TX3) (N := 7) hx hb hts iX3_findValue_X3 hown hK.1 hP 0 rfl rfl 0 (by decide) (hts _ mX3_findValue_2) (fun _ h9 => h9) rfl dX3_findValue_20 ?_
        refine lv_iload_n hx hb dX3_findValue_23 rfl (lv_at hl 2 rfl) ?_
        refine lv_ishr hx hb dX3_findValue_24 ?_
        refine lv_iconst (v := 1) hx hb dX3_findValue_25 (by decide) ?_
        refine lv_iand hx hb dX3_findValue_26 ?_
        refine lv_iconst (v := 1) hx hb dX3_findValue_27 (by decide) ?_
        refine lv_icmp_ne (tgt := 52) hx hb dX3_findValue_28 (by decide) (fun jc5 => ?_) (fun jc5 => ?_)
        · have hf := ite_f jc5 hf
          refine lv_iinc (v := (jx2 + (1 : Int32))) (lv' := [(2, .int (jx2 + (1 : Int32))), (0, .ref a_t), (1, .ref a_p1)]) hx hb dX3_findValue_52 hl (k := 2) rfl rfl (by decide) rfl (fun ls hl => ?_)
          refine lv_goto (tgt := 2) hx hb dX3_findValue_55 (by decide) ?_
          exact ih (jx2 + (1 : Int32)) v_t_value ls _ _ hf (lv_sub hl [1, 2, 0] rfl) hP hD hS
        · have hf := ite_t jc5 hf
          refine lv_aload_n hx hb dX3_findValue_31 rfl (lv_at hl 1 rfl) ?_
          refine lv_iload_n hx hb dX3_findValue_32 rfl (lv_at hl 2 rfl) ?_
          obtain ⟨jr6, je7, hf⟩ := bd1_inv hf
          refine callRV (As := [.int jx2]) (rest := []) S (ctX7_versionOf l D cI cZ a_p1 a_p1_row jx2 v_p1_row jr6 je7) (cwV 1 hts gX3_findValue_X7_versionOf rfl rfl rfl ⟨rfl, hdX7_versionOf⟩ ⟨Nat.le_of_ble_eq_true rfl, Nat.le_of_ble_eq_true rfl⟩) hP [1, 2] rfl KX.xs (fun U _ hW => hK.warm hW) (va_recv hK.1 hP (ci := 7) (q0 := 1) rfl rfl) rfl hl.1 rfl (Nat.le_of_ble_eq_true rfl) dX3_findValue_33 ⟨Nat.zero_le _, Nat.zero_le _⟩ ?_
          refine lv_aload_n hx hb dX3_findValue_36 rfl (lv_at hl 0 rfl) ?_
          refine va_get (D := D) (ci := 3) (v := .int v_t_latest) (C := RX3) (T := TX3) (N := 7) hx hb hts iX3_findValue_X3 hown hK.1 hP 0 rfl rfl 3 (by decide) (hts _ mX3_findValue_3) (fun _ h9 => h9) rfl dX3_findValue_37 ?_
          refine lv_icmp_ne (tgt := 52) hx hb dX3_findValue_40 (by decide) (fun jc8 => ?_) (fun jc8 => ?_)
          · have hf := ite_f jc8 hf
            refine lv_iinc (v := (jx2 + (1 : Int32))) (lv' := [(2, .int (jx2 + (1 : Int32))), (0, .ref a_t), (1, .ref a_p1)]) hx hb dX3_findValue_52 hl (k := 2) rfl rfl (by decide) rfl (fun ls hl => ?_)
            refine lv_goto (tgt := 2) hx hb dX3_findValue_55 (by decide) ?_
            exact ih (jx2 + (1 : Int32)) v_t_value ls _ _ hf (lv_sub hl [1, 2, 0] rfl) hP hD hS
          · have hf := ite_t jc8 hf
            refine lv_aload_n hx hb dX3_findValue_43 rfl (lv_at hl 0 rfl) ?_
            refine lv_aload_n hx hb dX3_findValue_44 rfl (lv_at hl 1 rfl) ?_
            refine lv_iload_n hx hb dX3_findValue_45 rfl (lv_at hl 2 rfl) ?_
            obtain ⟨jr9, je10, hf⟩ := bd1_inv hf
            refine callRV (As := [.int jx2]) (rest := [.ref a_t]) S (ctX7_valueOf l D cI cZ a_p1 a_p1_row jx2 v_p1_row jr9 je10) (cwV 1 hts gX3_findValue_X7_valueOf rfl rfl rfl ⟨rfl, hdX7_valueOf⟩ ⟨Nat.le_of_ble_eq_true rfl, Nat.le_of_ble_eq_true rfl⟩) hP [1, 2] rfl KX.xs (fun U _ hW => hK.warm hW) (va_recv hK.1 hP (ci := 7) (q0 := 1) rfl rfl) rfl hl.1 rfl (Nat.le_of_ble_eq_true rfl) dX3_findValue_46 ⟨Nat.zero_le _, Nat.zero_le _⟩ ?_
            refine va_put (D := D) (ci := 3) (v := .int jr9) (ty := .int) (C := RX3) (T := TX3) (N := 7) hx hb hts iX3_findValue_X3 tyX3 tyX3_ok nmX3 hown hK.1 hP hD hS 0 rfl rfl 4 (by decide) (hts _ mX3_findValue_1) (fun _ h9 => h9) rfl (tyX3_ok 4 (by decide)) rfl rfl (Nat.le_of_ble_eq_true rfl) dX3_findValue_49 (fun H locs hP hD hS => ?_)
            have hP : va_P D vwCl [(a_t, .inr (3, [.int v_t_present, .int v_t_known, .int v_t_votes, .int v_t_latest, .int jr9, .int v_t_read, .int v_t_write])), (a_p1, .inr (7, [.ref a_p1_row])), (a_p1_row, .inl (cI, 104, .inl v_p1_row))] H := hP
            have hD : va_D A [(a_t, .inr (3, [.int v_t_present, .int v_t_known, .int v_t_votes, .int v_t_latest, .int jr9, .int v_t_read, .int v_t_write])), (a_p1, .inr (7, [.ref a_p1_row])), (a_p1_row, .inl (cI, 104, .inl v_p1_row))] := hD
            refine lv_iinc (v := (jx2 + (1 : Int32))) (lv' := [(2, .int (jx2 + (1 : Int32))), (0, .ref a_t), (1, .ref a_p1)]) hx hb dX3_findValue_52 hl (k := 2) rfl rfl (by decide) rfl (fun ls hl => ?_)
            refine lv_goto (tgt := 2) hx hb dX3_findValue_55 (by decide) ?_
            exact ih (jx2 + (1 : Int32)) jr9 ls _ _ hf (lv_sub hl [1, 2, 0] rfl) hP hD hS
theorem hdX3_findValue : yX3_findValue.cls ≠ "java/lang/invoke/MethodHandle" ∧ yX3_findValue.cls ≠ "java/lang/invoke/VarHandle" ∧ (parseMethodDescriptor yX3_findValue.desc).map (fun d => d.parameters.length) = some 1 := by decide +kernel
set_option maxHeartbeats 4000000 in
set_option maxRecDepth 100000 in
theorem ctX3_findValue (l : Launch) (D : va_G) (cI cZ : ClassId) (a_t a_p1 a_p1_row : Nat) (v_t_present : Int32) (v_t_latest : Int32) (v_t_value : Int32) (v_p1_row : (Nat → Int32)) (v_t_known : Int32) (v_t_votes : Int32) (v_t_read : Int32) (v_t_write : Int32) (o_t_value : Int32) (hf : fX3_findValue v_t_present v_t_latest v_t_value v_p1_row = some o_t_value) : cM l yX3_findValue wsX3_findValue rmX3_findValue [.ref a_t, .ref a_p1] D [(a_t, .inr (3, [.int v_t_present, .int v_t_known, .int v_t_votes, .int v_t_latest, .int v_t_value, .int v_t_read, .int v_t_write])), (a_p1, .inr (7, [.ref a_p1_row])), (a_p1_row, .inl (cI, 104, .inl v_p1_row))] [(a_t, .inr (3, [.int v_t_present, .int v_t_known, .int v_t_votes, .int v_t_latest, .int o_t_value, .int v_t_read, .int v_t_write])), (a_p1, .inr (7, [.ref a_p1_row])), (a_p1_row, .inl (cI, 104, .inl v_p1_row))] (KX D cI cZ) none := by
  refine cM_of (cc := cX3_findValue) (maxL := 3) (ret := none) (by decide +kernel) rfl _ (Nat.le_of_ble_eq_true rfl) ?_
  intro p e s m below meth c ls A S hr hlk hP hK hl hD hA hS
  obtain ⟨hx, hb, hml, hown, hts⟩ := id S
  have hl : lv_has ls 3 [(0, .ref a_t), (1, .ref a_p1)] := hl
  unfold fX3_findValue at hf
  refine lv_iconst (v := 0) hx hb dX3_findValue_0 (by decide) ?_
  refine lv_istore_n (lv' := [(2, .int (0 : Int32)), (0, .ref a_t), (1, .ref a_p1)]) hx hb dX3_findValue_1 rfl hl (by decide) rfl (fun ls hl => ?_)
  exact wX3_findValue_2 S hr hlk hK hA fuel (0 : Int32) v_t_value ls _ _ hf (lv_sub hl [1, 2, 0] rfl) hP hD hS
def fX3_look_30 (jx2 : Int32) (v_p1_row : (Nat → Int32)) : Nat → Int32 → Int32 → Int32 → Int32 → Int32 → Int32 → Int32 → Int32 → Option (Int32 × Int32 × Int32 × Int32 × Int32 × Int32 × Int32)
  | 0, _, _, _, _, _, _, _, _ => none
  | n + 1, jx3, v_t_present, v_t_known, v_t_votes, v_t_latest, v_t_value, v_t_read, v_t_write => bd1 (fX7_copies v_p1_row) (fun jr1 => if jr1 ≤ jx3 then if v_t_present = 0 then some (v_t_present, v_t_known, v_t_votes, v_t_latest, v_t_value, v_t_read, v_t_write) else bd1 (fX7_votesOfSet v_t_known v_t_present v_p1_row) (fun jr5 => bd1 (fX7_readOf v_t_known v_p1_row) (fun jr7 => bd1 (fX7_writeOf v_t_known v_p1_row) (fun jr9 => bd1 (fX3_findValue v_t_present v_t_latest v_t_value v_p1_row) (fun jg11 => some (v_t_present, v_t_known, jr5, v_t_latest, jg11, jr7, jr9))))) else bd1 (fX7_isUp jx3 v_p1_row) (fun jr13 => if jr13 = 0 then (fX3_look_30 jx2 v_p1_row n) (jx3 + (1 : Int32)) v_t_present v_t_known v_t_votes v_t_latest v_t_value v_t_read v_t_write else bd1 (fX7_groupOf jx3 v_p1_row) (fun jr16 => if jr16 = jx2 then bd1 (fX7_configurationOf jx3 v_p1_row) (fun jr19 => bd1 (fX7_versionOf jx3 v_p1_row) (fun jr21 => (fX3_look_30 jx2 v_p1_row n) (jx3 + (1 : Int32)) (v_t_present ||| ((1 : Int32) <<< (jx3 &&& 31))) (if v_t_known < jr19 then jr19 else v_t_known) v_t_votes (if v_t_latest < jr21 then jr21 else v_t_latest) v_t_value v_t_read v_t_write)) else (fX3_look_30 jx2 v_p1_row n) (jx3 + (1 : Int32)) v_t_present v_t_known v_t_votes v_t_latest v_t_value v_t_read v_t_write)))
theorem fX3_look_30_s (jx2 : Int32) (v_p1_row : (Nat → Int32)) (n : Nat) (jx3 : Int32) (v_t_present : Int32) (v_t_known : Int32) (v_t_votes : Int32) (v_t_latest : Int32) (v_t_value : Int32) (v_t_read : Int32) (v_t_write : Int32) : fX3_look_30 jx2 v_p1_row (n + 1) jx3 v_t_present v_t_known v_t_votes v_t_latest v_t_value v_t_read v_t_write = bd1 (fX7_copies v_p1_row) (fun jr1 => if jr1 ≤ jx3 then if v_t_present = 0 then some (v_t_present, v_t_known, v_t_votes, v_t_latest, v_t_value, v_t_read, v_t_write) else bd1 (fX7_votesOfSet v_t_known v_t_present v_p1_row) (fun jr5 => bd1 (fX7_readOf v_t_known v_p1_row) (fun jr7 => bd1 (fX7_writeOf v_t_known v_p1_row) (fun jr9 => bd1 (fX3_findValue v_t_present v_t_latest v_t_value v_p1_row) (fun jg11 => some (v_t_present, v_t_known, jr5, v_t_latest, jg11, jr7, jr9))))) else bd1 (fX7_isUp jx3 v_p1_row) (fun jr13 => if jr13 = 0 then (fX3_look_30 jx2 v_p1_row n) (jx3 + (1 : Int32)) v_t_present v_t_known v_t_votes v_t_latest v_t_value v_t_read v_t_write else bd1 (fX7_groupOf jx3 v_p1_row) (fun jr16 => if jr16 = jx2 then bd1 (fX7_configurationOf jx3 v_p1_row) (fun jr19 => bd1 (fX7_versionOf jx3 v_p1_row) (fun jr21 => (fX3_look_30 jx2 v_p1_row n) (jx3 + (1 : Int32)) (v_t_present ||| ((1 : Int32) <<< (jx3 &&& 31))) (if v_t_known < jr19 then jr19 else v_t_known) v_t_votes (if v_t_latest < jr21 then jr21 else v_t_latest) v_t_value v_t_read v_t_write)) else (fX3_look_30 jx2 v_p1_row n) (jx3 + (1 : Int32)) v_t_present v_t_known v_t_votes v_t_latest v_t_value v_t_read v_t_write))) := rfl
def fX3_look (jx2 : Int32) (v_t_present : Int32) (v_t_known : Int32) (v_t_votes : Int32) (v_t_latest : Int32) (v_t_value : Int32) (v_t_read : Int32) (v_t_write : Int32) (v_p1_row : (Nat → Int32)) : Option (Int32 × Int32 × Int32 × Int32 × Int32 × Int32 × Int32) := fX3_look_30 jx2 v_p1_row fuel (0 : Int32) (0 : Int32) (-9 : Int32) (0 : Int32) (-9 : Int32) (-9 : Int32) v_t_read v_t_write
abbrev rmX3_look : Room := { frames := 2, cells := 0, slots := 0, locals := 46 }
theorem iX3_look_X3 : ∀ w ∈ wsX30, w ∈ wsX3_look := fun _ h => List.mem_cons_of_mem _ (List.mem_append_left _ (List.mem_append_right _ h))
theorem mX3_look_1 : (Cond.fieldLink RX3 9 "VoteFiles$Meeting" "present" "I") ∈ wsX3_look := List.mem_of_getElem? (i := 1) rfl
theorem mX3_look_2 : (Cond.fieldLink RX3 15 "VoteFiles$Meeting" "known" "I") ∈ wsX3_look := List.mem_of_getElem? (i := 2) rfl
theorem mX3_look_3 : (Cond.fieldLink RX3 18 "VoteFiles$Meeting" "votes" "I") ∈ wsX3_look := List.mem_of_getElem? (i := 3) rfl
theorem mX3_look_10 : (Cond.fieldLink RX3 27 "VoteFiles$Meeting" "read" "I") ∈ wsX3_look := List.mem_of_getElem? (i := 10) rfl
theorem mX3_look_11 : (Cond.fieldLink RX3 30 "VoteFiles$Meeting" "write" "I") ∈ wsX3_look := List.mem_of_getElem? (i := 11) rfl
theorem mX3_look_6 : (Cond.methodLink RX3 50 Lib.Math.max.name) ∈ wsX3_look := List.mem_of_getElem? (i := 6) rfl
theorem mX3_look_7 : (Cond.static Lib.Math.max.name) ∈ wsX3_look := List.mem_of_getElem? (i := 7) rfl
theorem mX3_look_8 : (Cond.initialized "java/lang/Math") ∈ wsX3_look := List.mem_of_getElem? (i := 8) rfl
theorem mX3_look_9 : (Cond.code Lib.Math.max.name Lib.Math.max.code 2 (some .int)) ∈ wsX3_look := List.mem_of_getElem? (i := 9) rfl
theorem mX3_look_4 : (Cond.fieldLink RX3 21 "VoteFiles$Meeting" "latest" "I") ∈ wsX3_look := List.mem_of_getElem? (i := 4) rfl
theorem mX3_look_5 : (Cond.fieldLink RX3 24 "VoteFiles$Meeting" "value" "I") ∈ wsX3_look := List.mem_of_getElem? (i := 5) rfl
set_option maxHeartbeats 4000000 in
set_option maxRecDepth 100000 in
theorem wX3_look_30 {p : Program} {l : Launch} {e : Env} {s : State} {m : MethodId} {args : Array Value} {below : List Frame} {meth : Method} {c : Code} {D : va_G} {cI cZ : ClassId} (S : CallFix p m c cX3_look 4 s args wsX3_look RX3) (hr : meth.sig.returnType = none) (hlk : meth.locks = false) (hK : KX D cI cZ s) {a_t a_p1 a_p1_row : Nat} {jx2 : Int32} {v_p1_row : (Nat → Int32)} {o_t_present : Int32} {o_t_known : Int32} {o_t_votes : Int32} {o_t_latest : Int32} {o_t_value : Int32} {o_t_read : Int32} {o_t_write : Int32} {A : Nat → Prop} (hA : ∀ q : Nat, s.heap.size ≤ q → A q) : ∀ (n : Nat), ∀ (jx3 : Int32) (v_t_present : Int32) (v_t_known : Int32) (v_t_votes : Int32) (v_t_latest : Int32) (v_t_value : Int32) (v_t_read : Int32) (v_t_write : Int32) (ls : Array Slot) (H : Heap) (locs : List Loc), fX3_look_30 jx2 v_p1_row n jx3 v_t_present v_t_known v_t_votes v_t_latest v_t_value v_t_read v_t_write = some (o_t_present, o_t_known, o_t_votes, o_t_latest, o_t_value, o_t_read, o_t_write) → lv_has ls 4 [(0, .ref a_t), (1, .ref a_p1), (2, .int jx2), (3, .int jx3)] → va_P D vwCl [(a_t, .inr (3, [.int v_t_present, .int v_t_known, .int v_t_votes, .int v_t_latest, .int v_t_value, .int v_t_read, .int v_t_write])), (a_p1, .inr (7, [.ref a_p1_row])), (a_p1_row, .inl (cI, 104, .inl v_p1_row))] H → va_D A [(a_t, .inr (3, [.int v_t_present, .int v_t_known, .int v_t_votes, .int v_t_latest, .int v_t_value, .int v_t_read, .int v_t_write])), (a_p1, .inr (7, [.ref a_p1_row])), (a_p1_row, .inl (cI, 104, .inl v_p1_row))] → va_S A s.heap H locs → W p l e rmX3_look s m args below meth c H locs 0 0 (MQ below (qM D none [(a_t, .inr (3, [.int o_t_present, .int o_t_known, .int o_t_votes, .int o_t_latest, .int o_t_value, .int o_t_read, .int o_t_write])), (a_p1, .inr (7, [.ref a_p1_row])), (a_p1_row, .inl (cI, 104, .inl v_p1_row))] A) args s 0 0 A) (F0 m 30 ls []) := by
  obtain ⟨hx, hb, hml, hown, hts⟩ := id S
  intro n
  induction n with
  | zero =>
    intro jx3 v_t_present v_t_known v_t_votes v_t_latest v_t_value v_t_read v_t_write ls H locs hf hl hP hD hS
    cases (show (none : Option _) = some _ from hf)
  | succ n ih =>
    intro jx3 v_t_present v_t_known v_t_votes v_t_latest v_t_value v_t_read v_t_write ls H locs hf hl hP hD hS
    have hf := (fX3_look_30_s _ _ n _ _ _ _ _ _ _ _).symm.trans hf
    refine lv_iload_n hx hb dX3_look_30 rfl (lv_at hl 3 rfl) ?_
    refine lv_aload_n hx hb dX3_look_31 rfl (lv_at hl 1 rfl) ?_
    obtain ⟨jr1, je2, hf⟩ := bd1_inv hf
    refine callRV (As := []) (rest := [.int jx3]) S (ctX7_copies l D cI cZ a_p1 a_p1_row v_p1_row jr1 je2) (cwV 0 hts gX3_look_X7_copies rfl rfl rfl ⟨rfl, hdX7_copies⟩ ⟨Nat.le_of_ble_eq_true rfl, Nat.le_of_ble_eq_true rfl⟩) hP [1, 2] rfl KX.xs (fun U _ hW => hK.warm hW) (va_recv hK.1 hP (ci := 7) (q0 := 1) rfl rfl) rfl hl.1 rfl (Nat.le_of_ble_eq_true rfl) dX3_look_32 ⟨Nat.zero_le _, Nat.zero_le _⟩ ?_
    refine lv_icmp_ge (tgt := 105) hx hb dX3_look_35 (by decide) (fun jc3 => ?_) (fun jc3 => ?_)
    · have hf := ite_t jc3 hf
      refine lv_aload_n hx hb dX3_look_105 rfl (lv_at hl 0 rfl) ?_
      refine va_get (D := D) (ci := 3) (v := .int v_t_present) (C := RX3) (T := TX3) (N := 7) hx hb hts iX3_look_X3 hown hK.1 hP 0 rfl rfl 0 (by decide) (hts _ mX3_look_1) (fun _ h9 => h9) rfl dX3_look_106 ?_
      refine lv_if_eq (tgt := 157) hx hb dX3_look_109 (by decide) (fun jc4 => ?_) (fun jc4 => ?_)
      · have hf := ite_t jc4 hf
        obtain ⟨rfl, rfl, rfl, rfl, rfl, rfl, rfl⟩ := pr7_inv hf
        exact retMv hx hb hr hlk hP hD hS dX3_look_157
      · have hf := ite_f jc4 hf
        refine lv_aload_n hx hb dX3_look_112 rfl (lv_at hl 0 rfl) ?_
        refine lv_aload_n hx hb dX3_look_113 rfl (lv_at hl 1 rfl) ?_
        refine lv_aload_n hx hb dX3_look_114 rfl (lv_at hl 0 rfl) ?_
        refine va_get (D := D) (ci := 3) (v := .int v_t_known) (C := RX3) (T := TX3) (N := 7) hx hb hts iX3_look_X3 hown hK.1 hP 0 rfl rfl 1 (by decide) (hts _ mX3_look_2) (fun _ h9 => h9) rfl dX3_look_115 ?_
        refine lv_aload_n hx hb dX3_look_118 rfl (lv_at hl 0 rfl) ?_
        refine va_get (D := D) (ci := 3) (v := .int v_t_present) (C := RX3) (T := TX3) (N := 7) hx hb hts iX3_look_X3 hown hK.1 hP 0 rfl rfl 0 (by decide) (hts _ mX3_look_1) (fun _ h9 => h9) rfl dX3_look_119 ?_
        obtain ⟨jr5, je6, hf⟩ := bd1_inv hf
        refine callRV (As := [.int v_t_known, .int v_t_present]) (rest := [.ref a_t]) S (ctX7_votesOfSet l D cI cZ a_p1 a_p1_row v_t_known v_t_present v_p1_row jr5 je6) (cwV 2 hts gX3_look_X7_votesOfSet rfl rfl rfl ⟨rfl, hdX7_votesOfSet⟩ ⟨Nat.le_of_ble_eq_true rfl, Nat.le_of_ble_eq_true rfl⟩) hP [1, 2] rfl KX.xs (fun U _ hW => hK.warm hW) (va_recv hK.1 hP (ci := 7) (q0 := 1) rfl rfl) rfl hl.1 rfl (Nat.le_of_ble_eq_true rfl) dX3_look_122 ⟨Nat.zero_le _, Nat.zero_le _⟩ ?_
        refine va_put (D := D) (ci := 3) (v := .int jr5) (ty := .int) (C := RX3) (T := TX3) (N := 7) hx hb hts iX3_look_X3 tyX3 tyX3_ok nmX3 hown hK.1 hP hD hS 0 rfl rfl 2 (by decide) (hts _ mX3_look_3) (fun _ h9 => h9) rfl (tyX3_ok 2 (by decide)) rfl rfl (Nat.le_of_ble_eq_true rfl) dX3_look_125 (fun H locs hP hD hS => ?_)
        have hP : va_P D vwCl [(a_t, .inr (3, [.int v_t_present, .int v_t_known, .int jr5, .int v_t_latest, .int v_t_value, .int v_t_read, .int v_t_write])), (a_p1, .inr (7, [.ref a_p1_row])), (a_p1_row, .inl (cI, 104, .inl v_p1_row))] H := hP
        have hD : va_D A [(a_t, .inr (3, [.int v_t_present, .int v_t_known, .int jr5, .int v_t_latest, .int v_t_value, .int v_t_read, .int v_t_write])), (a_p1, .inr (7, [.ref a_p1_row])), (a_p1_row, .inl (cI, 104, .inl v_p1_row))] := hD
        refine lv_aload_n hx hb dX3_look_128 rfl (lv_at hl 0 rfl) ?_
        refine lv_aload_n hx hb dX3_look_129 rfl (lv_at hl 1 rfl) ?_
        refine lv_aload_n hx hb dX3_look_130 rfl (lv_at hl 0 rfl) ?_
        refine va_get (D := D) (ci := 3) (v := .int v_t_known) (C := RX3) (T := TX3) (N := 7) hx hb hts iX3_look_X3 hown hK.1 hP 0 rfl rfl 1 (by decide) (hts _ mX3_look_2) (fun _ h9 => h9) rfl dX3_look_131 ?_
        obtain ⟨jr7, je8, hf⟩ := bd1_inv hf
        refine callRV (As := [.int v_t_known]) (rest := [.ref a_t]) S (ctX7_readOf l D cI cZ a_p1 a_p1_row v_t_known v_p1_row jr7 je8) (cwV 1 hts gX3_look_X7_readOf rfl rfl rfl ⟨rfl, hdX7_readOf⟩ ⟨Nat.le_of_ble_eq_true rfl, Nat.le_of_ble_eq_true rfl⟩) hP [1, 2] rfl KX.xs (fun U _ hW => hK.warm hW) (va_recv hK.1 hP (ci := 7) (q0 := 1) rfl rfl) rfl hl.1 rfl (Nat.le_of_ble_eq_true rfl) dX3_look_134 ⟨Nat.zero_le _, Nat.zero_le _⟩ ?_
        refine va_put (D := D) (ci := 3) (v := .int jr7) (ty := .int) (C := RX3) (T := TX3) (N := 7) hx hb hts iX3_look_X3 tyX3 tyX3_ok nmX3 hown hK.1 hP hD hS 0 rfl rfl 5 (by decide) (hts _ mX3_look_10) (fun _ h9 => h9) rfl (tyX3_ok 5 (by decide)) rfl rfl (Nat.le_of_ble_eq_true rfl) dX3_look_137 (fun H locs hP hD hS => ?_)
        have hP : va_P D vwCl [(a_t, .inr (3, [.int v_t_present, .int v_t_known, .int jr5, .int v_t_latest, .int v_t_value, .int jr7, .int v_t_write])), (a_p1, .inr (7, [.ref a_p1_row])), (a_p1_row, .inl (cI, 104, .inl v_p1_row))] H := hP
        have hD : va_D A [(a_t, .inr (3, [.int v_t_present, .int v_t_known, .int jr5, .int v_t_latest, .int v_t_value, .int jr7, .int v_t_write])), (a_p1, .inr (7, [.ref a_p1_row])), (a_p1_row, .inl (cI, 104, .inl v_p1_row))] := hD
        refine lv_aload_n hx hb dX3_look_140 rfl (lv_at hl 0 rfl) ?_
        refine lv_aload_n hx hb dX3_look_141 rfl (lv_at hl 1 rfl) ?_
        refine lv_aload_n hx hb dX3_look_142 rfl (lv_at hl 0 rfl) ?_
        refine va_get (D := D) (ci := 3) (v := .int v_t_known) (C := RX3) (T := TX3) (N := 7) hx hb hts iX3_look_X3 hown hK.1 hP 0 rfl rfl 1 (by decide) (hts _ mX3_look_2) (fun _ h9 => h9) rfl dX3_look_143 ?_
        obtain ⟨jr9, je10, hf⟩ := bd1_inv hf
        refine callRV (As := [.int v_t_known]) (rest := [.ref a_t]) S (ctX7_writeOf l D cI cZ a_p1 a_p1_row v_t_known v_p1_row jr9 je10) (cwV 1 hts gX3_look_X7_writeOf rfl rfl rfl ⟨rfl, hdX7_writeOf⟩ ⟨Nat.le_of_ble_eq_true rfl, Nat.le_of_ble_eq_true rfl⟩) hP [1, 2] rfl KX.xs (fun U _ hW => hK.warm hW) (va_recv hK.1 hP (ci := 7) (q0 := 1) rfl rfl) rfl hl.1 rfl (Nat.le_of_ble_eq_true rfl) dX3_look_146 ⟨Nat.zero_le _, Nat.zero_le _⟩ ?_
        refine va_put (D := D) (ci := 3) (v := .int jr9) (ty := .int) (C := RX3) (T := TX3) (N := 7) hx hb hts iX3_look_X3 tyX3 tyX3_ok nmX3 hown hK.1 hP hD hS 0 rfl rfl 6 (by decide) (hts _ mX3_look_11) (fun _ h9 => h9) rfl (tyX3_ok 6 (by decide)) rfl rfl (Nat.le_of_ble_eq_true rfl) dX3_look_149 (fun H locs hP hD hS => ?_)
        have hP : va_P D vwCl [(a_t, .inr (3, [.int v_t_present, .int v_t_known, .int jr5, .int v_t_latest, .int v_t_value, .int jr7, .int jr9])), (a_p1, .inr (7, [.ref a_p1_row])), (a_p1_row, .inl (cI, 104, .inl v_p1_row))] H := hP
        have hD : va_D A [(a_t, .inr (3, [.int v_t_present, .int v_t_known, .int jr5, .int v_t_latest, .int v_t_value, .int jr7, .int jr9])), (a_p1, .inr (7, [.ref a_p1_row])), (a_p1_row, .inl (cI, 104, .inl v_p1_row))] := hD
        refine lv_aload_n hx hb dX3_look_152 rfl (lv_at hl 0 rfl) ?_
        refine lv_aload_n hx hb dX3_look_153 rfl (lv_at hl 1 rfl) ?_
        obtain ⟨jg11, je12, hf⟩ := bd1_inv hf
        refine callMV (As := [.ref a_p1]) (rest := []) (wr := []) (wn := [(a_t, .inr (3, [.int v_t_present, .int v_t_known, .int jr5, .int v_t_latest, .int jg11, .int jr7, .int jr9])), (a_p1, .inr (7, [.ref a_p1_row])), (a_p1_row, .inl (cI, 104, .inl v_p1_row))]) S (ctX3_findValue l D cI cZ a_t a_p1 a_p1_row v_t_present v_t_latest v_t_value v_p1_row v_t_known jr5 jr7 jr9 jg11 je12) (cwV 1 hts gX3_look_X3_findValue rfl rfl rfl ⟨rfl, hdX3_findValue⟩ ⟨Nat.le_of_ble_eq_true rfl, Nat.le_of_ble_eq_true rfl⟩) hP hD hS hA [0, 1, 2] [] [0, 1, 2] rfl rfl (by decide) (by decide) (by decide) (by decide) rfl KX.xs (fun U _ hW => hK.warm hW) (va_recv hK.1 hP (ci := 3) (q0 := 0) rfl rfl) rfl hl.1 rfl (Nat.le_of_ble_eq_true rfl) dX3_look_154 ⟨Nat.zero_le _, Nat.zero_le _⟩ (fun H locs hP hD hS => ?_)
        refine W.eq (g2 := F0 m 157 ls []) rfl ?_
        obtain ⟨rfl, rfl, rfl, rfl, rfl, rfl, rfl⟩ := pr7_inv hf
        exact retMv hx hb hr hlk hP hD hS dX3_look_157
    · have hf := ite_f jc3 hf
      refine lv_aload_n hx hb dX3_look_38 rfl (lv_at hl 1 rfl) ?_
      refine lv_iload_n hx hb dX3_look_39 rfl (lv_at hl 3 rfl) ?_
      obtain ⟨jr13, je14, hf⟩ := bd1_inv hf
      refine callRV (As := [.int jx3]) (rest := []) S (ctX7_isUp l D cI cZ a_p1 a_p1_row jx3 v_p1_row jr13 je14) (cwV 1 hts gX3_look_X7_isUp rfl rfl rfl ⟨rfl, hdX7_isUp⟩ ⟨Nat.le_of_ble_eq_true rfl, Nat.le_of_ble_eq_true rfl⟩) hP [1, 2] rfl KX.xs (fun U _ hW => hK.warm hW) (va_recv hK.1 hP (ci := 7) (q0 := 1) rfl rfl) rfl hl.1 rfl (Nat.le_of_ble_eq_true rfl) dX3_look_40 ⟨Nat.zero_le _, Nat.zero_le _⟩ ?_
      refine lv_if_eq (tgt := 99) hx hb dX3_look_43 (by decide) (fun jc15 => ?_) (fun jc15 => ?_)
      · have hf := ite_t jc15 hf
        refine lv_iinc (v := (jx3 + (1 : Int32))) (lv' := [(3, .int (jx3 + (1 : Int32))), (0, .ref a_t), (1, .ref a_p1), (2, .int jx2)]) hx hb dX3_look_99 hl (k := 3) rfl rfl (by decide) rfl (fun ls hl => ?_)
        refine lv_goto (tgt := 30) hx hb dX3_look_102 (by decide) ?_
        exact ih (jx3 + (1 : Int32)) v_t_present v_t_known v_t_votes v_t_latest v_t_value v_t_read v_t_write ls _ _ hf (lv_sub hl [1, 2, 3, 0] rfl) hP hD hS
      · have hf := ite_f jc15 hf
        refine lv_aload_n hx hb dX3_look_46 rfl (lv_at hl 1 rfl) ?_
        refine lv_iload_n hx hb dX3_look_47 rfl (lv_at hl 3 rfl) ?_
        obtain ⟨jr16, je17, hf⟩ := bd1_inv hf
        refine callRV (As := [.int jx3]) (rest := []) S (ctX7_groupOf l D cI cZ a_p1 a_p1_row jx3 v_p1_row jr16 je17) (cwV 1 hts gX3_look_X7_groupOf rfl rfl rfl ⟨rfl, hdX7_groupOf⟩ ⟨Nat.le_of_ble_eq_true rfl, Nat.le_of_ble_eq_true rfl⟩) hP [1, 2] rfl KX.xs (fun U _ hW => hK.warm hW) (va_recv hK.1 hP (ci := 7) (q0 := 1) rfl rfl) rfl hl.1 rfl (Nat.le_of_ble_eq_true rfl) dX3_look_48 ⟨Nat.zero_le _, Nat.zero_le _⟩ ?_
        refine lv_iload_n hx hb dX3_look_51 rfl (lv_at hl 2 rfl) ?_
        refine lv_icmp_ne (tgt := 99) hx hb dX3_look_52 (by decide) (fun jc18 => ?_) (fun jc18 => ?_)
        · have hf := ite_f jc18 hf
          refine lv_iinc (v := (jx3 + (1 : Int32))) (lv' := [(3, .int (jx3 + (1 : Int32))), (0, .ref a_t), (1, .ref a_p1), (2, .int jx2)]) hx hb dX3_look_99 hl (k := 3) rfl rfl (by decide) rfl (fun ls hl => ?_)
          refine lv_goto (tgt := 30) hx hb dX3_look_102 (by decide) ?_
          exact ih (jx3 + (1 : Int32)) v_t_present v_t_known v_t_votes v_t_latest v_t_value v_t_read v_t_write ls _ _ hf (lv_sub hl [1, 2, 3, 0] rfl) hP hD hS
        · have hf := ite_t jc18 hf
          refine lv_aload_n hx hb dX3_look_55 rfl (lv_at hl 0 rfl) ?_
          refine lv_dup hx hb dX3_look_56 rfl ?_
          refine va_get (D := D) (ci := 3) (v := .int v_t_present) (C := RX3) (T := TX3) (N := 7) hx hb hts iX3_look_X3 hown hK.1 hP 0 rfl rfl 0 (by decide) (hts _ mX3_look_1) (fun _ h9 => h9) rfl dX3_look_57 ?_
          refine lv_iconst (v := 1) hx hb dX3_look_60 (by decide) ?_
          refine lv_iload_n hx hb dX3_look_61 rfl (lv_at hl 3 rfl) ?_
          refine lv_ishl hx hb dX3_look_62 ?_
          refine lv_ior hx hb dX3_look_63 ?_
          refine va_put (D := D) (ci := 3) (v := .int (v_t_present ||| ((1 : Int32) <<< (jx3 &&& 31)))) (ty := .int) (C := RX3) (T := TX3) (N := 7) hx hb hts iX3_look_X3 tyX3 tyX3_ok nmX3 hown hK.1 hP hD hS 0 rfl rfl 0 (by decide) (hts _ mX3_look_1) (fun _ h9 => h9) rfl (tyX3_ok 0 (by decide)) rfl rfl (Nat.le_of_ble_eq_true rfl) dX3_look_64 (fun H locs hP hD hS => ?_)
          have hP : va_P D vwCl [(a_t, .inr (3, [.int (v_t_present ||| ((1 : Int32) <<< (jx3 &&& 31))), .int v_t_known, .int v_t_votes, .int v_t_latest, .int v_t_value, .int v_t_read, .int v_t_write])), (a_p1, .inr (7, [.ref a_p1_row])), (a_p1_row, .inl (cI, 104, .inl v_p1_row))] H := hP
          have hD : va_D A [(a_t, .inr (3, [.int (v_t_present ||| ((1 : Int32) <<< (jx3 &&& 31))), .int v_t_known, .int v_t_votes, .int v_t_latest, .int v_t_value, .int v_t_read, .int v_t_write])), (a_p1, .inr (7, [.ref a_p1_row])), (a_p1_row, .inl (cI, 104, .inl v_p1_row))] := hD
          refine lv_aload_n hx hb dX3_look_67 rfl (lv_at hl 0 rfl) ?_
          refine lv_aload_n hx hb dX3_look_68 rfl (lv_at hl 0 rfl) ?_
          refine va_get (D := D) (ci := 3) (v := .int v_t_known) (C := RX3) (T := TX3) (N := 7) hx hb hts iX3_look_X3 hown hK.1 hP 0 rfl rfl 1 (by decide) (hts _ mX3_look_2) (fun _ h9 => h9) rfl dX3_look_69 ?_
          refine lv_aload_n hx hb dX3_look_72 rfl (lv_at hl 1 rfl) ?_
          refine lv_iload_n hx hb dX3_look_73 rfl (lv_at hl 3 rfl) ?_
          obtain ⟨jr19, je20, hf⟩ := bd1_inv hf
          refine callRV (As := [.int jx3]) (rest := [.int v_t_known, .ref a_t]) S (ctX7_configurationOf l D cI cZ a_p1 a_p1_row jx3 v_p1_row jr19 je20) (cwV 1 hts gX3_look_X7_configurationOf rfl rfl rfl ⟨rfl, hdX7_configurationOf⟩ ⟨Nat.le_of_ble_eq_true rfl, Nat.le_of_ble_eq_true rfl⟩) hP [1, 2] rfl KX.xs (fun U _ hW => hK.warm hW) (va_recv hK.1 hP (ci := 7) (q0 := 1) rfl rfl) rfl hl.1 rfl (Nat.le_of_ble_eq_true rfl) dX3_look_74 ⟨Nat.zero_le _, Nat.zero_le _⟩ ?_
          refine va_mmax hx hb (hml.trans hl.1.symm) hown (hts _ mX3_look_6) (hts _ mX3_look_7) (hts _ mX3_look_8) (hts _ mX3_look_9) (Nat.le_of_ble_eq_true rfl) (Nat.le_of_ble_eq_true rfl) (Nat.zero_le _) (Nat.zero_le _) dX3_look_77 ?_
          refine va_put (D := D) (ci := 3) (v := .int (if v_t_known < jr19 then jr19 else v_t_known)) (ty := .int) (C := RX3) (T := TX3) (N := 7) hx hb hts iX3_look_X3 tyX3 tyX3_ok nmX3 hown hK.1 hP hD hS 0 rfl rfl 1 (by decide) (hts _ mX3_look_2) (fun _ h9 => h9) rfl (tyX3_ok 1 (by decide)) rfl rfl (Nat.le_of_ble_eq_true rfl) dX3_look_80 (fun H locs hP hD hS => ?_)
          have hP : va_P D vwCl [(a_t, .inr (3, [.int (v_t_present ||| ((1 : Int32) <<< (jx3 &&& 31))), .int (if v_t_known < jr19 then jr19 else v_t_known), .int v_t_votes, .int v_t_latest, .int v_t_value, .int v_t_read, .int v_t_write])), (a_p1, .inr (7, [.ref a_p1_row])), (a_p1_row, .inl (cI, 104, .inl v_p1_row))] H := hP
          have hD : va_D A [(a_t, .inr (3, [.int (v_t_present ||| ((1 : Int32) <<< (jx3 &&& 31))), .int (if v_t_known < jr19 then jr19 else v_t_known), .int v_t_votes, .int v_t_latest, .int v_t_value, .int v_t_read, .int v_t_write])), (a_p1, .inr (7, [.ref a_p1_row])), (a_p1_row, .inl (cI, 104, .inl v_p1_row))] := hD
          refine lv_aload_n hx hb dX3_look_83 rfl (lv_at hl 0 rfl) ?_
          refine lv_aload_n hx hb dX3_look_84 rfl (lv_at hl 0 rfl) ?_
          refine va_get (D := D) (ci := 3) (v := .int v_t_latest) (C := RX3) (T := TX3) (N := 7) hx hb hts iX3_look_X3 hown hK.1 hP 0 rfl rfl 3 (by decide) (hts _ mX3_look_4) (fun _ h9 => h9) rfl dX3_look_85 ?_
          refine lv_aload_n hx hb dX3_look_88 rfl (lv_at hl 1 rfl) ?_
          refine lv_iload_n hx hb dX3_look_89 rfl (lv_at hl 3 rfl) ?_
          obtain ⟨jr21, je22, hf⟩ := bd1_inv hf
          refine callRV (As := [.int jx3]) (rest := [.int v_t_latest, .ref a_t]) S (ctX7_versionOf l D cI cZ a_p1 a_p1_row jx3 v_p1_row jr21 je22) (cwV 1 hts gX3_look_X7_versionOf rfl rfl rfl ⟨rfl, hdX7_versionOf⟩ ⟨Nat.le_of_ble_eq_true rfl, Nat.le_of_ble_eq_true rfl⟩) hP [1, 2] rfl KX.xs (fun U _ hW => hK.warm hW) (va_recv hK.1 hP (ci := 7) (q0 := 1) rfl rfl) rfl hl.1 rfl (Nat.le_of_ble_eq_true rfl) dX3_look_90 ⟨Nat.zero_le _, Nat.zero_le _⟩ ?_
          refine va_mmax hx hb (hml.trans hl.1.symm) hown (hts _ mX3_look_6) (hts _ mX3_look_7) (hts _ mX3_look_8) (hts _ mX3_look_9) (Nat.le_of_ble_eq_true rfl) (Nat.le_of_ble_eq_true rfl) (Nat.zero_le _) (Nat.zero_le _) dX3_look_93 ?_
          refine va_put (D := D) (ci := 3) (v := .int (if v_t_latest < jr21 then jr21 else v_t_latest)) (ty := .int) (C := RX3) (T := TX3) (N := 7) hx hb hts iX3_look_X3 tyX3 tyX3_ok nmX3 hown hK.1 hP hD hS 0 rfl rfl 3 (by decide) (hts _ mX3_look_4) (fun _ h9 => h9) rfl (tyX3_ok 3 (by decide)) rfl rfl (Nat.le_of_ble_eq_true rfl) dX3_look_96 (fun H locs hP hD hS => ?_)
          have hP : va_P D vwCl [(a_t, .inr (3, [.int (v_t_present ||| ((1 : Int32) <<< (jx3 &&& 31))), .int (if v_t_known < jr19 then jr19 else v_t_known), .int v_t_votes, .int (if v_t_latest < jr21 then jr21 else v_t_latest), .int v_t_value, .int v_t_read, .int v_t_write])), (a_p1, .inr (7, [.ref a_p1_row])), (a_p1_row, .inl (cI, 104, .inl v_p1_row))] H := hP
          have hD : va_D A [(a_t, .inr (3, [.int (v_t_present ||| ((1 : Int32) <<< (jx3 &&& 31))), .int (if v_t_known < jr19 then jr19 else v_t_known), .int v_t_votes, .int (if v_t_latest < jr21 then jr21 else v_t_latest), .int v_t_value, .int v_t_read, .int v_t_write])), (a_p1, .inr (7, [.ref a_p1_row])), (a_p1_row, .inl (cI, 104, .inl v_p1_row))] := hD
          refine lv_iinc (v := (jx3 + (1 : Int32))) (lv' := [(3, .int (jx3 + (1 : Int32))), (0, .ref a_t), (1, .ref a_p1), (2, .int jx2)]) hx hb dX3_look_99 hl (k := 3) rfl rfl (by decide) rfl (fun ls hl => ?_)
          refine lv_goto (tgt := 30) hx hb dX3_look_102 (by decide) ?_
          exact ih (jx3 + (1 : Int32)) (v_t_present ||| ((1 : Int32) <<< (jx3 &&& 31))) (if v_t_known < jr19 then jr19 else v_t_known) v_t_votes (if v_t_latest < jr21 then jr21 else v_t_latest) v_t_value v_t_read v_t_write ls _ _ hf (lv_sub hl [1, 2, 3, 0] rfl) hP hD hS
theorem hdX3_look : yX3_look.cls ≠ "java/lang/invoke/MethodHandle" ∧ yX3_look.cls ≠ "java/lang/invoke/VarHandle" ∧ (parseMethodDescriptor yX3_look.desc).map (fun d => d.parameters.length) = some 2 := by decide +kernel
set_option maxHeartbeats 4000000 in
set_option maxRecDepth 100000 in
theorem ctX3_look (l : Launch) (D : va_G) (cI cZ : ClassId) (a_t a_p1 a_p1_row : Nat) (jx2 : Int32) (v_t_present : Int32) (v_t_known : Int32) (v_t_votes : Int32) (v_t_latest : Int32) (v_t_value : Int32) (v_t_read : Int32) (v_t_write : Int32) (v_p1_row : (Nat → Int32)) (o_t_present : Int32) (o_t_known : Int32) (o_t_votes : Int32) (o_t_latest : Int32) (o_t_value : Int32) (o_t_read : Int32) (o_t_write : Int32) (hf : fX3_look jx2 v_t_present v_t_known v_t_votes v_t_latest v_t_value v_t_read v_t_write v_p1_row = some (o_t_present, o_t_known, o_t_votes, o_t_latest, o_t_value, o_t_read, o_t_write)) : cM l yX3_look wsX3_look rmX3_look [.ref a_t, .ref a_p1, .int jx2] D [(a_t, .inr (3, [.int v_t_present, .int v_t_known, .int v_t_votes, .int v_t_latest, .int v_t_value, .int v_t_read, .int v_t_write])), (a_p1, .inr (7, [.ref a_p1_row])), (a_p1_row, .inl (cI, 104, .inl v_p1_row))] [(a_t, .inr (3, [.int o_t_present, .int o_t_known, .int o_t_votes, .int o_t_latest, .int o_t_value, .int o_t_read, .int o_t_write])), (a_p1, .inr (7, [.ref a_p1_row])), (a_p1_row, .inl (cI, 104, .inl v_p1_row))] (KX D cI cZ) none := by
  refine cM_of (cc := cX3_look) (maxL := 4) (ret := none) (by decide +kernel) rfl _ (Nat.le_of_ble_eq_true rfl) ?_
  intro p e s m below meth c ls A S hr hlk hP hK hl hD hA hS
  obtain ⟨hx, hb, hml, hown, hts⟩ := id S
  have hl : lv_has ls 4 [(0, .ref a_t), (1, .ref a_p1), (2, .int jx2)] := hl
  unfold fX3_look at hf
  refine lv_aload_n hx hb dX3_look_0 rfl (lv_at hl 0 rfl) ?_
  refine lv_iconst (v := 0) hx hb dX3_look_1 (by decide) ?_
  refine va_put (D := D) (ci := 3) (v := .int (0 : Int32)) (ty := .int) (C := RX3) (T := TX3) (N := 7) hx hb hts iX3_look_X3 tyX3 tyX3_ok nmX3 hown hK.1 hP hD hS 0 rfl rfl 0 (by decide) (hts _ mX3_look_1) (fun _ h9 => h9) rfl (tyX3_ok 0 (by decide)) rfl rfl (Nat.le_of_ble_eq_true rfl) dX3_look_2 (fun H locs hP hD hS => ?_)
  have hP : va_P D vwCl [(a_t, .inr (3, [.int (0 : Int32), .int v_t_known, .int v_t_votes, .int v_t_latest, .int v_t_value, .int v_t_read, .int v_t_write])), (a_p1, .inr (7, [.ref a_p1_row])), (a_p1_row, .inl (cI, 104, .inl v_p1_row))] H := hP
  have hD : va_D A [(a_t, .inr (3, [.int (0 : Int32), .int v_t_known, .int v_t_votes, .int v_t_latest, .int v_t_value, .int v_t_read, .int v_t_write])), (a_p1, .inr (7, [.ref a_p1_row])), (a_p1_row, .inl (cI, 104, .inl v_p1_row))] := hD
  refine lv_aload_n hx hb dX3_look_5 rfl (lv_at hl 0 rfl) ?_
  refine lv_bipush (v := -9) hx hb dX3_look_6 (by decide) ?_
  refine va_put (D := D) (ci := 3) (v := .int (-9 : Int32)) (ty := .int) (C := RX3) (T := TX3) (N := 7) hx hb hts iX3_look_X3 tyX3 tyX3_ok nmX3 hown hK.1 hP hD hS 0 rfl rfl 1 (by decide) (hts _ mX3_look_2) (fun _ h9 => h9) rfl (tyX3_ok 1 (by decide)) rfl rfl (Nat.le_of_ble_eq_true rfl) dX3_look_8 (fun H locs hP hD hS => ?_)
  have hP : va_P D vwCl [(a_t, .inr (3, [.int (0 : Int32), .int (-9 : Int32), .int v_t_votes, .int v_t_latest, .int v_t_value, .int v_t_read, .int v_t_write])), (a_p1, .inr (7, [.ref a_p1_row])), (a_p1_row, .inl (cI, 104, .inl v_p1_row))] H := hP
  have hD : va_D A [(a_t, .inr (3, [.int (0 : Int32), .int (-9 : Int32), .int v_t_votes, .int v_t_latest, .int v_t_value, .int v_t_read, .int v_t_write])), (a_p1, .inr (7, [.ref a_p1_row])), (a_p1_row, .inl (cI, 104, .inl v_p1_row))] := hD
  refine lv_aload_n hx hb dX3_look_11 rfl (lv_at hl 0 rfl) ?_
  refine lv_iconst (v := 0) hx hb dX3_look_12 (by decide) ?_
  refine va_put (D := D) (ci := 3) (v := .int (0 : Int32)) (ty := .int) (C := RX3) (T := TX3) (N := 7) hx hb hts iX3_look_X3 tyX3 tyX3_ok nmX3 hown hK.1 hP hD hS 0 rfl rfl 2 (by decide) (hts _ mX3_look_3) (fun _ h9 => h9) rfl (tyX3_ok 2 (by decide)) rfl rfl (Nat.le_of_ble_eq_true rfl) dX3_look_13 (fun H locs hP hD hS => ?_)
  have hP : va_P D vwCl [(a_t, .inr (3, [.int (0 : Int32), .int (-9 : Int32), .int (0 : Int32), .int v_t_latest, .int v_t_value, .int v_t_read, .int v_t_write])), (a_p1, .inr (7, [.ref a_p1_row])), (a_p1_row, .inl (cI, 104, .inl v_p1_row))] H := hP
  have hD : va_D A [(a_t, .inr (3, [.int (0 : Int32), .int (-9 : Int32), .int (0 : Int32), .int v_t_latest, .int v_t_value, .int v_t_read, .int v_t_write])), (a_p1, .inr (7, [.ref a_p1_row])), (a_p1_row, .inl (cI, 104, .inl v_p1_row))] := hD
  refine lv_aload_n hx hb dX3_look_16 rfl (lv_at hl 0 rfl) ?_
  refine lv_bipush (v := -9) hx hb dX3_look_17 (by decide) ?_
  refine va_put (D := D) (ci := 3) (v := .int (-9 : Int32)) (ty := .int) (C := RX3) (T := TX3) (N := 7) hx hb hts iX3_look_X3 tyX3 tyX3_ok nmX3 hown hK.1 hP hD hS 0 rfl rfl 3 (by decide) (hts _ mX3_look_4) (fun _ h9 => h9) rfl (tyX3_ok 3 (by decide)) rfl rfl (Nat.le_of_ble_eq_true rfl) dX3_look_19 (fun H locs hP hD hS => ?_)
  have hP : va_P D vwCl [(a_t, .inr (3, [.int (0 : Int32), .int (-9 : Int32), .int (0 : Int32), .int (-9 : Int32), .int v_t_value, .int v_t_read, .int v_t_write])), (a_p1, .inr (7, [.ref a_p1_row])), (a_p1_row, .inl (cI, 104, .inl v_p1_row))] H := hP
  have hD : va_D A [(a_t, .inr (3, [.int (0 : Int32), .int (-9 : Int32), .int (0 : Int32), .int (-9 : Int32), .int v_t_value, .int v_t_read, .int v_t_write])), (a_p1, .inr (7, [.ref a_p1_row])), (a_p1_row, .inl (cI, 104, .inl v_p1_row))] := hD
  refine lv_aload_n hx hb dX3_look_22 rfl (lv_at hl 0 rfl) ?_
  refine lv_bipush (v := -9) hx hb dX3_look_23 (by decide) ?_
  refine va_put (D := D) (ci := 3) (v := .int (-9 : Int32)) (ty := .int) (C := RX3) (T := TX3) (N := 7) hx hb hts iX3_look_X3 tyX3 tyX3_ok nmX3 hown hK.1 hP hD hS 0 rfl rfl 4 (by decide) (hts _ mX3_look_5) (fun _ h9 => h9) rfl (tyX3_ok 4 (by decide)) rfl rfl (Nat.le_of_ble_eq_true rfl) dX3_look_25 (fun H locs hP hD hS => ?_)
  have hP : va_P D vwCl [(a_t, .inr (3, [.int (0 : Int32), .int (-9 : Int32), .int (0 : Int32), .int (-9 : Int32), .int (-9 : Int32), .int v_t_read, .int v_t_write])), (a_p1, .inr (7, [.ref a_p1_row])), (a_p1_row, .inl (cI, 104, .inl v_p1_row))] H := hP
  have hD : va_D A [(a_t, .inr (3, [.int (0 : Int32), .int (-9 : Int32), .int (0 : Int32), .int (-9 : Int32), .int (-9 : Int32), .int v_t_read, .int v_t_write])), (a_p1, .inr (7, [.ref a_p1_row])), (a_p1_row, .inl (cI, 104, .inl v_p1_row))] := hD
  refine lv_iconst (v := 0) hx hb dX3_look_28 (by decide) ?_
  refine lv_istore_n (lv' := [(3, .int (0 : Int32)), (0, .ref a_t), (1, .ref a_p1), (2, .int jx2)]) hx hb dX3_look_29 rfl hl (by decide) rfl (fun ls hl => ?_)
  exact wX3_look_30 S hr hlk hK hA fuel (0 : Int32) (0 : Int32) (-9 : Int32) (0 : Int32) (-9 : Int32) (-9 : Int32) v_t_read v_t_write ls _ _ hf (lv_sub hl [1, 2, 3, 0] rfl) hP hD hS
def fX3_refusal (jx1 : Int32) (jx2 : Int32) (v_t_present : Int32) (v_t_votes : Int32) (v_t_value : Int32) : Option (Int32) := if v_t_present = 0 then some (-4 : Int32) else if jx1 ≤ v_t_votes then if jx2 = 0 then some (0 : Int32) else if v_t_value = (-9 : Int32) then some (-5 : Int32) else some (0 : Int32) else some (-4 : Int32)
abbrev rmX3_refusal : Room := { frames := 0, cells := 0, slots := 0, locals := 0 }
theorem iX3_refusal_X3 : ∀ w ∈ wsX30, w ∈ wsX3_refusal := fun _ h => List.mem_cons_of_mem _ (List.mem_append_right _ h)
theorem mX3_refusal_1 : (Cond.fieldLink RX3 9 "VoteFiles$Meeting" "present" "I") ∈ wsX3_refusal := List.mem_of_getElem? (i := 1) rfl
theorem mX3_refusal_2 : (Cond.fieldLink RX3 18 "VoteFiles$Meeting" "votes" "I") ∈ wsX3_refusal := List.mem_of_getElem? (i := 2) rfl
theorem mX3_refusal_3 : (Cond.fieldLink RX3 24 "VoteFiles$Meeting" "value" "I") ∈ wsX3_refusal := List.mem_of_getElem? (i := 3) rfl
theorem hdX3_refusal : yX3_refusal.cls ≠ "java/lang/invoke/MethodHandle" ∧ yX3_refusal.cls ≠ "java/lang/invoke/VarHandle" ∧ (parseMethodDescriptor yX3_refusal.desc).map (fun d => d.parameters.length) = some 2 := by decide +kernel
set_option maxHeartbeats 4000000 in
set_option maxRecDepth 100000 in
theorem ctX3_refusal (l : Launch) (D : va_G) (cI cZ : ClassId) (a_t : Nat) (jx1 : Int32) (jx2 : Int32) (v_t_present : Int32) (v_t_votes : Int32) (v_t_value : Int32) (v_t_known : Int32) (v_t_latest : Int32) (v_t_read : Int32) (v_t_write : Int32) (r : Int32) (hf : fX3_refusal jx1 jx2 v_t_present v_t_votes v_t_value = some r) : cR l yX3_refusal wsX3_refusal rmX3_refusal [.ref a_t, .int jx1, .int jx2] D [(a_t, .inr (3, [.int v_t_present, .int v_t_known, .int v_t_votes, .int v_t_latest, .int v_t_value, .int v_t_read, .int v_t_write]))] (KX D cI cZ) r := by
  refine cR_of (cc := cX3_refusal) (maxL := 3) (ret := some .int) (by decide +kernel) rfl _ (Nat.le_of_ble_eq_true rfl) ?_
  intro p e s m below meth c ls S hr hlk hP hK hl
  obtain ⟨hx, hb, hml, hown, hts⟩ := id S
  have hl : lv_has ls 3 [(0, .ref a_t), (1, .int jx1), (2, .int jx2)] := hl
  unfold fX3_refusal at hf
  refine lv_aload_n hx hb dX3_refusal_0 rfl (lv_at hl 0 rfl) ?_
  refine va_get (D := D) (ci := 3) (v := .int v_t_present) (C := RX3) (T := TX3) (N := 7) hx hb hts iX3_refusal_X3 hown hK.1 hP 0 rfl rfl 0 (by decide) (hts _ mX3_refusal_1) (fun _ h9 => h9) rfl dX3_refusal_1 ?_
  refine lv_if_eq (tgt := 15) hx hb dX3_refusal_4 (by decide) (fun jc1 => ?_) (fun jc1 => ?_)
  · have hf := ite_t jc1 hf
    refine lv_bipush (v := -4) hx hb dX3_refusal_15 (by decide) ?_
    obtain rfl := Option.some.inj hf
    exact retR hx hb hr hlk dX3_refusal_17
  · have hf := ite_f jc1 hf
    refine lv_aload_n hx hb dX3_refusal_7 rfl (lv_at hl 0 rfl) ?_
    refine va_get (D := D) (ci := 3) (v := .int v_t_votes) (C := RX3) (T := TX3) (N := 7) hx hb hts iX3_refusal_X3 hown hK.1 hP 0 rfl rfl 2 (by decide) (hts _ mX3_refusal_2) (fun _ h9 => h9) rfl dX3_refusal_8 ?_
    refine lv_iload_n hx hb dX3_refusal_11 rfl (lv_at hl 1 rfl) ?_
    refine lv_icmp_ge (tgt := 18) hx hb dX3_refusal_12 (by decide) (fun jc2 => ?_) (fun jc2 => ?_)
    · have hf := ite_t jc2 hf
      refine lv_iload_n hx hb dX3_refusal_18 rfl (lv_at hl 2 rfl) ?_
      refine lv_if_eq (tgt := 36) hx hb dX3_refusal_19 (by decide) (fun jc3 => ?_) (fun jc3 => ?_)
      · have hf := ite_t jc3 hf
        refine lv_iconst (v := 0) hx hb dX3_refusal_36 (by decide) ?_
        obtain rfl := Option.some.inj hf
        exact retR hx hb hr hlk dX3_refusal_37
      · have hf := ite_f jc3 hf
        refine lv_aload_n hx hb dX3_refusal_22 rfl (lv_at hl 0 rfl) ?_
        refine va_get (D := D) (ci := 3) (v := .int v_t_value) (C := RX3) (T := TX3) (N := 7) hx hb hts iX3_refusal_X3 hown hK.1 hP 0 rfl rfl 4 (by decide) (hts _ mX3_refusal_3) (fun _ h9 => h9) rfl dX3_refusal_23 ?_
        refine lv_bipush (v := -9) hx hb dX3_refusal_26 (by decide) ?_
        refine lv_icmp_ne (tgt := 36) hx hb dX3_refusal_28 (by decide) (fun jc4 => ?_) (fun jc4 => ?_)
        · have hf := ite_f jc4 hf
          refine lv_iconst (v := 0) hx hb dX3_refusal_36 (by decide) ?_
          obtain rfl := Option.some.inj hf
          exact retR hx hb hr hlk dX3_refusal_37
        · have hf := ite_t jc4 hf
          refine lv_bipush (v := -5) hx hb dX3_refusal_31 (by decide) ?_
          refine lv_goto (tgt := 37) hx hb dX3_refusal_33 (by decide) ?_
          obtain rfl := Option.some.inj hf
          exact retR hx hb hr hlk dX3_refusal_37
    · have hf := ite_f jc2 hf
      refine lv_bipush (v := -4) hx hb dX3_refusal_15 (by decide) ?_
      obtain rfl := Option.some.inj hf
      exact retR hx hb hr hlk dX3_refusal_17
def fX3_can (jx1 : Int32) (jx2 : Int32) (v_t_present : Int32) (v_t_votes : Int32) (v_t_value : Int32) : Option (Int32) := bd1 (fX3_refusal jx1 jx2 v_t_present v_t_votes v_t_value) (fun jr1 => if jr1 = 0 then some (1 : Int32) else some (0 : Int32))
abbrev rmX3_can : Room := { frames := 1, cells := 0, slots := 0, locals := 22 }
theorem hdX3_can : yX3_can.cls ≠ "java/lang/invoke/MethodHandle" ∧ yX3_can.cls ≠ "java/lang/invoke/VarHandle" ∧ (parseMethodDescriptor yX3_can.desc).map (fun d => d.parameters.length) = some 2 := by decide +kernel
set_option maxHeartbeats 4000000 in
set_option maxRecDepth 100000 in
theorem ctX3_can (l : Launch) (D : va_G) (cI cZ : ClassId) (a_t : Nat) (jx1 : Int32) (jx2 : Int32) (v_t_present : Int32) (v_t_votes : Int32) (v_t_value : Int32) (v_t_known : Int32) (v_t_latest : Int32) (v_t_read : Int32) (v_t_write : Int32) (r : Int32) (hf : fX3_can jx1 jx2 v_t_present v_t_votes v_t_value = some r) : cR l yX3_can wsX3_can rmX3_can [.ref a_t, .int jx1, .int jx2] D [(a_t, .inr (3, [.int v_t_present, .int v_t_known, .int v_t_votes, .int v_t_latest, .int v_t_value, .int v_t_read, .int v_t_write]))] (KX D cI cZ) r := by
  refine cR_of (cc := cX3_can) (maxL := 3) (ret := some .int) (by decide +kernel) rfl _ (Nat.le_of_ble_eq_true rfl) ?_
  intro p e s m below meth c ls S hr hlk hP hK hl
  obtain ⟨hx, hb, hml, hown, hts⟩ := id S
  have hl : lv_has ls 3 [(0, .ref a_t), (1, .int jx1), (2, .int jx2)] := hl
  unfold fX3_can at hf
  refine lv_aload_n hx hb dX3_can_0 rfl (lv_at hl 0 rfl) ?_
  refine lv_iload_n hx hb dX3_can_1 rfl (lv_at hl 1 rfl) ?_
  refine lv_iload_n hx hb dX3_can_2 rfl (lv_at hl 2 rfl) ?_
  obtain ⟨jr1, je2, hf⟩ := bd1_inv hf
  refine callRV (As := [.int jx1, .int jx2]) (rest := []) S (ctX3_refusal l D cI cZ a_t jx1 jx2 v_t_present v_t_votes v_t_value v_t_known v_t_latest v_t_read v_t_write jr1 je2) (cwV 2 hts gX3_can_X3_refusal rfl rfl rfl ⟨rfl, hdX3_refusal⟩ ⟨Nat.le_of_ble_eq_true rfl, Nat.le_of_ble_eq_true rfl⟩) hP [0] rfl KX.xs (fun U _ hW => hK.warm hW) (va_recv hK.1 hP (ci := 3) (q0 := 0) rfl rfl) rfl hl.1 rfl (Nat.le_of_ble_eq_true rfl) dX3_can_3 ⟨Nat.zero_le _, Nat.zero_le _⟩ ?_
  refine lv_if_ne (tgt := 13) hx hb dX3_can_6 (by decide) (fun jc3 => ?_) (fun jc3 => ?_)
  · have hf := ite_f jc3 hf
    refine lv_iconst (v := 0) hx hb dX3_can_13 (by decide) ?_
    obtain rfl := Option.some.inj hf
    exact retR hx hb hr hlk dX3_can_14
  · have hf := ite_t jc3 hf
    refine lv_iconst (v := 1) hx hb dX3_can_9 (by decide) ?_
    refine lv_goto (tgt := 14) hx hb dX3_can_10 (by decide) ?_
    obtain rfl := Option.some.inj hf
    exact retR hx hb hr hlk dX3_can_14
def fX4_remember_34 (v_p1_row : (Nat → Int32)) (jy0 : Int32) (v_t_next : Int32) (v_t_size : Int32) (v_t_rows : (Nat → Int32)) : Option (Int32 × Int32 × (Nat → Int32)) := some (jy0, (if (10 : Int32) < (v_t_size + (1 : Int32)) then (10 : Int32) else (v_t_size + (1 : Int32))), v_t_rows)
def fX4_remember (v_t_next : Int32) (v_t_size : Int32) (v_t_rows : (Nat → Int32)) (v_p1_row : (Nat → Int32)) : Option (Int32 × Int32 × (Nat → Int32)) := bd1 (fX7_saveTo 1040 v_t_next v_p1_row v_t_rows) (fun jg1 => if (10 : Int32) ≤ (v_t_next + (1 : Int32)) then fX4_remember_34 v_p1_row (0 : Int32) v_t_next v_t_size jg1 else fX4_remember_34 v_p1_row (v_t_next + (1 : Int32)) v_t_next v_t_size jg1)
abbrev rmX4_remember : Room := { frames := 2, cells := 0, slots := 0, locals := 48 }
theorem iX4_remember_X4 : ∀ w ∈ wsX40, w ∈ wsX4_remember := fun _ h => List.mem_cons_of_mem _ (List.mem_append_left _ (List.mem_append_right _ h))
theorem mX4_remember_2 : (Cond.fieldLink RX4 17 "VoteFiles$Past" "next" "I") ∈ wsX4_remember := List.mem_of_getElem? (i := 2) rfl
theorem mX4_remember_3 : (Cond.fieldLink RX4 21 "VoteFiles$Past" "size" "I") ∈ wsX4_remember := List.mem_of_getElem? (i := 3) rfl
theorem mX4_remember_4 : (Cond.methodLink RX4 28 Lib.Math.min.name) ∈ wsX4_remember := List.mem_of_getElem? (i := 4) rfl
theorem mX4_remember_5 : (Cond.static Lib.Math.min.name) ∈ wsX4_remember := List.mem_of_getElem? (i := 5) rfl
theorem mX4_remember_6 : (Cond.initialized "java/lang/Math") ∈ wsX4_remember := List.mem_of_getElem? (i := 6) rfl
theorem mX4_remember_7 : (Cond.code Lib.Math.min.name Lib.Math.min.code 2 (some .int)) ∈ wsX4_remember := List.mem_of_getElem? (i := 7) rfl
theorem mX4_remember_1 : (Cond.fieldLink RX4 11 "VoteFiles$Past" "rows" "[I") ∈ wsX4_remember := List.mem_of_getElem? (i := 1) rfl
set_option maxHeartbeats 4000000 in
set_option maxRecDepth 100000 in
theorem wX4_remember_34 {p : Program} {l : Launch} {e : Env} {s : State} {m : MethodId} {args : Array Value} {below : List Frame} {meth : Method} {c : Code} {D : va_G} {cI cZ : ClassId} (S : CallFix p m c cX4_remember 2 s args wsX4_remember RX4) (hr : meth.sig.returnType = none) (hlk : meth.locks = false) (hK : KX D cI cZ s) {a_t a_t_rows a_p1 a_p1_row : Nat} {v_p1_row : (Nat → Int32)} {o_t_next : Int32} {o_t_size : Int32} {o_t_rows : (Nat → Int32)} {A : Nat → Prop} (hA : ∀ q : Nat, s.heap.size ≤ q → A q) : ∀ (jy0 : Int32) (v_t_next : Int32) (v_t_size : Int32) (v_t_rows : (Nat → Int32)) (ls : Array Slot) (H : Heap) (locs : List Loc), fX4_remember_34 v_p1_row jy0 v_t_next v_t_size v_t_rows = some (o_t_next, o_t_size, o_t_rows) → lv_has ls 2 [(0, .ref a_t)] → va_P D vwCl [(a_t, .inr (4, [.ref a_t_rows, .int v_t_next, .int v_t_size])), (a_t_rows, .inl (cI, 1040, .inl v_t_rows)), (a_p1, .inr (7, [.ref a_p1_row])), (a_p1_row, .inl (cI, 104, .inl v_p1_row))] H → va_D A [(a_t, .inr (4, [.ref a_t_rows, .int v_t_next, .int v_t_size])), (a_t_rows, .inl (cI, 1040, .inl v_t_rows)), (a_p1, .inr (7, [.ref a_p1_row])), (a_p1_row, .inl (cI, 104, .inl v_p1_row))] → va_S A s.heap H locs → W p l e rmX4_remember s m args below meth c H locs 0 0 (MQ below (qM D none [(a_t, .inr (4, [.ref a_t_rows, .int o_t_next, .int o_t_size])), (a_t_rows, .inl (cI, 1040, .inl o_t_rows)), (a_p1, .inr (7, [.ref a_p1_row])), (a_p1_row, .inl (cI, 104, .inl v_p1_row))] A) args s 0 0 A) (F0 m 34 ls [.int jy0, .ref a_t]) := by
  obtain ⟨hx, hb, hml, hown, hts⟩ := id S
  intro jy0 v_t_next v_t_size v_t_rows ls H locs hf hl hP hD hS
  unfold fX4_remember_34 at hf
  refine va_put (D := D) (ci := 4) (v := .int jy0) (ty := .int) (C := RX4) (T := TX4) (N := 3) hx hb hts iX4_remember_X4 tyX4 tyX4_ok nmX4 hown hK.1 hP hD hS 0 rfl rfl 1 (by decide) (hts _ mX4_remember_2) (fun _ h9 => h9) rfl (tyX4_ok 1 (by decide)) rfl rfl (Nat.le_of_ble_eq_true rfl) dX4_remember_34 (fun H locs hP hD hS => ?_)
  have hP : va_P D vwCl [(a_t, .inr (4, [.ref a_t_rows, .int jy0, .int v_t_size])), (a_t_rows, .inl (cI, 1040, .inl v_t_rows)), (a_p1, .inr (7, [.ref a_p1_row])), (a_p1_row, .inl (cI, 104, .inl v_p1_row))] H := hP
  have hD : va_D A [(a_t, .inr (4, [.ref a_t_rows, .int jy0, .int v_t_size])), (a_t_rows, .inl (cI, 1040, .inl v_t_rows)), (a_p1, .inr (7, [.ref a_p1_row])), (a_p1_row, .inl (cI, 104, .inl v_p1_row))] := hD
  refine lv_aload_n hx hb dX4_remember_37 rfl (lv_at hl 0 rfl) ?_
  refine lv_aload_n hx hb dX4_remember_38 rfl (lv_at hl 0 rfl) ?_
  refine va_get (D := D) (ci := 4) (v := .int v_t_size) (C := RX4) (T := TX4) (N := 3) hx hb hts iX4_remember_X4 hown hK.1 hP 0 rfl rfl 2 (by decide) (hts _ mX4_remember_3) (fun _ h9 => h9) rfl dX4_remember_39 ?_
  refine lv_iconst (v := 1) hx hb dX4_remember_42 (by decide) ?_
  refine lv_iadd hx hb dX4_remember_43 ?_
  refine lv_bipush (v := 10) hx hb dX4_remember_44 (by decide) ?_
  refine va_mmin hx hb (hml.trans hl.1.symm) hown (hts _ mX4_remember_4) (hts _ mX4_remember_5) (hts _ mX4_remember_6) (hts _ mX4_remember_7) (Nat.le_of_ble_eq_true rfl) (Nat.le_of_ble_eq_true rfl) (Nat.zero_le _) (Nat.zero_le _) dX4_remember_46 ?_
  refine va_put (D := D) (ci := 4) (v := .int (if (10 : Int32) < (v_t_size + (1 : Int32)) then (10 : Int32) else (v_t_size + (1 : Int32)))) (ty := .int) (C := RX4) (T := TX4) (N := 3) hx hb hts iX4_remember_X4 tyX4 tyX4_ok nmX4 hown hK.1 hP hD hS 0 rfl rfl 2 (by decide) (hts _ mX4_remember_3) (fun _ h9 => h9) rfl (tyX4_ok 2 (by decide)) rfl rfl (Nat.le_of_ble_eq_true rfl) dX4_remember_49 (fun H locs hP hD hS => ?_)
  have hP : va_P D vwCl [(a_t, .inr (4, [.ref a_t_rows, .int jy0, .int (if (10 : Int32) < (v_t_size + (1 : Int32)) then (10 : Int32) else (v_t_size + (1 : Int32)))])), (a_t_rows, .inl (cI, 1040, .inl v_t_rows)), (a_p1, .inr (7, [.ref a_p1_row])), (a_p1_row, .inl (cI, 104, .inl v_p1_row))] H := hP
  have hD : va_D A [(a_t, .inr (4, [.ref a_t_rows, .int jy0, .int (if (10 : Int32) < (v_t_size + (1 : Int32)) then (10 : Int32) else (v_t_size + (1 : Int32)))])), (a_t_rows, .inl (cI, 1040, .inl v_t_rows)), (a_p1, .inr (7, [.ref a_p1_row])), (a_p1_row, .inl (cI, 104, .inl v_p1_row))] := hD
  obtain ⟨rfl, rfl, rfl⟩ := pr3_inv hf
  exact retMv hx hb hr hlk hP hD hS dX4_remember_52
theorem hdX4_remember : yX4_remember.cls ≠ "java/lang/invoke/MethodHandle" ∧ yX4_remember.cls ≠ "java/lang/invoke/VarHandle" ∧ (parseMethodDescriptor yX4_remember.desc).map (fun d => d.parameters.length) = some 1 := by decide +kernel
set_option maxHeartbeats 4000000 in
set_option maxRecDepth 100000 in
theorem ctX4_remember (l : Launch) (D : va_G) (cI cZ : ClassId) (a_t a_t_rows a_p1 a_p1_row : Nat) (v_t_next : Int32) (v_t_size : Int32) (v_t_rows : (Nat → Int32)) (v_p1_row : (Nat → Int32)) (o_t_next : Int32) (o_t_size : Int32) (o_t_rows : (Nat → Int32)) (hf : fX4_remember v_t_next v_t_size v_t_rows v_p1_row = some (o_t_next, o_t_size, o_t_rows)) : cM l yX4_remember wsX4_remember rmX4_remember [.ref a_t, .ref a_p1] D [(a_t, .inr (4, [.ref a_t_rows, .int v_t_next, .int v_t_size])), (a_t_rows, .inl (cI, 1040, .inl v_t_rows)), (a_p1, .inr (7, [.ref a_p1_row])), (a_p1_row, .inl (cI, 104, .inl v_p1_row))] [(a_t, .inr (4, [.ref a_t_rows, .int o_t_next, .int o_t_size])), (a_t_rows, .inl (cI, 1040, .inl o_t_rows)), (a_p1, .inr (7, [.ref a_p1_row])), (a_p1_row, .inl (cI, 104, .inl v_p1_row))] (KX D cI cZ) none := by
  refine cM_of (cc := cX4_remember) (maxL := 2) (ret := none) (by decide +kernel) rfl _ (Nat.le_of_ble_eq_true rfl) ?_
  intro p e s m below meth c ls A S hr hlk hP hK hl hD hA hS
  obtain ⟨hx, hb, hml, hown, hts⟩ := id S
  have hl : lv_has ls 2 [(0, .ref a_t), (1, .ref a_p1)] := hl
  unfold fX4_remember at hf
  refine lv_aload_n hx hb dX4_remember_0 rfl (lv_at hl 1 rfl) ?_
  refine lv_aload_n hx hb dX4_remember_1 rfl (lv_at hl 0 rfl) ?_
  refine va_get (D := D) (ci := 4) (v := .ref a_t_rows) (C := RX4) (T := TX4) (N := 3) hx hb hts iX4_remember_X4 hown hK.1 hP 0 rfl rfl 0 (by decide) (hts _ mX4_remember_1) (fun _ h9 => h9) rfl dX4_remember_2 ?_
  refine lv_aload_n hx hb dX4_remember_5 rfl (lv_at hl 0 rfl) ?_
  refine va_get (D := D) (ci := 4) (v := .int v_t_next) (C := RX4) (T := TX4) (N := 3) hx hb hts iX4_remember_X4 hown hK.1 hP 0 rfl rfl 1 (by decide) (hts _ mX4_remember_2) (fun _ h9 => h9) rfl dX4_remember_6 ?_
  obtain ⟨jg1, je2, hf⟩ := bd1_inv hf
  refine callMV (As := [.ref a_t_rows, .int v_t_next]) (rest := []) (wr := [(a_t, .inr (4, [.ref a_t_rows, .int v_t_next, .int v_t_size]))]) (wn := [(a_t, .inr (4, [.ref a_t_rows, .int v_t_next, .int v_t_size])), (a_t_rows, .inl (cI, 1040, .inl jg1)), (a_p1, .inr (7, [.ref a_p1_row])), (a_p1_row, .inl (cI, 104, .inl v_p1_row))]) S (ctX7_saveTo l D cI cZ a_p1 a_p1_row a_t_rows 1040 v_t_next v_p1_row v_t_rows jg1 je2) (cwV 2 hts gX4_remember_X7_saveTo rfl rfl rfl ⟨rfl, hdX7_saveTo⟩ ⟨Nat.le_of_ble_eq_true rfl, Nat.le_of_ble_eq_true rfl⟩) hP hD hS hA [2, 3, 1] [0] [0, 3, 1, 2] rfl rfl (by decide) (by decide) (by decide) (by decide) rfl KX.xs (fun U _ hW => hK.warm hW) (va_recv hK.1 hP (ci := 7) (q0 := 2) rfl rfl) rfl hl.1 rfl (Nat.le_of_ble_eq_true rfl) dX4_remember_9 ⟨Nat.zero_le _, Nat.zero_le _⟩ (fun H locs hP hD hS => ?_)
  refine W.eq (g2 := F0 m 12 ls []) rfl ?_
  refine lv_aload_n hx hb dX4_remember_12 rfl (lv_at hl 0 rfl) ?_
  refine lv_aload_n hx hb dX4_remember_13 rfl (lv_at hl 0 rfl) ?_
  refine va_get (D := D) (ci := 4) (v := .int v_t_next) (C := RX4) (T := TX4) (N := 3) hx hb hts iX4_remember_X4 hown hK.1 hP 0 rfl rfl 1 (by decide) (hts _ mX4_remember_2) (fun _ h9 => h9) rfl dX4_remember_14 ?_
  refine lv_iconst (v := 1) hx hb dX4_remember_17 (by decide) ?_
  refine lv_iadd hx hb dX4_remember_18 ?_
  refine lv_bipush (v := 10) hx hb dX4_remember_19 (by decide) ?_
  refine lv_icmp_ge (tgt := 33) hx hb dX4_remember_21 (by decide) (fun jc3 => ?_) (fun jc3 => ?_)
  · have hf := ite_t jc3 hf
    refine lv_iconst (v := 0) hx hb dX4_remember_33 (by decide) ?_
    exact wX4_remember_34 S hr hlk hK hA (0 : Int32) v_t_next v_t_size jg1 ls _ _ hf (lv_sub hl [0] rfl) hP hD hS
  · have hf := ite_f jc3 hf
    refine lv_aload_n hx hb dX4_remember_24 rfl (lv_at hl 0 rfl) ?_
    refine va_get (D := D) (ci := 4) (v := .int v_t_next) (C := RX4) (T := TX4) (N := 3) hx hb hts iX4_remember_X4 hown hK.1 hP 0 rfl rfl 1 (by decide) (hts _ mX4_remember_2) (fun _ h9 => h9) rfl dX4_remember_25 ?_
    refine lv_iconst (v := 1) hx hb dX4_remember_28 (by decide) ?_
    refine lv_iadd hx hb dX4_remember_29 ?_
    refine lv_goto (tgt := 34) hx hb dX4_remember_30 (by decide) ?_
    exact wX4_remember_34 S hr hlk hK hA (v_t_next + (1 : Int32)) v_t_next v_t_size jg1 ls _ _ hf (lv_sub hl [0] rfl) hP hD hS
def fX4_restore_28 (v_t_rows : (Nat → Int32)) (jy0 : Int32) (v_t_next : Int32) (v_t_size : Int32) (v_p1_row : (Nat → Int32)) : Option (Int32 × Int32 × Int32 × (Nat → Int32)) := bd1 (fX7_loadFrom 1040 jy0 v_p1_row v_t_rows) (fun jg1 => some ((1 : Int32), jy0, (v_t_size - (1 : Int32)), jg1))
def fX4_restore (v_t_next : Int32) (v_t_size : Int32) (v_t_rows : (Nat → Int32)) (v_p1_row : (Nat → Int32)) : Option (Int32 × Int32 × Int32 × (Nat → Int32)) := if v_t_size = 0 then some ((0 : Int32), v_t_next, v_t_size, v_p1_row) else if v_t_next ≤ 0 then fX4_restore_28 v_t_rows (9 : Int32) v_t_next v_t_size v_p1_row else fX4_restore_28 v_t_rows (v_t_next - (1 : Int32)) v_t_next v_t_size v_p1_row
abbrev rmX4_restore : Room := { frames := 2, cells := 0, slots := 0, locals := 48 }
theorem iX4_restore_X4 : ∀ w ∈ wsX40, w ∈ wsX4_restore := fun _ h => List.mem_cons_of_mem _ (List.mem_append_left _ (List.mem_append_right _ h))
theorem mX4_restore_2 : (Cond.fieldLink RX4 17 "VoteFiles$Past" "next" "I") ∈ wsX4_restore := List.mem_of_getElem? (i := 2) rfl
theorem mX4_restore_1 : (Cond.fieldLink RX4 21 "VoteFiles$Past" "size" "I") ∈ wsX4_restore := List.mem_of_getElem? (i := 1) rfl
theorem mX4_restore_3 : (Cond.fieldLink RX4 11 "VoteFiles$Past" "rows" "[I") ∈ wsX4_restore := List.mem_of_getElem? (i := 3) rfl
set_option maxHeartbeats 4000000 in
set_option maxRecDepth 100000 in
theorem wX4_restore_28 {p : Program} {l : Launch} {e : Env} {s : State} {m : MethodId} {args : Array Value} {below : List Frame} {meth : Method} {c : Code} {D : va_G} {cI cZ : ClassId} (S : CallFix p m c cX4_restore 2 s args wsX4_restore RX4) (hr : meth.sig.returnType = some .boolean) (hlk : meth.locks = false) (hK : KX D cI cZ s) {a_t a_t_rows a_p1 a_p1_row : Nat} {v_t_rows : (Nat → Int32)} {r : Int32} {o_t_next : Int32} {o_t_size : Int32} {o_p1_row : (Nat → Int32)} {A : Nat → Prop} (hA : ∀ q : Nat, s.heap.size ≤ q → A q) : ∀ (jy0 : Int32) (v_t_next : Int32) (v_t_size : Int32) (v_p1_row : (Nat → Int32)) (ls : Array Slot) (H : Heap) (locs : List Loc), fX4_restore_28 v_t_rows jy0 v_t_next v_t_size v_p1_row = some (r, o_t_next, o_t_size, o_p1_row) → lv_has ls 2 [(0, .ref a_t), (1, .ref a_p1)] → va_P D vwCl [(a_t, .inr (4, [.ref a_t_rows, .int v_t_next, .int v_t_size])), (a_t_rows, .inl (cI, 1040, .inl v_t_rows)), (a_p1, .inr (7, [.ref a_p1_row])), (a_p1_row, .inl (cI, 104, .inl v_p1_row))] H → va_D A [(a_t, .inr (4, [.ref a_t_rows, .int v_t_next, .int v_t_size])), (a_t_rows, .inl (cI, 1040, .inl v_t_rows)), (a_p1, .inr (7, [.ref a_p1_row])), (a_p1_row, .inl (cI, 104, .inl v_p1_row))] → va_S A s.heap H locs → W p l e rmX4_restore s m args below meth c H locs 0 0 (MQ below (qM D (some (.int r)) [(a_t, .inr (4, [.ref a_t_rows, .int o_t_next, .int o_t_size])), (a_t_rows, .inl (cI, 1040, .inl v_t_rows)), (a_p1, .inr (7, [.ref a_p1_row])), (a_p1_row, .inl (cI, 104, .inl o_p1_row))] A) args s 0 0 A) (F0 m 28 ls [.int jy0, .ref a_t]) := by
  obtain ⟨hx, hb, hml, hown, hts⟩ := id S
  intro jy0 v_t_next v_t_size v_p1_row ls H locs hf hl hP hD hS
  unfold fX4_restore_28 at hf
  refine va_put (D := D) (ci := 4) (v := .int jy0) (ty := .int) (C := RX4) (T := TX4) (N := 3) hx hb hts iX4_restore_X4 tyX4 tyX4_ok nmX4 hown hK.1 hP hD hS 0 rfl rfl 1 (by decide) (hts _ mX4_restore_2) (fun _ h9 => h9) rfl (tyX4_ok 1 (by decide)) rfl rfl (Nat.le_of_ble_eq_true rfl) dX4_restore_28 (fun H locs hP hD hS => ?_)
  have hP : va_P D vwCl [(a_t, .inr (4, [.ref a_t_rows, .int jy0, .int v_t_size])), (a_t_rows, .inl (cI, 1040, .inl v_t_rows)), (a_p1, .inr (7, [.ref a_p1_row])), (a_p1_row, .inl (cI, 104, .inl v_p1_row))] H := hP
  have hD : va_D A [(a_t, .inr (4, [.ref a_t_rows, .int jy0, .int v_t_size])), (a_t_rows, .inl (cI, 1040, .inl v_t_rows)), (a_p1, .inr (7, [.ref a_p1_row])), (a_p1_row, .inl (cI, 104, .inl v_p1_row))] := hD
  refine lv_aload_n hx hb dX4_restore_31 rfl (lv_at hl 0 rfl) ?_
  refine lv_dup hx hb dX4_restore_32 rfl ?_
  refine va_get (D := D) (ci := 4) (v := .int v_t_size) (C := RX4) (T := TX4) (N := 3) hx hb hts iX4_restore_X4 hown hK.1 hP 0 rfl rfl 2 (by decide) (hts _ mX4_restore_1) (fun _ h9 => h9) rfl dX4_restore_33 ?_
  refine lv_iconst (v := 1) hx hb dX4_restore_36 (by decide) ?_
  refine lv_isub hx hb dX4_restore_37 ?_
  refine va_put (D := D) (ci := 4) (v := .int (v_t_size - (1 : Int32))) (ty := .int) (C := RX4) (T := TX4) (N := 3) hx hb hts iX4_restore_X4 tyX4 tyX4_ok nmX4 hown hK.1 hP hD hS 0 rfl rfl 2 (by decide) (hts _ mX4_restore_1) (fun _ h9 => h9) rfl (tyX4_ok 2 (by decide)) rfl rfl (Nat.le_of_ble_eq_true rfl) dX4_restore_38 (fun H locs hP hD hS => ?_)
  have hP : va_P D vwCl [(a_t, .inr (4, [.ref a_t_rows, .int jy0, .int (v_t_size - (1 : Int32))])), (a_t_rows, .inl (cI, 1040, .inl v_t_rows)), (a_p1, .inr (7, [.ref a_p1_row])), (a_p1_row, .inl (cI, 104, .inl v_p1_row))] H := hP
  have hD : va_D A [(a_t, .inr (4, [.ref a_t_rows, .int jy0, .int (v_t_size - (1 : Int32))])), (a_t_rows, .inl (cI, 1040, .inl v_t_rows)), (a_p1, .inr (7, [.ref a_p1_row])), (a_p1_row, .inl (cI, 104, .inl v_p1_row))] := hD
  refine lv_aload_n hx hb dX4_restore_41 rfl (lv_at hl 1 rfl) ?_
  refine lv_aload_n hx hb dX4_restore_42 rfl (lv_at hl 0 rfl) ?_
  refine va_get (D := D) (ci := 4) (v := .ref a_t_rows) (C := RX4) (T := TX4) (N := 3) hx hb hts iX4_restore_X4 hown hK.1 hP 0 rfl rfl 0 (by decide) (hts _ mX4_restore_3) (fun _ h9 => h9) rfl dX4_restore_43 ?_
  refine lv_aload_n hx hb dX4_restore_46 rfl (lv_at hl 0 rfl) ?_
  refine va_get (D := D) (ci := 4) (v := .int jy0) (C := RX4) (T := TX4) (N := 3) hx hb hts iX4_restore_X4 hown hK.1 hP 0 rfl rfl 1 (by decide) (hts _ mX4_restore_2) (fun _ h9 => h9) rfl dX4_restore_47 ?_
  obtain ⟨jg1, je2, hf⟩ := bd1_inv hf
  refine callMV (As := [.ref a_t_rows, .int jy0]) (rest := []) (wr := [(a_t, .inr (4, [.ref a_t_rows, .int jy0, .int (v_t_size - (1 : Int32))]))]) (wn := [(a_t, .inr (4, [.ref a_t_rows, .int jy0, .int (v_t_size - (1 : Int32))])), (a_t_rows, .inl (cI, 1040, .inl v_t_rows)), (a_p1, .inr (7, [.ref a_p1_row])), (a_p1_row, .inl (cI, 104, .inl jg1))]) S (ctX7_loadFrom l D cI cZ a_p1 a_p1_row a_t_rows 1040 jy0 v_p1_row v_t_rows jg1 je2) (cwV 2 hts gX4_restore_X7_loadFrom rfl rfl rfl ⟨rfl, hdX7_loadFrom⟩ ⟨Nat.le_of_ble_eq_true rfl, Nat.le_of_ble_eq_true rfl⟩) hP hD hS hA [2, 3, 1] [0] [0, 3, 1, 2] rfl rfl (by decide) (by decide) (by decide) (by decide) rfl KX.xs (fun U _ hW => hK.warm hW) (va_recv hK.1 hP (ci := 7) (q0 := 2) rfl rfl) rfl hl.1 rfl (Nat.le_of_ble_eq_true rfl) dX4_restore_50 ⟨Nat.zero_le _, Nat.zero_le _⟩ (fun H locs hP hD hS => ?_)
  refine W.eq (g2 := F0 m 53 ls []) rfl ?_
  refine lv_iconst (v := 1) hx hb dX4_restore_53 (by decide) ?_
  obtain ⟨rfl, rfl, rfl, rfl⟩ := pr4_inv hf
  exact retMz hx hb hr hlk (by decide) hP hD hS dX4_restore_54
theorem hdX4_restore : yX4_restore.cls ≠ "java/lang/invoke/MethodHandle" ∧ yX4_restore.cls ≠ "java/lang/invoke/VarHandle" ∧ (parseMethodDescriptor yX4_restore.desc).map (fun d => d.parameters.length) = some 1 := by decide +kernel
set_option maxHeartbeats 4000000 in
set_option maxRecDepth 100000 in
theorem ctX4_restore (l : Launch) (D : va_G) (cI cZ : ClassId) (a_t a_t_rows a_p1 a_p1_row : Nat) (v_t_next : Int32) (v_t_size : Int32) (v_t_rows : (Nat → Int32)) (v_p1_row : (Nat → Int32)) (r : Int32) (o_t_next : Int32) (o_t_size : Int32) (o_p1_row : (Nat → Int32)) (hf : fX4_restore v_t_next v_t_size v_t_rows v_p1_row = some (r, o_t_next, o_t_size, o_p1_row)) : cM l yX4_restore wsX4_restore rmX4_restore [.ref a_t, .ref a_p1] D [(a_t, .inr (4, [.ref a_t_rows, .int v_t_next, .int v_t_size])), (a_t_rows, .inl (cI, 1040, .inl v_t_rows)), (a_p1, .inr (7, [.ref a_p1_row])), (a_p1_row, .inl (cI, 104, .inl v_p1_row))] [(a_t, .inr (4, [.ref a_t_rows, .int o_t_next, .int o_t_size])), (a_t_rows, .inl (cI, 1040, .inl v_t_rows)), (a_p1, .inr (7, [.ref a_p1_row])), (a_p1_row, .inl (cI, 104, .inl o_p1_row))] (KX D cI cZ) (some (.int r)) := by
  refine cM_of (cc := cX4_restore) (maxL := 2) (ret := some .boolean) (by decide +kernel) rfl _ (Nat.le_of_ble_eq_true rfl) ?_
  intro p e s m below meth c ls A S hr hlk hP hK hl hD hA hS
  obtain ⟨hx, hb, hml, hown, hts⟩ := id S
  have hl : lv_has ls 2 [(0, .ref a_t), (1, .ref a_p1)] := hl
  unfold fX4_restore at hf
  refine lv_aload_n hx hb dX4_restore_0 rfl (lv_at hl 0 rfl) ?_
  refine va_get (D := D) (ci := 4) (v := .int v_t_size) (C := RX4) (T := TX4) (N := 3) hx hb hts iX4_restore_X4 hown hK.1 hP 0 rfl rfl 2 (by decide) (hts _ mX4_restore_1) (fun _ h9 => h9) rfl dX4_restore_1 ?_
  refine lv_if_ne (tgt := 9) hx hb dX4_restore_4 (by decide) (fun jc1 => ?_) (fun jc1 => ?_)
  · have hf := ite_f jc1 hf
    refine lv_aload_n hx hb dX4_restore_9 rfl (lv_at hl 0 rfl) ?_
    refine lv_aload_n hx hb dX4_restore_10 rfl (lv_at hl 0 rfl) ?_
    refine va_get (D := D) (ci := 4) (v := .int v_t_next) (C := RX4) (T := TX4) (N := 3) hx hb hts iX4_restore_X4 hown hK.1 hP 0 rfl rfl 1 (by decide) (hts _ mX4_restore_2) (fun _ h9 => h9) rfl dX4_restore_11 ?_
    refine lv_if_le (tgt := 26) hx hb dX4_restore_14 (by decide) (fun jc2 => ?_) (fun jc2 => ?_)
    · have hf := ite_t jc2 hf
      refine lv_bipush (v := 9) hx hb dX4_restore_26 (by decide) ?_
      exact wX4_restore_28 S hr hlk hK hA (9 : Int32) v_t_next v_t_size v_p1_row ls _ _ hf (lv_sub hl [0, 1] rfl) hP hD hS
    · have hf := ite_f jc2 hf
      refine lv_aload_n hx hb dX4_restore_17 rfl (lv_at hl 0 rfl) ?_
      refine va_get (D := D) (ci := 4) (v := .int v_t_next) (C := RX4) (T := TX4) (N := 3) hx hb hts iX4_restore_X4 hown hK.1 hP 0 rfl rfl 1 (by decide) (hts _ mX4_restore_2) (fun _ h9 => h9) rfl dX4_restore_18 ?_
      refine lv_iconst (v := 1) hx hb dX4_restore_21 (by decide) ?_
      refine lv_isub hx hb dX4_restore_22 ?_
      refine lv_goto (tgt := 28) hx hb dX4_restore_23 (by decide) ?_
      exact wX4_restore_28 S hr hlk hK hA (v_t_next - (1 : Int32)) v_t_next v_t_size v_p1_row ls _ _ hf (lv_sub hl [0, 1] rfl) hP hD hS
  · have hf := ite_t jc1 hf
    refine lv_iconst (v := 0) hx hb dX4_restore_7 (by decide) ?_
    obtain ⟨rfl, rfl, rfl, rfl⟩ := pr4_inv hf
    exact retMz hx hb hr hlk (by decide) hP hD hS dX4_restore_8
def fX5_votesIn (jx0 : Int32) (jx1 : Int32) : Option (Int32) := some ((jx0 >>> (((2 : Int32) * jx1) &&& 31)) &&& (3 : Int32))
abbrev rmX5_votesIn : Room := { frames := 0, cells := 0, slots := 0, locals := 0 }
theorem hdX5_votesIn : yX5_votesIn.cls ≠ "java/lang/invoke/MethodHandle" ∧ yX5_votesIn.cls ≠ "java/lang/invoke/VarHandle" ∧ (parseMethodDescriptor yX5_votesIn.desc).map (fun d => d.parameters.length) = some 2 := by decide +kernel
set_option maxHeartbeats 4000000 in
set_option maxRecDepth 100000 in
theorem ctX5_votesIn (l : Launch) (D : va_G) (cI cZ : ClassId) (jx0 : Int32) (jx1 : Int32) (r : Int32) (hf : fX5_votesIn jx0 jx1 = some r) : cR l yX5_votesIn wsX5_votesIn rmX5_votesIn [.int jx0, .int jx1] D [] (KX D cI cZ) r := by
  refine cR_of (cc := cX5_votesIn) (maxL := 2) (ret := some .int) (by decide +kernel) rfl _ (Nat.le_of_ble_eq_true rfl) ?_
  intro p e s m below meth c ls S hr hlk hP hK hl
  obtain ⟨hx, hb, hml, hown, hts⟩ := id S
  have hl : lv_has ls 2 [(0, .int jx0), (1, .int jx1)] := hl
  unfold fX5_votesIn at hf
  refine lv_iload_n hx hb dX5_votesIn_0 rfl (lv_at hl 0 rfl) ?_
  refine lv_iconst (v := 2) hx hb dX5_votesIn_1 (by decide) ?_
  refine lv_iload_n hx hb dX5_votesIn_2 rfl (lv_at hl 1 rfl) ?_
  refine lv_imul hx hb dX5_votesIn_3 ?_
  refine lv_ishr hx hb dX5_votesIn_4 ?_
  refine lv_iconst (v := 3) hx hb dX5_votesIn_5 (by decide) ?_
  refine lv_iand hx hb dX5_votesIn_6 ?_
  obtain rfl := Option.some.inj hf
  exact retR hx hb hr hlk dX5_votesIn_7
def fX5_isFalling_2 (jx0 : Int32) (jx1 : Int32) : Nat → Int32 → Option (Int32)
  | 0, _ => none
  | n + 1, jx2 => if jx1 ≤ jx2 then some (1 : Int32) else bd1 (fX5_votesIn jx0 jx2) (fun jr2 => bd1 (fX5_votesIn jx0 (jx2 - (1 : Int32))) (fun jr4 => if jr2 ≤ jr4 then (fX5_isFalling_2 jx0 jx1 n) (jx2 + (1 : Int32)) else some (0 : Int32)))
theorem fX5_isFalling_2_s (jx0 : Int32) (jx1 : Int32) (n : Nat) (jx2 : Int32) : fX5_isFalling_2 jx0 jx1 (n + 1) jx2 = if jx1 ≤ jx2 then some (1 : Int32) else bd1 (fX5_votesIn jx0 jx2) (fun jr2 => bd1 (fX5_votesIn jx0 (jx2 - (1 : Int32))) (fun jr4 => if jr2 ≤ jr4 then (fX5_isFalling_2 jx0 jx1 n) (jx2 + (1 : Int32)) else some (0 : Int32))) := rfl
def fX5_isFalling (jx0 : Int32) (jx1 : Int32) : Option (Int32) := fX5_isFalling_2 jx0 jx1 fuel (1 : Int32)
abbrev rmX5_isFalling : Room := { frames := 1, cells := 0, slots := 0, locals := 21 }
set_option maxHeartbeats 4000000 in
set_option maxRecDepth 100000 in
theorem wX5_isFalling_2 {p : Program} {l : Launch} {e : Env} {s : State} {m : MethodId} {args : Array Value} {below : List Frame} {meth : Method} {c : Code} {D : va_G} {cI cZ : ClassId} (S : CallFix p m c cX5_isFalling 3 s args wsX5_isFalling RX5) (hr : meth.sig.returnType = some .boolean) (hlk : meth.locks = false) (hK : KX D cI cZ s) {jx0 : Int32} {jx1 : Int32} {r : Int32} (hP : va_P D vwCl [] s.heap) : ∀ (n : Nat), ∀ (jx2 : Int32) (ls : Array Slot), fX5_isFalling_2 jx0 jx1 n jx2 = some r → lv_has ls 3 [(0, .int jx0), (1, .int jx1), (2, .int jx2)] → W p l e rmX5_isFalling s m args below meth c s.heap [] 0 0 (MQ below (QcRead r) args s 0 0 (fun _ => False)) (F0 m 2 ls []) := by
  obtain ⟨hx, hb, hml, hown, hts⟩ := id S
  intro n
  induction n with
  | zero =>
    intro jx2 ls hf hl
    cases (show (none : Option _) = some _ from hf)
  | succ n ih =>
    intro jx2 ls hf hl
    have hf := (fX5_isFalling_2_s _ _ n _).symm.trans hf
    refine lv_iload_n hx hb dX5_isFalling_2 rfl (lv_at hl 2 rfl) ?_
    refine lv_iload_n hx hb dX5_isFalling_3 rfl (lv_at hl 1 rfl) ?_
    refine lv_icmp_ge (tgt := 30) hx hb dX5_isFalling_4 (by decide) (fun jc1 => ?_) (fun jc1 => ?_)
    · have hf := ite_t jc1 hf
      refine lv_iconst (v := 1) hx hb dX5_isFalling_30 (by decide) ?_
      obtain rfl := Option.some.inj hf
      exact retRz hx hb hr hlk (by decide) dX5_isFalling_31
    · have hf := ite_f jc1 hf
      refine lv_iload_n hx hb dX5_isFalling_7 rfl (lv_at hl 0 rfl) ?_
      refine lv_iload_n hx hb dX5_isFalling_8 rfl (lv_at hl 2 rfl) ?_
      obtain ⟨jr2, je3, hf⟩ := bd1_inv hf
      refine callRS (As := [.int jx0, .int jx2]) (rest := []) S (ctX5_votesIn l D cI cZ jx0 jx2 jr2 je3) (va_cwS 2 hts gX5_isFalling_X5_votesIn rfl rfl rfl hdX5_votesIn ⟨Nat.le_of_ble_eq_true rfl, Nat.le_of_ble_eq_true rfl⟩) hP [] rfl KX.xs (fun U _ hW => hK.warm hW) rfl hl.1 rfl (Nat.le_of_ble_eq_true rfl) dX5_isFalling_9 ⟨Nat.zero_le _, Nat.zero_le _⟩ ?_
      refine lv_iload_n hx hb dX5_isFalling_12 rfl (lv_at hl 0 rfl) ?_
      refine lv_iload_n hx hb dX5_isFalling_13 rfl (lv_at hl 2 rfl) ?_
      refine lv_iconst (v := 1) hx hb dX5_isFalling_14 (by decide) ?_
      refine lv_isub hx hb dX5_isFalling_15 ?_
      obtain ⟨jr4, je5, hf⟩ := bd1_inv hf
      refine callRS (As := [.int jx0, .int (jx2 - (1 : Int32))]) (rest := [.int jr2]) S (ctX5_votesIn l D cI cZ jx0 (jx2 - (1 : Int32)) jr4 je5) (va_cwS 2 hts gX5_isFalling_X5_votesIn rfl rfl rfl hdX5_votesIn ⟨Nat.le_of_ble_eq_true rfl, Nat.le_of_ble_eq_true rfl⟩) hP [] rfl KX.xs (fun U _ hW => hK.warm hW) rfl hl.1 rfl (Nat.le_of_ble_eq_true rfl) dX5_isFalling_16 ⟨Nat.zero_le _, Nat.zero_le _⟩ ?_
      refine lv_icmp_le (tgt := 24) hx hb dX5_isFalling_19 (by decide) (fun jc6 => ?_) (fun jc6 => ?_)
      · have hf := ite_t jc6 hf
        refine lv_iinc (v := (jx2 + (1 : Int32))) (lv' := [(2, .int (jx2 + (1 : Int32))), (0, .int jx0), (1, .int jx1)]) hx hb dX5_isFalling_24 hl (k := 2) rfl rfl (by decide) rfl (fun ls hl => ?_)
        refine lv_goto (tgt := 2) hx hb dX5_isFalling_27 (by decide) ?_
        exact ih (jx2 + (1 : Int32)) ls hf (lv_sub hl [1, 2, 0] rfl)
      · have hf := ite_f jc6 hf
        refine lv_iconst (v := 0) hx hb dX5_isFalling_22 (by decide) ?_
        obtain rfl := Option.some.inj hf
        exact retRz hx hb hr hlk (by decide) dX5_isFalling_23
theorem hdX5_isFalling : yX5_isFalling.cls ≠ "java/lang/invoke/MethodHandle" ∧ yX5_isFalling.cls ≠ "java/lang/invoke/VarHandle" ∧ (parseMethodDescriptor yX5_isFalling.desc).map (fun d => d.parameters.length) = some 2 := by decide +kernel
set_option maxHeartbeats 4000000 in
set_option maxRecDepth 100000 in
theorem ctX5_isFalling (l : Launch) (D : va_G) (cI cZ : ClassId) (jx0 : Int32) (jx1 : Int32) (r : Int32) (hf : fX5_isFalling jx0 jx1 = some r) : cR l yX5_isFalling wsX5_isFalling rmX5_isFalling [.int jx0, .int jx1] D [] (KX D cI cZ) r := by
  refine cR_of (cc := cX5_isFalling) (maxL := 3) (ret := some .boolean) (by decide +kernel) rfl _ (Nat.le_of_ble_eq_true rfl) ?_
  intro p e s m below meth c ls S hr hlk hP hK hl
  obtain ⟨hx, hb, hml, hown, hts⟩ := id S
  have hl : lv_has ls 3 [(0, .int jx0), (1, .int jx1)] := hl
  unfold fX5_isFalling at hf
  refine lv_iconst (v := 1) hx hb dX5_isFalling_0 (by decide) ?_
  refine lv_istore_n (lv' := [(2, .int (1 : Int32)), (0, .int jx0), (1, .int jx1)]) hx hb dX5_isFalling_1 rfl hl (by decide) rfl (fun ls hl => ?_)
  exact wX5_isFalling_2 S hr hlk hK hP fuel (1 : Int32) ls hf (lv_sub hl [1, 2, 0] rfl)
def fX5_tryWrites_10 (jx2 : Int32) (jx3 : Int32) (v_p1_total : Int32) (v_p1_likely : (Nat → Int32)) : Nat → Int32 → Int32 → Int32 → Int32 → Option (Int32 × Int32 × Int32)
  | 0, _, _, _, _ => none
  | n + 1, jx4, v_t_much, v_t_votes, v_t_write => if v_p1_total < jx4 then some (v_t_much, v_t_votes, v_t_write) else bd1 (fX0_atLeast ((v_p1_total + (1 : Int32)) - jx4) v_p1_total v_p1_likely) (fun jr2 => bd1 (fX0_atLeast jx4 v_p1_total v_p1_likely) (fun jr4 => if ((jx3 * jr2) + (((10 : Int32) - jx3) * jr4)) ≤ v_t_much then (fX5_tryWrites_10 jx2 jx3 v_p1_total v_p1_likely n) (jx4 + (1 : Int32)) v_t_much v_t_votes v_t_write else (fX5_tryWrites_10 jx2 jx3 v_p1_total v_p1_likely n) (jx4 + (1 : Int32)) ((jx3 * jr2) + (((10 : Int32) - jx3) * jr4)) jx2 jx4))
theorem fX5_tryWrites_10_s (jx2 : Int32) (jx3 : Int32) (v_p1_total : Int32) (v_p1_likely : (Nat → Int32)) (n : Nat) (jx4 : Int32) (v_t_much : Int32) (v_t_votes : Int32) (v_t_write : Int32) : fX5_tryWrites_10 jx2 jx3 v_p1_total v_p1_likely (n + 1) jx4 v_t_much v_t_votes v_t_write = if v_p1_total < jx4 then some (v_t_much, v_t_votes, v_t_write) else bd1 (fX0_atLeast ((v_p1_total + (1 : Int32)) - jx4) v_p1_total v_p1_likely) (fun jr2 => bd1 (fX0_atLeast jx4 v_p1_total v_p1_likely) (fun jr4 => if ((jx3 * jr2) + (((10 : Int32) - jx3) * jr4)) ≤ v_t_much then (fX5_tryWrites_10 jx2 jx3 v_p1_total v_p1_likely n) (jx4 + (1 : Int32)) v_t_much v_t_votes v_t_write else (fX5_tryWrites_10 jx2 jx3 v_p1_total v_p1_likely n) (jx4 + (1 : Int32)) ((jx3 * jr2) + (((10 : Int32) - jx3) * jr4)) jx2 jx4)) := rfl
def fX5_tryWrites (jx2 : Int32) (jx3 : Int32) (v_t_much : Int32) (v_t_votes : Int32) (v_t_write : Int32) (v_p1_total : Int32) (v_p1_likely : (Nat → Int32)) : Option (Int32 × Int32 × Int32) := fX5_tryWrites_10 jx2 jx3 v_p1_total v_p1_likely fuel ((v_p1_total / (2 : Int32)) + (1 : Int32)) v_t_much v_t_votes v_t_write
abbrev rmX5_tryWrites : Room := { frames := 2, cells := 0, slots := 0, locals := 44 }
theorem iX5_tryWrites_X0 : ∀ w ∈ wsX00, w ∈ wsX5_tryWrites := fun _ h => List.mem_cons_of_mem _ (List.mem_append_left _ (List.mem_append_right _ h))
theorem mX5_tryWrites_1 : (Cond.fieldLink RX5 42 "VoteFiles$Chances" "total" "I") ∈ wsX5_tryWrites := List.mem_of_getElem? (i := 1) rfl
theorem iX5_tryWrites_X5 : ∀ w ∈ wsX50, w ∈ wsX5_tryWrites := fun _ h => List.mem_cons_of_mem _ (List.mem_append_right _ h)
theorem mX5_tryWrites_2 : (Cond.fieldLink RX5 9 "VoteFiles$Search" "much" "I") ∈ wsX5_tryWrites := List.mem_of_getElem? (i := 2) rfl
theorem mX5_tryWrites_3 : (Cond.fieldLink RX5 15 "VoteFiles$Search" "votes" "I") ∈ wsX5_tryWrites := List.mem_of_getElem? (i := 3) rfl
theorem mX5_tryWrites_4 : (Cond.fieldLink RX5 18 "VoteFiles$Search" "write" "I") ∈ wsX5_tryWrites := List.mem_of_getElem? (i := 4) rfl
set_option maxHeartbeats 4000000 in
set_option maxRecDepth 100000 in
theorem wX5_tryWrites_10 {p : Program} {l : Launch} {e : Env} {s : State} {m : MethodId} {args : Array Value} {below : List Frame} {meth : Method} {c : Code} {D : va_G} {cI cZ : ClassId} (S : CallFix p m c cX5_tryWrites 7 s args wsX5_tryWrites RX5) (hr : meth.sig.returnType = none) (hlk : meth.locks = false) (hK : KX D cI cZ s) {a_t a_p1 a_p1_likely : Nat} {jx2 : Int32} {jx3 : Int32} {v_p1_total : Int32} {v_p1_likely : (Nat → Int32)} {v_p1_upper : Int32} {v_p1_lower : Int32} {o_t_much : Int32} {o_t_votes : Int32} {o_t_write : Int32} {A : Nat → Prop} (hA : ∀ q : Nat, s.heap.size ≤ q → A q) : ∀ (n : Nat), ∀ (jx4 : Int32) (v_t_much : Int32) (v_t_votes : Int32) (v_t_write : Int32) (ls : Array Slot) (H : Heap) (locs : List Loc), fX5_tryWrites_10 jx2 jx3 v_p1_total v_p1_likely n jx4 v_t_much v_t_votes v_t_write = some (o_t_much, o_t_votes, o_t_write) → lv_has ls 7 [(0, .ref a_t), (1, .ref a_p1), (2, .int jx2), (3, .int jx3), (4, .int jx4)] → va_P D vwCl [(a_t, .inr (5, [.int v_t_much, .int v_t_votes, .int v_t_write])), (a_p1, .inr (0, [.ref a_p1_likely, .int v_p1_total, .int v_p1_upper, .int v_p1_lower])), (a_p1_likely, .inl (cI, 31, .inl v_p1_likely))] H → va_D A [(a_t, .inr (5, [.int v_t_much, .int v_t_votes, .int v_t_write])), (a_p1, .inr (0, [.ref a_p1_likely, .int v_p1_total, .int v_p1_upper, .int v_p1_lower])), (a_p1_likely, .inl (cI, 31, .inl v_p1_likely))] → va_S A s.heap H locs → W p l e rmX5_tryWrites s m args below meth c H locs 0 0 (MQ below (qM D none [(a_t, .inr (5, [.int o_t_much, .int o_t_votes, .int o_t_write])), (a_p1, .inr (0, [.ref a_p1_likely, .int v_p1_total, .int v_p1_upper, .int v_p1_lower])), (a_p1_likely, .inl (cI, 31, .inl v_p1_likely))] A) args s 0 0 A) (F0 m 10 ls []) := by
  obtain ⟨hx, hb, hml, hown, hts⟩ := id S
  intro n
  induction n with
  | zero =>
    intro jx4 v_t_much v_t_votes v_t_write ls H locs hf hl hP hD hS
    cases (show (none : Option _) = some _ from hf)
  | succ n ih =>
    intro jx4 v_t_much v_t_votes v_t_write ls H locs hf hl hP hD hS
    have hf := (fX5_tryWrites_10_s _ _ _ _ n _ _ _ _).symm.trans hf
    refine lv_iload hx hb dX5_tryWrites_10 (lv_at hl 4 rfl) ?_
    refine lv_aload_n hx hb dX5_tryWrites_12 rfl (lv_at hl 1 rfl) ?_
    refine va_get (D := D) (ci := 0) (v := .int v_p1_total) (C := RX0) (T := TX0) (N := 4) hx hb hts iX5_tryWrites_X0 hown hK.1 hP 1 rfl rfl 1 (by decide) (hts _ mX5_tryWrites_1) (fun _ h9 => h9) rfl dX5_tryWrites_13 ?_
    refine lv_icmp_gt (tgt := 84) hx hb dX5_tryWrites_16 (by decide) (fun jc1 => ?_) (fun jc1 => ?_)
    · have hf := ite_t jc1 hf
      obtain ⟨rfl, rfl, rfl⟩ := pr3_inv hf
      exact retMv hx hb hr hlk hP hD hS dX5_tryWrites_84
    · have hf := ite_f jc1 hf
      refine lv_aload_n hx hb dX5_tryWrites_19 rfl (lv_at hl 1 rfl) ?_
      refine lv_aload_n hx hb dX5_tryWrites_20 rfl (lv_at hl 1 rfl) ?_
      refine va_get (D := D) (ci := 0) (v := .int v_p1_total) (C := RX0) (T := TX0) (N := 4) hx hb hts iX5_tryWrites_X0 hown hK.1 hP 1 rfl rfl 1 (by decide) (hts _ mX5_tryWrites_1) (fun _ h9 => h9) rfl dX5_tryWrites_21 ?_
      refine lv_iconst (v := 1) hx hb dX5_tryWrites_24 (by decide) ?_
      refine lv_iadd hx hb dX5_tryWrites_25 ?_
      refine lv_iload hx hb dX5_tryWrites_26 (lv_at hl 4 rfl) ?_
      refine lv_isub hx hb dX5_tryWrites_28 ?_
      obtain ⟨jr2, je3, hf⟩ := bd1_inv hf
      refine callRV (As := [.int ((v_p1_total + (1 : Int32)) - jx4)]) (rest := []) S (ctX0_atLeast l D cI cZ a_p1 a_p1_likely ((v_p1_total + (1 : Int32)) - jx4) v_p1_total v_p1_likely v_p1_upper v_p1_lower jr2 je3) (cwV 1 hts gX5_tryWrites_X0_atLeast rfl rfl rfl ⟨rfl, hdX0_atLeast⟩ ⟨Nat.le_of_ble_eq_true rfl, Nat.le_of_ble_eq_true rfl⟩) hP [1, 2] rfl KX.xs (fun U _ hW => hK.warm hW) (va_recv hK.1 hP (ci := 0) (q0 := 1) rfl rfl) rfl hl.1 rfl (Nat.le_of_ble_eq_true rfl) dX5_tryWrites_29 ⟨Nat.zero_le _, Nat.zero_le _⟩ ?_
      refine lv_istore (lv' := [(5, .int jr2), (0, .ref a_t), (1, .ref a_p1), (2, .int jx2), (3, .int jx3), (4, .int jx4)]) hx hb dX5_tryWrites_32 hl (by decide) rfl (fun ls hl => ?_)
      refine lv_iload_n hx hb dX5_tryWrites_34 rfl (lv_at hl 4 rfl) ?_
      refine lv_iload hx hb dX5_tryWrites_35 (lv_at hl 0 rfl) ?_
      refine lv_imul hx hb dX5_tryWrites_37 ?_
      refine lv_bipush (v := 10) hx hb dX5_tryWrites_38 (by decide) ?_
      refine lv_iload_n hx hb dX5_tryWrites_40 rfl (lv_at hl 4 rfl) ?_
      refine lv_isub hx hb dX5_tryWrites_41 ?_
      refine lv_aload_n hx hb dX5_tryWrites_42 rfl (lv_at hl 2 rfl) ?_
      refine lv_iload hx hb dX5_tryWrites_43 (lv_at hl 5 rfl) ?_
      obtain ⟨jr4, je5, hf⟩ := bd1_inv hf
      refine callRV (As := [.int jx4]) (rest := [.int ((10 : Int32) - jx3), .int (jx3 * jr2)]) S (ctX0_atLeast l D cI cZ a_p1 a_p1_likely jx4 v_p1_total v_p1_likely v_p1_upper v_p1_lower jr4 je5) (cwV 1 hts gX5_tryWrites_X0_atLeast rfl rfl rfl ⟨rfl, hdX0_atLeast⟩ ⟨Nat.le_of_ble_eq_true rfl, Nat.le_of_ble_eq_true rfl⟩) hP [1, 2] rfl KX.xs (fun U _ hW => hK.warm hW) (va_recv hK.1 hP (ci := 0) (q0 := 1) rfl rfl) rfl hl.1 rfl (Nat.le_of_ble_eq_true rfl) dX5_tryWrites_45 ⟨Nat.zero_le _, Nat.zero_le _⟩ ?_
      refine lv_imul hx hb dX5_tryWrites_48 ?_
      refine lv_iadd hx hb dX5_tryWrites_49 ?_
      refine lv_istore (lv' := [(6, .int ((jx3 * jr2) + (((10 : Int32) - jx3) * jr4))), (5, .int jr2), (0, .ref a_t), (1, .ref a_p1), (2, .int jx2), (3, .int jx3), (4, .int jx4)]) hx hb dX5_tryWrites_50 hl (by decide) rfl (fun ls hl => ?_)
      refine lv_iload hx hb dX5_tryWrites_52 (lv_at hl 0 rfl) ?_
      refine lv_aload_n hx hb dX5_tryWrites_54 rfl (lv_at hl 2 rfl) ?_
      refine va_get (D := D) (ci := 5) (v := .int v_t_much) (C := RX5) (T := TX5) (N := 3) hx hb hts iX5_tryWrites_X5 hown hK.1 hP 0 rfl rfl 0 (by decide) (hts _ mX5_tryWrites_2) (fun _ h9 => h9) rfl dX5_tryWrites_55 ?_
      refine lv_icmp_le (tgt := 78) hx hb dX5_tryWrites_58 (by decide) (fun jc6 => ?_) (fun jc6 => ?_)
      · have hf := ite_t jc6 hf
        refine lv_iinc (v := (jx4 + (1 : Int32))) (lv' := [(4, .int (jx4 + (1 : Int32))), (6, .int ((jx3 * jr2) + (((10 : Int32) - jx3) * jr4))), (5, .int jr2), (0, .ref a_t), (1, .ref a_p1), (2, .int jx2), (3, .int jx3)]) hx hb dX5_tryWrites_78 hl (k := 6) rfl rfl (by decide) rfl (fun ls hl => ?_)
        refine lv_goto (tgt := 10) hx hb dX5_tryWrites_81 (by decide) ?_
        exact ih (jx4 + (1 : Int32)) v_t_much v_t_votes v_t_write ls _ _ hf (lv_sub hl [3, 4, 5, 6, 0] rfl) hP hD hS
      · have hf := ite_f jc6 hf
        refine lv_aload_n hx hb dX5_tryWrites_61 rfl (lv_at hl 2 rfl) ?_
        refine lv_iload hx hb dX5_tryWrites_62 (lv_at hl 0 rfl) ?_
        refine va_put (D := D) (ci := 5) (v := .int ((jx3 * jr2) + (((10 : Int32) - jx3) * jr4))) (ty := .int) (C := RX5) (T := TX5) (N := 3) hx hb hts iX5_tryWrites_X5 tyX5 tyX5_ok nmX5 hown hK.1 hP hD hS 0 rfl rfl 0 (by decide) (hts _ mX5_tryWrites_2) (fun _ h9 => h9) rfl (tyX5_ok 0 (by decide)) rfl rfl (Nat.le_of_ble_eq_true rfl) dX5_tryWrites_64 (fun H locs hP hD hS => ?_)
        have hP : va_P D vwCl [(a_t, .inr (5, [.int ((jx3 * jr2) + (((10 : Int32) - jx3) * jr4)), .int v_t_votes, .int v_t_write])), (a_p1, .inr (0, [.ref a_p1_likely, .int v_p1_total, .int v_p1_upper, .int v_p1_lower])), (a_p1_likely, .inl (cI, 31, .inl v_p1_likely))] H := hP
        have hD : va_D A [(a_t, .inr (5, [.int ((jx3 * jr2) + (((10 : Int32) - jx3) * jr4)), .int v_t_votes, .int v_t_write])), (a_p1, .inr (0, [.ref a_p1_likely, .int v_p1_total, .int v_p1_upper, .int v_p1_lower])), (a_p1_likely, .inl (cI, 31, .inl v_p1_likely))] := hD
        refine lv_aload_n hx hb dX5_tryWrites_67 rfl (lv_at hl 2 rfl) ?_
        refine lv_iload_n hx hb dX5_tryWrites_68 rfl (lv_at hl 4 rfl) ?_
        refine va_put (D := D) (ci := 5) (v := .int jx2) (ty := .int) (C := RX5) (T := TX5) (N := 3) hx hb hts iX5_tryWrites_X5 tyX5 tyX5_ok nmX5 hown hK.1 hP hD hS 0 rfl rfl 1 (by decide) (hts _ mX5_tryWrites_3) (fun _ h9 => h9) rfl (tyX5_ok 1 (by decide)) rfl rfl (Nat.le_of_ble_eq_true rfl) dX5_tryWrites_69 (fun H locs hP hD hS => ?_)
        have hP : va_P D vwCl [(a_t, .inr (5, [.int ((jx3 * jr2) + (((10 : Int32) - jx3) * jr4)), .int jx2, .int v_t_write])), (a_p1, .inr (0, [.ref a_p1_likely, .int v_p1_total, .int v_p1_upper, .int v_p1_lower])), (a_p1_likely, .inl (cI, 31, .inl v_p1_likely))] H := hP
        have hD : va_D A [(a_t, .inr (5, [.int ((jx3 * jr2) + (((10 : Int32) - jx3) * jr4)), .int jx2, .int v_t_write])), (a_p1, .inr (0, [.ref a_p1_likely, .int v_p1_total, .int v_p1_upper, .int v_p1_lower])), (a_p1_likely, .inl (cI, 31, .inl v_p1_likely))] := hD
        refine lv_aload_n hx hb dX5_tryWrites_72 rfl (lv_at hl 2 rfl) ?_
        refine lv_iload hx hb dX5_tryWrites_73 (lv_at hl 6 rfl) ?_
        refine va_put (D := D) (ci := 5) (v := .int jx4) (ty := .int) (C := RX5) (T := TX5) (N := 3) hx hb hts iX5_tryWrites_X5 tyX5 tyX5_ok nmX5 hown hK.1 hP hD hS 0 rfl rfl 2 (by decide) (hts _ mX5_tryWrites_4) (fun _ h9 => h9) rfl (tyX5_ok 2 (by decide)) rfl rfl (Nat.le_of_ble_eq_true rfl) dX5_tryWrites_75 (fun H locs hP hD hS => ?_)
        have hP : va_P D vwCl [(a_t, .inr (5, [.int ((jx3 * jr2) + (((10 : Int32) - jx3) * jr4)), .int jx2, .int jx4])), (a_p1, .inr (0, [.ref a_p1_likely, .int v_p1_total, .int v_p1_upper, .int v_p1_lower])), (a_p1_likely, .inl (cI, 31, .inl v_p1_likely))] H := hP
        have hD : va_D A [(a_t, .inr (5, [.int ((jx3 * jr2) + (((10 : Int32) - jx3) * jr4)), .int jx2, .int jx4])), (a_p1, .inr (0, [.ref a_p1_likely, .int v_p1_total, .int v_p1_upper, .int v_p1_lower])), (a_p1_likely, .inl (cI, 31, .inl v_p1_likely))] := hD
        refine lv_iinc (v := (jx4 + (1 : Int32))) (lv' := [(4, .int (jx4 + (1 : Int32))), (6, .int ((jx3 * jr2) + (((10 : Int32) - jx3) * jr4))), (5, .int jr2), (0, .ref a_t), (1, .ref a_p1), (2, .int jx2), (3, .int jx3)]) hx hb dX5_tryWrites_78 hl (k := 6) rfl rfl (by decide) rfl (fun ls hl => ?_)
        refine lv_goto (tgt := 10) hx hb dX5_tryWrites_81 (by decide) ?_
        exact ih (jx4 + (1 : Int32)) ((jx3 * jr2) + (((10 : Int32) - jx3) * jr4)) jx2 jx4 ls _ _ hf (lv_sub hl [3, 4, 5, 6, 0] rfl) hP hD hS
theorem hdX5_tryWrites : yX5_tryWrites.cls ≠ "java/lang/invoke/MethodHandle" ∧ yX5_tryWrites.cls ≠ "java/lang/invoke/VarHandle" ∧ (parseMethodDescriptor yX5_tryWrites.desc).map (fun d => d.parameters.length) = some 3 := by decide +kernel
set_option maxHeartbeats 4000000 in
set_option maxRecDepth 100000 in
theorem ctX5_tryWrites (l : Launch) (D : va_G) (cI cZ : ClassId) (a_t a_p1 a_p1_likely : Nat) (jx2 : Int32) (jx3 : Int32) (v_t_much : Int32) (v_t_votes : Int32) (v_t_write : Int32) (v_p1_total : Int32) (v_p1_likely : (Nat → Int32)) (v_p1_upper : Int32) (v_p1_lower : Int32) (o_t_much : Int32) (o_t_votes : Int32) (o_t_write : Int32) (hf : fX5_tryWrites jx2 jx3 v_t_much v_t_votes v_t_write v_p1_total v_p1_likely = some (o_t_much, o_t_votes, o_t_write)) : cM l yX5_tryWrites wsX5_tryWrites rmX5_tryWrites [.ref a_t, .ref a_p1, .int jx2, .int jx3] D [(a_t, .inr (5, [.int v_t_much, .int v_t_votes, .int v_t_write])), (a_p1, .inr (0, [.ref a_p1_likely, .int v_p1_total, .int v_p1_upper, .int v_p1_lower])), (a_p1_likely, .inl (cI, 31, .inl v_p1_likely))] [(a_t, .inr (5, [.int o_t_much, .int o_t_votes, .int o_t_write])), (a_p1, .inr (0, [.ref a_p1_likely, .int v_p1_total, .int v_p1_upper, .int v_p1_lower])), (a_p1_likely, .inl (cI, 31, .inl v_p1_likely))] (KX D cI cZ) none := by
  refine cM_of (cc := cX5_tryWrites) (maxL := 7) (ret := none) (by decide +kernel) rfl _ (Nat.le_of_ble_eq_true rfl) ?_
  intro p e s m below meth c ls A S hr hlk hP hK hl hD hA hS
  obtain ⟨hx, hb, hml, hown, hts⟩ := id S
  have hl : lv_has ls 7 [(0, .ref a_t), (1, .ref a_p1), (2, .int jx2), (3, .int jx3)] := hl
  unfold fX5_tryWrites at hf
  refine lv_aload_n hx hb dX5_tryWrites_0 rfl (lv_at hl 1 rfl) ?_
  refine va_get (D := D) (ci := 0) (v := .int v_p1_total) (C := RX0) (T := TX0) (N := 4) hx hb hts iX5_tryWrites_X0 hown hK.1 hP 1 rfl rfl 1 (by decide) (hts _ mX5_tryWrites_1) (fun _ h9 => h9) rfl dX5_tryWrites_1 ?_
  refine lv_iconst (v := 2) hx hb dX5_tryWrites_4 (by decide) ?_
  refine lv_idiv hx hb dX5_tryWrites_5 (by decide) ?_
  refine lv_iconst (v := 1) hx hb dX5_tryWrites_6 (by decide) ?_
  refine lv_iadd hx hb dX5_tryWrites_7 ?_
  refine lv_istore (lv' := [(4, .int ((v_p1_total / (2 : Int32)) + (1 : Int32))), (0, .ref a_t), (1, .ref a_p1), (2, .int jx2), (3, .int jx3)]) hx hb dX5_tryWrites_8 hl (by decide) rfl (fun ls hl => ?_)
  exact wX5_tryWrites_10 S hr hlk hK hA fuel ((v_p1_total / (2 : Int32)) + (1 : Int32)) v_t_much v_t_votes v_t_write ls _ _ hf (lv_sub hl [1, 2, 3, 4, 0] rfl) hP hD hS
def fX5_run_35 (jk9 : Int32 → Int32 → Int32 → Int32 → Int32 → (Nat → Int32) → Option (Int32 × Int32 × Int32 × Int32 × (Nat → Int32))) (jx2 : Int32) (jx3 : Int32) (jx4 : Int32) (jx5 : Int32) : Nat → Int32 → Int32 → Int32 → Int32 → Int32 → (Nat → Int32) → Option (Int32 × Int32 × Int32 × Int32 × (Nat → Int32))
  | 0, _, _, _, _, _, _ => none
  | n + 1, jx6, v_t_much, v_t_votes, v_t_write, v_p1_total, v_p1_likely => if jx2 ≤ jx6 then bd3 (fX5_tryWrites jx5 jx4 v_t_much v_t_votes v_t_write v_p1_total v_p1_likely) (fun jg2 jg3 jg4 => jk9 (jx5 + (1 : Int32)) jg2 jg3 jg4 v_p1_total v_p1_likely) else bd1 (fX5_votesIn jx5 jx6) (fun jr6 => bd2 (fX0_join jr6 jx3 v_p1_total v_p1_likely) (fun jg8 jg9 => (fX5_run_35 jk9 jx2 jx3 jx4 jx5 n) (jx6 + (1 : Int32)) v_t_much v_t_votes v_t_write jg8 jg9))
theorem fX5_run_35_s (jk9 : Int32 → Int32 → Int32 → Int32 → Int32 → (Nat → Int32) → Option (Int32 × Int32 × Int32 × Int32 × (Nat → Int32))) (jx2 : Int32) (jx3 : Int32) (jx4 : Int32) (jx5 : Int32) (n : Nat) (jx6 : Int32) (v_t_much : Int32) (v_t_votes : Int32) (v_t_write : Int32) (v_p1_total : Int32) (v_p1_likely : (Nat → Int32)) : fX5_run_35 jk9 jx2 jx3 jx4 jx5 (n + 1) jx6 v_t_much v_t_votes v_t_write v_p1_total v_p1_likely = if jx2 ≤ jx6 then bd3 (fX5_tryWrites jx5 jx4 v_t_much v_t_votes v_t_write v_p1_total v_p1_likely) (fun jg2 jg3 jg4 => jk9 (jx5 + (1 : Int32)) jg2 jg3 jg4 v_p1_total v_p1_likely) else bd1 (fX5_votesIn jx5 jx6) (fun jr6 => bd2 (fX0_join jr6 jx3 v_p1_total v_p1_likely) (fun jg8 jg9 => (fX5_run_35 jk9 jx2 jx3 jx4 jx5 n) (jx6 + (1 : Int32)) v_t_much v_t_votes v_t_write jg8 jg9)) := rfl
def fX5_run_9 (jx2 : Int32) (jx3 : Int32) (jx4 : Int32) : Nat → Int32 → Int32 → Int32 → Int32 → Int32 → (Nat → Int32) → Option (Int32 × Int32 × Int32 × Int32 × (Nat → Int32))
  | 0, _, _, _, _, _, _ => none
  | n + 1, jx5, v_t_much, v_t_votes, v_t_write, v_p1_total, v_p1_likely => if ((1 : Int32) <<< (((2 : Int32) * jx2) &&& 31)) ≤ jx5 then some (v_t_much, v_t_votes, v_t_write, v_p1_total, v_p1_likely) else bd1 (fX5_isFalling jx5 jx2) (fun jr2 => if jr2 = 0 then (fX5_run_9 jx2 jx3 jx4 n) (jx5 + (1 : Int32)) v_t_much v_t_votes v_t_write v_p1_total v_p1_likely else bd2 (fX0_begin v_p1_total v_p1_likely) (fun jg5 jg6 => fX5_run_35 (fX5_run_9 jx2 jx3 jx4 n) jx2 jx3 jx4 jx5 fuel (0 : Int32) v_t_much v_t_votes v_t_write jg5 jg6))
theorem fX5_run_9_s (jx2 : Int32) (jx3 : Int32) (jx4 : Int32) (n : Nat) (jx5 : Int32) (v_t_much : Int32) (v_t_votes : Int32) (v_t_write : Int32) (v_p1_total : Int32) (v_p1_likely : (Nat → Int32)) : fX5_run_9 jx2 jx3 jx4 (n + 1) jx5 v_t_much v_t_votes v_t_write v_p1_total v_p1_likely = if ((1 : Int32) <<< (((2 : Int32) * jx2) &&& 31)) ≤ jx5 then some (v_t_much, v_t_votes, v_t_write, v_p1_total, v_p1_likely) else bd1 (fX5_isFalling jx5 jx2) (fun jr2 => if jr2 = 0 then (fX5_run_9 jx2 jx3 jx4 n) (jx5 + (1 : Int32)) v_t_much v_t_votes v_t_write v_p1_total v_p1_likely else bd2 (fX0_begin v_p1_total v_p1_likely) (fun jg5 jg6 => fX5_run_35 (fX5_run_9 jx2 jx3 jx4 n) jx2 jx3 jx4 jx5 fuel (0 : Int32) v_t_much v_t_votes v_t_write jg5 jg6)) := rfl
def fX5_run (jx2 : Int32) (jx3 : Int32) (jx4 : Int32) (v_t_much : Int32) (v_t_votes : Int32) (v_t_write : Int32) (v_p1_total : Int32) (v_p1_likely : (Nat → Int32)) : Option (Int32 × Int32 × Int32 × Int32 × (Nat → Int32)) := fX5_run_9 jx2 jx3 jx4 fuel (1 : Int32) (-9 : Int32) v_t_votes v_t_write v_p1_total v_p1_likely
abbrev rmX5_run : Room := { frames := 3, cells := 0, slots := 0, locals := 70 }
theorem iX5_run_X5 : ∀ w ∈ wsX50, w ∈ wsX5_run := fun _ h => List.mem_cons_of_mem _ (List.mem_append_left _ (List.mem_append_right _ h))
theorem mX5_run_1 : (Cond.fieldLink RX5 9 "VoteFiles$Search" "much" "I") ∈ wsX5_run := List.mem_of_getElem? (i := 1) rfl
set_option maxHeartbeats 4000000 in
set_option maxRecDepth 100000 in
theorem wX5_run_35 {p : Program} {l : Launch} {e : Env} {s : State} {m : MethodId} {args : Array Value} {below : List Frame} {meth : Method} {c : Code} {D : va_G} {cI cZ : ClassId} (S : CallFix p m c cX5_run 7 s args wsX5_run RX5) (hr : meth.sig.returnType = none) (hlk : meth.locks = false) (hK : KX D cI cZ s) {a_t a_p1 a_p1_likely : Nat} {jk9 : Int32 → Int32 → Int32 → Int32 → Int32 → (Nat → Int32) → Option (Int32 × Int32 × Int32 × Int32 × (Nat → Int32))} {jx2 : Int32} {jx3 : Int32} {jx4 : Int32} {jx5 : Int32} {v_p1_upper : Int32} {v_p1_lower : Int32} {o_t_much : Int32} {o_t_votes : Int32} {o_t_write : Int32} {o_p1_total : Int32} {o_p1_likely : (Nat → Int32)} {A : Nat → Prop} (hA : ∀ q : Nat, s.heap.size ≤ q → A q) (hk9 : ∀ (jx5 : Int32) (v_t_much : Int32) (v_t_votes : Int32) (v_t_write : Int32) (v_p1_total : Int32) (v_p1_likely : (Nat → Int32)) (ls : Array Slot) (H : Heap) (locs : List Loc), jk9 jx5 v_t_much v_t_votes v_t_write v_p1_total v_p1_likely = some (o_t_much, o_t_votes, o_t_write, o_p1_total, o_p1_likely) → lv_has ls 7 [(0, .ref a_t), (1, .ref a_p1), (2, .int jx2), (3, .int jx3), (4, .int jx4), (5, .int jx5)] → va_P D vwCl [(a_t, .inr (5, [.int v_t_much, .int v_t_votes, .int v_t_write])), (a_p1, .inr (0, [.ref a_p1_likely, .int v_p1_total, .int v_p1_upper, .int v_p1_lower])), (a_p1_likely, .inl (cI, 31, .inl v_p1_likely))] H → va_D A [(a_t, .inr (5, [.int v_t_much, .int v_t_votes, .int v_t_write])), (a_p1, .inr (0, [.ref a_p1_likely, .int v_p1_total, .int v_p1_upper, .int v_p1_lower])), (a_p1_likely, .inl (cI, 31, .inl v_p1_likely))] → va_S A s.heap H locs → W p l e rmX5_run s m args below meth c H locs 0 0 (MQ below (qM D none [(a_t, .inr (5, [.int o_t_much, .int o_t_votes, .int o_t_write])), (a_p1, .inr (0, [.ref a_p1_likely, .int o_p1_total, .int v_p1_upper, .int v_p1_lower])), (a_p1_likely, .inl (cI, 31, .inl o_p1_likely))] A) args s 0 0 A) (F0 m 9 ls [])) : ∀ (n : Nat), ∀ (jx6 : Int32) (v_t_much : Int32) (v_t_votes : Int32) (v_t_write : Int32) (v_p1_total : Int32) (v_p1_likely : (Nat → Int32)) (ls : Array Slot) (H : Heap) (locs : List Loc), fX5_run_35 jk9 jx2 jx3 jx4 jx5 n jx6 v_t_much v_t_votes v_t_write v_p1_total v_p1_likely = some (o_t_much, o_t_votes, o_t_write, o_p1_total, o_p1_likely) → lv_has ls 7 [(0, .ref a_t), (1, .ref a_p1), (2, .int jx2), (3, .int jx3), (4, .int jx4), (5, .int jx5), (6, .int jx6)] → va_P D vwCl [(a_t, .inr (5, [.int v_t_much, .int v_t_votes, .int v_t_write])), (a_p1, .inr (0, [.ref a_p1_likely, .int v_p1_total, .int v_p1_upper, .int v_p1_lower])), (a_p1_likely, .inl (cI, 31, .inl v_p1_likely))] H → va_D A [(a_t, .inr (5, [.int v_t_much, .int v_t_votes, .int v_t_write])), (a_p1, .inr (0, [.ref a_p1_likely, .int v_p1_total, .int v_p1_upper, .int v_p1_lower])), (a_p1_likely, .inl (cI, 31, .inl v_p1_likely))] → va_S A s.heap H locs → W p l e rmX5_run s m args below meth c H locs 0 0 (MQ below (qM D none [(a_t, .inr (5, [.int o_t_much, .int o_t_votes, .int o_t_write])), (a_p1, .inr (0, [.ref a_p1_likely, .int o_p1_total, .int v_p1_upper, .int v_p1_lower])), (a_p1_likely, .inl (cI, 31, .inl o_p1_likely))] A) args s 0 0 A) (F0 m 35 ls []) := by
  obtain ⟨hx, hb, hml, hown, hts⟩ := id S
  intro n
  induction n with
  | zero =>
    intro jx6 v_t_much v_t_votes v_t_write v_p1_total v_p1_likely ls H locs hf hl hP hD hS
    cases (show (none : Option _) = some _ from hf)
  | succ n ih =>
    intro jx6 v_t_much v_t_votes v_t_write v_p1_total v_p1_likely ls H locs hf hl hP hD hS
    have hf := (fX5_run_35_s _ _ _ _ _ n _ _ _ _ _ _).symm.trans hf
    refine lv_iload hx hb dX5_run_35 (lv_at hl 6 rfl) ?_
    refine lv_iload_n hx hb dX5_run_37 rfl (lv_at hl 2 rfl) ?_
    refine lv_icmp_ge (tgt := 59) hx hb dX5_run_38 (by decide) (fun jc1 => ?_) (fun jc1 => ?_)
    · have hf := ite_t jc1 hf
      refine lv_aload_n hx hb dX5_run_59 rfl (lv_at hl 0 rfl) ?_
      refine lv_aload_n hx hb dX5_run_60 rfl (lv_at hl 1 rfl) ?_
      refine lv_iload hx hb dX5_run_61 (lv_at hl 5 rfl) ?_
      refine lv_iload hx hb dX5_run_63 (lv_at hl 4 rfl) ?_
      obtain ⟨jg2, jg3, jg4, je5, hf⟩ := bd3_inv hf
      refine callMV (As := [.ref a_p1, .int jx5, .int jx4]) (rest := []) (wr := []) (wn := [(a_t, .inr (5, [.int jg2, .int jg3, .int jg4])), (a_p1, .inr (0, [.ref a_p1_likely, .int v_p1_total, .int v_p1_upper, .int v_p1_lower])), (a_p1_likely, .inl (cI, 31, .inl v_p1_likely))]) S (ctX5_tryWrites l D cI cZ a_t a_p1 a_p1_likely jx5 jx4 v_t_much v_t_votes v_t_write v_p1_total v_p1_likely v_p1_upper v_p1_lower jg2 jg3 jg4 je5) (cwV 3 hts gX5_run_X5_tryWrites rfl rfl rfl ⟨rfl, hdX5_tryWrites⟩ ⟨Nat.le_of_ble_eq_true rfl, Nat.le_of_ble_eq_true rfl⟩) hP hD hS hA [0, 1, 2] [] [0, 1, 2] rfl rfl (by decide) (by decide) (by decide) (by decide) rfl KX.xs (fun U _ hW => hK.warm hW) (va_recv hK.1 hP (ci := 5) (q0 := 0) rfl rfl) rfl hl.1 rfl (Nat.le_of_ble_eq_true rfl) dX5_run_65 ⟨Nat.zero_le _, Nat.zero_le _⟩ (fun H locs hP hD hS => ?_)
      refine W.eq (g2 := F0 m 68 ls []) rfl ?_
      refine lv_iinc (v := (jx5 + (1 : Int32))) (lv' := [(5, .int (jx5 + (1 : Int32))), (0, .ref a_t), (1, .ref a_p1), (2, .int jx2), (3, .int jx3), (4, .int jx4), (6, .int jx6)]) hx hb dX5_run_68 hl (k := 5) rfl rfl (by decide) rfl (fun ls hl => ?_)
      refine lv_goto (tgt := 9) hx hb dX5_run_71 (by decide) ?_
      exact hk9 (jx5 + (1 : Int32)) jg2 jg3 jg4 v_p1_total v_p1_likely ls _ _ hf (lv_sub hl [1, 2, 3, 4, 5, 0] rfl) hP hD hS
    · have hf := ite_f jc1 hf
      refine lv_aload_n hx hb dX5_run_41 rfl (lv_at hl 1 rfl) ?_
      refine lv_iload hx hb dX5_run_42 (lv_at hl 5 rfl) ?_
      refine lv_iload hx hb dX5_run_44 (lv_at hl 6 rfl) ?_
      obtain ⟨jr6, je7, hf⟩ := bd1_inv hf
      refine callRS (As := [.int jx5, .int jx6]) (rest := [.ref a_p1]) S (ctX5_votesIn l D cI cZ jx5 jx6 jr6 je7) (va_cwS 2 hts gX5_run_X5_votesIn rfl rfl rfl hdX5_votesIn ⟨Nat.le_of_ble_eq_true rfl, Nat.le_of_ble_eq_true rfl⟩) hP [] rfl KX.xs (fun U _ hW => hK.warm hW) rfl hl.1 rfl (Nat.le_of_ble_eq_true rfl) dX5_run_46 ⟨Nat.zero_le _, Nat.zero_le _⟩ ?_
      refine lv_iload_n hx hb dX5_run_49 rfl (lv_at hl 3 rfl) ?_
      obtain ⟨jg8, jg9, je10, hf⟩ := bd2_inv hf
      refine callMV (As := [.int jr6, .int jx3]) (rest := []) (wr := [(a_t, .inr (5, [.int v_t_much, .int v_t_votes, .int v_t_write]))]) (wn := [(a_t, .inr (5, [.int v_t_much, .int v_t_votes, .int v_t_write])), (a_p1, .inr (0, [.ref a_p1_likely, .int jg8, .int v_p1_upper, .int v_p1_lower])), (a_p1_likely, .inl (cI, 31, .inl jg9))]) S (ctX0_join l D cI cZ a_p1 a_p1_likely jr6 jx3 v_p1_total v_p1_likely v_p1_upper v_p1_lower jg8 jg9 je10) (cwV 2 hts gX5_run_X0_join rfl rfl rfl ⟨rfl, hdX0_join⟩ ⟨Nat.le_of_ble_eq_true rfl, Nat.le_of_ble_eq_true rfl⟩) hP hD hS hA [1, 2] [0] [0, 1, 2] rfl rfl (by decide) (by decide) (by decide) (by decide) rfl KX.xs (fun U _ hW => hK.warm hW) (va_recv hK.1 hP (ci := 0) (q0 := 1) rfl rfl) rfl hl.1 rfl (Nat.le_of_ble_eq_true rfl) dX5_run_50 ⟨Nat.zero_le _, Nat.zero_le _⟩ (fun H locs hP hD hS => ?_)
      refine W.eq (g2 := F0 m 53 ls []) rfl ?_
      refine lv_iinc (v := (jx6 + (1 : Int32))) (lv' := [(6, .int (jx6 + (1 : Int32))), (0, .ref a_t), (1, .ref a_p1), (2, .int jx2), (3, .int jx3), (4, .int jx4), (5, .int jx5)]) hx hb dX5_run_53 hl (k := 6) rfl rfl (by decide) rfl (fun ls hl => ?_)
      refine lv_goto (tgt := 35) hx hb dX5_run_56 (by decide) ?_
      exact ih (jx6 + (1 : Int32)) v_t_much v_t_votes v_t_write jg8 jg9 ls _ _ hf (lv_sub hl [1, 2, 3, 4, 5, 6, 0] rfl) hP hD hS
set_option maxHeartbeats 4000000 in
set_option maxRecDepth 100000 in
theorem wX5_run_9 {p : Program} {l : Launch} {e : Env} {s : State} {m : MethodId} {args : Array Value} {below : List Frame} {meth : Method} {c : Code} {D : va_G} {cI cZ : ClassId} (S : CallFix p m c cX5_run 7 s args wsX5_run RX5) (hr : meth.sig.returnType = none) (hlk : meth.locks = false) (hK : KX D cI cZ s) {a_t a_p1 a_p1_likely : Nat} {jx2 : Int32} {jx3 : Int32} {jx4 : Int32} {v_p1_upper : Int32} {v_p1_lower : Int32} {o_t_much : Int32} {o_t_votes : Int32} {o_t_write : Int32} {o_p1_total : Int32} {o_p1_likely : (Nat → Int32)} {A : Nat → Prop} (hA : ∀ q : Nat, s.heap.size ≤ q → A q) : ∀ (n : Nat), ∀ (jx5 : Int32) (v_t_much : Int32) (v_t_votes : Int32) (v_t_write : Int32) (v_p1_total : Int32) (v_p1_likely : (Nat → Int32)) (ls : Array Slot) (H : Heap) (locs : List Loc), fX5_run_9 jx2 jx3 jx4 n jx5 v_t_much v_t_votes v_t_write v_p1_total v_p1_likely = some (o_t_much, o_t_votes, o_t_write, o_p1_total, o_p1_likely) → lv_has ls 7 [(0, .ref a_t), (1, .ref a_p1), (2, .int jx2), (3, .int jx3), (4, .int jx4), (5, .int jx5)] → va_P D vwCl [(a_t, .inr (5, [.int v_t_much, .int v_t_votes, .int v_t_write])), (a_p1, .inr (0, [.ref a_p1_likely, .int v_p1_total, .int v_p1_upper, .int v_p1_lower])), (a_p1_likely, .inl (cI, 31, .inl v_p1_likely))] H → va_D A [(a_t, .inr (5, [.int v_t_much, .int v_t_votes, .int v_t_write])), (a_p1, .inr (0, [.ref a_p1_likely, .int v_p1_total, .int v_p1_upper, .int v_p1_lower])), (a_p1_likely, .inl (cI, 31, .inl v_p1_likely))] → va_S A s.heap H locs → W p l e rmX5_run s m args below meth c H locs 0 0 (MQ below (qM D none [(a_t, .inr (5, [.int o_t_much, .int o_t_votes, .int o_t_write])), (a_p1, .inr (0, [.ref a_p1_likely, .int o_p1_total, .int v_p1_upper, .int v_p1_lower])), (a_p1_likely, .inl (cI, 31, .inl o_p1_likely))] A) args s 0 0 A) (F0 m 9 ls []) := by
  obtain ⟨hx, hb, hml, hown, hts⟩ := id S
  intro n
  induction n with
  | zero =>
    intro jx5 v_t_much v_t_votes v_t_write v_p1_total v_p1_likely ls H locs hf hl hP hD hS
    cases (show (none : Option _) = some _ from hf)
  | succ n ih =>
    intro jx5 v_t_much v_t_votes v_t_write v_p1_total v_p1_likely ls H locs hf hl hP hD hS
    have hf := (fX5_run_9_s _ _ _ n _ _ _ _ _ _).symm.trans hf
    refine lv_iload hx hb dX5_run_9 (lv_at hl 5 rfl) ?_
    refine lv_iconst (v := 1) hx hb dX5_run_11 (by decide) ?_
    refine lv_iconst (v := 2) hx hb dX5_run_12 (by decide) ?_
    refine lv_iload_n hx hb dX5_run_13 rfl (lv_at hl 2 rfl) ?_
    refine lv_imul hx hb dX5_run_14 ?_
    refine lv_ishl hx hb dX5_run_15 ?_
    refine lv_icmp_ge (tgt := 74) hx hb dX5_run_16 (by decide) (fun jc1 => ?_) (fun jc1 => ?_)
    · have hf := ite_t jc1 hf
      obtain ⟨rfl, rfl, rfl, rfl, rfl⟩ := pr5_inv hf
      exact retMv hx hb hr hlk hP hD hS dX5_run_74
    · have hf := ite_f jc1 hf
      refine lv_iload hx hb dX5_run_19 (lv_at hl 5 rfl) ?_
      refine lv_iload_n hx hb dX5_run_21 rfl (lv_at hl 2 rfl) ?_
      obtain ⟨jr2, je3, hf⟩ := bd1_inv hf
      refine callRS (As := [.int jx5, .int jx2]) (rest := []) S (ctX5_isFalling l D cI cZ jx5 jx2 jr2 je3) (va_cwS 2 hts gX5_run_X5_isFalling rfl rfl rfl hdX5_isFalling ⟨Nat.le_of_ble_eq_true rfl, Nat.le_of_ble_eq_true rfl⟩) hP [] rfl KX.xs (fun U _ hW => hK.warm hW) rfl hl.1 rfl (Nat.le_of_ble_eq_true rfl) dX5_run_22 ⟨Nat.zero_le _, Nat.zero_le _⟩ ?_
      refine lv_if_eq (tgt := 68) hx hb dX5_run_25 (by decide) (fun jc4 => ?_) (fun jc4 => ?_)
      · have hf := ite_t jc4 hf
        refine lv_iinc (v := (jx5 + (1 : Int32))) (lv' := [(5, .int (jx5 + (1 : Int32))), (0, .ref a_t), (1, .ref a_p1), (2, .int jx2), (3, .int jx3), (4, .int jx4)]) hx hb dX5_run_68 hl (k := 5) rfl rfl (by decide) rfl (fun ls hl => ?_)
        refine lv_goto (tgt := 9) hx hb dX5_run_71 (by decide) ?_
        exact ih (jx5 + (1 : Int32)) v_t_much v_t_votes v_t_write v_p1_total v_p1_likely ls _ _ hf (lv_sub hl [1, 2, 3, 4, 5, 0] rfl) hP hD hS
      · have hf := ite_f jc4 hf
        refine lv_aload_n hx hb dX5_run_28 rfl (lv_at hl 1 rfl) ?_
        obtain ⟨jg5, jg6, je7, hf⟩ := bd2_inv hf
        refine callMV (As := []) (rest := []) (wr := [(a_t, .inr (5, [.int v_t_much, .int v_t_votes, .int v_t_write]))]) (wn := [(a_t, .inr (5, [.int v_t_much, .int v_t_votes, .int v_t_write])), (a_p1, .inr (0, [.ref a_p1_likely, .int jg5, .int v_p1_upper, .int v_p1_lower])), (a_p1_likely, .inl (cI, 31, .inl jg6))]) S (ctX0_begin l D cI cZ a_p1 a_p1_likely v_p1_total v_p1_likely v_p1_upper v_p1_lower jg5 jg6 je7) (cwV 0 hts gX5_run_X0_begin rfl rfl rfl ⟨rfl, hdX0_begin⟩ ⟨Nat.le_of_ble_eq_true rfl, Nat.le_of_ble_eq_true rfl⟩) hP hD hS hA [1, 2] [0] [0, 1, 2] rfl rfl (by decide) (by decide) (by decide) (by decide) rfl KX.xs (fun U _ hW => hK.warm hW) (va_recv hK.1 hP (ci := 0) (q0 := 1) rfl rfl) rfl hl.1 rfl (Nat.le_of_ble_eq_true rfl) dX5_run_29 ⟨Nat.zero_le _, Nat.zero_le _⟩ (fun H locs hP hD hS => ?_)
        refine W.eq (g2 := F0 m 32 ls []) rfl ?_
        refine lv_iconst (v := 0) hx hb dX5_run_32 (by decide) ?_
        refine lv_istore (lv' := [(6, .int (0 : Int32)), (0, .ref a_t), (1, .ref a_p1), (2, .int jx2), (3, .int jx3), (4, .int jx4), (5, .int jx5)]) hx hb dX5_run_33 hl (by decide) rfl (fun ls hl => ?_)
        exact wX5_run_35 S hr hlk hK hA ih fuel (0 : Int32) v_t_much v_t_votes v_t_write jg5 jg6 ls _ _ hf (lv_sub hl [1, 2, 3, 4, 5, 6, 0] rfl) hP hD hS
theorem hdX5_run : yX5_run.cls ≠ "java/lang/invoke/MethodHandle" ∧ yX5_run.cls ≠ "java/lang/invoke/VarHandle" ∧ (parseMethodDescriptor yX5_run.desc).map (fun d => d.parameters.length) = some 4 := by decide +kernel
set_option maxHeartbeats 4000000 in
set_option maxRecDepth 100000 in
theorem ctX5_run (l : Launch) (D : va_G) (cI cZ : ClassId) (a_t a_p1 a_p1_likely : Nat) (jx2 : Int32) (jx3 : Int32) (jx4 : Int32) (v_t_much : Int32) (v_t_votes : Int32) (v_t_write : Int32) (v_p1_total : Int32) (v_p1_likely : (Nat → Int32)) (v_p1_upper : Int32) (v_p1_lower : Int32) (o_t_much : Int32) (o_t_votes : Int32) (o_t_write : Int32) (o_p1_total : Int32) (o_p1_likely : (Nat → Int32)) (hf : fX5_run jx2 jx3 jx4 v_t_much v_t_votes v_t_write v_p1_total v_p1_likely = some (o_t_much, o_t_votes, o_t_write, o_p1_total, o_p1_likely)) : cM l yX5_run wsX5_run rmX5_run [.ref a_t, .ref a_p1, .int jx2, .int jx3, .int jx4] D [(a_t, .inr (5, [.int v_t_much, .int v_t_votes, .int v_t_write])), (a_p1, .inr (0, [.ref a_p1_likely, .int v_p1_total, .int v_p1_upper, .int v_p1_lower])), (a_p1_likely, .inl (cI, 31, .inl v_p1_likely))] [(a_t, .inr (5, [.int o_t_much, .int o_t_votes, .int o_t_write])), (a_p1, .inr (0, [.ref a_p1_likely, .int o_p1_total, .int v_p1_upper, .int v_p1_lower])), (a_p1_likely, .inl (cI, 31, .inl o_p1_likely))] (KX D cI cZ) none := by
  refine cM_of (cc := cX5_run) (maxL := 7) (ret := none) (by decide +kernel) rfl _ (Nat.le_of_ble_eq_true rfl) ?_
  intro p e s m below meth c ls A S hr hlk hP hK hl hD hA hS
  obtain ⟨hx, hb, hml, hown, hts⟩ := id S
  have hl : lv_has ls 7 [(0, .ref a_t), (1, .ref a_p1), (2, .int jx2), (3, .int jx3), (4, .int jx4)] := hl
  unfold fX5_run at hf
  refine lv_aload_n hx hb dX5_run_0 rfl (lv_at hl 0 rfl) ?_
  refine lv_bipush (v := -9) hx hb dX5_run_1 (by decide) ?_
  refine va_put (D := D) (ci := 5) (v := .int (-9 : Int32)) (ty := .int) (C := RX5) (T := TX5) (N := 3) hx hb hts iX5_run_X5 tyX5 tyX5_ok nmX5 hown hK.1 hP hD hS 0 rfl rfl 0 (by decide) (hts _ mX5_run_1) (fun _ h9 => h9) rfl (tyX5_ok 0 (by decide)) rfl rfl (Nat.le_of_ble_eq_true rfl) dX5_run_3 (fun H locs hP hD hS => ?_)
  have hP : va_P D vwCl [(a_t, .inr (5, [.int (-9 : Int32), .int v_t_votes, .int v_t_write])), (a_p1, .inr (0, [.ref a_p1_likely, .int v_p1_total, .int v_p1_upper, .int v_p1_lower])), (a_p1_likely, .inl (cI, 31, .inl v_p1_likely))] H := hP
  have hD : va_D A [(a_t, .inr (5, [.int (-9 : Int32), .int v_t_votes, .int v_t_write])), (a_p1, .inr (0, [.ref a_p1_likely, .int v_p1_total, .int v_p1_upper, .int v_p1_lower])), (a_p1_likely, .inl (cI, 31, .inl v_p1_likely))] := hD
  refine lv_iconst (v := 1) hx hb dX5_run_6 (by decide) ?_
  refine lv_istore (lv' := [(5, .int (1 : Int32)), (0, .ref a_t), (1, .ref a_p1), (2, .int jx2), (3, .int jx3), (4, .int jx4)]) hx hb dX5_run_7 hl (by decide) rfl (fun ls hl => ?_)
  exact wX5_run_9 S hr hlk hK hA fuel (1 : Int32) (-9 : Int32) v_t_votes v_t_write v_p1_total v_p1_likely ls _ _ hf (lv_sub hl [1, 2, 3, 4, 5, 0] rfl) hP hD hS
def fX6_append (jx1 : Int32) (jx2 : Int32) (v_t_size : Int32) (v_t_ways : (Nat → Int32)) (v_t_enough : (Nat → Int32)) : Option (Int32 × Int32 × (Nat → Int32) × (Nat → Int32)) := if v_t_size < (6 : Int32) then ckI 6 v_t_size (ckI 6 v_t_size (some ((1 : Int32), (v_t_size + (1 : Int32)), (upd v_t_ways (Int32.toNatClampNeg v_t_size) jx1), (upd v_t_enough (Int32.toNatClampNeg v_t_size) (vp_nar .boolean jx2))))) else some ((0 : Int32), v_t_size, v_t_ways, v_t_enough)
abbrev rmX6_append : Room := { frames := 0, cells := 0, slots := 0, locals := 0 }
theorem iX6_append_X6 : ∀ w ∈ wsX60, w ∈ wsX6_append := fun _ h => List.mem_cons_of_mem _ (List.mem_append_right _ h)
theorem mX6_append_1 : (Cond.fieldLink RX6 19 "VoteFiles$Seen" "size" "I") ∈ wsX6_append := List.mem_of_getElem? (i := 1) rfl
theorem mX6_append_2 : (Cond.fieldLink RX6 9 "VoteFiles$Seen" "ways" "[I") ∈ wsX6_append := List.mem_of_getElem? (i := 2) rfl
theorem mX6_append_3 : (Cond.fieldLink RX6 15 "VoteFiles$Seen" "enough" "[Z") ∈ wsX6_append := List.mem_of_getElem? (i := 3) rfl
theorem hdX6_append : yX6_append.cls ≠ "java/lang/invoke/MethodHandle" ∧ yX6_append.cls ≠ "java/lang/invoke/VarHandle" ∧ (parseMethodDescriptor yX6_append.desc).map (fun d => d.parameters.length) = some 2 := by decide +kernel
set_option maxHeartbeats 4000000 in
set_option maxRecDepth 100000 in
theorem ctX6_append (l : Launch) (D : va_G) (cI cZ : ClassId) (a_t a_t_ways a_t_enough : Nat) (jx1 : Int32) (jx2 : Int32) (v_t_size : Int32) (v_t_ways : (Nat → Int32)) (v_t_enough : (Nat → Int32)) (r : Int32) (o_t_size : Int32) (o_t_ways : (Nat → Int32)) (o_t_enough : (Nat → Int32)) (hf : fX6_append jx1 jx2 v_t_size v_t_ways v_t_enough = some (r, o_t_size, o_t_ways, o_t_enough)) : cM l yX6_append wsX6_append rmX6_append [.ref a_t, .int jx1, .int jx2] D [(a_t, .inr (6, [.ref a_t_ways, .ref a_t_enough, .int v_t_size])), (a_t_ways, .inl (cI, 6, .inl v_t_ways)), (a_t_enough, .inl (cZ, 6, .inl v_t_enough))] [(a_t, .inr (6, [.ref a_t_ways, .ref a_t_enough, .int o_t_size])), (a_t_ways, .inl (cI, 6, .inl o_t_ways)), (a_t_enough, .inl (cZ, 6, .inl o_t_enough))] (KX D cI cZ) (some (.int r)) := by
  refine cM_of (cc := cX6_append) (maxL := 3) (ret := some .boolean) (by decide +kernel) rfl _ (Nat.le_of_ble_eq_true rfl) ?_
  intro p e s m below meth c ls A S hr hlk hP hK hl hD hA hS
  obtain ⟨hx, hb, hml, hown, hts⟩ := id S
  have hl : lv_has ls 3 [(0, .ref a_t), (1, .int jx1), (2, .int jx2)] := hl
  unfold fX6_append at hf
  refine lv_aload_n hx hb dX6_append_0 rfl (lv_at hl 0 rfl) ?_
  refine va_get (D := D) (ci := 6) (v := .int v_t_size) (C := RX6) (T := TX6) (N := 3) hx hb hts iX6_append_X6 hown hK.1 hP 0 rfl rfl 2 (by decide) (hts _ mX6_append_1) (fun _ h9 => h9) rfl dX6_append_1 ?_
  refine lv_bipush (v := 6) hx hb dX6_append_4 (by decide) ?_
  refine lv_icmp_lt (tgt := 11) hx hb dX6_append_6 (by decide) (fun jc1 => ?_) (fun jc1 => ?_)
  · have hf := ite_t jc1 hf
    refine lv_aload_n hx hb dX6_append_11 rfl (lv_at hl 0 rfl) ?_
    refine va_get (D := D) (ci := 6) (v := .ref a_t_ways) (C := RX6) (T := TX6) (N := 3) hx hb hts iX6_append_X6 hown hK.1 hP 0 rfl rfl 0 (by decide) (hts _ mX6_append_2) (fun _ h9 => h9) rfl dX6_append_12 ?_
    refine lv_aload_n hx hb dX6_append_15 rfl (lv_at hl 0 rfl) ?_
    refine va_get (D := D) (ci := 6) (v := .int v_t_size) (C := RX6) (T := TX6) (N := 3) hx hb hts iX6_append_X6 hown hK.1 hP 0 rfl rfl 2 (by decide) (hts _ mX6_append_1) (fun _ h9 => h9) rfl dX6_append_16 ?_
    refine lv_iload_n hx hb dX6_append_19 rfl (lv_at hl 1 rfl) ?_
    obtain ⟨jh2, hf⟩ := ckI_inv hf
    refine va_iast hx hb hK.1 hP hD hS 1 0 rfl rfl jh2 dX6_append_20 (fun H locs hP hD hS => ?_)
    have hP : va_P D vwCl [(a_t, .inr (6, [.ref a_t_ways, .ref a_t_enough, .int v_t_size])), (a_t_ways, .inl (cI, 6, .inl (upd v_t_ways (Int32.toNatClampNeg v_t_size) jx1))), (a_t_enough, .inl (cZ, 6, .inl v_t_enough))] H := hP
    have hD : va_D A [(a_t, .inr (6, [.ref a_t_ways, .ref a_t_enough, .int v_t_size])), (a_t_ways, .inl (cI, 6, .inl (upd v_t_ways (Int32.toNatClampNeg v_t_size) jx1))), (a_t_enough, .inl (cZ, 6, .inl v_t_enough))] := hD
    refine lv_aload_n hx hb dX6_append_21 rfl (lv_at hl 0 rfl) ?_
    refine va_get (D := D) (ci := 6) (v := .ref a_t_enough) (C := RX6) (T := TX6) (N := 3) hx hb hts iX6_append_X6 hown hK.1 hP 0 rfl rfl 1 (by decide) (hts _ mX6_append_3) (fun _ h9 => h9) rfl dX6_append_22 ?_
    refine lv_aload_n hx hb dX6_append_25 rfl (lv_at hl 0 rfl) ?_
    refine va_get (D := D) (ci := 6) (v := .int v_t_size) (C := RX6) (T := TX6) (N := 3) hx hb hts iX6_append_X6 hown hK.1 hP 0 rfl rfl 2 (by decide) (hts _ mX6_append_1) (fun _ h9 => h9) rfl dX6_append_26 ?_
    refine lv_iload_n hx hb dX6_append_29 rfl (lv_at hl 2 rfl) ?_
    obtain ⟨jh3, hf⟩ := ckI_inv hf
    refine va_zast hx hb hK.1 hP hD hS 2 1 rfl rfl jh3 dX6_append_30 (fun H locs hP hD hS => ?_)
    have hP : va_P D vwCl [(a_t, .inr (6, [.ref a_t_ways, .ref a_t_enough, .int v_t_size])), (a_t_ways, .inl (cI, 6, .inl (upd v_t_ways (Int32.toNatClampNeg v_t_size) jx1))), (a_t_enough, .inl (cZ, 6, .inl (upd v_t_enough (Int32.toNatClampNeg v_t_size) (vp_nar .boolean jx2))))] H := hP
    have hD : va_D A [(a_t, .inr (6, [.ref a_t_ways, .ref a_t_enough, .int v_t_size])), (a_t_ways, .inl (cI, 6, .inl (upd v_t_ways (Int32.toNatClampNeg v_t_size) jx1))), (a_t_enough, .inl (cZ, 6, .inl (upd v_t_enough (Int32.toNatClampNeg v_t_size) (vp_nar .boolean jx2))))] := hD
    refine lv_aload_n hx hb dX6_append_31 rfl (lv_at hl 0 rfl) ?_
    refine lv_dup hx hb dX6_append_32 rfl ?_
    refine va_get (D := D) (ci := 6) (v := .int v_t_size) (C := RX6) (T := TX6) (N := 3) hx hb hts iX6_append_X6 hown hK.1 hP 0 rfl rfl 2 (by decide) (hts _ mX6_append_1) (fun _ h9 => h9) rfl dX6_append_33 ?_
    refine lv_iconst (v := 1) hx hb dX6_append_36 (by decide) ?_
    refine lv_iadd hx hb dX6_append_37 ?_
    refine va_put (D := D) (ci := 6) (v := .int (v_t_size + (1 : Int32))) (ty := .int) (C := RX6) (T := TX6) (N := 3) hx hb hts iX6_append_X6 tyX6 tyX6_ok nmX6 hown hK.1 hP hD hS 0 rfl rfl 2 (by decide) (hts _ mX6_append_1) (fun _ h9 => h9) rfl (tyX6_ok 2 (by decide)) rfl rfl (Nat.le_of_ble_eq_true rfl) dX6_append_38 (fun H locs hP hD hS => ?_)
    have hP : va_P D vwCl [(a_t, .inr (6, [.ref a_t_ways, .ref a_t_enough, .int (v_t_size + (1 : Int32))])), (a_t_ways, .inl (cI, 6, .inl (upd v_t_ways (Int32.toNatClampNeg v_t_size) jx1))), (a_t_enough, .inl (cZ, 6, .inl (upd v_t_enough (Int32.toNatClampNeg v_t_size) (vp_nar .boolean jx2))))] H := hP
    have hD : va_D A [(a_t, .inr (6, [.ref a_t_ways, .ref a_t_enough, .int (v_t_size + (1 : Int32))])), (a_t_ways, .inl (cI, 6, .inl (upd v_t_ways (Int32.toNatClampNeg v_t_size) jx1))), (a_t_enough, .inl (cZ, 6, .inl (upd v_t_enough (Int32.toNatClampNeg v_t_size) (vp_nar .boolean jx2))))] := hD
    refine lv_iconst (v := 1) hx hb dX6_append_41 (by decide) ?_
    obtain ⟨rfl, rfl, rfl, rfl⟩ := pr4_inv hf
    exact retMz hx hb hr hlk (by decide) hP hD hS dX6_append_42
  · have hf := ite_f jc1 hf
    refine lv_iconst (v := 0) hx hb dX6_append_9 (by decide) ?_
    obtain ⟨rfl, rfl, rfl, rfl⟩ := pr4_inv hf
    exact retMz hx hb hr hlk (by decide) hP hD hS dX6_append_10
def fX6_allows_56 (jk25 : Int32 → Option (Int32)) (jx3 : Int32) (jx4 : Int32) (v_t_size : Int32) (v_t_ways : (Nat → Int32)) (v_t_enough : (Nat → Int32)) (v_p1_row : (Nat → Int32)) (jx5 : Int32) (jy0 : Int32) : Option (Int32) := ckI 6 jx5 (if jy0 = (v_t_enough (Int32.toNatClampNeg jx5)) then jk25 (jx5 + (1 : Int32)) else some (0 : Int32))
def fX6_allows_25 (jx3 : Int32) (jx4 : Int32) (v_t_size : Int32) (v_t_ways : (Nat → Int32)) (v_t_enough : (Nat → Int32)) (v_p1_row : (Nat → Int32)) : Nat → Int32 → Option (Int32)
  | 0, _ => none
  | n + 1, jx5 => if v_t_size ≤ jx5 then some (1 : Int32) else ckI 6 jx5 (bd1 (fX7_need jx3 (v_t_ways (Int32.toNatClampNeg jx5)) v_p1_row) (fun jr3 => if jx4 < jr3 then fX6_allows_56 (fX6_allows_25 jx3 jx4 v_t_size v_t_ways v_t_enough v_p1_row n) jx3 jx4 v_t_size v_t_ways v_t_enough v_p1_row jx5 (0 : Int32) else fX6_allows_56 (fX6_allows_25 jx3 jx4 v_t_size v_t_ways v_t_enough v_p1_row n) jx3 jx4 v_t_size v_t_ways v_t_enough v_p1_row jx5 (1 : Int32)))
theorem fX6_allows_25_s (jx3 : Int32) (jx4 : Int32) (v_t_size : Int32) (v_t_ways : (Nat → Int32)) (v_t_enough : (Nat → Int32)) (v_p1_row : (Nat → Int32)) (n : Nat) (jx5 : Int32) : fX6_allows_25 jx3 jx4 v_t_size v_t_ways v_t_enough v_p1_row (n + 1) jx5 = if v_t_size ≤ jx5 then some (1 : Int32) else ckI 6 jx5 (bd1 (fX7_need jx3 (v_t_ways (Int32.toNatClampNeg jx5)) v_p1_row) (fun jr3 => if jx4 < jr3 then fX6_allows_56 (fX6_allows_25 jx3 jx4 v_t_size v_t_ways v_t_enough v_p1_row n) jx3 jx4 v_t_size v_t_ways v_t_enough v_p1_row jx5 (0 : Int32) else fX6_allows_56 (fX6_allows_25 jx3 jx4 v_t_size v_t_ways v_t_enough v_p1_row n) jx3 jx4 v_t_size v_t_ways v_t_enough v_p1_row jx5 (1 : Int32))) := rfl
def fX6_allows (jx2 : Int32) (v_t_size : Int32) (v_t_ways : (Nat → Int32)) (v_t_enough : (Nat → Int32)) (v_p1_row : (Nat → Int32)) : Option (Int32) := bd1 (fX7_newest v_p1_row) (fun jr1 => bd1 (fX7_sets v_p1_row) (fun jr3 => bd1 (fX7_votesOfSet jr1 ((jr3 - (1 : Int32)) &&& (jx2 ^^^ (-1 : Int32))) v_p1_row) (fun jr5 => fX6_allows_25 jr1 jr5 v_t_size v_t_ways v_t_enough v_p1_row fuel (0 : Int32))))
abbrev rmX6_allows : Room := { frames := 2, cells := 0, slots := 0, locals := 46 }
theorem iX6_allows_X6 : ∀ w ∈ wsX60, w ∈ wsX6_allows := fun _ h => List.mem_cons_of_mem _ (List.mem_append_left _ (List.mem_append_right _ h))
theorem mX6_allows_3 : (Cond.fieldLink RX6 15 "VoteFiles$Seen" "enough" "[Z") ∈ wsX6_allows := List.mem_of_getElem? (i := 3) rfl
theorem mX6_allows_1 : (Cond.fieldLink RX6 19 "VoteFiles$Seen" "size" "I") ∈ wsX6_allows := List.mem_of_getElem? (i := 1) rfl
theorem mX6_allows_2 : (Cond.fieldLink RX6 9 "VoteFiles$Seen" "ways" "[I") ∈ wsX6_allows := List.mem_of_getElem? (i := 2) rfl
set_option maxHeartbeats 4000000 in
set_option maxRecDepth 100000 in
theorem wX6_allows_56 {p : Program} {l : Launch} {e : Env} {s : State} {m : MethodId} {args : Array Value} {below : List Frame} {meth : Method} {c : Code} {D : va_G} {cI cZ : ClassId} (S : CallFix p m c cX6_allows 6 s args wsX6_allows RX6) (hr : meth.sig.returnType = some .boolean) (hlk : meth.locks = false) (hK : KX D cI cZ s) {a_t a_t_ways a_t_enough a_p1 a_p1_row : Nat} {jk25 : Int32 → Option (Int32)} {jx3 : Int32} {jx4 : Int32} {v_t_size : Int32} {v_t_ways : (Nat → Int32)} {v_t_enough : (Nat → Int32)} {v_p1_row : (Nat → Int32)} {r : Int32} (hP : va_P D vwCl [(a_t, .inr (6, [.ref a_t_ways, .ref a_t_enough, .int v_t_size])), (a_t_ways, .inl (cI, 6, .inl v_t_ways)), (a_t_enough, .inl (cZ, 6, .inl v_t_enough)), (a_p1, .inr (7, [.ref a_p1_row])), (a_p1_row, .inl (cI, 104, .inl v_p1_row))] s.heap) (hk25 : ∀ (jx5 : Int32) (ls : Array Slot), jk25 jx5 = some r → lv_has ls 6 [(0, .ref a_t), (1, .ref a_p1), (3, .int jx3), (4, .int jx4), (5, .int jx5)] → W p l e rmX6_allows s m args below meth c s.heap [] 0 0 (MQ below (QcRead r) args s 0 0 (fun _ => False)) (F0 m 25 ls [])) : ∀ (jx5 : Int32) (jy0 : Int32) (ls : Array Slot), fX6_allows_56 jk25 jx3 jx4 v_t_size v_t_ways v_t_enough v_p1_row jx5 jy0 = some r → lv_has ls 6 [(0, .ref a_t), (1, .ref a_p1), (3, .int jx3), (4, .int jx4), (5, .int jx5)] → W p l e rmX6_allows s m args below meth c s.heap [] 0 0 (MQ below (QcRead r) args s 0 0 (fun _ => False)) (F0 m 56 ls [.int jy0]) := by
  obtain ⟨hx, hb, hml, hown, hts⟩ := id S
  intro jx5 jy0 ls hf hl
  unfold fX6_allows_56 at hf
  refine lv_aload_n hx hb dX6_allows_56 rfl (lv_at hl 0 rfl) ?_
  refine va_get (D := D) (ci := 6) (v := .ref a_t_enough) (C := RX6) (T := TX6) (N := 3) hx hb hts iX6_allows_X6 hown hK.1 hP 0 rfl rfl 1 (by decide) (hts _ mX6_allows_3) (fun _ h9 => h9) rfl dX6_allows_57 ?_
  refine lv_iload hx hb dX6_allows_60 (lv_at hl 4 rfl) ?_
  obtain ⟨jh1, hf⟩ := ckI_inv hf
  refine va_zald hx hb hK.1 hP 2 1 rfl rfl jh1 dX6_allows_62 ?_
  refine lv_icmp_eq (tgt := 68) hx hb dX6_allows_63 (by decide) (fun jc2 => ?_) (fun jc2 => ?_)
  · have hf := ite_t jc2 hf
    refine lv_iinc (v := (jx5 + (1 : Int32))) (lv' := [(5, .int (jx5 + (1 : Int32))), (0, .ref a_t), (1, .ref a_p1), (3, .int jx3), (4, .int jx4)]) hx hb dX6_allows_68 hl (k := 4) rfl rfl (by decide) rfl (fun ls hl => ?_)
    refine lv_goto (tgt := 25) hx hb dX6_allows_71 (by decide) ?_
    exact hk25 (jx5 + (1 : Int32)) ls hf (lv_sub hl [1, 2, 3, 4, 0] rfl)
  · have hf := ite_f jc2 hf
    refine lv_iconst (v := 0) hx hb dX6_allows_66 (by decide) ?_
    obtain rfl := Option.some.inj hf
    exact retRz hx hb hr hlk (by decide) dX6_allows_67
set_option maxHeartbeats 4000000 in
set_option maxRecDepth 100000 in
theorem wX6_allows_25 {p : Program} {l : Launch} {e : Env} {s : State} {m : MethodId} {args : Array Value} {below : List Frame} {meth : Method} {c : Code} {D : va_G} {cI cZ : ClassId} (S : CallFix p m c cX6_allows 6 s args wsX6_allows RX6) (hr : meth.sig.returnType = some .boolean) (hlk : meth.locks = false) (hK : KX D cI cZ s) {a_t a_t_ways a_t_enough a_p1 a_p1_row : Nat} {jx3 : Int32} {jx4 : Int32} {v_t_size : Int32} {v_t_ways : (Nat → Int32)} {v_t_enough : (Nat → Int32)} {v_p1_row : (Nat → Int32)} {r : Int32} (hP : va_P D vwCl [(a_t, .inr (6, [.ref a_t_ways, .ref a_t_enough, .int v_t_size])), (a_t_ways, .inl (cI, 6, .inl v_t_ways)), (a_t_enough, .inl (cZ, 6, .inl v_t_enough)), (a_p1, .inr (7, [.ref a_p1_row])), (a_p1_row, .inl (cI, 104, .inl v_p1_row))] s.heap) : ∀ (n : Nat), ∀ (jx5 : Int32) (ls : Array Slot), fX6_allows_25 jx3 jx4 v_t_size v_t_ways v_t_enough v_p1_row n jx5 = some r → lv_has ls 6 [(0, .ref a_t), (1, .ref a_p1), (3, .int jx3), (4, .int jx4), (5, .int jx5)] → W p l e rmX6_allows s m args below meth c s.heap [] 0 0 (MQ below (QcRead r) args s 0 0 (fun _ => False)) (F0 m 25 ls []) := by
  obtain ⟨hx, hb, hml, hown, hts⟩ := id S
  intro n
  induction n with
  | zero =>
    intro jx5 ls hf hl
    cases (show (none : Option _) = some _ from hf)
  | succ n ih =>
    intro jx5 ls hf hl
    have hf := (fX6_allows_25_s _ _ _ _ _ _ n _).symm.trans hf
    refine lv_iload hx hb dX6_allows_25 (lv_at hl 4 rfl) ?_
    refine lv_aload_n hx hb dX6_allows_27 rfl (lv_at hl 0 rfl) ?_
    refine va_get (D := D) (ci := 6) (v := .int v_t_size) (C := RX6) (T := TX6) (N := 3) hx hb hts iX6_allows_X6 hown hK.1 hP 0 rfl rfl 2 (by decide) (hts _ mX6_allows_1) (fun _ h9 => h9) rfl dX6_allows_28 ?_
    refine lv_icmp_ge (tgt := 74) hx hb dX6_allows_31 (by decide) (fun jc1 => ?_) (fun jc1 => ?_)
    · have hf := ite_t jc1 hf
      refine lv_iconst (v := 1) hx hb dX6_allows_74 (by decide) ?_
      obtain rfl := Option.some.inj hf
      exact retRz hx hb hr hlk (by decide) dX6_allows_75
    · have hf := ite_f jc1 hf
      refine lv_iload hx hb dX6_allows_34 (lv_at hl 3 rfl) ?_
      refine lv_aload_n hx hb dX6_allows_36 rfl (lv_at hl 1 rfl) ?_
      refine lv_iload_n hx hb dX6_allows_37 rfl (lv_at hl 2 rfl) ?_
      refine lv_aload_n hx hb dX6_allows_38 rfl (lv_at hl 0 rfl) ?_
      refine va_get (D := D) (ci := 6) (v := .ref a_t_ways) (C := RX6) (T := TX6) (N := 3) hx hb hts iX6_allows_X6 hown hK.1 hP 0 rfl rfl 0 (by decide) (hts _ mX6_allows_2) (fun _ h9 => h9) rfl dX6_allows_39 ?_
      refine lv_iload hx hb dX6_allows_42 (lv_at hl 4 rfl) ?_
      obtain ⟨jh2, hf⟩ := ckI_inv hf
      refine va_iald hx hb hK.1 hP 1 0 rfl rfl jh2 dX6_allows_44 ?_
      obtain ⟨jr3, je4, hf⟩ := bd1_inv hf
      refine callRV (As := [.int jx3, .int (v_t_ways (Int32.toNatClampNeg jx5))]) (rest := [.int jx4]) S (ctX7_need l D cI cZ a_p1 a_p1_row jx3 (v_t_ways (Int32.toNatClampNeg jx5)) v_p1_row jr3 je4) (cwV 2 hts gX6_allows_X7_need rfl rfl rfl ⟨rfl, hdX7_need⟩ ⟨Nat.le_of_ble_eq_true rfl, Nat.le_of_ble_eq_true rfl⟩) hP [3, 4] rfl KX.xs (fun U _ hW => hK.warm hW) (va_recv hK.1 hP (ci := 7) (q0 := 3) rfl rfl) rfl hl.1 rfl (Nat.le_of_ble_eq_true rfl) dX6_allows_45 ⟨Nat.zero_le _, Nat.zero_le _⟩ ?_
      refine lv_icmp_lt (tgt := 55) hx hb dX6_allows_48 (by decide) (fun jc5 => ?_) (fun jc5 => ?_)
      · have hf := ite_t jc5 hf
        refine lv_iconst (v := 0) hx hb dX6_allows_55 (by decide) ?_
        exact wX6_allows_56 S hr hlk hK hP ih jx5 (0 : Int32) ls hf (lv_sub hl [0, 1, 2, 3, 4] rfl)
      · have hf := ite_f jc5 hf
        refine lv_iconst (v := 1) hx hb dX6_allows_51 (by decide) ?_
        refine lv_goto (tgt := 56) hx hb dX6_allows_52 (by decide) ?_
        exact wX6_allows_56 S hr hlk hK hP ih jx5 (1 : Int32) ls hf (lv_sub hl [0, 1, 2, 3, 4] rfl)
theorem hdX6_allows : yX6_allows.cls ≠ "java/lang/invoke/MethodHandle" ∧ yX6_allows.cls ≠ "java/lang/invoke/VarHandle" ∧ (parseMethodDescriptor yX6_allows.desc).map (fun d => d.parameters.length) = some 2 := by decide +kernel
set_option maxHeartbeats 4000000 in
set_option maxRecDepth 100000 in
theorem ctX6_allows (l : Launch) (D : va_G) (cI cZ : ClassId) (a_t a_t_ways a_t_enough a_p1 a_p1_row : Nat) (jx2 : Int32) (v_t_size : Int32) (v_t_ways : (Nat → Int32)) (v_t_enough : (Nat → Int32)) (v_p1_row : (Nat → Int32)) (r : Int32) (hf : fX6_allows jx2 v_t_size v_t_ways v_t_enough v_p1_row = some r) : cR l yX6_allows wsX6_allows rmX6_allows [.ref a_t, .ref a_p1, .int jx2] D [(a_t, .inr (6, [.ref a_t_ways, .ref a_t_enough, .int v_t_size])), (a_t_ways, .inl (cI, 6, .inl v_t_ways)), (a_t_enough, .inl (cZ, 6, .inl v_t_enough)), (a_p1, .inr (7, [.ref a_p1_row])), (a_p1_row, .inl (cI, 104, .inl v_p1_row))] (KX D cI cZ) r := by
  refine cR_of (cc := cX6_allows) (maxL := 6) (ret := some .boolean) (by decide +kernel) rfl _ (Nat.le_of_ble_eq_true rfl) ?_
  intro p e s m below meth c ls S hr hlk hP hK hl
  obtain ⟨hx, hb, hml, hown, hts⟩ := id S
  have hl : lv_has ls 6 [(0, .ref a_t), (1, .ref a_p1), (2, .int jx2)] := hl
  unfold fX6_allows at hf
  refine lv_aload_n hx hb dX6_allows_0 rfl (lv_at hl 1 rfl) ?_
  obtain ⟨jr1, je2, hf⟩ := bd1_inv hf
  refine callRV (As := []) (rest := []) S (ctX7_newest l D cI cZ a_p1 a_p1_row v_p1_row jr1 je2) (cwV 0 hts gX6_allows_X7_newest rfl rfl rfl ⟨rfl, hdX7_newest⟩ ⟨Nat.le_of_ble_eq_true rfl, Nat.le_of_ble_eq_true rfl⟩) hP [3, 4] rfl KX.xs (fun U _ hW => hK.warm hW) (va_recv hK.1 hP (ci := 7) (q0 := 3) rfl rfl) rfl hl.1 rfl (Nat.le_of_ble_eq_true rfl) dX6_allows_1 ⟨Nat.zero_le _, Nat.zero_le _⟩ ?_
  refine lv_istore_n (lv' := [(3, .int jr1), (0, .ref a_t), (1, .ref a_p1), (2, .int jx2)]) hx hb dX6_allows_4 rfl hl (by decide) rfl (fun ls hl => ?_)
  refine lv_aload_n hx hb dX6_allows_5 rfl (lv_at hl 2 rfl) ?_
  refine lv_iload_n hx hb dX6_allows_6 rfl (lv_at hl 0 rfl) ?_
  refine lv_aload_n hx hb dX6_allows_7 rfl (lv_at hl 2 rfl) ?_
  obtain ⟨jr3, je4, hf⟩ := bd1_inv hf
  refine callRV (As := []) (rest := [.int jr1, .ref a_p1]) S (ctX7_sets l D cI cZ a_p1 a_p1_row v_p1_row jr3 je4) (cwV 0 hts gX6_allows_X7_sets rfl rfl rfl ⟨rfl, hdX7_sets⟩ ⟨Nat.le_of_ble_eq_true rfl, Nat.le_of_ble_eq_true rfl⟩) hP [3, 4] rfl KX.xs (fun U _ hW => hK.warm hW) (va_recv hK.1 hP (ci := 7) (q0 := 3) rfl rfl) rfl hl.1 rfl (Nat.le_of_ble_eq_true rfl) dX6_allows_8 ⟨Nat.zero_le _, Nat.zero_le _⟩ ?_
  refine lv_iconst (v := 1) hx hb dX6_allows_11 (by decide) ?_
  refine lv_isub hx hb dX6_allows_12 ?_
  refine lv_iload_n hx hb dX6_allows_13 rfl (lv_at hl 3 rfl) ?_
  refine lv_iconst (v := -1) hx hb dX6_allows_14 (by decide) ?_
  refine lv_ixor hx hb dX6_allows_15 ?_
  refine lv_iand hx hb dX6_allows_16 ?_
  obtain ⟨jr5, je6, hf⟩ := bd1_inv hf
  refine callRV (As := [.int jr1, .int ((jr3 - (1 : Int32)) &&& (jx2 ^^^ (-1 : Int32)))]) (rest := []) S (ctX7_votesOfSet l D cI cZ a_p1 a_p1_row jr1 ((jr3 - (1 : Int32)) &&& (jx2 ^^^ (-1 : Int32))) v_p1_row jr5 je6) (cwV 2 hts gX6_allows_X7_votesOfSet rfl rfl rfl ⟨rfl, hdX7_votesOfSet⟩ ⟨Nat.le_of_ble_eq_true rfl, Nat.le_of_ble_eq_true rfl⟩) hP [3, 4] rfl KX.xs (fun U _ hW => hK.warm hW) (va_recv hK.1 hP (ci := 7) (q0 := 3) rfl rfl) rfl hl.1 rfl (Nat.le_of_ble_eq_true rfl) dX6_allows_17 ⟨Nat.zero_le _, Nat.zero_le _⟩ ?_
  refine lv_istore (lv' := [(4, .int jr5), (3, .int jr1), (0, .ref a_t), (1, .ref a_p1), (2, .int jx2)]) hx hb dX6_allows_20 hl (by decide) rfl (fun ls hl => ?_)
  refine lv_iconst (v := 0) hx hb dX6_allows_22 (by decide) ?_
  refine lv_istore (lv' := [(5, .int (0 : Int32)), (4, .int jr5), (3, .int jr1), (0, .ref a_t), (1, .ref a_p1), (2, .int jx2)]) hx hb dX6_allows_23 hl (by decide) rfl (fun ls hl => ?_)
  exact wX6_allows_25 S hr hlk hK hP fuel (0 : Int32) ls hf (lv_sub hl [3, 4, 2, 1, 0] rfl)
def fJ6_bitCount_0f7a4 (jx0 : Int32) : Option (Int32) := nmI (jx0 - ((Int32.toUInt32 jx0 >>> (Int32.toUInt32 (1 : Int32) &&& Int32.toUInt32 31)).toInt32 &&& (1431655765 : Int32))) (fun jz1 => nmI ((jz1 &&& (858993459 : Int32)) + ((Int32.toUInt32 jz1 >>> (Int32.toUInt32 (2 : Int32) &&& Int32.toUInt32 31)).toInt32 &&& (858993459 : Int32))) (fun jz2 => nmI ((jz2 + (Int32.toUInt32 jz2 >>> (Int32.toUInt32 (4 : Int32) &&& Int32.toUInt32 31)).toInt32) &&& (252645135 : Int32)) (fun jz3 => nmI (jz3 + (Int32.toUInt32 jz3 >>> (Int32.toUInt32 (8 : Int32) &&& Int32.toUInt32 31)).toInt32) (fun jz4 => nmI (jz4 + (Int32.toUInt32 jz4 >>> (Int32.toUInt32 (16 : Int32) &&& Int32.toUInt32 31)).toInt32) (fun jz5 => some (jz5 &&& (63 : Int32)))))))
abbrev rmJ6_bitCount_0f7a4 : Room := { frames := 0, cells := 0, slots := 0, locals := 0 }
theorem mJ6_bitCount_0f7a4_1 : (Cond.constant RJ6 265 (1431655765)) ∈ wsJ6_bitCount_0f7a4 := List.mem_of_getElem? (i := 1) rfl
theorem mJ6_bitCount_0f7a4_2 : (Cond.constant RJ6 266 (858993459)) ∈ wsJ6_bitCount_0f7a4 := List.mem_of_getElem? (i := 2) rfl
theorem mJ6_bitCount_0f7a4_3 : (Cond.constant RJ6 267 (252645135)) ∈ wsJ6_bitCount_0f7a4 := List.mem_of_getElem? (i := 3) rfl
theorem hdJ6_bitCount_0f7a4 : yJ6_bitCount_0f7a4.cls ≠ "java/lang/invoke/MethodHandle" ∧ yJ6_bitCount_0f7a4.cls ≠ "java/lang/invoke/VarHandle" ∧ (parseMethodDescriptor yJ6_bitCount_0f7a4.desc).map (fun d => d.parameters.length) = some 1 := by decide +kernel
set_option maxHeartbeats 4000000 in
set_option maxRecDepth 100000 in
theorem ctJ6_bitCount_0f7a4 (l : Launch) (D : va_G) (cI cZ : ClassId) (jx0 : Int32) (r : Int32) (hf : fJ6_bitCount_0f7a4 jx0 = some r) : cR l yJ6_bitCount_0f7a4 wsJ6_bitCount_0f7a4 rmJ6_bitCount_0f7a4 [.int jx0] D [] (KX D cI cZ) r := by
  refine cR_of (cc := cJ6_bitCount_0f7a4) (maxL := 1) (ret := some .int) (by decide +kernel) rfl _ (Nat.le_of_ble_eq_true rfl) ?_
  intro p e s m below meth c ls S hr hlk hP hK hl
  obtain ⟨hx, hb, hml, hown, hts⟩ := id S
  have hl : lv_has ls 1 [(0, .int jx0)] := hl
  unfold fJ6_bitCount_0f7a4 at hf
  refine lv_iload_n hx hb dJ6_bitCount_0f7a4_0 rfl (lv_at hl 0 rfl) ?_
  refine lv_iload_n hx hb dJ6_bitCount_0f7a4_1 rfl (lv_at hl 0 rfl) ?_
  refine lv_iconst (v := 1) hx hb dJ6_bitCount_0f7a4_2 (by decide) ?_
  refine lv_iushr hx hb dJ6_bitCount_0f7a4_3 rfl ?_
  refine lv_ldcw hx hb hown (hts _ mJ6_bitCount_0f7a4_1) dJ6_bitCount_0f7a4_4 ?_
  refine lv_iand hx hb dJ6_bitCount_0f7a4_7 ?_
  refine lv_isub hx hb dJ6_bitCount_0f7a4_8 ?_
  obtain ⟨jz1, ejz1, hf⟩ := nmI_inv hf
  refine lv_nmI ejz1 ?_
  refine lv_istore_n (lv' := [(0, .int jz1)]) hx hb dJ6_bitCount_0f7a4_9 rfl hl (by decide) rfl (fun ls hl => ?_)
  refine lv_iload_n hx hb dJ6_bitCount_0f7a4_10 rfl (lv_at hl 0 rfl) ?_
  refine lv_ldcw hx hb hown (hts _ mJ6_bitCount_0f7a4_2) dJ6_bitCount_0f7a4_11 ?_
  refine lv_iand hx hb dJ6_bitCount_0f7a4_14 ?_
  refine lv_iload_n hx hb dJ6_bitCount_0f7a4_15 rfl (lv_at hl 0 rfl) ?_
  refine lv_iconst (v := 2) hx hb dJ6_bitCount_0f7a4_16 (by decide) ?_
  refine lv_iushr hx hb dJ6_bitCount_0f7a4_17 rfl ?_
  refine lv_ldcw hx hb hown (hts _ mJ6_bitCount_0f7a4_2) dJ6_bitCount_0f7a4_18 ?_
  refine lv_iand hx hb dJ6_bitCount_0f7a4_21 ?_
  refine lv_iadd hx hb dJ6_bitCount_0f7a4_22 ?_
  obtain ⟨jz2, ejz2, hf⟩ := nmI_inv hf
  refine lv_nmI ejz2 ?_
  refine lv_istore_n (lv' := [(0, .int jz2)]) hx hb dJ6_bitCount_0f7a4_23 rfl hl (by decide) rfl (fun ls hl => ?_)
  refine lv_iload_n hx hb dJ6_bitCount_0f7a4_24 rfl (lv_at hl 0 rfl) ?_
  refine lv_iload_n hx hb dJ6_bitCount_0f7a4_25 rfl (lv_at hl 0 rfl) ?_
  refine lv_iconst (v := 4) hx hb dJ6_bitCount_0f7a4_26 (by decide) ?_
  refine lv_iushr hx hb dJ6_bitCount_0f7a4_27 rfl ?_
  refine lv_iadd hx hb dJ6_bitCount_0f7a4_28 ?_
  refine lv_ldcw hx hb hown (hts _ mJ6_bitCount_0f7a4_3) dJ6_bitCount_0f7a4_29 ?_
  refine lv_iand hx hb dJ6_bitCount_0f7a4_32 ?_
  obtain ⟨jz3, ejz3, hf⟩ := nmI_inv hf
  refine lv_nmI ejz3 ?_
  refine lv_istore_n (lv' := [(0, .int jz3)]) hx hb dJ6_bitCount_0f7a4_33 rfl hl (by decide) rfl (fun ls hl => ?_)
  refine lv_iload_n hx hb dJ6_bitCount_0f7a4_34 rfl (lv_at hl 0 rfl) ?_
  refine lv_iload_n hx hb dJ6_bitCount_0f7a4_35 rfl (lv_at hl 0 rfl) ?_
  refine lv_bipush (v := 8) hx hb dJ6_bitCount_0f7a4_36 (by decide) ?_
  refine lv_iushr hx hb dJ6_bitCount_0f7a4_38 rfl ?_
  refine lv_iadd hx hb dJ6_bitCount_0f7a4_39 ?_
  obtain ⟨jz4, ejz4, hf⟩ := nmI_inv hf
  refine lv_nmI ejz4 ?_
  refine lv_istore_n (lv' := [(0, .int jz4)]) hx hb dJ6_bitCount_0f7a4_40 rfl hl (by decide) rfl (fun ls hl => ?_)
  refine lv_iload_n hx hb dJ6_bitCount_0f7a4_41 rfl (lv_at hl 0 rfl) ?_
  refine lv_iload_n hx hb dJ6_bitCount_0f7a4_42 rfl (lv_at hl 0 rfl) ?_
  refine lv_bipush (v := 16) hx hb dJ6_bitCount_0f7a4_43 (by decide) ?_
  refine lv_iushr hx hb dJ6_bitCount_0f7a4_45 rfl ?_
  refine lv_iadd hx hb dJ6_bitCount_0f7a4_46 ?_
  obtain ⟨jz5, ejz5, hf⟩ := nmI_inv hf
  refine lv_nmI ejz5 ?_
  refine lv_istore_n (lv' := [(0, .int jz5)]) hx hb dJ6_bitCount_0f7a4_47 rfl hl (by decide) rfl (fun ls hl => ?_)
  refine lv_iload_n hx hb dJ6_bitCount_0f7a4_48 rfl (lv_at hl 0 rfl) ?_
  refine lv_bipush (v := 63) hx hb dJ6_bitCount_0f7a4_49 (by decide) ?_
  refine lv_iand hx hb dJ6_bitCount_0f7a4_51 ?_
  obtain rfl := Option.some.inj hf
  exact retR hx hb hr hlk dJ6_bitCount_0f7a4_52
