theorem dX11_init_0 : decode cX11_init 0 = .ok (.aload_n 0, 1) := by decide +kernel
theorem dX11_init_1 : decode cX11_init 1 = .ok (.invokespecial 1, 3) := by decide +kernel
theorem ml_RX11_1 : Cond.methodLink RX11 1 objectInit ∈ gw := gw_mem (by decide +kernel) (by decide +kernel)
theorem im_obj : Cond.instanceMethod objectInit ∈ gw := gw_mem (by decide +kernel) (by decide +kernel)
theorem cd_obj : Cond.code objectInit ⟨#[0xb1]⟩ 1 none ∈ gw := gw_mem (by decide +kernel) (by decide +kernel)
theorem dX11_init_4 : decode cX11_init 4 = .ok (.aload_n 0, 1) := by decide +kernel
theorem dX11_init_5 : decode cX11_init 5 = .ok (.sipush 900, 3) := by decide +kernel
theorem dX11_init_8 : decode cX11_init 8 = .ok (.newarray .byte, 2) := by decide +kernel
theorem ac_byte : Cond.arrayClass .byte ∈ gw := gw_mem (by decide +kernel) (by decide +kernel)
theorem dX11_init_10 : decode cX11_init 10 = .ok (.putfield 9, 3) := by decide +kernel
theorem fl_RX11_9 : Cond.fieldLink RX11 9 "TwoSlips" "tape" "[B" ∈ gw := gw_mem (by decide +kernel) (by decide +kernel)
theorem dX11_init_13 : decode cX11_init 13 = .ok (.aload_n 0, 1) := by decide +kernel
theorem dX11_init_14 : decode cX11_init 14 = .ok (.iconst (-1), 1) := by decide +kernel
theorem dX11_init_15 : decode cX11_init 15 = .ok (.putfield 13, 3) := by decide +kernel
theorem fl_RX11_13 : Cond.fieldLink RX11 13 "TwoSlips" "faultPlace" "I" ∈ gw := gw_mem (by decide +kernel) (by decide +kernel)
theorem dX11_init_18 : decode cX11_init 18 = .ok (.aload_n 0, 1) := by decide +kernel
theorem dX11_init_19 : decode cX11_init 19 = .ok (.new 17, 3) := by decide +kernel
theorem cl_RX11_17 : Cond.classLink RX11 17 RX5 ∈ gw := gw_mem (by decide +kernel) (by decide +kernel)
theorem in_5 : Cond.instantiable RX5 8 ∈ gw := gw_mem (by decide +kernel) (by decide +kernel)
theorem it_5 : Cond.initialized RX5 ∈ gw := gw_mem (by decide +kernel) (by decide +kernel)
theorem dX11_init_22 : decode cX11_init 22 = .ok (.dup, 1) := by decide +kernel
theorem dX11_init_23 : decode cX11_init 23 = .ok (.invokespecial 19, 3) := by decide +kernel
theorem dX5_init_0 : decode cX5_init 0 = .ok (.aload_n 0, 1) := by decide +kernel
theorem dX5_init_1 : decode cX5_init 1 = .ok (.invokespecial 3, 3) := by decide +kernel
theorem ml_RX5_3 : Cond.methodLink RX5 3 objectInit ∈ gw := gw_mem (by decide +kernel) (by decide +kernel)
theorem dX5_init_4 : decode cX5_init 4 = .ok (.aload_n 0, 1) := by decide +kernel
theorem dX5_init_5 : decode cX5_init 5 = .ok (.iconst 0, 1) := by decide +kernel
theorem dX5_init_6 : decode cX5_init 6 = .ok (.newarray .byte, 2) := by decide +kernel
theorem dX5_init_8 : decode cX5_init 8 = .ok (.putfield 9, 3) := by decide +kernel
theorem fl_RX5_9 : Cond.fieldLink RX5 9 "TwoSlips$Reading" "text" "[B" ∈ gw := gw_mem (by decide +kernel) (by decide +kernel)
theorem dX5_init_11 : decode cX5_init 11 = .ok (.return_, 1) := by decide +kernel
set_option maxRecDepth 100000 in
set_option maxHeartbeats 4000000 in
theorem c_X5_init_0 (l : Launch) (D : va_G) (cy : Nat → ClassId) (a0 : Nat) : Ct l D cy yX5_init cX5_init 1 none 1 12 1 0 [(a0, .inr (5, [.null, .int 0, .int 0, .int 0, .int 0, .int 0, .int 0, .null]))] [.ref a0] (fun u : Nat => none) (fun _ => True) (fun u : Nat => [(a0, .inr (5, [.ref u, .int 0, .int 0, .int 0, .int 0, .int 0, .int 0, .null])), (u, .inl (cy 0, 0, .inl (fun _ => 0)))]) := by
  refine Ct.of (by decide +kernel) (Nat.le_of_ble_eq_true rfl) ?_
  intro p e s m args below meth c A ls C hr hlocks hml hnm w hl
  have hl : lv_has ls 1 [(0, .ref a0)] := hl
  refine lv_aload_n C.1 C.2.1 dX5_init_0 rfl (lv_at hl 0 rfl) ?_
  refine r_objInit C (hl.1.trans hml.symm) ml_RX5_3 im_obj cd_obj ⟨Nat.le_of_ble_eq_true rfl, Nat.le_of_ble_eq_true rfl⟩ dX5_init_1 ?_
  refine lv_aload_n C.1 C.2.1 dX5_init_4 rfl (lv_at hl 0 rfl) ?_
  refine lv_iconst (v := 0) C.1 C.2.1 dX5_init_5 (by decide) ?_
  refine r_newa_byte C w 0 ac_byte (by decide) (by decide) (by decide) 1 0 rfl rfl ⟨Nat.le_of_ble_eq_true rfl, Nat.le_of_ble_eq_true rfl⟩ dX5_init_6 (fun n1 H w => ?_)
  have w : Wd D A s.heap [(a0, .inr (5, [.null, .int 0, .int 0, .int 0, .int 0, .int 0, .int 0, .null])), (n1, .inl (cy 0, 0, .inl (fun _ => 0)))] _ _ := w
  refine r_put C w 0 rfl rfl 0 (by decide) fl_RX5_9 rfl (ty := (.array .byte)) (tyX5_ok 0 (by decide)) rfl rfl (Nat.le_of_ble_eq_true rfl) [(a0, .inr (5, [.ref n1, .int 0, .int 0, .int 0, .int 0, .int 0, .int 0, .null])), (n1, .inl (cy 0, 0, .inl (fun _ => 0)))] rfl dX5_init_8 (fun H locs w => ?_)
  exact r_vret C w hlocks n1 hr rfl trivial [0, 1] rfl rfl ⟨Nat.le_of_ble_eq_true rfl, Nat.le_of_ble_eq_true rfl⟩ dX5_init_11
theorem fn_X5_init : FN yX5_init cX5_init 1 0 := ⟨⟨gw_mem (by decide +kernel) (by decide +kernel), gw_mem (by decide +kernel) (by decide +kernel), gw_mem (by decide +kernel) (by decide +kernel)⟩, ⟨by decide +kernel, by decide +kernel, by decide +kernel⟩, rfl⟩
theorem dX11_init_26 : decode cX11_init 26 = .ok (.putfield 20, 3) := by decide +kernel
theorem fl_RX11_20 : Cond.fieldLink RX11 20 "TwoSlips" "reading" "LTwoSlips$Reading;" ∈ gw := gw_mem (by decide +kernel) (by decide +kernel)
theorem dX11_init_29 : decode cX11_init 29 = .ok (.aload_n 0, 1) := by decide +kernel
theorem dX11_init_30 : decode cX11_init 30 = .ok (.iconst 5, 1) := by decide +kernel
theorem dX11_init_31 : decode cX11_init 31 = .ok (.anewarray 24, 3) := by decide +kernel
theorem cl_RX11_24 : Cond.classLink RX11 24 "TwoSlips$Talk" ∈ gw := gw_mem (by decide +kernel) (by decide +kernel)
theorem dX11_init_34 : decode cX11_init 34 = .ok (.putfield 26, 3) := by decide +kernel
theorem fl_RX11_26 : Cond.fieldLink RX11 26 "TwoSlips" "talks" "[LTwoSlips$Talk;" ∈ gw := gw_mem (by decide +kernel) (by decide +kernel)
theorem dX11_init_37 : decode cX11_init 37 = .ok (.aload_n 0, 1) := by decide +kernel
theorem dX11_init_38 : decode cX11_init 38 = .ok (.iconst 3, 1) := by decide +kernel
theorem dX11_init_39 : decode cX11_init 39 = .ok (.anewarray 24, 3) := by decide +kernel
theorem dX11_init_42 : decode cX11_init 42 = .ok (.putfield 30, 3) := by decide +kernel
theorem fl_RX11_30 : Cond.fieldLink RX11 30 "TwoSlips" "images" "[LTwoSlips$Talk;" ∈ gw := gw_mem (by decide +kernel) (by decide +kernel)
theorem dX11_init_45 : decode cX11_init 45 = .ok (.aload_n 0, 1) := by decide +kernel
theorem dX11_init_46 : decode cX11_init 46 = .ok (.new 33, 3) := by decide +kernel
theorem cl_RX11_33 : Cond.classLink RX11 33 RX10 ∈ gw := gw_mem (by decide +kernel) (by decide +kernel)
theorem in_10 : Cond.instantiable RX10 3 ∈ gw := gw_mem (by decide +kernel) (by decide +kernel)
theorem it_10 : Cond.initialized RX10 ∈ gw := gw_mem (by decide +kernel) (by decide +kernel)
theorem dX11_init_49 : decode cX11_init 49 = .ok (.dup, 1) := by decide +kernel
theorem dX11_init_50 : decode cX11_init 50 = .ok (.invokespecial 35, 3) := by decide +kernel
theorem dX10_init_0 : decode cX10_init 0 = .ok (.aload_n 0, 1) := by decide +kernel
theorem dX10_init_1 : decode cX10_init 1 = .ok (.invokespecial 3, 3) := by decide +kernel
theorem ml_RX10_3 : Cond.methodLink RX10 3 objectInit ∈ gw := gw_mem (by decide +kernel) (by decide +kernel)
theorem dX10_init_4 : decode cX10_init 4 = .ok (.aload_n 0, 1) := by decide +kernel
theorem dX10_init_5 : decode cX10_init 5 = .ok (.iconst 4, 1) := by decide +kernel
theorem dX10_init_6 : decode cX10_init 6 = .ok (.newarray .int, 2) := by decide +kernel
theorem ac_int : Cond.arrayClass .int ∈ gw := gw_mem (by decide +kernel) (by decide +kernel)
theorem dX10_init_8 : decode cX10_init 8 = .ok (.dup, 1) := by decide +kernel
theorem dX10_init_9 : decode cX10_init 9 = .ok (.iconst 0, 1) := by decide +kernel
theorem dX10_init_10 : decode cX10_init 10 = .ok (.iconst (-1), 1) := by decide +kernel
theorem dX10_init_11 : decode cX10_init 11 = .ok (.iastore, 1) := by decide +kernel
theorem dX10_init_12 : decode cX10_init 12 = .ok (.dup, 1) := by decide +kernel
theorem dX10_init_13 : decode cX10_init 13 = .ok (.iconst 1, 1) := by decide +kernel
theorem dX10_init_14 : decode cX10_init 14 = .ok (.iconst (-1), 1) := by decide +kernel
theorem dX10_init_15 : decode cX10_init 15 = .ok (.iastore, 1) := by decide +kernel
theorem dX10_init_16 : decode cX10_init 16 = .ok (.dup, 1) := by decide +kernel
theorem dX10_init_17 : decode cX10_init 17 = .ok (.iconst 2, 1) := by decide +kernel
theorem dX10_init_18 : decode cX10_init 18 = .ok (.iconst (-1), 1) := by decide +kernel
theorem dX10_init_19 : decode cX10_init 19 = .ok (.iastore, 1) := by decide +kernel
theorem dX10_init_20 : decode cX10_init 20 = .ok (.dup, 1) := by decide +kernel
theorem dX10_init_21 : decode cX10_init 21 = .ok (.iconst 3, 1) := by decide +kernel
theorem dX10_init_22 : decode cX10_init 22 = .ok (.iconst (-1), 1) := by decide +kernel
theorem dX10_init_23 : decode cX10_init 23 = .ok (.iastore, 1) := by decide +kernel
theorem dX10_init_24 : decode cX10_init 24 = .ok (.putfield 9, 3) := by decide +kernel
theorem fl_RX10_9 : Cond.fieldLink RX10 9 "TwoSlips$Trays" "sorts" "[I" ∈ gw := gw_mem (by decide +kernel) (by decide +kernel)
theorem dX10_init_27 : decode cX10_init 27 = .ok (.aload_n 0, 1) := by decide +kernel
theorem dX10_init_28 : decode cX10_init 28 = .ok (.iconst 4, 1) := by decide +kernel
theorem dX10_init_29 : decode cX10_init 29 = .ok (.newarray .int, 2) := by decide +kernel
theorem dX10_init_31 : decode cX10_init 31 = .ok (.putfield 15, 3) := by decide +kernel
theorem fl_RX10_15 : Cond.fieldLink RX10 15 "TwoSlips$Trays" "sizes" "[I" ∈ gw := gw_mem (by decide +kernel) (by decide +kernel)
theorem dX10_init_34 : decode cX10_init 34 = .ok (.aload_n 0, 1) := by decide +kernel
theorem dX10_init_35 : decode cX10_init 35 = .ok (.sipush 160, 3) := by decide +kernel
theorem dX10_init_38 : decode cX10_init 38 = .ok (.newarray .long, 2) := by decide +kernel
theorem ac_long : Cond.arrayClass .long ∈ gw := gw_mem (by decide +kernel) (by decide +kernel)
theorem dX10_init_40 : decode cX10_init 40 = .ok (.putfield 18, 3) := by decide +kernel
theorem fl_RX10_18 : Cond.fieldLink RX10 18 "TwoSlips$Trays" "cells" "[J" ∈ gw := gw_mem (by decide +kernel) (by decide +kernel)
theorem dX10_init_43 : decode cX10_init 43 = .ok (.return_, 1) := by decide +kernel
set_option maxRecDepth 100000 in
set_option maxHeartbeats 4000000 in
theorem c_X10_init_0 (l : Launch) (D : va_G) (cy : Nat → ClassId) (a0 : Nat) : Ct l D cy yX10_init cX10_init 1 none 1 12 3 168 [(a0, .inr (10, [.null, .null, .null]))] [.ref a0] (fun u : Nat × Nat × Nat => none) (fun _ => True) (fun u : Nat × Nat × Nat => [(a0, .inr (10, [.ref u.1, .ref u.2.1, .ref u.2.2])), (u.1, .inl (cy 1, 4, .inl (upd (upd (upd (upd (fun _ => 0) 0 (-1)) 1 (-1)) 2 (-1)) 3 (-1)))), (u.2.1, .inl (cy 1, 4, .inl (fun _ => 0))), (u.2.2, .inl (cy 2, 160, .inr (.inl (fun _ => 0))))]) := by
  refine Ct.of (by decide +kernel) (Nat.le_of_ble_eq_true rfl) ?_
  intro p e s m args below meth c A ls C hr hlocks hml hnm w hl
  have hl : lv_has ls 1 [(0, .ref a0)] := hl
  refine lv_aload_n C.1 C.2.1 dX10_init_0 rfl (lv_at hl 0 rfl) ?_
  refine r_objInit C (hl.1.trans hml.symm) ml_RX10_3 im_obj cd_obj ⟨Nat.le_of_ble_eq_true rfl, Nat.le_of_ble_eq_true rfl⟩ dX10_init_1 ?_
  refine lv_aload_n C.1 C.2.1 dX10_init_4 rfl (lv_at hl 0 rfl) ?_
  refine lv_iconst (v := 4) C.1 C.2.1 dX10_init_5 (by decide) ?_
  refine r_newa_int C w 4 ac_int (by decide) (by decide) (by decide) 1 4 rfl rfl ⟨Nat.le_of_ble_eq_true rfl, Nat.le_of_ble_eq_true rfl⟩ dX10_init_6 (fun n1 H w => ?_)
  have w : Wd D A s.heap [(a0, .inr (10, [.null, .null, .null])), (n1, .inl (cy 1, 4, .inl (fun _ => 0)))] _ _ := w
  refine lv_dup C.1 C.2.1 dX10_init_8 rfl ?_
  refine lv_iconst (v := 0) C.1 C.2.1 dX10_init_9 (by decide) ?_
  refine lv_iconst (v := (-1)) C.1 C.2.1 dX10_init_10 (by decide) ?_
  refine r_iast C w 1 rfl (vinD (by decide)) (upd (fun _ => 0) 0 (-1)) rfl [(a0, .inr (10, [.null, .null, .null])), (n1, .inl (cy 1, 4, .inl (upd (fun _ => 0) 0 (-1))))] rfl dX10_init_11 (fun H locs w => ?_)
  refine lv_dup C.1 C.2.1 dX10_init_12 rfl ?_
  refine lv_iconst (v := 1) C.1 C.2.1 dX10_init_13 (by decide) ?_
  refine lv_iconst (v := (-1)) C.1 C.2.1 dX10_init_14 (by decide) ?_
  refine r_iast C w 1 rfl (vinD (by decide)) (upd (upd (fun _ => 0) 0 (-1)) 1 (-1)) rfl [(a0, .inr (10, [.null, .null, .null])), (n1, .inl (cy 1, 4, .inl (upd (upd (fun _ => 0) 0 (-1)) 1 (-1))))] rfl dX10_init_15 (fun H locs w => ?_)
  refine lv_dup C.1 C.2.1 dX10_init_16 rfl ?_
  refine lv_iconst (v := 2) C.1 C.2.1 dX10_init_17 (by decide) ?_
  refine lv_iconst (v := (-1)) C.1 C.2.1 dX10_init_18 (by decide) ?_
  refine r_iast C w 1 rfl (vinD (by decide)) (upd (upd (upd (fun _ => 0) 0 (-1)) 1 (-1)) 2 (-1)) rfl [(a0, .inr (10, [.null, .null, .null])), (n1, .inl (cy 1, 4, .inl (upd (upd (upd (fun _ => 0) 0 (-1)) 1 (-1)) 2 (-1))))] rfl dX10_init_19 (fun H locs w => ?_)
  refine lv_dup C.1 C.2.1 dX10_init_20 rfl ?_
  refine lv_iconst (v := 3) C.1 C.2.1 dX10_init_21 (by decide) ?_
  refine lv_iconst (v := (-1)) C.1 C.2.1 dX10_init_22 (by decide) ?_
  refine r_iast C w 1 rfl (vinD (by decide)) (upd (upd (upd (upd (fun _ => 0) 0 (-1)) 1 (-1)) 2 (-1)) 3 (-1)) rfl [(a0, .inr (10, [.null, .null, .null])), (n1, .inl (cy 1, 4, .inl (upd (upd (upd (upd (fun _ => 0) 0 (-1)) 1 (-1)) 2 (-1)) 3 (-1))))] rfl dX10_init_23 (fun H locs w => ?_)
  refine r_putF C w 0 rfl rfl 0 (by decide) fl_RX10_9 rfl hnm rfl (ty := (.array .int)) (tyX10_ok 0 (by decide)) rfl rfl (Nat.le_of_ble_eq_true rfl) [(a0, .inr (10, [.ref n1, .null, .null])), (n1, .inl (cy 1, 4, .inl (upd (upd (upd (upd (fun _ => 0) 0 (-1)) 1 (-1)) 2 (-1)) 3 (-1))))] rfl dX10_init_24 (fun H locs w => ?_)
  refine lv_aload_n C.1 C.2.1 dX10_init_27 rfl (lv_at hl 0 rfl) ?_
  refine lv_iconst (v := 4) C.1 C.2.1 dX10_init_28 (by decide) ?_
  refine r_newa_int C w 4 ac_int (by decide) (by decide) (by decide) 2 8 rfl rfl ⟨Nat.le_of_ble_eq_true rfl, Nat.le_of_ble_eq_true rfl⟩ dX10_init_29 (fun n2 H w => ?_)
  have w : Wd D A s.heap [(a0, .inr (10, [.ref n1, .null, .null])), (n1, .inl (cy 1, 4, .inl (upd (upd (upd (upd (fun _ => 0) 0 (-1)) 1 (-1)) 2 (-1)) 3 (-1)))), (n2, .inl (cy 1, 4, .inl (fun _ => 0)))] _ _ := w
  refine r_putF C w 0 rfl rfl 1 (by decide) fl_RX10_15 rfl hnm rfl (ty := (.array .int)) (tyX10_ok 1 (by decide)) rfl rfl (Nat.le_of_ble_eq_true rfl) [(a0, .inr (10, [.ref n1, .ref n2, .null])), (n1, .inl (cy 1, 4, .inl (upd (upd (upd (upd (fun _ => 0) 0 (-1)) 1 (-1)) 2 (-1)) 3 (-1)))), (n2, .inl (cy 1, 4, .inl (fun _ => 0)))] rfl dX10_init_31 (fun H locs w => ?_)
  refine lv_aload_n C.1 C.2.1 dX10_init_34 rfl (lv_at hl 0 rfl) ?_
  refine lv_sipush (v := 160) C.1 C.2.1 dX10_init_35 (by decide) ?_
  refine r_newa_long C w 160 ac_long (by decide) (by decide) (by decide) 3 168 rfl rfl ⟨Nat.le_of_ble_eq_true rfl, Nat.le_of_ble_eq_true rfl⟩ dX10_init_38 (fun n3 H w => ?_)
  have w : Wd D A s.heap [(a0, .inr (10, [.ref n1, .ref n2, .null])), (n1, .inl (cy 1, 4, .inl (upd (upd (upd (upd (fun _ => 0) 0 (-1)) 1 (-1)) 2 (-1)) 3 (-1)))), (n2, .inl (cy 1, 4, .inl (fun _ => 0))), (n3, .inl (cy 2, 160, .inr (.inl (fun _ => 0))))] _ _ := w
  refine r_putF C w 0 rfl rfl 2 (by decide) fl_RX10_18 rfl hnm rfl (ty := (.array .long)) (tyX10_ok 2 (by decide)) rfl rfl (Nat.le_of_ble_eq_true rfl) [(a0, .inr (10, [.ref n1, .ref n2, .ref n3])), (n1, .inl (cy 1, 4, .inl (upd (upd (upd (upd (fun _ => 0) 0 (-1)) 1 (-1)) 2 (-1)) 3 (-1)))), (n2, .inl (cy 1, 4, .inl (fun _ => 0))), (n3, .inl (cy 2, 160, .inr (.inl (fun _ => 0))))] rfl dX10_init_40 (fun H locs w => ?_)
  exact r_vret C w hlocks (n1, n2, n3) hr rfl trivial [0, 1, 2, 3] rfl rfl ⟨Nat.le_of_ble_eq_true rfl, Nat.le_of_ble_eq_true rfl⟩ dX10_init_43
theorem fn_X10_init : FN yX10_init cX10_init 1 0 := ⟨⟨gw_mem (by decide +kernel) (by decide +kernel), gw_mem (by decide +kernel) (by decide +kernel), gw_mem (by decide +kernel) (by decide +kernel)⟩, ⟨by decide +kernel, by decide +kernel, by decide +kernel⟩, rfl⟩
theorem dX11_init_53 : decode cX11_init 53 = .ok (.putfield 36, 3) := by decide +kernel
theorem fl_RX11_36 : Cond.fieldLink RX11 36 "TwoSlips" "trays" "LTwoSlips$Trays;" ∈ gw := gw_mem (by decide +kernel) (by decide +kernel)
theorem dX11_init_56 : decode cX11_init 56 = .ok (.aload_n 0, 1) := by decide +kernel
theorem dX11_init_57 : decode cX11_init 57 = .ok (.new 24, 3) := by decide +kernel
theorem in_9 : Cond.instantiable RX9 17 ∈ gw := gw_mem (by decide +kernel) (by decide +kernel)
theorem it_9 : Cond.initialized RX9 ∈ gw := gw_mem (by decide +kernel) (by decide +kernel)
theorem dX11_init_60 : decode cX11_init 60 = .ok (.dup, 1) := by decide +kernel
theorem dX11_init_61 : decode cX11_init 61 = .ok (.invokespecial 40, 3) := by decide +kernel
theorem dX9_init_0 : decode cX9_init 0 = .ok (.aload_n 0, 1) := by decide +kernel
theorem dX9_init_1 : decode cX9_init 1 = .ok (.invokespecial 3, 3) := by decide +kernel
theorem ml_RX9_3 : Cond.methodLink RX9 3 objectInit ∈ gw := gw_mem (by decide +kernel) (by decide +kernel)
theorem dX9_init_4 : decode cX9_init 4 = .ok (.aload_n 0, 1) := by decide +kernel
theorem dX9_init_5 : decode cX9_init 5 = .ok (.iconst 2, 1) := by decide +kernel
theorem dX9_init_6 : decode cX9_init 6 = .ok (.putfield 9, 3) := by decide +kernel
theorem fl_RX9_9 : Cond.fieldLink RX9 9 "TwoSlips$Talk" "from" "I" ∈ gw := gw_mem (by decide +kernel) (by decide +kernel)
theorem dX9_init_9 : decode cX9_init 9 = .ok (.aload_n 0, 1) := by decide +kernel
theorem dX9_init_10 : decode cX9_init 10 = .ok (.bipush 20, 2) := by decide +kernel
theorem dX9_init_12 : decode cX9_init 12 = .ok (.putfield 15, 3) := by decide +kernel
theorem fl_RX9_15 : Cond.fieldLink RX9 15 "TwoSlips$Talk" "to" "I" ∈ gw := gw_mem (by decide +kernel) (by decide +kernel)
theorem dX9_init_15 : decode cX9_init 15 = .ok (.aload_n 0, 1) := by decide +kernel
theorem dX9_init_16 : decode cX9_init 16 = .ok (.bipush 120, 2) := by decide +kernel
theorem dX9_init_18 : decode cX9_init 18 = .ok (.putfield 18, 3) := by decide +kernel
theorem fl_RX9_18 : Cond.fieldLink RX9 18 "TwoSlips$Talk" "most" "I" ∈ gw := gw_mem (by decide +kernel) (by decide +kernel)
theorem dX9_init_21 : decode cX9_init 21 = .ok (.aload_n 0, 1) := by decide +kernel
theorem dX9_init_22 : decode cX9_init 22 = .ok (.bipush 6, 2) := by decide +kernel
theorem dX9_init_24 : decode cX9_init 24 = .ok (.newarray .int, 2) := by decide +kernel
theorem dX9_init_26 : decode cX9_init 26 = .ok (.putfield 21, 3) := by decide +kernel
theorem fl_RX9_21 : Cond.fieldLink RX9 21 "TwoSlips$Talk" "sight" "[I" ∈ gw := gw_mem (by decide +kernel) (by decide +kernel)
theorem dX9_init_29 : decode cX9_init 29 = .ok (.aload_n 0, 1) := by decide +kernel
theorem dX9_init_30 : decode cX9_init 30 = .ok (.bipush 20, 2) := by decide +kernel
theorem dX9_init_32 : decode cX9_init 32 = .ok (.newarray .int, 2) := by decide +kernel
theorem dX9_init_34 : decode cX9_init 34 = .ok (.putfield 25, 3) := by decide +kernel
theorem fl_RX9_25 : Cond.fieldLink RX9 25 "TwoSlips$Talk" "who" "[I" ∈ gw := gw_mem (by decide +kernel) (by decide +kernel)
theorem dX9_init_37 : decode cX9_init 37 = .ok (.aload_n 0, 1) := by decide +kernel
theorem dX9_init_38 : decode cX9_init 38 = .ok (.bipush 20, 2) := by decide +kernel
theorem dX9_init_40 : decode cX9_init 40 = .ok (.newarray .int, 2) := by decide +kernel
theorem dX9_init_42 : decode cX9_init 42 = .ok (.putfield 28, 3) := by decide +kernel
theorem fl_RX9_28 : Cond.fieldLink RX9 28 "TwoSlips$Talk" "saying" "[I" ∈ gw := gw_mem (by decide +kernel) (by decide +kernel)
theorem dX9_init_45 : decode cX9_init 45 = .ok (.aload_n 0, 1) := by decide +kernel
theorem dX9_init_46 : decode cX9_init 46 = .ok (.sipush 300, 3) := by decide +kernel
theorem dX9_init_49 : decode cX9_init 49 = .ok (.newarray .int, 2) := by decide +kernel
theorem dX9_init_51 : decode cX9_init 51 = .ok (.putfield 31, 3) := by decide +kernel
theorem fl_RX9_31 : Cond.fieldLink RX9 31 "TwoSlips$Talk" "kind" "[I" ∈ gw := gw_mem (by decide +kernel) (by decide +kernel)
theorem dX9_init_54 : decode cX9_init 54 = .ok (.aload_n 0, 1) := by decide +kernel
theorem dX9_init_55 : decode cX9_init 55 = .ok (.sipush 300, 3) := by decide +kernel
theorem dX9_init_58 : decode cX9_init 58 = .ok (.newarray .int, 2) := by decide +kernel
theorem dX9_init_60 : decode cX9_init 60 = .ok (.putfield 34, 3) := by decide +kernel
theorem fl_RX9_34 : Cond.fieldLink RX9 34 "TwoSlips$Talk" "number" "[I" ∈ gw := gw_mem (by decide +kernel) (by decide +kernel)
theorem dX9_init_63 : decode cX9_init 63 = .ok (.aload_n 0, 1) := by decide +kernel
theorem dX9_init_64 : decode cX9_init 64 = .ok (.sipush 300, 3) := by decide +kernel
theorem dX9_init_67 : decode cX9_init 67 = .ok (.newarray .int, 2) := by decide +kernel
theorem dX9_init_69 : decode cX9_init 69 = .ok (.putfield 37, 3) := by decide +kernel
theorem fl_RX9_37 : Cond.fieldLink RX9 37 "TwoSlips$Talk" "inner" "[I" ∈ gw := gw_mem (by decide +kernel) (by decide +kernel)
theorem dX9_init_72 : decode cX9_init 72 = .ok (.aload_n 0, 1) := by decide +kernel
theorem dX9_init_73 : decode cX9_init 73 = .ok (.sipush 300, 3) := by decide +kernel
theorem dX9_init_76 : decode cX9_init 76 = .ok (.newarray .int, 2) := by decide +kernel
theorem dX9_init_78 : decode cX9_init 78 = .ok (.putfield 40, 3) := by decide +kernel
theorem fl_RX9_40 : Cond.fieldLink RX9 40 "TwoSlips$Talk" "next" "[I" ∈ gw := gw_mem (by decide +kernel) (by decide +kernel)
theorem dX9_init_81 : decode cX9_init 81 = .ok (.return_, 1) := by decide +kernel
set_option maxRecDepth 100000 in
set_option maxHeartbeats 4000000 in
theorem c_X9_init_0 (l : Launch) (D : va_G) (cy : Nat → ClassId) (a0 : Nat) : Ct l D cy yX9_init cX9_init 1 none 1 12 7 1246 [(a0, .inr (9, [.int 0, .int 0, .int 0, .int 0, .int 0, .int 0, .int 0, .int 0, .null, .int 0, .null, .null, .int 0, .null, .null, .null, .null]))] [.ref a0] (fun u : Nat × Nat × Nat × Nat × Nat × Nat × Nat => none) (fun _ => True) (fun u : Nat × Nat × Nat × Nat × Nat × Nat × Nat => [(a0, .inr (9, [.int 0, .int 2, .int 20, .int 120, .int 0, .int 0, .int 0, .int 0, .ref u.1, .int 0, .ref u.2.1, .ref u.2.2.1, .int 0, .ref u.2.2.2.1, .ref u.2.2.2.2.1, .ref u.2.2.2.2.2.1, .ref u.2.2.2.2.2.2])), (u.1, .inl (cy 1, 6, .inl (fun _ => 0))), (u.2.1, .inl (cy 1, 20, .inl (fun _ => 0))), (u.2.2.1, .inl (cy 1, 20, .inl (fun _ => 0))), (u.2.2.2.1, .inl (cy 1, 300, .inl (fun _ => 0))), (u.2.2.2.2.1, .inl (cy 1, 300, .inl (fun _ => 0))), (u.2.2.2.2.2.1, .inl (cy 1, 300, .inl (fun _ => 0))), (u.2.2.2.2.2.2, .inl (cy 1, 300, .inl (fun _ => 0)))]) := by
  refine Ct.of (by decide +kernel) (Nat.le_of_ble_eq_true rfl) ?_
  intro p e s m args below meth c A ls C hr hlocks hml hnm w hl
  have hl : lv_has ls 1 [(0, .ref a0)] := hl
  refine lv_aload_n C.1 C.2.1 dX9_init_0 rfl (lv_at hl 0 rfl) ?_
  refine r_objInit C (hl.1.trans hml.symm) ml_RX9_3 im_obj cd_obj ⟨Nat.le_of_ble_eq_true rfl, Nat.le_of_ble_eq_true rfl⟩ dX9_init_1 ?_
  refine lv_aload_n C.1 C.2.1 dX9_init_4 rfl (lv_at hl 0 rfl) ?_
  refine lv_iconst (v := 2) C.1 C.2.1 dX9_init_5 (by decide) ?_
  refine r_put C w 0 rfl rfl 1 (by decide) fl_RX9_9 rfl (ty := .int) (tyX9_ok 1 (by decide)) rfl rfl (Nat.le_of_ble_eq_true rfl) [(a0, .inr (9, [.int 0, .int 2, .int 0, .int 0, .int 0, .int 0, .int 0, .int 0, .null, .int 0, .null, .null, .int 0, .null, .null, .null, .null]))] rfl dX9_init_6 (fun H locs w => ?_)
  refine lv_aload_n C.1 C.2.1 dX9_init_9 rfl (lv_at hl 0 rfl) ?_
  refine lv_bipush (v := 20) C.1 C.2.1 dX9_init_10 (by decide) ?_
  refine r_put C w 0 rfl rfl 2 (by decide) fl_RX9_15 rfl (ty := .int) (tyX9_ok 2 (by decide)) rfl rfl (Nat.le_of_ble_eq_true rfl) [(a0, .inr (9, [.int 0, .int 2, .int 20, .int 0, .int 0, .int 0, .int 0, .int 0, .null, .int 0, .null, .null, .int 0, .null, .null, .null, .null]))] rfl dX9_init_12 (fun H locs w => ?_)
  refine lv_aload_n C.1 C.2.1 dX9_init_15 rfl (lv_at hl 0 rfl) ?_
  refine lv_bipush (v := 120) C.1 C.2.1 dX9_init_16 (by decide) ?_
  refine r_put C w 0 rfl rfl 3 (by decide) fl_RX9_18 rfl (ty := .int) (tyX9_ok 3 (by decide)) rfl rfl (Nat.le_of_ble_eq_true rfl) [(a0, .inr (9, [.int 0, .int 2, .int 20, .int 120, .int 0, .int 0, .int 0, .int 0, .null, .int 0, .null, .null, .int 0, .null, .null, .null, .null]))] rfl dX9_init_18 (fun H locs w => ?_)
  refine lv_aload_n C.1 C.2.1 dX9_init_21 rfl (lv_at hl 0 rfl) ?_
  refine lv_bipush (v := 6) C.1 C.2.1 dX9_init_22 (by decide) ?_
  refine r_newa_int C w 6 ac_int (by decide) (by decide) (by decide) 1 6 rfl rfl ⟨Nat.le_of_ble_eq_true rfl, Nat.le_of_ble_eq_true rfl⟩ dX9_init_24 (fun n1 H w => ?_)
  have w : Wd D A s.heap [(a0, .inr (9, [.int 0, .int 2, .int 20, .int 120, .int 0, .int 0, .int 0, .int 0, .null, .int 0, .null, .null, .int 0, .null, .null, .null, .null])), (n1, .inl (cy 1, 6, .inl (fun _ => 0)))] _ _ := w
  refine r_putF C w 0 rfl rfl 8 (by decide) fl_RX9_21 rfl hnm rfl (ty := (.array .int)) (tyX9_ok 8 (by decide)) rfl rfl (Nat.le_of_ble_eq_true rfl) [(a0, .inr (9, [.int 0, .int 2, .int 20, .int 120, .int 0, .int 0, .int 0, .int 0, .ref n1, .int 0, .null, .null, .int 0, .null, .null, .null, .null])), (n1, .inl (cy 1, 6, .inl (fun _ => 0)))] rfl dX9_init_26 (fun H locs w => ?_)
  refine lv_aload_n C.1 C.2.1 dX9_init_29 rfl (lv_at hl 0 rfl) ?_
  refine lv_bipush (v := 20) C.1 C.2.1 dX9_init_30 (by decide) ?_
  refine r_newa_int C w 20 ac_int (by decide) (by decide) (by decide) 2 26 rfl rfl ⟨Nat.le_of_ble_eq_true rfl, Nat.le_of_ble_eq_true rfl⟩ dX9_init_32 (fun n2 H w => ?_)
  have w : Wd D A s.heap [(a0, .inr (9, [.int 0, .int 2, .int 20, .int 120, .int 0, .int 0, .int 0, .int 0, .ref n1, .int 0, .null, .null, .int 0, .null, .null, .null, .null])), (n1, .inl (cy 1, 6, .inl (fun _ => 0))), (n2, .inl (cy 1, 20, .inl (fun _ => 0)))] _ _ := w
  refine r_putF C w 0 rfl rfl 10 (by decide) fl_RX9_25 rfl hnm rfl (ty := (.array .int)) (tyX9_ok 10 (by decide)) rfl rfl (Nat.le_of_ble_eq_true rfl) [(a0, .inr (9, [.int 0, .int 2, .int 20, .int 120, .int 0, .int 0, .int 0, .int 0, .ref n1, .int 0, .ref n2, .null, .int 0, .null, .null, .null, .null])), (n1, .inl (cy 1, 6, .inl (fun _ => 0))), (n2, .inl (cy 1, 20, .inl (fun _ => 0)))] rfl dX9_init_34 (fun H locs w => ?_)
  refine lv_aload_n C.1 C.2.1 dX9_init_37 rfl (lv_at hl 0 rfl) ?_
  refine lv_bipush (v := 20) C.1 C.2.1 dX9_init_38 (by decide) ?_
  refine r_newa_int C w 20 ac_int (by decide) (by decide) (by decide) 3 46 rfl rfl ⟨Nat.le_of_ble_eq_true rfl, Nat.le_of_ble_eq_true rfl⟩ dX9_init_40 (fun n3 H w => ?_)
  have w : Wd D A s.heap [(a0, .inr (9, [.int 0, .int 2, .int 20, .int 120, .int 0, .int 0, .int 0, .int 0, .ref n1, .int 0, .ref n2, .null, .int 0, .null, .null, .null, .null])), (n1, .inl (cy 1, 6, .inl (fun _ => 0))), (n2, .inl (cy 1, 20, .inl (fun _ => 0))), (n3, .inl (cy 1, 20, .inl (fun _ => 0)))] _ _ := w
  refine r_putF C w 0 rfl rfl 11 (by decide) fl_RX9_28 rfl hnm rfl (ty := (.array .int)) (tyX9_ok 11 (by decide)) rfl rfl (Nat.le_of_ble_eq_true rfl) [(a0, .inr (9, [.int 0, .int 2, .int 20, .int 120, .int 0, .int 0, .int 0, .int 0, .ref n1, .int 0, .ref n2, .ref n3, .int 0, .null, .null, .null, .null])), (n1, .inl (cy 1, 6, .inl (fun _ => 0))), (n2, .inl (cy 1, 20, .inl (fun _ => 0))), (n3, .inl (cy 1, 20, .inl (fun _ => 0)))] rfl dX9_init_42 (fun H locs w => ?_)
  refine lv_aload_n C.1 C.2.1 dX9_init_45 rfl (lv_at hl 0 rfl) ?_
  refine lv_sipush (v := 300) C.1 C.2.1 dX9_init_46 (by decide) ?_
  refine r_newa_int C w 300 ac_int (by decide) (by decide) (by decide) 4 346 rfl rfl ⟨Nat.le_of_ble_eq_true rfl, Nat.le_of_ble_eq_true rfl⟩ dX9_init_49 (fun n4 H w => ?_)
  have w : Wd D A s.heap [(a0, .inr (9, [.int 0, .int 2, .int 20, .int 120, .int 0, .int 0, .int 0, .int 0, .ref n1, .int 0, .ref n2, .ref n3, .int 0, .null, .null, .null, .null])), (n1, .inl (cy 1, 6, .inl (fun _ => 0))), (n2, .inl (cy 1, 20, .inl (fun _ => 0))), (n3, .inl (cy 1, 20, .inl (fun _ => 0))), (n4, .inl (cy 1, 300, .inl (fun _ => 0)))] _ _ := w
  refine r_putF C w 0 rfl rfl 13 (by decide) fl_RX9_31 rfl hnm rfl (ty := (.array .int)) (tyX9_ok 13 (by decide)) rfl rfl (Nat.le_of_ble_eq_true rfl) [(a0, .inr (9, [.int 0, .int 2, .int 20, .int 120, .int 0, .int 0, .int 0, .int 0, .ref n1, .int 0, .ref n2, .ref n3, .int 0, .ref n4, .null, .null, .null])), (n1, .inl (cy 1, 6, .inl (fun _ => 0))), (n2, .inl (cy 1, 20, .inl (fun _ => 0))), (n3, .inl (cy 1, 20, .inl (fun _ => 0))), (n4, .inl (cy 1, 300, .inl (fun _ => 0)))] rfl dX9_init_51 (fun H locs w => ?_)
  refine lv_aload_n C.1 C.2.1 dX9_init_54 rfl (lv_at hl 0 rfl) ?_
  refine lv_sipush (v := 300) C.1 C.2.1 dX9_init_55 (by decide) ?_
  refine r_newa_int C w 300 ac_int (by decide) (by decide) (by decide) 5 646 rfl rfl ⟨Nat.le_of_ble_eq_true rfl, Nat.le_of_ble_eq_true rfl⟩ dX9_init_58 (fun n5 H w => ?_)
  have w : Wd D A s.heap [(a0, .inr (9, [.int 0, .int 2, .int 20, .int 120, .int 0, .int 0, .int 0, .int 0, .ref n1, .int 0, .ref n2, .ref n3, .int 0, .ref n4, .null, .null, .null])), (n1, .inl (cy 1, 6, .inl (fun _ => 0))), (n2, .inl (cy 1, 20, .inl (fun _ => 0))), (n3, .inl (cy 1, 20, .inl (fun _ => 0))), (n4, .inl (cy 1, 300, .inl (fun _ => 0))), (n5, .inl (cy 1, 300, .inl (fun _ => 0)))] _ _ := w
  refine r_putF C w 0 rfl rfl 14 (by decide) fl_RX9_34 rfl hnm rfl (ty := (.array .int)) (tyX9_ok 14 (by decide)) rfl rfl (Nat.le_of_ble_eq_true rfl) [(a0, .inr (9, [.int 0, .int 2, .int 20, .int 120, .int 0, .int 0, .int 0, .int 0, .ref n1, .int 0, .ref n2, .ref n3, .int 0, .ref n4, .ref n5, .null, .null])), (n1, .inl (cy 1, 6, .inl (fun _ => 0))), (n2, .inl (cy 1, 20, .inl (fun _ => 0))), (n3, .inl (cy 1, 20, .inl (fun _ => 0))), (n4, .inl (cy 1, 300, .inl (fun _ => 0))), (n5, .inl (cy 1, 300, .inl (fun _ => 0)))] rfl dX9_init_60 (fun H locs w => ?_)
  refine lv_aload_n C.1 C.2.1 dX9_init_63 rfl (lv_at hl 0 rfl) ?_
  refine lv_sipush (v := 300) C.1 C.2.1 dX9_init_64 (by decide) ?_
  refine r_newa_int C w 300 ac_int (by decide) (by decide) (by decide) 6 946 rfl rfl ⟨Nat.le_of_ble_eq_true rfl, Nat.le_of_ble_eq_true rfl⟩ dX9_init_67 (fun n6 H w => ?_)
  have w : Wd D A s.heap [(a0, .inr (9, [.int 0, .int 2, .int 20, .int 120, .int 0, .int 0, .int 0, .int 0, .ref n1, .int 0, .ref n2, .ref n3, .int 0, .ref n4, .ref n5, .null, .null])), (n1, .inl (cy 1, 6, .inl (fun _ => 0))), (n2, .inl (cy 1, 20, .inl (fun _ => 0))), (n3, .inl (cy 1, 20, .inl (fun _ => 0))), (n4, .inl (cy 1, 300, .inl (fun _ => 0))), (n5, .inl (cy 1, 300, .inl (fun _ => 0))), (n6, .inl (cy 1, 300, .inl (fun _ => 0)))] _ _ := w
  refine r_putF C w 0 rfl rfl 15 (by decide) fl_RX9_37 rfl hnm rfl (ty := (.array .int)) (tyX9_ok 15 (by decide)) rfl rfl (Nat.le_of_ble_eq_true rfl) [(a0, .inr (9, [.int 0, .int 2, .int 20, .int 120, .int 0, .int 0, .int 0, .int 0, .ref n1, .int 0, .ref n2, .ref n3, .int 0, .ref n4, .ref n5, .ref n6, .null])), (n1, .inl (cy 1, 6, .inl (fun _ => 0))), (n2, .inl (cy 1, 20, .inl (fun _ => 0))), (n3, .inl (cy 1, 20, .inl (fun _ => 0))), (n4, .inl (cy 1, 300, .inl (fun _ => 0))), (n5, .inl (cy 1, 300, .inl (fun _ => 0))), (n6, .inl (cy 1, 300, .inl (fun _ => 0)))] rfl dX9_init_69 (fun H locs w => ?_)
  refine lv_aload_n C.1 C.2.1 dX9_init_72 rfl (lv_at hl 0 rfl) ?_
  refine lv_sipush (v := 300) C.1 C.2.1 dX9_init_73 (by decide) ?_
  refine r_newa_int C w 300 ac_int (by decide) (by decide) (by decide) 7 1246 rfl rfl ⟨Nat.le_of_ble_eq_true rfl, Nat.le_of_ble_eq_true rfl⟩ dX9_init_76 (fun n7 H w => ?_)
  have w : Wd D A s.heap [(a0, .inr (9, [.int 0, .int 2, .int 20, .int 120, .int 0, .int 0, .int 0, .int 0, .ref n1, .int 0, .ref n2, .ref n3, .int 0, .ref n4, .ref n5, .ref n6, .null])), (n1, .inl (cy 1, 6, .inl (fun _ => 0))), (n2, .inl (cy 1, 20, .inl (fun _ => 0))), (n3, .inl (cy 1, 20, .inl (fun _ => 0))), (n4, .inl (cy 1, 300, .inl (fun _ => 0))), (n5, .inl (cy 1, 300, .inl (fun _ => 0))), (n6, .inl (cy 1, 300, .inl (fun _ => 0))), (n7, .inl (cy 1, 300, .inl (fun _ => 0)))] _ _ := w
  refine r_putF C w 0 rfl rfl 16 (by decide) fl_RX9_40 rfl hnm rfl (ty := (.array .int)) (tyX9_ok 16 (by decide)) rfl rfl (Nat.le_of_ble_eq_true rfl) [(a0, .inr (9, [.int 0, .int 2, .int 20, .int 120, .int 0, .int 0, .int 0, .int 0, .ref n1, .int 0, .ref n2, .ref n3, .int 0, .ref n4, .ref n5, .ref n6, .ref n7])), (n1, .inl (cy 1, 6, .inl (fun _ => 0))), (n2, .inl (cy 1, 20, .inl (fun _ => 0))), (n3, .inl (cy 1, 20, .inl (fun _ => 0))), (n4, .inl (cy 1, 300, .inl (fun _ => 0))), (n5, .inl (cy 1, 300, .inl (fun _ => 0))), (n6, .inl (cy 1, 300, .inl (fun _ => 0))), (n7, .inl (cy 1, 300, .inl (fun _ => 0)))] rfl dX9_init_78 (fun H locs w => ?_)
  exact r_vret C w hlocks (n1, n2, n3, n4, n5, n6, n7) hr rfl trivial [0, 1, 2, 3, 4, 5, 6, 7] rfl rfl ⟨Nat.le_of_ble_eq_true rfl, Nat.le_of_ble_eq_true rfl⟩ dX9_init_81
theorem fn_X9_init : FN yX9_init cX9_init 1 0 := ⟨⟨gw_mem (by decide +kernel) (by decide +kernel), gw_mem (by decide +kernel) (by decide +kernel), gw_mem (by decide +kernel) (by decide +kernel)⟩, ⟨by decide +kernel, by decide +kernel, by decide +kernel⟩, rfl⟩
theorem dX11_init_64 : decode cX11_init 64 = .ok (.putfield 41, 3) := by decide +kernel
theorem fl_RX11_41 : Cond.fieldLink RX11 41 "TwoSlips" "now" "LTwoSlips$Talk;" ∈ gw := gw_mem (by decide +kernel) (by decide +kernel)
theorem dX11_init_67 : decode cX11_init 67 = .ok (.aload_n 0, 1) := by decide +kernel
theorem dX11_init_68 : decode cX11_init 68 = .ok (.getfield 26, 3) := by decide +kernel
theorem dX11_init_71 : decode cX11_init 71 = .ok (.iconst 0, 1) := by decide +kernel
theorem dX11_init_72 : decode cX11_init 72 = .ok (.aload_n 0, 1) := by decide +kernel
theorem dX11_init_73 : decode cX11_init 73 = .ok (.getfield 41, 3) := by decide +kernel
theorem dX11_init_76 : decode cX11_init 76 = .ok (.aastore, 1) := by decide +kernel
theorem dX11_init_77 : decode cX11_init 77 = .ok (.return_, 1) := by decide +kernel
set_option maxRecDepth 100000 in
set_option maxHeartbeats 4000000 in
theorem c_X11_init_0 (l : Launch) (D : va_G) (cy : Nat → ClassId) (a0 : Nat) : Ct l D cy yX11_init cX11_init 1 none 2 32 17 2350 [(a0, .inr (11, [.null, .int 0, .int 0, .int 0, .null, .null, .null, .null, .null, .null]))] [.ref a0] (fun u : Nat × Nat × Nat × Nat × Nat × Nat × Nat × Nat × Nat × Nat × Nat × Nat × Nat × Nat × Nat × Nat × Nat => none) (fun _ => True) (fun u : Nat × Nat × Nat × Nat × Nat × Nat × Nat × Nat × Nat × Nat × Nat × Nat × Nat × Nat × Nat × Nat × Nat => [(a0, .inr (11, [.ref u.1, .int 0, .int 0, .int (-1), .ref u.2.1, .ref u.2.2.2.1, .ref u.2.2.2.2.1, .ref u.2.2.2.2.2.1, .ref u.2.2.2.2.2.2.2.2.2.1, .null])), (u.1, .inl (cy 0, 900, .inl (fun _ => 0))), (u.2.1, .inr (5, [.ref u.2.2.1, .int 0, .int 0, .int 0, .int 0, .int 0, .int 0, .null])), (u.2.2.1, .inl (cy 0, 0, .inl (fun _ => 0))), (u.2.2.2.1, .inl (cy 4, 5, .inr (.inr (.inr (.inr (va_up (fun _ => none) 0 (some u.2.2.2.2.2.2.2.2.2.1))))))), (u.2.2.2.2.1, .inl (cy 4, 3, .inr (.inr (.inr (.inr (fun _ => none)))))), (u.2.2.2.2.2.1, .inr (10, [.ref u.2.2.2.2.2.2.1, .ref u.2.2.2.2.2.2.2.1, .ref u.2.2.2.2.2.2.2.2.1])), (u.2.2.2.2.2.2.1, .inl (cy 1, 4, .inl (upd (upd (upd (upd (fun _ => 0) 0 (-1)) 1 (-1)) 2 (-1)) 3 (-1)))), (u.2.2.2.2.2.2.2.1, .inl (cy 1, 4, .inl (fun _ => 0))), (u.2.2.2.2.2.2.2.2.1, .inl (cy 2, 160, .inr (.inl (fun _ => 0)))), (u.2.2.2.2.2.2.2.2.2.1, .inr (9, [.int 0, .int 2, .int 20, .int 120, .int 0, .int 0, .int 0, .int 0, .ref u.2.2.2.2.2.2.2.2.2.2.1, .int 0, .ref u.2.2.2.2.2.2.2.2.2.2.2.1, .ref u.2.2.2.2.2.2.2.2.2.2.2.2.1, .int 0, .ref u.2.2.2.2.2.2.2.2.2.2.2.2.2.1, .ref u.2.2.2.2.2.2.2.2.2.2.2.2.2.2.1, .ref u.2.2.2.2.2.2.2.2.2.2.2.2.2.2.2.1, .ref u.2.2.2.2.2.2.2.2.2.2.2.2.2.2.2.2])), (u.2.2.2.2.2.2.2.2.2.2.1, .inl (cy 1, 6, .inl (fun _ => 0))), (u.2.2.2.2.2.2.2.2.2.2.2.1, .inl (cy 1, 20, .inl (fun _ => 0))), (u.2.2.2.2.2.2.2.2.2.2.2.2.1, .inl (cy 1, 20, .inl (fun _ => 0))), (u.2.2.2.2.2.2.2.2.2.2.2.2.2.1, .inl (cy 1, 300, .inl (fun _ => 0))), (u.2.2.2.2.2.2.2.2.2.2.2.2.2.2.1, .inl (cy 1, 300, .inl (fun _ => 0))), (u.2.2.2.2.2.2.2.2.2.2.2.2.2.2.2.1, .inl (cy 1, 300, .inl (fun _ => 0))), (u.2.2.2.2.2.2.2.2.2.2.2.2.2.2.2.2, .inl (cy 1, 300, .inl (fun _ => 0)))]) := by
  refine Ct.of (by decide +kernel) (Nat.le_of_ble_eq_true rfl) ?_
  intro p e s m args below meth c A ls C hr hlocks hml hnm w hl
  have hl : lv_has ls 1 [(0, .ref a0)] := hl
  refine lv_aload_n C.1 C.2.1 dX11_init_0 rfl (lv_at hl 0 rfl) ?_
  refine r_objInit C (hl.1.trans hml.symm) ml_RX11_1 im_obj cd_obj ⟨Nat.le_of_ble_eq_true rfl, Nat.le_of_ble_eq_true rfl⟩ dX11_init_1 ?_
  refine lv_aload_n C.1 C.2.1 dX11_init_4 rfl (lv_at hl 0 rfl) ?_
  refine lv_sipush (v := 900) C.1 C.2.1 dX11_init_5 (by decide) ?_
  refine r_newa_byte C w 900 ac_byte (by decide) (by decide) (by decide) 1 900 rfl rfl ⟨Nat.le_of_ble_eq_true rfl, Nat.le_of_ble_eq_true rfl⟩ dX11_init_8 (fun n1 H w => ?_)
  have w : Wd D A s.heap [(a0, .inr (11, [.null, .int 0, .int 0, .int 0, .null, .null, .null, .null, .null, .null])), (n1, .inl (cy 0, 900, .inl (fun _ => 0)))] _ _ := w
  refine r_putF C w 0 rfl rfl 0 (by decide) fl_RX11_9 rfl hnm rfl (ty := (.array .byte)) (tyX11_ok 0 (by decide)) rfl rfl (Nat.le_of_ble_eq_true rfl) [(a0, .inr (11, [.ref n1, .int 0, .int 0, .int 0, .null, .null, .null, .null, .null, .null])), (n1, .inl (cy 0, 900, .inl (fun _ => 0)))] rfl dX11_init_10 (fun H locs w => ?_)
  refine lv_aload_n C.1 C.2.1 dX11_init_13 rfl (lv_at hl 0 rfl) ?_
  refine lv_iconst (v := (-1)) C.1 C.2.1 dX11_init_14 (by decide) ?_
  refine r_put C w 0 rfl rfl 3 (by decide) fl_RX11_13 rfl (ty := .int) (tyX11_ok 3 (by decide)) rfl rfl (Nat.le_of_ble_eq_true rfl) [(a0, .inr (11, [.ref n1, .int 0, .int 0, .int (-1), .null, .null, .null, .null, .null, .null])), (n1, .inl (cy 0, 900, .inl (fun _ => 0)))] rfl dX11_init_15 (fun H locs w => ?_)
  refine lv_aload_n C.1 C.2.1 dX11_init_18 rfl (lv_at hl 0 rfl) ?_
  refine r_new C w (ci := 5) rfl cl_RX11_17 in_5 it_5 tyX5 tyX5_ok [.null, .int 0, .int 0, .int 0, .int 0, .int 0, .int 0, .null] (by decide +kernel) 2 908 rfl rfl ⟨Nat.le_of_ble_eq_true rfl, Nat.le_of_ble_eq_true rfl⟩ dX11_init_19 (fun n2 H w => ?_)
  have w : Wd D A s.heap [(a0, .inr (11, [.ref n1, .int 0, .int 0, .int (-1), .null, .null, .null, .null, .null, .null])), (n1, .inl (cy 0, 900, .inl (fun _ => 0))), (n2, .inr (5, [.null, .int 0, .int 0, .int 0, .int 0, .int 0, .int 0, .null]))] _ _ := w
  refine lv_dup C.1 C.2.1 dX11_init_22 rfl ?_
  refine r_callN C w C.2.2.2.2.1.2.2.1.1 fn_X5_init (c_X5_init_0 l D cy n2) (hl.1.trans hml.symm) [2] [0, 1] (wr := [(a0, .inr (11, [.ref n1, .int 0, .int 0, .int (-1), .null, .null, .null, .null, .null, .null])), (n1, .inl (cy 0, 900, .inl (fun _ => 0)))]) ⟨rfl, rfl, rfl, rfl, by decide⟩ rfl rfl ⟨Nat.le_of_ble_eq_true rfl, Nat.le_of_ble_eq_true rfl, Nat.le_of_ble_eq_true rfl⟩ 3 908 ⟨rfl, rfl, Nat.le_of_ble_eq_true rfl, Nat.le_of_ble_eq_true rfl⟩ dX11_init_23 (fun u H locs hp w => ?_)
  obtain ⟨n3, rfl⟩ : ∃ z, z = u := ⟨_, rfl⟩
  have w : Wd D A s.heap [(a0, .inr (11, [.ref n1, .int 0, .int 0, .int (-1), .null, .null, .null, .null, .null, .null])), (n1, .inl (cy 0, 900, .inl (fun _ => 0))), (n2, .inr (5, [.ref n3, .int 0, .int 0, .int 0, .int 0, .int 0, .int 0, .null])), (n3, .inl (cy 0, 0, .inl (fun _ => 0)))] _ _ := w
  refine r_top (g2 := F0 m 26 ls [.ref n2, .ref a0]) rfl ?_
  refine r_putF C w 0 rfl rfl 4 (by decide) fl_RX11_20 rfl hnm rfl (ty := (.object "TwoSlips$Reading")) (tyX11_ok 4 (by decide)) rfl rfl (Nat.le_of_ble_eq_true rfl) [(a0, .inr (11, [.ref n1, .int 0, .int 0, .int (-1), .ref n2, .null, .null, .null, .null, .null])), (n1, .inl (cy 0, 900, .inl (fun _ => 0))), (n2, .inr (5, [.ref n3, .int 0, .int 0, .int 0, .int 0, .int 0, .int 0, .null])), (n3, .inl (cy 0, 0, .inl (fun _ => 0)))] rfl dX11_init_26 (fun H locs w => ?_)
  refine lv_aload_n C.1 C.2.1 dX11_init_29 rfl (lv_at hl 0 rfl) ?_
  refine lv_iconst (v := 5) C.1 C.2.1 dX11_init_30 (by decide) ?_
  refine r_newq C w 5 cl_RX11_24 (by decide) (by decide) (by decide) 4 913 rfl rfl ⟨Nat.le_of_ble_eq_true rfl, Nat.le_of_ble_eq_true rfl⟩ dX11_init_31 (fun n4 H w => ?_)
  have w : Wd D A s.heap [(a0, .inr (11, [.ref n1, .int 0, .int 0, .int (-1), .ref n2, .null, .null, .null, .null, .null])), (n1, .inl (cy 0, 900, .inl (fun _ => 0))), (n2, .inr (5, [.ref n3, .int 0, .int 0, .int 0, .int 0, .int 0, .int 0, .null])), (n3, .inl (cy 0, 0, .inl (fun _ => 0))), (n4, .inl (cy 4, 5, .inr (.inr (.inr (.inr (fun _ => none))))))] _ _ := w
  refine r_putF C w 0 rfl rfl 5 (by decide) fl_RX11_26 rfl hnm rfl (ty := (.array (.object "TwoSlips$Talk"))) (tyX11_ok 5 (by decide)) rfl rfl (Nat.le_of_ble_eq_true rfl) [(a0, .inr (11, [.ref n1, .int 0, .int 0, .int (-1), .ref n2, .ref n4, .null, .null, .null, .null])), (n1, .inl (cy 0, 900, .inl (fun _ => 0))), (n2, .inr (5, [.ref n3, .int 0, .int 0, .int 0, .int 0, .int 0, .int 0, .null])), (n3, .inl (cy 0, 0, .inl (fun _ => 0))), (n4, .inl (cy 4, 5, .inr (.inr (.inr (.inr (fun _ => none))))))] rfl dX11_init_34 (fun H locs w => ?_)
  refine lv_aload_n C.1 C.2.1 dX11_init_37 rfl (lv_at hl 0 rfl) ?_
  refine lv_iconst (v := 3) C.1 C.2.1 dX11_init_38 (by decide) ?_
  refine r_newq C w 3 cl_RX11_24 (by decide) (by decide) (by decide) 5 916 rfl rfl ⟨Nat.le_of_ble_eq_true rfl, Nat.le_of_ble_eq_true rfl⟩ dX11_init_39 (fun n5 H w => ?_)
  have w : Wd D A s.heap [(a0, .inr (11, [.ref n1, .int 0, .int 0, .int (-1), .ref n2, .ref n4, .null, .null, .null, .null])), (n1, .inl (cy 0, 900, .inl (fun _ => 0))), (n2, .inr (5, [.ref n3, .int 0, .int 0, .int 0, .int 0, .int 0, .int 0, .null])), (n3, .inl (cy 0, 0, .inl (fun _ => 0))), (n4, .inl (cy 4, 5, .inr (.inr (.inr (.inr (fun _ => none)))))), (n5, .inl (cy 4, 3, .inr (.inr (.inr (.inr (fun _ => none))))))] _ _ := w
  refine r_putF C w 0 rfl rfl 6 (by decide) fl_RX11_30 rfl hnm rfl (ty := (.array (.object "TwoSlips$Talk"))) (tyX11_ok 6 (by decide)) rfl rfl (Nat.le_of_ble_eq_true rfl) [(a0, .inr (11, [.ref n1, .int 0, .int 0, .int (-1), .ref n2, .ref n4, .ref n5, .null, .null, .null])), (n1, .inl (cy 0, 900, .inl (fun _ => 0))), (n2, .inr (5, [.ref n3, .int 0, .int 0, .int 0, .int 0, .int 0, .int 0, .null])), (n3, .inl (cy 0, 0, .inl (fun _ => 0))), (n4, .inl (cy 4, 5, .inr (.inr (.inr (.inr (fun _ => none)))))), (n5, .inl (cy 4, 3, .inr (.inr (.inr (.inr (fun _ => none))))))] rfl dX11_init_42 (fun H locs w => ?_)
  refine lv_aload_n C.1 C.2.1 dX11_init_45 rfl (lv_at hl 0 rfl) ?_
  refine r_new C w (ci := 10) rfl cl_RX11_33 in_10 it_10 tyX10 tyX10_ok [.null, .null, .null] (by decide +kernel) 6 919 rfl rfl ⟨Nat.le_of_ble_eq_true rfl, Nat.le_of_ble_eq_true rfl⟩ dX11_init_46 (fun n6 H w => ?_)
  have w : Wd D A s.heap [(a0, .inr (11, [.ref n1, .int 0, .int 0, .int (-1), .ref n2, .ref n4, .ref n5, .null, .null, .null])), (n1, .inl (cy 0, 900, .inl (fun _ => 0))), (n2, .inr (5, [.ref n3, .int 0, .int 0, .int 0, .int 0, .int 0, .int 0, .null])), (n3, .inl (cy 0, 0, .inl (fun _ => 0))), (n4, .inl (cy 4, 5, .inr (.inr (.inr (.inr (fun _ => none)))))), (n5, .inl (cy 4, 3, .inr (.inr (.inr (.inr (fun _ => none)))))), (n6, .inr (10, [.null, .null, .null]))] _ _ := w
  refine lv_dup C.1 C.2.1 dX11_init_49 rfl ?_
  refine r_callN C w C.2.2.2.2.1.2.2.1.2.1 fn_X10_init (c_X10_init_0 l D cy n6) (hl.1.trans hml.symm) [6] [0, 1, 2, 3, 4, 5] (wr := [(a0, .inr (11, [.ref n1, .int 0, .int 0, .int (-1), .ref n2, .ref n4, .ref n5, .null, .null, .null])), (n1, .inl (cy 0, 900, .inl (fun _ => 0))), (n2, .inr (5, [.ref n3, .int 0, .int 0, .int 0, .int 0, .int 0, .int 0, .null])), (n3, .inl (cy 0, 0, .inl (fun _ => 0))), (n4, .inl (cy 4, 5, .inr (.inr (.inr (.inr (fun _ => none)))))), (n5, .inl (cy 4, 3, .inr (.inr (.inr (.inr (fun _ => none))))))]) ⟨rfl, rfl, rfl, rfl, by decide⟩ rfl rfl ⟨Nat.le_of_ble_eq_true rfl, Nat.le_of_ble_eq_true rfl, Nat.le_of_ble_eq_true rfl⟩ 9 1087 ⟨rfl, rfl, Nat.le_of_ble_eq_true rfl, Nat.le_of_ble_eq_true rfl⟩ dX11_init_50 (fun u H locs hp w => ?_)
  obtain ⟨n7, n8, n9⟩ := u
  have w : Wd D A s.heap [(a0, .inr (11, [.ref n1, .int 0, .int 0, .int (-1), .ref n2, .ref n4, .ref n5, .null, .null, .null])), (n1, .inl (cy 0, 900, .inl (fun _ => 0))), (n2, .inr (5, [.ref n3, .int 0, .int 0, .int 0, .int 0, .int 0, .int 0, .null])), (n3, .inl (cy 0, 0, .inl (fun _ => 0))), (n4, .inl (cy 4, 5, .inr (.inr (.inr (.inr (fun _ => none)))))), (n5, .inl (cy 4, 3, .inr (.inr (.inr (.inr (fun _ => none)))))), (n6, .inr (10, [.ref n7, .ref n8, .ref n9])), (n7, .inl (cy 1, 4, .inl (upd (upd (upd (upd (fun _ => 0) 0 (-1)) 1 (-1)) 2 (-1)) 3 (-1)))), (n8, .inl (cy 1, 4, .inl (fun _ => 0))), (n9, .inl (cy 2, 160, .inr (.inl (fun _ => 0))))] _ _ := w
  refine r_top (g2 := F0 m 53 ls [.ref n6, .ref a0]) rfl ?_
  refine r_putF C w 0 rfl rfl 7 (by decide) fl_RX11_36 rfl hnm rfl (ty := (.object "TwoSlips$Trays")) (tyX11_ok 7 (by decide)) rfl rfl (Nat.le_of_ble_eq_true rfl) [(a0, .inr (11, [.ref n1, .int 0, .int 0, .int (-1), .ref n2, .ref n4, .ref n5, .ref n6, .null, .null])), (n1, .inl (cy 0, 900, .inl (fun _ => 0))), (n2, .inr (5, [.ref n3, .int 0, .int 0, .int 0, .int 0, .int 0, .int 0, .null])), (n3, .inl (cy 0, 0, .inl (fun _ => 0))), (n4, .inl (cy 4, 5, .inr (.inr (.inr (.inr (fun _ => none)))))), (n5, .inl (cy 4, 3, .inr (.inr (.inr (.inr (fun _ => none)))))), (n6, .inr (10, [.ref n7, .ref n8, .ref n9])), (n7, .inl (cy 1, 4, .inl (upd (upd (upd (upd (fun _ => 0) 0 (-1)) 1 (-1)) 2 (-1)) 3 (-1)))), (n8, .inl (cy 1, 4, .inl (fun _ => 0))), (n9, .inl (cy 2, 160, .inr (.inl (fun _ => 0))))] rfl dX11_init_53 (fun H locs w => ?_)
  refine lv_aload_n C.1 C.2.1 dX11_init_56 rfl (lv_at hl 0 rfl) ?_
  refine r_new C w (ci := 9) rfl cl_RX11_24 in_9 it_9 tyX9 tyX9_ok [.int 0, .int 0, .int 0, .int 0, .int 0, .int 0, .int 0, .int 0, .null, .int 0, .null, .null, .int 0, .null, .null, .null, .null] (by decide +kernel) 10 1104 rfl rfl ⟨Nat.le_of_ble_eq_true rfl, Nat.le_of_ble_eq_true rfl⟩ dX11_init_57 (fun n10 H w => ?_)
  have w : Wd D A s.heap [(a0, .inr (11, [.ref n1, .int 0, .int 0, .int (-1), .ref n2, .ref n4, .ref n5, .ref n6, .null, .null])), (n1, .inl (cy 0, 900, .inl (fun _ => 0))), (n2, .inr (5, [.ref n3, .int 0, .int 0, .int 0, .int 0, .int 0, .int 0, .null])), (n3, .inl (cy 0, 0, .inl (fun _ => 0))), (n4, .inl (cy 4, 5, .inr (.inr (.inr (.inr (fun _ => none)))))), (n5, .inl (cy 4, 3, .inr (.inr (.inr (.inr (fun _ => none)))))), (n6, .inr (10, [.ref n7, .ref n8, .ref n9])), (n7, .inl (cy 1, 4, .inl (upd (upd (upd (upd (fun _ => 0) 0 (-1)) 1 (-1)) 2 (-1)) 3 (-1)))), (n8, .inl (cy 1, 4, .inl (fun _ => 0))), (n9, .inl (cy 2, 160, .inr (.inl (fun _ => 0)))), (n10, .inr (9, [.int 0, .int 0, .int 0, .int 0, .int 0, .int 0, .int 0, .int 0, .null, .int 0, .null, .null, .int 0, .null, .null, .null, .null]))] _ _ := w
  refine lv_dup C.1 C.2.1 dX11_init_60 rfl ?_
  refine r_callN C w C.2.2.2.2.1.2.2.1.2.2.1 fn_X9_init (c_X9_init_0 l D cy n10) (hl.1.trans hml.symm) [10] [0, 1, 2, 3, 4, 5, 6, 7, 8, 9] (wr := [(a0, .inr (11, [.ref n1, .int 0, .int 0, .int (-1), .ref n2, .ref n4, .ref n5, .ref n6, .null, .null])), (n1, .inl (cy 0, 900, .inl (fun _ => 0))), (n2, .inr (5, [.ref n3, .int 0, .int 0, .int 0, .int 0, .int 0, .int 0, .null])), (n3, .inl (cy 0, 0, .inl (fun _ => 0))), (n4, .inl (cy 4, 5, .inr (.inr (.inr (.inr (fun _ => none)))))), (n5, .inl (cy 4, 3, .inr (.inr (.inr (.inr (fun _ => none)))))), (n6, .inr (10, [.ref n7, .ref n8, .ref n9])), (n7, .inl (cy 1, 4, .inl (upd (upd (upd (upd (fun _ => 0) 0 (-1)) 1 (-1)) 2 (-1)) 3 (-1)))), (n8, .inl (cy 1, 4, .inl (fun _ => 0))), (n9, .inl (cy 2, 160, .inr (.inl (fun _ => 0))))]) ⟨rfl, rfl, rfl, rfl, by decide⟩ rfl rfl ⟨Nat.le_of_ble_eq_true rfl, Nat.le_of_ble_eq_true rfl, Nat.le_of_ble_eq_true rfl⟩ 17 2350 ⟨rfl, rfl, Nat.le_of_ble_eq_true rfl, Nat.le_of_ble_eq_true rfl⟩ dX11_init_61 (fun u H locs hp w => ?_)
  obtain ⟨n11, n12, n13, n14, n15, n16, n17⟩ := u
  have w : Wd D A s.heap [(a0, .inr (11, [.ref n1, .int 0, .int 0, .int (-1), .ref n2, .ref n4, .ref n5, .ref n6, .null, .null])), (n1, .inl (cy 0, 900, .inl (fun _ => 0))), (n2, .inr (5, [.ref n3, .int 0, .int 0, .int 0, .int 0, .int 0, .int 0, .null])), (n3, .inl (cy 0, 0, .inl (fun _ => 0))), (n4, .inl (cy 4, 5, .inr (.inr (.inr (.inr (fun _ => none)))))), (n5, .inl (cy 4, 3, .inr (.inr (.inr (.inr (fun _ => none)))))), (n6, .inr (10, [.ref n7, .ref n8, .ref n9])), (n7, .inl (cy 1, 4, .inl (upd (upd (upd (upd (fun _ => 0) 0 (-1)) 1 (-1)) 2 (-1)) 3 (-1)))), (n8, .inl (cy 1, 4, .inl (fun _ => 0))), (n9, .inl (cy 2, 160, .inr (.inl (fun _ => 0)))), (n10, .inr (9, [.int 0, .int 2, .int 20, .int 120, .int 0, .int 0, .int 0, .int 0, .ref n11, .int 0, .ref n12, .ref n13, .int 0, .ref n14, .ref n15, .ref n16, .ref n17])), (n11, .inl (cy 1, 6, .inl (fun _ => 0))), (n12, .inl (cy 1, 20, .inl (fun _ => 0))), (n13, .inl (cy 1, 20, .inl (fun _ => 0))), (n14, .inl (cy 1, 300, .inl (fun _ => 0))), (n15, .inl (cy 1, 300, .inl (fun _ => 0))), (n16, .inl (cy 1, 300, .inl (fun _ => 0))), (n17, .inl (cy 1, 300, .inl (fun _ => 0)))] _ _ := w
  refine r_top (g2 := F0 m 64 ls [.ref n10, .ref a0]) rfl ?_
  refine r_put C w 0 rfl rfl 8 (by decide) fl_RX11_41 rfl (ty := (.object "TwoSlips$Talk")) (tyX11_ok 8 (by decide)) rfl rfl (Nat.le_of_ble_eq_true rfl) [(a0, .inr (11, [.ref n1, .int 0, .int 0, .int (-1), .ref n2, .ref n4, .ref n5, .ref n6, .ref n10, .null])), (n1, .inl (cy 0, 900, .inl (fun _ => 0))), (n2, .inr (5, [.ref n3, .int 0, .int 0, .int 0, .int 0, .int 0, .int 0, .null])), (n3, .inl (cy 0, 0, .inl (fun _ => 0))), (n4, .inl (cy 4, 5, .inr (.inr (.inr (.inr (fun _ => none)))))), (n5, .inl (cy 4, 3, .inr (.inr (.inr (.inr (fun _ => none)))))), (n6, .inr (10, [.ref n7, .ref n8, .ref n9])), (n7, .inl (cy 1, 4, .inl (upd (upd (upd (upd (fun _ => 0) 0 (-1)) 1 (-1)) 2 (-1)) 3 (-1)))), (n8, .inl (cy 1, 4, .inl (fun _ => 0))), (n9, .inl (cy 2, 160, .inr (.inl (fun _ => 0)))), (n10, .inr (9, [.int 0, .int 2, .int 20, .int 120, .int 0, .int 0, .int 0, .int 0, .ref n11, .int 0, .ref n12, .ref n13, .int 0, .ref n14, .ref n15, .ref n16, .ref n17])), (n11, .inl (cy 1, 6, .inl (fun _ => 0))), (n12, .inl (cy 1, 20, .inl (fun _ => 0))), (n13, .inl (cy 1, 20, .inl (fun _ => 0))), (n14, .inl (cy 1, 300, .inl (fun _ => 0))), (n15, .inl (cy 1, 300, .inl (fun _ => 0))), (n16, .inl (cy 1, 300, .inl (fun _ => 0))), (n17, .inl (cy 1, 300, .inl (fun _ => 0)))] rfl dX11_init_64 (fun H locs w => ?_)
  refine lv_aload_n C.1 C.2.1 dX11_init_67 rfl (lv_at hl 0 rfl) ?_
  refine r_get C w 0 rfl rfl 5 (by decide) fl_RX11_26 (v := .ref n4) rfl dX11_init_68 ?_
  refine lv_iconst (v := 0) C.1 C.2.1 dX11_init_71 (by decide) ?_
  refine lv_aload_n C.1 C.2.1 dX11_init_72 rfl (lv_at hl 0 rfl) ?_
  refine r_get C w 0 rfl rfl 8 (by decide) fl_RX11_41 (v := .ref n10) rfl dX11_init_73 ?_
  refine r_aastT C w 4 10 rfl rfl (vinD (by decide)) (va_up (fun _ => none) 0 (some n10)) rfl [(a0, .inr (11, [.ref n1, .int 0, .int 0, .int (-1), .ref n2, .ref n4, .ref n5, .ref n6, .ref n10, .null])), (n1, .inl (cy 0, 900, .inl (fun _ => 0))), (n2, .inr (5, [.ref n3, .int 0, .int 0, .int 0, .int 0, .int 0, .int 0, .null])), (n3, .inl (cy 0, 0, .inl (fun _ => 0))), (n4, .inl (cy 4, 5, .inr (.inr (.inr (.inr (va_up (fun _ => none) 0 (some n10))))))), (n5, .inl (cy 4, 3, .inr (.inr (.inr (.inr (fun _ => none)))))), (n6, .inr (10, [.ref n7, .ref n8, .ref n9])), (n7, .inl (cy 1, 4, .inl (upd (upd (upd (upd (fun _ => 0) 0 (-1)) 1 (-1)) 2 (-1)) 3 (-1)))), (n8, .inl (cy 1, 4, .inl (fun _ => 0))), (n9, .inl (cy 2, 160, .inr (.inl (fun _ => 0)))), (n10, .inr (9, [.int 0, .int 2, .int 20, .int 120, .int 0, .int 0, .int 0, .int 0, .ref n11, .int 0, .ref n12, .ref n13, .int 0, .ref n14, .ref n15, .ref n16, .ref n17])), (n11, .inl (cy 1, 6, .inl (fun _ => 0))), (n12, .inl (cy 1, 20, .inl (fun _ => 0))), (n13, .inl (cy 1, 20, .inl (fun _ => 0))), (n14, .inl (cy 1, 300, .inl (fun _ => 0))), (n15, .inl (cy 1, 300, .inl (fun _ => 0))), (n16, .inl (cy 1, 300, .inl (fun _ => 0))), (n17, .inl (cy 1, 300, .inl (fun _ => 0)))] rfl dX11_init_76 (fun H locs w => ?_)
  exact r_vret C w hlocks (n1, n2, n3, n4, n5, n6, n7, n8, n9, n10, n11, n12, n13, n14, n15, n16, n17) hr rfl trivial [0, 1, 2, 3, 4, 5, 6, 7, 8, 9, 10, 11, 12, 13, 14, 15, 16, 17] rfl rfl ⟨Nat.le_of_ble_eq_true rfl, Nat.le_of_ble_eq_true rfl⟩ dX11_init_77
