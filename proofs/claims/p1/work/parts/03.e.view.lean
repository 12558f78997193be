theorem dX11_view_0 : decode cX11_view 0 = .ok (.aload_n 0, 1) := by decide +kernel
theorem dX11_view_1 : decode cX11_view 1 = .ok (.getfield 85, 3) := by decide +kernel
theorem dX11_view_4 : decode cX11_view 4 = .ok (.ifnonnull 30, 3) := by decide +kernel
theorem dX11_view_7 : decode cX11_view 7 = .ok (.aload_n 0, 1) := by decide +kernel
theorem dX11_view_8 : decode cX11_view 8 = .ok (.new 90, 3) := by decide +kernel
theorem cl_RX11_90 : Cond.classLink RX11 90 RX6 ∈ gw := gw_mem (by decide +kernel) (by decide +kernel)
theorem in_6 : Cond.instantiable RX6 13 ∈ gw := gw_mem (by decide +kernel) (by decide +kernel)
theorem it_6 : Cond.initialized RX6 ∈ gw := gw_mem (by decide +kernel) (by decide +kernel)
theorem dX11_view_11 : decode cX11_view 11 = .ok (.dup, 1) := by decide +kernel
theorem dX11_view_12 : decode cX11_view 12 = .ok (.new 109, 3) := by decide +kernel
theorem cl_RX11_109 : Cond.classLink RX11 109 RX4 ∈ gw := gw_mem (by decide +kernel) (by decide +kernel)
theorem in_4 : Cond.instantiable RX4 4 ∈ gw := gw_mem (by decide +kernel) (by decide +kernel)
theorem it_4 : Cond.initialized RX4 ∈ gw := gw_mem (by decide +kernel) (by decide +kernel)
theorem dX11_view_15 : decode cX11_view 15 = .ok (.dup, 1) := by decide +kernel
theorem dX11_view_16 : decode cX11_view 16 = .ok (.invokespecial 368, 3) := by decide +kernel
theorem dX4_init_0 : decode cX4_init 0 = .ok (.aload_n 0, 1) := by decide +kernel
theorem dX4_init_1 : decode cX4_init 1 = .ok (.invokespecial 3, 3) := by decide +kernel
theorem ml_RX4_3 : Cond.methodLink RX4 3 objectInit ∈ gw := gw_mem (by decide +kernel) (by decide +kernel)
theorem dX4_init_4 : decode cX4_init 4 = .ok (.aload_n 0, 1) := by decide +kernel
theorem dX4_init_5 : decode cX4_init 5 = .ok (.bipush 9, 2) := by decide +kernel
theorem dX4_init_7 : decode cX4_init 7 = .ok (.iconst 0, 1) := by decide +kernel
theorem dX4_init_8 : decode cX4_init 8 = .ok (.multianewarray 11 2, 4) := by decide +kernel
theorem cl_RX4_11 : Cond.classLink RX4 11 "[[I" ∈ gw := gw_mem (by decide +kernel) (by decide +kernel)
theorem dX4_init_12 : decode cX4_init 12 = .ok (.putfield 13, 3) := by decide +kernel
theorem fl_RX4_13 : Cond.fieldLink RX4 13 "TwoSlips$Pairs" "slips" "[[I" ∈ gw := gw_mem (by decide +kernel) (by decide +kernel)
theorem dX4_init_15 : decode cX4_init 15 = .ok (.aload_n 0, 1) := by decide +kernel
theorem dX4_init_16 : decode cX4_init 16 = .ok (.sipush 7201, 3) := by decide +kernel
theorem dX4_init_19 : decode cX4_init 19 = .ok (.newarray .int, 2) := by decide +kernel
theorem dX4_init_21 : decode cX4_init 21 = .ok (.putfield 16, 3) := by decide +kernel
theorem fl_RX4_16 : Cond.fieldLink RX4 16 "TwoSlips$Pairs" "met" "[I" ∈ gw := gw_mem (by decide +kernel) (by decide +kernel)
theorem dX4_init_24 : decode cX4_init 24 = .ok (.aload_n 0, 1) := by decide +kernel
theorem dX4_init_25 : decode cX4_init 25 = .ok (.sipush 1830, 3) := by decide +kernel
theorem dX4_init_28 : decode cX4_init 28 = .ok (.newarray .int, 2) := by decide +kernel
theorem dX4_init_30 : decode cX4_init 30 = .ok (.putfield 20, 3) := by decide +kernel
theorem fl_RX4_20 : Cond.fieldLink RX4 20 "TwoSlips$Pairs" "truths" "[I" ∈ gw := gw_mem (by decide +kernel) (by decide +kernel)
theorem dX4_init_33 : decode cX4_init 33 = .ok (.return_, 1) := by decide +kernel
set_option maxRecDepth 100000 in
set_option maxHeartbeats 4000000 in
theorem c_X4_init_0 (l : Launch) (D : va_G) (cy : Nat → ClassId) (a0 : Nat) : Ct l D cy yX4_init cX4_init 1 none 1 12 12 9040 [(a0, .inr (4, [.null, .null, .int 0, .null]))] [.ref a0] (fun u : Nat × Nat × Nat × Nat × Nat × Nat × Nat × Nat × Nat × Nat × Nat × Nat => none) (fun _ => True) (fun u : Nat × Nat × Nat × Nat × Nat × Nat × Nat × Nat × Nat × Nat × Nat × Nat => [(a0, .inr (4, [.ref u.1, .ref u.2.2.2.2.2.2.2.2.2.2.1, .int 0, .ref u.2.2.2.2.2.2.2.2.2.2.2])), (u.1, .inl (cy 5, 9, .inr (.inr (.inr (.inr (va_up (va_up (va_up (va_up (va_up (va_up (va_up (va_up (va_up (fun _ => none) 0 (some u.2.1)) 1 (some u.2.2.1)) 2 (some u.2.2.2.1)) 3 (some u.2.2.2.2.1)) 4 (some u.2.2.2.2.2.1)) 5 (some u.2.2.2.2.2.2.1)) 6 (some u.2.2.2.2.2.2.2.1)) 7 (some u.2.2.2.2.2.2.2.2.1)) 8 (some u.2.2.2.2.2.2.2.2.2.1))))))), (u.2.1, .inl (cy 1, 0, .inl (fun _ => 0))), (u.2.2.1, .inl (cy 1, 0, .inl (fun _ => 0))), (u.2.2.2.1, .inl (cy 1, 0, .inl (fun _ => 0))), (u.2.2.2.2.1, .inl (cy 1, 0, .inl (fun _ => 0))), (u.2.2.2.2.2.1, .inl (cy 1, 0, .inl (fun _ => 0))), (u.2.2.2.2.2.2.1, .inl (cy 1, 0, .inl (fun _ => 0))), (u.2.2.2.2.2.2.2.1, .inl (cy 1, 0, .inl (fun _ => 0))), (u.2.2.2.2.2.2.2.2.1, .inl (cy 1, 0, .inl (fun _ => 0))), (u.2.2.2.2.2.2.2.2.2.1, .inl (cy 1, 0, .inl (fun _ => 0))), (u.2.2.2.2.2.2.2.2.2.2.1, .inl (cy 1, 7201, .inl (fun _ => 0))), (u.2.2.2.2.2.2.2.2.2.2.2, .inl (cy 1, 1830, .inl (fun _ => 0)))]) := by
  refine Ct.of (by decide +kernel) (Nat.le_of_ble_eq_true rfl) ?_
  intro p e s m args below meth c A ls C hr hlocks hml hnm w hl
  have hl : lv_has ls 1 [(0, .ref a0)] := hl
  refine lv_aload_n C.1 C.2.1 dX4_init_0 rfl (lv_at hl 0 rfl) ?_
  refine r_objInit C (hl.1.trans hml.symm) ml_RX4_3 im_obj cd_obj ⟨Nat.le_of_ble_eq_true rfl, Nat.le_of_ble_eq_true rfl⟩ dX4_init_1 ?_
  refine lv_aload_n C.1 C.2.1 dX4_init_4 rfl (lv_at hl 0 rfl) ?_
  refine lv_bipush (v := 9) C.1 C.2.1 dX4_init_5 (by decide) ?_
  refine lv_iconst (v := 0) C.1 C.2.1 dX4_init_7 (by decide) ?_
  refine r_mna C w cl_RX4_11 ac_int 10 9 rfl rfl ⟨Nat.le_of_ble_eq_true rfl, Nat.le_of_ble_eq_true rfl⟩ dX4_init_8 (fun n1 n2 n3 n4 n5 n6 n7 n8 n9 n10 H w => ?_)
  have w : Wd D A s.heap [(a0, .inr (4, [.null, .null, .int 0, .null])), (n1, .inl (cy 5, 9, .inr (.inr (.inr (.inr (va_up (va_up (va_up (va_up (va_up (va_up (va_up (va_up (va_up (fun _ => none) 0 (some n2)) 1 (some n3)) 2 (some n4)) 3 (some n5)) 4 (some n6)) 5 (some n7)) 6 (some n8)) 7 (some n9)) 8 (some n10))))))), (n2, .inl (cy 1, 0, .inl (fun _ => 0))), (n3, .inl (cy 1, 0, .inl (fun _ => 0))), (n4, .inl (cy 1, 0, .inl (fun _ => 0))), (n5, .inl (cy 1, 0, .inl (fun _ => 0))), (n6, .inl (cy 1, 0, .inl (fun _ => 0))), (n7, .inl (cy 1, 0, .inl (fun _ => 0))), (n8, .inl (cy 1, 0, .inl (fun _ => 0))), (n9, .inl (cy 1, 0, .inl (fun _ => 0))), (n10, .inl (cy 1, 0, .inl (fun _ => 0)))] _ _ := w
  refine r_putF C w 0 rfl rfl 0 (by decide) fl_RX4_13 rfl hnm rfl (ty := (.array (.array .int))) (tyX4_ok 0 (by decide)) rfl rfl (Nat.le_of_ble_eq_true rfl) [(a0, .inr (4, [.ref n1, .null, .int 0, .null])), (n1, .inl (cy 5, 9, .inr (.inr (.inr (.inr (va_up (va_up (va_up (va_up (va_up (va_up (va_up (va_up (va_up (fun _ => none) 0 (some n2)) 1 (some n3)) 2 (some n4)) 3 (some n5)) 4 (some n6)) 5 (some n7)) 6 (some n8)) 7 (some n9)) 8 (some n10))))))), (n2, .inl (cy 1, 0, .inl (fun _ => 0))), (n3, .inl (cy 1, 0, .inl (fun _ => 0))), (n4, .inl (cy 1, 0, .inl (fun _ => 0))), (n5, .inl (cy 1, 0, .inl (fun _ => 0))), (n6, .inl (cy 1, 0, .inl (fun _ => 0))), (n7, .inl (cy 1, 0, .inl (fun _ => 0))), (n8, .inl (cy 1, 0, .inl (fun _ => 0))), (n9, .inl (cy 1, 0, .inl (fun _ => 0))), (n10, .inl (cy 1, 0, .inl (fun _ => 0)))] rfl dX4_init_12 (fun H locs w => ?_)
  refine lv_aload_n C.1 C.2.1 dX4_init_15 rfl (lv_at hl 0 rfl) ?_
  refine lv_sipush (v := 7201) C.1 C.2.1 dX4_init_16 (by decide) ?_
  refine r_newa_int C w 7201 ac_int (by decide) (by decide) (by decide) 11 7210 rfl rfl ⟨Nat.le_of_ble_eq_true rfl, Nat.le_of_ble_eq_true rfl⟩ dX4_init_19 (fun n11 H w => ?_)
  have w : Wd D A s.heap [(a0, .inr (4, [.ref n1, .null, .int 0, .null])), (n1, .inl (cy 5, 9, .inr (.inr (.inr (.inr (va_up (va_up (va_up (va_up (va_up (va_up (va_up (va_up (va_up (fun _ => none) 0 (some n2)) 1 (some n3)) 2 (some n4)) 3 (some n5)) 4 (some n6)) 5 (some n7)) 6 (some n8)) 7 (some n9)) 8 (some n10))))))), (n2, .inl (cy 1, 0, .inl (fun _ => 0))), (n3, .inl (cy 1, 0, .inl (fun _ => 0))), (n4, .inl (cy 1, 0, .inl (fun _ => 0))), (n5, .inl (cy 1, 0, .inl (fun _ => 0))), (n6, .inl (cy 1, 0, .inl (fun _ => 0))), (n7, .inl (cy 1, 0, .inl (fun _ => 0))), (n8, .inl (cy 1, 0, .inl (fun _ => 0))), (n9, .inl (cy 1, 0, .inl (fun _ => 0))), (n10, .inl (cy 1, 0, .inl (fun _ => 0))), (n11, .inl (cy 1, 7201, .inl (fun _ => 0)))] _ _ := w
  refine r_putF C w 0 rfl rfl 1 (by decide) fl_RX4_16 rfl hnm rfl (ty := (.array .int)) (tyX4_ok 1 (by decide)) rfl rfl (Nat.le_of_ble_eq_true rfl) [(a0, .inr (4, [.ref n1, .ref n11, .int 0, .null])), (n1, .inl (cy 5, 9, .inr (.inr (.inr (.inr (va_up (va_up (va_up (va_up (va_up (va_up (va_up (va_up (va_up (fun _ => none) 0 (some n2)) 1 (some n3)) 2 (some n4)) 3 (some n5)) 4 (some n6)) 5 (some n7)) 6 (some n8)) 7 (some n9)) 8 (some n10))))))), (n2, .inl (cy 1, 0, .inl (fun _ => 0))), (n3, .inl (cy 1, 0, .inl (fun _ => 0))), (n4, .inl (cy 1, 0, .inl (fun _ => 0))), (n5, .inl (cy 1, 0, .inl (fun _ => 0))), (n6, .inl (cy 1, 0, .inl (fun _ => 0))), (n7, .inl (cy 1, 0, .inl (fun _ => 0))), (n8, .inl (cy 1, 0, .inl (fun _ => 0))), (n9, .inl (cy 1, 0, .inl (fun _ => 0))), (n10, .inl (cy 1, 0, .inl (fun _ => 0))), (n11, .inl (cy 1, 7201, .inl (fun _ => 0)))] rfl dX4_init_21 (fun H locs w => ?_)
  refine lv_aload_n C.1 C.2.1 dX4_init_24 rfl (lv_at hl 0 rfl) ?_
  refine lv_sipush (v := 1830) C.1 C.2.1 dX4_init_25 (by decide) ?_
  refine r_newa_int C w 1830 ac_int (by decide) (by decide) (by decide) 12 9040 rfl rfl ⟨Nat.le_of_ble_eq_true rfl, Nat.le_of_ble_eq_true rfl⟩ dX4_init_28 (fun n12 H w => ?_)
  have w : Wd D A s.heap [(a0, .inr (4, [.ref n1, .ref n11, .int 0, .null])), (n1, .inl (cy 5, 9, .inr (.inr (.inr (.inr (va_up (va_up (va_up (va_up (va_up (va_up (va_up (va_up (va_up (fun _ => none) 0 (some n2)) 1 (some n3)) 2 (some n4)) 3 (some n5)) 4 (some n6)) 5 (some n7)) 6 (some n8)) 7 (some n9)) 8 (some n10))))))), (n2, .inl (cy 1, 0, .inl (fun _ => 0))), (n3, .inl (cy 1, 0, .inl (fun _ => 0))), (n4, .inl (cy 1, 0, .inl (fun _ => 0))), (n5, .inl (cy 1, 0, .inl (fun _ => 0))), (n6, .inl (cy 1, 0, .inl (fun _ => 0))), (n7, .inl (cy 1, 0, .inl (fun _ => 0))), (n8, .inl (cy 1, 0, .inl (fun _ => 0))), (n9, .inl (cy 1, 0, .inl (fun _ => 0))), (n10, .inl (cy 1, 0, .inl (fun _ => 0))), (n11, .inl (cy 1, 7201, .inl (fun _ => 0))), (n12, .inl (cy 1, 1830, .inl (fun _ => 0)))] _ _ := w
  refine r_putF C w 0 rfl rfl 3 (by decide) fl_RX4_20 rfl hnm rfl (ty := (.array .int)) (tyX4_ok 3 (by decide)) rfl rfl (Nat.le_of_ble_eq_true rfl) [(a0, .inr (4, [.ref n1, .ref n11, .int 0, .ref n12])), (n1, .inl (cy 5, 9, .inr (.inr (.inr (.inr (va_up (va_up (va_up (va_up (va_up (va_up (va_up (va_up (va_up (fun _ => none) 0 (some n2)) 1 (some n3)) 2 (some n4)) 3 (some n5)) 4 (some n6)) 5 (some n7)) 6 (some n8)) 7 (some n9)) 8 (some n10))))))), (n2, .inl (cy 1, 0, .inl (fun _ => 0))), (n3, .inl (cy 1, 0, .inl (fun _ => 0))), (n4, .inl (cy 1, 0, .inl (fun _ => 0))), (n5, .inl (cy 1, 0, .inl (fun _ => 0))), (n6, .inl (cy 1, 0, .inl (fun _ => 0))), (n7, .inl (cy 1, 0, .inl (fun _ => 0))), (n8, .inl (cy 1, 0, .inl (fun _ => 0))), (n9, .inl (cy 1, 0, .inl (fun _ => 0))), (n10, .inl (cy 1, 0, .inl (fun _ => 0))), (n11, .inl (cy 1, 7201, .inl (fun _ => 0))), (n12, .inl (cy 1, 1830, .inl (fun _ => 0)))] rfl dX4_init_30 (fun H locs w => ?_)
  exact r_vret C w hlocks (n1, n2, n3, n4, n5, n6, n7, n8, n9, n10, n11, n12) hr rfl trivial [0, 1, 2, 3, 4, 5, 6, 7, 8, 9, 10, 11, 12] rfl rfl ⟨Nat.le_of_ble_eq_true rfl, Nat.le_of_ble_eq_true rfl⟩ dX4_init_33
theorem fn_X4_init : FN yX4_init cX4_init 1 0 := ⟨⟨gw_mem (by decide +kernel) (by decide +kernel), gw_mem (by decide +kernel) (by decide +kernel), gw_mem (by decide +kernel) (by decide +kernel)⟩, ⟨by decide +kernel, by decide +kernel, by decide +kernel⟩, rfl⟩
theorem dX11_view_19 : decode cX11_view 19 = .ok (.sipush 1830, 3) := by decide +kernel
theorem dX11_view_22 : decode cX11_view 22 = .ok (.newarray .int, 2) := by decide +kernel
theorem dX11_view_24 : decode cX11_view 24 = .ok (.aload_n 0, 1) := by decide +kernel
theorem dX11_view_25 : decode cX11_view 25 = .ok (.getfield 41, 3) := by decide +kernel
theorem dX11_view_28 : decode cX11_view 28 = .ok (.invokespecial 369, 3) := by decide +kernel
theorem dX6_init_0 : decode cX6_init 0 = .ok (.aload_n 0, 1) := by decide +kernel
theorem dX6_init_1 : decode cX6_init 1 = .ok (.invokespecial 3, 3) := by decide +kernel
theorem ml_RX6_3 : Cond.methodLink RX6 3 objectInit ∈ gw := gw_mem (by decide +kernel) (by decide +kernel)
theorem dX6_init_4 : decode cX6_init 4 = .ok (.aload_n 0, 1) := by decide +kernel
theorem dX6_init_5 : decode cX6_init 5 = .ok (.sipush 1830, 3) := by decide +kernel
theorem dX6_init_8 : decode cX6_init 8 = .ok (.newarray .int, 2) := by decide +kernel
theorem dX6_init_10 : decode cX6_init 10 = .ok (.putfield 11, 3) := by decide +kernel
theorem fl_RX6_11 : Cond.fieldLink RX6 11 "TwoSlips$Scene" "list" "[I" ∈ gw := gw_mem (by decide +kernel) (by decide +kernel)
theorem dX6_init_13 : decode cX6_init 13 = .ok (.aload_n 0, 1) := by decide +kernel
theorem dX6_init_14 : decode cX6_init 14 = .ok (.sipush 1830, 3) := by decide +kernel
theorem dX6_init_17 : decode cX6_init 17 = .ok (.newarray .int, 2) := by decide +kernel
theorem dX6_init_19 : decode cX6_init 19 = .ok (.putfield 17, 3) := by decide +kernel
theorem fl_RX6_17 : Cond.fieldLink RX6 17 "TwoSlips$Scene" "struckBy" "[I" ∈ gw := gw_mem (by decide +kernel) (by decide +kernel)
theorem dX6_init_22 : decode cX6_init 22 = .ok (.aload_n 0, 1) := by decide +kernel
theorem dX6_init_23 : decode cX6_init 23 = .ok (.aload_n 1, 1) := by decide +kernel
theorem dX6_init_24 : decode cX6_init 24 = .ok (.putfield 20, 3) := by decide +kernel
theorem fl_RX6_20 : Cond.fieldLink RX6 20 "TwoSlips$Scene" "pairs" "LTwoSlips$Pairs;" ∈ gw := gw_mem (by decide +kernel) (by decide +kernel)
theorem dX6_init_27 : decode cX6_init 27 = .ok (.aload_n 0, 1) := by decide +kernel
theorem dX6_init_28 : decode cX6_init 28 = .ok (.aload_n 3, 1) := by decide +kernel
theorem dX6_init_29 : decode cX6_init 29 = .ok (.putfield 24, 3) := by decide +kernel
theorem fl_RX6_24 : Cond.fieldLink RX6 24 "TwoSlips$Scene" "talk" "LTwoSlips$Talk;" ∈ gw := gw_mem (by decide +kernel) (by decide +kernel)
theorem dX6_init_32 : decode cX6_init 32 = .ok (.aload_n 0, 1) := by decide +kernel
theorem dX6_init_33 : decode cX6_init 33 = .ok (.new 28, 3) := by decide +kernel
theorem cl_RX6_28 : Cond.classLink RX6 28 RX2 ∈ gw := gw_mem (by decide +kernel) (by decide +kernel)
theorem in_2 : Cond.instantiable RX2 5 ∈ gw := gw_mem (by decide +kernel) (by decide +kernel)
theorem it_2 : Cond.initialized RX2 ∈ gw := gw_mem (by decide +kernel) (by decide +kernel)
theorem dX6_init_36 : decode cX6_init 36 = .ok (.dup, 1) := by decide +kernel
theorem dX6_init_37 : decode cX6_init 37 = .ok (.aload_n 1, 1) := by decide +kernel
theorem dX6_init_38 : decode cX6_init 38 = .ok (.sipush 1830, 3) := by decide +kernel
theorem dX6_init_41 : decode cX6_init 41 = .ok (.newarray .int, 2) := by decide +kernel
theorem dX6_init_43 : decode cX6_init 43 = .ok (.aload_n 3, 1) := by decide +kernel
theorem dX6_init_44 : decode cX6_init 44 = .ok (.invokespecial 30, 3) := by decide +kernel
theorem dX2_init_0 : decode cX2_init 0 = .ok (.aload_n 0, 1) := by decide +kernel
theorem dX2_init_1 : decode cX2_init 1 = .ok (.invokespecial 3, 3) := by decide +kernel
theorem ml_RX2_3 : Cond.methodLink RX2 3 objectInit ∈ gw := gw_mem (by decide +kernel) (by decide +kernel)
theorem dX2_init_4 : decode cX2_init 4 = .ok (.aload_n 0, 1) := by decide +kernel
theorem dX2_init_5 : decode cX2_init 5 = .ok (.bipush 21, 2) := by decide +kernel
theorem dX2_init_7 : decode cX2_init 7 = .ok (.newarray .int, 2) := by decide +kernel
theorem dX2_init_9 : decode cX2_init 9 = .ok (.putfield 11, 3) := by decide +kernel
theorem fl_RX2_11 : Cond.fieldLink RX2 11 "TwoSlips$Hearing" "left" "[I" ∈ gw := gw_mem (by decide +kernel) (by decide +kernel)
theorem dX2_init_12 : decode cX2_init 12 = .ok (.aload_n 0, 1) := by decide +kernel
theorem dX2_init_13 : decode cX2_init 13 = .ok (.aload_n 1, 1) := by decide +kernel
theorem dX2_init_14 : decode cX2_init 14 = .ok (.putfield 17, 3) := by decide +kernel
theorem fl_RX2_17 : Cond.fieldLink RX2 17 "TwoSlips$Hearing" "pairs" "LTwoSlips$Pairs;" ∈ gw := gw_mem (by decide +kernel) (by decide +kernel)
theorem dX2_init_17 : decode cX2_init 17 = .ok (.aload_n 0, 1) := by decide +kernel
theorem dX2_init_18 : decode cX2_init 18 = .ok (.aload_n 2, 1) := by decide +kernel
theorem dX2_init_19 : decode cX2_init 19 = .ok (.putfield 21, 3) := by decide +kernel
theorem fl_RX2_21 : Cond.fieldLink RX2 21 "TwoSlips$Hearing" "row" "[I" ∈ gw := gw_mem (by decide +kernel) (by decide +kernel)
theorem dX2_init_22 : decode cX2_init 22 = .ok (.aload_n 0, 1) := by decide +kernel
theorem dX2_init_23 : decode cX2_init 23 = .ok (.aload_n 3, 1) := by decide +kernel
theorem dX2_init_24 : decode cX2_init 24 = .ok (.putfield 24, 3) := by decide +kernel
theorem fl_RX2_24 : Cond.fieldLink RX2 24 "TwoSlips$Hearing" "talk" "LTwoSlips$Talk;" ∈ gw := gw_mem (by decide +kernel) (by decide +kernel)
theorem dX2_init_27 : decode cX2_init 27 = .ok (.return_, 1) := by decide +kernel
set_option maxRecDepth 100000 in
set_option maxHeartbeats 4000000 in
theorem c_X2_init_0 (l : Launch) (D : va_G) (cy : Nat → ClassId) (a0 a1 a2 a3 : Nat) : Ct l D cy yX2_init cX2_init 4 none 1 12 1 21 [(a0, .inr (2, [.null, .null, .null, .null, .int 0]))] [.ref a0, .ref a1, .ref a2, .ref a3] (fun u : Nat => none) (fun _ => True) (fun u : Nat => [(a0, .inr (2, [.ref a1, .ref a2, .ref u, .ref a3, .int 0])), (u, .inl (cy 1, 21, .inl (fun _ => 0)))]) := by
  refine Ct.of (by decide +kernel) (Nat.le_of_ble_eq_true rfl) ?_
  intro p e s m args below meth c A ls C hr hlocks hml hnm w hl
  have hl : lv_has ls 4 [(0, .ref a0), (1, .ref a1), (2, .ref a2), (3, .ref a3)] := hl
  refine lv_aload_n C.1 C.2.1 dX2_init_0 rfl (lv_at hl 0 rfl) ?_
  refine r_objInit C (hl.1.trans hml.symm) ml_RX2_3 im_obj cd_obj ⟨Nat.le_of_ble_eq_true rfl, Nat.le_of_ble_eq_true rfl⟩ dX2_init_1 ?_
  refine lv_aload_n C.1 C.2.1 dX2_init_4 rfl (lv_at hl 0 rfl) ?_
  refine lv_bipush (v := 21) C.1 C.2.1 dX2_init_5 (by decide) ?_
  refine r_newa_int C w 21 ac_int (by decide) (by decide) (by decide) 1 21 rfl rfl ⟨Nat.le_of_ble_eq_true rfl, Nat.le_of_ble_eq_true rfl⟩ dX2_init_7 (fun n1 H w => ?_)
  have w : Wd D A s.heap [(a0, .inr (2, [.null, .null, .null, .null, .int 0])), (n1, .inl (cy 1, 21, .inl (fun _ => 0)))] _ _ := w
  refine r_putF C w 0 rfl rfl 2 (by decide) fl_RX2_11 rfl hnm rfl (ty := (.array .int)) (tyX2_ok 2 (by decide)) rfl rfl (Nat.le_of_ble_eq_true rfl) [(a0, .inr (2, [.null, .null, .ref n1, .null, .int 0])), (n1, .inl (cy 1, 21, .inl (fun _ => 0)))] rfl dX2_init_9 (fun H locs w => ?_)
  refine lv_aload_n C.1 C.2.1 dX2_init_12 rfl (lv_at hl 0 rfl) ?_
  refine lv_aload_n C.1 C.2.1 dX2_init_13 rfl (lv_at hl 1 rfl) ?_
  refine r_putF C w 0 rfl rfl 0 (by decide) fl_RX2_17 rfl hnm rfl (ty := (.object "TwoSlips$Pairs")) (tyX2_ok 0 (by decide)) rfl rfl (Nat.le_of_ble_eq_true rfl) [(a0, .inr (2, [.ref a1, .null, .ref n1, .null, .int 0])), (n1, .inl (cy 1, 21, .inl (fun _ => 0)))] rfl dX2_init_14 (fun H locs w => ?_)
  refine lv_aload_n C.1 C.2.1 dX2_init_17 rfl (lv_at hl 0 rfl) ?_
  refine lv_aload_n C.1 C.2.1 dX2_init_18 rfl (lv_at hl 2 rfl) ?_
  refine r_putF C w 0 rfl rfl 1 (by decide) fl_RX2_21 rfl hnm rfl (ty := (.array .int)) (tyX2_ok 1 (by decide)) rfl rfl (Nat.le_of_ble_eq_true rfl) [(a0, .inr (2, [.ref a1, .ref a2, .ref n1, .null, .int 0])), (n1, .inl (cy 1, 21, .inl (fun _ => 0)))] rfl dX2_init_19 (fun H locs w => ?_)
  refine lv_aload_n C.1 C.2.1 dX2_init_22 rfl (lv_at hl 0 rfl) ?_
  refine lv_aload_n C.1 C.2.1 dX2_init_23 rfl (lv_at hl 3 rfl) ?_
  refine r_put C w 0 rfl rfl 3 (by decide) fl_RX2_24 rfl (ty := (.object "TwoSlips$Talk")) (tyX2_ok 3 (by decide)) rfl rfl (Nat.le_of_ble_eq_true rfl) [(a0, .inr (2, [.ref a1, .ref a2, .ref n1, .ref a3, .int 0])), (n1, .inl (cy 1, 21, .inl (fun _ => 0)))] rfl dX2_init_24 (fun H locs w => ?_)
  exact r_vret C w hlocks n1 hr rfl trivial [0, 1] rfl rfl ⟨Nat.le_of_ble_eq_true rfl, Nat.le_of_ble_eq_true rfl⟩ dX2_init_27
theorem fi_RX6_30 : FI RX6 30 yX2_init cX2_init 4 3 := ⟨⟨gw_mem (by decide +kernel) (by decide +kernel), gw_mem (by decide +kernel) (by decide +kernel), gw_mem (by decide +kernel) (by decide +kernel), gw_mem (by decide +kernel) (by decide +kernel)⟩, ⟨by decide +kernel, by decide +kernel, by decide +kernel⟩, rfl⟩
theorem dX6_init_47 : decode cX6_init 47 = .ok (.putfield 33, 3) := by decide +kernel
theorem fl_RX6_33 : Cond.fieldLink RX6 33 "TwoSlips$Scene" "hearing" "LTwoSlips$Hearing;" ∈ gw := gw_mem (by decide +kernel) (by decide +kernel)
theorem dX6_init_50 : decode cX6_init 50 = .ok (.aload_n 0, 1) := by decide +kernel
theorem dX6_init_51 : decode cX6_init 51 = .ok (.new 37, 3) := by decide +kernel
theorem cl_RX6_37 : Cond.classLink RX6 37 RX1 ∈ gw := gw_mem (by decide +kernel) (by decide +kernel)
theorem in_1 : Cond.instantiable RX1 13 ∈ gw := gw_mem (by decide +kernel) (by decide +kernel)
theorem it_1 : Cond.initialized RX1 ∈ gw := gw_mem (by decide +kernel) (by decide +kernel)
theorem dX6_init_54 : decode cX6_init 54 = .ok (.dup, 1) := by decide +kernel
theorem dX6_init_55 : decode cX6_init 55 = .ok (.new 28, 3) := by decide +kernel
theorem dX6_init_58 : decode cX6_init 58 = .ok (.dup, 1) := by decide +kernel
theorem dX6_init_59 : decode cX6_init 59 = .ok (.aload_n 1, 1) := by decide +kernel
theorem dX6_init_60 : decode cX6_init 60 = .ok (.aload_n 2, 1) := by decide +kernel
theorem dX6_init_61 : decode cX6_init 61 = .ok (.aload_n 3, 1) := by decide +kernel
theorem dX6_init_62 : decode cX6_init 62 = .ok (.invokespecial 30, 3) := by decide +kernel
theorem dX6_init_65 : decode cX6_init 65 = .ok (.aload_n 3, 1) := by decide +kernel
theorem dX6_init_66 : decode cX6_init 66 = .ok (.invokespecial 39, 3) := by decide +kernel
theorem dX1_init_0 : decode cX1_init 0 = .ok (.aload_n 0, 1) := by decide +kernel
theorem dX1_init_1 : decode cX1_init 1 = .ok (.invokespecial 3, 3) := by decide +kernel
theorem ml_RX1_3 : Cond.methodLink RX1 3 objectInit ∈ gw := gw_mem (by decide +kernel) (by decide +kernel)
theorem dX1_init_4 : decode cX1_init 4 = .ok (.aload_n 0, 1) := by decide +kernel
theorem dX1_init_5 : decode cX1_init 5 = .ok (.bipush 6, 2) := by decide +kernel
theorem dX1_init_7 : decode cX1_init 7 = .ok (.newarray .int, 2) := by decide +kernel
theorem dX1_init_9 : decode cX1_init 9 = .ok (.putfield 11, 3) := by decide +kernel
theorem fl_RX1_11 : Cond.fieldLink RX1 11 "TwoSlips$Changes" "leftByLiar" "[I" ∈ gw := gw_mem (by decide +kernel) (by decide +kernel)
theorem dX1_init_12 : decode cX1_init 12 = .ok (.aload_n 0, 1) := by decide +kernel
theorem dX1_init_13 : decode cX1_init 13 = .ok (.bipush 6, 2) := by decide +kernel
theorem dX1_init_15 : decode cX1_init 15 = .ok (.newarray .int, 2) := by decide +kernel
theorem dX1_init_17 : decode cX1_init 17 = .ok (.putfield 17, 3) := by decide +kernel
theorem fl_RX1_17 : Cond.fieldLink RX1 17 "TwoSlips$Changes" "firstOrder" "[I" ∈ gw := gw_mem (by decide +kernel) (by decide +kernel)
theorem dX1_init_20 : decode cX1_init 20 = .ok (.aload_n 0, 1) := by decide +kernel
theorem dX1_init_21 : decode cX1_init 21 = .ok (.bipush 6, 2) := by decide +kernel
theorem dX1_init_23 : decode cX1_init 23 = .ok (.newarray .int, 2) := by decide +kernel
theorem dX1_init_25 : decode cX1_init 25 = .ok (.putfield 20, 3) := by decide +kernel
theorem fl_RX1_20 : Cond.fieldLink RX1 20 "TwoSlips$Changes" "order" "[I" ∈ gw := gw_mem (by decide +kernel) (by decide +kernel)
theorem dX1_init_28 : decode cX1_init 28 = .ok (.aload_n 0, 1) := by decide +kernel
theorem dX1_init_29 : decode cX1_init 29 = .ok (.aload_n 1, 1) := by decide +kernel
theorem dX1_init_30 : decode cX1_init 30 = .ok (.putfield 23, 3) := by decide +kernel
theorem fl_RX1_23 : Cond.fieldLink RX1 23 "TwoSlips$Changes" "hearing" "LTwoSlips$Hearing;" ∈ gw := gw_mem (by decide +kernel) (by decide +kernel)
theorem dX1_init_33 : decode cX1_init 33 = .ok (.aload_n 0, 1) := by decide +kernel
theorem dX1_init_34 : decode cX1_init 34 = .ok (.aload_n 2, 1) := by decide +kernel
theorem dX1_init_35 : decode cX1_init 35 = .ok (.putfield 27, 3) := by decide +kernel
theorem fl_RX1_27 : Cond.fieldLink RX1 27 "TwoSlips$Changes" "talk" "LTwoSlips$Talk;" ∈ gw := gw_mem (by decide +kernel) (by decide +kernel)
theorem dX1_init_38 : decode cX1_init 38 = .ok (.return_, 1) := by decide +kernel
set_option maxRecDepth 100000 in
set_option maxHeartbeats 4000000 in
theorem c_X1_init_0 (l : Launch) (D : va_G) (cy : Nat → ClassId) (a0 a1 a2 : Nat) : Ct l D cy yX1_init cX1_init 3 none 1 12 3 18 [(a0, .inr (1, [.null, .null, .int 0, .int 0, .null, .int 0, .int 0, .int 0, .int 0, .int 0, .int 0, .null, .null]))] [.ref a0, .ref a1, .ref a2] (fun u : Nat × Nat × Nat => none) (fun _ => True) (fun u : Nat × Nat × Nat => [(a0, .inr (1, [.ref a1, .ref a2, .int 0, .int 0, .ref u.1, .int 0, .int 0, .int 0, .int 0, .int 0, .int 0, .ref u.2.1, .ref u.2.2])), (u.1, .inl (cy 1, 6, .inl (fun _ => 0))), (u.2.1, .inl (cy 1, 6, .inl (fun _ => 0))), (u.2.2, .inl (cy 1, 6, .inl (fun _ => 0)))]) := by
  refine Ct.of (by decide +kernel) (Nat.le_of_ble_eq_true rfl) ?_
  intro p e s m args below meth c A ls C hr hlocks hml hnm w hl
  have hl : lv_has ls 3 [(0, .ref a0), (1, .ref a1), (2, .ref a2)] := hl
  refine lv_aload_n C.1 C.2.1 dX1_init_0 rfl (lv_at hl 0 rfl) ?_
  refine r_objInit C (hl.1.trans hml.symm) ml_RX1_3 im_obj cd_obj ⟨Nat.le_of_ble_eq_true rfl, Nat.le_of_ble_eq_true rfl⟩ dX1_init_1 ?_
  refine lv_aload_n C.1 C.2.1 dX1_init_4 rfl (lv_at hl 0 rfl) ?_
  refine lv_bipush (v := 6) C.1 C.2.1 dX1_init_5 (by decide) ?_
  refine r_newa_int C w 6 ac_int (by decide) (by decide) (by decide) 1 6 rfl rfl ⟨Nat.le_of_ble_eq_true rfl, Nat.le_of_ble_eq_true rfl⟩ dX1_init_7 (fun n1 H w => ?_)
  have w : Wd D A s.heap [(a0, .inr (1, [.null, .null, .int 0, .int 0, .null, .int 0, .int 0, .int 0, .int 0, .int 0, .int 0, .null, .null])), (n1, .inl (cy 1, 6, .inl (fun _ => 0)))] _ _ := w
  refine r_putF C w 0 rfl rfl 4 (by decide) fl_RX1_11 rfl hnm rfl (ty := (.array .int)) (tyX1_ok 4 (by decide)) rfl rfl (Nat.le_of_ble_eq_true rfl) [(a0, .inr (1, [.null, .null, .int 0, .int 0, .ref n1, .int 0, .int 0, .int 0, .int 0, .int 0, .int 0, .null, .null])), (n1, .inl (cy 1, 6, .inl (fun _ => 0)))] rfl dX1_init_9 (fun H locs w => ?_)
  refine lv_aload_n C.1 C.2.1 dX1_init_12 rfl (lv_at hl 0 rfl) ?_
  refine lv_bipush (v := 6) C.1 C.2.1 dX1_init_13 (by decide) ?_
  refine r_newa_int C w 6 ac_int (by decide) (by decide) (by decide) 2 12 rfl rfl ⟨Nat.le_of_ble_eq_true rfl, Nat.le_of_ble_eq_true rfl⟩ dX1_init_15 (fun n2 H w => ?_)
  have w : Wd D A s.heap [(a0, .inr (1, [.null, .null, .int 0, .int 0, .ref n1, .int 0, .int 0, .int 0, .int 0, .int 0, .int 0, .null, .null])), (n1, .inl (cy 1, 6, .inl (fun _ => 0))), (n2, .inl (cy 1, 6, .inl (fun _ => 0)))] _ _ := w
  refine r_putF C w 0 rfl rfl 11 (by decide) fl_RX1_17 rfl hnm rfl (ty := (.array .int)) (tyX1_ok 11 (by decide)) rfl rfl (Nat.le_of_ble_eq_true rfl) [(a0, .inr (1, [.null, .null, .int 0, .int 0, .ref n1, .int 0, .int 0, .int 0, .int 0, .int 0, .int 0, .ref n2, .null])), (n1, .inl (cy 1, 6, .inl (fun _ => 0))), (n2, .inl (cy 1, 6, .inl (fun _ => 0)))] rfl dX1_init_17 (fun H locs w => ?_)
  refine lv_aload_n C.1 C.2.1 dX1_init_20 rfl (lv_at hl 0 rfl) ?_
  refine lv_bipush (v := 6) C.1 C.2.1 dX1_init_21 (by decide) ?_
  refine r_newa_int C w 6 ac_int (by decide) (by decide) (by decide) 3 18 rfl rfl ⟨Nat.le_of_ble_eq_true rfl, Nat.le_of_ble_eq_true rfl⟩ dX1_init_23 (fun n3 H w => ?_)
  have w : Wd D A s.heap [(a0, .inr (1, [.null, .null, .int 0, .int 0, .ref n1, .int 0, .int 0, .int 0, .int 0, .int 0, .int 0, .ref n2, .null])), (n1, .inl (cy 1, 6, .inl (fun _ => 0))), (n2, .inl (cy 1, 6, .inl (fun _ => 0))), (n3, .inl (cy 1, 6, .inl (fun _ => 0)))] _ _ := w
  refine r_putF C w 0 rfl rfl 12 (by decide) fl_RX1_20 rfl hnm rfl (ty := (.array .int)) (tyX1_ok 12 (by decide)) rfl rfl (Nat.le_of_ble_eq_true rfl) [(a0, .inr (1, [.null, .null, .int 0, .int 0, .ref n1, .int 0, .int 0, .int 0, .int 0, .int 0, .int 0, .ref n2, .ref n3])), (n1, .inl (cy 1, 6, .inl (fun _ => 0))), (n2, .inl (cy 1, 6, .inl (fun _ => 0))), (n3, .inl (cy 1, 6, .inl (fun _ => 0)))] rfl dX1_init_25 (fun H locs w => ?_)
  refine lv_aload_n C.1 C.2.1 dX1_init_28 rfl (lv_at hl 0 rfl) ?_
  refine lv_aload_n C.1 C.2.1 dX1_init_29 rfl (lv_at hl 1 rfl) ?_
  refine r_putF C w 0 rfl rfl 0 (by decide) fl_RX1_23 rfl hnm rfl (ty := (.object "TwoSlips$Hearing")) (tyX1_ok 0 (by decide)) rfl rfl (Nat.le_of_ble_eq_true rfl) [(a0, .inr (1, [.ref a1, .null, .int 0, .int 0, .ref n1, .int 0, .int 0, .int 0, .int 0, .int 0, .int 0, .ref n2, .ref n3])), (n1, .inl (cy 1, 6, .inl (fun _ => 0))), (n2, .inl (cy 1, 6, .inl (fun _ => 0))), (n3, .inl (cy 1, 6, .inl (fun _ => 0)))] rfl dX1_init_30 (fun H locs w => ?_)
  refine lv_aload_n C.1 C.2.1 dX1_init_33 rfl (lv_at hl 0 rfl) ?_
  refine lv_aload_n C.1 C.2.1 dX1_init_34 rfl (lv_at hl 2 rfl) ?_
  refine r_put C w 0 rfl rfl 1 (by decide) fl_RX1_27 rfl (ty := (.object "TwoSlips$Talk")) (tyX1_ok 1 (by decide)) rfl rfl (Nat.le_of_ble_eq_true rfl) [(a0, .inr (1, [.ref a1, .ref a2, .int 0, .int 0, .ref n1, .int 0, .int 0, .int 0, .int 0, .int 0, .int 0, .ref n2, .ref n3])), (n1, .inl (cy 1, 6, .inl (fun _ => 0))), (n2, .inl (cy 1, 6, .inl (fun _ => 0))), (n3, .inl (cy 1, 6, .inl (fun _ => 0)))] rfl dX1_init_35 (fun H locs w => ?_)
  exact r_vret C w hlocks (n1, n2, n3) hr rfl trivial [0, 1, 2, 3] rfl rfl ⟨Nat.le_of_ble_eq_true rfl, Nat.le_of_ble_eq_true rfl⟩ dX1_init_38
theorem fi_RX6_39 : FI RX6 39 yX1_init cX1_init 3 2 := ⟨⟨gw_mem (by decide +kernel) (by decide +kernel), gw_mem (by decide +kernel) (by decide +kernel), gw_mem (by decide +kernel) (by decide +kernel), gw_mem (by decide +kernel) (by decide +kernel)⟩, ⟨by decide +kernel, by decide +kernel, by decide +kernel⟩, rfl⟩
theorem dX6_init_69 : decode cX6_init 69 = .ok (.putfield 42, 3) := by decide +kernel
theorem fl_RX6_42 : Cond.fieldLink RX6 42 "TwoSlips$Scene" "changes" "LTwoSlips$Changes;" ∈ gw := gw_mem (by decide +kernel) (by decide +kernel)
theorem dX6_init_72 : decode cX6_init 72 = .ok (.aload_n 0, 1) := by decide +kernel
theorem dX6_init_73 : decode cX6_init 73 = .ok (.new 46, 3) := by decide +kernel
theorem cl_RX6_46 : Cond.classLink RX6 46 RX3 ∈ gw := gw_mem (by decide +kernel) (by decide +kernel)
theorem in_3 : Cond.instantiable RX3 9 ∈ gw := gw_mem (by decide +kernel) (by decide +kernel)
theorem it_3 : Cond.initialized RX3 ∈ gw := gw_mem (by decide +kernel) (by decide +kernel)
theorem dX6_init_76 : decode cX6_init 76 = .ok (.dup, 1) := by decide +kernel
theorem dX6_init_77 : decode cX6_init 77 = .ok (.aload_n 1, 1) := by decide +kernel
theorem dX6_init_78 : decode cX6_init 78 = .ok (.aload_n 2, 1) := by decide +kernel
theorem dX6_init_79 : decode cX6_init 79 = .ok (.aload_n 3, 1) := by decide +kernel
theorem dX6_init_80 : decode cX6_init 80 = .ok (.invokespecial 48, 3) := by decide +kernel
theorem dX3_init_0 : decode cX3_init 0 = .ok (.aload_n 0, 1) := by decide +kernel
theorem dX3_init_1 : decode cX3_init 1 = .ok (.invokespecial 3, 3) := by decide +kernel
theorem ml_RX3_3 : Cond.methodLink RX3 3 objectInit ∈ gw := gw_mem (by decide +kernel) (by decide +kernel)
theorem dX3_init_4 : decode cX3_init 4 = .ok (.aload_n 0, 1) := by decide +kernel
theorem dX3_init_5 : decode cX3_init 5 = .ok (.sipush 1830, 3) := by decide +kernel
theorem dX3_init_8 : decode cX3_init 8 = .ok (.newarray .int, 2) := by decide +kernel
theorem dX3_init_10 : decode cX3_init 10 = .ok (.putfield 11, 3) := by decide +kernel
theorem fl_RX3_11 : Cond.fieldLink RX3 11 "TwoSlips$Mute" "endOf" "[I" ∈ gw := gw_mem (by decide +kernel) (by decide +kernel)
theorem dX3_init_13 : decode cX3_init 13 = .ok (.aload_n 0, 1) := by decide +kernel
theorem dX3_init_14 : decode cX3_init 14 = .ok (.aload_n 1, 1) := by decide +kernel
theorem dX3_init_15 : decode cX3_init 15 = .ok (.putfield 17, 3) := by decide +kernel
theorem fl_RX3_17 : Cond.fieldLink RX3 17 "TwoSlips$Mute" "pairs" "LTwoSlips$Pairs;" ∈ gw := gw_mem (by decide +kernel) (by decide +kernel)
theorem dX3_init_18 : decode cX3_init 18 = .ok (.aload_n 0, 1) := by decide +kernel
theorem dX3_init_19 : decode cX3_init 19 = .ok (.aload_n 2, 1) := by decide +kernel
theorem dX3_init_20 : decode cX3_init 20 = .ok (.putfield 21, 3) := by decide +kernel
theorem fl_RX3_21 : Cond.fieldLink RX3 21 "TwoSlips$Mute" "row" "[I" ∈ gw := gw_mem (by decide +kernel) (by decide +kernel)
theorem dX3_init_23 : decode cX3_init 23 = .ok (.aload_n 0, 1) := by decide +kernel
theorem dX3_init_24 : decode cX3_init 24 = .ok (.aload_n 3, 1) := by decide +kernel
theorem dX3_init_25 : decode cX3_init 25 = .ok (.putfield 24, 3) := by decide +kernel
theorem fl_RX3_24 : Cond.fieldLink RX3 24 "TwoSlips$Mute" "talk" "LTwoSlips$Talk;" ∈ gw := gw_mem (by decide +kernel) (by decide +kernel)
theorem dX3_init_28 : decode cX3_init 28 = .ok (.return_, 1) := by decide +kernel
set_option maxRecDepth 100000 in
set_option maxHeartbeats 4000000 in
theorem c_X3_init_0 (l : Launch) (D : va_G) (cy : Nat → ClassId) (a0 a1 a2 a3 : Nat) : Ct l D cy yX3_init cX3_init 4 none 1 12 1 1830 [(a0, .inr (3, [.null, .null, .null, .int 0, .int 0, .null, .int 0, .int 0, .int 0]))] [.ref a0, .ref a1, .ref a2, .ref a3] (fun u : Nat => none) (fun _ => True) (fun u : Nat => [(a0, .inr (3, [.ref a1, .ref a2, .ref a3, .int 0, .int 0, .ref u, .int 0, .int 0, .int 0])), (u, .inl (cy 1, 1830, .inl (fun _ => 0)))]) := by
  refine Ct.of (by decide +kernel) (Nat.le_of_ble_eq_true rfl) ?_
  intro p e s m args below meth c A ls C hr hlocks hml hnm w hl
  have hl : lv_has ls 4 [(0, .ref a0), (1, .ref a1), (2, .ref a2), (3, .ref a3)] := hl
  refine lv_aload_n C.1 C.2.1 dX3_init_0 rfl (lv_at hl 0 rfl) ?_
  refine r_objInit C (hl.1.trans hml.symm) ml_RX3_3 im_obj cd_obj ⟨Nat.le_of_ble_eq_true rfl, Nat.le_of_ble_eq_true rfl⟩ dX3_init_1 ?_
  refine lv_aload_n C.1 C.2.1 dX3_init_4 rfl (lv_at hl 0 rfl) ?_
  refine lv_sipush (v := 1830) C.1 C.2.1 dX3_init_5 (by decide) ?_
  refine r_newa_int C w 1830 ac_int (by decide) (by decide) (by decide) 1 1830 rfl rfl ⟨Nat.le_of_ble_eq_true rfl, Nat.le_of_ble_eq_true rfl⟩ dX3_init_8 (fun n1 H w => ?_)
  have w : Wd D A s.heap [(a0, .inr (3, [.null, .null, .null, .int 0, .int 0, .null, .int 0, .int 0, .int 0])), (n1, .inl (cy 1, 1830, .inl (fun _ => 0)))] _ _ := w
  refine r_putF C w 0 rfl rfl 5 (by decide) fl_RX3_11 rfl hnm rfl (ty := (.array .int)) (tyX3_ok 5 (by decide)) rfl rfl (Nat.le_of_ble_eq_true rfl) [(a0, .inr (3, [.null, .null, .null, .int 0, .int 0, .ref n1, .int 0, .int 0, .int 0])), (n1, .inl (cy 1, 1830, .inl (fun _ => 0)))] rfl dX3_init_10 (fun H locs w => ?_)
  refine lv_aload_n C.1 C.2.1 dX3_init_13 rfl (lv_at hl 0 rfl) ?_
  refine lv_aload_n C.1 C.2.1 dX3_init_14 rfl (lv_at hl 1 rfl) ?_
  refine r_putF C w 0 rfl rfl 0 (by decide) fl_RX3_17 rfl hnm rfl (ty := (.object "TwoSlips$Pairs")) (tyX3_ok 0 (by decide)) rfl rfl (Nat.le_of_ble_eq_true rfl) [(a0, .inr (3, [.ref a1, .null, .null, .int 0, .int 0, .ref n1, .int 0, .int 0, .int 0])), (n1, .inl (cy 1, 1830, .inl (fun _ => 0)))] rfl dX3_init_15 (fun H locs w => ?_)
  refine lv_aload_n C.1 C.2.1 dX3_init_18 rfl (lv_at hl 0 rfl) ?_
  refine lv_aload_n C.1 C.2.1 dX3_init_19 rfl (lv_at hl 2 rfl) ?_
  refine r_putF C w 0 rfl rfl 1 (by decide) fl_RX3_21 rfl hnm rfl (ty := (.array .int)) (tyX3_ok 1 (by decide)) rfl rfl (Nat.le_of_ble_eq_true rfl) [(a0, .inr (3, [.ref a1, .ref a2, .null, .int 0, .int 0, .ref n1, .int 0, .int 0, .int 0])), (n1, .inl (cy 1, 1830, .inl (fun _ => 0)))] rfl dX3_init_20 (fun H locs w => ?_)
  refine lv_aload_n C.1 C.2.1 dX3_init_23 rfl (lv_at hl 0 rfl) ?_
  refine lv_aload_n C.1 C.2.1 dX3_init_24 rfl (lv_at hl 3 rfl) ?_
  refine r_put C w 0 rfl rfl 2 (by decide) fl_RX3_24 rfl (ty := (.object "TwoSlips$Talk")) (tyX3_ok 2 (by decide)) rfl rfl (Nat.le_of_ble_eq_true rfl) [(a0, .inr (3, [.ref a1, .ref a2, .ref a3, .int 0, .int 0, .ref n1, .int 0, .int 0, .int 0])), (n1, .inl (cy 1, 1830, .inl (fun _ => 0)))] rfl dX3_init_25 (fun H locs w => ?_)
  exact r_vret C w hlocks n1 hr rfl trivial [0, 1] rfl rfl ⟨Nat.le_of_ble_eq_true rfl, Nat.le_of_ble_eq_true rfl⟩ dX3_init_28
theorem fi_RX6_48 : FI RX6 48 yX3_init cX3_init 4 3 := ⟨⟨gw_mem (by decide +kernel) (by decide +kernel), gw_mem (by decide +kernel) (by decide +kernel), gw_mem (by decide +kernel) (by decide +kernel), gw_mem (by decide +kernel) (by decide +kernel)⟩, ⟨by decide +kernel, by decide +kernel, by decide +kernel⟩, rfl⟩
theorem dX6_init_83 : decode cX6_init 83 = .ok (.putfield 49, 3) := by decide +kernel
theorem fl_RX6_49 : Cond.fieldLink RX6 49 "TwoSlips$Scene" "mute" "LTwoSlips$Mute;" ∈ gw := gw_mem (by decide +kernel) (by decide +kernel)
theorem dX6_init_86 : decode cX6_init 86 = .ok (.new 53, 3) := by decide +kernel
theorem cl_RX6_53 : Cond.classLink RX6 53 RX0 ∈ gw := gw_mem (by decide +kernel) (by decide +kernel)
theorem in_0 : Cond.instantiable RX0 5 ∈ gw := gw_mem (by decide +kernel) (by decide +kernel)
theorem it_0 : Cond.initialized RX0 ∈ gw := gw_mem (by decide +kernel) (by decide +kernel)
theorem dX6_init_89 : decode cX6_init 89 = .ok (.dup, 1) := by decide +kernel
theorem dX6_init_90 : decode cX6_init 90 = .ok (.aload_n 1, 1) := by decide +kernel
theorem dX6_init_91 : decode cX6_init 91 = .ok (.aload_n 2, 1) := by decide +kernel
theorem dX6_init_92 : decode cX6_init 92 = .ok (.aload_n 3, 1) := by decide +kernel
theorem dX6_init_93 : decode cX6_init 93 = .ok (.invokespecial 55, 3) := by decide +kernel
theorem dX0_init_0 : decode cX0_init 0 = .ok (.aload_n 0, 1) := by decide +kernel
theorem dX0_init_1 : decode cX0_init 1 = .ok (.invokespecial 3, 3) := by decide +kernel
theorem ml_RX0_3 : Cond.methodLink RX0 3 objectInit ∈ gw := gw_mem (by decide +kernel) (by decide +kernel)
theorem dX0_init_4 : decode cX0_init 4 = .ok (.aload_n 0, 1) := by decide +kernel
theorem dX0_init_5 : decode cX0_init 5 = .ok (.aload_n 1, 1) := by decide +kernel
theorem dX0_init_6 : decode cX0_init 6 = .ok (.putfield 9, 3) := by decide +kernel
theorem fl_RX0_9 : Cond.fieldLink RX0 9 "TwoSlips$Asking" "pairs" "LTwoSlips$Pairs;" ∈ gw := gw_mem (by decide +kernel) (by decide +kernel)
theorem dX0_init_9 : decode cX0_init 9 = .ok (.aload_n 0, 1) := by decide +kernel
theorem dX0_init_10 : decode cX0_init 10 = .ok (.aload_n 2, 1) := by decide +kernel
theorem dX0_init_11 : decode cX0_init 11 = .ok (.putfield 15, 3) := by decide +kernel
theorem fl_RX0_15 : Cond.fieldLink RX0 15 "TwoSlips$Asking" "row" "[I" ∈ gw := gw_mem (by decide +kernel) (by decide +kernel)
theorem dX0_init_14 : decode cX0_init 14 = .ok (.aload_n 0, 1) := by decide +kernel
theorem dX0_init_15 : decode cX0_init 15 = .ok (.aload_n 3, 1) := by decide +kernel
theorem dX0_init_16 : decode cX0_init 16 = .ok (.putfield 19, 3) := by decide +kernel
theorem fl_RX0_19 : Cond.fieldLink RX0 19 "TwoSlips$Asking" "talk" "LTwoSlips$Talk;" ∈ gw := gw_mem (by decide +kernel) (by decide +kernel)
theorem dX0_init_19 : decode cX0_init 19 = .ok (.return_, 1) := by decide +kernel
set_option maxRecDepth 100000 in
set_option maxHeartbeats 4000000 in
theorem c_X0_init_0 (l : Launch) (D : va_G) (cy : Nat → ClassId) (a0 a1 a2 a3 : Nat) : Ct l D cy yX0_init cX0_init 4 none 1 12 0 0 [(a0, .inr (0, [.null, .null, .null, .int 0, .int 0]))] [.ref a0, .ref a1, .ref a2, .ref a3] (fun u : Unit => none) (fun _ => True) (fun u : Unit => [(a0, .inr (0, [.ref a1, .ref a2, .ref a3, .int 0, .int 0]))]) := by
  refine Ct.of (by decide +kernel) (Nat.le_of_ble_eq_true rfl) ?_
  intro p e s m args below meth c A ls C hr hlocks hml hnm w hl
  have hl : lv_has ls 4 [(0, .ref a0), (1, .ref a1), (2, .ref a2), (3, .ref a3)] := hl
  refine lv_aload_n C.1 C.2.1 dX0_init_0 rfl (lv_at hl 0 rfl) ?_
  refine r_objInit C (hl.1.trans hml.symm) ml_RX0_3 im_obj cd_obj ⟨Nat.le_of_ble_eq_true rfl, Nat.le_of_ble_eq_true rfl⟩ dX0_init_1 ?_
  refine lv_aload_n C.1 C.2.1 dX0_init_4 rfl (lv_at hl 0 rfl) ?_
  refine lv_aload_n C.1 C.2.1 dX0_init_5 rfl (lv_at hl 1 rfl) ?_
  refine r_putF C w 0 rfl rfl 0 (by decide) fl_RX0_9 rfl hnm rfl (ty := (.object "TwoSlips$Pairs")) (tyX0_ok 0 (by decide)) rfl rfl (Nat.le_of_ble_eq_true rfl) [(a0, .inr (0, [.ref a1, .null, .null, .int 0, .int 0]))] rfl dX0_init_6 (fun H locs w => ?_)
  refine lv_aload_n C.1 C.2.1 dX0_init_9 rfl (lv_at hl 0 rfl) ?_
  refine lv_aload_n C.1 C.2.1 dX0_init_10 rfl (lv_at hl 2 rfl) ?_
  refine r_putF C w 0 rfl rfl 1 (by decide) fl_RX0_15 rfl hnm rfl (ty := (.array .int)) (tyX0_ok 1 (by decide)) rfl rfl (Nat.le_of_ble_eq_true rfl) [(a0, .inr (0, [.ref a1, .ref a2, .null, .int 0, .int 0]))] rfl dX0_init_11 (fun H locs w => ?_)
  refine lv_aload_n C.1 C.2.1 dX0_init_14 rfl (lv_at hl 0 rfl) ?_
  refine lv_aload_n C.1 C.2.1 dX0_init_15 rfl (lv_at hl 3 rfl) ?_
  refine r_put C w 0 rfl rfl 2 (by decide) fl_RX0_19 rfl (ty := (.object "TwoSlips$Talk")) (tyX0_ok 2 (by decide)) rfl rfl (Nat.le_of_ble_eq_true rfl) [(a0, .inr (0, [.ref a1, .ref a2, .ref a3, .int 0, .int 0]))] rfl dX0_init_16 (fun H locs w => ?_)
  exact r_vret C w hlocks () hr rfl trivial [0] rfl rfl ⟨Nat.le_of_ble_eq_true rfl, Nat.le_of_ble_eq_true rfl⟩ dX0_init_19
theorem fi_RX6_55 : FI RX6 55 yX0_init cX0_init 4 3 := ⟨⟨gw_mem (by decide +kernel) (by decide +kernel), gw_mem (by decide +kernel) (by decide +kernel), gw_mem (by decide +kernel) (by decide +kernel), gw_mem (by decide +kernel) (by decide +kernel)⟩, ⟨by decide +kernel, by decide +kernel, by decide +kernel⟩, rfl⟩
theorem dX6_init_96 : decode cX6_init 96 = .ok (.astore 4, 2) := by decide +kernel
theorem dX6_init_98 : decode cX6_init 98 = .ok (.aload_n 0, 1) := by decide +kernel
theorem dX6_init_99 : decode cX6_init 99 = .ok (.aload 4, 2) := by decide +kernel
theorem dX6_init_101 : decode cX6_init 101 = .ok (.putfield 56, 3) := by decide +kernel
theorem fl_RX6_56 : Cond.fieldLink RX6 56 "TwoSlips$Scene" "asking" "LTwoSlips$Asking;" ∈ gw := gw_mem (by decide +kernel) (by decide +kernel)
theorem dX6_init_104 : decode cX6_init 104 = .ok (.aload_n 0, 1) := by decide +kernel
theorem dX6_init_105 : decode cX6_init 105 = .ok (.new 60, 3) := by decide +kernel
theorem cl_RX6_60 : Cond.classLink RX6 60 RX8 ∈ gw := gw_mem (by decide +kernel) (by decide +kernel)
theorem in_8 : Cond.instantiable RX8 8 ∈ gw := gw_mem (by decide +kernel) (by decide +kernel)
theorem it_8 : Cond.initialized RX8 ∈ gw := gw_mem (by decide +kernel) (by decide +kernel)
theorem dX6_init_108 : decode cX6_init 108 = .ok (.dup, 1) := by decide +kernel
theorem dX6_init_109 : decode cX6_init 109 = .ok (.aload 4, 2) := by decide +kernel
theorem dX6_init_111 : decode cX6_init 111 = .ok (.invokespecial 62, 3) := by decide +kernel
theorem dX8_init_0 : decode cX8_init 0 = .ok (.aload_n 0, 1) := by decide +kernel
theorem dX8_init_1 : decode cX8_init 1 = .ok (.invokespecial 3, 3) := by decide +kernel
theorem ml_RX8_3 : Cond.methodLink RX8 3 objectInit ∈ gw := gw_mem (by decide +kernel) (by decide +kernel)
theorem dX8_init_4 : decode cX8_init 4 = .ok (.aload_n 0, 1) := by decide +kernel
theorem dX8_init_5 : decode cX8_init 5 = .ok (.iconst (-1), 1) := by decide +kernel
theorem dX8_init_6 : decode cX8_init 6 = .ok (.putfield 9, 3) := by decide +kernel
theorem fl_RX8_9 : Cond.fieldLink RX8 9 "TwoSlips$Soonest" "pair" "I" ∈ gw := gw_mem (by decide +kernel) (by decide +kernel)
theorem dX8_init_9 : decode cX8_init 9 = .ok (.aload_n 0, 1) := by decide +kernel
theorem dX8_init_10 : decode cX8_init 10 = .ok (.iconst 5, 1) := by decide +kernel
theorem dX8_init_11 : decode cX8_init 11 = .ok (.newarray .int, 2) := by decide +kernel
theorem dX8_init_13 : decode cX8_init 13 = .ok (.putfield 15, 3) := by decide +kernel
theorem fl_RX8_15 : Cond.fieldLink RX8 15 "TwoSlips$Soonest" "speakers" "[I" ∈ gw := gw_mem (by decide +kernel) (by decide +kernel)
theorem dX8_init_16 : decode cX8_init 16 = .ok (.aload_n 0, 1) := by decide +kernel
theorem dX8_init_17 : decode cX8_init 17 = .ok (.aload_n 1, 1) := by decide +kernel
theorem dX8_init_18 : decode cX8_init 18 = .ok (.putfield 19, 3) := by decide +kernel
theorem fl_RX8_19 : Cond.fieldLink RX8 19 "TwoSlips$Soonest" "asking" "LTwoSlips$Asking;" ∈ gw := gw_mem (by decide +kernel) (by decide +kernel)
theorem dX8_init_21 : decode cX8_init 21 = .ok (.return_, 1) := by decide +kernel
set_option maxRecDepth 100000 in
set_option maxHeartbeats 4000000 in
theorem c_X8_init_0 (l : Launch) (D : va_G) (cy : Nat → ClassId) (a0 a1 : Nat) : Ct l D cy yX8_init cX8_init 2 none 1 12 1 5 [(a0, .inr (8, [.null, .int 0, .int 0, .int 0, .int 0, .int 0, .int 0, .null]))] [.ref a0, .ref a1] (fun u : Nat => none) (fun _ => True) (fun u : Nat => [(a0, .inr (8, [.ref a1, .int (-1), .int 0, .int 0, .int 0, .int 0, .int 0, .ref u])), (u, .inl (cy 1, 5, .inl (fun _ => 0)))]) := by
  refine Ct.of (by decide +kernel) (Nat.le_of_ble_eq_true rfl) ?_
  intro p e s m args below meth c A ls C hr hlocks hml hnm w hl
  have hl : lv_has ls 2 [(0, .ref a0), (1, .ref a1)] := hl
  refine lv_aload_n C.1 C.2.1 dX8_init_0 rfl (lv_at hl 0 rfl) ?_
  refine r_objInit C (hl.1.trans hml.symm) ml_RX8_3 im_obj cd_obj ⟨Nat.le_of_ble_eq_true rfl, Nat.le_of_ble_eq_true rfl⟩ dX8_init_1 ?_
  refine lv_aload_n C.1 C.2.1 dX8_init_4 rfl (lv_at hl 0 rfl) ?_
  refine lv_iconst (v := (-1)) C.1 C.2.1 dX8_init_5 (by decide) ?_
  refine r_put C w 0 rfl rfl 1 (by decide) fl_RX8_9 rfl (ty := .int) (tyX8_ok 1 (by decide)) rfl rfl (Nat.le_of_ble_eq_true rfl) [(a0, .inr (8, [.null, .int (-1), .int 0, .int 0, .int 0, .int 0, .int 0, .null]))] rfl dX8_init_6 (fun H locs w => ?_)
  refine lv_aload_n C.1 C.2.1 dX8_init_9 rfl (lv_at hl 0 rfl) ?_
  refine lv_iconst (v := 5) C.1 C.2.1 dX8_init_10 (by decide) ?_
  refine r_newa_int C w 5 ac_int (by decide) (by decide) (by decide) 1 5 rfl rfl ⟨Nat.le_of_ble_eq_true rfl, Nat.le_of_ble_eq_true rfl⟩ dX8_init_11 (fun n1 H w => ?_)
  have w : Wd D A s.heap [(a0, .inr (8, [.null, .int (-1), .int 0, .int 0, .int 0, .int 0, .int 0, .null])), (n1, .inl (cy 1, 5, .inl (fun _ => 0)))] _ _ := w
  refine r_putF C w 0 rfl rfl 7 (by decide) fl_RX8_15 rfl hnm rfl (ty := (.array .int)) (tyX8_ok 7 (by decide)) rfl rfl (Nat.le_of_ble_eq_true rfl) [(a0, .inr (8, [.null, .int (-1), .int 0, .int 0, .int 0, .int 0, .int 0, .ref n1])), (n1, .inl (cy 1, 5, .inl (fun _ => 0)))] rfl dX8_init_13 (fun H locs w => ?_)
  refine lv_aload_n C.1 C.2.1 dX8_init_16 rfl (lv_at hl 0 rfl) ?_
  refine lv_aload_n C.1 C.2.1 dX8_init_17 rfl (lv_at hl 1 rfl) ?_
  refine r_putF C w 0 rfl rfl 0 (by decide) fl_RX8_19 rfl hnm rfl (ty := (.object "TwoSlips$Asking")) (tyX8_ok 0 (by decide)) rfl rfl (Nat.le_of_ble_eq_true rfl) [(a0, .inr (8, [.ref a1, .int (-1), .int 0, .int 0, .int 0, .int 0, .int 0, .ref n1])), (n1, .inl (cy 1, 5, .inl (fun _ => 0)))] rfl dX8_init_18 (fun H locs w => ?_)
  exact r_vret C w hlocks n1 hr rfl trivial [0, 1] rfl rfl ⟨Nat.le_of_ble_eq_true rfl, Nat.le_of_ble_eq_true rfl⟩ dX8_init_21
theorem fi_RX6_62 : FI RX6 62 yX8_init cX8_init 2 1 := ⟨⟨gw_mem (by decide +kernel) (by decide +kernel), gw_mem (by decide +kernel) (by decide +kernel), gw_mem (by decide +kernel) (by decide +kernel), gw_mem (by decide +kernel) (by decide +kernel)⟩, ⟨by decide +kernel, by decide +kernel, by decide +kernel⟩, rfl⟩
theorem dX6_init_114 : decode cX6_init 114 = .ok (.putfield 65, 3) := by decide +kernel
theorem fl_RX6_65 : Cond.fieldLink RX6 65 "TwoSlips$Scene" "soonest" "LTwoSlips$Soonest;" ∈ gw := gw_mem (by decide +kernel) (by decide +kernel)
theorem dX6_init_117 : decode cX6_init 117 = .ok (.aload_n 0, 1) := by decide +kernel
theorem dX6_init_118 : decode cX6_init 118 = .ok (.new 69, 3) := by decide +kernel
theorem cl_RX6_69 : Cond.classLink RX6 69 RX7 ∈ gw := gw_mem (by decide +kernel) (by decide +kernel)
theorem in_7 : Cond.instantiable RX7 6 ∈ gw := gw_mem (by decide +kernel) (by decide +kernel)
theorem it_7 : Cond.initialized RX7 ∈ gw := gw_mem (by decide +kernel) (by decide +kernel)
theorem dX6_init_121 : decode cX6_init 121 = .ok (.dup, 1) := by decide +kernel
theorem dX6_init_122 : decode cX6_init 122 = .ok (.aload 4, 2) := by decide +kernel
theorem dX6_init_124 : decode cX6_init 124 = .ok (.invokespecial 71, 3) := by decide +kernel
theorem dX7_init_0 : decode cX7_init 0 = .ok (.aload_n 0, 1) := by decide +kernel
theorem dX7_init_1 : decode cX7_init 1 = .ok (.invokespecial 3, 3) := by decide +kernel
theorem ml_RX7_3 : Cond.methodLink RX7 3 objectInit ∈ gw := gw_mem (by decide +kernel) (by decide +kernel)
theorem dX7_init_4 : decode cX7_init 4 = .ok (.aload_n 0, 1) := by decide +kernel
theorem dX7_init_5 : decode cX7_init 5 = .ok (.iconst (-1), 1) := by decide +kernel
theorem dX7_init_6 : decode cX7_init 6 = .ok (.putfield 9, 3) := by decide +kernel
theorem fl_RX7_9 : Cond.fieldLink RX7 9 "TwoSlips$Shortest" "soughtTo" "I" ∈ gw := gw_mem (by decide +kernel) (by decide +kernel)
theorem dX7_init_9 : decode cX7_init 9 = .ok (.aload_n 0, 1) := by decide +kernel
theorem dX7_init_10 : decode cX7_init 10 = .ok (.iconst (-1), 1) := by decide +kernel
theorem dX7_init_11 : decode cX7_init 11 = .ok (.putfield 15, 3) := by decide +kernel
theorem fl_RX7_15 : Cond.fieldLink RX7 15 "TwoSlips$Shortest" "turns" "I" ∈ gw := gw_mem (by decide +kernel) (by decide +kernel)
theorem dX7_init_14 : decode cX7_init 14 = .ok (.aload_n 0, 1) := by decide +kernel
theorem dX7_init_15 : decode cX7_init 15 = .ok (.iconst (-1), 1) := by decide +kernel
theorem dX7_init_16 : decode cX7_init 16 = .ok (.putfield 18, 3) := by decide +kernel
theorem fl_RX7_18 : Cond.fieldLink RX7 18 "TwoSlips$Shortest" "pair" "I" ∈ gw := gw_mem (by decide +kernel) (by decide +kernel)
theorem dX7_init_19 : decode cX7_init 19 = .ok (.aload_n 0, 1) := by decide +kernel
theorem dX7_init_20 : decode cX7_init 20 = .ok (.iconst 4, 1) := by decide +kernel
theorem dX7_init_21 : decode cX7_init 21 = .ok (.newarray .int, 2) := by decide +kernel
theorem dX7_init_23 : decode cX7_init 23 = .ok (.putfield 21, 3) := by decide +kernel
theorem fl_RX7_21 : Cond.fieldLink RX7 21 "TwoSlips$Shortest" "numbers" "[I" ∈ gw := gw_mem (by decide +kernel) (by decide +kernel)
theorem dX7_init_26 : decode cX7_init 26 = .ok (.aload_n 0, 1) := by decide +kernel
theorem dX7_init_27 : decode cX7_init 27 = .ok (.aload_n 1, 1) := by decide +kernel
theorem dX7_init_28 : decode cX7_init 28 = .ok (.putfield 25, 3) := by decide +kernel
theorem fl_RX7_25 : Cond.fieldLink RX7 25 "TwoSlips$Shortest" "asking" "LTwoSlips$Asking;" ∈ gw := gw_mem (by decide +kernel) (by decide +kernel)
theorem dX7_init_31 : decode cX7_init 31 = .ok (.return_, 1) := by decide +kernel
set_option maxRecDepth 100000 in
set_option maxHeartbeats 4000000 in
theorem c_X7_init_0 (l : Launch) (D : va_G) (cy : Nat → ClassId) (a0 a1 : Nat) : Ct l D cy yX7_init cX7_init 2 none 1 12 1 4 [(a0, .inr (7, [.null, .int 0, .int 0, .int 0, .int 0, .null]))] [.ref a0, .ref a1] (fun u : Nat => none) (fun _ => True) (fun u : Nat => [(a0, .inr (7, [.ref a1, .int 0, .int (-1), .int (-1), .int (-1), .ref u])), (u, .inl (cy 1, 4, .inl (fun _ => 0)))]) := by
  refine Ct.of (by decide +kernel) (Nat.le_of_ble_eq_true rfl) ?_
  intro p e s m args below meth c A ls C hr hlocks hml hnm w hl
  have hl : lv_has ls 2 [(0, .ref a0), (1, .ref a1)] := hl
  refine lv_aload_n C.1 C.2.1 dX7_init_0 rfl (lv_at hl 0 rfl) ?_
  refine r_objInit C (hl.1.trans hml.symm) ml_RX7_3 im_obj cd_obj ⟨Nat.le_of_ble_eq_true rfl, Nat.le_of_ble_eq_true rfl⟩ dX7_init_1 ?_
  refine lv_aload_n C.1 C.2.1 dX7_init_4 rfl (lv_at hl 0 rfl) ?_
  refine lv_iconst (v := (-1)) C.1 C.2.1 dX7_init_5 (by decide) ?_
  refine r_put C w 0 rfl rfl 2 (by decide) fl_RX7_9 rfl (ty := .int) (tyX7_ok 2 (by decide)) rfl rfl (Nat.le_of_ble_eq_true rfl) [(a0, .inr (7, [.null, .int 0, .int (-1), .int 0, .int 0, .null]))] rfl dX7_init_6 (fun H locs w => ?_)
  refine lv_aload_n C.1 C.2.1 dX7_init_9 rfl (lv_at hl 0 rfl) ?_
  refine lv_iconst (v := (-1)) C.1 C.2.1 dX7_init_10 (by decide) ?_
  refine r_put C w 0 rfl rfl 3 (by decide) fl_RX7_15 rfl (ty := .int) (tyX7_ok 3 (by decide)) rfl rfl (Nat.le_of_ble_eq_true rfl) [(a0, .inr (7, [.null, .int 0, .int (-1), .int (-1), .int 0, .null]))] rfl dX7_init_11 (fun H locs w => ?_)
  refine lv_aload_n C.1 C.2.1 dX7_init_14 rfl (lv_at hl 0 rfl) ?_
  refine lv_iconst (v := (-1)) C.1 C.2.1 dX7_init_15 (by decide) ?_
  refine r_put C w 0 rfl rfl 4 (by decide) fl_RX7_18 rfl (ty := .int) (tyX7_ok 4 (by decide)) rfl rfl (Nat.le_of_ble_eq_true rfl) [(a0, .inr (7, [.null, .int 0, .int (-1), .int (-1), .int (-1), .null]))] rfl dX7_init_16 (fun H locs w => ?_)
  refine lv_aload_n C.1 C.2.1 dX7_init_19 rfl (lv_at hl 0 rfl) ?_
  refine lv_iconst (v := 4) C.1 C.2.1 dX7_init_20 (by decide) ?_
  refine r_newa_int C w 4 ac_int (by decide) (by decide) (by decide) 1 4 rfl rfl ⟨Nat.le_of_ble_eq_true rfl, Nat.le_of_ble_eq_true rfl⟩ dX7_init_21 (fun n1 H w => ?_)
  have w : Wd D A s.heap [(a0, .inr (7, [.null, .int 0, .int (-1), .int (-1), .int (-1), .null])), (n1, .inl (cy 1, 4, .inl (fun _ => 0)))] _ _ := w
  refine r_putF C w 0 rfl rfl 5 (by decide) fl_RX7_21 rfl hnm rfl (ty := (.array .int)) (tyX7_ok 5 (by decide)) rfl rfl (Nat.le_of_ble_eq_true rfl) [(a0, .inr (7, [.null, .int 0, .int (-1), .int (-1), .int (-1), .ref n1])), (n1, .inl (cy 1, 4, .inl (fun _ => 0)))] rfl dX7_init_23 (fun H locs w => ?_)
  refine lv_aload_n C.1 C.2.1 dX7_init_26 rfl (lv_at hl 0 rfl) ?_
  refine lv_aload_n C.1 C.2.1 dX7_init_27 rfl (lv_at hl 1 rfl) ?_
  refine r_putF C w 0 rfl rfl 0 (by decide) fl_RX7_25 rfl hnm rfl (ty := (.object "TwoSlips$Asking")) (tyX7_ok 0 (by decide)) rfl rfl (Nat.le_of_ble_eq_true rfl) [(a0, .inr (7, [.ref a1, .int 0, .int (-1), .int (-1), .int (-1), .ref n1])), (n1, .inl (cy 1, 4, .inl (fun _ => 0)))] rfl dX7_init_28 (fun H locs w => ?_)
  exact r_vret C w hlocks n1 hr rfl trivial [0, 1] rfl rfl ⟨Nat.le_of_ble_eq_true rfl, Nat.le_of_ble_eq_true rfl⟩ dX7_init_31
theorem fi_RX6_71 : FI RX6 71 yX7_init cX7_init 2 1 := ⟨⟨gw_mem (by decide +kernel) (by decide +kernel), gw_mem (by decide +kernel) (by decide +kernel), gw_mem (by decide +kernel) (by decide +kernel), gw_mem (by decide +kernel) (by decide +kernel)⟩, ⟨by decide +kernel, by decide +kernel, by decide +kernel⟩, rfl⟩
theorem dX6_init_127 : decode cX6_init 127 = .ok (.putfield 72, 3) := by decide +kernel
theorem fl_RX6_72 : Cond.fieldLink RX6 72 "TwoSlips$Scene" "shortest" "LTwoSlips$Shortest;" ∈ gw := gw_mem (by decide +kernel) (by decide +kernel)
theorem dX6_init_130 : decode cX6_init 130 = .ok (.return_, 1) := by decide +kernel
set_option maxRecDepth 100000 in
set_option maxHeartbeats 4000000 in
theorem c_X6_init_0 (l : Launch) (D : va_G) (cy : Nat → ClassId) (a0 a1 a2 a3 : Nat) : Ct l D cy yX6_init cX6_init 5 none 2 35 18 7440 [(a0, .inr (6, [.null, .null, .int 0, .null, .null, .null, .null, .null, .null, .null, .null, .int 0, .int 0]))] [.ref a0, .ref a1, .ref a2, .ref a3] (fun u : Nat × Nat × Nat × Nat × Nat × Nat × Nat × Nat × Nat × Nat × Nat × Nat × Nat × Nat × Nat × Nat × Nat × Nat => none) (fun _ => True) (fun u : Nat × Nat × Nat × Nat × Nat × Nat × Nat × Nat × Nat × Nat × Nat × Nat × Nat × Nat × Nat × Nat × Nat × Nat => [(a0, .inr (6, [.ref a1, .ref u.1, .int 0, .ref u.2.1, .ref u.2.2.2.2.2.1, .ref u.2.2.2.2.2.2.2.2.2.2.2.1, .ref u.2.2.2.2.2.2.2.2.2.2.2.2.2.1, .ref u.2.2.2.2.2.2.2.2.2.2.2.2.2.2.1, .ref u.2.2.2.2.2.2.2.2.2.2.2.2.2.2.2.2.1, .ref u.2.2.1, .ref a3, .int 0, .int 0])), (u.1, .inl (cy 1, 1830, .inl (fun _ => 0))), (u.2.1, .inl (cy 1, 1830, .inl (fun _ => 0))), (u.2.2.2.1, .inl (cy 1, 1830, .inl (fun _ => 0))), (u.2.2.1, .inr (2, [.ref a1, .ref u.2.2.2.1, .ref u.2.2.2.2.1, .ref a3, .int 0])), (u.2.2.2.2.1, .inl (cy 1, 21, .inl (fun _ => 0))), (u.2.2.2.2.2.2.1, .inr (2, [.ref a1, .ref a2, .ref u.2.2.2.2.2.2.2.1, .ref a3, .int 0])), (u.2.2.2.2.2.2.2.1, .inl (cy 1, 21, .inl (fun _ => 0))), (u.2.2.2.2.2.1, .inr (1, [.ref u.2.2.2.2.2.2.1, .ref a3, .int 0, .int 0, .ref u.2.2.2.2.2.2.2.2.1, .int 0, .int 0, .int 0, .int 0, .int 0, .int 0, .ref u.2.2.2.2.2.2.2.2.2.1, .ref u.2.2.2.2.2.2.2.2.2.2.1])), (u.2.2.2.2.2.2.2.2.1, .inl (cy 1, 6, .inl (fun _ => 0))), (u.2.2.2.2.2.2.2.2.2.1, .inl (cy 1, 6, .inl (fun _ => 0))), (u.2.2.2.2.2.2.2.2.2.2.1, .inl (cy 1, 6, .inl (fun _ => 0))), (u.2.2.2.2.2.2.2.2.2.2.2.1, .inr (3, [.ref a1, .ref a2, .ref a3, .int 0, .int 0, .ref u.2.2.2.2.2.2.2.2.2.2.2.2.1, .int 0, .int 0, .int 0])), (u.2.2.2.2.2.2.2.2.2.2.2.2.1, .inl (cy 1, 1830, .inl (fun _ => 0))), (u.2.2.2.2.2.2.2.2.2.2.2.2.2.1, .inr (0, [.ref a1, .ref a2, .ref a3, .int 0, .int 0])), (u.2.2.2.2.2.2.2.2.2.2.2.2.2.2.1, .inr (8, [.ref u.2.2.2.2.2.2.2.2.2.2.2.2.2.1, .int (-1), .int 0, .int 0, .int 0, .int 0, .int 0, .ref u.2.2.2.2.2.2.2.2.2.2.2.2.2.2.2.1])), (u.2.2.2.2.2.2.2.2.2.2.2.2.2.2.2.1, .inl (cy 1, 5, .inl (fun _ => 0))), (u.2.2.2.2.2.2.2.2.2.2.2.2.2.2.2.2.1, .inr (7, [.ref u.2.2.2.2.2.2.2.2.2.2.2.2.2.1, .int 0, .int (-1), .int (-1), .int (-1), .ref u.2.2.2.2.2.2.2.2.2.2.2.2.2.2.2.2.2])), (u.2.2.2.2.2.2.2.2.2.2.2.2.2.2.2.2.2, .inl (cy 1, 4, .inl (fun _ => 0)))]) := by
  refine Ct.of (by decide +kernel) (Nat.le_of_ble_eq_true rfl) ?_
  intro p e s m args below meth c A ls C hr hlocks hml hnm w hl
  have hl : lv_has ls 5 [(0, .ref a0), (1, .ref a1), (2, .ref a2), (3, .ref a3)] := hl
  refine lv_aload_n C.1 C.2.1 dX6_init_0 rfl (lv_at hl 0 rfl) ?_
  refine r_objInit C (hl.1.trans hml.symm) ml_RX6_3 im_obj cd_obj ⟨Nat.le_of_ble_eq_true rfl, Nat.le_of_ble_eq_true rfl⟩ dX6_init_1 ?_
  refine lv_aload_n C.1 C.2.1 dX6_init_4 rfl (lv_at hl 0 rfl) ?_
  refine lv_sipush (v := 1830) C.1 C.2.1 dX6_init_5 (by decide) ?_
  refine r_newa_int C w 1830 ac_int (by decide) (by decide) (by decide) 1 1830 rfl rfl ⟨Nat.le_of_ble_eq_true rfl, Nat.le_of_ble_eq_true rfl⟩ dX6_init_8 (fun n1 H w => ?_)
  have w : Wd D A s.heap [(a0, .inr (6, [.null, .null, .int 0, .null, .null, .null, .null, .null, .null, .null, .null, .int 0, .int 0])), (n1, .inl (cy 1, 1830, .inl (fun _ => 0)))] _ _ := w
  refine r_putF C w 0 rfl rfl 1 (by decide) fl_RX6_11 rfl hnm rfl (ty := (.array .int)) (tyX6_ok 1 (by decide)) rfl rfl (Nat.le_of_ble_eq_true rfl) [(a0, .inr (6, [.null, .ref n1, .int 0, .null, .null, .null, .null, .null, .null, .null, .null, .int 0, .int 0])), (n1, .inl (cy 1, 1830, .inl (fun _ => 0)))] rfl dX6_init_10 (fun H locs w => ?_)
  refine lv_aload_n C.1 C.2.1 dX6_init_13 rfl (lv_at hl 0 rfl) ?_
  refine lv_sipush (v := 1830) C.1 C.2.1 dX6_init_14 (by decide) ?_
  refine r_newa_int C w 1830 ac_int (by decide) (by decide) (by decide) 2 3660 rfl rfl ⟨Nat.le_of_ble_eq_true rfl, Nat.le_of_ble_eq_true rfl⟩ dX6_init_17 (fun n2 H w => ?_)
  have w : Wd D A s.heap [(a0, .inr (6, [.null, .ref n1, .int 0, .null, .null, .null, .null, .null, .null, .null, .null, .int 0, .int 0])), (n1, .inl (cy 1, 1830, .inl (fun _ => 0))), (n2, .inl (cy 1, 1830, .inl (fun _ => 0)))] _ _ := w
  refine r_putF C w 0 rfl rfl 3 (by decide) fl_RX6_17 rfl hnm rfl (ty := (.array .int)) (tyX6_ok 3 (by decide)) rfl rfl (Nat.le_of_ble_eq_true rfl) [(a0, .inr (6, [.null, .ref n1, .int 0, .ref n2, .null, .null, .null, .null, .null, .null, .null, .int 0, .int 0])), (n1, .inl (cy 1, 1830, .inl (fun _ => 0))), (n2, .inl (cy 1, 1830, .inl (fun _ => 0)))] rfl dX6_init_19 (fun H locs w => ?_)
  refine lv_aload_n C.1 C.2.1 dX6_init_22 rfl (lv_at hl 0 rfl) ?_
  refine lv_aload_n C.1 C.2.1 dX6_init_23 rfl (lv_at hl 1 rfl) ?_
  refine r_putF C w 0 rfl rfl 0 (by decide) fl_RX6_20 rfl hnm rfl (ty := (.object "TwoSlips$Pairs")) (tyX6_ok 0 (by decide)) rfl rfl (Nat.le_of_ble_eq_true rfl) [(a0, .inr (6, [.ref a1, .ref n1, .int 0, .ref n2, .null, .null, .null, .null, .null, .null, .null, .int 0, .int 0])), (n1, .inl (cy 1, 1830, .inl (fun _ => 0))), (n2, .inl (cy 1, 1830, .inl (fun _ => 0)))] rfl dX6_init_24 (fun H locs w => ?_)
  refine lv_aload_n C.1 C.2.1 dX6_init_27 rfl (lv_at hl 0 rfl) ?_
  refine lv_aload_n C.1 C.2.1 dX6_init_28 rfl (lv_at hl 3 rfl) ?_
  refine r_put C w 0 rfl rfl 10 (by decide) fl_RX6_24 rfl (ty := (.object "TwoSlips$Talk")) (tyX6_ok 10 (by decide)) rfl rfl (Nat.le_of_ble_eq_true rfl) [(a0, .inr (6, [.ref a1, .ref n1, .int 0, .ref n2, .null, .null, .null, .null, .null, .null, .ref a3, .int 0, .int 0])), (n1, .inl (cy 1, 1830, .inl (fun _ => 0))), (n2, .inl (cy 1, 1830, .inl (fun _ => 0)))] rfl dX6_init_29 (fun H locs w => ?_)
  refine lv_aload_n C.1 C.2.1 dX6_init_32 rfl (lv_at hl 0 rfl) ?_
  refine r_new C w (ci := 2) rfl cl_RX6_28 in_2 it_2 tyX2 tyX2_ok [.null, .null, .null, .null, .int 0] (by decide +kernel) 3 3665 rfl rfl ⟨Nat.le_of_ble_eq_true rfl, Nat.le_of_ble_eq_true rfl⟩ dX6_init_33 (fun n3 H w => ?_)
  have w : Wd D A s.heap [(a0, .inr (6, [.ref a1, .ref n1, .int 0, .ref n2, .null, .null, .null, .null, .null, .null, .ref a3, .int 0, .int 0])), (n1, .inl (cy 1, 1830, .inl (fun _ => 0))), (n2, .inl (cy 1, 1830, .inl (fun _ => 0))), (n3, .inr (2, [.null, .null, .null, .null, .int 0]))] _ _ := w
  refine lv_dup C.1 C.2.1 dX6_init_36 rfl ?_
  refine lv_aload_n C.1 C.2.1 dX6_init_37 rfl (lv_at hl 1 rfl) ?_
  refine lv_sipush (v := 1830) C.1 C.2.1 dX6_init_38 (by decide) ?_
  refine r_newa_int C w 1830 ac_int (by decide) (by decide) (by decide) 4 5495 rfl rfl ⟨Nat.le_of_ble_eq_true rfl, Nat.le_of_ble_eq_true rfl⟩ dX6_init_41 (fun n4 H w => ?_)
  have w : Wd D A s.heap [(a0, .inr (6, [.ref a1, .ref n1, .int 0, .ref n2, .null, .null, .null, .null, .null, .null, .ref a3, .int 0, .int 0])), (n1, .inl (cy 1, 1830, .inl (fun _ => 0))), (n2, .inl (cy 1, 1830, .inl (fun _ => 0))), (n3, .inr (2, [.null, .null, .null, .null, .int 0])), (n4, .inl (cy 1, 1830, .inl (fun _ => 0)))] _ _ := w
  refine lv_aload_n C.1 C.2.1 dX6_init_43 rfl (lv_at hl 3 rfl) ?_
  refine r_callI C w fi_RX6_30 (c_X2_init_0 l D cy n3 a1 n4 a3) (hl.1.trans hml.symm) [3] [0, 1, 2, 4] (wr := [(a0, .inr (6, [.ref a1, .ref n1, .int 0, .ref n2, .null, .null, .null, .null, .null, .null, .ref a3, .int 0, .int 0])), (n1, .inl (cy 1, 1830, .inl (fun _ => 0))), (n2, .inl (cy 1, 1830, .inl (fun _ => 0))), (n4, .inl (cy 1, 1830, .inl (fun _ => 0)))]) ⟨rfl, rfl, rfl, rfl, by decide⟩ rfl rfl ⟨Nat.le_of_ble_eq_true rfl, Nat.le_of_ble_eq_true rfl, Nat.le_of_ble_eq_true rfl⟩ 5 5516 ⟨rfl, rfl, Nat.le_of_ble_eq_true rfl, Nat.le_of_ble_eq_true rfl⟩ dX6_init_44 (fun u H locs hp w => ?_)
  obtain ⟨n5, rfl⟩ : ∃ z, z = u := ⟨_, rfl⟩
  have w : Wd D A s.heap [(a0, .inr (6, [.ref a1, .ref n1, .int 0, .ref n2, .null, .null, .null, .null, .null, .null, .ref a3, .int 0, .int 0])), (n1, .inl (cy 1, 1830, .inl (fun _ => 0))), (n2, .inl (cy 1, 1830, .inl (fun _ => 0))), (n4, .inl (cy 1, 1830, .inl (fun _ => 0))), (n3, .inr (2, [.ref a1, .ref n4, .ref n5, .ref a3, .int 0])), (n5, .inl (cy 1, 21, .inl (fun _ => 0)))] _ _ := w
  refine r_top (g2 := F0 m 47 ls [.ref n3, .ref a0]) rfl ?_
  refine r_putF C w 0 rfl rfl 9 (by decide) fl_RX6_33 rfl hnm rfl (ty := (.object "TwoSlips$Hearing")) (tyX6_ok 9 (by decide)) rfl rfl (Nat.le_of_ble_eq_true rfl) [(a0, .inr (6, [.ref a1, .ref n1, .int 0, .ref n2, .null, .null, .null, .null, .null, .ref n3, .ref a3, .int 0, .int 0])), (n1, .inl (cy 1, 1830, .inl (fun _ => 0))), (n2, .inl (cy 1, 1830, .inl (fun _ => 0))), (n4, .inl (cy 1, 1830, .inl (fun _ => 0))), (n3, .inr (2, [.ref a1, .ref n4, .ref n5, .ref a3, .int 0])), (n5, .inl (cy 1, 21, .inl (fun _ => 0)))] rfl dX6_init_47 (fun H locs w => ?_)
  refine lv_aload_n C.1 C.2.1 dX6_init_50 rfl (lv_at hl 0 rfl) ?_
  refine r_new C w (ci := 1) rfl cl_RX6_37 in_1 it_1 tyX1 tyX1_ok [.null, .null, .int 0, .int 0, .null, .int 0, .int 0, .int 0, .int 0, .int 0, .int 0, .null, .null] (by decide +kernel) 6 5529 rfl rfl ⟨Nat.le_of_ble_eq_true rfl, Nat.le_of_ble_eq_true rfl⟩ dX6_init_51 (fun n6 H w => ?_)
  have w : Wd D A s.heap [(a0, .inr (6, [.ref a1, .ref n1, .int 0, .ref n2, .null, .null, .null, .null, .null, .ref n3, .ref a3, .int 0, .int 0])), (n1, .inl (cy 1, 1830, .inl (fun _ => 0))), (n2, .inl (cy 1, 1830, .inl (fun _ => 0))), (n4, .inl (cy 1, 1830, .inl (fun _ => 0))), (n3, .inr (2, [.ref a1, .ref n4, .ref n5, .ref a3, .int 0])), (n5, .inl (cy 1, 21, .inl (fun _ => 0))), (n6, .inr (1, [.null, .null, .int 0, .int 0, .null, .int 0, .int 0, .int 0, .int 0, .int 0, .int 0, .null, .null]))] _ _ := w
  refine lv_dup C.1 C.2.1 dX6_init_54 rfl ?_
  refine r_new C w (ci := 2) rfl cl_RX6_28 in_2 it_2 tyX2 tyX2_ok [.null, .null, .null, .null, .int 0] (by decide +kernel) 7 5534 rfl rfl ⟨Nat.le_of_ble_eq_true rfl, Nat.le_of_ble_eq_true rfl⟩ dX6_init_55 (fun n7 H w => ?_)
  have w : Wd D A s.heap [(a0, .inr (6, [.ref a1, .ref n1, .int 0, .ref n2, .null, .null, .null, .null, .null, .ref n3, .ref a3, .int 0, .int 0])), (n1, .inl (cy 1, 1830, .inl (fun _ => 0))), (n2, .inl (cy 1, 1830, .inl (fun _ => 0))), (n4, .inl (cy 1, 1830, .inl (fun _ => 0))), (n3, .inr (2, [.ref a1, .ref n4, .ref n5, .ref a3, .int 0])), (n5, .inl (cy 1, 21, .inl (fun _ => 0))), (n6, .inr (1, [.null, .null, .int 0, .int 0, .null, .int 0, .int 0, .int 0, .int 0, .int 0, .int 0, .null, .null])), (n7, .inr (2, [.null, .null, .null, .null, .int 0]))] _ _ := w
  refine lv_dup C.1 C.2.1 dX6_init_58 rfl ?_
  refine lv_aload_n C.1 C.2.1 dX6_init_59 rfl (lv_at hl 1 rfl) ?_
  refine lv_aload_n C.1 C.2.1 dX6_init_60 rfl (lv_at hl 2 rfl) ?_
  refine lv_aload_n C.1 C.2.1 dX6_init_61 rfl (lv_at hl 3 rfl) ?_
  refine r_callI C w fi_RX6_30 (c_X2_init_0 l D cy n7 a1 a2 a3) (hl.1.trans hml.symm) [7] [0, 1, 2, 3, 4, 5, 6] (wr := [(a0, .inr (6, [.ref a1, .ref n1, .int 0, .ref n2, .null, .null, .null, .null, .null, .ref n3, .ref a3, .int 0, .int 0])), (n1, .inl (cy 1, 1830, .inl (fun _ => 0))), (n2, .inl (cy 1, 1830, .inl (fun _ => 0))), (n4, .inl (cy 1, 1830, .inl (fun _ => 0))), (n3, .inr (2, [.ref a1, .ref n4, .ref n5, .ref a3, .int 0])), (n5, .inl (cy 1, 21, .inl (fun _ => 0))), (n6, .inr (1, [.null, .null, .int 0, .int 0, .null, .int 0, .int 0, .int 0, .int 0, .int 0, .int 0, .null, .null]))]) ⟨rfl, rfl, rfl, rfl, by decide⟩ rfl rfl ⟨Nat.le_of_ble_eq_true rfl, Nat.le_of_ble_eq_true rfl, Nat.le_of_ble_eq_true rfl⟩ 8 5555 ⟨rfl, rfl, Nat.le_of_ble_eq_true rfl, Nat.le_of_ble_eq_true rfl⟩ dX6_init_62 (fun u H locs hp w => ?_)
  obtain ⟨n8, rfl⟩ : ∃ z, z = u := ⟨_, rfl⟩
  have w : Wd D A s.heap [(a0, .inr (6, [.ref a1, .ref n1, .int 0, .ref n2, .null, .null, .null, .null, .null, .ref n3, .ref a3, .int 0, .int 0])), (n1, .inl (cy 1, 1830, .inl (fun _ => 0))), (n2, .inl (cy 1, 1830, .inl (fun _ => 0))), (n4, .inl (cy 1, 1830, .inl (fun _ => 0))), (n3, .inr (2, [.ref a1, .ref n4, .ref n5, .ref a3, .int 0])), (n5, .inl (cy 1, 21, .inl (fun _ => 0))), (n6, .inr (1, [.null, .null, .int 0, .int 0, .null, .int 0, .int 0, .int 0, .int 0, .int 0, .int 0, .null, .null])), (n7, .inr (2, [.ref a1, .ref a2, .ref n8, .ref a3, .int 0])), (n8, .inl (cy 1, 21, .inl (fun _ => 0)))] _ _ := w
  refine r_top (g2 := F0 m 65 ls [.ref n7, .ref n6, .ref n6, .ref a0]) rfl ?_
  refine lv_aload_n C.1 C.2.1 dX6_init_65 rfl (lv_at hl 3 rfl) ?_
  refine r_callI C w fi_RX6_39 (c_X1_init_0 l D cy n6 n7 a3) (hl.1.trans hml.symm) [6] [0, 1, 2, 3, 4, 5, 7, 8] (wr := [(a0, .inr (6, [.ref a1, .ref n1, .int 0, .ref n2, .null, .null, .null, .null, .null, .ref n3, .ref a3, .int 0, .int 0])), (n1, .inl (cy 1, 1830, .inl (fun _ => 0))), (n2, .inl (cy 1, 1830, .inl (fun _ => 0))), (n4, .inl (cy 1, 1830, .inl (fun _ => 0))), (n3, .inr (2, [.ref a1, .ref n4, .ref n5, .ref a3, .int 0])), (n5, .inl (cy 1, 21, .inl (fun _ => 0))), (n7, .inr (2, [.ref a1, .ref a2, .ref n8, .ref a3, .int 0])), (n8, .inl (cy 1, 21, .inl (fun _ => 0)))]) ⟨rfl, rfl, rfl, rfl, by decide⟩ rfl rfl ⟨Nat.le_of_ble_eq_true rfl, Nat.le_of_ble_eq_true rfl, Nat.le_of_ble_eq_true rfl⟩ 11 5573 ⟨rfl, rfl, Nat.le_of_ble_eq_true rfl, Nat.le_of_ble_eq_true rfl⟩ dX6_init_66 (fun u H locs hp w => ?_)
  obtain ⟨n9, n10, n11⟩ := u
  have w : Wd D A s.heap [(a0, .inr (6, [.ref a1, .ref n1, .int 0, .ref n2, .null, .null, .null, .null, .null, .ref n3, .ref a3, .int 0, .int 0])), (n1, .inl (cy 1, 1830, .inl (fun _ => 0))), (n2, .inl (cy 1, 1830, .inl (fun _ => 0))), (n4, .inl (cy 1, 1830, .inl (fun _ => 0))), (n3, .inr (2, [.ref a1, .ref n4, .ref n5, .ref a3, .int 0])), (n5, .inl (cy 1, 21, .inl (fun _ => 0))), (n7, .inr (2, [.ref a1, .ref a2, .ref n8, .ref a3, .int 0])), (n8, .inl (cy 1, 21, .inl (fun _ => 0))), (n6, .inr (1, [.ref n7, .ref a3, .int 0, .int 0, .ref n9, .int 0, .int 0, .int 0, .int 0, .int 0, .int 0, .ref n10, .ref n11])), (n9, .inl (cy 1, 6, .inl (fun _ => 0))), (n10, .inl (cy 1, 6, .inl (fun _ => 0))), (n11, .inl (cy 1, 6, .inl (fun _ => 0)))] _ _ := w
  refine r_top (g2 := F0 m 69 ls [.ref n6, .ref a0]) rfl ?_
  refine r_putF C w 0 rfl rfl 4 (by decide) fl_RX6_42 rfl hnm rfl (ty := (.object "TwoSlips$Changes")) (tyX6_ok 4 (by decide)) rfl rfl (Nat.le_of_ble_eq_true rfl) [(a0, .inr (6, [.ref a1, .ref n1, .int 0, .ref n2, .ref n6, .null, .null, .null, .null, .ref n3, .ref a3, .int 0, .int 0])), (n1, .inl (cy 1, 1830, .inl (fun _ => 0))), (n2, .inl (cy 1, 1830, .inl (fun _ => 0))), (n4, .inl (cy 1, 1830, .inl (fun _ => 0))), (n3, .inr (2, [.ref a1, .ref n4, .ref n5, .ref a3, .int 0])), (n5, .inl (cy 1, 21, .inl (fun _ => 0))), (n7, .inr (2, [.ref a1, .ref a2, .ref n8, .ref a3, .int 0])), (n8, .inl (cy 1, 21, .inl (fun _ => 0))), (n6, .inr (1, [.ref n7, .ref a3, .int 0, .int 0, .ref n9, .int 0, .int 0, .int 0, .int 0, .int 0, .int 0, .ref n10, .ref n11])), (n9, .inl (cy 1, 6, .inl (fun _ => 0))), (n10, .inl (cy 1, 6, .inl (fun _ => 0))), (n11, .inl (cy 1, 6, .inl (fun _ => 0)))] rfl dX6_init_69 (fun H locs w => ?_)
  refine lv_aload_n C.1 C.2.1 dX6_init_72 rfl (lv_at hl 0 rfl) ?_
  refine r_new C w (ci := 3) rfl cl_RX6_46 in_3 it_3 tyX3 tyX3_ok [.null, .null, .null, .int 0, .int 0, .null, .int 0, .int 0, .int 0] (by decide +kernel) 12 5582 rfl rfl ⟨Nat.le_of_ble_eq_true rfl, Nat.le_of_ble_eq_true rfl⟩ dX6_init_73 (fun n12 H w => ?_)
  have w : Wd D A s.heap [(a0, .inr (6, [.ref a1, .ref n1, .int 0, .ref n2, .ref n6, .null, .null, .null, .null, .ref n3, .ref a3, .int 0, .int 0])), (n1, .inl (cy 1, 1830, .inl (fun _ => 0))), (n2, .inl (cy 1, 1830, .inl (fun _ => 0))), (n4, .inl (cy 1, 1830, .inl (fun _ => 0))), (n3, .inr (2, [.ref a1, .ref n4, .ref n5, .ref a3, .int 0])), (n5, .inl (cy 1, 21, .inl (fun _ => 0))), (n7, .inr (2, [.ref a1, .ref a2, .ref n8, .ref a3, .int 0])), (n8, .inl (cy 1, 21, .inl (fun _ => 0))), (n6, .inr (1, [.ref n7, .ref a3, .int 0, .int 0, .ref n9, .int 0, .int 0, .int 0, .int 0, .int 0, .int 0, .ref n10, .ref n11])), (n9, .inl (cy 1, 6, .inl (fun _ => 0))), (n10, .inl (cy 1, 6, .inl (fun _ => 0))), (n11, .inl (cy 1, 6, .inl (fun _ => 0))), (n12, .inr (3, [.null, .null, .null, .int 0, .int 0, .null, .int 0, .int 0, .int 0]))] _ _ := w
  refine lv_dup C.1 C.2.1 dX6_init_76 rfl ?_
  refine lv_aload_n C.1 C.2.1 dX6_init_77 rfl (lv_at hl 1 rfl) ?_
  refine lv_aload_n C.1 C.2.1 dX6_init_78 rfl (lv_at hl 2 rfl) ?_
  refine lv_aload_n C.1 C.2.1 dX6_init_79 rfl (lv_at hl 3 rfl) ?_
  refine r_callI C w fi_RX6_48 (c_X3_init_0 l D cy n12 a1 a2 a3) (hl.1.trans hml.symm) [12] [0, 1, 2, 3, 4, 5, 6, 7, 8, 9, 10, 11] (wr := [(a0, .inr (6, [.ref a1, .ref n1, .int 0, .ref n2, .ref n6, .null, .null, .null, .null, .ref n3, .ref a3, .int 0, .int 0])), (n1, .inl (cy 1, 1830, .inl (fun _ => 0))), (n2, .inl (cy 1, 1830, .inl (fun _ => 0))), (n4, .inl (cy 1, 1830, .inl (fun _ => 0))), (n3, .inr (2, [.ref a1, .ref n4, .ref n5, .ref a3, .int 0])), (n5, .inl (cy 1, 21, .inl (fun _ => 0))), (n7, .inr (2, [.ref a1, .ref a2, .ref n8, .ref a3, .int 0])), (n8, .inl (cy 1, 21, .inl (fun _ => 0))), (n6, .inr (1, [.ref n7, .ref a3, .int 0, .int 0, .ref n9, .int 0, .int 0, .int 0, .int 0, .int 0, .int 0, .ref n10, .ref n11])), (n9, .inl (cy 1, 6, .inl (fun _ => 0))), (n10, .inl (cy 1, 6, .inl (fun _ => 0))), (n11, .inl (cy 1, 6, .inl (fun _ => 0)))]) ⟨rfl, rfl, rfl, rfl, by decide⟩ rfl rfl ⟨Nat.le_of_ble_eq_true rfl, Nat.le_of_ble_eq_true rfl, Nat.le_of_ble_eq_true rfl⟩ 13 7412 ⟨rfl, rfl, Nat.le_of_ble_eq_true rfl, Nat.le_of_ble_eq_true rfl⟩ dX6_init_80 (fun u H locs hp w => ?_)
  obtain ⟨n13, rfl⟩ : ∃ z, z = u := ⟨_, rfl⟩
  have w : Wd D A s.heap [(a0, .inr (6, [.ref a1, .ref n1, .int 0, .ref n2, .ref n6, .null, .null, .null, .null, .ref n3, .ref a3, .int 0, .int 0])), (n1, .inl (cy 1, 1830, .inl (fun _ => 0))), (n2, .inl (cy 1, 1830, .inl (fun _ => 0))), (n4, .inl (cy 1, 1830, .inl (fun _ => 0))), (n3, .inr (2, [.ref a1, .ref n4, .ref n5, .ref a3, .int 0])), (n5, .inl (cy 1, 21, .inl (fun _ => 0))), (n7, .inr (2, [.ref a1, .ref a2, .ref n8, .ref a3, .int 0])), (n8, .inl (cy 1, 21, .inl (fun _ => 0))), (n6, .inr (1, [.ref n7, .ref a3, .int 0, .int 0, .ref n9, .int 0, .int 0, .int 0, .int 0, .int 0, .int 0, .ref n10, .ref n11])), (n9, .inl (cy 1, 6, .inl (fun _ => 0))), (n10, .inl (cy 1, 6, .inl (fun _ => 0))), (n11, .inl (cy 1, 6, .inl (fun _ => 0))), (n12, .inr (3, [.ref a1, .ref a2, .ref a3, .int 0, .int 0, .ref n13, .int 0, .int 0, .int 0])), (n13, .inl (cy 1, 1830, .inl (fun _ => 0)))] _ _ := w
  refine r_top (g2 := F0 m 83 ls [.ref n12, .ref a0]) rfl ?_
  refine r_putF C w 0 rfl rfl 5 (by decide) fl_RX6_49 rfl hnm rfl (ty := (.object "TwoSlips$Mute")) (tyX6_ok 5 (by decide)) rfl rfl (Nat.le_of_ble_eq_true rfl) [(a0, .inr (6, [.ref a1, .ref n1, .int 0, .ref n2, .ref n6, .ref n12, .null, .null, .null, .ref n3, .ref a3, .int 0, .int 0])), (n1, .inl (cy 1, 1830, .inl (fun _ => 0))), (n2, .inl (cy 1, 1830, .inl (fun _ => 0))), (n4, .inl (cy 1, 1830, .inl (fun _ => 0))), (n3, .inr (2, [.ref a1, .ref n4, .ref n5, .ref a3, .int 0])), (n5, .inl (cy 1, 21, .inl (fun _ => 0))), (n7, .inr (2, [.ref a1, .ref a2, .ref n8, .ref a3, .int 0])), (n8, .inl (cy 1, 21, .inl (fun _ => 0))), (n6, .inr (1, [.ref n7, .ref a3, .int 0, .int 0, .ref n9, .int 0, .int 0, .int 0, .int 0, .int 0, .int 0, .ref n10, .ref n11])), (n9, .inl (cy 1, 6, .inl (fun _ => 0))), (n10, .inl (cy 1, 6, .inl (fun _ => 0))), (n11, .inl (cy 1, 6, .inl (fun _ => 0))), (n12, .inr (3, [.ref a1, .ref a2, .ref a3, .int 0, .int 0, .ref n13, .int 0, .int 0, .int 0])), (n13, .inl (cy 1, 1830, .inl (fun _ => 0)))] rfl dX6_init_83 (fun H locs w => ?_)
  refine r_new C w (ci := 0) rfl cl_RX6_53 in_0 it_0 tyX0 tyX0_ok [.null, .null, .null, .int 0, .int 0] (by decide +kernel) 14 7417 rfl rfl ⟨Nat.le_of_ble_eq_true rfl, Nat.le_of_ble_eq_true rfl⟩ dX6_init_86 (fun n14 H w => ?_)
  have w : Wd D A s.heap [(a0, .inr (6, [.ref a1, .ref n1, .int 0, .ref n2, .ref n6, .ref n12, .null, .null, .null, .ref n3, .ref a3, .int 0, .int 0])), (n1, .inl (cy 1, 1830, .inl (fun _ => 0))), (n2, .inl (cy 1, 1830, .inl (fun _ => 0))), (n4, .inl (cy 1, 1830, .inl (fun _ => 0))), (n3, .inr (2, [.ref a1, .ref n4, .ref n5, .ref a3, .int 0])), (n5, .inl (cy 1, 21, .inl (fun _ => 0))), (n7, .inr (2, [.ref a1, .ref a2, .ref n8, .ref a3, .int 0])), (n8, .inl (cy 1, 21, .inl (fun _ => 0))), (n6, .inr (1, [.ref n7, .ref a3, .int 0, .int 0, .ref n9, .int 0, .int 0, .int 0, .int 0, .int 0, .int 0, .ref n10, .ref n11])), (n9, .inl (cy 1, 6, .inl (fun _ => 0))), (n10, .inl (cy 1, 6, .inl (fun _ => 0))), (n11, .inl (cy 1, 6, .inl (fun _ => 0))), (n12, .inr (3, [.ref a1, .ref a2, .ref a3, .int 0, .int 0, .ref n13, .int 0, .int 0, .int 0])), (n13, .inl (cy 1, 1830, .inl (fun _ => 0))), (n14, .inr (0, [.null, .null, .null, .int 0, .int 0]))] _ _ := w
  refine lv_dup C.1 C.2.1 dX6_init_89 rfl ?_
  refine lv_aload_n C.1 C.2.1 dX6_init_90 rfl (lv_at hl 1 rfl) ?_
  refine lv_aload_n C.1 C.2.1 dX6_init_91 rfl (lv_at hl 2 rfl) ?_
  refine lv_aload_n C.1 C.2.1 dX6_init_92 rfl (lv_at hl 3 rfl) ?_
  refine r_callI C w fi_RX6_55 (c_X0_init_0 l D cy n14 a1 a2 a3) (hl.1.trans hml.symm) [14] [0, 1, 2, 3, 4, 5, 6, 7, 8, 9, 10, 11, 12, 13] (wr := [(a0, .inr (6, [.ref a1, .ref n1, .int 0, .ref n2, .ref n6, .ref n12, .null, .null, .null, .ref n3, .ref a3, .int 0, .int 0])), (n1, .inl (cy 1, 1830, .inl (fun _ => 0))), (n2, .inl (cy 1, 1830, .inl (fun _ => 0))), (n4, .inl (cy 1, 1830, .inl (fun _ => 0))), (n3, .inr (2, [.ref a1, .ref n4, .ref n5, .ref a3, .int 0])), (n5, .inl (cy 1, 21, .inl (fun _ => 0))), (n7, .inr (2, [.ref a1, .ref a2, .ref n8, .ref a3, .int 0])), (n8, .inl (cy 1, 21, .inl (fun _ => 0))), (n6, .inr (1, [.ref n7, .ref a3, .int 0, .int 0, .ref n9, .int 0, .int 0, .int 0, .int 0, .int 0, .int 0, .ref n10, .ref n11])), (n9, .inl (cy 1, 6, .inl (fun _ => 0))), (n10, .inl (cy 1, 6, .inl (fun _ => 0))), (n11, .inl (cy 1, 6, .inl (fun _ => 0))), (n12, .inr (3, [.ref a1, .ref a2, .ref a3, .int 0, .int 0, .ref n13, .int 0, .int 0, .int 0])), (n13, .inl (cy 1, 1830, .inl (fun _ => 0)))]) ⟨rfl, rfl, rfl, rfl, by decide⟩ rfl rfl ⟨Nat.le_of_ble_eq_true rfl, Nat.le_of_ble_eq_true rfl, Nat.le_of_ble_eq_true rfl⟩ 14 7417 ⟨rfl, rfl, Nat.le_of_ble_eq_true rfl, Nat.le_of_ble_eq_true rfl⟩ dX6_init_93 (fun u H locs hp w => ?_)
  have w : Wd D A s.heap [(a0, .inr (6, [.ref a1, .ref n1, .int 0, .ref n2, .ref n6, .ref n12, .null, .null, .null, .ref n3, .ref a3, .int 0, .int 0])), (n1, .inl (cy 1, 1830, .inl (fun _ => 0))), (n2, .inl (cy 1, 1830, .inl (fun _ => 0))), (n4, .inl (cy 1, 1830, .inl (fun _ => 0))), (n3, .inr (2, [.ref a1, .ref n4, .ref n5, .ref a3, .int 0])), (n5, .inl (cy 1, 21, .inl (fun _ => 0))), (n7, .inr (2, [.ref a1, .ref a2, .ref n8, .ref a3, .int 0])), (n8, .inl (cy 1, 21, .inl (fun _ => 0))), (n6, .inr (1, [.ref n7, .ref a3, .int 0, .int 0, .ref n9, .int 0, .int 0, .int 0, .int 0, .int 0, .int 0, .ref n10, .ref n11])), (n9, .inl (cy 1, 6, .inl (fun _ => 0))), (n10, .inl (cy 1, 6, .inl (fun _ => 0))), (n11, .inl (cy 1, 6, .inl (fun _ => 0))), (n12, .inr (3, [.ref a1, .ref a2, .ref a3, .int 0, .int 0, .ref n13, .int 0, .int 0, .int 0])), (n13, .inl (cy 1, 1830, .inl (fun _ => 0))), (n14, .inr (0, [.ref a1, .ref a2, .ref a3, .int 0, .int 0]))] _ _ := w
  refine r_top (g2 := F0 m 96 ls [.ref n14]) rfl ?_
  refine lv_astore (lv' := [(4, .ref n14), (0, .ref a0), (1, .ref a1), (2, .ref a2), (3, .ref a3)]) C.1 C.2.1 dX6_init_96 hl (by decide) rfl (fun ls hl => ?_)
  refine lv_aload_n C.1 C.2.1 dX6_init_98 rfl (lv_at hl 1 rfl) ?_
  refine lv_aload C.1 C.2.1 dX6_init_99 (lv_at hl 0 rfl) ?_
  refine r_putF C w 0 rfl rfl 6 (by decide) fl_RX6_56 rfl hnm rfl (ty := (.object "TwoSlips$Asking")) (tyX6_ok 6 (by decide)) rfl rfl (Nat.le_of_ble_eq_true rfl) [(a0, .inr (6, [.ref a1, .ref n1, .int 0, .ref n2, .ref n6, .ref n12, .ref n14, .null, .null, .ref n3, .ref a3, .int 0, .int 0])), (n1, .inl (cy 1, 1830, .inl (fun _ => 0))), (n2, .inl (cy 1, 1830, .inl (fun _ => 0))), (n4, .inl (cy 1, 1830, .inl (fun _ => 0))), (n3, .inr (2, [.ref a1, .ref n4, .ref n5, .ref a3, .int 0])), (n5, .inl (cy 1, 21, .inl (fun _ => 0))), (n7, .inr (2, [.ref a1, .ref a2, .ref n8, .ref a3, .int 0])), (n8, .inl (cy 1, 21, .inl (fun _ => 0))), (n6, .inr (1, [.ref n7, .ref a3, .int 0, .int 0, .ref n9, .int 0, .int 0, .int 0, .int 0, .int 0, .int 0, .ref n10, .ref n11])), (n9, .inl (cy 1, 6, .inl (fun _ => 0))), (n10, .inl (cy 1, 6, .inl (fun _ => 0))), (n11, .inl (cy 1, 6, .inl (fun _ => 0))), (n12, .inr (3, [.ref a1, .ref a2, .ref a3, .int 0, .int 0, .ref n13, .int 0, .int 0, .int 0])), (n13, .inl (cy 1, 1830, .inl (fun _ => 0))), (n14, .inr (0, [.ref a1, .ref a2, .ref a3, .int 0, .int 0]))] rfl dX6_init_101 (fun H locs w => ?_)
  refine lv_aload_n C.1 C.2.1 dX6_init_104 rfl (lv_at hl 1 rfl) ?_
  refine r_new C w (ci := 8) rfl cl_RX6_60 in_8 it_8 tyX8 tyX8_ok [.null, .int 0, .int 0, .int 0, .int 0, .int 0, .int 0, .null] (by decide +kernel) 15 7425 rfl rfl ⟨Nat.le_of_ble_eq_true rfl, Nat.le_of_ble_eq_true rfl⟩ dX6_init_105 (fun n15 H w => ?_)
  have w : Wd D A s.heap [(a0, .inr (6, [.ref a1, .ref n1, .int 0, .ref n2, .ref n6, .ref n12, .ref n14, .null, .null, .ref n3, .ref a3, .int 0, .int 0])), (n1, .inl (cy 1, 1830, .inl (fun _ => 0))), (n2, .inl (cy 1, 1830, .inl (fun _ => 0))), (n4, .inl (cy 1, 1830, .inl (fun _ => 0))), (n3, .inr (2, [.ref a1, .ref n4, .ref n5, .ref a3, .int 0])), (n5, .inl (cy 1, 21, .inl (fun _ => 0))), (n7, .inr (2, [.ref a1, .ref a2, .ref n8, .ref a3, .int 0])), (n8, .inl (cy 1, 21, .inl (fun _ => 0))), (n6, .inr (1, [.ref n7, .ref a3, .int 0, .int 0, .ref n9, .int 0, .int 0, .int 0, .int 0, .int 0, .int 0, .ref n10, .ref n11])), (n9, .inl (cy 1, 6, .inl (fun _ => 0))), (n10, .inl (cy 1, 6, .inl (fun _ => 0))), (n11, .inl (cy 1, 6, .inl (fun _ => 0))), (n12, .inr (3, [.ref a1, .ref a2, .ref a3, .int 0, .int 0, .ref n13, .int 0, .int 0, .int 0])), (n13, .inl (cy 1, 1830, .inl (fun _ => 0))), (n14, .inr (0, [.ref a1, .ref a2, .ref a3, .int 0, .int 0])), (n15, .inr (8, [.null, .int 0, .int 0, .int 0, .int 0, .int 0, .int 0, .null]))] _ _ := w
  refine lv_dup C.1 C.2.1 dX6_init_108 rfl ?_
  refine lv_aload C.1 C.2.1 dX6_init_109 (lv_at hl 0 rfl) ?_
  refine r_callI C w fi_RX6_62 (c_X8_init_0 l D cy n15 n14) (hl.1.trans hml.symm) [15] [0, 1, 2, 3, 4, 5, 6, 7, 8, 9, 10, 11, 12, 13, 14] (wr := [(a0, .inr (6, [.ref a1, .ref n1, .int 0, .ref n2, .ref n6, .ref n12, .ref n14, .null, .null, .ref n3, .ref a3, .int 0, .int 0])), (n1, .inl (cy 1, 1830, .inl (fun _ => 0))), (n2, .inl (cy 1, 1830, .inl (fun _ => 0))), (n4, .inl (cy 1, 1830, .inl (fun _ => 0))), (n3, .inr (2, [.ref a1, .ref n4, .ref n5, .ref a3, .int 0])), (n5, .inl (cy 1, 21, .inl (fun _ => 0))), (n7, .inr (2, [.ref a1, .ref a2, .ref n8, .ref a3, .int 0])), (n8, .inl (cy 1, 21, .inl (fun _ => 0))), (n6, .inr (1, [.ref n7, .ref a3, .int 0, .int 0, .ref n9, .int 0, .int 0, .int 0, .int 0, .int 0, .int 0, .ref n10, .ref n11])), (n9, .inl (cy 1, 6, .inl (fun _ => 0))), (n10, .inl (cy 1, 6, .inl (fun _ => 0))), (n11, .inl (cy 1, 6, .inl (fun _ => 0))), (n12, .inr (3, [.ref a1, .ref a2, .ref a3, .int 0, .int 0, .ref n13, .int 0, .int 0, .int 0])), (n13, .inl (cy 1, 1830, .inl (fun _ => 0))), (n14, .inr (0, [.ref a1, .ref a2, .ref a3, .int 0, .int 0]))]) ⟨rfl, rfl, rfl, rfl, by decide⟩ rfl rfl ⟨Nat.le_of_ble_eq_true rfl, Nat.le_of_ble_eq_true rfl, Nat.le_of_ble_eq_true rfl⟩ 16 7430 ⟨rfl, rfl, Nat.le_of_ble_eq_true rfl, Nat.le_of_ble_eq_true rfl⟩ dX6_init_111 (fun u H locs hp w => ?_)
  obtain ⟨n16, rfl⟩ : ∃ z, z = u := ⟨_, rfl⟩
  have w : Wd D A s.heap [(a0, .inr (6, [.ref a1, .ref n1, .int 0, .ref n2, .ref n6, .ref n12, .ref n14, .null, .null, .ref n3, .ref a3, .int 0, .int 0])), (n1, .inl (cy 1, 1830, .inl (fun _ => 0))), (n2, .inl (cy 1, 1830, .inl (fun _ => 0))), (n4, .inl (cy 1, 1830, .inl (fun _ => 0))), (n3, .inr (2, [.ref a1, .ref n4, .ref n5, .ref a3, .int 0])), (n5, .inl (cy 1, 21, .inl (fun _ => 0))), (n7, .inr (2, [.ref a1, .ref a2, .ref n8, .ref a3, .int 0])), (n8, .inl (cy 1, 21, .inl (fun _ => 0))), (n6, .inr (1, [.ref n7, .ref a3, .int 0, .int 0, .ref n9, .int 0, .int 0, .int 0, .int 0, .int 0, .int 0, .ref n10, .ref n11])), (n9, .inl (cy 1, 6, .inl (fun _ => 0))), (n10, .inl (cy 1, 6, .inl (fun _ => 0))), (n11, .inl (cy 1, 6, .inl (fun _ => 0))), (n12, .inr (3, [.ref a1, .ref a2, .ref a3, .int 0, .int 0, .ref n13, .int 0, .int 0, .int 0])), (n13, .inl (cy 1, 1830, .inl (fun _ => 0))), (n14, .inr (0, [.ref a1, .ref a2, .ref a3, .int 0, .int 0])), (n15, .inr (8, [.ref n14, .int (-1), .int 0, .int 0, .int 0, .int 0, .int 0, .ref n16])), (n16, .inl (cy 1, 5, .inl (fun _ => 0)))] _ _ := w
  refine r_top (g2 := F0 m 114 ls [.ref n15, .ref a0]) rfl ?_
  refine r_putF C w 0 rfl rfl 7 (by decide) fl_RX6_65 rfl hnm rfl (ty := (.object "TwoSlips$Soonest")) (tyX6_ok 7 (by decide)) rfl rfl (Nat.le_of_ble_eq_true rfl) [(a0, .inr (6, [.ref a1, .ref n1, .int 0, .ref n2, .ref n6, .ref n12, .ref n14, .ref n15, .null, .ref n3, .ref a3, .int 0, .int 0])), (n1, .inl (cy 1, 1830, .inl (fun _ => 0))), (n2, .inl (cy 1, 1830, .inl (fun _ => 0))), (n4, .inl (cy 1, 1830, .inl (fun _ => 0))), (n3, .inr (2, [.ref a1, .ref n4, .ref n5, .ref a3, .int 0])), (n5, .inl (cy 1, 21, .inl (fun _ => 0))), (n7, .inr (2, [.ref a1, .ref a2, .ref n8, .ref a3, .int 0])), (n8, .inl (cy 1, 21, .inl (fun _ => 0))), (n6, .inr (1, [.ref n7, .ref a3, .int 0, .int 0, .ref n9, .int 0, .int 0, .int 0, .int 0, .int 0, .int 0, .ref n10, .ref n11])), (n9, .inl (cy 1, 6, .inl (fun _ => 0))), (n10, .inl (cy 1, 6, .inl (fun _ => 0))), (n11, .inl (cy 1, 6, .inl (fun _ => 0))), (n12, .inr (3, [.ref a1, .ref a2, .ref a3, .int 0, .int 0, .ref n13, .int 0, .int 0, .int 0])), (n13, .inl (cy 1, 1830, .inl (fun _ => 0))), (n14, .inr (0, [.ref a1, .ref a2, .ref a3, .int 0, .int 0])), (n15, .inr (8, [.ref n14, .int (-1), .int 0, .int 0, .int 0, .int 0, .int 0, .ref n16])), (n16, .inl (cy 1, 5, .inl (fun _ => 0)))] rfl dX6_init_114 (fun H locs w => ?_)
  refine lv_aload_n C.1 C.2.1 dX6_init_117 rfl (lv_at hl 1 rfl) ?_
  refine r_new C w (ci := 7) rfl cl_RX6_69 in_7 it_7 tyX7 tyX7_ok [.null, .int 0, .int 0, .int 0, .int 0, .null] (by decide +kernel) 17 7436 rfl rfl ⟨Nat.le_of_ble_eq_true rfl, Nat.le_of_ble_eq_true rfl⟩ dX6_init_118 (fun n17 H w => ?_)
  have w : Wd D A s.heap [(a0, .inr (6, [.ref a1, .ref n1, .int 0, .ref n2, .ref n6, .ref n12, .ref n14, .ref n15, .null, .ref n3, .ref a3, .int 0, .int 0])), (n1, .inl (cy 1, 1830, .inl (fun _ => 0))), (n2, .inl (cy 1, 1830, .inl (fun _ => 0))), (n4, .inl (cy 1, 1830, .inl (fun _ => 0))), (n3, .inr (2, [.ref a1, .ref n4, .ref n5, .ref a3, .int 0])), (n5, .inl (cy 1, 21, .inl (fun _ => 0))), (n7, .inr (2, [.ref a1, .ref a2, .ref n8, .ref a3, .int 0])), (n8, .inl (cy 1, 21, .inl (fun _ => 0))), (n6, .inr (1, [.ref n7, .ref a3, .int 0, .int 0, .ref n9, .int 0, .int 0, .int 0, .int 0, .int 0, .int 0, .ref n10, .ref n11])), (n9, .inl (cy 1, 6, .inl (fun _ => 0))), (n10, .inl (cy 1, 6, .inl (fun _ => 0))), (n11, .inl (cy 1, 6, .inl (fun _ => 0))), (n12, .inr (3, [.ref a1, .ref a2, .ref a3, .int 0, .int 0, .ref n13, .int 0, .int 0, .int 0])), (n13, .inl (cy 1, 1830, .inl (fun _ => 0))), (n14, .inr (0, [.ref a1, .ref a2, .ref a3, .int 0, .int 0])), (n15, .inr (8, [.ref n14, .int (-1), .int 0, .int 0, .int 0, .int 0, .int 0, .ref n16])), (n16, .inl (cy 1, 5, .inl (fun _ => 0))), (n17, .inr (7, [.null, .int 0, .int 0, .int 0, .int 0, .null]))] _ _ := w
  refine lv_dup C.1 C.2.1 dX6_init_121 rfl ?_
  refine lv_aload C.1 C.2.1 dX6_init_122 (lv_at hl 0 rfl) ?_
  refine r_callI C w fi_RX6_71 (c_X7_init_0 l D cy n17 n14) (hl.1.trans hml.symm) [17] [0, 1, 2, 3, 4, 5, 6, 7, 8, 9, 10, 11, 12, 13, 14, 15, 16] (wr := [(a0, .inr (6, [.ref a1, .ref n1, .int 0, .ref n2, .ref n6, .ref n12, .ref n14, .ref n15, .null, .ref n3, .ref a3, .int 0, .int 0])), (n1, .inl (cy 1, 1830, .inl (fun _ => 0))), (n2, .inl (cy 1, 1830, .inl (fun _ => 0))), (n4, .inl (cy 1, 1830, .inl (fun _ => 0))), (n3, .inr (2, [.ref a1, .ref n4, .ref n5, .ref a3, .int 0])), (n5, .inl (cy 1, 21, .inl (fun _ => 0))), (n7, .inr (2, [.ref a1, .ref a2, .ref n8, .ref a3, .int 0])), (n8, .inl (cy 1, 21, .inl (fun _ => 0))), (n6, .inr (1, [.ref n7, .ref a3, .int 0, .int 0, .ref n9, .int 0, .int 0, .int 0, .int 0, .int 0, .int 0, .ref n10, .ref n11])), (n9, .inl (cy 1, 6, .inl (fun _ => 0))), (n10, .inl (cy 1, 6, .inl (fun _ => 0))), (n11, .inl (cy 1, 6, .inl (fun _ => 0))), (n12, .inr (3, [.ref a1, .ref a2, .ref a3, .int 0, .int 0, .ref n13, .int 0, .int 0, .int 0])), (n13, .inl (cy 1, 1830, .inl (fun _ => 0))), (n14, .inr (0, [.ref a1, .ref a2, .ref a3, .int 0, .int 0])), (n15, .inr (8, [.ref n14, .int (-1), .int 0, .int 0, .int 0, .int 0, .int 0, .ref n16])), (n16, .inl (cy 1, 5, .inl (fun _ => 0)))]) ⟨rfl, rfl, rfl, rfl, by decide⟩ rfl rfl ⟨Nat.le_of_ble_eq_true rfl, Nat.le_of_ble_eq_true rfl, Nat.le_of_ble_eq_true rfl⟩ 18 7440 ⟨rfl, rfl, Nat.le_of_ble_eq_true rfl, Nat.le_of_ble_eq_true rfl⟩ dX6_init_124 (fun u H locs hp w => ?_)
  obtain ⟨n18, rfl⟩ : ∃ z, z = u := ⟨_, rfl⟩
  have w : Wd D A s.heap [(a0, .inr (6, [.ref a1, .ref n1, .int 0, .ref n2, .ref n6, .ref n12, .ref n14, .ref n15, .null, .ref n3, .ref a3, .int 0, .int 0])), (n1, .inl (cy 1, 1830, .inl (fun _ => 0))), (n2, .inl (cy 1, 1830, .inl (fun _ => 0))), (n4, .inl (cy 1, 1830, .inl (fun _ => 0))), (n3, .inr (2, [.ref a1, .ref n4, .ref n5, .ref a3, .int 0])), (n5, .inl (cy 1, 21, .inl (fun _ => 0))), (n7, .inr (2, [.ref a1, .ref a2, .ref n8, .ref a3, .int 0])), (n8, .inl (cy 1, 21, .inl (fun _ => 0))), (n6, .inr (1, [.ref n7, .ref a3, .int 0, .int 0, .ref n9, .int 0, .int 0, .int 0, .int 0, .int 0, .int 0, .ref n10, .ref n11])), (n9, .inl (cy 1, 6, .inl (fun _ => 0))), (n10, .inl (cy 1, 6, .inl (fun _ => 0))), (n11, .inl (cy 1, 6, .inl (fun _ => 0))), (n12, .inr (3, [.ref a1, .ref a2, .ref a3, .int 0, .int 0, .ref n13, .int 0, .int 0, .int 0])), (n13, .inl (cy 1, 1830, .inl (fun _ => 0))), (n14, .inr (0, [.ref a1, .ref a2, .ref a3, .int 0, .int 0])), (n15, .inr (8, [.ref n14, .int (-1), .int 0, .int 0, .int 0, .int 0, .int 0, .ref n16])), (n16, .inl (cy 1, 5, .inl (fun _ => 0))), (n17, .inr (7, [.ref n14, .int 0, .int (-1), .int (-1), .int (-1), .ref n18])), (n18, .inl (cy 1, 4, .inl (fun _ => 0)))] _ _ := w
  refine r_top (g2 := F0 m 127 ls [.ref n17, .ref a0]) rfl ?_
  refine r_putF C w 0 rfl rfl 8 (by decide) fl_RX6_72 rfl hnm rfl (ty := (.object "TwoSlips$Shortest")) (tyX6_ok 8 (by decide)) rfl rfl (Nat.le_of_ble_eq_true rfl) [(a0, .inr (6, [.ref a1, .ref n1, .int 0, .ref n2, .ref n6, .ref n12, .ref n14, .ref n15, .ref n17, .ref n3, .ref a3, .int 0, .int 0])), (n1, .inl (cy 1, 1830, .inl (fun _ => 0))), (n2, .inl (cy 1, 1830, .inl (fun _ => 0))), (n4, .inl (cy 1, 1830, .inl (fun _ => 0))), (n3, .inr (2, [.ref a1, .ref n4, .ref n5, .ref a3, .int 0])), (n5, .inl (cy 1, 21, .inl (fun _ => 0))), (n7, .inr (2, [.ref a1, .ref a2, .ref n8, .ref a3, .int 0])), (n8, .inl (cy 1, 21, .inl (fun _ => 0))), (n6, .inr (1, [.ref n7, .ref a3, .int 0, .int 0, .ref n9, .int 0, .int 0, .int 0, .int 0, .int 0, .int 0, .ref n10, .ref n11])), (n9, .inl (cy 1, 6, .inl (fun _ => 0))), (n10, .inl (cy 1, 6, .inl (fun _ => 0))), (n11, .inl (cy 1, 6, .inl (fun _ => 0))), (n12, .inr (3, [.ref a1, .ref a2, .ref a3, .int 0, .int 0, .ref n13, .int 0, .int 0, .int 0])), (n13, .inl (cy 1, 1830, .inl (fun _ => 0))), (n14, .inr (0, [.ref a1, .ref a2, .ref a3, .int 0, .int 0])), (n15, .inr (8, [.ref n14, .int (-1), .int 0, .int 0, .int 0, .int 0, .int 0, .ref n16])), (n16, .inl (cy 1, 5, .inl (fun _ => 0))), (n17, .inr (7, [.ref n14, .int 0, .int (-1), .int (-1), .int (-1), .ref n18])), (n18, .inl (cy 1, 4, .inl (fun _ => 0)))] rfl dX6_init_127 (fun H locs w => ?_)
  exact r_vret C w hlocks (n1, n2, n3, n4, n5, n6, n7, n8, n9, n10, n11, n12, n13, n14, n15, n16, n17, n18) hr rfl trivial [0, 1, 2, 3, 4, 5, 6, 7, 8, 9, 10, 11, 12, 13, 14, 15, 16, 17, 18] rfl rfl ⟨Nat.le_of_ble_eq_true rfl, Nat.le_of_ble_eq_true rfl⟩ dX6_init_130
theorem fi_RX11_369 : FI RX11 369 yX6_init cX6_init 5 3 := ⟨⟨gw_mem (by decide +kernel) (by decide +kernel), gw_mem (by decide +kernel) (by decide +kernel), gw_mem (by decide +kernel) (by decide +kernel), gw_mem (by decide +kernel) (by decide +kernel)⟩, ⟨by decide +kernel, by decide +kernel, by decide +kernel⟩, rfl⟩
theorem dX11_view_31 : decode cX11_view 31 = .ok (.putfield 85, 3) := by decide +kernel
theorem dX11_view_34 : decode cX11_view 34 = .ok (.aload_n 0, 1) := by decide +kernel
theorem dX11_view_35 : decode cX11_view 35 = .ok (.getfield 85, 3) := by decide +kernel
theorem dX11_view_38 : decode cX11_view 38 = .ok (.aload_n 0, 1) := by decide +kernel
theorem dX11_view_39 : decode cX11_view 39 = .ok (.getfield 41, 3) := by decide +kernel
theorem dX11_view_42 : decode cX11_view 42 = .ok (.invokevirtual 372, 3) := by decide +kernel
theorem dX6_take_0 : decode cX6_take 0 = .ok (.aload_n 0, 1) := by decide +kernel
theorem dX6_take_1 : decode cX6_take 1 = .ok (.getfield 20, 3) := by decide +kernel
theorem dX6_take_4 : decode cX6_take 4 = .ok (.invokevirtual 80, 3) := by decide +kernel
theorem dX4_lowerMark_0 : decode cX4_lowerMark 0 = .ok (.aload_n 0, 1) := by decide +kernel
theorem fl_RX4_71 : Cond.fieldLink RX4 71 "TwoSlips$Pairs" "mark" "I" ∈ gw := gw_mem (by decide +kernel) (by decide +kernel)
theorem dX4_lowerMark_1 : decode cX4_lowerMark 1 = .ok (.getfield 71, 3) := by decide +kernel
theorem ki_RX4_74 : Cond.constant RX4 74 1000000000 ∈ gw := gw_mem (by decide +kernel) (by decide +kernel)
theorem dX4_lowerMark_4 : decode cX4_lowerMark 4 = .ok (.ldc 74, 2) := by decide +kernel
theorem dX4_lowerMark_6 : decode cX4_lowerMark 6 = .ok (.if_icmp .lt 32, 3) := by decide +kernel
theorem dX4_lowerMark_38 : decode cX4_lowerMark 38 = .ok (.return_, 1) := by decide +kernel
set_option maxRecDepth 100000 in
set_option maxHeartbeats 4000000 in
theorem c_X4_lowerMark_0 (l : Launch) (D : va_G) (cy : Nat → ClassId) (a0 a1 a2 a3 : Nat) : Ct l D cy yX4_lowerMark cX4_lowerMark 2 none 0 0 0 0 [(a0, .inr (4, [.ref a1, .ref a2, .int 0, .ref a3]))] [.ref a0] (fun u : Unit => none) (fun _ => True) (fun u : Unit => [(a0, .inr (4, [.ref a1, .ref a2, .int 0, .ref a3]))]) := by
  refine Ct.of (by decide +kernel) (Nat.le_of_ble_eq_true rfl) ?_
  intro p e s m args below meth c A ls C hr hlocks hml hnm w hl
  have hl : lv_has ls 2 [(0, .ref a0)] := hl
  refine lv_aload_n C.1 C.2.1 dX4_lowerMark_0 rfl (lv_at hl 0 rfl) ?_
  refine r_get C w 0 rfl rfl 2 (by decide) fl_RX4_71 (v := .int 0) rfl dX4_lowerMark_1 ?_
  refine lv_ldc (v := 1000000000) C.1 C.2.1 C.2.2.1 (C.2.2.2.1 _ ki_RX4_74) dX4_lowerMark_4 ?_
  refine b_icmp_lt_t C (tgt := 38) dX4_lowerMark_6 (by decide) (by decide) ?_
  exact r_vret C w hlocks () hr rfl trivial [0] rfl rfl ⟨Nat.le_of_ble_eq_true rfl, Nat.le_of_ble_eq_true rfl⟩ dX4_lowerMark_38
theorem fv_RX6_80 : FV RX6 80 yX4_lowerMark cX4_lowerMark 2 none 0 := ⟨⟨gw_mem (by decide +kernel) (by decide +kernel), gw_mem (by decide +kernel) (by decide +kernel), gw_mem (by decide +kernel) (by decide +kernel), gw_mem (by decide +kernel) (by decide +kernel), gw_mem (by decide +kernel) (by decide +kernel)⟩, ⟨by decide +kernel, by decide +kernel, by decide +kernel⟩⟩
theorem dX6_take_7 : decode cX6_take 7 = .ok (.aload_n 0, 1) := by decide +kernel
theorem fl_RX6_76 : Cond.fieldLink RX6 76 "TwoSlips$Scene" "taken" "Z" ∈ gw := gw_mem (by decide +kernel) (by decide +kernel)
theorem dX6_take_8 : decode cX6_take 8 = .ok (.getfield 76, 3) := by decide +kernel
theorem dX6_take_11 : decode cX6_take 11 = .ok (.ifCond .eq 4, 3) := by decide +kernel
theorem dX6_take_15 : decode cX6_take 15 = .ok (.aload_n 0, 1) := by decide +kernel
theorem dX6_take_16 : decode cX6_take 16 = .ok (.iconst 1, 1) := by decide +kernel
theorem dX6_take_17 : decode cX6_take 17 = .ok (.putfield 76, 3) := by decide +kernel
theorem dX6_take_20 : decode cX6_take 20 = .ok (.aload_n 0, 1) := by decide +kernel
theorem dX6_take_21 : decode cX6_take 21 = .ok (.iconst 0, 1) := by decide +kernel
theorem dX6_take_22 : decode cX6_take 22 = .ok (.putfield 83, 3) := by decide +kernel
theorem fl_RX6_83 : Cond.fieldLink RX6 83 "TwoSlips$Scene" "listened" "Z" ∈ gw := gw_mem (by decide +kernel) (by decide +kernel)
theorem dX6_take_25 : decode cX6_take 25 = .ok (.aload_n 0, 1) := by decide +kernel
theorem dX6_take_26 : decode cX6_take 26 = .ok (.aload_n 1, 1) := by decide +kernel
theorem dX6_take_27 : decode cX6_take 27 = .ok (.putfield 24, 3) := by decide +kernel
theorem dX6_take_30 : decode cX6_take 30 = .ok (.aload_n 0, 1) := by decide +kernel
theorem dX6_take_31 : decode cX6_take 31 = .ok (.aload_n 0, 1) := by decide +kernel
theorem dX6_take_32 : decode cX6_take 32 = .ok (.getfield 11, 3) := by decide +kernel
theorem dX6_take_35 : decode cX6_take 35 = .ok (.aload_n 0, 1) := by decide +kernel
theorem dX6_take_36 : decode cX6_take 36 = .ok (.getfield 24, 3) := by decide +kernel
theorem dX6_take_39 : decode cX6_take 39 = .ok (.aload_n 0, 1) := by decide +kernel
theorem dX6_take_40 : decode cX6_take 40 = .ok (.getfield 24, 3) := by decide +kernel
theorem fl_RX6_86 : Cond.fieldLink RX6 86 "TwoSlips$Talk" "from" "I" ∈ gw := gw_mem (by decide +kernel) (by decide +kernel)
theorem dX6_take_43 : decode cX6_take 43 = .ok (.getfield 86, 3) := by decide +kernel
theorem dX6_take_46 : decode cX6_take 46 = .ok (.aload_n 0, 1) := by decide +kernel
theorem dX6_take_47 : decode cX6_take 47 = .ok (.getfield 24, 3) := by decide +kernel
theorem fl_RX6_92 : Cond.fieldLink RX6 92 "TwoSlips$Talk" "to" "I" ∈ gw := gw_mem (by decide +kernel) (by decide +kernel)
theorem dX6_take_50 : decode cX6_take 50 = .ok (.getfield 92, 3) := by decide +kernel
theorem dX6_take_53 : decode cX6_take 53 = .ok (.invokestatic 95, 3) := by decide +kernel
theorem dX4_fill_0 : decode cX4_fill 0 = .ok (.iconst 0, 1) := by decide +kernel
theorem dX4_fill_1 : decode cX4_fill 1 = .ok (.istore 4, 2) := by decide +kernel
theorem dX4_fill_3 : decode cX4_fill 3 = .ok (.iload_n 2, 1) := by decide +kernel
theorem dX4_fill_4 : decode cX4_fill 4 = .ok (.istore 5, 2) := by decide +kernel
theorem dX4_fill_88 : decode cX4_fill 88 = .ok (.iload 4, 2) := by decide +kernel
theorem dX4_fill_50 : decode cX4_fill 50 = .ok (.iload 8, 2) := by decide +kernel
theorem dX4_fill_52 : decode cX4_fill 52 = .ok (.iload 7, 2) := by decide +kernel
theorem dX4_fill_54 : decode cX4_fill 54 = .ok (.if_icmp .gt 28, 3) := by decide +kernel
theorem dX4_fill_57 : decode cX4_fill 57 = .ok (.iload 4, 2) := by decide +kernel
theorem dX4_fill_59 : decode cX4_fill 59 = .ok (.aload_n 0, 1) := by decide +kernel
theorem dX4_fill_60 : decode cX4_fill 60 = .ok (.arraylength, 1) := by decide +kernel
theorem dX4_fill_61 : decode cX4_fill 61 = .ok (.if_icmp .ge 21, 3) := by decide +kernel
theorem dX4_fill_64 : decode cX4_fill 64 = .ok (.aload_n 0, 1) := by decide +kernel
theorem dX4_fill_65 : decode cX4_fill 65 = .ok (.iload 4, 2) := by decide +kernel
theorem dX4_fill_67 : decode cX4_fill 67 = .ok (.iinc 4 1, 3) := by decide +kernel
theorem dX4_fill_70 : decode cX4_fill 70 = .ok (.iload 6, 2) := by decide +kernel
theorem dX4_fill_72 : decode cX4_fill 72 = .ok (.iload 8, 2) := by decide +kernel
theorem dX4_fill_74 : decode cX4_fill 74 = .ok (.iadd, 1) := by decide +kernel
theorem dX4_fill_75 : decode cX4_fill 75 = .ok (.iastore, 1) := by decide +kernel
theorem dX4_fill_76 : decode cX4_fill 76 = .ok (.iinc 8 1, 3) := by decide +kernel
theorem dX4_fill_79 : decode cX4_fill 79 = .ok (.goto (-29), 3) := by decide +kernel
theorem dX4_fill_6 : decode cX4_fill 6 = .ok (.iload 5, 2) := by decide +kernel
theorem dX4_fill_8 : decode cX4_fill 8 = .ok (.iload_n 3, 1) := by decide +kernel
theorem dX4_fill_9 : decode cX4_fill 9 = .ok (.if_icmp .gt 79, 3) := by decide +kernel
theorem dX4_fill_12 : decode cX4_fill 12 = .ok (.iload 5, 2) := by decide +kernel
theorem dX4_fill_14 : decode cX4_fill 14 = .ok (.iconst 1, 1) := by decide +kernel
theorem dX4_fill_15 : decode cX4_fill 15 = .ok (.isub, 1) := by decide +kernel
theorem dX4_fill_16 : decode cX4_fill 16 = .ok (.bipush 122, 2) := by decide +kernel
theorem dX4_fill_18 : decode cX4_fill 18 = .ok (.iload 5, 2) := by decide +kernel
theorem dX4_fill_20 : decode cX4_fill 20 = .ok (.isub, 1) := by decide +kernel
theorem dX4_fill_21 : decode cX4_fill 21 = .ok (.imul, 1) := by decide +kernel
theorem dX4_fill_22 : decode cX4_fill 22 = .ok (.iconst 2, 1) := by decide +kernel
theorem dX4_fill_23 : decode cX4_fill 23 = .ok (.idiv, 1) := by decide +kernel
theorem dX4_fill_24 : decode cX4_fill 24 = .ok (.iload 5, 2) := by decide +kernel
theorem dX4_fill_26 : decode cX4_fill 26 = .ok (.isub, 1) := by decide +kernel
theorem dX4_fill_27 : decode cX4_fill 27 = .ok (.istore 6, 2) := by decide +kernel
theorem dX4_fill_29 : decode cX4_fill 29 = .ok (.iload_n 3, 1) := by decide +kernel
theorem dX4_fill_30 : decode cX4_fill 30 = .ok (.aload_n 1, 1) := by decide +kernel
theorem fl_RX4_58 : Cond.fieldLink RX4 58 "TwoSlips$Talk" "most" "I" ∈ gw := gw_mem (by decide +kernel) (by decide +kernel)
theorem dX4_fill_31 : decode cX4_fill 31 = .ok (.getfield 58, 3) := by decide +kernel
theorem dX4_fill_34 : decode cX4_fill 34 = .ok (.iload 5, 2) := by decide +kernel
theorem dX4_fill_36 : decode cX4_fill 36 = .ok (.isub, 1) := by decide +kernel
theorem ml_RX4_61 : Cond.methodLink RX4 61 Lib.Math.min.name ∈ gw := gw_mem (by decide +kernel) (by decide +kernel)
theorem dX4_fill_37 : decode cX4_fill 37 = .ok (.invokestatic 61, 3) := by decide +kernel
theorem dX4_fill_40 : decode cX4_fill 40 = .ok (.istore 7, 2) := by decide +kernel
theorem dX4_fill_42 : decode cX4_fill 42 = .ok (.aload_n 1, 1) := by decide +kernel
theorem dX4_fill_43 : decode cX4_fill 43 = .ok (.iload 5, 2) := by decide +kernel
theorem dX4_fill_45 : decode cX4_fill 45 = .ok (.invokevirtual 67, 3) := by decide +kernel
theorem dX9_lowestPartner_0 : decode cX9_lowestPartner 0 = .ok (.aload_n 0, 1) := by decide +kernel
theorem dX9_lowestPartner_1 : decode cX9_lowestPartner 1 = .ok (.getfield 46, 3) := by decide +kernel
theorem dX9_lowestPartner_4 : decode cX9_lowestPartner 4 = .ok (.ifCond .eq 9, 3) := by decide +kernel
theorem dX9_lowestPartner_13 : decode cX9_lowestPartner 13 = .ok (.iload_n 1, 1) := by decide +kernel
theorem dX9_lowestPartner_14 : decode cX9_lowestPartner 14 = .ok (.ireturn, 1) := by decide +kernel
set_option maxRecDepth 100000 in
set_option maxHeartbeats 4000000 in
theorem c_X9_lowestPartner_0 (l : Launch) (D : va_G) (cy : Nat → ClassId) (a0 a1 a2 a3 a4 a5 a6 a7 : Nat) (x0 : Int32) : Ct l D cy yX9_lowestPartner cX9_lowestPartner 2 (some .int) 0 0 0 0 [(a0, .inr (9, [.int 0, .int 2, .int 20, .int 120, .int 0, .int 0, .int 0, .int 0, .ref a1, .int 0, .ref a2, .ref a3, .int 0, .ref a4, .ref a5, .ref a6, .ref a7]))] [.ref a0, .int x0] (fun u : Unit => some (.int x0)) (fun _ => True) (fun u : Unit => [(a0, .inr (9, [.int 0, .int 2, .int 20, .int 120, .int 0, .int 0, .int 0, .int 0, .ref a1, .int 0, .ref a2, .ref a3, .int 0, .ref a4, .ref a5, .ref a6, .ref a7]))]) := by
  refine Ct.of (by decide +kernel) (Nat.le_of_ble_eq_true rfl) ?_
  intro p e s m args below meth c A ls C hr hlocks hml hnm w hl
  have hl : lv_has ls 2 [(0, .ref a0), (1, .int x0)] := hl
  refine lv_aload_n C.1 C.2.1 dX9_lowestPartner_0 rfl (lv_at hl 0 rfl) ?_
  refine r_get C w 0 rfl rfl 4 (by decide) fl_RX9_46 (v := .int 0) rfl dX9_lowestPartner_1 ?_
  refine b_if_eq_t C (tgt := 13) dX9_lowestPartner_4 (by decide) (by decide) ?_
  refine lv_iload_n C.1 C.2.1 dX9_lowestPartner_13 rfl (lv_at hl 1 rfl) ?_
  exact r_iret C w hlocks () hr rfl rfl trivial [0] rfl rfl ⟨Nat.le_of_ble_eq_true rfl, Nat.le_of_ble_eq_true rfl⟩ dX9_lowestPartner_14
theorem fv_RX4_67 : FV RX4 67 yX9_lowestPartner cX9_lowestPartner 2 (some .int) 1 := ⟨⟨gw_mem (by decide +kernel) (by decide +kernel), gw_mem (by decide +kernel) (by decide +kernel), gw_mem (by decide +kernel) (by decide +kernel), gw_mem (by decide +kernel) (by decide +kernel), gw_mem (by decide +kernel) (by decide +kernel)⟩, ⟨by decide +kernel, by decide +kernel, by decide +kernel⟩⟩
theorem dX4_fill_48 : decode cX4_fill 48 = .ok (.istore 8, 2) := by decide +kernel
theorem dX4_fill_82 : decode cX4_fill 82 = .ok (.iinc 5 1, 3) := by decide +kernel
theorem dX4_fill_85 : decode cX4_fill 85 = .ok (.goto (-79), 3) := by decide +kernel
set_option maxRecDepth 100000 in
set_option maxHeartbeats 4000000 in
theorem lp_X4_fill_1 {p : Program} {l : Launch} {e : Env} {R : Room} {s : State} {m : MethodId} {args : Array Value} {below : List Frame} {meth : Method} {c : Code} {cells slots : Nat} {Q : State → Prop} {D : va_G} {cy : Nat → ClassId} {A : Nat → Prop} {H : Heap} {locs : List Loc} {ls : Array Slot} (a0 a1 a2 a3 a4 a5 a6 a7 a8 : Nat) (f : Nat → Int32) (a b : Nat) (x2 x3 : Int32) (hab : 1 ≤ a ∧ a ≤ b ∧ b ≤ 60) (e2 : x2 = nI a) (e3 : x3 = nI b) (C : Cx p s m args c cX4_fill RX4 D cy A) (hml : c.maxLocals = 9) (hfr : 1 ≤ R.frames) (hlo : 30 ≤ R.locals) (hcs : cells ≤ R.cells ∧ slots ≤ R.slots) (w : Wd D A s.heap [(a0, .inl (cy 1, 1830, .inl (f))), (a1, .inr (9, [.int 0, .int 2, .int 20, .int 120, .int 0, .int 0, .int 0, .int 0, .ref a2, .int 0, .ref a3, .ref a4, .int 0, .ref a5, .ref a6, .ref a7, .ref a8]))] H locs) (hl : lv_has ls 9 [(0, .ref a0), (1, .ref a1), (3, .int x3), (4, .int 0), (5, .int x2)])
    (kk : ∀ (H : Heap) (locs : List Loc) (ls : Array Slot) (mn : Int32), mn = nI (PP b a (b + 1 - a)) → Wd D A s.heap [(a0, .inl (cy 1, 1830, .inl (fillF f a b (PP b a (b + 1 - a))))), (a1, .inr (9, [.int 0, .int 2, .int 20, .int 120, .int 0, .int 0, .int 0, .int 0, .ref a2, .int 0, .ref a3, .ref a4, .int 0, .ref a5, .ref a6, .ref a7, .ref a8]))] H locs → lv_has ls 9 [(0, .ref a0), (1, .ref a1), (4, .int mn)] → W p l e R s m args below meth c H locs cells slots Q (F0 m 88 ls [])) : W p l e R s m args below meth c H locs cells slots Q (F0 m 6 ls []) := by
  obtain ⟨ha1, hab1, hb60⟩ := hab
  have inner : ∀ (k xn yn : Nat) (x y mn : Int32) (H : Heap) (locs : List Loc) (ls : Array Slot), a ≤ xn → xn ≤ b → xn ≤ yn → yn + k = b + 1 → x = nI xn → y = nI yn → mn = nI (PP b a (xn - a) + (yn - xn)) → Wd D A s.heap [(a0, .inl (cy 1, 1830, .inl (fillF f a b (PP b a (xn - a) + (yn - xn))))), (a1, .inr (9, [.int 0, .int 2, .int 20, .int 120, .int 0, .int 0, .int 0, .int 0, .ref a2, .int 0, .ref a3, .ref a4, .int 0, .ref a5, .ref a6, .ref a7, .ref a8]))] H locs → lv_has ls 9 [(0, .ref a0), (1, .ref a1), (3, .int x3), (4, .int mn), (5, .int x), (6, .int ((((x - 1) * (122 - x)) / 2) - x)), (7, .int x3), (8, .int y)] →
      (∀ (H : Heap) (locs : List Loc) (ls : Array Slot) (mn1 y1 : Int32), mn1 = nI (PP b a (xn + 1 - a)) → Wd D A s.heap [(a0, .inl (cy 1, 1830, .inl (fillF f a b (PP b a (xn + 1 - a))))), (a1, .inr (9, [.int 0, .int 2, .int 20, .int 120, .int 0, .int 0, .int 0, .int 0, .ref a2, .int 0, .ref a3, .ref a4, .int 0, .ref a5, .ref a6, .ref a7, .ref a8]))] H locs → lv_has ls 9 [(0, .ref a0), (1, .ref a1), (3, .int x3), (4, .int mn1), (5, .int x), (8, .int y1)] → W p l e R s m args below meth c H locs cells slots Q (F0 m 82 ls [])) → W p l e R s m args below meth c H locs cells slots Q (F0 m 50 ls []) := by
    intro k
    induction k with
    | zero =>
      intro xn yn x y mn H locs ls h1 h2 h3 h4 ex ey em w hl kk
      have hy : yn = b + 1 := by omega
      have c1 : x3 < y := by rw [e3, ey, hy]; exact nI_lt (by omega) (by omega)
      refine lv_iload C.1 C.2.1 dX4_fill_50 (lv_at hl 7 rfl) ?_
      refine lv_iload C.1 C.2.1 dX4_fill_52 (lv_at hl 6 rfl) ?_
      refine b_icmp_gt_t C (tgt := 82) dX4_fill_54 (by decide) c1 ?_
      have eN : PP b a (xn - a) + (yn - xn) = PP b a (xn + 1 - a) := by
        have := PP_succ b (xn - a) a
        have e1 : xn - a + 1 = xn + 1 - a := by omega
        have e2 : a + (xn - a) = xn := by omega
        rw [e1, e2] at this
        omega
      exact kk _ _ _ mn y (by rw [em, eN]) (by rw [← eN]; exact w) (lv_sub hl [0, 1, 2, 3, 4, 7] rfl)
    | succ k ih =>
      intro xn yn x y mn H locs ls h1 h2 h3 h4 ex ey em w hl kk
      have hb1 := PP_lt (b := b) h1 h3 (by omega)
      have hb2 := PP_le b hb60 a (by omega) ha1 hab1
      have hb : PP b a (xn - a) + (yn - xn) < 1830 := by omega
      have c1 : ¬ x3 < y := by rw [e3, ey]; exact nI_nlt (by omega) (by omega)
      have c2 : ¬ (1830 : Int32) ≤ mn := by rw [em]; exact nI_ge hb (by decide)
      have hin : vp_in mn 1830 := by rw [em]; exact vp_in_nI hb (by decide)
      have hst : upd (fillF f a b (PP b a (xn - a) + (yn - xn))) mn.toNatClampNeg (((((x - 1) * (122 - x)) / 2) - x) + y) = fillF f a b (PP b a (xn - a) + (yn - xn) + 1) := by
        rw [em]
        refine fillF_step (by omega) ?_
        rw [pxy_at h1 h3 (by omega), ex, ey]
        exact pix_val (by omega) h3 (by omega)
      refine lv_iload C.1 C.2.1 dX4_fill_50 (lv_at hl 7 rfl) ?_
      refine lv_iload C.1 C.2.1 dX4_fill_52 (lv_at hl 6 rfl) ?_
      refine b_icmp_gt_f C (tgt := 82) dX4_fill_54 (by decide) c1 ?_
      refine lv_iload C.1 C.2.1 dX4_fill_57 (lv_at hl 3 rfl) ?_
      refine lv_aload_n C.1 C.2.1 dX4_fill_59 rfl (lv_at hl 0 rfl) ?_
      refine r_alen C w 0 1 rfl rfl (v := 1830) rfl dX4_fill_60 ?_
      refine b_icmp_ge_f C (tgt := 82) dX4_fill_61 (by decide) c2 ?_
      refine lv_aload_n C.1 C.2.1 dX4_fill_64 rfl (lv_at hl 0 rfl) ?_
      refine lv_iload C.1 C.2.1 dX4_fill_65 (lv_at hl 3 rfl) ?_
      refine lv_iinc (v := (mn + 1)) (lv' := [(4, .int (mn + 1)), (0, .ref a0), (1, .ref a1), (3, .int x3), (5, .int x), (6, .int ((((x - 1) * (122 - x)) / 2) - x)), (7, .int x3), (8, .int y)]) C.1 C.2.1 dX4_fill_67 hl (k := 3) rfl rfl (by decide) rfl (fun ls hl => ?_)
      refine lv_iload C.1 C.2.1 dX4_fill_70 (lv_at hl 5 rfl) ?_
      refine lv_iload C.1 C.2.1 dX4_fill_72 (lv_at hl 7 rfl) ?_
      refine r_iadd C (v := (((((x - 1) * (122 - x)) / 2) - x) + y)) dX4_fill_74 rfl ?_
      refine r_iast C w 0 rfl hin (fillF f a b (PP b a (xn - a) + (yn - xn) + 1)) hst [(a0, .inl (cy 1, 1830, .inl (fillF f a b (PP b a (xn - a) + (yn - xn) + 1)))), (a1, .inr (9, [.int 0, .int 2, .int 20, .int 120, .int 0, .int 0, .int 0, .int 0, .ref a2, .int 0, .ref a3, .ref a4, .int 0, .ref a5, .ref a6, .ref a7, .ref a8]))] rfl dX4_fill_75 (fun H locs w => ?_)
      refine lv_iinc (v := (y + 1)) (lv' := [(8, .int (y + 1)), (4, .int (mn + 1)), (0, .ref a0), (1, .ref a1), (3, .int x3), (5, .int x), (6, .int ((((x - 1) * (122 - x)) / 2) - x)), (7, .int x3)]) C.1 C.2.1 dX4_fill_76 hl (k := 7) rfl rfl (by decide) rfl (fun ls hl => ?_)
      refine lv_goto (tgt := 50) C.1 C.2.1 dX4_fill_79 (by decide) ?_
      have eN : PP b a (xn - a) + (yn + 1 - xn) = PP b a (xn - a) + (yn - xn) + 1 := by omega
      exact ih xn (yn + 1) x (y + 1) (mn + 1) _ _ _ h1 h2 (by omega) (by omega) ex (by rw [ey]; exact nI_1 _) (by rw [em, eN]; exact nI_1 _) (by rw [eN]; exact w) (lv_sub hl [2, 3, 4, 1, 5, 6, 7, 0] rfl) kk
  have outer : ∀ (k xn : Nat) (x mn : Int32) (H : Heap) (locs : List Loc) (ls : Array Slot), a ≤ xn → xn + k = b + 1 → x = nI xn → mn = nI (PP b a (xn - a)) → Wd D A s.heap [(a0, .inl (cy 1, 1830, .inl (fillF f a b (PP b a (xn - a))))), (a1, .inr (9, [.int 0, .int 2, .int 20, .int 120, .int 0, .int 0, .int 0, .int 0, .ref a2, .int 0, .ref a3, .ref a4, .int 0, .ref a5, .ref a6, .ref a7, .ref a8]))] H locs → lv_has ls 9 [(0, .ref a0), (1, .ref a1), (3, .int x3), (4, .int mn), (5, .int x)] → W p l e R s m args below meth c H locs cells slots Q (F0 m 6 ls []) := by
    intro k
    induction k with
    | zero =>
      intro xn x mn H locs ls h1 h4 ex em w hl
      have hx : xn = b + 1 := by omega
      subst hx
      have c1 : x3 < x := by rw [e3, ex]; exact nI_lt (by omega) (by omega)
      refine lv_iload C.1 C.2.1 dX4_fill_6 (lv_at hl 4 rfl) ?_
      refine lv_iload_n C.1 C.2.1 dX4_fill_8 rfl (lv_at hl 2 rfl) ?_
      refine b_icmp_gt_t C (tgt := 88) dX4_fill_9 (by decide) c1 ?_
      exact kk _ _ _ mn em w (lv_sub hl [0, 1, 3] rfl)
    | succ k ih =>
      intro xn x mn H locs ls h1 h4 ex em w hl
      have c1 : ¬ x3 < x := by rw [e3, ex]; exact nI_nlt (by omega) (by omega)
      have hmin : (if (120 : Int32) - x < x3 then (120 : Int32) - x else x3) = x3 := by
        refine if_neg ?_
        rw [ex, e3, show (120 : Int32) = nI 120 from rfl, pk_sub (by omega)]
        exact nI_nlt (by omega) (by omega)
      refine lv_iload C.1 C.2.1 dX4_fill_6 (lv_at hl 4 rfl) ?_
      refine lv_iload_n C.1 C.2.1 dX4_fill_8 rfl (lv_at hl 2 rfl) ?_
      refine b_icmp_gt_f C (tgt := 88) dX4_fill_9 (by decide) c1 ?_
      refine lv_iload C.1 C.2.1 dX4_fill_12 (lv_at hl 4 rfl) ?_
      refine lv_iconst (v := 1) C.1 C.2.1 dX4_fill_14 (by decide) ?_
      refine r_isub C (v := (x - 1)) dX4_fill_15 rfl ?_
      refine lv_bipush (v := 122) C.1 C.2.1 dX4_fill_16 (by decide) ?_
      refine lv_iload C.1 C.2.1 dX4_fill_18 (lv_at hl 4 rfl) ?_
      refine r_isub C (v := (122 - x)) dX4_fill_20 rfl ?_
      refine r_imul C (v := ((x - 1) * (122 - x))) dX4_fill_21 rfl ?_
      refine lv_iconst (v := 2) C.1 C.2.1 dX4_fill_22 (by decide) ?_
      refine r_idiv C (v := (((x - 1) * (122 - x)) / 2)) dX4_fill_23 (by decide) rfl ?_
      refine lv_iload C.1 C.2.1 dX4_fill_24 (lv_at hl 4 rfl) ?_
      refine r_isub C (v := ((((x - 1) * (122 - x)) / 2) - x)) dX4_fill_26 rfl ?_
      refine lv_istore (lv' := [(6, .int ((((x - 1) * (122 - x)) / 2) - x)), (0, .ref a0), (1, .ref a1), (3, .int x3), (4, .int mn), (5, .int x)]) C.1 C.2.1 dX4_fill_27 hl (by decide) rfl (fun ls hl => ?_)
      refine lv_iload_n C.1 C.2.1 dX4_fill_29 rfl (lv_at hl 3 rfl) ?_
      refine lv_aload_n C.1 C.2.1 dX4_fill_30 rfl (lv_at hl 2 rfl) ?_
      refine r_get C w 1 rfl rfl 3 (by decide) fl_RX4_58 (v := .int 120) rfl dX4_fill_31 ?_
      refine lv_iload C.1 C.2.1 dX4_fill_34 (lv_at hl 5 rfl) ?_
      refine r_isub C (v := (120 - x)) dX4_fill_36 rfl ?_
      refine r_mmin C (hl.1.trans hml.symm) ml_RX4_61 st_min it_math cd_min (v := x3) hmin ⟨by omega, by (simp [Value.category]; omega), hcs.1, hcs.2⟩ dX4_fill_37 ?_
      refine lv_istore (lv' := [(7, .int x3), (6, .int ((((x - 1) * (122 - x)) / 2) - x)), (0, .ref a0), (1, .ref a1), (3, .int x3), (4, .int mn), (5, .int x)]) C.1 C.2.1 dX4_fill_40 hl (by decide) rfl (fun ls hl => ?_)
      refine lv_aload_n C.1 C.2.1 dX4_fill_42 rfl (lv_at hl 3 rfl) ?_
      refine lv_iload C.1 C.2.1 dX4_fill_43 (lv_at hl 6 rfl) ?_
      refine r_callV C w fv_RX4_67 (c_X9_lowestPartner_0 l D cy a1 a2 a3 a4 a5 a6 a7 a8 x) (hl.1.trans hml.symm) [1] [0] (wr := [(a0, .inl (cy 1, 1830, .inl (fillF f a b (PP b a (xn - a)))))]) ⟨rfl, rfl, rfl, rfl, by decide⟩ 0 rfl rfl rfl rfl rfl ⟨by omega, by omega, Nat.le_of_ble_eq_true rfl⟩ cells slots ⟨rfl, rfl, hcs.1, hcs.2⟩ dX4_fill_45 (fun u H locs hp w => ?_)
      have w : Wd D A s.heap [(a0, .inl (cy 1, 1830, .inl (fillF f a b (PP b a (xn - a))))), (a1, .inr (9, [.int 0, .int 2, .int 20, .int 120, .int 0, .int 0, .int 0, .int 0, .ref a2, .int 0, .ref a3, .ref a4, .int 0, .ref a5, .ref a6, .ref a7, .ref a8]))] _ _ := w
      refine r_top (g2 := F0 m 48 ls [.int x]) rfl ?_
      refine lv_istore (lv' := [(8, .int x), (7, .int x3), (6, .int ((((x - 1) * (122 - x)) / 2) - x)), (0, .ref a0), (1, .ref a1), (3, .int x3), (4, .int mn), (5, .int x)]) C.1 C.2.1 dX4_fill_48 hl (by decide) rfl (fun ls hl => ?_)
      have eN : PP b a (xn - a) + (xn - xn) = PP b a (xn - a) := by omega
      refine inner (b + 1 - xn) xn xn x x mn _ _ _ h1 (by omega) (Nat.le_refl _) (by omega) ex ex (by rw [em, eN]) (by rw [eN]; exact w) (lv_sub hl [3, 4, 5, 6, 7, 2, 1, 0] rfl) (fun H locs ls mn1 y1 em1 w hl => ?_)
      refine lv_iinc (v := (x + 1)) (lv' := [(5, .int (x + 1)), (0, .ref a0), (1, .ref a1), (3, .int x3), (4, .int mn1), (8, .int y1)]) C.1 C.2.1 dX4_fill_82 hl (k := 4) rfl rfl (by decide) rfl (fun ls hl => ?_)
      refine lv_goto (tgt := 6) C.1 C.2.1 dX4_fill_85 (by decide) ?_
      exact ih (xn + 1) (x + 1) mn1 _ _ _ (by omega) (by omega) (by rw [ex]; exact nI_1 _) em1 w (lv_sub hl [1, 2, 3, 4, 0] rfl)
  refine outer (b + 1 - a) a x2 0 _ _ _ (Nat.le_refl _) (by omega) e2 (by rw [Nat.sub_self]; rfl) ?_ hl
  have e0 : fillF f a b (PP b a (a - a)) = f := by rw [Nat.sub_self]; exact fillF_0 f a b
  rw [e0]
  exact w
theorem dX4_fill_90 : decode cX4_fill 90 = .ok (.ireturn, 1) := by decide +kernel
set_option maxRecDepth 100000 in
set_option maxHeartbeats 4000000 in
theorem c_X4_fill_0 (l : Launch) (D : va_G) (cy : Nat → ClassId) (a0 a1 a2 a3 a4 a5 a6 a7 a8 : Nat) : Ct l D cy yX4_fill cX4_fill 9 (some .int) 1 30 0 0 [(a0, .inl (cy 1, 1830, .inl (fun _ => 0))), (a1, .inr (9, [.int 0, .int 2, .int 20, .int 120, .int 0, .int 0, .int 0, .int 0, .ref a2, .int 0, .ref a3, .ref a4, .int 0, .ref a5, .ref a6, .ref a7, .ref a8]))] [.ref a0, .ref a1, .int 2, .int 20] (fun u : Unit => some (.int 190)) (fun _ => True) (fun u : Unit => [(a0, .inl (cy 1, 1830, .inl (fillF (fun _ => 0) 2 20 (PP 20 2 (20 + 1 - 2))))), (a1, .inr (9, [.int 0, .int 2, .int 20, .int 120, .int 0, .int 0, .int 0, .int 0, .ref a2, .int 0, .ref a3, .ref a4, .int 0, .ref a5, .ref a6, .ref a7, .ref a8]))]) := by
  refine Ct.of (by decide +kernel) (Nat.le_of_ble_eq_true rfl) ?_
  intro p e s m args below meth c A ls C hr hlocks hml hnm w hl
  have hl : lv_has ls 9 [(0, .ref a0), (1, .ref a1), (2, .int 2), (3, .int 20)] := hl
  refine lv_iconst (v := 0) C.1 C.2.1 dX4_fill_0 (by decide) ?_
  refine lv_istore (lv' := [(4, .int 0), (0, .ref a0), (1, .ref a1), (2, .int 2), (3, .int 20)]) C.1 C.2.1 dX4_fill_1 hl (by decide) rfl (fun ls hl => ?_)
  refine lv_iload_n C.1 C.2.1 dX4_fill_3 rfl (lv_at hl 3 rfl) ?_
  refine lv_istore (lv' := [(5, .int 2), (4, .int 0), (0, .ref a0), (1, .ref a1), (2, .int 2), (3, .int 20)]) C.1 C.2.1 dX4_fill_4 hl (by decide) rfl (fun ls hl => ?_)
  refine lp_X4_fill_1 a0 a1 a2 a3 a4 a5 a6 a7 a8 (fun _ => 0) 2 20 2 20 (by decide) rfl rfl C hml (Nat.le_of_ble_eq_true rfl) (Nat.le_of_ble_eq_true rfl) ⟨Nat.le_of_ble_eq_true rfl, Nat.le_of_ble_eq_true rfl⟩ (w.re rfl) (lv_sub hl [2, 3, 5, 1, 0] rfl) (fun H locs ls mn em w hl => ?_)
  have em : mn = 190 := by rw [em]; decide +kernel
  subst em
  have w : Wd D A s.heap [(a0, .inl (cy 1, 1830, .inl (fillF (fun _ => 0) 2 20 (PP 20 2 (20 + 1 - 2))))), (a1, .inr (9, [.int 0, .int 2, .int 20, .int 120, .int 0, .int 0, .int 0, .int 0, .ref a2, .int 0, .ref a3, .ref a4, .int 0, .ref a5, .ref a6, .ref a7, .ref a8]))] _ _ := w
  have hl : lv_has ls 9 [(0, .ref a0), (1, .ref a1), (4, .int 190)] := hl
  refine lv_iload C.1 C.2.1 dX4_fill_88 (lv_at hl 2 rfl) ?_
  exact r_iret C w hlocks () hr rfl rfl trivial [0, 1] rfl rfl ⟨Nat.le_of_ble_eq_true rfl, Nat.le_of_ble_eq_true rfl⟩ dX4_fill_90
theorem fs_RX6_95 : FS RX6 95 yX4_fill cX4_fill 9 (some .int) 4 := ⟨⟨gw_mem (by decide +kernel) (by decide +kernel), gw_mem (by decide +kernel) (by decide +kernel), gw_mem (by decide +kernel) (by decide +kernel), gw_mem (by decide +kernel) (by decide +kernel)⟩, ⟨by decide +kernel, by decide +kernel, by decide +kernel⟩⟩
theorem dX6_take_56 : decode cX6_take 56 = .ok (.putfield 99, 3) := by decide +kernel
theorem fl_RX6_99 : Cond.fieldLink RX6 99 "TwoSlips$Scene" "many" "I" ∈ gw := gw_mem (by decide +kernel) (by decide +kernel)
theorem dX6_take_59 : decode cX6_take 59 = .ok (.aload_n 0, 1) := by decide +kernel
theorem dX6_take_60 : decode cX6_take 60 = .ok (.getfield 20, 3) := by decide +kernel
theorem dX6_take_63 : decode cX6_take 63 = .ok (.aload_n 0, 1) := by decide +kernel
theorem dX6_take_64 : decode cX6_take 64 = .ok (.getfield 24, 3) := by decide +kernel
theorem dX6_take_67 : decode cX6_take 67 = .ok (.invokevirtual 102, 3) := by decide +kernel
theorem dX4_learnFor_0 : decode cX4_learnFor 0 = .ok (.aload_n 0, 1) := by decide +kernel
theorem dX4_learnFor_1 : decode cX4_learnFor 1 = .ok (.iconst 0, 1) := by decide +kernel
theorem dX4_learnFor_2 : decode cX4_learnFor 2 = .ok (.invokevirtual 41, 3) := by decide +kernel
theorem dX4_learn_0 : decode cX4_learn 0 = .ok (.aload_n 0, 1) := by decide +kernel
theorem dX4_learn_1 : decode cX4_learn 1 = .ok (.getfield 13, 3) := by decide +kernel
theorem dX4_learn_4 : decode cX4_learn 4 = .ok (.iload_n 1, 1) := by decide +kernel
theorem dX4_learn_5 : decode cX4_learn 5 = .ok (.aaload, 1) := by decide +kernel
theorem dX4_learn_6 : decode cX4_learn 6 = .ok (.arraylength, 1) := by decide +kernel
theorem dX4_learn_7 : decode cX4_learn 7 = .ok (.sipush 1830, 3) := by decide +kernel
theorem dX4_learn_10 : decode cX4_learn 10 = .ok (.if_icmp .ne 4, 3) := by decide +kernel
theorem dX4_learn_14 : decode cX4_learn 14 = .ok (.sipush 1830, 3) := by decide +kernel
theorem dX4_learn_17 : decode cX4_learn 17 = .ok (.newarray .int, 2) := by decide +kernel
theorem dX4_learn_19 : decode cX4_learn 19 = .ok (.astore_n 2, 1) := by decide +kernel
theorem dX4_learn_20 : decode cX4_learn 20 = .ok (.aload_n 0, 1) := by decide +kernel
theorem dX4_learn_21 : decode cX4_learn 21 = .ok (.getfield 13, 3) := by decide +kernel
theorem dX4_learn_24 : decode cX4_learn 24 = .ok (.iload_n 1, 1) := by decide +kernel
theorem dX4_learn_25 : decode cX4_learn 25 = .ok (.aload_n 2, 1) := by decide +kernel
theorem dX4_learn_26 : decode cX4_learn 26 = .ok (.aastore, 1) := by decide +kernel
theorem dX4_learn_27 : decode cX4_learn 27 = .ok (.iconst 0, 1) := by decide +kernel
theorem dX4_learn_28 : decode cX4_learn 28 = .ok (.istore_n 3, 1) := by decide +kernel
theorem dX4_learn_29 : decode cX4_learn 29 = .ok (.iconst 1, 1) := by decide +kernel
theorem dX4_learn_30 : decode cX4_learn 30 = .ok (.istore 4, 2) := by decide +kernel
theorem dX4_learn_43 : decode cX4_learn 43 = .ok (.iload 5, 2) := by decide +kernel
theorem dX4_learn_45 : decode cX4_learn 45 = .ok (.bipush 60, 2) := by decide +kernel
theorem dX4_learn_47 : decode cX4_learn 47 = .ok (.if_icmp .gt 30, 3) := by decide +kernel
theorem dX4_learn_50 : decode cX4_learn 50 = .ok (.iload_n 3, 1) := by decide +kernel
theorem dX4_learn_51 : decode cX4_learn 51 = .ok (.sipush 1830, 3) := by decide +kernel
theorem dX4_learn_54 : decode cX4_learn 54 = .ok (.if_icmp .ge 23, 3) := by decide +kernel
theorem dX4_learn_57 : decode cX4_learn 57 = .ok (.aload_n 2, 1) := by decide +kernel
theorem dX4_learn_58 : decode cX4_learn 58 = .ok (.iload_n 3, 1) := by decide +kernel
theorem dX4_learn_59 : decode cX4_learn 59 = .ok (.iinc 3 1, 3) := by decide +kernel
theorem dX4_learn_62 : decode cX4_learn 62 = .ok (.iload_n 1, 1) := by decide +kernel
theorem dX4_learn_63 : decode cX4_learn 63 = .ok (.iload 4, 2) := by decide +kernel
theorem dX4_learn_65 : decode cX4_learn 65 = .ok (.iload 5, 2) := by decide +kernel
theorem dX4_learn_67 : decode cX4_learn 67 = .ok (.invokestatic 54, 3) := by decide +kernel
theorem dX4_slipOf_0 : decode cX4_slipOf 0 = .ok (.iload_n 0, 1) := by decide +kernel
theorem dX4_slipOf_1 : decode cX4_slipOf 1 = .ok (.tableswitch 84 0 7 #[47, 51, 55, 57, 59, 63, 71, 77], 47) := by decide +kernel
theorem dX4_slipOf_48 : decode cX4_slipOf 48 = .ok (.iload_n 1, 1) := by decide +kernel
theorem dX4_slipOf_49 : decode cX4_slipOf 49 = .ok (.iload_n 2, 1) := by decide +kernel
theorem dX4_slipOf_50 : decode cX4_slipOf 50 = .ok (.iadd, 1) := by decide +kernel
theorem dX4_slipOf_51 : decode cX4_slipOf 51 = .ok (.ireturn, 1) := by decide +kernel
set_option maxRecDepth 100000 in
set_option maxHeartbeats 4000000 in
theorem c_X4_slipOf_0 (l : Launch) (D : va_G) (cy : Nat → ClassId) (x0 : Int32) (x1 : Int32) : Ct l D cy yX4_slipOf cX4_slipOf 3 (some .int) 0 0 0 0 [] [.int 0, .int x0, .int x1] (fun u : Unit => some (.int (x0 + x1))) (fun _ => True) (fun u : Unit => []) := by
  refine Ct.of (by decide +kernel) (Nat.le_of_ble_eq_true rfl) ?_
  intro p e s m args below meth c A ls C hr hlocks hml hnm w hl
  have hl : lv_has ls 3 [(0, .int 0), (1, .int x0), (2, .int x1)] := hl
  refine lv_iload_n C.1 C.2.1 dX4_slipOf_0 rfl (lv_at hl 0 rfl) ?_
  refine lv_tableIn (tgt := 48) (off := 47) C.1 C.2.1 dX4_slipOf_1 (by decide) (by decide) (by decide) (by decide) ?_
  refine lv_iload_n C.1 C.2.1 dX4_slipOf_48 rfl (lv_at hl 1 rfl) ?_
  refine lv_iload_n C.1 C.2.1 dX4_slipOf_49 rfl (lv_at hl 2 rfl) ?_
  refine r_iadd C (v := (x0 + x1)) dX4_slipOf_50 rfl ?_
  exact r_iret C w hlocks () hr rfl rfl trivial [] rfl rfl ⟨Nat.le_of_ble_eq_true rfl, Nat.le_of_ble_eq_true rfl⟩ dX4_slipOf_51
theorem fs_RX4_54 : FS RX4 54 yX4_slipOf cX4_slipOf 3 (some .int) 3 := ⟨⟨gw_mem (by decide +kernel) (by decide +kernel), gw_mem (by decide +kernel) (by decide +kernel), gw_mem (by decide +kernel) (by decide +kernel), gw_mem (by decide +kernel) (by decide +kernel)⟩, ⟨by decide +kernel, by decide +kernel, by decide +kernel⟩⟩
theorem dX4_learn_70 : decode cX4_learn 70 = .ok (.iastore, 1) := by decide +kernel
theorem dX4_learn_71 : decode cX4_learn 71 = .ok (.iinc 5 1, 3) := by decide +kernel
theorem dX4_learn_74 : decode cX4_learn 74 = .ok (.goto (-31), 3) := by decide +kernel
theorem dX4_learn_32 : decode cX4_learn 32 = .ok (.iload 4, 2) := by decide +kernel
theorem dX4_learn_34 : decode cX4_learn 34 = .ok (.bipush 60, 2) := by decide +kernel
theorem dX4_learn_36 : decode cX4_learn 36 = .ok (.if_icmp .gt 47, 3) := by decide +kernel
theorem dX4_learn_39 : decode cX4_learn 39 = .ok (.iload 4, 2) := by decide +kernel
theorem dX4_learn_41 : decode cX4_learn 41 = .ok (.istore 5, 2) := by decide +kernel
theorem dX4_learn_77 : decode cX4_learn 77 = .ok (.iinc 4 1, 3) := by decide +kernel
theorem dX4_learn_80 : decode cX4_learn 80 = .ok (.goto (-48), 3) := by decide +kernel
set_option maxRecDepth 100000 in
set_option maxHeartbeats 4000000 in
theorem lp_X4_learn_1 {p : Program} {l : Launch} {e : Env} {R : Room} {s : State} {m : MethodId} {args : Array Value} {below : List Frame} {meth : Method} {c : Code} {cells slots : Nat} {Q : State → Prop} {D : va_G} {cy : Nat → ClassId} {A : Nat → Prop} {H : Heap} {locs : List Loc} {ls : Array Slot} (a0 a1 a2 a3 a4 a5 a6 a7 a8 a9 a10 a11 a12 n1 : Nat) (C : Cx p s m args c cX4_learn RX4 D cy A) (hml : c.maxLocals = 6) (hfr : 1 ≤ R.frames) (hlo : 30 ≤ R.locals) (hcs : cells ≤ R.cells ∧ slots ≤ R.slots) (w : Wd D A s.heap [(a0, .inr (4, [.ref a1, .ref a2, .int 0, .ref a3])), (a1, .inl (cy 5, 9, .inr (.inr (.inr (.inr (va_up (va_up (va_up (va_up (va_up (va_up (va_up (va_up (va_up (va_up (fun _ => none) 0 (some a4)) 1 (some a5)) 2 (some a6)) 3 (some a7)) 4 (some a8)) 5 (some a9)) 6 (some a10)) 7 (some a11)) 8 (some a12)) 0 (some n1))))))), (a4, .inl (cy 1, 0, .inl (fun _ => 0))), (n1, .inl (cy 1, 1830, .inl (fun _ => 0)))] H locs) (hl : lv_has ls 6 [(0, .ref a0), (1, .int 0), (2, .ref n1), (3, .int 0), (4, .int 1)])
    (kk : ∀ (H : Heap) (locs : List Loc) (ls : Array Slot), Wd D A s.heap [(a0, .inr (4, [.ref a1, .ref a2, .int 0, .ref a3])), (a1, .inl (cy 5, 9, .inr (.inr (.inr (.inr (va_up (va_up (va_up (va_up (va_up (va_up (va_up (va_up (va_up (va_up (fun _ => none) 0 (some a4)) 1 (some a5)) 2 (some a6)) 3 (some a7)) 4 (some a8)) 5 (some a9)) 6 (some a10)) 7 (some a11)) 8 (some a12)) 0 (some n1))))))), (a4, .inl (cy 1, 0, .inl (fun _ => 0))), (n1, .inl (cy 1, 1830, .inl (learnF 0 1830)))] H locs → lv_has ls 6 [(0, .ref a0), (1, .int 0), (2, .ref n1)] → W p l e R s m args below meth c H locs cells slots Q (F0 m 83 ls [])) : W p l e R s m args below meth c H locs cells slots Q (F0 m 32 ls []) := by
  have inner : ∀ (k xn yn : Nat) (x y pr : Int32) (H : Heap) (locs : List Loc) (ls : Array Slot), 1 ≤ xn → xn ≤ 60 → xn ≤ yn → yn + k = 61 → x = nI xn → y = nI yn → pr = nI (PP 60 1 (xn - 1) + (yn - xn)) → Wd D A s.heap [(a0, .inr (4, [.ref a1, .ref a2, .int 0, .ref a3])), (a1, .inl (cy 5, 9, .inr (.inr (.inr (.inr (va_up (va_up (va_up (va_up (va_up (va_up (va_up (va_up (va_up (va_up (fun _ => none) 0 (some a4)) 1 (some a5)) 2 (some a6)) 3 (some a7)) 4 (some a8)) 5 (some a9)) 6 (some a10)) 7 (some a11)) 8 (some a12)) 0 (some n1))))))), (a4, .inl (cy 1, 0, .inl (fun _ => 0))), (n1, .inl (cy 1, 1830, .inl (learnF 0 (PP 60 1 (xn - 1) + (yn - xn)))))] H locs → lv_has ls 6 [(0, .ref a0), (1, .int 0), (2, .ref n1), (3, .int pr), (4, .int x), (5, .int y)] →
      (∀ (H : Heap) (locs : List Loc) (ls : Array Slot) (pr1 y1 : Int32), pr1 = nI (PP 60 1 xn) → Wd D A s.heap [(a0, .inr (4, [.ref a1, .ref a2, .int 0, .ref a3])), (a1, .inl (cy 5, 9, .inr (.inr (.inr (.inr (va_up (va_up (va_up (va_up (va_up (va_up (va_up (va_up (va_up (va_up (fun _ => none) 0 (some a4)) 1 (some a5)) 2 (some a6)) 3 (some a7)) 4 (some a8)) 5 (some a9)) 6 (some a10)) 7 (some a11)) 8 (some a12)) 0 (some n1))))))), (a4, .inl (cy 1, 0, .inl (fun _ => 0))), (n1, .inl (cy 1, 1830, .inl (learnF 0 (PP 60 1 xn))))] H locs → lv_has ls 6 [(0, .ref a0), (1, .int 0), (2, .ref n1), (3, .int pr1), (4, .int x), (5, .int y1)] → W p l e R s m args below meth c H locs cells slots Q (F0 m 77 ls [])) → W p l e R s m args below meth c H locs cells slots Q (F0 m 43 ls []) := by
    intro k
    induction k with
    | zero =>
      intro xn yn x y pr H locs ls h1 h2 h3 h4 ex ey ep w hl kk
      have hy : yn = 61 := by omega
      have c1 : (60 : Int32) < y := by rw [ey, hy]; decide
      refine lv_iload C.1 C.2.1 dX4_learn_43 (lv_at hl 5 rfl) ?_
      refine lv_bipush (v := 60) C.1 C.2.1 dX4_learn_45 (by decide) ?_
      refine b_icmp_gt_t C (tgt := 77) dX4_learn_47 (by decide) c1 ?_
      have eN : PP 60 1 (xn - 1) + (yn - xn) = PP 60 1 xn := by
        have := PP_succ 60 (xn - 1) 1
        have e1 : xn - 1 + 1 = xn := by omega
        have e2 : 1 + (xn - 1) = xn := by omega
        rw [e1, e2] at this
        omega
      exact kk _ _ _ pr y (by rw [ep, eN]) (by rw [← eN]; exact w) hl
    | succ k ih =>
      intro xn yn x y pr H locs ls h1 h2 h3 h4 ex ey ep w hl kk
      have hb := PP_lt (a := 1) (b := 60) h1 h3 (by omega)
      rw [show 60 + 1 - 1 = 60 from rfl, PP_tot] at hb
      have c1 : ¬ (60 : Int32) < y := by rw [ey]; exact nI_nlt (a := 60) (by omega) (by omega)
      have c2 : ¬ (1830 : Int32) ≤ pr := by rw [ep]; exact nI_ge hb (by decide)
      have hin : vp_in pr 1830 := by rw [ep]; exact vp_in_nI hb (by decide)
      have hst : upd (learnF 0 (PP 60 1 (xn - 1) + (yn - xn))) pr.toNatClampNeg (x + y) = learnF 0 (PP 60 1 (xn - 1) + (yn - xn) + 1) := by
        rw [ep]
        refine learnF_step (by omega) ?_
        rw [pxy_at h1 h3 (by omega)]
        first | rw [ex, ey] | rw [ey] | rw [ex]
        exact nI_add _ _
      refine lv_iload C.1 C.2.1 dX4_learn_43 (lv_at hl 5 rfl) ?_
      refine lv_bipush (v := 60) C.1 C.2.1 dX4_learn_45 (by decide) ?_
      refine b_icmp_gt_f C (tgt := 77) dX4_learn_47 (by decide) c1 ?_
      refine lv_iload_n C.1 C.2.1 dX4_learn_50 rfl (lv_at hl 3 rfl) ?_
      refine lv_sipush (v := 1830) C.1 C.2.1 dX4_learn_51 (by decide) ?_
      refine b_icmp_ge_f C (tgt := 77) dX4_learn_54 (by decide) c2 ?_
      refine lv_aload_n C.1 C.2.1 dX4_learn_57 rfl (lv_at hl 2 rfl) ?_
      refine lv_iload_n C.1 C.2.1 dX4_learn_58 rfl (lv_at hl 3 rfl) ?_
      refine lv_iinc (v := (pr + 1)) (lv' := [(3, .int (pr + 1)), (0, .ref a0), (1, .int 0), (2, .ref n1), (4, .int x), (5, .int y)]) C.1 C.2.1 dX4_learn_59 hl (k := 3) rfl rfl (by decide) rfl (fun ls hl => ?_)
      refine lv_iload_n C.1 C.2.1 dX4_learn_62 rfl (lv_at hl 2 rfl) ?_
      refine lv_iload C.1 C.2.1 dX4_learn_63 (lv_at hl 4 rfl) ?_
      refine lv_iload C.1 C.2.1 dX4_learn_65 (lv_at hl 5 rfl) ?_
      refine r_callS C w fs_RX4_54 (c_X4_slipOf_0 l D cy x y) (hl.1.trans hml.symm) [] [0, 1, 2, 3] (wr := [(a0, .inr (4, [.ref a1, .ref a2, .int 0, .ref a3])), (a1, .inl (cy 5, 9, .inr (.inr (.inr (.inr (va_up (va_up (va_up (va_up (va_up (va_up (va_up (va_up (va_up (va_up (fun _ => none) 0 (some a4)) 1 (some a5)) 2 (some a6)) 3 (some a7)) 4 (some a8)) 5 (some a9)) 6 (some a10)) 7 (some a11)) 8 (some a12)) 0 (some n1))))))), (a4, .inl (cy 1, 0, .inl (fun _ => 0))), (n1, .inl (cy 1, 1830, .inl (learnF 0 (PP 60 1 (xn - 1) + (yn - xn)))))]) ⟨rfl, rfl, rfl, rfl, by decide⟩ rfl rfl ⟨by omega, by omega, Nat.le_of_ble_eq_true rfl⟩ cells slots ⟨rfl, rfl, hcs.1, hcs.2⟩ dX4_learn_67 (fun u H locs hp w => ?_)
      have w : Wd D A s.heap [(a0, .inr (4, [.ref a1, .ref a2, .int 0, .ref a3])), (a1, .inl (cy 5, 9, .inr (.inr (.inr (.inr (va_up (va_up (va_up (va_up (va_up (va_up (va_up (va_up (va_up (va_up (fun _ => none) 0 (some a4)) 1 (some a5)) 2 (some a6)) 3 (some a7)) 4 (some a8)) 5 (some a9)) 6 (some a10)) 7 (some a11)) 8 (some a12)) 0 (some n1))))))), (a4, .inl (cy 1, 0, .inl (fun _ => 0))), (n1, .inl (cy 1, 1830, .inl (learnF 0 (PP 60 1 (xn - 1) + (yn - xn)))))] _ _ := w
      refine r_top (g2 := F0 m 70 ls [.int (x + y), .int pr, .ref n1]) rfl ?_
      refine r_iast C w 3 rfl hin (learnF 0 (PP 60 1 (xn - 1) + (yn - xn) + 1)) hst [(a0, .inr (4, [.ref a1, .ref a2, .int 0, .ref a3])), (a1, .inl (cy 5, 9, .inr (.inr (.inr (.inr (va_up (va_up (va_up (va_up (va_up (va_up (va_up (va_up (va_up (va_up (fun _ => none) 0 (some a4)) 1 (some a5)) 2 (some a6)) 3 (some a7)) 4 (some a8)) 5 (some a9)) 6 (some a10)) 7 (some a11)) 8 (some a12)) 0 (some n1))))))), (a4, .inl (cy 1, 0, .inl (fun _ => 0))), (n1, .inl (cy 1, 1830, .inl (learnF 0 (PP 60 1 (xn - 1) + (yn - xn) + 1))))] rfl dX4_learn_70 (fun H locs w => ?_)
      refine lv_iinc (v := (y + 1)) (lv' := [(5, .int (y + 1)), (3, .int (pr + 1)), (0, .ref a0), (1, .int 0), (2, .ref n1), (4, .int x)]) C.1 C.2.1 dX4_learn_71 hl (k := 5) rfl rfl (by decide) rfl (fun ls hl => ?_)
      refine lv_goto (tgt := 43) C.1 C.2.1 dX4_learn_74 (by decide) ?_
      have eN : PP 60 1 (xn - 1) + (yn + 1 - xn) = PP 60 1 (xn - 1) + (yn - xn) + 1 := by omega
      exact ih xn (yn + 1) x (y + 1) (pr + 1) _ _ _ h1 h2 (by omega) (by omega) ex (by rw [ey]; exact nI_1 _) (by rw [ep, eN]; exact nI_1 _) (by rw [eN]; exact w) (lv_sub hl [2, 3, 4, 1, 5, 0] rfl) kk
  have outer : ∀ (k xn : Nat) (x pr : Int32) (H : Heap) (locs : List Loc) (ls : Array Slot), 1 ≤ xn → xn + k = 61 → x = nI xn → pr = nI (PP 60 1 (xn - 1)) → Wd D A s.heap [(a0, .inr (4, [.ref a1, .ref a2, .int 0, .ref a3])), (a1, .inl (cy 5, 9, .inr (.inr (.inr (.inr (va_up (va_up (va_up (va_up (va_up (va_up (va_up (va_up (va_up (va_up (fun _ => none) 0 (some a4)) 1 (some a5)) 2 (some a6)) 3 (some a7)) 4 (some a8)) 5 (some a9)) 6 (some a10)) 7 (some a11)) 8 (some a12)) 0 (some n1))))))), (a4, .inl (cy 1, 0, .inl (fun _ => 0))), (n1, .inl (cy 1, 1830, .inl (learnF 0 (PP 60 1 (xn - 1)))))] H locs → lv_has ls 6 [(0, .ref a0), (1, .int 0), (2, .ref n1), (3, .int pr), (4, .int x)] → W p l e R s m args below meth c H locs cells slots Q (F0 m 32 ls []) := by
    intro k
    induction k with
    | zero =>
      intro xn x pr H locs ls h1 h4 ex ep w hl
      have hx : xn = 61 := by omega
      subst hx
      have c1 : (60 : Int32) < x := by rw [ex]; decide
      refine lv_iload C.1 C.2.1 dX4_learn_32 (lv_at hl 4 rfl) ?_
      refine lv_bipush (v := 60) C.1 C.2.1 dX4_learn_34 (by decide) ?_
      refine b_icmp_gt_t C (tgt := 83) dX4_learn_36 (by decide) c1 ?_
      have e6 : PP 60 1 (61 - 1) = 1830 := PP_tot
      rw [e6] at w
      exact kk _ _ _ w (lv_sub hl [0, 1, 2] rfl)
    | succ k ih =>
      intro xn x pr H locs ls h1 h4 ex ep w hl
      have c1 : ¬ (60 : Int32) < x := by rw [ex]; exact nI_nlt (a := 60) (by omega) (by omega)
      refine lv_iload C.1 C.2.1 dX4_learn_32 (lv_at hl 4 rfl) ?_
      refine lv_bipush (v := 60) C.1 C.2.1 dX4_learn_34 (by decide) ?_
      refine b_icmp_gt_f C (tgt := 83) dX4_learn_36 (by decide) c1 ?_
      refine lv_iload C.1 C.2.1 dX4_learn_39 (lv_at hl 4 rfl) ?_
      refine lv_istore (lv' := [(5, .int x), (0, .ref a0), (1, .int 0), (2, .ref n1), (3, .int pr), (4, .int x)]) C.1 C.2.1 dX4_learn_41 hl (by decide) rfl (fun ls hl => ?_)
      have eN : PP 60 1 (xn - 1) + (xn - xn) = PP 60 1 (xn - 1) := by omega
      refine inner (61 - xn) xn xn x x pr _ _ _ h1 (by omega) (Nat.le_refl _) (by omega) ex ex (by rw [ep, eN]) (by rw [eN]; exact w) (lv_sub hl [1, 2, 3, 4, 5, 0] rfl) (fun H locs ls pr1 y1 ep1 w hl => ?_)
      refine lv_iinc (v := (x + 1)) (lv' := [(4, .int (x + 1)), (0, .ref a0), (1, .int 0), (2, .ref n1), (3, .int pr1), (5, .int y1)]) C.1 C.2.1 dX4_learn_77 hl (k := 4) rfl rfl (by decide) rfl (fun ls hl => ?_)
      refine lv_goto (tgt := 32) C.1 C.2.1 dX4_learn_80 (by decide) ?_
      exact ih (xn + 1) (x + 1) pr1 _ _ _ (by omega) (by omega) (by rw [ex]; exact nI_1 _) (by rw [ep1]; rfl) (by exact w) (lv_sub hl [1, 2, 3, 4, 0] rfl)
  refine outer 60 1 1 0 _ _ _ (Nat.le_refl _) rfl rfl rfl ?_ hl
  have e0 : learnF 0 (PP 60 1 (1 - 1)) = fun _ => 0 := learnF_0 0
  rw [e0]
  exact w
theorem dX4_learn_83 : decode cX4_learn 83 = .ok (.return_, 1) := by decide +kernel
set_option maxRecDepth 100000 in
set_option maxHeartbeats 4000000 in
theorem c_X4_learn_0 (l : Launch) (D : va_G) (cy : Nat → ClassId) (a0 a1 a2 a3 a4 a5 a6 a7 a8 a9 a10 a11 a12 : Nat) : Ct l D cy yX4_learn cX4_learn 6 none 1 30 1 1830 [(a0, .inr (4, [.ref a1, .ref a2, .int 0, .ref a3])), (a1, .inl (cy 5, 9, .inr (.inr (.inr (.inr (va_up (va_up (va_up (va_up (va_up (va_up (va_up (va_up (va_up (fun _ => none) 0 (some a4)) 1 (some a5)) 2 (some a6)) 3 (some a7)) 4 (some a8)) 5 (some a9)) 6 (some a10)) 7 (some a11)) 8 (some a12))))))), (a4, .inl (cy 1, 0, .inl (fun _ => 0)))] [.ref a0, .int 0] (fun u : Nat => none) (fun _ => True) (fun u : Nat => [(a0, .inr (4, [.ref a1, .ref a2, .int 0, .ref a3])), (a1, .inl (cy 5, 9, .inr (.inr (.inr (.inr (va_up (va_up (va_up (va_up (va_up (va_up (va_up (va_up (va_up (va_up (fun _ => none) 0 (some a4)) 1 (some a5)) 2 (some a6)) 3 (some a7)) 4 (some a8)) 5 (some a9)) 6 (some a10)) 7 (some a11)) 8 (some a12)) 0 (some u))))))), (a4, .inl (cy 1, 0, .inl (fun _ => 0))), (u, .inl (cy 1, 1830, .inl (learnF 0 1830)))]) := by
  refine Ct.of (by decide +kernel) (Nat.le_of_ble_eq_true rfl) ?_
  intro p e s m args below meth c A ls C hr hlocks hml hnm w hl
  have hl : lv_has ls 6 [(0, .ref a0), (1, .int 0)] := hl
  refine lv_aload_n C.1 C.2.1 dX4_learn_0 rfl (lv_at hl 0 rfl) ?_
  refine r_get C w 0 rfl rfl 0 (by decide) fl_RX4_13 (v := .ref a1) rfl dX4_learn_1 ?_
  refine lv_iload_n C.1 C.2.1 dX4_learn_4 rfl (lv_at hl 1 rfl) ?_
  refine r_aald C w 1 5 rfl rfl rfl (v := .ref a4) (vinD (by decide)) rfl dX4_learn_5 ?_
  refine r_alen C w 2 1 rfl rfl (v := 0) rfl dX4_learn_6 ?_
  refine lv_sipush (v := 1830) C.1 C.2.1 dX4_learn_7 (by decide) ?_
  refine b_icmp_ne_t C (tgt := 14) dX4_learn_10 (by decide) (by decide) ?_
  refine lv_sipush (v := 1830) C.1 C.2.1 dX4_learn_14 (by decide) ?_
  refine r_newa_int C w 1830 ac_int (by decide) (by decide) (by decide) 1 1830 rfl rfl ⟨Nat.le_of_ble_eq_true rfl, Nat.le_of_ble_eq_true rfl⟩ dX4_learn_17 (fun n1 H w => ?_)
  have w : Wd D A s.heap [(a0, .inr (4, [.ref a1, .ref a2, .int 0, .ref a3])), (a1, .inl (cy 5, 9, .inr (.inr (.inr (.inr (va_up (va_up (va_up (va_up (va_up (va_up (va_up (va_up (va_up (fun _ => none) 0 (some a4)) 1 (some a5)) 2 (some a6)) 3 (some a7)) 4 (some a8)) 5 (some a9)) 6 (some a10)) 7 (some a11)) 8 (some a12))))))), (a4, .inl (cy 1, 0, .inl (fun _ => 0))), (n1, .inl (cy 1, 1830, .inl (fun _ => 0)))] _ _ := w
  refine lv_astore_n (lv' := [(2, .ref n1), (0, .ref a0), (1, .int 0)]) C.1 C.2.1 dX4_learn_19 rfl hl (by decide) rfl (fun ls hl => ?_)
  refine lv_aload_n C.1 C.2.1 dX4_learn_20 rfl (lv_at hl 1 rfl) ?_
  refine r_get C w 0 rfl rfl 0 (by decide) fl_RX4_13 (v := .ref a1) rfl dX4_learn_21 ?_
  refine lv_iload_n C.1 C.2.1 dX4_learn_24 rfl (lv_at hl 2 rfl) ?_
  refine lv_aload_n C.1 C.2.1 dX4_learn_25 rfl (lv_at hl 0 rfl) ?_
  refine r_aastI C w 1 3 rfl rfl (vinD (by decide)) (va_up (va_up (va_up (va_up (va_up (va_up (va_up (va_up (va_up (va_up (fun _ => none) 0 (some a4)) 1 (some a5)) 2 (some a6)) 3 (some a7)) 4 (some a8)) 5 (some a9)) 6 (some a10)) 7 (some a11)) 8 (some a12)) 0 (some n1)) rfl [(a0, .inr (4, [.ref a1, .ref a2, .int 0, .ref a3])), (a1, .inl (cy 5, 9, .inr (.inr (.inr (.inr (va_up (va_up (va_up (va_up (va_up (va_up (va_up (va_up (va_up (va_up (fun _ => none) 0 (some a4)) 1 (some a5)) 2 (some a6)) 3 (some a7)) 4 (some a8)) 5 (some a9)) 6 (some a10)) 7 (some a11)) 8 (some a12)) 0 (some n1))))))), (a4, .inl (cy 1, 0, .inl (fun _ => 0))), (n1, .inl (cy 1, 1830, .inl (fun _ => 0)))] rfl dX4_learn_26 (fun H locs w => ?_)
  refine lv_iconst (v := 0) C.1 C.2.1 dX4_learn_27 (by decide) ?_
  refine lv_istore_n (lv' := [(3, .int 0), (2, .ref n1), (0, .ref a0), (1, .int 0)]) C.1 C.2.1 dX4_learn_28 rfl hl (by decide) rfl (fun ls hl => ?_)
  refine lv_iconst (v := 1) C.1 C.2.1 dX4_learn_29 (by decide) ?_
  refine lv_istore (lv' := [(4, .int 1), (3, .int 0), (2, .ref n1), (0, .ref a0), (1, .int 0)]) C.1 C.2.1 dX4_learn_30 hl (by decide) rfl (fun ls hl => ?_)
  refine lp_X4_learn_1 a0 a1 a2 a3 a4 a5 a6 a7 a8 a9 a10 a11 a12 n1 C hml (Nat.le_of_ble_eq_true rfl) (Nat.le_of_ble_eq_true rfl) ⟨Nat.le_of_ble_eq_true rfl, Nat.le_of_ble_eq_true rfl⟩ (w.re rfl) (lv_sub hl [3, 4, 2, 1, 0] rfl) (fun H locs ls w hl => ?_)
  have w : Wd D A s.heap [(a0, .inr (4, [.ref a1, .ref a2, .int 0, .ref a3])), (a1, .inl (cy 5, 9, .inr (.inr (.inr (.inr (va_up (va_up (va_up (va_up (va_up (va_up (va_up (va_up (va_up (va_up (fun _ => none) 0 (some a4)) 1 (some a5)) 2 (some a6)) 3 (some a7)) 4 (some a8)) 5 (some a9)) 6 (some a10)) 7 (some a11)) 8 (some a12)) 0 (some n1))))))), (a4, .inl (cy 1, 0, .inl (fun _ => 0))), (n1, .inl (cy 1, 1830, .inl (learnF 0 1830)))] _ _ := w
  exact r_vret C w hlocks n1 hr rfl trivial [0, 1, 2, 3] rfl rfl ⟨Nat.le_of_ble_eq_true rfl, Nat.le_of_ble_eq_true rfl⟩ dX4_learn_83
theorem fv_RX4_41 : FV RX4 41 yX4_learn cX4_learn 6 none 1 := ⟨⟨gw_mem (by decide +kernel) (by decide +kernel), gw_mem (by decide +kernel) (by decide +kernel), gw_mem (by decide +kernel) (by decide +kernel), gw_mem (by decide +kernel) (by decide +kernel), gw_mem (by decide +kernel) (by decide +kernel)⟩, ⟨by decide +kernel, by decide +kernel, by decide +kernel⟩⟩
theorem dX4_learnFor_5 : decode cX4_learnFor 5 = .ok (.aload_n 0, 1) := by decide +kernel
theorem dX4_learnFor_6 : decode cX4_learnFor 6 = .ok (.iconst 2, 1) := by decide +kernel
theorem dX4_learnFor_7 : decode cX4_learnFor 7 = .ok (.invokevirtual 41, 3) := by decide +kernel
theorem dX4_slipOf_56 : decode cX4_slipOf 56 = .ok (.iload_n 2, 1) := by decide +kernel
theorem dX4_slipOf_57 : decode cX4_slipOf 57 = .ok (.ireturn, 1) := by decide +kernel
set_option maxRecDepth 100000 in
set_option maxHeartbeats 4000000 in
theorem c_X4_slipOf_1 (l : Launch) (D : va_G) (cy : Nat → ClassId) (x0 : Int32) (x1 : Int32) : Ct l D cy yX4_slipOf cX4_slipOf 3 (some .int) 0 0 0 0 [] [.int 2, .int x0, .int x1] (fun u : Unit => some (.int x1)) (fun _ => True) (fun u : Unit => []) := by
  refine Ct.of (by decide +kernel) (Nat.le_of_ble_eq_true rfl) ?_
  intro p e s m args below meth c A ls C hr hlocks hml hnm w hl
  have hl : lv_has ls 3 [(0, .int 2), (1, .int x0), (2, .int x1)] := hl
  refine lv_iload_n C.1 C.2.1 dX4_slipOf_0 rfl (lv_at hl 0 rfl) ?_
  refine lv_tableIn (tgt := 56) (off := 55) C.1 C.2.1 dX4_slipOf_1 (by decide) (by decide) (by decide) (by decide) ?_
  refine lv_iload_n C.1 C.2.1 dX4_slipOf_56 rfl (lv_at hl 2 rfl) ?_
  exact r_iret C w hlocks () hr rfl rfl trivial [] rfl rfl ⟨Nat.le_of_ble_eq_true rfl, Nat.le_of_ble_eq_true rfl⟩ dX4_slipOf_57
set_option maxRecDepth 100000 in
set_option maxHeartbeats 4000000 in
theorem lp_X4_learn_2 {p : Program} {l : Launch} {e : Env} {R : Room} {s : State} {m : MethodId} {args : Array Value} {below : List Frame} {meth : Method} {c : Code} {cells slots : Nat} {Q : State → Prop} {D : va_G} {cy : Nat → ClassId} {A : Nat → Prop} {H : Heap} {locs : List Loc} {ls : Array Slot} (a0 a1 a2 a3 a4 a5 a6 a7 a8 a9 a10 a11 a12 a13 n1 : Nat) (C : Cx p s m args c cX4_learn RX4 D cy A) (hml : c.maxLocals = 6) (hfr : 1 ≤ R.frames) (hlo : 30 ≤ R.locals) (hcs : cells ≤ R.cells ∧ slots ≤ R.slots) (w : Wd D A s.heap [(a0, .inr (4, [.ref a1, .ref a2, .int 0, .ref a3])), (a1, .inl (cy 5, 9, .inr (.inr (.inr (.inr (va_up (va_up (va_up (va_up (va_up (va_up (va_up (va_up (va_up (va_up (va_up (fun _ => none) 0 (some a4)) 1 (some a5)) 2 (some a6)) 3 (some a7)) 4 (some a8)) 5 (some a9)) 6 (some a10)) 7 (some a11)) 8 (some a12)) 0 (some a13)) 2 (some n1))))))), (a6, .inl (cy 1, 0, .inl (fun _ => 0))), (n1, .inl (cy 1, 1830, .inl (fun _ => 0)))] H locs) (hl : lv_has ls 6 [(0, .ref a0), (1, .int 2), (2, .ref n1), (3, .int 0), (4, .int 1)])
    (kk : ∀ (H : Heap) (locs : List Loc) (ls : Array Slot), Wd D A s.heap [(a0, .inr (4, [.ref a1, .ref a2, .int 0, .ref a3])), (a1, .inl (cy 5, 9, .inr (.inr (.inr (.inr (va_up (va_up (va_up (va_up (va_up (va_up (va_up (va_up (va_up (va_up (va_up (fun _ => none) 0 (some a4)) 1 (some a5)) 2 (some a6)) 3 (some a7)) 4 (some a8)) 5 (some a9)) 6 (some a10)) 7 (some a11)) 8 (some a12)) 0 (some a13)) 2 (some n1))))))), (a6, .inl (cy 1, 0, .inl (fun _ => 0))), (n1, .inl (cy 1, 1830, .inl (learnF 2 1830)))] H locs → lv_has ls 6 [(0, .ref a0), (1, .int 2), (2, .ref n1)] → W p l e R s m args below meth c H locs cells slots Q (F0 m 83 ls [])) : W p l e R s m args below meth c H locs cells slots Q (F0 m 32 ls []) := by
  have inner : ∀ (k xn yn : Nat) (x y pr : Int32) (H : Heap) (locs : List Loc) (ls : Array Slot), 1 ≤ xn → xn ≤ 60 → xn ≤ yn → yn + k = 61 → x = nI xn → y = nI yn → pr = nI (PP 60 1 (xn - 1) + (yn - xn)) → Wd D A s.heap [(a0, .inr (4, [.ref a1, .ref a2, .int 0, .ref a3])), (a1, .inl (cy 5, 9, .inr (.inr (.inr (.inr (va_up (va_up (va_up (va_up (va_up (va_up (va_up (va_up (va_up (va_up (va_up (fun _ => none) 0 (some a4)) 1 (some a5)) 2 (some a6)) 3 (some a7)) 4 (some a8)) 5 (some a9)) 6 (some a10)) 7 (some a11)) 8 (some a12)) 0 (some a13)) 2 (some n1))))))), (a6, .inl (cy 1, 0, .inl (fun _ => 0))), (n1, .inl (cy 1, 1830, .inl (learnF 2 (PP 60 1 (xn - 1) + (yn - xn)))))] H locs → lv_has ls 6 [(0, .ref a0), (1, .int 2), (2, .ref n1), (3, .int pr), (4, .int x), (5, .int y)] →
      (∀ (H : Heap) (locs : List Loc) (ls : Array Slot) (pr1 y1 : Int32), pr1 = nI (PP 60 1 xn) → Wd D A s.heap [(a0, .inr (4, [.ref a1, .ref a2, .int 0, .ref a3])), (a1, .inl (cy 5, 9, .inr (.inr (.inr (.inr (va_up (va_up (va_up (va_up (va_up (va_up (va_up (va_up (va_up (va_up (va_up (fun _ => none) 0 (some a4)) 1 (some a5)) 2 (some a6)) 3 (some a7)) 4 (some a8)) 5 (some a9)) 6 (some a10)) 7 (some a11)) 8 (some a12)) 0 (some a13)) 2 (some n1))))))), (a6, .inl (cy 1, 0, .inl (fun _ => 0))), (n1, .inl (cy 1, 1830, .inl (learnF 2 (PP 60 1 xn))))] H locs → lv_has ls 6 [(0, .ref a0), (1, .int 2), (2, .ref n1), (3, .int pr1), (4, .int x), (5, .int y1)] → W p l e R s m args below meth c H locs cells slots Q (F0 m 77 ls [])) → W p l e R s m args below meth c H locs cells slots Q (F0 m 43 ls []) := by
    intro k
    induction k with
    | zero =>
      intro xn yn x y pr H locs ls h1 h2 h3 h4 ex ey ep w hl kk
      have hy : yn = 61 := by omega
      have c1 : (60 : Int32) < y := by rw [ey, hy]; decide
      refine lv_iload C.1 C.2.1 dX4_learn_43 (lv_at hl 5 rfl) ?_
      refine lv_bipush (v := 60) C.1 C.2.1 dX4_learn_45 (by decide) ?_
      refine b_icmp_gt_t C (tgt := 77) dX4_learn_47 (by decide) c1 ?_
      have eN : PP 60 1 (xn - 1) + (yn - xn) = PP 60 1 xn := by
        have := PP_succ 60 (xn - 1) 1
        have e1 : xn - 1 + 1 = xn := by omega
        have e2 : 1 + (xn - 1) = xn := by omega
        rw [e1, e2] at this
        omega
      exact kk _ _ _ pr y (by rw [ep, eN]) (by rw [← eN]; exact w) hl
    | succ k ih =>
      intro xn yn x y pr H locs ls h1 h2 h3 h4 ex ey ep w hl kk
      have hb := PP_lt (a := 1) (b := 60) h1 h3 (by omega)
      rw [show 60 + 1 - 1 = 60 from rfl, PP_tot] at hb
      have c1 : ¬ (60 : Int32) < y := by rw [ey]; exact nI_nlt (a := 60) (by omega) (by omega)
      have c2 : ¬ (1830 : Int32) ≤ pr := by rw [ep]; exact nI_ge hb (by decide)
      have hin : vp_in pr 1830 := by rw [ep]; exact vp_in_nI hb (by decide)
      have hst : upd (learnF 2 (PP 60 1 (xn - 1) + (yn - xn))) pr.toNatClampNeg y = learnF 2 (PP 60 1 (xn - 1) + (yn - xn) + 1) := by
        rw [ep]
        refine learnF_step (by omega) ?_
        rw [pxy_at h1 h3 (by omega)]
        first | rw [ex, ey] | rw [ey] | rw [ex]
        exact rfl
      refine lv_iload C.1 C.2.1 dX4_learn_43 (lv_at hl 5 rfl) ?_
      refine lv_bipush (v := 60) C.1 C.2.1 dX4_learn_45 (by decide) ?_
      refine b_icmp_gt_f C (tgt := 77) dX4_learn_47 (by decide) c1 ?_
      refine lv_iload_n C.1 C.2.1 dX4_learn_50 rfl (lv_at hl 3 rfl) ?_
      refine lv_sipush (v := 1830) C.1 C.2.1 dX4_learn_51 (by decide) ?_
      refine b_icmp_ge_f C (tgt := 77) dX4_learn_54 (by decide) c2 ?_
      refine lv_aload_n C.1 C.2.1 dX4_learn_57 rfl (lv_at hl 2 rfl) ?_
      refine lv_iload_n C.1 C.2.1 dX4_learn_58 rfl (lv_at hl 3 rfl) ?_
      refine lv_iinc (v := (pr + 1)) (lv' := [(3, .int (pr + 1)), (0, .ref a0), (1, .int 2), (2, .ref n1), (4, .int x), (5, .int y)]) C.1 C.2.1 dX4_learn_59 hl (k := 3) rfl rfl (by decide) rfl (fun ls hl => ?_)
      refine lv_iload_n C.1 C.2.1 dX4_learn_62 rfl (lv_at hl 2 rfl) ?_
      refine lv_iload C.1 C.2.1 dX4_learn_63 (lv_at hl 4 rfl) ?_
      refine lv_iload C.1 C.2.1 dX4_learn_65 (lv_at hl 5 rfl) ?_
      refine r_callS C w fs_RX4_54 (c_X4_slipOf_1 l D cy x y) (hl.1.trans hml.symm) [] [0, 1, 2, 3] (wr := [(a0, .inr (4, [.ref a1, .ref a2, .int 0, .ref a3])), (a1, .inl (cy 5, 9, .inr (.inr (.inr (.inr (va_up (va_up (va_up (va_up (va_up (va_up (va_up (va_up (va_up (va_up (va_up (fun _ => none) 0 (some a4)) 1 (some a5)) 2 (some a6)) 3 (some a7)) 4 (some a8)) 5 (some a9)) 6 (some a10)) 7 (some a11)) 8 (some a12)) 0 (some a13)) 2 (some n1))))))), (a6, .inl (cy 1, 0, .inl (fun _ => 0))), (n1, .inl (cy 1, 1830, .inl (learnF 2 (PP 60 1 (xn - 1) + (yn - xn)))))]) ⟨rfl, rfl, rfl, rfl, by decide⟩ rfl rfl ⟨by omega, by omega, Nat.le_of_ble_eq_true rfl⟩ cells slots ⟨rfl, rfl, hcs.1, hcs.2⟩ dX4_learn_67 (fun u H locs hp w => ?_)
      have w : Wd D A s.heap [(a0, .inr (4, [.ref a1, .ref a2, .int 0, .ref a3])), (a1, .inl (cy 5, 9, .inr (.inr (.inr (.inr (va_up (va_up (va_up (va_up (va_up (va_up (va_up (va_up (va_up (va_up (va_up (fun _ => none) 0 (some a4)) 1 (some a5)) 2 (some a6)) 3 (some a7)) 4 (some a8)) 5 (some a9)) 6 (some a10)) 7 (some a11)) 8 (some a12)) 0 (some a13)) 2 (some n1))))))), (a6, .inl (cy 1, 0, .inl (fun _ => 0))), (n1, .inl (cy 1, 1830, .inl (learnF 2 (PP 60 1 (xn - 1) + (yn - xn)))))] _ _ := w
      refine r_top (g2 := F0 m 70 ls [.int y, .int pr, .ref n1]) rfl ?_
      refine r_iast C w 3 rfl hin (learnF 2 (PP 60 1 (xn - 1) + (yn - xn) + 1)) hst [(a0, .inr (4, [.ref a1, .ref a2, .int 0, .ref a3])), (a1, .inl (cy 5, 9, .inr (.inr (.inr (.inr (va_up (va_up (va_up (va_up (va_up (va_up (va_up (va_up (va_up (va_up (va_up (fun _ => none) 0 (some a4)) 1 (some a5)) 2 (some a6)) 3 (some a7)) 4 (some a8)) 5 (some a9)) 6 (some a10)) 7 (some a11)) 8 (some a12)) 0 (some a13)) 2 (some n1))))))), (a6, .inl (cy 1, 0, .inl (fun _ => 0))), (n1, .inl (cy 1, 1830, .inl (learnF 2 (PP 60 1 (xn - 1) + (yn - xn) + 1))))] rfl dX4_learn_70 (fun H locs w => ?_)
      refine lv_iinc (v := (y + 1)) (lv' := [(5, .int (y + 1)), (3, .int (pr + 1)), (0, .ref a0), (1, .int 2), (2, .ref n1), (4, .int x)]) C.1 C.2.1 dX4_learn_71 hl (k := 5) rfl rfl (by decide) rfl (fun ls hl => ?_)
      refine lv_goto (tgt := 43) C.1 C.2.1 dX4_learn_74 (by decide) ?_
      have eN : PP 60 1 (xn - 1) + (yn + 1 - xn) = PP 60 1 (xn - 1) + (yn - xn) + 1 := by omega
      exact ih xn (yn + 1) x (y + 1) (pr + 1) _ _ _ h1 h2 (by omega) (by omega) ex (by rw [ey]; exact nI_1 _) (by rw [ep, eN]; exact nI_1 _) (by rw [eN]; exact w) (lv_sub hl [2, 3, 4, 1, 5, 0] rfl) kk
  have outer : ∀ (k xn : Nat) (x pr : Int32) (H : Heap) (locs : List Loc) (ls : Array Slot), 1 ≤ xn → xn + k = 61 → x = nI xn → pr = nI (PP 60 1 (xn - 1)) → Wd D A s.heap [(a0, .inr (4, [.ref a1, .ref a2, .int 0, .ref a3])), (a1, .inl (cy 5, 9, .inr (.inr (.inr (.inr (va_up (va_up (va_up (va_up (va_up (va_up (va_up (va_up (va_up (va_up (va_up (fun _ => none) 0 (some a4)) 1 (some a5)) 2 (some a6)) 3 (some a7)) 4 (some a8)) 5 (some a9)) 6 (some a10)) 7 (some a11)) 8 (some a12)) 0 (some a13)) 2 (some n1))))))), (a6, .inl (cy 1, 0, .inl (fun _ => 0))), (n1, .inl (cy 1, 1830, .inl (learnF 2 (PP 60 1 (xn - 1)))))] H locs → lv_has ls 6 [(0, .ref a0), (1, .int 2), (2, .ref n1), (3, .int pr), (4, .int x)] → W p l e R s m args below meth c H locs cells slots Q (F0 m 32 ls []) := by
    intro k
    induction k with
    | zero =>
      intro xn x pr H locs ls h1 h4 ex ep w hl
      have hx : xn = 61 := by omega
      subst hx
      have c1 : (60 : Int32) < x := by rw [ex]; decide
      refine lv_iload C.1 C.2.1 dX4_learn_32 (lv_at hl 4 rfl) ?_
      refine lv_bipush (v := 60) C.1 C.2.1 dX4_learn_34 (by decide) ?_
      refine b_icmp_gt_t C (tgt := 83) dX4_learn_36 (by decide) c1 ?_
      have e6 : PP 60 1 (61 - 1) = 1830 := PP_tot
      rw [e6] at w
      exact kk _ _ _ w (lv_sub hl [0, 1, 2] rfl)
    | succ k ih =>
      intro xn x pr H locs ls h1 h4 ex ep w hl
      have c1 : ¬ (60 : Int32) < x := by rw [ex]; exact nI_nlt (a := 60) (by omega) (by omega)
      refine lv_iload C.1 C.2.1 dX4_learn_32 (lv_at hl 4 rfl) ?_
      refine lv_bipush (v := 60) C.1 C.2.1 dX4_learn_34 (by decide) ?_
      refine b_icmp_gt_f C (tgt := 83) dX4_learn_36 (by decide) c1 ?_
      refine lv_iload C.1 C.2.1 dX4_learn_39 (lv_at hl 4 rfl) ?_
      refine lv_istore (lv' := [(5, .int x), (0, .ref a0), (1, .int 2), (2, .ref n1), (3, .int pr), (4, .int x)]) C.1 C.2.1 dX4_learn_41 hl (by decide) rfl (fun ls hl => ?_)
      have eN : PP 60 1 (xn - 1) + (xn - xn) = PP 60 1 (xn - 1) := by omega
      refine inner (61 - xn) xn xn x x pr _ _ _ h1 (by omega) (Nat.le_refl _) (by omega) ex ex (by rw [ep, eN]) (by rw [eN]; exact w) (lv_sub hl [1, 2, 3, 4, 5, 0] rfl) (fun H locs ls pr1 y1 ep1 w hl => ?_)
      refine lv_iinc (v := (x + 1)) (lv' := [(4, .int (x + 1)), (0, .ref a0), (1, .int 2), (2, .ref n1), (3, .int pr1), (5, .int y1)]) C.1 C.2.1 dX4_learn_77 hl (k := 4) rfl rfl (by decide) rfl (fun ls hl => ?_)
      refine lv_goto (tgt := 32) C.1 C.2.1 dX4_learn_80 (by decide) ?_
      exact ih (xn + 1) (x + 1) pr1 _ _ _ (by omega) (by omega) (by rw [ex]; exact nI_1 _) (by rw [ep1]; rfl) (by exact w) (lv_sub hl [1, 2, 3, 4, 0] rfl)
  refine outer 60 1 1 0 _ _ _ (Nat.le_refl _) rfl rfl rfl ?_ hl
  have e0 : learnF 2 (PP 60 1 (1 - 1)) = fun _ => 0 := learnF_0 2
  rw [e0]
  exact w
set_option maxRecDepth 100000 in
set_option maxHeartbeats 4000000 in
theorem c_X4_learn_1 (l : Launch) (D : va_G) (cy : Nat → ClassId) (a0 a1 a2 a3 a4 a5 a6 a7 a8 a9 a10 a11 a12 a13 : Nat) : Ct l D cy yX4_learn cX4_learn 6 none 1 30 1 1830 [(a0, .inr (4, [.ref a1, .ref a2, .int 0, .ref a3])), (a1, .inl (cy 5, 9, .inr (.inr (.inr (.inr (va_up (va_up (va_up (va_up (va_up (va_up (va_up (va_up (va_up (va_up (fun _ => none) 0 (some a4)) 1 (some a5)) 2 (some a6)) 3 (some a7)) 4 (some a8)) 5 (some a9)) 6 (some a10)) 7 (some a11)) 8 (some a12)) 0 (some a13))))))), (a6, .inl (cy 1, 0, .inl (fun _ => 0)))] [.ref a0, .int 2] (fun u : Nat => none) (fun _ => True) (fun u : Nat => [(a0, .inr (4, [.ref a1, .ref a2, .int 0, .ref a3])), (a1, .inl (cy 5, 9, .inr (.inr (.inr (.inr (va_up (va_up (va_up (va_up (va_up (va_up (va_up (va_up (va_up (va_up (va_up (fun _ => none) 0 (some a4)) 1 (some a5)) 2 (some a6)) 3 (some a7)) 4 (some a8)) 5 (some a9)) 6 (some a10)) 7 (some a11)) 8 (some a12)) 0 (some a13)) 2 (some u))))))), (a6, .inl (cy 1, 0, .inl (fun _ => 0))), (u, .inl (cy 1, 1830, .inl (learnF 2 1830)))]) := by
  refine Ct.of (by decide +kernel) (Nat.le_of_ble_eq_true rfl) ?_
  intro p e s m args below meth c A ls C hr hlocks hml hnm w hl
  have hl : lv_has ls 6 [(0, .ref a0), (1, .int 2)] := hl
  refine lv_aload_n C.1 C.2.1 dX4_learn_0 rfl (lv_at hl 0 rfl) ?_
  refine r_get C w 0 rfl rfl 0 (by decide) fl_RX4_13 (v := .ref a1) rfl dX4_learn_1 ?_
  refine lv_iload_n C.1 C.2.1 dX4_learn_4 rfl (lv_at hl 1 rfl) ?_
  refine r_aald C w 1 5 rfl rfl rfl (v := .ref a6) (vinD (by decide)) rfl dX4_learn_5 ?_
  refine r_alen C w 2 1 rfl rfl (v := 0) rfl dX4_learn_6 ?_
  refine lv_sipush (v := 1830) C.1 C.2.1 dX4_learn_7 (by decide) ?_
  refine b_icmp_ne_t C (tgt := 14) dX4_learn_10 (by decide) (by decide) ?_
  refine lv_sipush (v := 1830) C.1 C.2.1 dX4_learn_14 (by decide) ?_
  refine r_newa_int C w 1830 ac_int (by decide) (by decide) (by decide) 1 1830 rfl rfl ⟨Nat.le_of_ble_eq_true rfl, Nat.le_of_ble_eq_true rfl⟩ dX4_learn_17 (fun n1 H w => ?_)
  have w : Wd D A s.heap [(a0, .inr (4, [.ref a1, .ref a2, .int 0, .ref a3])), (a1, .inl (cy 5, 9, .inr (.inr (.inr (.inr (va_up (va_up (va_up (va_up (va_up (va_up (va_up (va_up (va_up (va_up (fun _ => none) 0 (some a4)) 1 (some a5)) 2 (some a6)) 3 (some a7)) 4 (some a8)) 5 (some a9)) 6 (some a10)) 7 (some a11)) 8 (some a12)) 0 (some a13))))))), (a6, .inl (cy 1, 0, .inl (fun _ => 0))), (n1, .inl (cy 1, 1830, .inl (fun _ => 0)))] _ _ := w
  refine lv_astore_n (lv' := [(2, .ref n1), (0, .ref a0), (1, .int 2)]) C.1 C.2.1 dX4_learn_19 rfl hl (by decide) rfl (fun ls hl => ?_)
  refine lv_aload_n C.1 C.2.1 dX4_learn_20 rfl (lv_at hl 1 rfl) ?_
  refine r_get C w 0 rfl rfl 0 (by decide) fl_RX4_13 (v := .ref a1) rfl dX4_learn_21 ?_
  refine lv_iload_n C.1 C.2.1 dX4_learn_24 rfl (lv_at hl 2 rfl) ?_
  refine lv_aload_n C.1 C.2.1 dX4_learn_25 rfl (lv_at hl 0 rfl) ?_
  refine r_aastI C w 1 3 rfl rfl (vinD (by decide)) (va_up (va_up (va_up (va_up (va_up (va_up (va_up (va_up (va_up (va_up (va_up (fun _ => none) 0 (some a4)) 1 (some a5)) 2 (some a6)) 3 (some a7)) 4 (some a8)) 5 (some a9)) 6 (some a10)) 7 (some a11)) 8 (some a12)) 0 (some a13)) 2 (some n1)) rfl [(a0, .inr (4, [.ref a1, .ref a2, .int 0, .ref a3])), (a1, .inl (cy 5, 9, .inr (.inr (.inr (.inr (va_up (va_up (va_up (va_up (va_up (va_up (va_up (va_up (va_up (va_up (va_up (fun _ => none) 0 (some a4)) 1 (some a5)) 2 (some a6)) 3 (some a7)) 4 (some a8)) 5 (some a9)) 6 (some a10)) 7 (some a11)) 8 (some a12)) 0 (some a13)) 2 (some n1))))))), (a6, .inl (cy 1, 0, .inl (fun _ => 0))), (n1, .inl (cy 1, 1830, .inl (fun _ => 0)))] rfl dX4_learn_26 (fun H locs w => ?_)
  refine lv_iconst (v := 0) C.1 C.2.1 dX4_learn_27 (by decide) ?_
  refine lv_istore_n (lv' := [(3, .int 0), (2, .ref n1), (0, .ref a0), (1, .int 2)]) C.1 C.2.1 dX4_learn_28 rfl hl (by decide) rfl (fun ls hl => ?_)
  refine lv_iconst (v := 1) C.1 C.2.1 dX4_learn_29 (by decide) ?_
  refine lv_istore (lv' := [(4, .int 1), (3, .int 0), (2, .ref n1), (0, .ref a0), (1, .int 2)]) C.1 C.2.1 dX4_learn_30 hl (by decide) rfl (fun ls hl => ?_)
  refine lp_X4_learn_2 a0 a1 a2 a3 a4 a5 a6 a7 a8 a9 a10 a11 a12 a13 n1 C hml (Nat.le_of_ble_eq_true rfl) (Nat.le_of_ble_eq_true rfl) ⟨Nat.le_of_ble_eq_true rfl, Nat.le_of_ble_eq_true rfl⟩ (w.re rfl) (lv_sub hl [3, 4, 2, 1, 0] rfl) (fun H locs ls w hl => ?_)
  have w : Wd D A s.heap [(a0, .inr (4, [.ref a1, .ref a2, .int 0, .ref a3])), (a1, .inl (cy 5, 9, .inr (.inr (.inr (.inr (va_up (va_up (va_up (va_up (va_up (va_up (va_up (va_up (va_up (va_up (va_up (fun _ => none) 0 (some a4)) 1 (some a5)) 2 (some a6)) 3 (some a7)) 4 (some a8)) 5 (some a9)) 6 (some a10)) 7 (some a11)) 8 (some a12)) 0 (some a13)) 2 (some n1))))))), (a6, .inl (cy 1, 0, .inl (fun _ => 0))), (n1, .inl (cy 1, 1830, .inl (learnF 2 1830)))] _ _ := w
  exact r_vret C w hlocks n1 hr rfl trivial [0, 1, 2, 3] rfl rfl ⟨Nat.le_of_ble_eq_true rfl, Nat.le_of_ble_eq_true rfl⟩ dX4_learn_83
theorem dX4_learnFor_10 : decode cX4_learnFor 10 = .ok (.aload_n 0, 1) := by decide +kernel
theorem dX4_learnFor_11 : decode cX4_learnFor 11 = .ok (.iconst 3, 1) := by decide +kernel
theorem dX4_learnFor_12 : decode cX4_learnFor 12 = .ok (.invokevirtual 41, 3) := by decide +kernel
theorem dX4_slipOf_58 : decode cX4_slipOf 58 = .ok (.iload_n 1, 1) := by decide +kernel
theorem dX4_slipOf_59 : decode cX4_slipOf 59 = .ok (.ireturn, 1) := by decide +kernel
set_option maxRecDepth 100000 in
set_option maxHeartbeats 4000000 in
theorem c_X4_slipOf_2 (l : Launch) (D : va_G) (cy : Nat → ClassId) (x0 : Int32) (x1 : Int32) : Ct l D cy yX4_slipOf cX4_slipOf 3 (some .int) 0 0 0 0 [] [.int 3, .int x0, .int x1] (fun u : Unit => some (.int x0)) (fun _ => True) (fun u : Unit => []) := by
  refine Ct.of (by decide +kernel) (Nat.le_of_ble_eq_true rfl) ?_
  intro p e s m args below meth c A ls C hr hlocks hml hnm w hl
  have hl : lv_has ls 3 [(0, .int 3), (1, .int x0), (2, .int x1)] := hl
  refine lv_iload_n C.1 C.2.1 dX4_slipOf_0 rfl (lv_at hl 0 rfl) ?_
  refine lv_tableIn (tgt := 58) (off := 57) C.1 C.2.1 dX4_slipOf_1 (by decide) (by decide) (by decide) (by decide) ?_
  refine lv_iload_n C.1 C.2.1 dX4_slipOf_58 rfl (lv_at hl 1 rfl) ?_
  exact r_iret C w hlocks () hr rfl rfl trivial [] rfl rfl ⟨Nat.le_of_ble_eq_true rfl, Nat.le_of_ble_eq_true rfl⟩ dX4_slipOf_59
set_option maxRecDepth 100000 in
set_option maxHeartbeats 4000000 in
theorem lp_X4_learn_3 {p : Program} {l : Launch} {e : Env} {R : Room} {s : State} {m : MethodId} {args : Array Value} {below : List Frame} {meth : Method} {c : Code} {cells slots : Nat} {Q : State → Prop} {D : va_G} {cy : Nat → ClassId} {A : Nat → Prop} {H : Heap} {locs : List Loc} {ls : Array Slot} (a0 a1 a2 a3 a4 a5 a6 a7 a8 a9 a10 a11 a12 a13 a14 n1 : Nat) (C : Cx p s m args c cX4_learn RX4 D cy A) (hml : c.maxLocals = 6) (hfr : 1 ≤ R.frames) (hlo : 30 ≤ R.locals) (hcs : cells ≤ R.cells ∧ slots ≤ R.slots) (w : Wd D A s.heap [(a0, .inr (4, [.ref a1, .ref a2, .int 0, .ref a3])), (a1, .inl (cy 5, 9, .inr (.inr (.inr (.inr (va_up (va_up (va_up (va_up (va_up (va_up (va_up (va_up (va_up (va_up (va_up (va_up (fun _ => none) 0 (some a4)) 1 (some a5)) 2 (some a6)) 3 (some a7)) 4 (some a8)) 5 (some a9)) 6 (some a10)) 7 (some a11)) 8 (some a12)) 0 (some a13)) 2 (some a14)) 3 (some n1))))))), (a7, .inl (cy 1, 0, .inl (fun _ => 0))), (n1, .inl (cy 1, 1830, .inl (fun _ => 0)))] H locs) (hl : lv_has ls 6 [(0, .ref a0), (1, .int 3), (2, .ref n1), (3, .int 0), (4, .int 1)])
    (kk : ∀ (H : Heap) (locs : List Loc) (ls : Array Slot), Wd D A s.heap [(a0, .inr (4, [.ref a1, .ref a2, .int 0, .ref a3])), (a1, .inl (cy 5, 9, .inr (.inr (.inr (.inr (va_up (va_up (va_up (va_up (va_up (va_up (va_up (va_up (va_up (va_up (va_up (va_up (fun _ => none) 0 (some a4)) 1 (some a5)) 2 (some a6)) 3 (some a7)) 4 (some a8)) 5 (some a9)) 6 (some a10)) 7 (some a11)) 8 (some a12)) 0 (some a13)) 2 (some a14)) 3 (some n1))))))), (a7, .inl (cy 1, 0, .inl (fun _ => 0))), (n1, .inl (cy 1, 1830, .inl (learnF 3 1830)))] H locs → lv_has ls 6 [(0, .ref a0), (1, .int 3), (2, .ref n1)] → W p l e R s m args below meth c H locs cells slots Q (F0 m 83 ls [])) : W p l e R s m args below meth c H locs cells slots Q (F0 m 32 ls []) := by
  have inner : ∀ (k xn yn : Nat) (x y pr : Int32) (H : Heap) (locs : List Loc) (ls : Array Slot), 1 ≤ xn → xn ≤ 60 → xn ≤ yn → yn + k = 61 → x = nI xn → y = nI yn → pr = nI (PP 60 1 (xn - 1) + (yn - xn)) → Wd D A s.heap [(a0, .inr (4, [.ref a1, .ref a2, .int 0, .ref a3])), (a1, .inl (cy 5, 9, .inr (.inr (.inr (.inr (va_up (va_up (va_up (va_up (va_up (va_up (va_up (va_up (va_up (va_up (va_up (va_up (fun _ => none) 0 (some a4)) 1 (some a5)) 2 (some a6)) 3 (some a7)) 4 (some a8)) 5 (some a9)) 6 (some a10)) 7 (some a11)) 8 (some a12)) 0 (some a13)) 2 (some a14)) 3 (some n1))))))), (a7, .inl (cy 1, 0, .inl (fun _ => 0))), (n1, .inl (cy 1, 1830, .inl (learnF 3 (PP 60 1 (xn - 1) + (yn - xn)))))] H locs → lv_has ls 6 [(0, .ref a0), (1, .int 3), (2, .ref n1), (3, .int pr), (4, .int x), (5, .int y)] →
      (∀ (H : Heap) (locs : List Loc) (ls : Array Slot) (pr1 y1 : Int32), pr1 = nI (PP 60 1 xn) → Wd D A s.heap [(a0, .inr (4, [.ref a1, .ref a2, .int 0, .ref a3])), (a1, .inl (cy 5, 9, .inr (.inr (.inr (.inr (va_up (va_up (va_up (va_up (va_up (va_up (va_up (va_up (va_up (va_up (va_up (va_up (fun _ => none) 0 (some a4)) 1 (some a5)) 2 (some a6)) 3 (some a7)) 4 (some a8)) 5 (some a9)) 6 (some a10)) 7 (some a11)) 8 (some a12)) 0 (some a13)) 2 (some a14)) 3 (some n1))))))), (a7, .inl (cy 1, 0, .inl (fun _ => 0))), (n1, .inl (cy 1, 1830, .inl (learnF 3 (PP 60 1 xn))))] H locs → lv_has ls 6 [(0, .ref a0), (1, .int 3), (2, .ref n1), (3, .int pr1), (4, .int x), (5, .int y1)] → W p l e R s m args below meth c H locs cells slots Q (F0 m 77 ls [])) → W p l e R s m args below meth c H locs cells slots Q (F0 m 43 ls []) := by
    intro k
    induction k with
    | zero =>
      intro xn yn x y pr H locs ls h1 h2 h3 h4 ex ey ep w hl kk
      have hy : yn = 61 := by omega
      have c1 : (60 : Int32) < y := by rw [ey, hy]; decide
      refine lv_iload C.1 C.2.1 dX4_learn_43 (lv_at hl 5 rfl) ?_
      refine lv_bipush (v := 60) C.1 C.2.1 dX4_learn_45 (by decide) ?_
      refine b_icmp_gt_t C (tgt := 77) dX4_learn_47 (by decide) c1 ?_
      have eN : PP 60 1 (xn - 1) + (yn - xn) = PP 60 1 xn := by
        have := PP_succ 60 (xn - 1) 1
        have e1 : xn - 1 + 1 = xn := by omega
        have e2 : 1 + (xn - 1) = xn := by omega
        rw [e1, e2] at this
        omega
      exact kk _ _ _ pr y (by rw [ep, eN]) (by rw [← eN]; exact w) hl
    | succ k ih =>
      intro xn yn x y pr H locs ls h1 h2 h3 h4 ex ey ep w hl kk
      have hb := PP_lt (a := 1) (b := 60) h1 h3 (by omega)
      rw [show 60 + 1 - 1 = 60 from rfl, PP_tot] at hb
      have c1 : ¬ (60 : Int32) < y := by rw [ey]; exact nI_nlt (a := 60) (by omega) (by omega)
      have c2 : ¬ (1830 : Int32) ≤ pr := by rw [ep]; exact nI_ge hb (by decide)
      have hin : vp_in pr 1830 := by rw [ep]; exact vp_in_nI hb (by decide)
      have hst : upd (learnF 3 (PP 60 1 (xn - 1) + (yn - xn))) pr.toNatClampNeg x = learnF 3 (PP 60 1 (xn - 1) + (yn - xn) + 1) := by
        rw [ep]
        refine learnF_step (by omega) ?_
        rw [pxy_at h1 h3 (by omega)]
        first | rw [ex, ey] | rw [ey] | rw [ex]
        exact rfl
      refine lv_iload C.1 C.2.1 dX4_learn_43 (lv_at hl 5 rfl) ?_
      refine lv_bipush (v := 60) C.1 C.2.1 dX4_learn_45 (by decide) ?_
      refine b_icmp_gt_f C (tgt := 77) dX4_learn_47 (by decide) c1 ?_
      refine lv_iload_n C.1 C.2.1 dX4_learn_50 rfl (lv_at hl 3 rfl) ?_
      refine lv_sipush (v := 1830) C.1 C.2.1 dX4_learn_51 (by decide) ?_
      refine b_icmp_ge_f C (tgt := 77) dX4_learn_54 (by decide) c2 ?_
      refine lv_aload_n C.1 C.2.1 dX4_learn_57 rfl (lv_at hl 2 rfl) ?_
      refine lv_iload_n C.1 C.2.1 dX4_learn_58 rfl (lv_at hl 3 rfl) ?_
      refine lv_iinc (v := (pr + 1)) (lv' := [(3, .int (pr + 1)), (0, .ref a0), (1, .int 3), (2, .ref n1), (4, .int x), (5, .int y)]) C.1 C.2.1 dX4_learn_59 hl (k := 3) rfl rfl (by decide) rfl (fun ls hl => ?_)
      refine lv_iload_n C.1 C.2.1 dX4_learn_62 rfl (lv_at hl 2 rfl) ?_
      refine lv_iload C.1 C.2.1 dX4_learn_63 (lv_at hl 4 rfl) ?_
      refine lv_iload C.1 C.2.1 dX4_learn_65 (lv_at hl 5 rfl) ?_
      refine r_callS C w fs_RX4_54 (c_X4_slipOf_2 l D cy x y) (hl.1.trans hml.symm) [] [0, 1, 2, 3] (wr := [(a0, .inr (4, [.ref a1, .ref a2, .int 0, .ref a3])), (a1, .inl (cy 5, 9, .inr (.inr (.inr (.inr (va_up (va_up (va_up (va_up (va_up (va_up (va_up (va_up (va_up (va_up (va_up (va_up (fun _ => none) 0 (some a4)) 1 (some a5)) 2 (some a6)) 3 (some a7)) 4 (some a8)) 5 (some a9)) 6 (some a10)) 7 (some a11)) 8 (some a12)) 0 (some a13)) 2 (some a14)) 3 (some n1))))))), (a7, .inl (cy 1, 0, .inl (fun _ => 0))), (n1, .inl (cy 1, 1830, .inl (learnF 3 (PP 60 1 (xn - 1) + (yn - xn)))))]) ⟨rfl, rfl, rfl, rfl, by decide⟩ rfl rfl ⟨by omega, by omega, Nat.le_of_ble_eq_true rfl⟩ cells slots ⟨rfl, rfl, hcs.1, hcs.2⟩ dX4_learn_67 (fun u H locs hp w => ?_)
      have w : Wd D A s.heap [(a0, .inr (4, [.ref a1, .ref a2, .int 0, .ref a3])), (a1, .inl (cy 5, 9, .inr (.inr (.inr (.inr (va_up (va_up (va_up (va_up (va_up (va_up (va_up (va_up (va_up (va_up (va_up (va_up (fun _ => none) 0 (some a4)) 1 (some a5)) 2 (some a6)) 3 (some a7)) 4 (some a8)) 5 (some a9)) 6 (some a10)) 7 (some a11)) 8 (some a12)) 0 (some a13)) 2 (some a14)) 3 (some n1))))))), (a7, .inl (cy 1, 0, .inl (fun _ => 0))), (n1, .inl (cy 1, 1830, .inl (learnF 3 (PP 60 1 (xn - 1) + (yn - xn)))))] _ _ := w
      refine r_top (g2 := F0 m 70 ls [.int x, .int pr, .ref n1]) rfl ?_
      refine r_iast C w 3 rfl hin (learnF 3 (PP 60 1 (xn - 1) + (yn - xn) + 1)) hst [(a0, .inr (4, [.ref a1, .ref a2, .int 0, .ref a3])), (a1, .inl (cy 5, 9, .inr (.inr (.inr (.inr (va_up (va_up (va_up (va_up (va_up (va_up (va_up (va_up (va_up (va_up (va_up (va_up (fun _ => none) 0 (some a4)) 1 (some a5)) 2 (some a6)) 3 (some a7)) 4 (some a8)) 5 (some a9)) 6 (some a10)) 7 (some a11)) 8 (some a12)) 0 (some a13)) 2 (some a14)) 3 (some n1))))))), (a7, .inl (cy 1, 0, .inl (fun _ => 0))), (n1, .inl (cy 1, 1830, .inl (learnF 3 (PP 60 1 (xn - 1) + (yn - xn) + 1))))] rfl dX4_learn_70 (fun H locs w => ?_)
      refine lv_iinc (v := (y + 1)) (lv' := [(5, .int (y + 1)), (3, .int (pr + 1)), (0, .ref a0), (1, .int 3), (2, .ref n1), (4, .int x)]) C.1 C.2.1 dX4_learn_71 hl (k := 5) rfl rfl (by decide) rfl (fun ls hl => ?_)
      refine lv_goto (tgt := 43) C.1 C.2.1 dX4_learn_74 (by decide) ?_
      have eN : PP 60 1 (xn - 1) + (yn + 1 - xn) = PP 60 1 (xn - 1) + (yn - xn) + 1 := by omega
      exact ih xn (yn + 1) x (y + 1) (pr + 1) _ _ _ h1 h2 (by omega) (by omega) ex (by rw [ey]; exact nI_1 _) (by rw [ep, eN]; exact nI_1 _) (by rw [eN]; exact w) (lv_sub hl [2, 3, 4, 1, 5, 0] rfl) kk
  have outer : ∀ (k xn : Nat) (x pr : Int32) (H : Heap) (locs : List Loc) (ls : Array Slot), 1 ≤ xn → xn + k = 61 → x = nI xn → pr = nI (PP 60 1 (xn - 1)) → Wd D A s.heap [(a0, .inr (4, [.ref a1, .ref a2, .int 0, .ref a3])), (a1, .inl (cy 5, 9, .inr (.inr (.inr (.inr (va_up (va_up (va_up (va_up (va_up (va_up (va_up (va_up (va_up (va_up (va_up (va_up (fun _ => none) 0 (some a4)) 1 (some a5)) 2 (some a6)) 3 (some a7)) 4 (some a8)) 5 (some a9)) 6 (some a10)) 7 (some a11)) 8 (some a12)) 0 (some a13)) 2 (some a14)) 3 (some n1))))))), (a7, .inl (cy 1, 0, .inl (fun _ => 0))), (n1, .inl (cy 1, 1830, .inl (learnF 3 (PP 60 1 (xn - 1)))))] H locs → lv_has ls 6 [(0, .ref a0), (1, .int 3), (2, .ref n1), (3, .int pr), (4, .int x)] → W p l e R s m args below meth c H locs cells slots Q (F0 m 32 ls []) := by
    intro k
    induction k with
    | zero =>
      intro xn x pr H locs ls h1 h4 ex ep w hl
      have hx : xn = 61 := by omega
      subst hx
      have c1 : (60 : Int32) < x := by rw [ex]; decide
      refine lv_iload C.1 C.2.1 dX4_learn_32 (lv_at hl 4 rfl) ?_
      refine lv_bipush (v := 60) C.1 C.2.1 dX4_learn_34 (by decide) ?_
      refine b_icmp_gt_t C (tgt := 83) dX4_learn_36 (by decide) c1 ?_
      have e6 : PP 60 1 (61 - 1) = 1830 := PP_tot
      rw [e6] at w
      exact kk _ _ _ w (lv_sub hl [0, 1, 2] rfl)
    | succ k ih =>
      intro xn x pr H locs ls h1 h4 ex ep w hl
      have c1 : ¬ (60 : Int32) < x := by rw [ex]; exact nI_nlt (a := 60) (by omega) (by omega)
      refine lv_iload C.1 C.2.1 dX4_learn_32 (lv_at hl 4 rfl) ?_
      refine lv_bipush (v := 60) C.1 C.2.1 dX4_learn_34 (by decide) ?_
      refine b_icmp_gt_f C (tgt := 83) dX4_learn_36 (by decide) c1 ?_
      refine lv_iload C.1 C.2.1 dX4_learn_39 (lv_at hl 4 rfl) ?_
      refine lv_istore (lv' := [(5, .int x), (0, .ref a0), (1, .int 3), (2, .ref n1), (3, .int pr), (4, .int x)]) C.1 C.2.1 dX4_learn_41 hl (by decide) rfl (fun ls hl => ?_)
      have eN : PP 60 1 (xn - 1) + (xn - xn) = PP 60 1 (xn - 1) := by omega
      refine inner (61 - xn) xn xn x x pr _ _ _ h1 (by omega) (Nat.le_refl _) (by omega) ex ex (by rw [ep, eN]) (by rw [eN]; exact w) (lv_sub hl [1, 2, 3, 4, 5, 0] rfl) (fun H locs ls pr1 y1 ep1 w hl => ?_)
      refine lv_iinc (v := (x + 1)) (lv' := [(4, .int (x + 1)), (0, .ref a0), (1, .int 3), (2, .ref n1), (3, .int pr1), (5, .int y1)]) C.1 C.2.1 dX4_learn_77 hl (k := 4) rfl rfl (by decide) rfl (fun ls hl => ?_)
      refine lv_goto (tgt := 32) C.1 C.2.1 dX4_learn_80 (by decide) ?_
      exact ih (xn + 1) (x + 1) pr1 _ _ _ (by omega) (by omega) (by rw [ex]; exact nI_1 _) (by rw [ep1]; rfl) (by exact w) (lv_sub hl [1, 2, 3, 4, 0] rfl)
  refine outer 60 1 1 0 _ _ _ (Nat.le_refl _) rfl rfl rfl ?_ hl
  have e0 : learnF 3 (PP 60 1 (1 - 1)) = fun _ => 0 := learnF_0 3
  rw [e0]
  exact w
set_option maxRecDepth 100000 in
set_option maxHeartbeats 4000000 in
theorem c_X4_learn_2 (l : Launch) (D : va_G) (cy : Nat → ClassId) (a0 a1 a2 a3 a4 a5 a6 a7 a8 a9 a10 a11 a12 a13 a14 : Nat) : Ct l D cy yX4_learn cX4_learn 6 none 1 30 1 1830 [(a0, .inr (4, [.ref a1, .ref a2, .int 0, .ref a3])), (a1, .inl (cy 5, 9, .inr (.inr (.inr (.inr (va_up (va_up (va_up (va_up (va_up (va_up (va_up (va_up (va_up (va_up (va_up (fun _ => none) 0 (some a4)) 1 (some a5)) 2 (some a6)) 3 (some a7)) 4 (some a8)) 5 (some a9)) 6 (some a10)) 7 (some a11)) 8 (some a12)) 0 (some a13)) 2 (some a14))))))), (a7, .inl (cy 1, 0, .inl (fun _ => 0)))] [.ref a0, .int 3] (fun u : Nat => none) (fun _ => True) (fun u : Nat => [(a0, .inr (4, [.ref a1, .ref a2, .int 0, .ref a3])), (a1, .inl (cy 5, 9, .inr (.inr (.inr (.inr (va_up (va_up (va_up (va_up (va_up (va_up (va_up (va_up (va_up (va_up (va_up (va_up (fun _ => none) 0 (some a4)) 1 (some a5)) 2 (some a6)) 3 (some a7)) 4 (some a8)) 5 (some a9)) 6 (some a10)) 7 (some a11)) 8 (some a12)) 0 (some a13)) 2 (some a14)) 3 (some u))))))), (a7, .inl (cy 1, 0, .inl (fun _ => 0))), (u, .inl (cy 1, 1830, .inl (learnF 3 1830)))]) := by
  refine Ct.of (by decide +kernel) (Nat.le_of_ble_eq_true rfl) ?_
  intro p e s m args below meth c A ls C hr hlocks hml hnm w hl
  have hl : lv_has ls 6 [(0, .ref a0), (1, .int 3)] := hl
  refine lv_aload_n C.1 C.2.1 dX4_learn_0 rfl (lv_at hl 0 rfl) ?_
  refine r_get C w 0 rfl rfl 0 (by decide) fl_RX4_13 (v := .ref a1) rfl dX4_learn_1 ?_
  refine lv_iload_n C.1 C.2.1 dX4_learn_4 rfl (lv_at hl 1 rfl) ?_
  refine r_aald C w 1 5 rfl rfl rfl (v := .ref a7) (vinD (by decide)) rfl dX4_learn_5 ?_
  refine r_alen C w 2 1 rfl rfl (v := 0) rfl dX4_learn_6 ?_
  refine lv_sipush (v := 1830) C.1 C.2.1 dX4_learn_7 (by decide) ?_
  refine b_icmp_ne_t C (tgt := 14) dX4_learn_10 (by decide) (by decide) ?_
  refine lv_sipush (v := 1830) C.1 C.2.1 dX4_learn_14 (by decide) ?_
  refine r_newa_int C w 1830 ac_int (by decide) (by decide) (by decide) 1 1830 rfl rfl ⟨Nat.le_of_ble_eq_true rfl, Nat.le_of_ble_eq_true rfl⟩ dX4_learn_17 (fun n1 H w => ?_)
  have w : Wd D A s.heap [(a0, .inr (4, [.ref a1, .ref a2, .int 0, .ref a3])), (a1, .inl (cy 5, 9, .inr (.inr (.inr (.inr (va_up (va_up (va_up (va_up (va_up (va_up (va_up (va_up (va_up (va_up (va_up (fun _ => none) 0 (some a4)) 1 (some a5)) 2 (some a6)) 3 (some a7)) 4 (some a8)) 5 (some a9)) 6 (some a10)) 7 (some a11)) 8 (some a12)) 0 (some a13)) 2 (some a14))))))), (a7, .inl (cy 1, 0, .inl (fun _ => 0))), (n1, .inl (cy 1, 1830, .inl (fun _ => 0)))] _ _ := w
  refine lv_astore_n (lv' := [(2, .ref n1), (0, .ref a0), (1, .int 3)]) C.1 C.2.1 dX4_learn_19 rfl hl (by decide) rfl (fun ls hl => ?_)
  refine lv_aload_n C.1 C.2.1 dX4_learn_20 rfl (lv_at hl 1 rfl) ?_
  refine r_get C w 0 rfl rfl 0 (by decide) fl_RX4_13 (v := .ref a1) rfl dX4_learn_21 ?_
  refine lv_iload_n C.1 C.2.1 dX4_learn_24 rfl (lv_at hl 2 rfl) ?_
  refine lv_aload_n C.1 C.2.1 dX4_learn_25 rfl (lv_at hl 0 rfl) ?_
  refine r_aastI C w 1 3 rfl rfl (vinD (by decide)) (va_up (va_up (va_up (va_up (va_up (va_up (va_up (va_up (va_up (va_up (va_up (va_up (fun _ => none) 0 (some a4)) 1 (some a5)) 2 (some a6)) 3 (some a7)) 4 (some a8)) 5 (some a9)) 6 (some a10)) 7 (some a11)) 8 (some a12)) 0 (some a13)) 2 (some a14)) 3 (some n1)) rfl [(a0, .inr (4, [.ref a1, .ref a2, .int 0, .ref a3])), (a1, .inl (cy 5, 9, .inr (.inr (.inr (.inr (va_up (va_up (va_up (va_up (va_up (va_up (va_up (va_up (va_up (va_up (va_up (va_up (fun _ => none) 0 (some a4)) 1 (some a5)) 2 (some a6)) 3 (some a7)) 4 (some a8)) 5 (some a9)) 6 (some a10)) 7 (some a11)) 8 (some a12)) 0 (some a13)) 2 (some a14)) 3 (some n1))))))), (a7, .inl (cy 1, 0, .inl (fun _ => 0))), (n1, .inl (cy 1, 1830, .inl (fun _ => 0)))] rfl dX4_learn_26 (fun H locs w => ?_)
  refine lv_iconst (v := 0) C.1 C.2.1 dX4_learn_27 (by decide) ?_
  refine lv_istore_n (lv' := [(3, .int 0), (2, .ref n1), (0, .ref a0), (1, .int 3)]) C.1 C.2.1 dX4_learn_28 rfl hl (by decide) rfl (fun ls hl => ?_)
  refine lv_iconst (v := 1) C.1 C.2.1 dX4_learn_29 (by decide) ?_
  refine lv_istore (lv' := [(4, .int 1), (3, .int 0), (2, .ref n1), (0, .ref a0), (1, .int 3)]) C.1 C.2.1 dX4_learn_30 hl (by decide) rfl (fun ls hl => ?_)
  refine lp_X4_learn_3 a0 a1 a2 a3 a4 a5 a6 a7 a8 a9 a10 a11 a12 a13 a14 n1 C hml (Nat.le_of_ble_eq_true rfl) (Nat.le_of_ble_eq_true rfl) ⟨Nat.le_of_ble_eq_true rfl, Nat.le_of_ble_eq_true rfl⟩ (w.re rfl) (lv_sub hl [3, 4, 2, 1, 0] rfl) (fun H locs ls w hl => ?_)
  have w : Wd D A s.heap [(a0, .inr (4, [.ref a1, .ref a2, .int 0, .ref a3])), (a1, .inl (cy 5, 9, .inr (.inr (.inr (.inr (va_up (va_up (va_up (va_up (va_up (va_up (va_up (va_up (va_up (va_up (va_up (va_up (fun _ => none) 0 (some a4)) 1 (some a5)) 2 (some a6)) 3 (some a7)) 4 (some a8)) 5 (some a9)) 6 (some a10)) 7 (some a11)) 8 (some a12)) 0 (some a13)) 2 (some a14)) 3 (some n1))))))), (a7, .inl (cy 1, 0, .inl (fun _ => 0))), (n1, .inl (cy 1, 1830, .inl (learnF 3 1830)))] _ _ := w
  exact r_vret C w hlocks n1 hr rfl trivial [0, 1, 2, 3] rfl rfl ⟨Nat.le_of_ble_eq_true rfl, Nat.le_of_ble_eq_true rfl⟩ dX4_learn_83
theorem dX4_learnFor_15 : decode cX4_learnFor 15 = .ok (.iconst 0, 1) := by decide +kernel
theorem dX4_learnFor_16 : decode cX4_learnFor 16 = .ok (.istore_n 2, 1) := by decide +kernel
theorem dX4_learnFor_17 : decode cX4_learnFor 17 = .ok (.iload_n 2, 1) := by decide +kernel
theorem dX4_learnFor_18 : decode cX4_learnFor 18 = .ok (.aload_n 1, 1) := by decide +kernel
theorem fl_RX4_45 : Cond.fieldLink RX4 45 "TwoSlips$Talk" "speakers" "I" ∈ gw := gw_mem (by decide +kernel) (by decide +kernel)
theorem dX4_learnFor_19 : decode cX4_learnFor 19 = .ok (.getfield 45, 3) := by decide +kernel
theorem dX4_learnFor_22 : decode cX4_learnFor 22 = .ok (.if_icmp .ge 19, 3) := by decide +kernel
theorem dX4_learnFor_41 : decode cX4_learnFor 41 = .ok (.return_, 1) := by decide +kernel
set_option maxRecDepth 100000 in
set_option maxHeartbeats 4000000 in
theorem c_X4_learnFor_0 (l : Launch) (D : va_G) (cy : Nat → ClassId) (a0 a1 a2 a3 a4 a5 a6 a7 a8 a9 a10 a11 a12 a13 a14 a15 a16 a17 a18 a19 a20 : Nat) : Ct l D cy yX4_learnFor cX4_learnFor 3 none 2 55 3 5490 [(a0, .inr (4, [.ref a2, .ref a3, .int 0, .ref a4])), (a1, .inr (9, [.int 0, .int 2, .int 20, .int 120, .int 0, .int 0, .int 0, .int 0, .ref a5, .int 0, .ref a6, .ref a7, .int 0, .ref a8, .ref a9, .ref a10, .ref a11])), (a2, .inl (cy 5, 9, .inr (.inr (.inr (.inr (va_up (va_up (va_up (va_up (va_up (va_up (va_up (va_up (va_up (fun _ => none) 0 (some a12)) 1 (some a13)) 2 (some a14)) 3 (some a15)) 4 (some a16)) 5 (some a17)) 6 (some a18)) 7 (some a19)) 8 (some a20))))))), (a12, .inl (cy 1, 0, .inl (fun _ => 0))), (a14, .inl (cy 1, 0, .inl (fun _ => 0))), (a15, .inl (cy 1, 0, .inl (fun _ => 0)))] [.ref a0, .ref a1] (fun u : Nat × Nat × Nat => none) (fun _ => True) (fun u : Nat × Nat × Nat => [(a1, .inr (9, [.int 0, .int 2, .int 20, .int 120, .int 0, .int 0, .int 0, .int 0, .ref a5, .int 0, .ref a6, .ref a7, .int 0, .ref a8, .ref a9, .ref a10, .ref a11])), (a12, .inl (cy 1, 0, .inl (fun _ => 0))), (u.1, .inl (cy 1, 1830, .inl (learnF 0 1830))), (a14, .inl (cy 1, 0, .inl (fun _ => 0))), (u.2.1, .inl (cy 1, 1830, .inl (learnF 2 1830))), (a0, .inr (4, [.ref a2, .ref a3, .int 0, .ref a4])), (a2, .inl (cy 5, 9, .inr (.inr (.inr (.inr (va_up (va_up (va_up (va_up (va_up (va_up (va_up (va_up (va_up (va_up (va_up (va_up (fun _ => none) 0 (some a12)) 1 (some a13)) 2 (some a14)) 3 (some a15)) 4 (some a16)) 5 (some a17)) 6 (some a18)) 7 (some a19)) 8 (some a20)) 0 (some u.1)) 2 (some u.2.1)) 3 (some u.2.2))))))), (a15, .inl (cy 1, 0, .inl (fun _ => 0))), (u.2.2, .inl (cy 1, 1830, .inl (learnF 3 1830)))]) := by
  refine Ct.of (by decide +kernel) (Nat.le_of_ble_eq_true rfl) ?_
  intro p e s m args below meth c A ls C hr hlocks hml hnm w hl
  have hl : lv_has ls 3 [(0, .ref a0), (1, .ref a1)] := hl
  refine lv_aload_n C.1 C.2.1 dX4_learnFor_0 rfl (lv_at hl 0 rfl) ?_
  refine lv_iconst (v := 0) C.1 C.2.1 dX4_learnFor_1 (by decide) ?_
  refine r_callV C w fv_RX4_41 (c_X4_learn_0 l D cy a0 a2 a3 a4 a12 a13 a14 a15 a16 a17 a18 a19 a20) (hl.1.trans hml.symm) [0, 2, 3] [1, 4, 5] (wr := [(a1, .inr (9, [.int 0, .int 2, .int 20, .int 120, .int 0, .int 0, .int 0, .int 0, .ref a5, .int 0, .ref a6, .ref a7, .int 0, .ref a8, .ref a9, .ref a10, .ref a11])), (a14, .inl (cy 1, 0, .inl (fun _ => 0))), (a15, .inl (cy 1, 0, .inl (fun _ => 0)))]) ⟨rfl, rfl, rfl, rfl, by decide⟩ 0 rfl rfl rfl rfl rfl ⟨Nat.le_of_ble_eq_true rfl, Nat.le_of_ble_eq_true rfl, Nat.le_of_ble_eq_true rfl⟩ 1 1830 ⟨rfl, rfl, Nat.le_of_ble_eq_true rfl, Nat.le_of_ble_eq_true rfl⟩ dX4_learnFor_2 (fun u H locs hp w => ?_)
  obtain ⟨n1, rfl⟩ : ∃ z, z = u := ⟨_, rfl⟩
  have w : Wd D A s.heap [(a1, .inr (9, [.int 0, .int 2, .int 20, .int 120, .int 0, .int 0, .int 0, .int 0, .ref a5, .int 0, .ref a6, .ref a7, .int 0, .ref a8, .ref a9, .ref a10, .ref a11])), (a14, .inl (cy 1, 0, .inl (fun _ => 0))), (a15, .inl (cy 1, 0, .inl (fun _ => 0))), (a0, .inr (4, [.ref a2, .ref a3, .int 0, .ref a4])), (a2, .inl (cy 5, 9, .inr (.inr (.inr (.inr (va_up (va_up (va_up (va_up (va_up (va_up (va_up (va_up (va_up (va_up (fun _ => none) 0 (some a12)) 1 (some a13)) 2 (some a14)) 3 (some a15)) 4 (some a16)) 5 (some a17)) 6 (some a18)) 7 (some a19)) 8 (some a20)) 0 (some n1))))))), (a12, .inl (cy 1, 0, .inl (fun _ => 0))), (n1, .inl (cy 1, 1830, .inl (learnF 0 1830)))] _ _ := w
  refine r_top (g2 := F0 m 5 ls []) rfl ?_
  refine lv_aload_n C.1 C.2.1 dX4_learnFor_5 rfl (lv_at hl 0 rfl) ?_
  refine lv_iconst (v := 2) C.1 C.2.1 dX4_learnFor_6 (by decide) ?_
  refine r_callV C w fv_RX4_41 (c_X4_learn_1 l D cy a0 a2 a3 a4 a12 a13 a14 a15 a16 a17 a18 a19 a20 n1) (hl.1.trans hml.symm) [3, 4, 1] [0, 2, 5, 6] (wr := [(a1, .inr (9, [.int 0, .int 2, .int 20, .int 120, .int 0, .int 0, .int 0, .int 0, .ref a5, .int 0, .ref a6, .ref a7, .int 0, .ref a8, .ref a9, .ref a10, .ref a11])), (a15, .inl (cy 1, 0, .inl (fun _ => 0))), (a12, .inl (cy 1, 0, .inl (fun _ => 0))), (n1, .inl (cy 1, 1830, .inl (learnF 0 1830)))]) ⟨rfl, rfl, rfl, rfl, by decide⟩ 0 rfl rfl rfl rfl rfl ⟨Nat.le_of_ble_eq_true rfl, Nat.le_of_ble_eq_true rfl, Nat.le_of_ble_eq_true rfl⟩ 2 3660 ⟨rfl, rfl, Nat.le_of_ble_eq_true rfl, Nat.le_of_ble_eq_true rfl⟩ dX4_learnFor_7 (fun u H locs hp w => ?_)
  obtain ⟨n2, rfl⟩ : ∃ z, z = u := ⟨_, rfl⟩
  have w : Wd D A s.heap [(a1, .inr (9, [.int 0, .int 2, .int 20, .int 120, .int 0, .int 0, .int 0, .int 0, .ref a5, .int 0, .ref a6, .ref a7, .int 0, .ref a8, .ref a9, .ref a10, .ref a11])), (a15, .inl (cy 1, 0, .inl (fun _ => 0))), (a12, .inl (cy 1, 0, .inl (fun _ => 0))), (n1, .inl (cy 1, 1830, .inl (learnF 0 1830))), (a0, .inr (4, [.ref a2, .ref a3, .int 0, .ref a4])), (a2, .inl (cy 5, 9, .inr (.inr (.inr (.inr (va_up (va_up (va_up (va_up (va_up (va_up (va_up (va_up (va_up (va_up (va_up (fun _ => none) 0 (some a12)) 1 (some a13)) 2 (some a14)) 3 (some a15)) 4 (some a16)) 5 (some a17)) 6 (some a18)) 7 (some a19)) 8 (some a20)) 0 (some n1)) 2 (some n2))))))), (a14, .inl (cy 1, 0, .inl (fun _ => 0))), (n2, .inl (cy 1, 1830, .inl (learnF 2 1830)))] _ _ := w
  refine r_top (g2 := F0 m 10 ls []) rfl ?_
  refine lv_aload_n C.1 C.2.1 dX4_learnFor_10 rfl (lv_at hl 0 rfl) ?_
  refine lv_iconst (v := 3) C.1 C.2.1 dX4_learnFor_11 (by decide) ?_
  refine r_callV C w fv_RX4_41 (c_X4_learn_2 l D cy a0 a2 a3 a4 a12 a13 a14 a15 a16 a17 a18 a19 a20 n1 n2) (hl.1.trans hml.symm) [4, 5, 1] [0, 2, 3, 6, 7] (wr := [(a1, .inr (9, [.int 0, .int 2, .int 20, .int 120, .int 0, .int 0, .int 0, .int 0, .ref a5, .int 0, .ref a6, .ref a7, .int 0, .ref a8, .ref a9, .ref a10, .ref a11])), (a12, .inl (cy 1, 0, .inl (fun _ => 0))), (n1, .inl (cy 1, 1830, .inl (learnF 0 1830))), (a14, .inl (cy 1, 0, .inl (fun _ => 0))), (n2, .inl (cy 1, 1830, .inl (learnF 2 1830)))]) ⟨rfl, rfl, rfl, rfl, by decide⟩ 0 rfl rfl rfl rfl rfl ⟨Nat.le_of_ble_eq_true rfl, Nat.le_of_ble_eq_true rfl, Nat.le_of_ble_eq_true rfl⟩ 3 5490 ⟨rfl, rfl, Nat.le_of_ble_eq_true rfl, Nat.le_of_ble_eq_true rfl⟩ dX4_learnFor_12 (fun u H locs hp w => ?_)
  obtain ⟨n3, rfl⟩ : ∃ z, z = u := ⟨_, rfl⟩
  have w : Wd D A s.heap [(a1, .inr (9, [.int 0, .int 2, .int 20, .int 120, .int 0, .int 0, .int 0, .int 0, .ref a5, .int 0, .ref a6, .ref a7, .int 0, .ref a8, .ref a9, .ref a10, .ref a11])), (a12, .inl (cy 1, 0, .inl (fun _ => 0))), (n1, .inl (cy 1, 1830, .inl (learnF 0 1830))), (a14, .inl (cy 1, 0, .inl (fun _ => 0))), (n2, .inl (cy 1, 1830, .inl (learnF 2 1830))), (a0, .inr (4, [.ref a2, .ref a3, .int 0, .ref a4])), (a2, .inl (cy 5, 9, .inr (.inr (.inr (.inr (va_up (va_up (va_up (va_up (va_up (va_up (va_up (va_up (va_up (va_up (va_up (va_up (fun _ => none) 0 (some a12)) 1 (some a13)) 2 (some a14)) 3 (some a15)) 4 (some a16)) 5 (some a17)) 6 (some a18)) 7 (some a19)) 8 (some a20)) 0 (some n1)) 2 (some n2)) 3 (some n3))))))), (a15, .inl (cy 1, 0, .inl (fun _ => 0))), (n3, .inl (cy 1, 1830, .inl (learnF 3 1830)))] _ _ := w
  refine r_top (g2 := F0 m 15 ls []) rfl ?_
  refine lv_iconst (v := 0) C.1 C.2.1 dX4_learnFor_15 (by decide) ?_
  refine lv_istore_n (lv' := [(2, .int 0), (0, .ref a0), (1, .ref a1)]) C.1 C.2.1 dX4_learnFor_16 rfl hl (by decide) rfl (fun ls hl => ?_)
  refine lv_iload_n C.1 C.2.1 dX4_learnFor_17 rfl (lv_at hl 0 rfl) ?_
  refine lv_aload_n C.1 C.2.1 dX4_learnFor_18 rfl (lv_at hl 2 rfl) ?_
  refine r_get C w 0 rfl rfl 5 (by decide) fl_RX4_45 (v := .int 0) rfl dX4_learnFor_19 ?_
  refine b_icmp_ge_t C (tgt := 41) dX4_learnFor_22 (by decide) (by decide) ?_
  exact r_vret C w hlocks (n1, n2, n3) hr rfl trivial [0, 1, 2, 3, 4, 5, 6, 7, 8] rfl rfl ⟨Nat.le_of_ble_eq_true rfl, Nat.le_of_ble_eq_true rfl⟩ dX4_learnFor_41
theorem fv_RX6_102 : FV RX6 102 yX4_learnFor cX4_learnFor 3 none 1 := ⟨⟨gw_mem (by decide +kernel) (by decide +kernel), gw_mem (by decide +kernel) (by decide +kernel), gw_mem (by decide +kernel) (by decide +kernel), gw_mem (by decide +kernel) (by decide +kernel), gw_mem (by decide +kernel) (by decide +kernel)⟩, ⟨by decide +kernel, by decide +kernel, by decide +kernel⟩⟩
theorem dX6_take_70 : decode cX6_take 70 = .ok (.aload_n 0, 1) := by decide +kernel
theorem dX6_take_71 : decode cX6_take 71 = .ok (.getfield 42, 3) := by decide +kernel
theorem dX6_take_74 : decode cX6_take 74 = .ok (.aload_n 0, 1) := by decide +kernel
theorem dX6_take_75 : decode cX6_take 75 = .ok (.getfield 24, 3) := by decide +kernel
theorem dX6_take_78 : decode cX6_take 78 = .ok (.invokevirtual 106, 3) := by decide +kernel
theorem dX1_take_0 : decode cX1_take 0 = .ok (.aload_n 0, 1) := by decide +kernel
theorem dX1_take_1 : decode cX1_take 1 = .ok (.aload_n 1, 1) := by decide +kernel
theorem dX1_take_2 : decode cX1_take 2 = .ok (.putfield 27, 3) := by decide +kernel
theorem dX1_take_5 : decode cX1_take 5 = .ok (.aload_n 0, 1) := by decide +kernel
theorem dX1_take_6 : decode cX1_take 6 = .ok (.bipush (-2), 2) := by decide +kernel
theorem dX1_take_8 : decode cX1_take 8 = .ok (.putfield 31, 3) := by decide +kernel
theorem fl_RX1_31 : Cond.fieldLink RX1 31 "TwoSlips$Changes" "firstEnd" "I" ∈ gw := gw_mem (by decide +kernel) (by decide +kernel)
theorem dX1_take_11 : decode cX1_take 11 = .ok (.aload_n 0, 1) := by decide +kernel
theorem dX1_take_12 : decode cX1_take 12 = .ok (.bipush (-2), 2) := by decide +kernel
theorem dX1_take_14 : decode cX1_take 14 = .ok (.putfield 35, 3) := by decide +kernel
theorem fl_RX1_35 : Cond.fieldLink RX1 35 "TwoSlips$Changes" "lastEnd" "I" ∈ gw := gw_mem (by decide +kernel) (by decide +kernel)
theorem dX1_take_17 : decode cX1_take 17 = .ok (.iconst 0, 1) := by decide +kernel
theorem dX1_take_18 : decode cX1_take 18 = .ok (.istore_n 2, 1) := by decide +kernel
theorem dX1_take_19 : decode cX1_take 19 = .ok (.iload_n 2, 1) := by decide +kernel
theorem dX1_take_20 : decode cX1_take 20 = .ok (.bipush 6, 2) := by decide +kernel
theorem dX1_take_22 : decode cX1_take 22 = .ok (.if_icmp .ge 17, 3) := by decide +kernel
theorem dX1_take_25 : decode cX1_take 25 = .ok (.aload_n 0, 1) := by decide +kernel
theorem dX1_take_26 : decode cX1_take 26 = .ok (.getfield 11, 3) := by decide +kernel
theorem dX1_take_29 : decode cX1_take 29 = .ok (.iload_n 2, 1) := by decide +kernel
theorem dX1_take_30 : decode cX1_take 30 = .ok (.bipush (-2), 2) := by decide +kernel
theorem dX1_take_32 : decode cX1_take 32 = .ok (.iastore, 1) := by decide +kernel
theorem dX1_take_33 : decode cX1_take 33 = .ok (.iinc 2 1, 3) := by decide +kernel
theorem dX1_take_36 : decode cX1_take 36 = .ok (.goto (-17), 3) := by decide +kernel
theorem dX1_take_39 : decode cX1_take 39 = .ok (.aload_n 0, 1) := by decide +kernel
theorem dX1_take_40 : decode cX1_take 40 = .ok (.iconst 0, 1) := by decide +kernel
theorem dX1_take_41 : decode cX1_take 41 = .ok (.putfield 38, 3) := by decide +kernel
theorem fl_RX1_38 : Cond.fieldLink RX1 38 "TwoSlips$Changes" "mendingSought" "Z" ∈ gw := gw_mem (by decide +kernel) (by decide +kernel)
theorem dX1_take_44 : decode cX1_take 44 = .ok (.aload_n 0, 1) := by decide +kernel
theorem dX1_take_45 : decode cX1_take 45 = .ok (.iconst (-1), 1) := by decide +kernel
theorem dX1_take_46 : decode cX1_take 46 = .ok (.putfield 42, 3) := by decide +kernel
theorem fl_RX1_42 : Cond.fieldLink RX1 42 "TwoSlips$Changes" "orderedPair" "I" ∈ gw := gw_mem (by decide +kernel) (by decide +kernel)
theorem dX1_take_49 : decode cX1_take 49 = .ok (.return_, 1) := by decide +kernel
set_option maxRecDepth 100000 in
set_option maxHeartbeats 4000000 in
theorem c_X1_take_0 (l : Launch) (D : va_G) (cy : Nat → ClassId) (a0 a1 a2 a3 a4 a5 : Nat) : Ct l D cy yX1_take cX1_take 3 none 0 0 0 0 [(a0, .inr (1, [.ref a2, .ref a1, .int 0, .int 0, .ref a3, .int 0, .int 0, .int 0, .int 0, .int 0, .int 0, .ref a4, .ref a5])), (a3, .inl (cy 1, 6, .inl (fun _ => 0)))] [.ref a0, .ref a1] (fun u : Unit => none) (fun _ => True) (fun u : Unit => [(a0, .inr (1, [.ref a2, .ref a1, .int (-2), .int (-2), .ref a3, .int 0, .int 0, .int 0, .int 0, .int (-1), .int 0, .ref a4, .ref a5])), (a3, .inl (cy 1, 6, .inl (upd (upd (upd (upd (upd (upd (fun _ => 0) 0 (-2)) 1 (-2)) 2 (-2)) 3 (-2)) 4 (-2)) 5 (-2))))]) := by
  refine Ct.of (by decide +kernel) (Nat.le_of_ble_eq_true rfl) ?_
  intro p e s m args below meth c A ls C hr hlocks hml hnm w hl
  have hl : lv_has ls 3 [(0, .ref a0), (1, .ref a1)] := hl
  refine lv_aload_n C.1 C.2.1 dX1_take_0 rfl (lv_at hl 0 rfl) ?_
  refine lv_aload_n C.1 C.2.1 dX1_take_1 rfl (lv_at hl 1 rfl) ?_
  refine r_put C w 0 rfl rfl 1 (by decide) fl_RX1_27 rfl (ty := (.object "TwoSlips$Talk")) (tyX1_ok 1 (by decide)) rfl rfl (Nat.le_of_ble_eq_true rfl) [(a0, .inr (1, [.ref a2, .ref a1, .int 0, .int 0, .ref a3, .int 0, .int 0, .int 0, .int 0, .int 0, .int 0, .ref a4, .ref a5])), (a3, .inl (cy 1, 6, .inl (fun _ => 0)))] rfl dX1_take_2 (fun H locs w => ?_)
  refine lv_aload_n C.1 C.2.1 dX1_take_5 rfl (lv_at hl 0 rfl) ?_
  refine lv_bipush (v := (-2)) C.1 C.2.1 dX1_take_6 (by decide) ?_
  refine r_put C w 0 rfl rfl 2 (by decide) fl_RX1_31 rfl (ty := .int) (tyX1_ok 2 (by decide)) rfl rfl (Nat.le_of_ble_eq_true rfl) [(a0, .inr (1, [.ref a2, .ref a1, .int (-2), .int 0, .ref a3, .int 0, .int 0, .int 0, .int 0, .int 0, .int 0, .ref a4, .ref a5])), (a3, .inl (cy 1, 6, .inl (fun _ => 0)))] rfl dX1_take_8 (fun H locs w => ?_)
  refine lv_aload_n C.1 C.2.1 dX1_take_11 rfl (lv_at hl 0 rfl) ?_
  refine lv_bipush (v := (-2)) C.1 C.2.1 dX1_take_12 (by decide) ?_
  refine r_put C w 0 rfl rfl 3 (by decide) fl_RX1_35 rfl (ty := .int) (tyX1_ok 3 (by decide)) rfl rfl (Nat.le_of_ble_eq_true rfl) [(a0, .inr (1, [.ref a2, .ref a1, .int (-2), .int (-2), .ref a3, .int 0, .int 0, .int 0, .int 0, .int 0, .int 0, .ref a4, .ref a5])), (a3, .inl (cy 1, 6, .inl (fun _ => 0)))] rfl dX1_take_14 (fun H locs w => ?_)
  refine lv_iconst (v := 0) C.1 C.2.1 dX1_take_17 (by decide) ?_
  refine lv_istore_n (lv' := [(2, .int 0), (0, .ref a0), (1, .ref a1)]) C.1 C.2.1 dX1_take_18 rfl hl (by decide) rfl (fun ls hl => ?_)
  refine lv_iload_n C.1 C.2.1 dX1_take_19 rfl (lv_at hl 0 rfl) ?_
  refine lv_bipush (v := 6) C.1 C.2.1 dX1_take_20 (by decide) ?_
  refine b_icmp_ge_f C (tgt := 39) dX1_take_22 (by decide) (by decide) ?_
  refine lv_aload_n C.1 C.2.1 dX1_take_25 rfl (lv_at hl 1 rfl) ?_
  refine r_get C w 0 rfl rfl 4 (by decide) fl_RX1_11 (v := .ref a3) rfl dX1_take_26 ?_
  refine lv_iload_n C.1 C.2.1 dX1_take_29 rfl (lv_at hl 0 rfl) ?_
  refine lv_bipush (v := (-2)) C.1 C.2.1 dX1_take_30 (by decide) ?_
  refine r_iast C w 1 rfl (vinD (by decide)) (upd (fun _ => 0) 0 (-2)) rfl [(a0, .inr (1, [.ref a2, .ref a1, .int (-2), .int (-2), .ref a3, .int 0, .int 0, .int 0, .int 0, .int 0, .int 0, .ref a4, .ref a5])), (a3, .inl (cy 1, 6, .inl (upd (fun _ => 0) 0 (-2))))] rfl dX1_take_32 (fun H locs w => ?_)
  refine lv_iinc (v := 1) (lv' := [(2, .int 1), (0, .ref a0), (1, .ref a1)]) C.1 C.2.1 dX1_take_33 hl (k := 0) rfl (by decide) (by decide) rfl (fun ls hl => ?_)
  refine lv_goto (tgt := 19) C.1 C.2.1 dX1_take_36 (by decide) ?_
  refine lv_iload_n C.1 C.2.1 dX1_take_19 rfl (lv_at hl 0 rfl) ?_
  refine lv_bipush (v := 6) C.1 C.2.1 dX1_take_20 (by decide) ?_
  refine b_icmp_ge_f C (tgt := 39) dX1_take_22 (by decide) (by decide) ?_
  refine lv_aload_n C.1 C.2.1 dX1_take_25 rfl (lv_at hl 1 rfl) ?_
  refine r_get C w 0 rfl rfl 4 (by decide) fl_RX1_11 (v := .ref a3) rfl dX1_take_26 ?_
  refine lv_iload_n C.1 C.2.1 dX1_take_29 rfl (lv_at hl 0 rfl) ?_
  refine lv_bipush (v := (-2)) C.1 C.2.1 dX1_take_30 (by decide) ?_
  refine r_iast C w 1 rfl (vinD (by decide)) (upd (upd (fun _ => 0) 0 (-2)) 1 (-2)) rfl [(a0, .inr (1, [.ref a2, .ref a1, .int (-2), .int (-2), .ref a3, .int 0, .int 0, .int 0, .int 0, .int 0, .int 0, .ref a4, .ref a5])), (a3, .inl (cy 1, 6, .inl (upd (upd (fun _ => 0) 0 (-2)) 1 (-2))))] rfl dX1_take_32 (fun H locs w => ?_)
  refine lv_iinc (v := 2) (lv' := [(2, .int 2), (0, .ref a0), (1, .ref a1)]) C.1 C.2.1 dX1_take_33 hl (k := 0) rfl (by decide) (by decide) rfl (fun ls hl => ?_)
  refine lv_goto (tgt := 19) C.1 C.2.1 dX1_take_36 (by decide) ?_
  refine lv_iload_n C.1 C.2.1 dX1_take_19 rfl (lv_at hl 0 rfl) ?_
  refine lv_bipush (v := 6) C.1 C.2.1 dX1_take_20 (by decide) ?_
  refine b_icmp_ge_f C (tgt := 39) dX1_take_22 (by decide) (by decide) ?_
  refine lv_aload_n C.1 C.2.1 dX1_take_25 rfl (lv_at hl 1 rfl) ?_
  refine r_get C w 0 rfl rfl 4 (by decide) fl_RX1_11 (v := .ref a3) rfl dX1_take_26 ?_
  refine lv_iload_n C.1 C.2.1 dX1_take_29 rfl (lv_at hl 0 rfl) ?_
  refine lv_bipush (v := (-2)) C.1 C.2.1 dX1_take_30 (by decide) ?_
  refine r_iast C w 1 rfl (vinD (by decide)) (upd (upd (upd (fun _ => 0) 0 (-2)) 1 (-2)) 2 (-2)) rfl [(a0, .inr (1, [.ref a2, .ref a1, .int (-2), .int (-2), .ref a3, .int 0, .int 0, .int 0, .int 0, .int 0, .int 0, .ref a4, .ref a5])), (a3, .inl (cy 1, 6, .inl (upd (upd (upd (fun _ => 0) 0 (-2)) 1 (-2)) 2 (-2))))] rfl dX1_take_32 (fun H locs w => ?_)
  refine lv_iinc (v := 3) (lv' := [(2, .int 3), (0, .ref a0), (1, .ref a1)]) C.1 C.2.1 dX1_take_33 hl (k := 0) rfl (by decide) (by decide) rfl (fun ls hl => ?_)
  refine lv_goto (tgt := 19) C.1 C.2.1 dX1_take_36 (by decide) ?_
  refine lv_iload_n C.1 C.2.1 dX1_take_19 rfl (lv_at hl 0 rfl) ?_
  refine lv_bipush (v := 6) C.1 C.2.1 dX1_take_20 (by decide) ?_
  refine b_icmp_ge_f C (tgt := 39) dX1_take_22 (by decide) (by decide) ?_
  refine lv_aload_n C.1 C.2.1 dX1_take_25 rfl (lv_at hl 1 rfl) ?_
  refine r_get C w 0 rfl rfl 4 (by decide) fl_RX1_11 (v := .ref a3) rfl dX1_take_26 ?_
  refine lv_iload_n C.1 C.2.1 dX1_take_29 rfl (lv_at hl 0 rfl) ?_
  refine lv_bipush (v := (-2)) C.1 C.2.1 dX1_take_30 (by decide) ?_
  refine r_iast C w 1 rfl (vinD (by decide)) (upd (upd (upd (upd (fun _ => 0) 0 (-2)) 1 (-2)) 2 (-2)) 3 (-2)) rfl [(a0, .inr (1, [.ref a2, .ref a1, .int (-2), .int (-2), .ref a3, .int 0, .int 0, .int 0, .int 0, .int 0, .int 0, .ref a4, .ref a5])), (a3, .inl (cy 1, 6, .inl (upd (upd (upd (upd (fun _ => 0) 0 (-2)) 1 (-2)) 2 (-2)) 3 (-2))))] rfl dX1_take_32 (fun H locs w => ?_)
  refine lv_iinc (v := 4) (lv' := [(2, .int 4), (0, .ref a0), (1, .ref a1)]) C.1 C.2.1 dX1_take_33 hl (k := 0) rfl (by decide) (by decide) rfl (fun ls hl => ?_)
  refine lv_goto (tgt := 19) C.1 C.2.1 dX1_take_36 (by decide) ?_
  refine lv_iload_n C.1 C.2.1 dX1_take_19 rfl (lv_at hl 0 rfl) ?_
  refine lv_bipush (v := 6) C.1 C.2.1 dX1_take_20 (by decide) ?_
  refine b_icmp_ge_f C (tgt := 39) dX1_take_22 (by decide) (by decide) ?_
  refine lv_aload_n C.1 C.2.1 dX1_take_25 rfl (lv_at hl 1 rfl) ?_
  refine r_get C w 0 rfl rfl 4 (by decide) fl_RX1_11 (v := .ref a3) rfl dX1_take_26 ?_
  refine lv_iload_n C.1 C.2.1 dX1_take_29 rfl (lv_at hl 0 rfl) ?_
  refine lv_bipush (v := (-2)) C.1 C.2.1 dX1_take_30 (by decide) ?_
  refine r_iast C w 1 rfl (vinD (by decide)) (upd (upd (upd (upd (upd (fun _ => 0) 0 (-2)) 1 (-2)) 2 (-2)) 3 (-2)) 4 (-2)) rfl [(a0, .inr (1, [.ref a2, .ref a1, .int (-2), .int (-2), .ref a3, .int 0, .int 0, .int 0, .int 0, .int 0, .int 0, .ref a4, .ref a5])), (a3, .inl (cy 1, 6, .inl (upd (upd (upd (upd (upd (fun _ => 0) 0 (-2)) 1 (-2)) 2 (-2)) 3 (-2)) 4 (-2))))] rfl dX1_take_32 (fun H locs w => ?_)
  refine lv_iinc (v := 5) (lv' := [(2, .int 5), (0, .ref a0), (1, .ref a1)]) C.1 C.2.1 dX1_take_33 hl (k := 0) rfl (by decide) (by decide) rfl (fun ls hl => ?_)
  refine lv_goto (tgt := 19) C.1 C.2.1 dX1_take_36 (by decide) ?_
  refine lv_iload_n C.1 C.2.1 dX1_take_19 rfl (lv_at hl 0 rfl) ?_
  refine lv_bipush (v := 6) C.1 C.2.1 dX1_take_20 (by decide) ?_
  refine b_icmp_ge_f C (tgt := 39) dX1_take_22 (by decide) (by decide) ?_
  refine lv_aload_n C.1 C.2.1 dX1_take_25 rfl (lv_at hl 1 rfl) ?_
  refine r_get C w 0 rfl rfl 4 (by decide) fl_RX1_11 (v := .ref a3) rfl dX1_take_26 ?_
  refine lv_iload_n C.1 C.2.1 dX1_take_29 rfl (lv_at hl 0 rfl) ?_
  refine lv_bipush (v := (-2)) C.1 C.2.1 dX1_take_30 (by decide) ?_
  refine r_iast C w 1 rfl (vinD (by decide)) (upd (upd (upd (upd (upd (upd (fun _ => 0) 0 (-2)) 1 (-2)) 2 (-2)) 3 (-2)) 4 (-2)) 5 (-2)) rfl [(a0, .inr (1, [.ref a2, .ref a1, .int (-2), .int (-2), .ref a3, .int 0, .int 0, .int 0, .int 0, .int 0, .int 0, .ref a4, .ref a5])), (a3, .inl (cy 1, 6, .inl (upd (upd (upd (upd (upd (upd (fun _ => 0) 0 (-2)) 1 (-2)) 2 (-2)) 3 (-2)) 4 (-2)) 5 (-2))))] rfl dX1_take_32 (fun H locs w => ?_)
  refine lv_iinc (v := 6) (lv' := [(2, .int 6), (0, .ref a0), (1, .ref a1)]) C.1 C.2.1 dX1_take_33 hl (k := 0) rfl (by decide) (by decide) rfl (fun ls hl => ?_)
  refine lv_goto (tgt := 19) C.1 C.2.1 dX1_take_36 (by decide) ?_
  refine lv_iload_n C.1 C.2.1 dX1_take_19 rfl (lv_at hl 0 rfl) ?_
  refine lv_bipush (v := 6) C.1 C.2.1 dX1_take_20 (by decide) ?_
  refine b_icmp_ge_t C (tgt := 39) dX1_take_22 (by decide) (by decide) ?_
  refine lv_aload_n C.1 C.2.1 dX1_take_39 rfl (lv_at hl 1 rfl) ?_
  refine lv_iconst (v := 0) C.1 C.2.1 dX1_take_40 (by decide) ?_
  refine r_put C w 0 rfl rfl 5 (by decide) fl_RX1_38 rfl (ty := .boolean) (tyX1_ok 5 (by decide)) rfl rfl (Nat.le_of_ble_eq_true rfl) [(a0, .inr (1, [.ref a2, .ref a1, .int (-2), .int (-2), .ref a3, .int 0, .int 0, .int 0, .int 0, .int 0, .int 0, .ref a4, .ref a5])), (a3, .inl (cy 1, 6, .inl (upd (upd (upd (upd (upd (upd (fun _ => 0) 0 (-2)) 1 (-2)) 2 (-2)) 3 (-2)) 4 (-2)) 5 (-2))))] rfl dX1_take_41 (fun H locs w => ?_)
  refine lv_aload_n C.1 C.2.1 dX1_take_44 rfl (lv_at hl 1 rfl) ?_
  refine lv_iconst (v := (-1)) C.1 C.2.1 dX1_take_45 (by decide) ?_
  refine r_put C w 0 rfl rfl 9 (by decide) fl_RX1_42 rfl (ty := .int) (tyX1_ok 9 (by decide)) rfl rfl (Nat.le_of_ble_eq_true rfl) [(a0, .inr (1, [.ref a2, .ref a1, .int (-2), .int (-2), .ref a3, .int 0, .int 0, .int 0, .int 0, .int (-1), .int 0, .ref a4, .ref a5])), (a3, .inl (cy 1, 6, .inl (upd (upd (upd (upd (upd (upd (fun _ => 0) 0 (-2)) 1 (-2)) 2 (-2)) 3 (-2)) 4 (-2)) 5 (-2))))] rfl dX1_take_46 (fun H locs w => ?_)
  exact r_vret C w hlocks () hr rfl trivial [0, 1] rfl rfl ⟨Nat.le_of_ble_eq_true rfl, Nat.le_of_ble_eq_true rfl⟩ dX1_take_49
theorem fv_RX6_106 : FV RX6 106 yX1_take cX1_take 3 none 1 := ⟨⟨gw_mem (by decide +kernel) (by decide +kernel), gw_mem (by decide +kernel) (by decide +kernel), gw_mem (by decide +kernel) (by decide +kernel), gw_mem (by decide +kernel) (by decide +kernel), gw_mem (by decide +kernel) (by decide +kernel)⟩, ⟨by decide +kernel, by decide +kernel, by decide +kernel⟩⟩
theorem dX6_take_81 : decode cX6_take 81 = .ok (.aload_n 0, 1) := by decide +kernel
theorem dX6_take_82 : decode cX6_take 82 = .ok (.getfield 49, 3) := by decide +kernel
theorem dX6_take_85 : decode cX6_take 85 = .ok (.aload_n 0, 1) := by decide +kernel
theorem dX6_take_86 : decode cX6_take 86 = .ok (.getfield 24, 3) := by decide +kernel
theorem dX6_take_89 : decode cX6_take 89 = .ok (.invokevirtual 109, 3) := by decide +kernel
theorem dX3_take_0 : decode cX3_take 0 = .ok (.aload_n 0, 1) := by decide +kernel
theorem dX3_take_1 : decode cX3_take 1 = .ok (.aload_n 1, 1) := by decide +kernel
theorem dX3_take_2 : decode cX3_take 2 = .ok (.putfield 24, 3) := by decide +kernel
theorem dX3_take_5 : decode cX3_take 5 = .ok (.aload_n 0, 1) := by decide +kernel
theorem dX3_take_6 : decode cX3_take 6 = .ok (.iconst (-1), 1) := by decide +kernel
theorem dX3_take_7 : decode cX3_take 7 = .ok (.putfield 28, 3) := by decide +kernel
theorem fl_RX3_28 : Cond.fieldLink RX3 28 "TwoSlips$Mute" "one" "I" ∈ gw := gw_mem (by decide +kernel) (by decide +kernel)
theorem dX3_take_10 : decode cX3_take 10 = .ok (.aload_n 0, 1) := by decide +kernel
theorem dX3_take_11 : decode cX3_take 11 = .ok (.iconst (-1), 1) := by decide +kernel
theorem dX3_take_12 : decode cX3_take 12 = .ok (.putfield 32, 3) := by decide +kernel
theorem fl_RX3_32 : Cond.fieldLink RX3 32 "TwoSlips$Mute" "other" "I" ∈ gw := gw_mem (by decide +kernel) (by decide +kernel)
theorem dX3_take_15 : decode cX3_take 15 = .ok (.return_, 1) := by decide +kernel
set_option maxRecDepth 100000 in
set_option maxHeartbeats 4000000 in
theorem c_X3_take_0 (l : Launch) (D : va_G) (cy : Nat → ClassId) (a0 a1 a2 a3 a4 : Nat) : Ct l D cy yX3_take cX3_take 2 none 0 0 0 0 [(a0, .inr (3, [.ref a2, .ref a3, .ref a1, .int 0, .int 0, .ref a4, .int 0, .int 0, .int 0]))] [.ref a0, .ref a1] (fun u : Unit => none) (fun _ => True) (fun u : Unit => [(a0, .inr (3, [.ref a2, .ref a3, .ref a1, .int (-1), .int (-1), .ref a4, .int 0, .int 0, .int 0]))]) := by
  refine Ct.of (by decide +kernel) (Nat.le_of_ble_eq_true rfl) ?_
  intro p e s m args below meth c A ls C hr hlocks hml hnm w hl
  have hl : lv_has ls 2 [(0, .ref a0), (1, .ref a1)] := hl
  refine lv_aload_n C.1 C.2.1 dX3_take_0 rfl (lv_at hl 0 rfl) ?_
  refine lv_aload_n C.1 C.2.1 dX3_take_1 rfl (lv_at hl 1 rfl) ?_
  refine r_put C w 0 rfl rfl 2 (by decide) fl_RX3_24 rfl (ty := (.object "TwoSlips$Talk")) (tyX3_ok 2 (by decide)) rfl rfl (Nat.le_of_ble_eq_true rfl) [(a0, .inr (3, [.ref a2, .ref a3, .ref a1, .int 0, .int 0, .ref a4, .int 0, .int 0, .int 0]))] rfl dX3_take_2 (fun H locs w => ?_)
  refine lv_aload_n C.1 C.2.1 dX3_take_5 rfl (lv_at hl 0 rfl) ?_
  refine lv_iconst (v := (-1)) C.1 C.2.1 dX3_take_6 (by decide) ?_
  refine r_put C w 0 rfl rfl 3 (by decide) fl_RX3_28 rfl (ty := .int) (tyX3_ok 3 (by decide)) rfl rfl (Nat.le_of_ble_eq_true rfl) [(a0, .inr (3, [.ref a2, .ref a3, .ref a1, .int (-1), .int 0, .ref a4, .int 0, .int 0, .int 0]))] rfl dX3_take_7 (fun H locs w => ?_)
  refine lv_aload_n C.1 C.2.1 dX3_take_10 rfl (lv_at hl 0 rfl) ?_
  refine lv_iconst (v := (-1)) C.1 C.2.1 dX3_take_11 (by decide) ?_
  refine r_put C w 0 rfl rfl 4 (by decide) fl_RX3_32 rfl (ty := .int) (tyX3_ok 4 (by decide)) rfl rfl (Nat.le_of_ble_eq_true rfl) [(a0, .inr (3, [.ref a2, .ref a3, .ref a1, .int (-1), .int (-1), .ref a4, .int 0, .int 0, .int 0]))] rfl dX3_take_12 (fun H locs w => ?_)
  exact r_vret C w hlocks () hr rfl trivial [0] rfl rfl ⟨Nat.le_of_ble_eq_true rfl, Nat.le_of_ble_eq_true rfl⟩ dX3_take_15
theorem fv_RX6_109 : FV RX6 109 yX3_take cX3_take 2 none 1 := ⟨⟨gw_mem (by decide +kernel) (by decide +kernel), gw_mem (by decide +kernel) (by decide +kernel), gw_mem (by decide +kernel) (by decide +kernel), gw_mem (by decide +kernel) (by decide +kernel), gw_mem (by decide +kernel) (by decide +kernel)⟩, ⟨by decide +kernel, by decide +kernel, by decide +kernel⟩⟩
theorem dX6_take_92 : decode cX6_take 92 = .ok (.aload_n 0, 1) := by decide +kernel
theorem dX6_take_93 : decode cX6_take 93 = .ok (.getfield 56, 3) := by decide +kernel
theorem dX6_take_96 : decode cX6_take 96 = .ok (.aload_n 0, 1) := by decide +kernel
theorem dX6_take_97 : decode cX6_take 97 = .ok (.getfield 24, 3) := by decide +kernel
theorem dX6_take_100 : decode cX6_take 100 = .ok (.invokevirtual 110, 3) := by decide +kernel
theorem dX0_take_0 : decode cX0_take 0 = .ok (.aload_n 0, 1) := by decide +kernel
theorem dX0_take_1 : decode cX0_take 1 = .ok (.aload_n 1, 1) := by decide +kernel
theorem dX0_take_2 : decode cX0_take 2 = .ok (.putfield 19, 3) := by decide +kernel
theorem dX0_take_5 : decode cX0_take 5 = .ok (.return_, 1) := by decide +kernel
set_option maxRecDepth 100000 in
set_option maxHeartbeats 4000000 in
theorem c_X0_take_0 (l : Launch) (D : va_G) (cy : Nat → ClassId) (a0 a1 a2 a3 : Nat) : Ct l D cy yX0_take cX0_take 2 none 0 0 0 0 [(a0, .inr (0, [.ref a2, .ref a3, .ref a1, .int 0, .int 0]))] [.ref a0, .ref a1] (fun u : Unit => none) (fun _ => True) (fun u : Unit => [(a0, .inr (0, [.ref a2, .ref a3, .ref a1, .int 0, .int 0]))]) := by
  refine Ct.of (by decide +kernel) (Nat.le_of_ble_eq_true rfl) ?_
  intro p e s m args below meth c A ls C hr hlocks hml hnm w hl
  have hl : lv_has ls 2 [(0, .ref a0), (1, .ref a1)] := hl
  refine lv_aload_n C.1 C.2.1 dX0_take_0 rfl (lv_at hl 0 rfl) ?_
  refine lv_aload_n C.1 C.2.1 dX0_take_1 rfl (lv_at hl 1 rfl) ?_
  refine r_put C w 0 rfl rfl 2 (by decide) fl_RX0_19 rfl (ty := (.object "TwoSlips$Talk")) (tyX0_ok 2 (by decide)) rfl rfl (Nat.le_of_ble_eq_true rfl) [(a0, .inr (0, [.ref a2, .ref a3, .ref a1, .int 0, .int 0]))] rfl dX0_take_2 (fun H locs w => ?_)
  exact r_vret C w hlocks () hr rfl trivial [0] rfl rfl ⟨Nat.le_of_ble_eq_true rfl, Nat.le_of_ble_eq_true rfl⟩ dX0_take_5
theorem fv_RX6_110 : FV RX6 110 yX0_take cX0_take 2 none 1 := ⟨⟨gw_mem (by decide +kernel) (by decide +kernel), gw_mem (by decide +kernel) (by decide +kernel), gw_mem (by decide +kernel) (by decide +kernel), gw_mem (by decide +kernel) (by decide +kernel), gw_mem (by decide +kernel) (by decide +kernel)⟩, ⟨by decide +kernel, by decide +kernel, by decide +kernel⟩⟩
theorem dX6_take_103 : decode cX6_take 103 = .ok (.aload_n 0, 1) := by decide +kernel
theorem dX6_take_104 : decode cX6_take 104 = .ok (.getfield 65, 3) := by decide +kernel
theorem dX6_take_107 : decode cX6_take 107 = .ok (.invokevirtual 111, 3) := by decide +kernel
theorem dX8_forget_0 : decode cX8_forget 0 = .ok (.aload_n 0, 1) := by decide +kernel
theorem dX8_forget_1 : decode cX8_forget 1 = .ok (.iconst (-1), 1) := by decide +kernel
theorem dX8_forget_2 : decode cX8_forget 2 = .ok (.putfield 9, 3) := by decide +kernel
theorem dX8_forget_5 : decode cX8_forget 5 = .ok (.return_, 1) := by decide +kernel
set_option maxRecDepth 100000 in
set_option maxHeartbeats 4000000 in
theorem c_X8_forget_0 (l : Launch) (D : va_G) (cy : Nat → ClassId) (a0 a1 a2 : Nat) : Ct l D cy yX8_forget cX8_forget 1 none 0 0 0 0 [(a0, .inr (8, [.ref a1, .int (-1), .int 0, .int 0, .int 0, .int 0, .int 0, .ref a2]))] [.ref a0] (fun u : Unit => none) (fun _ => True) (fun u : Unit => [(a0, .inr (8, [.ref a1, .int (-1), .int 0, .int 0, .int 0, .int 0, .int 0, .ref a2]))]) := by
  refine Ct.of (by decide +kernel) (Nat.le_of_ble_eq_true rfl) ?_
  intro p e s m args below meth c A ls C hr hlocks hml hnm w hl
  have hl : lv_has ls 1 [(0, .ref a0)] := hl
  refine lv_aload_n C.1 C.2.1 dX8_forget_0 rfl (lv_at hl 0 rfl) ?_
  refine lv_iconst (v := (-1)) C.1 C.2.1 dX8_forget_1 (by decide) ?_
  refine r_put C w 0 rfl rfl 1 (by decide) fl_RX8_9 rfl (ty := .int) (tyX8_ok 1 (by decide)) rfl rfl (Nat.le_of_ble_eq_true rfl) [(a0, .inr (8, [.ref a1, .int (-1), .int 0, .int 0, .int 0, .int 0, .int 0, .ref a2]))] rfl dX8_forget_2 (fun H locs w => ?_)
  exact r_vret C w hlocks () hr rfl trivial [0] rfl rfl ⟨Nat.le_of_ble_eq_true rfl, Nat.le_of_ble_eq_true rfl⟩ dX8_forget_5
theorem fv_RX6_111 : FV RX6 111 yX8_forget cX8_forget 1 none 0 := ⟨⟨gw_mem (by decide +kernel) (by decide +kernel), gw_mem (by decide +kernel) (by decide +kernel), gw_mem (by decide +kernel) (by decide +kernel), gw_mem (by decide +kernel) (by decide +kernel), gw_mem (by decide +kernel) (by decide +kernel)⟩, ⟨by decide +kernel, by decide +kernel, by decide +kernel⟩⟩
theorem dX6_take_110 : decode cX6_take 110 = .ok (.aload_n 0, 1) := by decide +kernel
theorem dX6_take_111 : decode cX6_take 111 = .ok (.getfield 72, 3) := by decide +kernel
theorem dX6_take_114 : decode cX6_take 114 = .ok (.invokevirtual 114, 3) := by decide +kernel
theorem dX7_forget_0 : decode cX7_forget 0 = .ok (.aload_n 0, 1) := by decide +kernel
theorem dX7_forget_1 : decode cX7_forget 1 = .ok (.iconst (-1), 1) := by decide +kernel
theorem dX7_forget_2 : decode cX7_forget 2 = .ok (.putfield 9, 3) := by decide +kernel
theorem dX7_forget_5 : decode cX7_forget 5 = .ok (.aload_n 0, 1) := by decide +kernel
theorem dX7_forget_6 : decode cX7_forget 6 = .ok (.iconst (-1), 1) := by decide +kernel
theorem dX7_forget_7 : decode cX7_forget 7 = .ok (.putfield 15, 3) := by decide +kernel
theorem dX7_forget_10 : decode cX7_forget 10 = .ok (.aload_n 0, 1) := by decide +kernel
theorem dX7_forget_11 : decode cX7_forget 11 = .ok (.iconst (-1), 1) := by decide +kernel
theorem dX7_forget_12 : decode cX7_forget 12 = .ok (.putfield 18, 3) := by decide +kernel
theorem dX7_forget_15 : decode cX7_forget 15 = .ok (.return_, 1) := by decide +kernel
set_option maxRecDepth 100000 in
set_option maxHeartbeats 4000000 in
theorem c_X7_forget_0 (l : Launch) (D : va_G) (cy : Nat → ClassId) (a0 a1 a2 : Nat) : Ct l D cy yX7_forget cX7_forget 1 none 0 0 0 0 [(a0, .inr (7, [.ref a1, .int 0, .int (-1), .int (-1), .int (-1), .ref a2]))] [.ref a0] (fun u : Unit => none) (fun _ => True) (fun u : Unit => [(a0, .inr (7, [.ref a1, .int 0, .int (-1), .int (-1), .int (-1), .ref a2]))]) := by
  refine Ct.of (by decide +kernel) (Nat.le_of_ble_eq_true rfl) ?_
  intro p e s m args below meth c A ls C hr hlocks hml hnm w hl
  have hl : lv_has ls 1 [(0, .ref a0)] := hl
  refine lv_aload_n C.1 C.2.1 dX7_forget_0 rfl (lv_at hl 0 rfl) ?_
  refine lv_iconst (v := (-1)) C.1 C.2.1 dX7_forget_1 (by decide) ?_
  refine r_put C w 0 rfl rfl 2 (by decide) fl_RX7_9 rfl (ty := .int) (tyX7_ok 2 (by decide)) rfl rfl (Nat.le_of_ble_eq_true rfl) [(a0, .inr (7, [.ref a1, .int 0, .int (-1), .int (-1), .int (-1), .ref a2]))] rfl dX7_forget_2 (fun H locs w => ?_)
  refine lv_aload_n C.1 C.2.1 dX7_forget_5 rfl (lv_at hl 0 rfl) ?_
  refine lv_iconst (v := (-1)) C.1 C.2.1 dX7_forget_6 (by decide) ?_
  refine r_put C w 0 rfl rfl 3 (by decide) fl_RX7_15 rfl (ty := .int) (tyX7_ok 3 (by decide)) rfl rfl (Nat.le_of_ble_eq_true rfl) [(a0, .inr (7, [.ref a1, .int 0, .int (-1), .int (-1), .int (-1), .ref a2]))] rfl dX7_forget_7 (fun H locs w => ?_)
  refine lv_aload_n C.1 C.2.1 dX7_forget_10 rfl (lv_at hl 0 rfl) ?_
  refine lv_iconst (v := (-1)) C.1 C.2.1 dX7_forget_11 (by decide) ?_
  refine r_put C w 0 rfl rfl 4 (by decide) fl_RX7_18 rfl (ty := .int) (tyX7_ok 4 (by decide)) rfl rfl (Nat.le_of_ble_eq_true rfl) [(a0, .inr (7, [.ref a1, .int 0, .int (-1), .int (-1), .int (-1), .ref a2]))] rfl dX7_forget_12 (fun H locs w => ?_)
  exact r_vret C w hlocks () hr rfl trivial [0] rfl rfl ⟨Nat.le_of_ble_eq_true rfl, Nat.le_of_ble_eq_true rfl⟩ dX7_forget_15
theorem fv_RX6_114 : FV RX6 114 yX7_forget cX7_forget 1 none 0 := ⟨⟨gw_mem (by decide +kernel) (by decide +kernel), gw_mem (by decide +kernel) (by decide +kernel), gw_mem (by decide +kernel) (by decide +kernel), gw_mem (by decide +kernel) (by decide +kernel), gw_mem (by decide +kernel) (by decide +kernel)⟩, ⟨by decide +kernel, by decide +kernel, by decide +kernel⟩⟩
theorem dX6_take_117 : decode cX6_take 117 = .ok (.return_, 1) := by decide +kernel
set_option maxRecDepth 100000 in
set_option maxHeartbeats 4000000 in
theorem c_X6_take_0 (l : Launch) (D : va_G) (cy : Nat → ClassId) (a0 a1 a2 a3 a4 a5 a6 a7 a8 a9 a10 a11 a12 a13 a14 a15 a16 a17 a18 a19 a20 a21 a22 a23 a24 a25 a26 a27 a28 a31 a32 a33 a34 a35 a36 a37 a38 a39 : Nat) : Ct l D cy yX6_take cX6_take 2 none 3 77 3 5490 [(a0, .inr (6, [.ref a2, .ref a3, .int 0, .ref a4, .ref a5, .ref a6, .ref a7, .ref a8, .ref a9, .ref a10, .ref a1, .int 0, .int 0])), (a1, .inr (9, [.int 0, .int 2, .int 20, .int 120, .int 0, .int 0, .int 0, .int 0, .ref a11, .int 0, .ref a12, .ref a13, .int 0, .ref a14, .ref a15, .ref a16, .ref a17])), (a2, .inr (4, [.ref a18, .ref a19, .int 0, .ref a20])), (a3, .inl (cy 1, 1830, .inl (fun _ => 0))), (a5, .inr (1, [.ref a21, .ref a1, .int 0, .int 0, .ref a22, .int 0, .int 0, .int 0, .int 0, .int 0, .int 0, .ref a23, .ref a24])), (a6, .inr (3, [.ref a2, .ref a25, .ref a1, .int 0, .int 0, .ref a26, .int 0, .int 0, .int 0])), (a7, .inr (0, [.ref a2, .ref a25, .ref a1, .int 0, .int 0])), (a8, .inr (8, [.ref a7, .int (-1), .int 0, .int 0, .int 0, .int 0, .int 0, .ref a27])), (a9, .inr (7, [.ref a7, .int 0, .int (-1), .int (-1), .int (-1), .ref a28])), (a18, .inl (cy 5, 9, .inr (.inr (.inr (.inr (va_up (va_up (va_up (va_up (va_up (va_up (va_up (va_up (va_up (fun _ => none) 0 (some a31)) 1 (some a32)) 2 (some a33)) 3 (some a34)) 4 (some a35)) 5 (some a36)) 6 (some a37)) 7 (some a38)) 8 (some a39))))))), (a22, .inl (cy 1, 6, .inl (fun _ => 0))), (a31, .inl (cy 1, 0, .inl (fun _ => 0))), (a33, .inl (cy 1, 0, .inl (fun _ => 0))), (a34, .inl (cy 1, 0, .inl (fun _ => 0)))] [.ref a0, .ref a1] (fun u : Nat × Nat × Nat => none) (fun _ => True) (fun u : Nat × Nat × Nat => [(a0, .inr (6, [.ref a2, .ref a3, .int 190, .ref a4, .ref a5, .ref a6, .ref a7, .ref a8, .ref a9, .ref a10, .ref a1, .int 1, .int 0])), (a3, .inl (cy 1, 1830, .inl (fillF (fun _ => 0) 2 20 (PP 20 2 (20 + 1 - 2))))), (a1, .inr (9, [.int 0, .int 2, .int 20, .int 120, .int 0, .int 0, .int 0, .int 0, .ref a11, .int 0, .ref a12, .ref a13, .int 0, .ref a14, .ref a15, .ref a16, .ref a17])), (a31, .inl (cy 1, 0, .inl (fun _ => 0))), (u.1, .inl (cy 1, 1830, .inl (learnF 0 1830))), (a33, .inl (cy 1, 0, .inl (fun _ => 0))), (u.2.1, .inl (cy 1, 1830, .inl (learnF 2 1830))), (a2, .inr (4, [.ref a18, .ref a19, .int 0, .ref a20])), (a18, .inl (cy 5, 9, .inr (.inr (.inr (.inr (va_up (va_up (va_up (va_up (va_up (va_up (va_up (va_up (va_up (va_up (va_up (va_up (fun _ => none) 0 (some a31)) 1 (some a32)) 2 (some a33)) 3 (some a34)) 4 (some a35)) 5 (some a36)) 6 (some a37)) 7 (some a38)) 8 (some a39)) 0 (some u.1)) 2 (some u.2.1)) 3 (some u.2.2))))))), (a34, .inl (cy 1, 0, .inl (fun _ => 0))), (u.2.2, .inl (cy 1, 1830, .inl (learnF 3 1830))), (a5, .inr (1, [.ref a21, .ref a1, .int (-2), .int (-2), .ref a22, .int 0, .int 0, .int 0, .int 0, .int (-1), .int 0, .ref a23, .ref a24])), (a22, .inl (cy 1, 6, .inl (upd (upd (upd (upd (upd (upd (fun _ => 0) 0 (-2)) 1 (-2)) 2 (-2)) 3 (-2)) 4 (-2)) 5 (-2)))), (a6, .inr (3, [.ref a2, .ref a25, .ref a1, .int (-1), .int (-1), .ref a26, .int 0, .int 0, .int 0])), (a7, .inr (0, [.ref a2, .ref a25, .ref a1, .int 0, .int 0])), (a8, .inr (8, [.ref a7, .int (-1), .int 0, .int 0, .int 0, .int 0, .int 0, .ref a27])), (a9, .inr (7, [.ref a7, .int 0, .int (-1), .int (-1), .int (-1), .ref a28]))]) := by
  refine Ct.of (by decide +kernel) (Nat.le_of_ble_eq_true rfl) ?_
  intro p e s m args below meth c A ls C hr hlocks hml hnm w hl
  have hl : lv_has ls 2 [(0, .ref a0), (1, .ref a1)] := hl
  refine lv_aload_n C.1 C.2.1 dX6_take_0 rfl (lv_at hl 0 rfl) ?_
  refine r_get C w 0 rfl rfl 0 (by decide) fl_RX6_20 (v := .ref a2) rfl dX6_take_1 ?_
  refine r_callV C w fv_RX6_80 (c_X4_lowerMark_0 l D cy a2 a18 a19 a20) (hl.1.trans hml.symm) [2] [0, 1, 3, 4, 5, 6, 7, 8, 9, 10, 11, 12, 13] (wr := [(a0, .inr (6, [.ref a2, .ref a3, .int 0, .ref a4, .ref a5, .ref a6, .ref a7, .ref a8, .ref a9, .ref a10, .ref a1, .int 0, .int 0])), (a1, .inr (9, [.int 0, .int 2, .int 20, .int 120, .int 0, .int 0, .int 0, .int 0, .ref a11, .int 0, .ref a12, .ref a13, .int 0, .ref a14, .ref a15, .ref a16, .ref a17])), (a3, .inl (cy 1, 1830, .inl (fun _ => 0))), (a5, .inr (1, [.ref a21, .ref a1, .int 0, .int 0, .ref a22, .int 0, .int 0, .int 0, .int 0, .int 0, .int 0, .ref a23, .ref a24])), (a6, .inr (3, [.ref a2, .ref a25, .ref a1, .int 0, .int 0, .ref a26, .int 0, .int 0, .int 0])), (a7, .inr (0, [.ref a2, .ref a25, .ref a1, .int 0, .int 0])), (a8, .inr (8, [.ref a7, .int (-1), .int 0, .int 0, .int 0, .int 0, .int 0, .ref a27])), (a9, .inr (7, [.ref a7, .int 0, .int (-1), .int (-1), .int (-1), .ref a28])), (a18, .inl (cy 5, 9, .inr (.inr (.inr (.inr (va_up (va_up (va_up (va_up (va_up (va_up (va_up (va_up (va_up (fun _ => none) 0 (some a31)) 1 (some a32)) 2 (some a33)) 3 (some a34)) 4 (some a35)) 5 (some a36)) 6 (some a37)) 7 (some a38)) 8 (some a39))))))), (a22, .inl (cy 1, 6, .inl (fun _ => 0))), (a31, .inl (cy 1, 0, .inl (fun _ => 0))), (a33, .inl (cy 1, 0, .inl (fun _ => 0))), (a34, .inl (cy 1, 0, .inl (fun _ => 0)))]) ⟨rfl, rfl, rfl, rfl, by decide⟩ 0 rfl rfl rfl rfl rfl ⟨Nat.le_of_ble_eq_true rfl, Nat.le_of_ble_eq_true rfl, Nat.le_of_ble_eq_true rfl⟩ 0 0 ⟨rfl, rfl, Nat.le_of_ble_eq_true rfl, Nat.le_of_ble_eq_true rfl⟩ dX6_take_4 (fun u H locs hp w => ?_)
  have w : Wd D A s.heap [(a0, .inr (6, [.ref a2, .ref a3, .int 0, .ref a4, .ref a5, .ref a6, .ref a7, .ref a8, .ref a9, .ref a10, .ref a1, .int 0, .int 0])), (a1, .inr (9, [.int 0, .int 2, .int 20, .int 120, .int 0, .int 0, .int 0, .int 0, .ref a11, .int 0, .ref a12, .ref a13, .int 0, .ref a14, .ref a15, .ref a16, .ref a17])), (a3, .inl (cy 1, 1830, .inl (fun _ => 0))), (a5, .inr (1, [.ref a21, .ref a1, .int 0, .int 0, .ref a22, .int 0, .int 0, .int 0, .int 0, .int 0, .int 0, .ref a23, .ref a24])), (a6, .inr (3, [.ref a2, .ref a25, .ref a1, .int 0, .int 0, .ref a26, .int 0, .int 0, .int 0])), (a7, .inr (0, [.ref a2, .ref a25, .ref a1, .int 0, .int 0])), (a8, .inr (8, [.ref a7, .int (-1), .int 0, .int 0, .int 0, .int 0, .int 0, .ref a27])), (a9, .inr (7, [.ref a7, .int 0, .int (-1), .int (-1), .int (-1), .ref a28])), (a18, .inl (cy 5, 9, .inr (.inr (.inr (.inr (va_up (va_up (va_up (va_up (va_up (va_up (va_up (va_up (va_up (fun _ => none) 0 (some a31)) 1 (some a32)) 2 (some a33)) 3 (some a34)) 4 (some a35)) 5 (some a36)) 6 (some a37)) 7 (some a38)) 8 (some a39))))))), (a22, .inl (cy 1, 6, .inl (fun _ => 0))), (a31, .inl (cy 1, 0, .inl (fun _ => 0))), (a33, .inl (cy 1, 0, .inl (fun _ => 0))), (a34, .inl (cy 1, 0, .inl (fun _ => 0))), (a2, .inr (4, [.ref a18, .ref a19, .int 0, .ref a20]))] _ _ := w
  refine r_top (g2 := F0 m 7 ls []) rfl ?_
  refine lv_aload_n C.1 C.2.1 dX6_take_7 rfl (lv_at hl 0 rfl) ?_
  refine r_get C w 0 rfl rfl 11 (by decide) fl_RX6_76 (v := .int 0) rfl dX6_take_8 ?_
  refine b_if_eq_t C (tgt := 15) dX6_take_11 (by decide) (by decide) ?_
  refine lv_aload_n C.1 C.2.1 dX6_take_15 rfl (lv_at hl 0 rfl) ?_
  refine lv_iconst (v := 1) C.1 C.2.1 dX6_take_16 (by decide) ?_
  refine r_put C w 0 rfl rfl 11 (by decide) fl_RX6_76 rfl (ty := .boolean) (tyX6_ok 11 (by decide)) rfl rfl (Nat.le_of_ble_eq_true rfl) [(a0, .inr (6, [.ref a2, .ref a3, .int 0, .ref a4, .ref a5, .ref a6, .ref a7, .ref a8, .ref a9, .ref a10, .ref a1, .int 1, .int 0])), (a1, .inr (9, [.int 0, .int 2, .int 20, .int 120, .int 0, .int 0, .int 0, .int 0, .ref a11, .int 0, .ref a12, .ref a13, .int 0, .ref a14, .ref a15, .ref a16, .ref a17])), (a3, .inl (cy 1, 1830, .inl (fun _ => 0))), (a5, .inr (1, [.ref a21, .ref a1, .int 0, .int 0, .ref a22, .int 0, .int 0, .int 0, .int 0, .int 0, .int 0, .ref a23, .ref a24])), (a6, .inr (3, [.ref a2, .ref a25, .ref a1, .int 0, .int 0, .ref a26, .int 0, .int 0, .int 0])), (a7, .inr (0, [.ref a2, .ref a25, .ref a1, .int 0, .int 0])), (a8, .inr (8, [.ref a7, .int (-1), .int 0, .int 0, .int 0, .int 0, .int 0, .ref a27])), (a9, .inr (7, [.ref a7, .int 0, .int (-1), .int (-1), .int (-1), .ref a28])), (a18, .inl (cy 5, 9, .inr (.inr (.inr (.inr (va_up (va_up (va_up (va_up (va_up (va_up (va_up (va_up (va_up (fun _ => none) 0 (some a31)) 1 (some a32)) 2 (some a33)) 3 (some a34)) 4 (some a35)) 5 (some a36)) 6 (some a37)) 7 (some a38)) 8 (some a39))))))), (a22, .inl (cy 1, 6, .inl (fun _ => 0))), (a31, .inl (cy 1, 0, .inl (fun _ => 0))), (a33, .inl (cy 1, 0, .inl (fun _ => 0))), (a34, .inl (cy 1, 0, .inl (fun _ => 0))), (a2, .inr (4, [.ref a18, .ref a19, .int 0, .ref a20]))] rfl dX6_take_17 (fun H locs w => ?_)
  refine lv_aload_n C.1 C.2.1 dX6_take_20 rfl (lv_at hl 0 rfl) ?_
  refine lv_iconst (v := 0) C.1 C.2.1 dX6_take_21 (by decide) ?_
  refine r_put C w 0 rfl rfl 12 (by decide) fl_RX6_83 rfl (ty := .boolean) (tyX6_ok 12 (by decide)) rfl rfl (Nat.le_of_ble_eq_true rfl) [(a0, .inr (6, [.ref a2, .ref a3, .int 0, .ref a4, .ref a5, .ref a6, .ref a7, .ref a8, .ref a9, .ref a10, .ref a1, .int 1, .int 0])), (a1, .inr (9, [.int 0, .int 2, .int 20, .int 120, .int 0, .int 0, .int 0, .int 0, .ref a11, .int 0, .ref a12, .ref a13, .int 0, .ref a14, .ref a15, .ref a16, .ref a17])), (a3, .inl (cy 1, 1830, .inl (fun _ => 0))), (a5, .inr (1, [.ref a21, .ref a1, .int 0, .int 0, .ref a22, .int 0, .int 0, .int 0, .int 0, .int 0, .int 0, .ref a23, .ref a24])), (a6, .inr (3, [.ref a2, .ref a25, .ref a1, .int 0, .int 0, .ref a26, .int 0, .int 0, .int 0])), (a7, .inr (0, [.ref a2, .ref a25, .ref a1, .int 0, .int 0])), (a8, .inr (8, [.ref a7, .int (-1), .int 0, .int 0, .int 0, .int 0, .int 0, .ref a27])), (a9, .inr (7, [.ref a7, .int 0, .int (-1), .int (-1), .int (-1), .ref a28])), (a18, .inl (cy 5, 9, .inr (.inr (.inr (.inr (va_up (va_up (va_up (va_up (va_up (va_up (va_up (va_up (va_up (fun _ => none) 0 (some a31)) 1 (some a32)) 2 (some a33)) 3 (some a34)) 4 (some a35)) 5 (some a36)) 6 (some a37)) 7 (some a38)) 8 (some a39))))))), (a22, .inl (cy 1, 6, .inl (fun _ => 0))), (a31, .inl (cy 1, 0, .inl (fun _ => 0))), (a33, .inl (cy 1, 0, .inl (fun _ => 0))), (a34, .inl (cy 1, 0, .inl (fun _ => 0))), (a2, .inr (4, [.ref a18, .ref a19, .int 0, .ref a20]))] rfl dX6_take_22 (fun H locs w => ?_)
  refine lv_aload_n C.1 C.2.1 dX6_take_25 rfl (lv_at hl 0 rfl) ?_
  refine lv_aload_n C.1 C.2.1 dX6_take_26 rfl (lv_at hl 1 rfl) ?_
  refine r_put C w 0 rfl rfl 10 (by decide) fl_RX6_24 rfl (ty := (.object "TwoSlips$Talk")) (tyX6_ok 10 (by decide)) rfl rfl (Nat.le_of_ble_eq_true rfl) [(a0, .inr (6, [.ref a2, .ref a3, .int 0, .ref a4, .ref a5, .ref a6, .ref a7, .ref a8, .ref a9, .ref a10, .ref a1, .int 1, .int 0])), (a1, .inr (9, [.int 0, .int 2, .int 20, .int 120, .int 0, .int 0, .int 0, .int 0, .ref a11, .int 0, .ref a12, .ref a13, .int 0, .ref a14, .ref a15, .ref a16, .ref a17])), (a3, .inl (cy 1, 1830, .inl (fun _ => 0))), (a5, .inr (1, [.ref a21, .ref a1, .int 0, .int 0, .ref a22, .int 0, .int 0, .int 0, .int 0, .int 0, .int 0, .ref a23, .ref a24])), (a6, .inr (3, [.ref a2, .ref a25, .ref a1, .int 0, .int 0, .ref a26, .int 0, .int 0, .int 0])), (a7, .inr (0, [.ref a2, .ref a25, .ref a1, .int 0, .int 0])), (a8, .inr (8, [.ref a7, .int (-1), .int 0, .int 0, .int 0, .int 0, .int 0, .ref a27])), (a9, .inr (7, [.ref a7, .int 0, .int (-1), .int (-1), .int (-1), .ref a28])), (a18, .inl (cy 5, 9, .inr (.inr (.inr (.inr (va_up (va_up (va_up (va_up (va_up (va_up (va_up (va_up (va_up (fun _ => none) 0 (some a31)) 1 (some a32)) 2 (some a33)) 3 (some a34)) 4 (some a35)) 5 (some a36)) 6 (some a37)) 7 (some a38)) 8 (some a39))))))), (a22, .inl (cy 1, 6, .inl (fun _ => 0))), (a31, .inl (cy 1, 0, .inl (fun _ => 0))), (a33, .inl (cy 1, 0, .inl (fun _ => 0))), (a34, .inl (cy 1, 0, .inl (fun _ => 0))), (a2, .inr (4, [.ref a18, .ref a19, .int 0, .ref a20]))] rfl dX6_take_27 (fun H locs w => ?_)
  refine lv_aload_n C.1 C.2.1 dX6_take_30 rfl (lv_at hl 0 rfl) ?_
  refine lv_aload_n C.1 C.2.1 dX6_take_31 rfl (lv_at hl 0 rfl) ?_
  refine r_get C w 0 rfl rfl 1 (by decide) fl_RX6_11 (v := .ref a3) rfl dX6_take_32 ?_
  refine lv_aload_n C.1 C.2.1 dX6_take_35 rfl (lv_at hl 0 rfl) ?_
  refine r_get C w 0 rfl rfl 10 (by decide) fl_RX6_24 (v := .ref a1) rfl dX6_take_36 ?_
  refine lv_aload_n C.1 C.2.1 dX6_take_39 rfl (lv_at hl 0 rfl) ?_
  refine r_get C w 0 rfl rfl 10 (by decide) fl_RX6_24 (v := .ref a1) rfl dX6_take_40 ?_
  refine r_get C w 1 rfl rfl 1 (by decide) fl_RX6_86 (v := .int 2) rfl dX6_take_43 ?_
  refine lv_aload_n C.1 C.2.1 dX6_take_46 rfl (lv_at hl 0 rfl) ?_
  refine r_get C w 0 rfl rfl 10 (by decide) fl_RX6_24 (v := .ref a1) rfl dX6_take_47 ?_
  refine r_get C w 1 rfl rfl 2 (by decide) fl_RX6_92 (v := .int 20) rfl dX6_take_50 ?_
  refine r_callS C w fs_RX6_95 (c_X4_fill_0 l D cy a3 a1 a11 a12 a13 a14 a15 a16 a17) (hl.1.trans hml.symm) [2, 1] [0, 3, 4, 5, 6, 7, 8, 9, 10, 11, 12, 13] (wr := [(a0, .inr (6, [.ref a2, .ref a3, .int 0, .ref a4, .ref a5, .ref a6, .ref a7, .ref a8, .ref a9, .ref a10, .ref a1, .int 1, .int 0])), (a5, .inr (1, [.ref a21, .ref a1, .int 0, .int 0, .ref a22, .int 0, .int 0, .int 0, .int 0, .int 0, .int 0, .ref a23, .ref a24])), (a6, .inr (3, [.ref a2, .ref a25, .ref a1, .int 0, .int 0, .ref a26, .int 0, .int 0, .int 0])), (a7, .inr (0, [.ref a2, .ref a25, .ref a1, .int 0, .int 0])), (a8, .inr (8, [.ref a7, .int (-1), .int 0, .int 0, .int 0, .int 0, .int 0, .ref a27])), (a9, .inr (7, [.ref a7, .int 0, .int (-1), .int (-1), .int (-1), .ref a28])), (a18, .inl (cy 5, 9, .inr (.inr (.inr (.inr (va_up (va_up (va_up (va_up (va_up (va_up (va_up (va_up (va_up (fun _ => none) 0 (some a31)) 1 (some a32)) 2 (some a33)) 3 (some a34)) 4 (some a35)) 5 (some a36)) 6 (some a37)) 7 (some a38)) 8 (some a39))))))), (a22, .inl (cy 1, 6, .inl (fun _ => 0))), (a31, .inl (cy 1, 0, .inl (fun _ => 0))), (a33, .inl (cy 1, 0, .inl (fun _ => 0))), (a34, .inl (cy 1, 0, .inl (fun _ => 0))), (a2, .inr (4, [.ref a18, .ref a19, .int 0, .ref a20]))]) ⟨rfl, rfl, rfl, rfl, by decide⟩ rfl rfl ⟨Nat.le_of_ble_eq_true rfl, Nat.le_of_ble_eq_true rfl, Nat.le_of_ble_eq_true rfl⟩ 0 0 ⟨rfl, rfl, Nat.le_of_ble_eq_true rfl, Nat.le_of_ble_eq_true rfl⟩ dX6_take_53 (fun u H locs hp w => ?_)
  have w : Wd D A s.heap [(a0, .inr (6, [.ref a2, .ref a3, .int 0, .ref a4, .ref a5, .ref a6, .ref a7, .ref a8, .ref a9, .ref a10, .ref a1, .int 1, .int 0])), (a5, .inr (1, [.ref a21, .ref a1, .int 0, .int 0, .ref a22, .int 0, .int 0, .int 0, .int 0, .int 0, .int 0, .ref a23, .ref a24])), (a6, .inr (3, [.ref a2, .ref a25, .ref a1, .int 0, .int 0, .ref a26, .int 0, .int 0, .int 0])), (a7, .inr (0, [.ref a2, .ref a25, .ref a1, .int 0, .int 0])), (a8, .inr (8, [.ref a7, .int (-1), .int 0, .int 0, .int 0, .int 0, .int 0, .ref a27])), (a9, .inr (7, [.ref a7, .int 0, .int (-1), .int (-1), .int (-1), .ref a28])), (a18, .inl (cy 5, 9, .inr (.inr (.inr (.inr (va_up (va_up (va_up (va_up (va_up (va_up (va_up (va_up (va_up (fun _ => none) 0 (some a31)) 1 (some a32)) 2 (some a33)) 3 (some a34)) 4 (some a35)) 5 (some a36)) 6 (some a37)) 7 (some a38)) 8 (some a39))))))), (a22, .inl (cy 1, 6, .inl (fun _ => 0))), (a31, .inl (cy 1, 0, .inl (fun _ => 0))), (a33, .inl (cy 1, 0, .inl (fun _ => 0))), (a34, .inl (cy 1, 0, .inl (fun _ => 0))), (a2, .inr (4, [.ref a18, .ref a19, .int 0, .ref a20])), (a3, .inl (cy 1, 1830, .inl (fillF (fun _ => 0) 2 20 (PP 20 2 (20 + 1 - 2))))), (a1, .inr (9, [.int 0, .int 2, .int 20, .int 120, .int 0, .int 0, .int 0, .int 0, .ref a11, .int 0, .ref a12, .ref a13, .int 0, .ref a14, .ref a15, .ref a16, .ref a17]))] _ _ := w
  refine r_top (g2 := F0 m 56 ls [.int 190, .ref a0]) rfl ?_
  refine r_put C w 0 rfl rfl 2 (by decide) fl_RX6_99 rfl (ty := .int) (tyX6_ok 2 (by decide)) rfl rfl (Nat.le_of_ble_eq_true rfl) [(a0, .inr (6, [.ref a2, .ref a3, .int 190, .ref a4, .ref a5, .ref a6, .ref a7, .ref a8, .ref a9, .ref a10, .ref a1, .int 1, .int 0])), (a5, .inr (1, [.ref a21, .ref a1, .int 0, .int 0, .ref a22, .int 0, .int 0, .int 0, .int 0, .int 0, .int 0, .ref a23, .ref a24])), (a6, .inr (3, [.ref a2, .ref a25, .ref a1, .int 0, .int 0, .ref a26, .int 0, .int 0, .int 0])), (a7, .inr (0, [.ref a2, .ref a25, .ref a1, .int 0, .int 0])), (a8, .inr (8, [.ref a7, .int (-1), .int 0, .int 0, .int 0, .int 0, .int 0, .ref a27])), (a9, .inr (7, [.ref a7, .int 0, .int (-1), .int (-1), .int (-1), .ref a28])), (a18, .inl (cy 5, 9, .inr (.inr (.inr (.inr (va_up (va_up (va_up (va_up (va_up (va_up (va_up (va_up (va_up (fun _ => none) 0 (some a31)) 1 (some a32)) 2 (some a33)) 3 (some a34)) 4 (some a35)) 5 (some a36)) 6 (some a37)) 7 (some a38)) 8 (some a39))))))), (a22, .inl (cy 1, 6, .inl (fun _ => 0))), (a31, .inl (cy 1, 0, .inl (fun _ => 0))), (a33, .inl (cy 1, 0, .inl (fun _ => 0))), (a34, .inl (cy 1, 0, .inl (fun _ => 0))), (a2, .inr (4, [.ref a18, .ref a19, .int 0, .ref a20])), (a3, .inl (cy 1, 1830, .inl (fillF (fun _ => 0) 2 20 (PP 20 2 (20 + 1 - 2))))), (a1, .inr (9, [.int 0, .int 2, .int 20, .int 120, .int 0, .int 0, .int 0, .int 0, .ref a11, .int 0, .ref a12, .ref a13, .int 0, .ref a14, .ref a15, .ref a16, .ref a17]))] rfl dX6_take_56 (fun H locs w => ?_)
  refine lv_aload_n C.1 C.2.1 dX6_take_59 rfl (lv_at hl 0 rfl) ?_
  refine r_get C w 0 rfl rfl 0 (by decide) fl_RX6_20 (v := .ref a2) rfl dX6_take_60 ?_
  refine lv_aload_n C.1 C.2.1 dX6_take_63 rfl (lv_at hl 0 rfl) ?_
  refine r_get C w 0 rfl rfl 10 (by decide) fl_RX6_24 (v := .ref a1) rfl dX6_take_64 ?_
  refine r_callV C w fv_RX6_102 (c_X4_learnFor_0 l D cy a2 a1 a18 a19 a20 a11 a12 a13 a14 a15 a16 a17 a31 a32 a33 a34 a35 a36 a37 a38 a39) (hl.1.trans hml.symm) [11, 13, 6, 8, 9, 10] [0, 1, 2, 3, 4, 5, 7, 12] (wr := [(a0, .inr (6, [.ref a2, .ref a3, .int 190, .ref a4, .ref a5, .ref a6, .ref a7, .ref a8, .ref a9, .ref a10, .ref a1, .int 1, .int 0])), (a5, .inr (1, [.ref a21, .ref a1, .int 0, .int 0, .ref a22, .int 0, .int 0, .int 0, .int 0, .int 0, .int 0, .ref a23, .ref a24])), (a6, .inr (3, [.ref a2, .ref a25, .ref a1, .int 0, .int 0, .ref a26, .int 0, .int 0, .int 0])), (a7, .inr (0, [.ref a2, .ref a25, .ref a1, .int 0, .int 0])), (a8, .inr (8, [.ref a7, .int (-1), .int 0, .int 0, .int 0, .int 0, .int 0, .ref a27])), (a9, .inr (7, [.ref a7, .int 0, .int (-1), .int (-1), .int (-1), .ref a28])), (a22, .inl (cy 1, 6, .inl (fun _ => 0))), (a3, .inl (cy 1, 1830, .inl (fillF (fun _ => 0) 2 20 (PP 20 2 (20 + 1 - 2)))))]) ⟨rfl, rfl, rfl, rfl, by decide⟩ 0 rfl rfl rfl rfl rfl ⟨Nat.le_of_ble_eq_true rfl, Nat.le_of_ble_eq_true rfl, Nat.le_of_ble_eq_true rfl⟩ 3 5490 ⟨rfl, rfl, Nat.le_of_ble_eq_true rfl, Nat.le_of_ble_eq_true rfl⟩ dX6_take_67 (fun u H locs hp w => ?_)
  obtain ⟨n1, n2, n3⟩ := u
  have w : Wd D A s.heap [(a0, .inr (6, [.ref a2, .ref a3, .int 190, .ref a4, .ref a5, .ref a6, .ref a7, .ref a8, .ref a9, .ref a10, .ref a1, .int 1, .int 0])), (a5, .inr (1, [.ref a21, .ref a1, .int 0, .int 0, .ref a22, .int 0, .int 0, .int 0, .int 0, .int 0, .int 0, .ref a23, .ref a24])), (a6, .inr (3, [.ref a2, .ref a25, .ref a1, .int 0, .int 0, .ref a26, .int 0, .int 0, .int 0])), (a7, .inr (0, [.ref a2, .ref a25, .ref a1, .int 0, .int 0])), (a8, .inr (8, [.ref a7, .int (-1), .int 0, .int 0, .int 0, .int 0, .int 0, .ref a27])), (a9, .inr (7, [.ref a7, .int 0, .int (-1), .int (-1), .int (-1), .ref a28])), (a22, .inl (cy 1, 6, .inl (fun _ => 0))), (a3, .inl (cy 1, 1830, .inl (fillF (fun _ => 0) 2 20 (PP 20 2 (20 + 1 - 2))))), (a1, .inr (9, [.int 0, .int 2, .int 20, .int 120, .int 0, .int 0, .int 0, .int 0, .ref a11, .int 0, .ref a12, .ref a13, .int 0, .ref a14, .ref a15, .ref a16, .ref a17])), (a31, .inl (cy 1, 0, .inl (fun _ => 0))), (n1, .inl (cy 1, 1830, .inl (learnF 0 1830))), (a33, .inl (cy 1, 0, .inl (fun _ => 0))), (n2, .inl (cy 1, 1830, .inl (learnF 2 1830))), (a2, .inr (4, [.ref a18, .ref a19, .int 0, .ref a20])), (a18, .inl (cy 5, 9, .inr (.inr (.inr (.inr (va_up (va_up (va_up (va_up (va_up (va_up (va_up (va_up (va_up (va_up (va_up (va_up (fun _ => none) 0 (some a31)) 1 (some a32)) 2 (some a33)) 3 (some a34)) 4 (some a35)) 5 (some a36)) 6 (some a37)) 7 (some a38)) 8 (some a39)) 0 (some n1)) 2 (some n2)) 3 (some n3))))))), (a34, .inl (cy 1, 0, .inl (fun _ => 0))), (n3, .inl (cy 1, 1830, .inl (learnF 3 1830)))] _ _ := w
  refine r_top (g2 := F0 m 70 ls []) rfl ?_
  refine lv_aload_n C.1 C.2.1 dX6_take_70 rfl (lv_at hl 0 rfl) ?_
  refine r_get C w 0 rfl rfl 4 (by decide) fl_RX6_42 (v := .ref a5) rfl dX6_take_71 ?_
  refine lv_aload_n C.1 C.2.1 dX6_take_74 rfl (lv_at hl 0 rfl) ?_
  refine r_get C w 0 rfl rfl 10 (by decide) fl_RX6_24 (v := .ref a1) rfl dX6_take_75 ?_
  refine r_callV C w fv_RX6_106 (c_X1_take_0 l D cy a5 a1 a21 a22 a23 a24) (hl.1.trans hml.symm) [1, 6] [0, 2, 3, 4, 5, 7, 8, 9, 10, 11, 12, 13, 14, 15, 16] (wr := [(a0, .inr (6, [.ref a2, .ref a3, .int 190, .ref a4, .ref a5, .ref a6, .ref a7, .ref a8, .ref a9, .ref a10, .ref a1, .int 1, .int 0])), (a6, .inr (3, [.ref a2, .ref a25, .ref a1, .int 0, .int 0, .ref a26, .int 0, .int 0, .int 0])), (a7, .inr (0, [.ref a2, .ref a25, .ref a1, .int 0, .int 0])), (a8, .inr (8, [.ref a7, .int (-1), .int 0, .int 0, .int 0, .int 0, .int 0, .ref a27])), (a9, .inr (7, [.ref a7, .int 0, .int (-1), .int (-1), .int (-1), .ref a28])), (a3, .inl (cy 1, 1830, .inl (fillF (fun _ => 0) 2 20 (PP 20 2 (20 + 1 - 2))))), (a1, .inr (9, [.int 0, .int 2, .int 20, .int 120, .int 0, .int 0, .int 0, .int 0, .ref a11, .int 0, .ref a12, .ref a13, .int 0, .ref a14, .ref a15, .ref a16, .ref a17])), (a31, .inl (cy 1, 0, .inl (fun _ => 0))), (n1, .inl (cy 1, 1830, .inl (learnF 0 1830))), (a33, .inl (cy 1, 0, .inl (fun _ => 0))), (n2, .inl (cy 1, 1830, .inl (learnF 2 1830))), (a2, .inr (4, [.ref a18, .ref a19, .int 0, .ref a20])), (a18, .inl (cy 5, 9, .inr (.inr (.inr (.inr (va_up (va_up (va_up (va_up (va_up (va_up (va_up (va_up (va_up (va_up (va_up (va_up (fun _ => none) 0 (some a31)) 1 (some a32)) 2 (some a33)) 3 (some a34)) 4 (some a35)) 5 (some a36)) 6 (some a37)) 7 (some a38)) 8 (some a39)) 0 (some n1)) 2 (some n2)) 3 (some n3))))))), (a34, .inl (cy 1, 0, .inl (fun _ => 0))), (n3, .inl (cy 1, 1830, .inl (learnF 3 1830)))]) ⟨rfl, rfl, rfl, rfl, by decide⟩ 0 rfl rfl rfl rfl rfl ⟨Nat.le_of_ble_eq_true rfl, Nat.le_of_ble_eq_true rfl, Nat.le_of_ble_eq_true rfl⟩ 3 5490 ⟨rfl, rfl, Nat.le_of_ble_eq_true rfl, Nat.le_of_ble_eq_true rfl⟩ dX6_take_78 (fun u H locs hp w => ?_)
  have w : Wd D A s.heap [(a0, .inr (6, [.ref a2, .ref a3, .int 190, .ref a4, .ref a5, .ref a6, .ref a7, .ref a8, .ref a9, .ref a10, .ref a1, .int 1, .int 0])), (a6, .inr (3, [.ref a2, .ref a25, .ref a1, .int 0, .int 0, .ref a26, .int 0, .int 0, .int 0])), (a7, .inr (0, [.ref a2, .ref a25, .ref a1, .int 0, .int 0])), (a8, .inr (8, [.ref a7, .int (-1), .int 0, .int 0, .int 0, .int 0, .int 0, .ref a27])), (a9, .inr (7, [.ref a7, .int 0, .int (-1), .int (-1), .int (-1), .ref a28])), (a3, .inl (cy 1, 1830, .inl (fillF (fun _ => 0) 2 20 (PP 20 2 (20 + 1 - 2))))), (a1, .inr (9, [.int 0, .int 2, .int 20, .int 120, .int 0, .int 0, .int 0, .int 0, .ref a11, .int 0, .ref a12, .ref a13, .int 0, .ref a14, .ref a15, .ref a16, .ref a17])), (a31, .inl (cy 1, 0, .inl (fun _ => 0))), (n1, .inl (cy 1, 1830, .inl (learnF 0 1830))), (a33, .inl (cy 1, 0, .inl (fun _ => 0))), (n2, .inl (cy 1, 1830, .inl (learnF 2 1830))), (a2, .inr (4, [.ref a18, .ref a19, .int 0, .ref a20])), (a18, .inl (cy 5, 9, .inr (.inr (.inr (.inr (va_up (va_up (va_up (va_up (va_up (va_up (va_up (va_up (va_up (va_up (va_up (va_up (fun _ => none) 0 (some a31)) 1 (some a32)) 2 (some a33)) 3 (some a34)) 4 (some a35)) 5 (some a36)) 6 (some a37)) 7 (some a38)) 8 (some a39)) 0 (some n1)) 2 (some n2)) 3 (some n3))))))), (a34, .inl (cy 1, 0, .inl (fun _ => 0))), (n3, .inl (cy 1, 1830, .inl (learnF 3 1830))), (a5, .inr (1, [.ref a21, .ref a1, .int (-2), .int (-2), .ref a22, .int 0, .int 0, .int 0, .int 0, .int (-1), .int 0, .ref a23, .ref a24])), (a22, .inl (cy 1, 6, .inl (upd (upd (upd (upd (upd (upd (fun _ => 0) 0 (-2)) 1 (-2)) 2 (-2)) 3 (-2)) 4 (-2)) 5 (-2))))] _ _ := w
  refine r_top (g2 := F0 m 81 ls []) rfl ?_
  refine lv_aload_n C.1 C.2.1 dX6_take_81 rfl (lv_at hl 0 rfl) ?_
  refine r_get C w 0 rfl rfl 5 (by decide) fl_RX6_49 (v := .ref a6) rfl dX6_take_82 ?_
  refine lv_aload_n C.1 C.2.1 dX6_take_85 rfl (lv_at hl 0 rfl) ?_
  refine r_get C w 0 rfl rfl 10 (by decide) fl_RX6_24 (v := .ref a1) rfl dX6_take_86 ?_
  refine r_callV C w fv_RX6_109 (c_X3_take_0 l D cy a6 a1 a2 a25 a26) (hl.1.trans hml.symm) [1] [0, 2, 3, 4, 5, 6, 7, 8, 9, 10, 11, 12, 13, 14, 15, 16] (wr := [(a0, .inr (6, [.ref a2, .ref a3, .int 190, .ref a4, .ref a5, .ref a6, .ref a7, .ref a8, .ref a9, .ref a10, .ref a1, .int 1, .int 0])), (a7, .inr (0, [.ref a2, .ref a25, .ref a1, .int 0, .int 0])), (a8, .inr (8, [.ref a7, .int (-1), .int 0, .int 0, .int 0, .int 0, .int 0, .ref a27])), (a9, .inr (7, [.ref a7, .int 0, .int (-1), .int (-1), .int (-1), .ref a28])), (a3, .inl (cy 1, 1830, .inl (fillF (fun _ => 0) 2 20 (PP 20 2 (20 + 1 - 2))))), (a1, .inr (9, [.int 0, .int 2, .int 20, .int 120, .int 0, .int 0, .int 0, .int 0, .ref a11, .int 0, .ref a12, .ref a13, .int 0, .ref a14, .ref a15, .ref a16, .ref a17])), (a31, .inl (cy 1, 0, .inl (fun _ => 0))), (n1, .inl (cy 1, 1830, .inl (learnF 0 1830))), (a33, .inl (cy 1, 0, .inl (fun _ => 0))), (n2, .inl (cy 1, 1830, .inl (learnF 2 1830))), (a2, .inr (4, [.ref a18, .ref a19, .int 0, .ref a20])), (a18, .inl (cy 5, 9, .inr (.inr (.inr (.inr (va_up (va_up (va_up (va_up (va_up (va_up (va_up (va_up (va_up (va_up (va_up (va_up (fun _ => none) 0 (some a31)) 1 (some a32)) 2 (some a33)) 3 (some a34)) 4 (some a35)) 5 (some a36)) 6 (some a37)) 7 (some a38)) 8 (some a39)) 0 (some n1)) 2 (some n2)) 3 (some n3))))))), (a34, .inl (cy 1, 0, .inl (fun _ => 0))), (n3, .inl (cy 1, 1830, .inl (learnF 3 1830))), (a5, .inr (1, [.ref a21, .ref a1, .int (-2), .int (-2), .ref a22, .int 0, .int 0, .int 0, .int 0, .int (-1), .int 0, .ref a23, .ref a24])), (a22, .inl (cy 1, 6, .inl (upd (upd (upd (upd (upd (upd (fun _ => 0) 0 (-2)) 1 (-2)) 2 (-2)) 3 (-2)) 4 (-2)) 5 (-2))))]) ⟨rfl, rfl, rfl, rfl, by decide⟩ 0 rfl rfl rfl rfl rfl ⟨Nat.le_of_ble_eq_true rfl, Nat.le_of_ble_eq_true rfl, Nat.le_of_ble_eq_true rfl⟩ 3 5490 ⟨rfl, rfl, Nat.le_of_ble_eq_true rfl, Nat.le_of_ble_eq_true rfl⟩ dX6_take_89 (fun u H locs hp w => ?_)
  have w : Wd D A s.heap [(a0, .inr (6, [.ref a2, .ref a3, .int 190, .ref a4, .ref a5, .ref a6, .ref a7, .ref a8, .ref a9, .ref a10, .ref a1, .int 1, .int 0])), (a7, .inr (0, [.ref a2, .ref a25, .ref a1, .int 0, .int 0])), (a8, .inr (8, [.ref a7, .int (-1), .int 0, .int 0, .int 0, .int 0, .int 0, .ref a27])), (a9, .inr (7, [.ref a7, .int 0, .int (-1), .int (-1), .int (-1), .ref a28])), (a3, .inl (cy 1, 1830, .inl (fillF (fun _ => 0) 2 20 (PP 20 2 (20 + 1 - 2))))), (a1, .inr (9, [.int 0, .int 2, .int 20, .int 120, .int 0, .int 0, .int 0, .int 0, .ref a11, .int 0, .ref a12, .ref a13, .int 0, .ref a14, .ref a15, .ref a16, .ref a17])), (a31, .inl (cy 1, 0, .inl (fun _ => 0))), (n1, .inl (cy 1, 1830, .inl (learnF 0 1830))), (a33, .inl (cy 1, 0, .inl (fun _ => 0))), (n2, .inl (cy 1, 1830, .inl (learnF 2 1830))), (a2, .inr (4, [.ref a18, .ref a19, .int 0, .ref a20])), (a18, .inl (cy 5, 9, .inr (.inr (.inr (.inr (va_up (va_up (va_up (va_up (va_up (va_up (va_up (va_up (va_up (va_up (va_up (va_up (fun _ => none) 0 (some a31)) 1 (some a32)) 2 (some a33)) 3 (some a34)) 4 (some a35)) 5 (some a36)) 6 (some a37)) 7 (some a38)) 8 (some a39)) 0 (some n1)) 2 (some n2)) 3 (some n3))))))), (a34, .inl (cy 1, 0, .inl (fun _ => 0))), (n3, .inl (cy 1, 1830, .inl (learnF 3 1830))), (a5, .inr (1, [.ref a21, .ref a1, .int (-2), .int (-2), .ref a22, .int 0, .int 0, .int 0, .int 0, .int (-1), .int 0, .ref a23, .ref a24])), (a22, .inl (cy 1, 6, .inl (upd (upd (upd (upd (upd (upd (fun _ => 0) 0 (-2)) 1 (-2)) 2 (-2)) 3 (-2)) 4 (-2)) 5 (-2)))), (a6, .inr (3, [.ref a2, .ref a25, .ref a1, .int (-1), .int (-1), .ref a26, .int 0, .int 0, .int 0]))] _ _ := w
  refine r_top (g2 := F0 m 92 ls []) rfl ?_
  refine lv_aload_n C.1 C.2.1 dX6_take_92 rfl (lv_at hl 0 rfl) ?_
  refine r_get C w 0 rfl rfl 6 (by decide) fl_RX6_56 (v := .ref a7) rfl dX6_take_93 ?_
  refine lv_aload_n C.1 C.2.1 dX6_take_96 rfl (lv_at hl 0 rfl) ?_
  refine r_get C w 0 rfl rfl 10 (by decide) fl_RX6_24 (v := .ref a1) rfl dX6_take_97 ?_
  refine r_callV C w fv_RX6_110 (c_X0_take_0 l D cy a7 a1 a2 a25) (hl.1.trans hml.symm) [1] [0, 2, 3, 4, 5, 6, 7, 8, 9, 10, 11, 12, 13, 14, 15, 16] (wr := [(a0, .inr (6, [.ref a2, .ref a3, .int 190, .ref a4, .ref a5, .ref a6, .ref a7, .ref a8, .ref a9, .ref a10, .ref a1, .int 1, .int 0])), (a8, .inr (8, [.ref a7, .int (-1), .int 0, .int 0, .int 0, .int 0, .int 0, .ref a27])), (a9, .inr (7, [.ref a7, .int 0, .int (-1), .int (-1), .int (-1), .ref a28])), (a3, .inl (cy 1, 1830, .inl (fillF (fun _ => 0) 2 20 (PP 20 2 (20 + 1 - 2))))), (a1, .inr (9, [.int 0, .int 2, .int 20, .int 120, .int 0, .int 0, .int 0, .int 0, .ref a11, .int 0, .ref a12, .ref a13, .int 0, .ref a14, .ref a15, .ref a16, .ref a17])), (a31, .inl (cy 1, 0, .inl (fun _ => 0))), (n1, .inl (cy 1, 1830, .inl (learnF 0 1830))), (a33, .inl (cy 1, 0, .inl (fun _ => 0))), (n2, .inl (cy 1, 1830, .inl (learnF 2 1830))), (a2, .inr (4, [.ref a18, .ref a19, .int 0, .ref a20])), (a18, .inl (cy 5, 9, .inr (.inr (.inr (.inr (va_up (va_up (va_up (va_up (va_up (va_up (va_up (va_up (va_up (va_up (va_up (va_up (fun _ => none) 0 (some a31)) 1 (some a32)) 2 (some a33)) 3 (some a34)) 4 (some a35)) 5 (some a36)) 6 (some a37)) 7 (some a38)) 8 (some a39)) 0 (some n1)) 2 (some n2)) 3 (some n3))))))), (a34, .inl (cy 1, 0, .inl (fun _ => 0))), (n3, .inl (cy 1, 1830, .inl (learnF 3 1830))), (a5, .inr (1, [.ref a21, .ref a1, .int (-2), .int (-2), .ref a22, .int 0, .int 0, .int 0, .int 0, .int (-1), .int 0, .ref a23, .ref a24])), (a22, .inl (cy 1, 6, .inl (upd (upd (upd (upd (upd (upd (fun _ => 0) 0 (-2)) 1 (-2)) 2 (-2)) 3 (-2)) 4 (-2)) 5 (-2)))), (a6, .inr (3, [.ref a2, .ref a25, .ref a1, .int (-1), .int (-1), .ref a26, .int 0, .int 0, .int 0]))]) ⟨rfl, rfl, rfl, rfl, by decide⟩ 0 rfl rfl rfl rfl rfl ⟨Nat.le_of_ble_eq_true rfl, Nat.le_of_ble_eq_true rfl, Nat.le_of_ble_eq_true rfl⟩ 3 5490 ⟨rfl, rfl, Nat.le_of_ble_eq_true rfl, Nat.le_of_ble_eq_true rfl⟩ dX6_take_100 (fun u H locs hp w => ?_)
  have w : Wd D A s.heap [(a0, .inr (6, [.ref a2, .ref a3, .int 190, .ref a4, .ref a5, .ref a6, .ref a7, .ref a8, .ref a9, .ref a10, .ref a1, .int 1, .int 0])), (a8, .inr (8, [.ref a7, .int (-1), .int 0, .int 0, .int 0, .int 0, .int 0, .ref a27])), (a9, .inr (7, [.ref a7, .int 0, .int (-1), .int (-1), .int (-1), .ref a28])), (a3, .inl (cy 1, 1830, .inl (fillF (fun _ => 0) 2 20 (PP 20 2 (20 + 1 - 2))))), (a1, .inr (9, [.int 0, .int 2, .int 20, .int 120, .int 0, .int 0, .int 0, .int 0, .ref a11, .int 0, .ref a12, .ref a13, .int 0, .ref a14, .ref a15, .ref a16, .ref a17])), (a31, .inl (cy 1, 0, .inl (fun _ => 0))), (n1, .inl (cy 1, 1830, .inl (learnF 0 1830))), (a33, .inl (cy 1, 0, .inl (fun _ => 0))), (n2, .inl (cy 1, 1830, .inl (learnF 2 1830))), (a2, .inr (4, [.ref a18, .ref a19, .int 0, .ref a20])), (a18, .inl (cy 5, 9, .inr (.inr (.inr (.inr (va_up (va_up (va_up (va_up (va_up (va_up (va_up (va_up (va_up (va_up (va_up (va_up (fun _ => none) 0 (some a31)) 1 (some a32)) 2 (some a33)) 3 (some a34)) 4 (some a35)) 5 (some a36)) 6 (some a37)) 7 (some a38)) 8 (some a39)) 0 (some n1)) 2 (some n2)) 3 (some n3))))))), (a34, .inl (cy 1, 0, .inl (fun _ => 0))), (n3, .inl (cy 1, 1830, .inl (learnF 3 1830))), (a5, .inr (1, [.ref a21, .ref a1, .int (-2), .int (-2), .ref a22, .int 0, .int 0, .int 0, .int 0, .int (-1), .int 0, .ref a23, .ref a24])), (a22, .inl (cy 1, 6, .inl (upd (upd (upd (upd (upd (upd (fun _ => 0) 0 (-2)) 1 (-2)) 2 (-2)) 3 (-2)) 4 (-2)) 5 (-2)))), (a6, .inr (3, [.ref a2, .ref a25, .ref a1, .int (-1), .int (-1), .ref a26, .int 0, .int 0, .int 0])), (a7, .inr (0, [.ref a2, .ref a25, .ref a1, .int 0, .int 0]))] _ _ := w
  refine r_top (g2 := F0 m 103 ls []) rfl ?_
  refine lv_aload_n C.1 C.2.1 dX6_take_103 rfl (lv_at hl 0 rfl) ?_
  refine r_get C w 0 rfl rfl 7 (by decide) fl_RX6_65 (v := .ref a8) rfl dX6_take_104 ?_
  refine r_callV C w fv_RX6_111 (c_X8_forget_0 l D cy a8 a7 a27) (hl.1.trans hml.symm) [1] [0, 2, 3, 4, 5, 6, 7, 8, 9, 10, 11, 12, 13, 14, 15, 16] (wr := [(a0, .inr (6, [.ref a2, .ref a3, .int 190, .ref a4, .ref a5, .ref a6, .ref a7, .ref a8, .ref a9, .ref a10, .ref a1, .int 1, .int 0])), (a9, .inr (7, [.ref a7, .int 0, .int (-1), .int (-1), .int (-1), .ref a28])), (a3, .inl (cy 1, 1830, .inl (fillF (fun _ => 0) 2 20 (PP 20 2 (20 + 1 - 2))))), (a1, .inr (9, [.int 0, .int 2, .int 20, .int 120, .int 0, .int 0, .int 0, .int 0, .ref a11, .int 0, .ref a12, .ref a13, .int 0, .ref a14, .ref a15, .ref a16, .ref a17])), (a31, .inl (cy 1, 0, .inl (fun _ => 0))), (n1, .inl (cy 1, 1830, .inl (learnF 0 1830))), (a33, .inl (cy 1, 0, .inl (fun _ => 0))), (n2, .inl (cy 1, 1830, .inl (learnF 2 1830))), (a2, .inr (4, [.ref a18, .ref a19, .int 0, .ref a20])), (a18, .inl (cy 5, 9, .inr (.inr (.inr (.inr (va_up (va_up (va_up (va_up (va_up (va_up (va_up (va_up (va_up (va_up (va_up (va_up (fun _ => none) 0 (some a31)) 1 (some a32)) 2 (some a33)) 3 (some a34)) 4 (some a35)) 5 (some a36)) 6 (some a37)) 7 (some a38)) 8 (some a39)) 0 (some n1)) 2 (some n2)) 3 (some n3))))))), (a34, .inl (cy 1, 0, .inl (fun _ => 0))), (n3, .inl (cy 1, 1830, .inl (learnF 3 1830))), (a5, .inr (1, [.ref a21, .ref a1, .int (-2), .int (-2), .ref a22, .int 0, .int 0, .int 0, .int 0, .int (-1), .int 0, .ref a23, .ref a24])), (a22, .inl (cy 1, 6, .inl (upd (upd (upd (upd (upd (upd (fun _ => 0) 0 (-2)) 1 (-2)) 2 (-2)) 3 (-2)) 4 (-2)) 5 (-2)))), (a6, .inr (3, [.ref a2, .ref a25, .ref a1, .int (-1), .int (-1), .ref a26, .int 0, .int 0, .int 0])), (a7, .inr (0, [.ref a2, .ref a25, .ref a1, .int 0, .int 0]))]) ⟨rfl, rfl, rfl, rfl, by decide⟩ 0 rfl rfl rfl rfl rfl ⟨Nat.le_of_ble_eq_true rfl, Nat.le_of_ble_eq_true rfl, Nat.le_of_ble_eq_true rfl⟩ 3 5490 ⟨rfl, rfl, Nat.le_of_ble_eq_true rfl, Nat.le_of_ble_eq_true rfl⟩ dX6_take_107 (fun u H locs hp w => ?_)
  have w : Wd D A s.heap [(a0, .inr (6, [.ref a2, .ref a3, .int 190, .ref a4, .ref a5, .ref a6, .ref a7, .ref a8, .ref a9, .ref a10, .ref a1, .int 1, .int 0])), (a9, .inr (7, [.ref a7, .int 0, .int (-1), .int (-1), .int (-1), .ref a28])), (a3, .inl (cy 1, 1830, .inl (fillF (fun _ => 0) 2 20 (PP 20 2 (20 + 1 - 2))))), (a1, .inr (9, [.int 0, .int 2, .int 20, .int 120, .int 0, .int 0, .int 0, .int 0, .ref a11, .int 0, .ref a12, .ref a13, .int 0, .ref a14, .ref a15, .ref a16, .ref a17])), (a31, .inl (cy 1, 0, .inl (fun _ => 0))), (n1, .inl (cy 1, 1830, .inl (learnF 0 1830))), (a33, .inl (cy 1, 0, .inl (fun _ => 0))), (n2, .inl (cy 1, 1830, .inl (learnF 2 1830))), (a2, .inr (4, [.ref a18, .ref a19, .int 0, .ref a20])), (a18, .inl (cy 5, 9, .inr (.inr (.inr (.inr (va_up (va_up (va_up (va_up (va_up (va_up (va_up (va_up (va_up (va_up (va_up (va_up (fun _ => none) 0 (some a31)) 1 (some a32)) 2 (some a33)) 3 (some a34)) 4 (some a35)) 5 (some a36)) 6 (some a37)) 7 (some a38)) 8 (some a39)) 0 (some n1)) 2 (some n2)) 3 (some n3))))))), (a34, .inl (cy 1, 0, .inl (fun _ => 0))), (n3, .inl (cy 1, 1830, .inl (learnF 3 1830))), (a5, .inr (1, [.ref a21, .ref a1, .int (-2), .int (-2), .ref a22, .int 0, .int 0, .int 0, .int 0, .int (-1), .int 0, .ref a23, .ref a24])), (a22, .inl (cy 1, 6, .inl (upd (upd (upd (upd (upd (upd (fun _ => 0) 0 (-2)) 1 (-2)) 2 (-2)) 3 (-2)) 4 (-2)) 5 (-2)))), (a6, .inr (3, [.ref a2, .ref a25, .ref a1, .int (-1), .int (-1), .ref a26, .int 0, .int 0, .int 0])), (a7, .inr (0, [.ref a2, .ref a25, .ref a1, .int 0, .int 0])), (a8, .inr (8, [.ref a7, .int (-1), .int 0, .int 0, .int 0, .int 0, .int 0, .ref a27]))] _ _ := w
  refine r_top (g2 := F0 m 110 ls []) rfl ?_
  refine lv_aload_n C.1 C.2.1 dX6_take_110 rfl (lv_at hl 0 rfl) ?_
  refine r_get C w 0 rfl rfl 8 (by decide) fl_RX6_72 (v := .ref a9) rfl dX6_take_111 ?_
  refine r_callV C w fv_RX6_114 (c_X7_forget_0 l D cy a9 a7 a28) (hl.1.trans hml.symm) [1] [0, 2, 3, 4, 5, 6, 7, 8, 9, 10, 11, 12, 13, 14, 15, 16] (wr := [(a0, .inr (6, [.ref a2, .ref a3, .int 190, .ref a4, .ref a5, .ref a6, .ref a7, .ref a8, .ref a9, .ref a10, .ref a1, .int 1, .int 0])), (a3, .inl (cy 1, 1830, .inl (fillF (fun _ => 0) 2 20 (PP 20 2 (20 + 1 - 2))))), (a1, .inr (9, [.int 0, .int 2, .int 20, .int 120, .int 0, .int 0, .int 0, .int 0, .ref a11, .int 0, .ref a12, .ref a13, .int 0, .ref a14, .ref a15, .ref a16, .ref a17])), (a31, .inl (cy 1, 0, .inl (fun _ => 0))), (n1, .inl (cy 1, 1830, .inl (learnF 0 1830))), (a33, .inl (cy 1, 0, .inl (fun _ => 0))), (n2, .inl (cy 1, 1830, .inl (learnF 2 1830))), (a2, .inr (4, [.ref a18, .ref a19, .int 0, .ref a20])), (a18, .inl (cy 5, 9, .inr (.inr (.inr (.inr (va_up (va_up (va_up (va_up (va_up (va_up (va_up (va_up (va_up (va_up (va_up (va_up (fun _ => none) 0 (some a31)) 1 (some a32)) 2 (some a33)) 3 (some a34)) 4 (some a35)) 5 (some a36)) 6 (some a37)) 7 (some a38)) 8 (some a39)) 0 (some n1)) 2 (some n2)) 3 (some n3))))))), (a34, .inl (cy 1, 0, .inl (fun _ => 0))), (n3, .inl (cy 1, 1830, .inl (learnF 3 1830))), (a5, .inr (1, [.ref a21, .ref a1, .int (-2), .int (-2), .ref a22, .int 0, .int 0, .int 0, .int 0, .int (-1), .int 0, .ref a23, .ref a24])), (a22, .inl (cy 1, 6, .inl (upd (upd (upd (upd (upd (upd (fun _ => 0) 0 (-2)) 1 (-2)) 2 (-2)) 3 (-2)) 4 (-2)) 5 (-2)))), (a6, .inr (3, [.ref a2, .ref a25, .ref a1, .int (-1), .int (-1), .ref a26, .int 0, .int 0, .int 0])), (a7, .inr (0, [.ref a2, .ref a25, .ref a1, .int 0, .int 0])), (a8, .inr (8, [.ref a7, .int (-1), .int 0, .int 0, .int 0, .int 0, .int 0, .ref a27]))]) ⟨rfl, rfl, rfl, rfl, by decide⟩ 0 rfl rfl rfl rfl rfl ⟨Nat.le_of_ble_eq_true rfl, Nat.le_of_ble_eq_true rfl, Nat.le_of_ble_eq_true rfl⟩ 3 5490 ⟨rfl, rfl, Nat.le_of_ble_eq_true rfl, Nat.le_of_ble_eq_true rfl⟩ dX6_take_114 (fun u H locs hp w => ?_)
  have w : Wd D A s.heap [(a0, .inr (6, [.ref a2, .ref a3, .int 190, .ref a4, .ref a5, .ref a6, .ref a7, .ref a8, .ref a9, .ref a10, .ref a1, .int 1, .int 0])), (a3, .inl (cy 1, 1830, .inl (fillF (fun _ => 0) 2 20 (PP 20 2 (20 + 1 - 2))))), (a1, .inr (9, [.int 0, .int 2, .int 20, .int 120, .int 0, .int 0, .int 0, .int 0, .ref a11, .int 0, .ref a12, .ref a13, .int 0, .ref a14, .ref a15, .ref a16, .ref a17])), (a31, .inl (cy 1, 0, .inl (fun _ => 0))), (n1, .inl (cy 1, 1830, .inl (learnF 0 1830))), (a33, .inl (cy 1, 0, .inl (fun _ => 0))), (n2, .inl (cy 1, 1830, .inl (learnF 2 1830))), (a2, .inr (4, [.ref a18, .ref a19, .int 0, .ref a20])), (a18, .inl (cy 5, 9, .inr (.inr (.inr (.inr (va_up (va_up (va_up (va_up (va_up (va_up (va_up (va_up (va_up (va_up (va_up (va_up (fun _ => none) 0 (some a31)) 1 (some a32)) 2 (some a33)) 3 (some a34)) 4 (some a35)) 5 (some a36)) 6 (some a37)) 7 (some a38)) 8 (some a39)) 0 (some n1)) 2 (some n2)) 3 (some n3))))))), (a34, .inl (cy 1, 0, .inl (fun _ => 0))), (n3, .inl (cy 1, 1830, .inl (learnF 3 1830))), (a5, .inr (1, [.ref a21, .ref a1, .int (-2), .int (-2), .ref a22, .int 0, .int 0, .int 0, .int 0, .int (-1), .int 0, .ref a23, .ref a24])), (a22, .inl (cy 1, 6, .inl (upd (upd (upd (upd (upd (upd (fun _ => 0) 0 (-2)) 1 (-2)) 2 (-2)) 3 (-2)) 4 (-2)) 5 (-2)))), (a6, .inr (3, [.ref a2, .ref a25, .ref a1, .int (-1), .int (-1), .ref a26, .int 0, .int 0, .int 0])), (a7, .inr (0, [.ref a2, .ref a25, .ref a1, .int 0, .int 0])), (a8, .inr (8, [.ref a7, .int (-1), .int 0, .int 0, .int 0, .int 0, .int 0, .ref a27])), (a9, .inr (7, [.ref a7, .int 0, .int (-1), .int (-1), .int (-1), .ref a28]))] _ _ := w
  refine r_top (g2 := F0 m 117 ls []) rfl ?_
  exact r_vret C w hlocks (n1, n2, n3) hr rfl trivial [0, 1, 2, 3, 4, 5, 6, 7, 8, 9, 10, 11, 12, 13, 14, 15, 16] rfl rfl ⟨Nat.le_of_ble_eq_true rfl, Nat.le_of_ble_eq_true rfl⟩ dX6_take_117
theorem fv_RX11_372 : FV RX11 372 yX6_take cX6_take 2 none 1 := ⟨⟨gw_mem (by decide +kernel) (by decide +kernel), gw_mem (by decide +kernel) (by decide +kernel), gw_mem (by decide +kernel) (by decide +kernel), gw_mem (by decide +kernel) (by decide +kernel), gw_mem (by decide +kernel) (by decide +kernel)⟩, ⟨by decide +kernel, by decide +kernel, by decide +kernel⟩⟩
theorem dX11_view_45 : decode cX11_view 45 = .ok (.aload_n 0, 1) := by decide +kernel
theorem dX11_view_46 : decode cX11_view 46 = .ok (.getfield 85, 3) := by decide +kernel
theorem dX11_view_49 : decode cX11_view 49 = .ok (.areturn, 1) := by decide +kernel
set_option maxRecDepth 100000 in
set_option maxHeartbeats 4000000 in
theorem c_X11_view_0 (l : Launch) (D : va_G) (cy : Nat → ClassId) (a0 a1 a2 a3 a4 a5 a6 a11 a12 a13 a14 a15 a16 a17 : Nat) : Ct l D cy yX11_view cX11_view 1 (some (.object "TwoSlips$Scene")) 4 98 36 23817 [(a0, .inr (11, [.ref a1, .int 0, .int 0, .int (-1), .ref a2, .ref a3, .ref a4, .ref a5, .ref a6, .null])), (a6, .inr (9, [.int 0, .int 2, .int 20, .int 120, .int 0, .int 0, .int 0, .int 0, .ref a11, .int 0, .ref a12, .ref a13, .int 0, .ref a14, .ref a15, .ref a16, .ref a17]))] [.ref a0] (fun u : Nat × Nat × Nat × Nat × Nat × Nat × Nat × Nat × Nat × Nat × Nat × Nat × Nat × Nat × Nat × Nat × Nat × Nat × Nat × Nat × Nat × Nat × Nat × Nat × Nat × Nat × Nat × Nat × Nat × Nat × Nat × Nat × Nat × Nat × Nat × Nat => some (.ref u.1)) (fun _ => True) (fun u : Nat × Nat × Nat × Nat × Nat × Nat × Nat × Nat × Nat × Nat × Nat × Nat × Nat × Nat × Nat × Nat × Nat × Nat × Nat × Nat × Nat × Nat × Nat × Nat × Nat × Nat × Nat × Nat × Nat × Nat × Nat × Nat × Nat × Nat × Nat × Nat => [(a0, .inr (11, [.ref a1, .int 0, .int 0, .int (-1), .ref a2, .ref a3, .ref a4, .ref a5, .ref a6, .ref u.1])), (u.2.2.2.2.1, .inl (cy 1, 0, .inl (fun _ => 0))), (u.2.2.2.2.2.2.2.1, .inl (cy 1, 0, .inl (fun _ => 0))), (u.2.2.2.2.2.2.2.2.1, .inl (cy 1, 0, .inl (fun _ => 0))), (u.2.2.2.2.2.2.2.2.2.1, .inl (cy 1, 0, .inl (fun _ => 0))), (u.2.2.2.2.2.2.2.2.2.2.1, .inl (cy 1, 0, .inl (fun _ => 0))), (u.2.2.2.2.2.2.2.2.2.2.2.1, .inl (cy 1, 0, .inl (fun _ => 0))), (u.2.2.2.2.2.2.2.2.2.2.2.2.1, .inl (cy 1, 7201, .inl (fun _ => 0))), (u.2.2.2.2.2.2.2.2.2.2.2.2.2.1, .inl (cy 1, 1830, .inl (fun _ => 0))), (u.2.2.2.2.2.2.2.2.2.2.2.2.2.2.1, .inl (cy 1, 1830, .inl (fun _ => 0))), (u.2.2.2.2.2.2.2.2.2.2.2.2.2.2.2.2.1, .inl (cy 1, 1830, .inl (fun _ => 0))), (u.2.2.2.2.2.2.2.2.2.2.2.2.2.2.2.2.2.2.1, .inl (cy 1, 1830, .inl (fun _ => 0))), (u.2.2.2.2.2.2.2.2.2.2.2.2.2.2.2.2.2.1, .inr (2, [.ref u.2.1, .ref u.2.2.2.2.2.2.2.2.2.2.2.2.2.2.2.2.2.2.1, .ref u.2.2.2.2.2.2.2.2.2.2.2.2.2.2.2.2.2.2.2.1, .ref a6, .int 0])), (u.2.2.2.2.2.2.2.2.2.2.2.2.2.2.2.2.2.2.2.1, .inl (cy 1, 21, .inl (fun _ => 0))), (u.2.2.2.2.2.2.2.2.2.2.2.2.2.2.2.2.2.2.2.2.2.1, .inr (2, [.ref u.2.1, .ref u.2.2.2.2.2.2.2.2.2.2.2.2.2.2.1, .ref u.2.2.2.2.2.2.2.2.2.2.2.2.2.2.2.2.2.2.2.2.2.2.1, .ref a6, .int 0])), (u.2.2.2.2.2.2.2.2.2.2.2.2.2.2.2.2.2.2.2.2.2.2.1, .inl (cy 1, 21, .inl (fun _ => 0))), (u.2.2.2.2.2.2.2.2.2.2.2.2.2.2.2.2.2.2.2.2.2.2.2.2.1, .inl (cy 1, 6, .inl (fun _ => 0))), (u.2.2.2.2.2.2.2.2.2.2.2.2.2.2.2.2.2.2.2.2.2.2.2.2.2.1, .inl (cy 1, 6, .inl (fun _ => 0))), (u.2.2.2.2.2.2.2.2.2.2.2.2.2.2.2.2.2.2.2.2.2.2.2.2.2.2.2.1, .inl (cy 1, 1830, .inl (fun _ => 0))), (u.2.2.2.2.2.2.2.2.2.2.2.2.2.2.2.2.2.2.2.2.2.2.2.2.2.2.2.2.2.2.1, .inl (cy 1, 5, .inl (fun _ => 0))), (u.2.2.2.2.2.2.2.2.2.2.2.2.2.2.2.2.2.2.2.2.2.2.2.2.2.2.2.2.2.2.2.2.1, .inl (cy 1, 4, .inl (fun _ => 0))), (u.1, .inr (6, [.ref u.2.1, .ref u.2.2.2.2.2.2.2.2.2.2.2.2.2.2.2.1, .int 190, .ref u.2.2.2.2.2.2.2.2.2.2.2.2.2.2.2.2.1, .ref u.2.2.2.2.2.2.2.2.2.2.2.2.2.2.2.2.2.2.2.2.1, .ref u.2.2.2.2.2.2.2.2.2.2.2.2.2.2.2.2.2.2.2.2.2.2.2.2.2.2.1, .ref u.2.2.2.2.2.2.2.2.2.2.2.2.2.2.2.2.2.2.2.2.2.2.2.2.2.2.2.2.1, .ref u.2.2.2.2.2.2.2.2.2.2.2.2.2.2.2.2.2.2.2.2.2.2.2.2.2.2.2.2.2.1, .ref u.2.2.2.2.2.2.2.2.2.2.2.2.2.2.2.2.2.2.2.2.2.2.2.2.2.2.2.2.2.2.2.1, .ref u.2.2.2.2.2.2.2.2.2.2.2.2.2.2.2.2.2.1, .ref a6, .int 1, .int 0])), (u.2.2.2.2.2.2.2.2.2.2.2.2.2.2.2.1, .inl (cy 1, 1830, .inl (fillF (fun _ => 0) 2 20 (PP 20 2 (20 + 1 - 2))))), (a6, .inr (9, [.int 0, .int 2, .int 20, .int 120, .int 0, .int 0, .int 0, .int 0, .ref a11, .int 0, .ref a12, .ref a13, .int 0, .ref a14, .ref a15, .ref a16, .ref a17])), (u.2.2.2.1, .inl (cy 1, 0, .inl (fun _ => 0))), (u.2.2.2.2.2.2.2.2.2.2.2.2.2.2.2.2.2.2.2.2.2.2.2.2.2.2.2.2.2.2.2.2.2.1, .inl (cy 1, 1830, .inl (learnF 0 1830))), (u.2.2.2.2.2.1, .inl (cy 1, 0, .inl (fun _ => 0))), (u.2.2.2.2.2.2.2.2.2.2.2.2.2.2.2.2.2.2.2.2.2.2.2.2.2.2.2.2.2.2.2.2.2.2.1, .inl (cy 1, 1830, .inl (learnF 2 1830))), (u.2.1, .inr (4, [.ref u.2.2.1, .ref u.2.2.2.2.2.2.2.2.2.2.2.2.1, .int 0, .ref u.2.2.2.2.2.2.2.2.2.2.2.2.2.1])), (u.2.2.1, .inl (cy 5, 9, .inr (.inr (.inr (.inr (va_up (va_up (va_up (va_up (va_up (va_up (va_up (va_up (va_up (va_up (va_up (va_up (fun _ => none) 0 (some u.2.2.2.1)) 1 (some u.2.2.2.2.1)) 2 (some u.2.2.2.2.2.1)) 3 (some u.2.2.2.2.2.2.1)) 4 (some u.2.2.2.2.2.2.2.1)) 5 (some u.2.2.2.2.2.2.2.2.1)) 6 (some u.2.2.2.2.2.2.2.2.2.1)) 7 (some u.2.2.2.2.2.2.2.2.2.2.1)) 8 (some u.2.2.2.2.2.2.2.2.2.2.2.1)) 0 (some u.2.2.2.2.2.2.2.2.2.2.2.2.2.2.2.2.2.2.2.2.2.2.2.2.2.2.2.2.2.2.2.2.2.1)) 2 (some u.2.2.2.2.2.2.2.2.2.2.2.2.2.2.2.2.2.2.2.2.2.2.2.2.2.2.2.2.2.2.2.2.2.2.1)) 3 (some u.2.2.2.2.2.2.2.2.2.2.2.2.2.2.2.2.2.2.2.2.2.2.2.2.2.2.2.2.2.2.2.2.2.2.2))))))), (u.2.2.2.2.2.2.1, .inl (cy 1, 0, .inl (fun _ => 0))), (u.2.2.2.2.2.2.2.2.2.2.2.2.2.2.2.2.2.2.2.2.2.2.2.2.2.2.2.2.2.2.2.2.2.2.2, .inl (cy 1, 1830, .inl (learnF 3 1830))), (u.2.2.2.2.2.2.2.2.2.2.2.2.2.2.2.2.2.2.2.2.1, .inr (1, [.ref u.2.2.2.2.2.2.2.2.2.2.2.2.2.2.2.2.2.2.2.2.2.1, .ref a6, .int (-2), .int (-2), .ref u.2.2.2.2.2.2.2.2.2.2.2.2.2.2.2.2.2.2.2.2.2.2.2.1, .int 0, .int 0, .int 0, .int 0, .int (-1), .int 0, .ref u.2.2.2.2.2.2.2.2.2.2.2.2.2.2.2.2.2.2.2.2.2.2.2.2.1, .ref u.2.2.2.2.2.2.2.2.2.2.2.2.2.2.2.2.2.2.2.2.2.2.2.2.2.1])), (u.2.2.2.2.2.2.2.2.2.2.2.2.2.2.2.2.2.2.2.2.2.2.2.1, .inl (cy 1, 6, .inl (upd (upd (upd (upd (upd (upd (fun _ => 0) 0 (-2)) 1 (-2)) 2 (-2)) 3 (-2)) 4 (-2)) 5 (-2)))), (u.2.2.2.2.2.2.2.2.2.2.2.2.2.2.2.2.2.2.2.2.2.2.2.2.2.2.1, .inr (3, [.ref u.2.1, .ref u.2.2.2.2.2.2.2.2.2.2.2.2.2.2.1, .ref a6, .int (-1), .int (-1), .ref u.2.2.2.2.2.2.2.2.2.2.2.2.2.2.2.2.2.2.2.2.2.2.2.2.2.2.2.1, .int 0, .int 0, .int 0])), (u.2.2.2.2.2.2.2.2.2.2.2.2.2.2.2.2.2.2.2.2.2.2.2.2.2.2.2.2.1, .inr (0, [.ref u.2.1, .ref u.2.2.2.2.2.2.2.2.2.2.2.2.2.2.1, .ref a6, .int 0, .int 0])), (u.2.2.2.2.2.2.2.2.2.2.2.2.2.2.2.2.2.2.2.2.2.2.2.2.2.2.2.2.2.1, .inr (8, [.ref u.2.2.2.2.2.2.2.2.2.2.2.2.2.2.2.2.2.2.2.2.2.2.2.2.2.2.2.2.1, .int (-1), .int 0, .int 0, .int 0, .int 0, .int 0, .ref u.2.2.2.2.2.2.2.2.2.2.2.2.2.2.2.2.2.2.2.2.2.2.2.2.2.2.2.2.2.2.1])), (u.2.2.2.2.2.2.2.2.2.2.2.2.2.2.2.2.2.2.2.2.2.2.2.2.2.2.2.2.2.2.2.1, .inr (7, [.ref u.2.2.2.2.2.2.2.2.2.2.2.2.2.2.2.2.2.2.2.2.2.2.2.2.2.2.2.2.1, .int 0, .int (-1), .int (-1), .int (-1), .ref u.2.2.2.2.2.2.2.2.2.2.2.2.2.2.2.2.2.2.2.2.2.2.2.2.2.2.2.2.2.2.2.2.1]))]) := by
  refine Ct.of (by decide +kernel) (Nat.le_of_ble_eq_true rfl) ?_
  intro p e s m args below meth c A ls C hr hlocks hml hnm w hl
  have hl : lv_has ls 1 [(0, .ref a0)] := hl
  refine lv_aload_n C.1 C.2.1 dX11_view_0 rfl (lv_at hl 0 rfl) ?_
  refine r_get C w 0 rfl rfl 9 (by decide) fl_RX11_85 (v := .null) rfl dX11_view_1 ?_
  refine lv_ifnonnullN C.1 C.2.1 dX11_view_4 ?_
  refine lv_aload_n C.1 C.2.1 dX11_view_7 rfl (lv_at hl 0 rfl) ?_
  refine r_new C w (ci := 6) rfl cl_RX11_90 in_6 it_6 tyX6 tyX6_ok [.null, .null, .int 0, .null, .null, .null, .null, .null, .null, .null, .null, .int 0, .int 0] (by decide +kernel) 1 13 rfl rfl ⟨Nat.le_of_ble_eq_true rfl, Nat.le_of_ble_eq_true rfl⟩ dX11_view_8 (fun n1 H w => ?_)
  have w : Wd D A s.heap [(a0, .inr (11, [.ref a1, .int 0, .int 0, .int (-1), .ref a2, .ref a3, .ref a4, .ref a5, .ref a6, .null])), (a6, .inr (9, [.int 0, .int 2, .int 20, .int 120, .int 0, .int 0, .int 0, .int 0, .ref a11, .int 0, .ref a12, .ref a13, .int 0, .ref a14, .ref a15, .ref a16, .ref a17])), (n1, .inr (6, [.null, .null, .int 0, .null, .null, .null, .null, .null, .null, .null, .null, .int 0, .int 0]))] _ _ := w
  refine lv_dup C.1 C.2.1 dX11_view_11 rfl ?_
  refine r_new C w (ci := 4) rfl cl_RX11_109 in_4 it_4 tyX4 tyX4_ok [.null, .null, .int 0, .null] (by decide +kernel) 2 17 rfl rfl ⟨Nat.le_of_ble_eq_true rfl, Nat.le_of_ble_eq_true rfl⟩ dX11_view_12 (fun n2 H w => ?_)
  have w : Wd D A s.heap [(a0, .inr (11, [.ref a1, .int 0, .int 0, .int (-1), .ref a2, .ref a3, .ref a4, .ref a5, .ref a6, .null])), (a6, .inr (9, [.int 0, .int 2, .int 20, .int 120, .int 0, .int 0, .int 0, .int 0, .ref a11, .int 0, .ref a12, .ref a13, .int 0, .ref a14, .ref a15, .ref a16, .ref a17])), (n1, .inr (6, [.null, .null, .int 0, .null, .null, .null, .null, .null, .null, .null, .null, .int 0, .int 0])), (n2, .inr (4, [.null, .null, .int 0, .null]))] _ _ := w
  refine lv_dup C.1 C.2.1 dX11_view_15 rfl ?_
  refine r_callN C w C.2.2.2.2.1.2.2.1.2.2.2 fn_X4_init (c_X4_init_0 l D cy n2) (hl.1.trans hml.symm) [3] [0, 1, 2] (wr := [(a0, .inr (11, [.ref a1, .int 0, .int 0, .int (-1), .ref a2, .ref a3, .ref a4, .ref a5, .ref a6, .null])), (a6, .inr (9, [.int 0, .int 2, .int 20, .int 120, .int 0, .int 0, .int 0, .int 0, .ref a11, .int 0, .ref a12, .ref a13, .int 0, .ref a14, .ref a15, .ref a16, .ref a17])), (n1, .inr (6, [.null, .null, .int 0, .null, .null, .null, .null, .null, .null, .null, .null, .int 0, .int 0]))]) ⟨rfl, rfl, rfl, rfl, by decide⟩ rfl rfl ⟨Nat.le_of_ble_eq_true rfl, Nat.le_of_ble_eq_true rfl, Nat.le_of_ble_eq_true rfl⟩ 14 9057 ⟨rfl, rfl, Nat.le_of_ble_eq_true rfl, Nat.le_of_ble_eq_true rfl⟩ dX11_view_16 (fun u H locs hp w => ?_)
  obtain ⟨n3, n4, n5, n6, n7, n8, n9, n10, n11, n12, n13, n14⟩ := u
  have w : Wd D A s.heap [(a0, .inr (11, [.ref a1, .int 0, .int 0, .int (-1), .ref a2, .ref a3, .ref a4, .ref a5, .ref a6, .null])), (a6, .inr (9, [.int 0, .int 2, .int 20, .int 120, .int 0, .int 0, .int 0, .int 0, .ref a11, .int 0, .ref a12, .ref a13, .int 0, .ref a14, .ref a15, .ref a16, .ref a17])), (n1, .inr (6, [.null, .null, .int 0, .null, .null, .null, .null, .null, .null, .null, .null, .int 0, .int 0])), (n2, .inr (4, [.ref n3, .ref n13, .int 0, .ref n14])), (n3, .inl (cy 5, 9, .inr (.inr (.inr (.inr (va_up (va_up (va_up (va_up (va_up (va_up (va_up (va_up (va_up (fun _ => none) 0 (some n4)) 1 (some n5)) 2 (some n6)) 3 (some n7)) 4 (some n8)) 5 (some n9)) 6 (some n10)) 7 (some n11)) 8 (some n12))))))), (n4, .inl (cy 1, 0, .inl (fun _ => 0))), (n5, .inl (cy 1, 0, .inl (fun _ => 0))), (n6, .inl (cy 1, 0, .inl (fun _ => 0))), (n7, .inl (cy 1, 0, .inl (fun _ => 0))), (n8, .inl (cy 1, 0, .inl (fun _ => 0))), (n9, .inl (cy 1, 0, .inl (fun _ => 0))), (n10, .inl (cy 1, 0, .inl (fun _ => 0))), (n11, .inl (cy 1, 0, .inl (fun _ => 0))), (n12, .inl (cy 1, 0, .inl (fun _ => 0))), (n13, .inl (cy 1, 7201, .inl (fun _ => 0))), (n14, .inl (cy 1, 1830, .inl (fun _ => 0)))] _ _ := w
  refine r_top (g2 := F0 m 19 ls [.ref n2, .ref n1, .ref n1, .ref a0]) rfl ?_
  refine lv_sipush (v := 1830) C.1 C.2.1 dX11_view_19 (by decide) ?_
  refine r_newa_int C w 1830 ac_int (by decide) (by decide) (by decide) 15 10887 rfl rfl ⟨Nat.le_of_ble_eq_true rfl, Nat.le_of_ble_eq_true rfl⟩ dX11_view_22 (fun n15 H w => ?_)
  have w : Wd D A s.heap [(a0, .inr (11, [.ref a1, .int 0, .int 0, .int (-1), .ref a2, .ref a3, .ref a4, .ref a5, .ref a6, .null])), (a6, .inr (9, [.int 0, .int 2, .int 20, .int 120, .int 0, .int 0, .int 0, .int 0, .ref a11, .int 0, .ref a12, .ref a13, .int 0, .ref a14, .ref a15, .ref a16, .ref a17])), (n1, .inr (6, [.null, .null, .int 0, .null, .null, .null, .null, .null, .null, .null, .null, .int 0, .int 0])), (n2, .inr (4, [.ref n3, .ref n13, .int 0, .ref n14])), (n3, .inl (cy 5, 9, .inr (.inr (.inr (.inr (va_up (va_up (va_up (va_up (va_up (va_up (va_up (va_up (va_up (fun _ => none) 0 (some n4)) 1 (some n5)) 2 (some n6)) 3 (some n7)) 4 (some n8)) 5 (some n9)) 6 (some n10)) 7 (some n11)) 8 (some n12))))))), (n4, .inl (cy 1, 0, .inl (fun _ => 0))), (n5, .inl (cy 1, 0, .inl (fun _ => 0))), (n6, .inl (cy 1, 0, .inl (fun _ => 0))), (n7, .inl (cy 1, 0, .inl (fun _ => 0))), (n8, .inl (cy 1, 0, .inl (fun _ => 0))), (n9, .inl (cy 1, 0, .inl (fun _ => 0))), (n10, .inl (cy 1, 0, .inl (fun _ => 0))), (n11, .inl (cy 1, 0, .inl (fun _ => 0))), (n12, .inl (cy 1, 0, .inl (fun _ => 0))), (n13, .inl (cy 1, 7201, .inl (fun _ => 0))), (n14, .inl (cy 1, 1830, .inl (fun _ => 0))), (n15, .inl (cy 1, 1830, .inl (fun _ => 0)))] _ _ := w
  refine lv_aload_n C.1 C.2.1 dX11_view_24 rfl (lv_at hl 0 rfl) ?_
  refine r_get C w 0 rfl rfl 8 (by decide) fl_RX11_41 (v := .ref a6) rfl dX11_view_25 ?_
  refine r_callI C w fi_RX11_369 (c_X6_init_0 l D cy n1 n2 n15 a6) (hl.1.trans hml.symm) [2] [0, 1, 3, 4, 5, 6, 7, 8, 9, 10, 11, 12, 13, 14, 15, 16] (wr := [(a0, .inr (11, [.ref a1, .int 0, .int 0, .int (-1), .ref a2, .ref a3, .ref a4, .ref a5, .ref a6, .null])), (a6, .inr (9, [.int 0, .int 2, .int 20, .int 120, .int 0, .int 0, .int 0, .int 0, .ref a11, .int 0, .ref a12, .ref a13, .int 0, .ref a14, .ref a15, .ref a16, .ref a17])), (n2, .inr (4, [.ref n3, .ref n13, .int 0, .ref n14])), (n3, .inl (cy 5, 9, .inr (.inr (.inr (.inr (va_up (va_up (va_up (va_up (va_up (va_up (va_up (va_up (va_up (fun _ => none) 0 (some n4)) 1 (some n5)) 2 (some n6)) 3 (some n7)) 4 (some n8)) 5 (some n9)) 6 (some n10)) 7 (some n11)) 8 (some n12))))))), (n4, .inl (cy 1, 0, .inl (fun _ => 0))), (n5, .inl (cy 1, 0, .inl (fun _ => 0))), (n6, .inl (cy 1, 0, .inl (fun _ => 0))), (n7, .inl (cy 1, 0, .inl (fun _ => 0))), (n8, .inl (cy 1, 0, .inl (fun _ => 0))), (n9, .inl (cy 1, 0, .inl (fun _ => 0))), (n10, .inl (cy 1, 0, .inl (fun _ => 0))), (n11, .inl (cy 1, 0, .inl (fun _ => 0))), (n12, .inl (cy 1, 0, .inl (fun _ => 0))), (n13, .inl (cy 1, 7201, .inl (fun _ => 0))), (n14, .inl (cy 1, 1830, .inl (fun _ => 0))), (n15, .inl (cy 1, 1830, .inl (fun _ => 0)))]) ⟨rfl, rfl, rfl, rfl, by decide⟩ rfl rfl ⟨Nat.le_of_ble_eq_true rfl, Nat.le_of_ble_eq_true rfl, Nat.le_of_ble_eq_true rfl⟩ 33 18327 ⟨rfl, rfl, Nat.le_of_ble_eq_true rfl, Nat.le_of_ble_eq_true rfl⟩ dX11_view_28 (fun u H locs hp w => ?_)
  obtain ⟨n16, n17, n18, n19, n20, n21, n22, n23, n24, n25, n26, n27, n28, n29, n30, n31, n32, n33⟩ := u
  have w : Wd D A s.heap [(a0, .inr (11, [.ref a1, .int 0, .int 0, .int (-1), .ref a2, .ref a3, .ref a4, .ref a5, .ref a6, .null])), (a6, .inr (9, [.int 0, .int 2, .int 20, .int 120, .int 0, .int 0, .int 0, .int 0, .ref a11, .int 0, .ref a12, .ref a13, .int 0, .ref a14, .ref a15, .ref a16, .ref a17])), (n2, .inr (4, [.ref n3, .ref n13, .int 0, .ref n14])), (n3, .inl (cy 5, 9, .inr (.inr (.inr (.inr (va_up (va_up (va_up (va_up (va_up (va_up (va_up (va_up (va_up (fun _ => none) 0 (some n4)) 1 (some n5)) 2 (some n6)) 3 (some n7)) 4 (some n8)) 5 (some n9)) 6 (some n10)) 7 (some n11)) 8 (some n12))))))), (n4, .inl (cy 1, 0, .inl (fun _ => 0))), (n5, .inl (cy 1, 0, .inl (fun _ => 0))), (n6, .inl (cy 1, 0, .inl (fun _ => 0))), (n7, .inl (cy 1, 0, .inl (fun _ => 0))), (n8, .inl (cy 1, 0, .inl (fun _ => 0))), (n9, .inl (cy 1, 0, .inl (fun _ => 0))), (n10, .inl (cy 1, 0, .inl (fun _ => 0))), (n11, .inl (cy 1, 0, .inl (fun _ => 0))), (n12, .inl (cy 1, 0, .inl (fun _ => 0))), (n13, .inl (cy 1, 7201, .inl (fun _ => 0))), (n14, .inl (cy 1, 1830, .inl (fun _ => 0))), (n15, .inl (cy 1, 1830, .inl (fun _ => 0))), (n1, .inr (6, [.ref n2, .ref n16, .int 0, .ref n17, .ref n21, .ref n27, .ref n29, .ref n30, .ref n32, .ref n18, .ref a6, .int 0, .int 0])), (n16, .inl (cy 1, 1830, .inl (fun _ => 0))), (n17, .inl (cy 1, 1830, .inl (fun _ => 0))), (n19, .inl (cy 1, 1830, .inl (fun _ => 0))), (n18, .inr (2, [.ref n2, .ref n19, .ref n20, .ref a6, .int 0])), (n20, .inl (cy 1, 21, .inl (fun _ => 0))), (n22, .inr (2, [.ref n2, .ref n15, .ref n23, .ref a6, .int 0])), (n23, .inl (cy 1, 21, .inl (fun _ => 0))), (n21, .inr (1, [.ref n22, .ref a6, .int 0, .int 0, .ref n24, .int 0, .int 0, .int 0, .int 0, .int 0, .int 0, .ref n25, .ref n26])), (n24, .inl (cy 1, 6, .inl (fun _ => 0))), (n25, .inl (cy 1, 6, .inl (fun _ => 0))), (n26, .inl (cy 1, 6, .inl (fun _ => 0))), (n27, .inr (3, [.ref n2, .ref n15, .ref a6, .int 0, .int 0, .ref n28, .int 0, .int 0, .int 0])), (n28, .inl (cy 1, 1830, .inl (fun _ => 0))), (n29, .inr (0, [.ref n2, .ref n15, .ref a6, .int 0, .int 0])), (n30, .inr (8, [.ref n29, .int (-1), .int 0, .int 0, .int 0, .int 0, .int 0, .ref n31])), (n31, .inl (cy 1, 5, .inl (fun _ => 0))), (n32, .inr (7, [.ref n29, .int 0, .int (-1), .int (-1), .int (-1), .ref n33])), (n33, .inl (cy 1, 4, .inl (fun _ => 0)))] _ _ := w
  refine r_top (g2 := F0 m 31 ls [.ref n1, .ref a0]) rfl ?_
  refine r_put C w 0 rfl rfl 9 (by decide) fl_RX11_85 rfl (ty := (.object "TwoSlips$Scene")) (tyX11_ok 9 (by decide)) rfl rfl (Nat.le_of_ble_eq_true rfl) [(a0, .inr (11, [.ref a1, .int 0, .int 0, .int (-1), .ref a2, .ref a3, .ref a4, .ref a5, .ref a6, .ref n1])), (a6, .inr (9, [.int 0, .int 2, .int 20, .int 120, .int 0, .int 0, .int 0, .int 0, .ref a11, .int 0, .ref a12, .ref a13, .int 0, .ref a14, .ref a15, .ref a16, .ref a17])), (n2, .inr (4, [.ref n3, .ref n13, .int 0, .ref n14])), (n3, .inl (cy 5, 9, .inr (.inr (.inr (.inr (va_up (va_up (va_up (va_up (va_up (va_up (va_up (va_up (va_up (fun _ => none) 0 (some n4)) 1 (some n5)) 2 (some n6)) 3 (some n7)) 4 (some n8)) 5 (some n9)) 6 (some n10)) 7 (some n11)) 8 (some n12))))))), (n4, .inl (cy 1, 0, .inl (fun _ => 0))), (n5, .inl (cy 1, 0, .inl (fun _ => 0))), (n6, .inl (cy 1, 0, .inl (fun _ => 0))), (n7, .inl (cy 1, 0, .inl (fun _ => 0))), (n8, .inl (cy 1, 0, .inl (fun _ => 0))), (n9, .inl (cy 1, 0, .inl (fun _ => 0))), (n10, .inl (cy 1, 0, .inl (fun _ => 0))), (n11, .inl (cy 1, 0, .inl (fun _ => 0))), (n12, .inl (cy 1, 0, .inl (fun _ => 0))), (n13, .inl (cy 1, 7201, .inl (fun _ => 0))), (n14, .inl (cy 1, 1830, .inl (fun _ => 0))), (n15, .inl (cy 1, 1830, .inl (fun _ => 0))), (n1, .inr (6, [.ref n2, .ref n16, .int 0, .ref n17, .ref n21, .ref n27, .ref n29, .ref n30, .ref n32, .ref n18, .ref a6, .int 0, .int 0])), (n16, .inl (cy 1, 1830, .inl (fun _ => 0))), (n17, .inl (cy 1, 1830, .inl (fun _ => 0))), (n19, .inl (cy 1, 1830, .inl (fun _ => 0))), (n18, .inr (2, [.ref n2, .ref n19, .ref n20, .ref a6, .int 0])), (n20, .inl (cy 1, 21, .inl (fun _ => 0))), (n22, .inr (2, [.ref n2, .ref n15, .ref n23, .ref a6, .int 0])), (n23, .inl (cy 1, 21, .inl (fun _ => 0))), (n21, .inr (1, [.ref n22, .ref a6, .int 0, .int 0, .ref n24, .int 0, .int 0, .int 0, .int 0, .int 0, .int 0, .ref n25, .ref n26])), (n24, .inl (cy 1, 6, .inl (fun _ => 0))), (n25, .inl (cy 1, 6, .inl (fun _ => 0))), (n26, .inl (cy 1, 6, .inl (fun _ => 0))), (n27, .inr (3, [.ref n2, .ref n15, .ref a6, .int 0, .int 0, .ref n28, .int 0, .int 0, .int 0])), (n28, .inl (cy 1, 1830, .inl (fun _ => 0))), (n29, .inr (0, [.ref n2, .ref n15, .ref a6, .int 0, .int 0])), (n30, .inr (8, [.ref n29, .int (-1), .int 0, .int 0, .int 0, .int 0, .int 0, .ref n31])), (n31, .inl (cy 1, 5, .inl (fun _ => 0))), (n32, .inr (7, [.ref n29, .int 0, .int (-1), .int (-1), .int (-1), .ref n33])), (n33, .inl (cy 1, 4, .inl (fun _ => 0)))] rfl dX11_view_31 (fun H locs w => ?_)
  refine lv_aload_n C.1 C.2.1 dX11_view_34 rfl (lv_at hl 0 rfl) ?_
  refine r_get C w 0 rfl rfl 9 (by decide) fl_RX11_85 (v := .ref n1) rfl dX11_view_35 ?_
  refine lv_aload_n C.1 C.2.1 dX11_view_38 rfl (lv_at hl 0 rfl) ?_
  refine r_get C w 0 rfl rfl 8 (by decide) fl_RX11_41 (v := .ref a6) rfl dX11_view_39 ?_
  refine r_callV C w fv_RX11_372 (c_X6_take_0 l D cy n1 a6 n2 n16 n17 n21 n27 n29 n30 n32 n18 a11 a12 a13 a14 a15 a16 a17 n3 n13 n14 n22 n24 n25 n26 n15 n28 n31 n33 n4 n5 n6 n7 n8 n9 n10 n11 n12) (hl.1.trans hml.symm) [16, 1, 2, 17, 24, 28, 30, 31, 33, 3, 25, 4, 6, 7] [0, 5, 8, 9, 10, 11, 12, 13, 14, 15, 18, 19, 20, 21, 22, 23, 26, 27, 29, 32, 34] (wr := [(a0, .inr (11, [.ref a1, .int 0, .int 0, .int (-1), .ref a2, .ref a3, .ref a4, .ref a5, .ref a6, .ref n1])), (n5, .inl (cy 1, 0, .inl (fun _ => 0))), (n8, .inl (cy 1, 0, .inl (fun _ => 0))), (n9, .inl (cy 1, 0, .inl (fun _ => 0))), (n10, .inl (cy 1, 0, .inl (fun _ => 0))), (n11, .inl (cy 1, 0, .inl (fun _ => 0))), (n12, .inl (cy 1, 0, .inl (fun _ => 0))), (n13, .inl (cy 1, 7201, .inl (fun _ => 0))), (n14, .inl (cy 1, 1830, .inl (fun _ => 0))), (n15, .inl (cy 1, 1830, .inl (fun _ => 0))), (n17, .inl (cy 1, 1830, .inl (fun _ => 0))), (n19, .inl (cy 1, 1830, .inl (fun _ => 0))), (n18, .inr (2, [.ref n2, .ref n19, .ref n20, .ref a6, .int 0])), (n20, .inl (cy 1, 21, .inl (fun _ => 0))), (n22, .inr (2, [.ref n2, .ref n15, .ref n23, .ref a6, .int 0])), (n23, .inl (cy 1, 21, .inl (fun _ => 0))), (n25, .inl (cy 1, 6, .inl (fun _ => 0))), (n26, .inl (cy 1, 6, .inl (fun _ => 0))), (n28, .inl (cy 1, 1830, .inl (fun _ => 0))), (n31, .inl (cy 1, 5, .inl (fun _ => 0))), (n33, .inl (cy 1, 4, .inl (fun _ => 0)))]) ⟨rfl, rfl, rfl, rfl, by decide⟩ 0 rfl rfl rfl rfl rfl ⟨Nat.le_of_ble_eq_true rfl, Nat.le_of_ble_eq_true rfl, Nat.le_of_ble_eq_true rfl⟩ 36 23817 ⟨rfl, rfl, Nat.le_of_ble_eq_true rfl, Nat.le_of_ble_eq_true rfl⟩ dX11_view_42 (fun u H locs hp w => ?_)
  obtain ⟨n34, n35, n36⟩ := u
  have w : Wd D A s.heap [(a0, .inr (11, [.ref a1, .int 0, .int 0, .int (-1), .ref a2, .ref a3, .ref a4, .ref a5, .ref a6, .ref n1])), (n5, .inl (cy 1, 0, .inl (fun _ => 0))), (n8, .inl (cy 1, 0, .inl (fun _ => 0))), (n9, .inl (cy 1, 0, .inl (fun _ => 0))), (n10, .inl (cy 1, 0, .inl (fun _ => 0))), (n11, .inl (cy 1, 0, .inl (fun _ => 0))), (n12, .inl (cy 1, 0, .inl (fun _ => 0))), (n13, .inl (cy 1, 7201, .inl (fun _ => 0))), (n14, .inl (cy 1, 1830, .inl (fun _ => 0))), (n15, .inl (cy 1, 1830, .inl (fun _ => 0))), (n17, .inl (cy 1, 1830, .inl (fun _ => 0))), (n19, .inl (cy 1, 1830, .inl (fun _ => 0))), (n18, .inr (2, [.ref n2, .ref n19, .ref n20, .ref a6, .int 0])), (n20, .inl (cy 1, 21, .inl (fun _ => 0))), (n22, .inr (2, [.ref n2, .ref n15, .ref n23, .ref a6, .int 0])), (n23, .inl (cy 1, 21, .inl (fun _ => 0))), (n25, .inl (cy 1, 6, .inl (fun _ => 0))), (n26, .inl (cy 1, 6, .inl (fun _ => 0))), (n28, .inl (cy 1, 1830, .inl (fun _ => 0))), (n31, .inl (cy 1, 5, .inl (fun _ => 0))), (n33, .inl (cy 1, 4, .inl (fun _ => 0))), (n1, .inr (6, [.ref n2, .ref n16, .int 190, .ref n17, .ref n21, .ref n27, .ref n29, .ref n30, .ref n32, .ref n18, .ref a6, .int 1, .int 0])), (n16, .inl (cy 1, 1830, .inl (fillF (fun _ => 0) 2 20 (PP 20 2 (20 + 1 - 2))))), (a6, .inr (9, [.int 0, .int 2, .int 20, .int 120, .int 0, .int 0, .int 0, .int 0, .ref a11, .int 0, .ref a12, .ref a13, .int 0, .ref a14, .ref a15, .ref a16, .ref a17])), (n4, .inl (cy 1, 0, .inl (fun _ => 0))), (n34, .inl (cy 1, 1830, .inl (learnF 0 1830))), (n6, .inl (cy 1, 0, .inl (fun _ => 0))), (n35, .inl (cy 1, 1830, .inl (learnF 2 1830))), (n2, .inr (4, [.ref n3, .ref n13, .int 0, .ref n14])), (n3, .inl (cy 5, 9, .inr (.inr (.inr (.inr (va_up (va_up (va_up (va_up (va_up (va_up (va_up (va_up (va_up (va_up (va_up (va_up (fun _ => none) 0 (some n4)) 1 (some n5)) 2 (some n6)) 3 (some n7)) 4 (some n8)) 5 (some n9)) 6 (some n10)) 7 (some n11)) 8 (some n12)) 0 (some n34)) 2 (some n35)) 3 (some n36))))))), (n7, .inl (cy 1, 0, .inl (fun _ => 0))), (n36, .inl (cy 1, 1830, .inl (learnF 3 1830))), (n21, .inr (1, [.ref n22, .ref a6, .int (-2), .int (-2), .ref n24, .int 0, .int 0, .int 0, .int 0, .int (-1), .int 0, .ref n25, .ref n26])), (n24, .inl (cy 1, 6, .inl (upd (upd (upd (upd (upd (upd (fun _ => 0) 0 (-2)) 1 (-2)) 2 (-2)) 3 (-2)) 4 (-2)) 5 (-2)))), (n27, .inr (3, [.ref n2, .ref n15, .ref a6, .int (-1), .int (-1), .ref n28, .int 0, .int 0, .int 0])), (n29, .inr (0, [.ref n2, .ref n15, .ref a6, .int 0, .int 0])), (n30, .inr (8, [.ref n29, .int (-1), .int 0, .int 0, .int 0, .int 0, .int 0, .ref n31])), (n32, .inr (7, [.ref n29, .int 0, .int (-1), .int (-1), .int (-1), .ref n33]))] _ _ := w
  refine r_top (g2 := F0 m 45 ls []) rfl ?_
  refine lv_aload_n C.1 C.2.1 dX11_view_45 rfl (lv_at hl 0 rfl) ?_
  refine r_get C w 0 rfl rfl 9 (by decide) fl_RX11_85 (v := .ref n1) rfl dX11_view_46 ?_
  exact r_aret C w hlocks (n1, n2, n3, n4, n5, n6, n7, n8, n9, n10, n11, n12, n13, n14, n15, n16, n17, n18, n19, n20, n21, n22, n23, n24, n25, n26, n27, n28, n29, n30, n31, n32, n33, n34, n35, n36) hr (Or.inl ⟨_, rfl⟩) rfl trivial [0, 1, 2, 3, 4, 5, 6, 7, 8, 9, 10, 11, 12, 13, 14, 15, 16, 17, 18, 19, 20, 21, 22, 23, 24, 25, 26, 27, 28, 29, 30, 31, 32, 33, 34, 35, 36, 37] rfl rfl ⟨Nat.le_of_ble_eq_true rfl, Nat.le_of_ble_eq_true rfl⟩ dX11_view_49
