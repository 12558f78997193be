theorem dX12_shortest_0 : decode cX12_shortest 0 = .ok (.aload_n 0, 1) := by decide +kernel
theorem dX12_shortest_1 : decode cX12_shortest 1 = .ok (.iload_n 1, 1) := by decide +kernel
theorem dX12_shortest_2 : decode cX12_shortest 2 = .ok (.i2l, 1) := by decide +kernel
theorem dX12_shortest_3 : decode cX12_shortest 3 = .ok (.lconst 1, 1) := by decide +kernel
theorem kl_RX12_386 : Cond.constantLong RX12 386 4 ∈ gw := gw_mem (by decide +kernel) (by decide +kernel)
theorem dX12_shortest_4 : decode cX12_shortest 4 = .ok (.ldc2_w 386, 3) := by decide +kernel
theorem dX12_shortest_7 : decode cX12_shortest 7 = .ok (.invokestatic 133, 3) := by decide +kernel
set_option maxRecDepth 100000 in
set_option maxHeartbeats 4000000 in
theorem c_X12_within_35 (l : Launch) (D : va_G) (cy : Nat → ClassId) (x0 : Int32) (k0 : x0 < 1) : Ct l D cy yX12_within cX12_within 6 (some .boolean) 0 0 0 0 [] [.long (Int32.toInt64 x0), .long 1, .long 4] (fun u : Unit => some (.int 0)) (fun _ => True) (fun u : Unit => []) := by
  refine Ct.of (by decide +kernel) (Nat.le_of_ble_eq_true rfl) ?_
  intro p e s m args below meth c A ls C hr hlocks hml hnm w hl
  have hl : lv_has ls 6 [(0, .long (Int32.toInt64 x0)), (2, .long 1), (4, .long 4)] := hl
  refine lv_lload_n C.1 C.2.1 dX12_within_0 rfl (lv_at hl 0 rfl) ?_
  refine lv_lload_n C.1 C.2.1 dX12_within_1 rfl (lv_at hl 1 rfl) ?_
  refine r_lcmp C (v := (lg_cmp (Int32.toInt64 x0) 1)) dX12_within_2 rfl ?_
  refine b_if_lt_t C (tgt := 17) dX12_within_3 (by decide) (cmp_lt (x := x0) (y := 1) k0) ?_
  refine lv_iconst (v := 0) C.1 C.2.1 dX12_within_17 (by decide) ?_
  exact r_iret C w hlocks () hr rfl rfl trivial [] rfl rfl ⟨Nat.le_of_ble_eq_true rfl, Nat.le_of_ble_eq_true rfl⟩ dX12_within_18
set_option maxRecDepth 100000 in
set_option maxHeartbeats 4000000 in
theorem c_X12_within_36 (l : Launch) (D : va_G) (cy : Nat → ClassId) (x0 : Int32) (k0 : ¬ x0 < 1) (k1 : 4 < x0) : Ct l D cy yX12_within cX12_within 6 (some .boolean) 0 0 0 0 [] [.long (Int32.toInt64 x0), .long 1, .long 4] (fun u : Unit => some (.int 0)) (fun _ => True) (fun u : Unit => []) := by
  refine Ct.of (by decide +kernel) (Nat.le_of_ble_eq_true rfl) ?_
  intro p e s m args below meth c A ls C hr hlocks hml hnm w hl
  have hl : lv_has ls 6 [(0, .long (Int32.toInt64 x0)), (2, .long 1), (4, .long 4)] := hl
  refine lv_lload_n C.1 C.2.1 dX12_within_0 rfl (lv_at hl 0 rfl) ?_
  refine lv_lload_n C.1 C.2.1 dX12_within_1 rfl (lv_at hl 1 rfl) ?_
  refine r_lcmp C (v := (lg_cmp (Int32.toInt64 x0) 1)) dX12_within_2 rfl ?_
  refine b_if_lt_f C (tgt := 17) dX12_within_3 (by decide) (cmp_nlt (x := x0) (y := 1) k0) ?_
  refine lv_lload_n C.1 C.2.1 dX12_within_6 rfl (lv_at hl 0 rfl) ?_
  refine lv_lload C.1 C.2.1 dX12_within_7 (lv_at hl 2 rfl) ?_
  refine r_lcmp C (v := (lg_cmp (Int32.toInt64 x0) 4)) dX12_within_9 rfl ?_
  refine b_if_gt_t C (tgt := 17) dX12_within_10 (by decide) (cmp_gt (x := x0) (y := 4) k1) ?_
  refine lv_iconst (v := 0) C.1 C.2.1 dX12_within_17 (by decide) ?_
  exact r_iret C w hlocks () hr rfl rfl trivial [] rfl rfl ⟨Nat.le_of_ble_eq_true rfl, Nat.le_of_ble_eq_true rfl⟩ dX12_within_18
set_option maxRecDepth 100000 in
set_option maxHeartbeats 4000000 in
theorem c_X12_within_37 (l : Launch) (D : va_G) (cy : Nat → ClassId) (x0 : Int32) (k0 : ¬ x0 < 1) (k1 : ¬ 4 < x0) : Ct l D cy yX12_within cX12_within 6 (some .boolean) 0 0 0 0 [] [.long (Int32.toInt64 x0), .long 1, .long 4] (fun u : Unit => some (.int 1)) (fun _ => True) (fun u : Unit => []) := by
  refine Ct.of (by decide +kernel) (Nat.le_of_ble_eq_true rfl) ?_
  intro p e s m args below meth c A ls C hr hlocks hml hnm w hl
  have hl : lv_has ls 6 [(0, .long (Int32.toInt64 x0)), (2, .long 1), (4, .long 4)] := hl
  refine lv_lload_n C.1 C.2.1 dX12_within_0 rfl (lv_at hl 0 rfl) ?_
  refine lv_lload_n C.1 C.2.1 dX12_within_1 rfl (lv_at hl 1 rfl) ?_
  refine r_lcmp C (v := (lg_cmp (Int32.toInt64 x0) 1)) dX12_within_2 rfl ?_
  refine b_if_lt_f C (tgt := 17) dX12_within_3 (by decide) (cmp_nlt (x := x0) (y := 1) k0) ?_
  refine lv_lload_n C.1 C.2.1 dX12_within_6 rfl (lv_at hl 0 rfl) ?_
  refine lv_lload C.1 C.2.1 dX12_within_7 (lv_at hl 2 rfl) ?_
  refine r_lcmp C (v := (lg_cmp (Int32.toInt64 x0) 4)) dX12_within_9 rfl ?_
  refine b_if_gt_f C (tgt := 17) dX12_within_10 (by decide) (cmp_ngt (x := x0) (y := 4) k1) ?_
  refine lv_iconst (v := 1) C.1 C.2.1 dX12_within_13 (by decide) ?_
  refine lv_goto (tgt := 18) C.1 C.2.1 dX12_within_14 (by decide) ?_
  exact r_iret C w hlocks () hr rfl rfl trivial [] rfl rfl ⟨Nat.le_of_ble_eq_true rfl, Nat.le_of_ble_eq_true rfl⟩ dX12_within_18
theorem dX12_shortest_10 : decode cX12_shortest 10 = .ok (.ifCond .eq 31, 3) := by decide +kernel
theorem dX12_shortest_41 : decode cX12_shortest 41 = .ok (.iconst 1, 1) := by decide +kernel
theorem dX12_shortest_42 : decode cX12_shortest 42 = .ok (.putfield 71, 3) := by decide +kernel
theorem dX12_shortest_45 : decode cX12_shortest 45 = .ok (.aload_n 0, 1) := by decide +kernel
theorem dX12_shortest_46 : decode cX12_shortest 46 = .ok (.getfield 71, 3) := by decide +kernel
theorem dX12_shortest_49 : decode cX12_shortest 49 = .ok (.ifCond .le 5, 3) := by decide +kernel
theorem dX12_shortest_52 : decode cX12_shortest 52 = .ok (.iconst 0, 1) := by decide +kernel
theorem dX12_shortest_53 : decode cX12_shortest 53 = .ok (.ireturn, 1) := by decide +kernel
set_option maxRecDepth 100000 in
set_option maxHeartbeats 4000000 in
theorem c_X12_shortest_0 (l : Launch) (D : va_G) (cy : Nat → ClassId) (a0 a1 a2 a3 a4 a5 a6 a7 a8 a9 a10 a11 a12 a13 a14 a15 a16 a17 : Nat) (x0 : Int32) (x1 : Int32) (k0 : x0 < 1) : Ct l D cy yX12_shortest cX12_shortest 4 (some .int) 1 25 0 0 [(a0, .inr (12, [.ref a1, .ref a2, .ref a3, .ref a4, .ref a5, .int 0, .ref a6, .int 0, .int 0, .int 0, .int 0, .int 0, .int 0, .int 0, .int 0, .int 0, .int 0, .int (-1), .ref a7, .ref a8, .int 0, .ref a9, .int 0, .ref a10, .ref a11, .ref a12, .ref a13, .ref a14, .int 0, .ref a15, .ref a16, .ref a17]))] [.ref a0, .int x0, .int x1] (fun u : Unit => some (.int 0)) (fun _ => True) (fun u : Unit => [(a0, .inr (12, [.ref a1, .ref a2, .ref a3, .ref a4, .ref a5, .int 1, .ref a6, .int 0, .int 0, .int 0, .int 0, .int 0, .int 0, .int 0, .int 0, .int 0, .int 0, .int (-1), .ref a7, .ref a8, .int 0, .ref a9, .int 0, .ref a10, .ref a11, .ref a12, .ref a13, .ref a14, .int 0, .ref a15, .ref a16, .ref a17]))]) := by
  refine Ct.of (by decide +kernel) (Nat.le_of_ble_eq_true rfl) ?_
  intro p e s m args below meth c A ls C hr hlocks hml hnm w hl
  have hl : lv_has ls 4 [(0, .ref a0), (1, .int x0), (2, .int x1)] := hl
  refine lv_aload_n C.1 C.2.1 dX12_shortest_0 rfl (lv_at hl 0 rfl) ?_
  refine lv_iload_n C.1 C.2.1 dX12_shortest_1 rfl (lv_at hl 1 rfl) ?_
  refine lv_i2l (v := (Int32.toInt64 x0)) C.1 C.2.1 dX12_shortest_2 rfl ?_
  refine lv_lconst (v := 1) C.1 C.2.1 dX12_shortest_3 (by decide) ?_
  refine lv_ldc2 (v := 4) C.1 C.2.1 C.2.2.1 (C.2.2.2.1 _ kl_RX12_386) dX12_shortest_4 ?_
  refine r_callS C w fs_RX12_133 (c_X12_within_35 l D cy x0 k0) (hl.1.trans hml.symm) [] [0] (wr := [(a0, .inr (12, [.ref a1, .ref a2, .ref a3, .ref a4, .ref a5, .int 0, .ref a6, .int 0, .int 0, .int 0, .int 0, .int 0, .int 0, .int 0, .int 0, .int 0, .int 0, .int (-1), .ref a7, .ref a8, .int 0, .ref a9, .int 0, .ref a10, .ref a11, .ref a12, .ref a13, .ref a14, .int 0, .ref a15, .ref a16, .ref a17]))]) ⟨rfl, rfl, rfl, rfl, by decide⟩ rfl rfl ⟨Nat.le_of_ble_eq_true rfl, Nat.le_of_ble_eq_true rfl, Nat.le_of_ble_eq_true rfl⟩ 0 0 ⟨rfl, rfl, Nat.le_of_ble_eq_true rfl, Nat.le_of_ble_eq_true rfl⟩ dX12_shortest_7 (fun u H locs hp w => ?_)
  have w : Wd D A s.heap [(a0, .inr (12, [.ref a1, .ref a2, .ref a3, .ref a4, .ref a5, .int 0, .ref a6, .int 0, .int 0, .int 0, .int 0, .int 0, .int 0, .int 0, .int 0, .int 0, .int 0, .int (-1), .ref a7, .ref a8, .int 0, .ref a9, .int 0, .ref a10, .ref a11, .ref a12, .ref a13, .ref a14, .int 0, .ref a15, .ref a16, .ref a17]))] _ _ := w
  refine r_top (g2 := F0 m 10 ls [.int 0, .ref a0]) rfl ?_
  refine b_if_eq_t C (tgt := 41) dX12_shortest_10 (by decide) (by decide) ?_
  refine lv_iconst (v := 1) C.1 C.2.1 dX12_shortest_41 (by decide) ?_
  refine r_put C w 0 rfl rfl 5 (by decide) fl_RX12_71 rfl (ty := .int) (tyX12_ok 5 (by decide)) rfl rfl (Nat.le_of_ble_eq_true rfl) [(a0, .inr (12, [.ref a1, .ref a2, .ref a3, .ref a4, .ref a5, .int 1, .ref a6, .int 0, .int 0, .int 0, .int 0, .int 0, .int 0, .int 0, .int 0, .int 0, .int 0, .int (-1), .ref a7, .ref a8, .int 0, .ref a9, .int 0, .ref a10, .ref a11, .ref a12, .ref a13, .ref a14, .int 0, .ref a15, .ref a16, .ref a17]))] rfl dX12_shortest_42 (fun H locs w => ?_)
  refine lv_aload_n C.1 C.2.1 dX12_shortest_45 rfl (lv_at hl 0 rfl) ?_
  refine r_get C w 0 rfl rfl 5 (by decide) fl_RX12_71 (v := .int 1) rfl dX12_shortest_46 ?_
  refine b_if_le_f C (tgt := 54) dX12_shortest_49 (by decide) (by decide) ?_
  refine lv_iconst (v := 0) C.1 C.2.1 dX12_shortest_52 (by decide) ?_
  exact r_iret C w hlocks () hr rfl rfl trivial [0] rfl rfl ⟨Nat.le_of_ble_eq_true rfl, Nat.le_of_ble_eq_true rfl⟩ dX12_shortest_53
theorem dX12_shortest_13 : decode cX12_shortest 13 = .ok (.iload_n 2, 1) := by decide +kernel
theorem dX12_shortest_14 : decode cX12_shortest 14 = .ok (.i2l, 1) := by decide +kernel
theorem dX12_shortest_15 : decode cX12_shortest 15 = .ok (.lconst 0, 1) := by decide +kernel
theorem dX12_shortest_16 : decode cX12_shortest 16 = .ok (.lconst 1, 1) := by decide +kernel
theorem dX12_shortest_17 : decode cX12_shortest 17 = .ok (.invokestatic 133, 3) := by decide +kernel
theorem dX12_shortest_20 : decode cX12_shortest 20 = .ok (.ifCond .ne 17, 3) := by decide +kernel
theorem dX12_shortest_23 : decode cX12_shortest 23 = .ok (.iload_n 2, 1) := by decide +kernel
theorem dX12_shortest_24 : decode cX12_shortest 24 = .ok (.i2l, 1) := by decide +kernel
theorem kl_RX12_388 : Cond.constantLong RX12 388 10 ∈ gw := gw_mem (by decide +kernel) (by decide +kernel)
theorem dX12_shortest_25 : decode cX12_shortest 25 = .ok (.ldc2_w 388, 3) := by decide +kernel
theorem kl_RX12_390 : Cond.constantLong RX12 390 13 ∈ gw := gw_mem (by decide +kernel) (by decide +kernel)
theorem dX12_shortest_28 : decode cX12_shortest 28 = .ok (.ldc2_w 390, 3) := by decide +kernel
theorem dX12_shortest_31 : decode cX12_shortest 31 = .ok (.invokestatic 133, 3) := by decide +kernel
set_option maxRecDepth 100000 in
set_option maxHeartbeats 4000000 in
theorem c_X12_within_38 (l : Launch) (D : va_G) (cy : Nat → ClassId) (x0 : Int32) (k0 : x0 < 10) : Ct l D cy yX12_within cX12_within 6 (some .boolean) 0 0 0 0 [] [.long (Int32.toInt64 x0), .long 10, .long 13] (fun u : Unit => some (.int 0)) (fun _ => True) (fun u : Unit => []) := by
  refine Ct.of (by decide +kernel) (Nat.le_of_ble_eq_true rfl) ?_
  intro p e s m args below meth c A ls C hr hlocks hml hnm w hl
  have hl : lv_has ls 6 [(0, .long (Int32.toInt64 x0)), (2, .long 10), (4, .long 13)] := hl
  refine lv_lload_n C.1 C.2.1 dX12_within_0 rfl (lv_at hl 0 rfl) ?_
  refine lv_lload_n C.1 C.2.1 dX12_within_1 rfl (lv_at hl 1 rfl) ?_
  refine r_lcmp C (v := (lg_cmp (Int32.toInt64 x0) 10)) dX12_within_2 rfl ?_
  refine b_if_lt_t C (tgt := 17) dX12_within_3 (by decide) (cmp_lt (x := x0) (y := 10) k0) ?_
  refine lv_iconst (v := 0) C.1 C.2.1 dX12_within_17 (by decide) ?_
  exact r_iret C w hlocks () hr rfl rfl trivial [] rfl rfl ⟨Nat.le_of_ble_eq_true rfl, Nat.le_of_ble_eq_true rfl⟩ dX12_within_18
set_option maxRecDepth 100000 in
set_option maxHeartbeats 4000000 in
theorem c_X12_within_39 (l : Launch) (D : va_G) (cy : Nat → ClassId) (x0 : Int32) (k0 : ¬ x0 < 10) (k1 : 13 < x0) : Ct l D cy yX12_within cX12_within 6 (some .boolean) 0 0 0 0 [] [.long (Int32.toInt64 x0), .long 10, .long 13] (fun u : Unit => some (.int 0)) (fun _ => True) (fun u : Unit => []) := by
  refine Ct.of (by decide +kernel) (Nat.le_of_ble_eq_true rfl) ?_
  intro p e s m args below meth c A ls C hr hlocks hml hnm w hl
  have hl : lv_has ls 6 [(0, .long (Int32.toInt64 x0)), (2, .long 10), (4, .long 13)] := hl
  refine lv_lload_n C.1 C.2.1 dX12_within_0 rfl (lv_at hl 0 rfl) ?_
  refine lv_lload_n C.1 C.2.1 dX12_within_1 rfl (lv_at hl 1 rfl) ?_
  refine r_lcmp C (v := (lg_cmp (Int32.toInt64 x0) 10)) dX12_within_2 rfl ?_
  refine b_if_lt_f C (tgt := 17) dX12_within_3 (by decide) (cmp_nlt (x := x0) (y := 10) k0) ?_
  refine lv_lload_n C.1 C.2.1 dX12_within_6 rfl (lv_at hl 0 rfl) ?_
  refine lv_lload C.1 C.2.1 dX12_within_7 (lv_at hl 2 rfl) ?_
  refine r_lcmp C (v := (lg_cmp (Int32.toInt64 x0) 13)) dX12_within_9 rfl ?_
  refine b_if_gt_t C (tgt := 17) dX12_within_10 (by decide) (cmp_gt (x := x0) (y := 13) k1) ?_
  refine lv_iconst (v := 0) C.1 C.2.1 dX12_within_17 (by decide) ?_
  exact r_iret C w hlocks () hr rfl rfl trivial [] rfl rfl ⟨Nat.le_of_ble_eq_true rfl, Nat.le_of_ble_eq_true rfl⟩ dX12_within_18
set_option maxRecDepth 100000 in
set_option maxHeartbeats 4000000 in
theorem c_X12_within_40 (l : Launch) (D : va_G) (cy : Nat → ClassId) (x0 : Int32) (k0 : ¬ x0 < 10) (k1 : ¬ 13 < x0) : Ct l D cy yX12_within cX12_within 6 (some .boolean) 0 0 0 0 [] [.long (Int32.toInt64 x0), .long 10, .long 13] (fun u : Unit => some (.int 1)) (fun _ => True) (fun u : Unit => []) := by
  refine Ct.of (by decide +kernel) (Nat.le_of_ble_eq_true rfl) ?_
  intro p e s m args below meth c A ls C hr hlocks hml hnm w hl
  have hl : lv_has ls 6 [(0, .long (Int32.toInt64 x0)), (2, .long 10), (4, .long 13)] := hl
  refine lv_lload_n C.1 C.2.1 dX12_within_0 rfl (lv_at hl 0 rfl) ?_
  refine lv_lload_n C.1 C.2.1 dX12_within_1 rfl (lv_at hl 1 rfl) ?_
  refine r_lcmp C (v := (lg_cmp (Int32.toInt64 x0) 10)) dX12_within_2 rfl ?_
  refine b_if_lt_f C (tgt := 17) dX12_within_3 (by decide) (cmp_nlt (x := x0) (y := 10) k0) ?_
  refine lv_lload_n C.1 C.2.1 dX12_within_6 rfl (lv_at hl 0 rfl) ?_
  refine lv_lload C.1 C.2.1 dX12_within_7 (lv_at hl 2 rfl) ?_
  refine r_lcmp C (v := (lg_cmp (Int32.toInt64 x0) 13)) dX12_within_9 rfl ?_
  refine b_if_gt_f C (tgt := 17) dX12_within_10 (by decide) (cmp_ngt (x := x0) (y := 13) k1) ?_
  refine lv_iconst (v := 1) C.1 C.2.1 dX12_within_13 (by decide) ?_
  refine lv_goto (tgt := 18) C.1 C.2.1 dX12_within_14 (by decide) ?_
  exact r_iret C w hlocks () hr rfl rfl trivial [] rfl rfl ⟨Nat.le_of_ble_eq_true rfl, Nat.le_of_ble_eq_true rfl⟩ dX12_within_18
theorem dX12_shortest_34 : decode cX12_shortest 34 = .ok (.ifCond .eq 7, 3) := by decide +kernel
set_option maxRecDepth 100000 in
set_option maxHeartbeats 4000000 in
theorem c_X12_shortest_1 (l : Launch) (D : va_G) (cy : Nat → ClassId) (a0 a1 a2 a3 a4 a5 a6 a7 a8 a9 a10 a11 a12 a13 a14 a15 a16 a17 : Nat) (x0 : Int32) (x1 : Int32) (k0 : ¬ x0 < 1) (k1 : ¬ 4 < x0) (k2 : x1 < 0) : Ct l D cy yX12_shortest cX12_shortest 4 (some .int) 1 25 0 0 [(a0, .inr (12, [.ref a1, .ref a2, .ref a3, .ref a4, .ref a5, .int 0, .ref a6, .int 0, .int 0, .int 0, .int 0, .int 0, .int 0, .int 0, .int 0, .int 0, .int 0, .int (-1), .ref a7, .ref a8, .int 0, .ref a9, .int 0, .ref a10, .ref a11, .ref a12, .ref a13, .ref a14, .int 0, .ref a15, .ref a16, .ref a17]))] [.ref a0, .int x0, .int x1] (fun u : Unit => some (.int 0)) (fun _ => True) (fun u : Unit => [(a0, .inr (12, [.ref a1, .ref a2, .ref a3, .ref a4, .ref a5, .int 1, .ref a6, .int 0, .int 0, .int 0, .int 0, .int 0, .int 0, .int 0, .int 0, .int 0, .int 0, .int (-1), .ref a7, .ref a8, .int 0, .ref a9, .int 0, .ref a10, .ref a11, .ref a12, .ref a13, .ref a14, .int 0, .ref a15, .ref a16, .ref a17]))]) := by
  refine Ct.of (by decide +kernel) (Nat.le_of_ble_eq_true rfl) ?_
  intro p e s m args below meth c A ls C hr hlocks hml hnm w hl
  have hl : lv_has ls 4 [(0, .ref a0), (1, .int x0), (2, .int x1)] := hl
  refine lv_aload_n C.1 C.2.1 dX12_shortest_0 rfl (lv_at hl 0 rfl) ?_
  refine lv_iload_n C.1 C.2.1 dX12_shortest_1 rfl (lv_at hl 1 rfl) ?_
  refine lv_i2l (v := (Int32.toInt64 x0)) C.1 C.2.1 dX12_shortest_2 rfl ?_
  refine lv_lconst (v := 1) C.1 C.2.1 dX12_shortest_3 (by decide) ?_
  refine lv_ldc2 (v := 4) C.1 C.2.1 C.2.2.1 (C.2.2.2.1 _ kl_RX12_386) dX12_shortest_4 ?_
  refine r_callS C w fs_RX12_133 (c_X12_within_37 l D cy x0 k0 k1) (hl.1.trans hml.symm) [] [0] (wr := [(a0, .inr (12, [.ref a1, .ref a2, .ref a3, .ref a4, .ref a5, .int 0, .ref a6, .int 0, .int 0, .int 0, .int 0, .int 0, .int 0, .int 0, .int 0, .int 0, .int 0, .int (-1), .ref a7, .ref a8, .int 0, .ref a9, .int 0, .ref a10, .ref a11, .ref a12, .ref a13, .ref a14, .int 0, .ref a15, .ref a16, .ref a17]))]) ⟨rfl, rfl, rfl, rfl, by decide⟩ rfl rfl ⟨Nat.le_of_ble_eq_true rfl, Nat.le_of_ble_eq_true rfl, Nat.le_of_ble_eq_true rfl⟩ 0 0 ⟨rfl, rfl, Nat.le_of_ble_eq_true rfl, Nat.le_of_ble_eq_true rfl⟩ dX12_shortest_7 (fun u H locs hp w => ?_)
  have w : Wd D A s.heap [(a0, .inr (12, [.ref a1, .ref a2, .ref a3, .ref a4, .ref a5, .int 0, .ref a6, .int 0, .int 0, .int 0, .int 0, .int 0, .int 0, .int 0, .int 0, .int 0, .int 0, .int (-1), .ref a7, .ref a8, .int 0, .ref a9, .int 0, .ref a10, .ref a11, .ref a12, .ref a13, .ref a14, .int 0, .ref a15, .ref a16, .ref a17]))] _ _ := w
  refine r_top (g2 := F0 m 10 ls [.int 1, .ref a0]) rfl ?_
  refine b_if_eq_f C (tgt := 41) dX12_shortest_10 (by decide) (by decide) ?_
  refine lv_iload_n C.1 C.2.1 dX12_shortest_13 rfl (lv_at hl 2 rfl) ?_
  refine lv_i2l (v := (Int32.toInt64 x1)) C.1 C.2.1 dX12_shortest_14 rfl ?_
  refine lv_lconst (v := 0) C.1 C.2.1 dX12_shortest_15 (by decide) ?_
  refine lv_lconst (v := 1) C.1 C.2.1 dX12_shortest_16 (by decide) ?_
  refine r_callS C w fs_RX12_133 (c_X12_within_15 l D cy x1 k2) (hl.1.trans hml.symm) [] [0] (wr := [(a0, .inr (12, [.ref a1, .ref a2, .ref a3, .ref a4, .ref a5, .int 0, .ref a6, .int 0, .int 0, .int 0, .int 0, .int 0, .int 0, .int 0, .int 0, .int 0, .int 0, .int (-1), .ref a7, .ref a8, .int 0, .ref a9, .int 0, .ref a10, .ref a11, .ref a12, .ref a13, .ref a14, .int 0, .ref a15, .ref a16, .ref a17]))]) ⟨rfl, rfl, rfl, rfl, by decide⟩ rfl rfl ⟨Nat.le_of_ble_eq_true rfl, Nat.le_of_ble_eq_true rfl, Nat.le_of_ble_eq_true rfl⟩ 0 0 ⟨rfl, rfl, Nat.le_of_ble_eq_true rfl, Nat.le_of_ble_eq_true rfl⟩ dX12_shortest_17 (fun u H locs hp w => ?_)
  have w : Wd D A s.heap [(a0, .inr (12, [.ref a1, .ref a2, .ref a3, .ref a4, .ref a5, .int 0, .ref a6, .int 0, .int 0, .int 0, .int 0, .int 0, .int 0, .int 0, .int 0, .int 0, .int 0, .int (-1), .ref a7, .ref a8, .int 0, .ref a9, .int 0, .ref a10, .ref a11, .ref a12, .ref a13, .ref a14, .int 0, .ref a15, .ref a16, .ref a17]))] _ _ := w
  refine r_top (g2 := F0 m 20 ls [.int 0, .ref a0]) rfl ?_
  refine b_if_ne_f C (tgt := 37) dX12_shortest_20 (by decide) (by decide) ?_
  refine lv_iload_n C.1 C.2.1 dX12_shortest_23 rfl (lv_at hl 2 rfl) ?_
  refine lv_i2l (v := (Int32.toInt64 x1)) C.1 C.2.1 dX12_shortest_24 rfl ?_
  refine lv_ldc2 (v := 10) C.1 C.2.1 C.2.2.1 (C.2.2.2.1 _ kl_RX12_388) dX12_shortest_25 ?_
  refine lv_ldc2 (v := 13) C.1 C.2.1 C.2.2.1 (C.2.2.2.1 _ kl_RX12_390) dX12_shortest_28 ?_
  refine r_callS C w fs_RX12_133 (c_X12_within_38 l D cy x1 (by have h0 := (i_lt k2); have e0 : (0 : Int32).toInt = 0 := (by decide); have e1 : (10 : Int32).toInt = 10 := (by decide); rw [fa_lt]; omega)) (hl.1.trans hml.symm) [] [0] (wr := [(a0, .inr (12, [.ref a1, .ref a2, .ref a3, .ref a4, .ref a5, .int 0, .ref a6, .int 0, .int 0, .int 0, .int 0, .int 0, .int 0, .int 0, .int 0, .int 0, .int 0, .int (-1), .ref a7, .ref a8, .int 0, .ref a9, .int 0, .ref a10, .ref a11, .ref a12, .ref a13, .ref a14, .int 0, .ref a15, .ref a16, .ref a17]))]) ⟨rfl, rfl, rfl, rfl, by decide⟩ rfl rfl ⟨Nat.le_of_ble_eq_true rfl, Nat.le_of_ble_eq_true rfl, Nat.le_of_ble_eq_true rfl⟩ 0 0 ⟨rfl, rfl, Nat.le_of_ble_eq_true rfl, Nat.le_of_ble_eq_true rfl⟩ dX12_shortest_31 (fun u H locs hp w => ?_)
  have w : Wd D A s.heap [(a0, .inr (12, [.ref a1, .ref a2, .ref a3, .ref a4, .ref a5, .int 0, .ref a6, .int 0, .int 0, .int 0, .int 0, .int 0, .int 0, .int 0, .int 0, .int 0, .int 0, .int (-1), .ref a7, .ref a8, .int 0, .ref a9, .int 0, .ref a10, .ref a11, .ref a12, .ref a13, .ref a14, .int 0, .ref a15, .ref a16, .ref a17]))] _ _ := w
  refine r_top (g2 := F0 m 34 ls [.int 0, .ref a0]) rfl ?_
  refine b_if_eq_t C (tgt := 41) dX12_shortest_34 (by decide) (by decide) ?_
  refine lv_iconst (v := 1) C.1 C.2.1 dX12_shortest_41 (by decide) ?_
  refine r_put C w 0 rfl rfl 5 (by decide) fl_RX12_71 rfl (ty := .int) (tyX12_ok 5 (by decide)) rfl rfl (Nat.le_of_ble_eq_true rfl) [(a0, .inr (12, [.ref a1, .ref a2, .ref a3, .ref a4, .ref a5, .int 1, .ref a6, .int 0, .int 0, .int 0, .int 0, .int 0, .int 0, .int 0, .int 0, .int 0, .int 0, .int (-1), .ref a7, .ref a8, .int 0, .ref a9, .int 0, .ref a10, .ref a11, .ref a12, .ref a13, .ref a14, .int 0, .ref a15, .ref a16, .ref a17]))] rfl dX12_shortest_42 (fun H locs w => ?_)
  refine lv_aload_n C.1 C.2.1 dX12_shortest_45 rfl (lv_at hl 0 rfl) ?_
  refine r_get C w 0 rfl rfl 5 (by decide) fl_RX12_71 (v := .int 1) rfl dX12_shortest_46 ?_
  refine b_if_le_f C (tgt := 54) dX12_shortest_49 (by decide) (by decide) ?_
  refine lv_iconst (v := 0) C.1 C.2.1 dX12_shortest_52 (by decide) ?_
  exact r_iret C w hlocks () hr rfl rfl trivial [0] rfl rfl ⟨Nat.le_of_ble_eq_true rfl, Nat.le_of_ble_eq_true rfl⟩ dX12_shortest_53
theorem dX12_shortest_37 : decode cX12_shortest 37 = .ok (.iconst 0, 1) := by decide +kernel
theorem dX12_shortest_38 : decode cX12_shortest 38 = .ok (.goto 4, 3) := by decide +kernel
theorem dX12_shortest_54 : decode cX12_shortest 54 = .ok (.aload_n 0, 1) := by decide +kernel
theorem dX12_shortest_55 : decode cX12_shortest 55 = .ok (.invokevirtual 253, 3) := by decide +kernel
theorem dX12_shortest_58 : decode cX12_shortest 58 = .ok (.aload_n 0, 1) := by decide +kernel
theorem dX12_shortest_59 : decode cX12_shortest 59 = .ok (.iconst 0, 1) := by decide +kernel
theorem dX12_shortest_60 : decode cX12_shortest 60 = .ok (.iconst 1, 1) := by decide +kernel
theorem dX12_shortest_61 : decode cX12_shortest 61 = .ok (.invokevirtual 323, 3) := by decide +kernel
theorem dX12_shortest_64 : decode cX12_shortest 64 = .ok (.iconst 0, 1) := by decide +kernel
theorem dX12_shortest_65 : decode cX12_shortest 65 = .ok (.istore_n 3, 1) := by decide +kernel
theorem dX12_shortest_66 : decode cX12_shortest 66 = .ok (.iload_n 3, 1) := by decide +kernel
theorem dX12_shortest_67 : decode cX12_shortest 67 = .ok (.iload_n 1, 1) := by decide +kernel
theorem dX12_shortest_68 : decode cX12_shortest 68 = .ok (.if_icmp .gt 61, 3) := by decide +kernel
theorem dX12_shortest_71 : decode cX12_shortest 71 = .ok (.aload_n 0, 1) := by decide +kernel
theorem dX12_shortest_72 : decode cX12_shortest 72 = .ok (.iconst 0, 1) := by decide +kernel
theorem dX12_shortest_73 : decode cX12_shortest 73 = .ok (.iload_n 3, 1) := by decide +kernel
theorem dX12_shortest_74 : decode cX12_shortest 74 = .ok (.invokevirtual 383, 3) := by decide +kernel
theorem dX12_shortBy_0 : decode cX12_shortBy 0 = .ok (.aload_n 0, 1) := by decide +kernel
theorem dX12_shortBy_1 : decode cX12_shortBy 1 = .ok (.iload_n 1, 1) := by decide +kernel
theorem dX12_shortBy_2 : decode cX12_shortBy 2 = .ok (.invokevirtual 333, 3) := by decide +kernel
set_option maxRecDepth 100000 in
set_option maxHeartbeats 4000000 in
theorem c_X12_has_5 (l : Launch) (D : va_G) (cy : Nat → ClassId) (a0 a1 a2 a3 a4 a5 a6 a7 a8 a9 a10 a11 a12 a13 a14 a15 a16 a17 : Nat) (x0 : Int32) (x1 : Int32) (f0 : Nat → Int64) (k0 : ¬ x0 < 0) (k1 : x0 < 1830) (hbit : bitW f0 x0 = 1) : Ct l D cy yX12_has cX12_has 3 (some .boolean) 0 0 0 0 [(a0, .inr (12, [.ref a1, .ref a2, .ref a3, .ref a4, .ref a5, .int 0, .ref a6, .int 0, .int 0, .int 0, .int 0, .int 0, .int 0, .int 0, .int 0, .int 0, .int 0, .int (-1), .ref a7, .ref a8, .int x1, .ref a9, .int 0, .ref a10, .ref a11, .ref a12, .ref a13, .ref a14, .int 0, .ref a15, .ref a16, .ref a17])), (a9, .inl (cy 2, 2465, .inr (.inl f0)))] [.ref a0, .int 0, .int x0] (fun u : Unit => some (.int 1)) (fun _ => True) (fun u : Unit => [(a0, .inr (12, [.ref a1, .ref a2, .ref a3, .ref a4, .ref a5, .int 0, .ref a6, .int 0, .int 0, .int 0, .int 0, .int 0, .int 0, .int 0, .int 0, .int 0, .int 0, .int (-1), .ref a7, .ref a8, .int x1, .ref a9, .int 0, .ref a10, .ref a11, .ref a12, .ref a13, .ref a14, .int 0, .ref a15, .ref a16, .ref a17])), (a9, .inl (cy 2, 2465, .inr (.inl f0)))]) := by
  refine Ct.of (by decide +kernel) (Nat.le_of_ble_eq_true rfl) ?_
  intro p e s m args below meth c A ls C hr hlocks hml hnm w hl
  have hl : lv_has ls 3 [(0, .ref a0), (1, .int 0), (2, .int x0)] := hl
  refine lv_aload_n C.1 C.2.1 dX12_has_0 rfl (lv_at hl 0 rfl) ?_
  refine r_get C w 0 rfl rfl 21 (by decide) fl_RX12_39 (v := .ref a9) rfl dX12_has_1 ?_
  refine lv_bipush (v := 29) C.1 C.2.1 dX12_has_4 (by decide) ?_
  refine lv_iload_n C.1 C.2.1 dX12_has_6 rfl (lv_at hl 1 rfl) ?_
  refine r_imul C (v := 0) dX12_has_7 (by decide) ?_
  refine lv_iload_n C.1 C.2.1 dX12_has_8 rfl (lv_at hl 2 rfl) ?_
  refine lv_bipush (v := 6) C.1 C.2.1 dX12_has_9 (by decide) ?_
  refine r_ishr C (v := (x0 >>> (6 &&& 31))) dX12_has_11 rfl ?_
  refine r_iadd C (v := ((0 : Int32) + (x0 >>> (6 &&& 31)))) dX12_has_12 rfl ?_
  refine r_lald C w 1 rfl (v := (f0 ((0 : Int32) + (x0 >>> (6 &&& 31))).toNatClampNeg)) (plW_in k0 k1) rfl dX12_has_13 ?_
  refine lv_iload_n C.1 C.2.1 dX12_has_14 rfl (lv_at hl 2 rfl) ?_
  refine lv_bipush (v := 63) C.1 C.2.1 dX12_has_15 (by decide) ?_
  refine r_iand C (v := (x0 &&& 63)) dX12_has_17 rfl ?_
  refine lv_lshr (v := ((f0 ((0 : Int32) + (x0 >>> (6 &&& 31))).toNatClampNeg) >>> (Int32.toInt64 (x0 &&& 63) &&& 63))) C.1 C.2.1 dX12_has_18 rfl ?_
  refine lv_lconst (v := 1) C.1 C.2.1 dX12_has_19 (by decide) ?_
  refine r_land C (v := (((f0 ((0 : Int32) + (x0 >>> (6 &&& 31))).toNatClampNeg) >>> (Int32.toInt64 (x0 &&& 63) &&& 63)) &&& 1)) dX12_has_20 rfl ?_
  refine lv_lconst (v := 1) C.1 C.2.1 dX12_has_21 (by decide) ?_
  refine r_lcmp C (v := 0) dX12_has_22 (lgc_1 hbit) ?_
  refine b_if_ne_f C (tgt := 30) dX12_has_23 (by decide) (by decide) ?_
  refine lv_iconst (v := 1) C.1 C.2.1 dX12_has_26 (by decide) ?_
  refine lv_goto (tgt := 31) C.1 C.2.1 dX12_has_27 (by decide) ?_
  exact r_iret C w hlocks () hr rfl rfl trivial [0, 1] rfl rfl ⟨Nat.le_of_ble_eq_true rfl, Nat.le_of_ble_eq_true rfl⟩ dX12_has_31
set_option maxRecDepth 100000 in
set_option maxHeartbeats 4000000 in
theorem c_X12_has_6 (l : Launch) (D : va_G) (cy : Nat → ClassId) (a0 a1 a2 a3 a4 a5 a6 a7 a8 a9 a10 a11 a12 a13 a14 a15 a16 a17 : Nat) (x0 : Int32) (x1 : Int32) (f0 : Nat → Int64) (k0 : ¬ x0 < 0) (k1 : x0 < 1830) (hbit : bitW f0 x0 = 1) : Ct l D cy yX12_has cX12_has 3 (some .boolean) 0 0 0 0 [(a0, .inr (12, [.ref a1, .ref a2, .ref a3, .ref a4, .ref a5, .int 0, .ref a6, .int 0, .int 0, .int 0, .int 0, .int 0, .int 0, .int 0, .int 0, .int 0, .int 0, .int (-1), .ref a7, .ref a8, .int x1, .ref a9, .int 0, .ref a10, .ref a11, .ref a12, .ref a13, .ref a14, .int 0, .ref a15, .ref a16, .ref a17])), (a9, .inl (cy 2, 2465, .inr (.inl f0)))] [.ref a0, .int 0, .int x0] (fun u : Unit => some (.int 1)) (fun _ => True) (fun u : Unit => [(a0, .inr (12, [.ref a1, .ref a2, .ref a3, .ref a4, .ref a5, .int 0, .ref a6, .int 0, .int 0, .int 0, .int 0, .int 0, .int 0, .int 0, .int 0, .int 0, .int 0, .int (-1), .ref a7, .ref a8, .int x1, .ref a9, .int 0, .ref a10, .ref a11, .ref a12, .ref a13, .ref a14, .int 0, .ref a15, .ref a16, .ref a17])), (a9, .inl (cy 2, 2465, .inr (.inl f0)))]) := by
  refine Ct.of (by decide +kernel) (Nat.le_of_ble_eq_true rfl) ?_
  intro p e s m args below meth c A ls C hr hlocks hml hnm w hl
  have hl : lv_has ls 3 [(0, .ref a0), (1, .int 0), (2, .int x0)] := hl
  refine lv_aload_n C.1 C.2.1 dX12_has_0 rfl (lv_at hl 0 rfl) ?_
  refine r_get C w 0 rfl rfl 21 (by decide) fl_RX12_39 (v := .ref a9) rfl dX12_has_1 ?_
  refine lv_bipush (v := 29) C.1 C.2.1 dX12_has_4 (by decide) ?_
  refine lv_iload_n C.1 C.2.1 dX12_has_6 rfl (lv_at hl 1 rfl) ?_
  refine r_imul C (v := 0) dX12_has_7 (by decide) ?_
  refine lv_iload_n C.1 C.2.1 dX12_has_8 rfl (lv_at hl 2 rfl) ?_
  refine lv_bipush (v := 6) C.1 C.2.1 dX12_has_9 (by decide) ?_
  refine r_ishr C (v := (x0 >>> (6 &&& 31))) dX12_has_11 rfl ?_
  refine r_iadd C (v := ((0 : Int32) + (x0 >>> (6 &&& 31)))) dX12_has_12 rfl ?_
  refine r_lald C w 1 rfl (v := (f0 ((0 : Int32) + (x0 >>> (6 &&& 31))).toNatClampNeg)) (plW_in k0 k1) rfl dX12_has_13 ?_
  refine lv_iload_n C.1 C.2.1 dX12_has_14 rfl (lv_at hl 2 rfl) ?_
  refine lv_bipush (v := 63) C.1 C.2.1 dX12_has_15 (by decide) ?_
  refine r_iand C (v := (x0 &&& 63)) dX12_has_17 rfl ?_
  refine lv_lshr (v := ((f0 ((0 : Int32) + (x0 >>> (6 &&& 31))).toNatClampNeg) >>> (Int32.toInt64 (x0 &&& 63) &&& 63))) C.1 C.2.1 dX12_has_18 rfl ?_
  refine lv_lconst (v := 1) C.1 C.2.1 dX12_has_19 (by decide) ?_
  refine r_land C (v := (((f0 ((0 : Int32) + (x0 >>> (6 &&& 31))).toNatClampNeg) >>> (Int32.toInt64 (x0 &&& 63) &&& 63)) &&& 1)) dX12_has_20 rfl ?_
  refine lv_lconst (v := 1) C.1 C.2.1 dX12_has_21 (by decide) ?_
  refine r_lcmp C (v := 0) dX12_has_22 (lgc_1 hbit) ?_
  refine b_if_ne_f C (tgt := 30) dX12_has_23 (by decide) (by decide) ?_
  refine lv_iconst (v := 1) C.1 C.2.1 dX12_has_26 (by decide) ?_
  refine lv_goto (tgt := 31) C.1 C.2.1 dX12_has_27 (by decide) ?_
  exact r_iret C w hlocks () hr rfl rfl trivial [0, 1] rfl rfl ⟨Nat.le_of_ble_eq_true rfl, Nat.le_of_ble_eq_true rfl⟩ dX12_has_31
set_option maxRecDepth 100000 in
set_option maxHeartbeats 4000000 in
theorem lp_X12_manyOf_2 {p : Program} {l : Launch} {e : Env} {R : Room} {s : State} {m : MethodId} {args : Array Value} {below : List Frame} {meth : Method} {c : Code} {cells slots : Nat} {Q : State → Prop} {D : va_G} {cy : Nat → ClassId} {A : Nat → Prop} {H : Heap} {locs : List Loc} {ls : Array Slot} (a0 a1 a2 a3 a4 a5 a6 a7 a8 a9 a10 a11 a12 a13 a14 a15 a16 a17 : Nat) (f : Nat → Int64) (pv : Int32) (P : Nat) (ep : pv = nI P) (hP : P ≤ 1830) (C : Cx p s m args c cX12_manyOf RX12 D cy A) (hml : c.maxLocals = 4) (hfr : 1 ≤ R.frames) (hlo : 22 ≤ R.locals) (hcs : cells ≤ R.cells ∧ slots ≤ R.slots) (w : Wd D A s.heap [(a0, .inr (12, [.ref a1, .ref a2, .ref a3, .ref a4, .ref a5, .int 0, .ref a6, .int 0, .int 0, .int 0, .int 0, .int 0, .int 0, .int 0, .int 0, .int 0, .int 0, .int (-1), .ref a7, .ref a8, .int pv, .ref a9, .int 0, .ref a10, .ref a11, .ref a12, .ref a13, .ref a14, .int 0, .ref a15, .ref a16, .ref a17])), (a9, .inl (cy 2, 2465, .inr (.inl (rwF f P))))] H locs) (hl : lv_has ls 4 [(0, .ref a0), (1, .int 0), (2, .int 0), (3, .int 0)])
    (kk : ∀ (H : Heap) (locs : List Loc) (ls : Array Slot), Wd D A s.heap [(a0, .inr (12, [.ref a1, .ref a2, .ref a3, .ref a4, .ref a5, .int 0, .ref a6, .int 0, .int 0, .int 0, .int 0, .int 0, .int 0, .int 0, .int 0, .int 0, .int 0, .int (-1), .ref a7, .ref a8, .int pv, .ref a9, .int 0, .ref a10, .ref a11, .ref a12, .ref a13, .ref a14, .int 0, .ref a15, .ref a16, .ref a17])), (a9, .inl (cy 2, 2465, .inr (.inl (rwF f P))))] H locs → lv_has ls 4 [(0, .ref a0), (1, .int 0), (2, .int pv)] → W p l e R s m args below meth c H locs cells slots Q (F0 m 35 ls [])) : W p l e R s m args below meth c H locs cells slots Q (F0 m 4 ls []) := by
  have lp : ∀ (k n : Nat) (nv wv : Int32) (H : Heap) (locs : List Loc) (ls : Array Slot), n + k = P → nv = nI n → wv = nI n → Wd D A s.heap [(a0, .inr (12, [.ref a1, .ref a2, .ref a3, .ref a4, .ref a5, .int 0, .ref a6, .int 0, .int 0, .int 0, .int 0, .int 0, .int 0, .int 0, .int 0, .int 0, .int 0, .int (-1), .ref a7, .ref a8, .int pv, .ref a9, .int 0, .ref a10, .ref a11, .ref a12, .ref a13, .ref a14, .int 0, .ref a15, .ref a16, .ref a17])), (a9, .inl (cy 2, 2465, .inr (.inl (rwF f P))))] H locs → lv_has ls 4 [(0, .ref a0), (1, .int 0), (2, .int nv), (3, .int wv)] → W p l e R s m args below meth c H locs cells slots Q (F0 m 4 ls []) := by
    intro k
    induction k with
    | zero =>
      intro n nv wv H locs ls h4 en ei w hl
      have hx : n = P := by omega
      subst hx
      have c1 : pv ≤ wv := by rw [ep, ei]; exact Int32.le_refl _
      refine lv_iload_n C.1 C.2.1 dX12_manyOf_4 rfl (lv_at hl 3 rfl) ?_
      refine lv_aload_n C.1 C.2.1 dX12_manyOf_5 rfl (lv_at hl 0 rfl) ?_
      refine r_get C w 0 rfl rfl 20 (by decide) fl_RX12_250 (v := .int pv) rfl dX12_manyOf_6 ?_
      refine b_icmp_ge_t C (tgt := 35) dX12_manyOf_9 (by decide) c1 ?_
      have e5 : nv = pv := by rw [en, ep]
      subst e5
      exact kk _ _ _ w (lv_sub hl [0, 1, 2] rfl)
    | succ k ih =>
      intro n nv wv H locs ls h4 en ei w hl
      have c1 : ¬ pv ≤ wv := by rw [ep, ei]; exact nI_ge (by omega) (by omega)
      have hw0 : ¬ wv < 0 := by rw [ei]; exact nI_pos (by omega)
      have hw1 : wv < 1830 := by rw [ei]; exact nI_lt (b := 1830) (by omega) (by decide)
      have hbit : bitW (rwF f P) wv = 1 := by rw [ei]; exact bitW_rwF f (by omega) (by omega)
      refine lv_iload_n C.1 C.2.1 dX12_manyOf_4 rfl (lv_at hl 3 rfl) ?_
      refine lv_aload_n C.1 C.2.1 dX12_manyOf_5 rfl (lv_at hl 0 rfl) ?_
      refine r_get C w 0 rfl rfl 20 (by decide) fl_RX12_250 (v := .int pv) rfl dX12_manyOf_6 ?_
      refine b_icmp_ge_f C (tgt := 35) dX12_manyOf_9 (by decide) c1 ?_
      refine lv_iload_n C.1 C.2.1 dX12_manyOf_12 rfl (lv_at hl 2 rfl) ?_
      refine lv_aload_n C.1 C.2.1 dX12_manyOf_13 rfl (lv_at hl 0 rfl) ?_
      refine lv_iload_n C.1 C.2.1 dX12_manyOf_14 rfl (lv_at hl 1 rfl) ?_
      refine lv_iload_n C.1 C.2.1 dX12_manyOf_15 rfl (lv_at hl 3 rfl) ?_
      refine r_callV C w fv_RX12_293 (c_X12_has_6 l D cy a0 a1 a2 a3 a4 a5 a6 a7 a8 a9 a10 a11 a12 a13 a14 a15 a16 a17 wv pv (rwF f P) hw0 hw1 hbit) (hl.1.trans hml.symm) [0, 1] [] (wr := []) ⟨rfl, rfl, rfl, rfl, by decide⟩ 0 rfl rfl rfl rfl rfl ⟨by omega, by omega, Nat.le_of_ble_eq_true rfl⟩ cells slots ⟨rfl, rfl, hcs.1, hcs.2⟩ dX12_manyOf_16 (fun u H locs hp w => ?_)
      have w : Wd D A s.heap [(a0, .inr (12, [.ref a1, .ref a2, .ref a3, .ref a4, .ref a5, .int 0, .ref a6, .int 0, .int 0, .int 0, .int 0, .int 0, .int 0, .int 0, .int 0, .int 0, .int 0, .int (-1), .ref a7, .ref a8, .int pv, .ref a9, .int 0, .ref a10, .ref a11, .ref a12, .ref a13, .ref a14, .int 0, .ref a15, .ref a16, .ref a17])), (a9, .inl (cy 2, 2465, .inr (.inl (rwF f P))))] _ _ := w
      refine r_top (g2 := F0 m 19 ls [.int 1, .int nv]) rfl ?_
      refine b_if_eq_f C (tgt := 26) dX12_manyOf_19 (by decide) (by decide) ?_
      refine lv_iconst (v := 1) C.1 C.2.1 dX12_manyOf_22 (by decide) ?_
      refine lv_goto (tgt := 27) C.1 C.2.1 dX12_manyOf_23 (by decide) ?_
      refine r_iadd C (v := (nv + 1)) dX12_manyOf_27 rfl ?_
      refine lv_istore_n (lv' := [(2, .int (nv + 1)), (0, .ref a0), (1, .int 0), (3, .int wv)]) C.1 C.2.1 dX12_manyOf_28 rfl hl (by decide) rfl (fun ls hl => ?_)
      refine lv_iinc (v := (wv + 1)) (lv' := [(3, .int (wv + 1)), (2, .int (nv + 1)), (0, .ref a0), (1, .int 0)]) C.1 C.2.1 dX12_manyOf_29 hl (k := 3) rfl rfl (by decide) rfl (fun ls hl => ?_)
      refine lv_goto (tgt := 4) C.1 C.2.1 dX12_manyOf_32 (by decide) ?_
      exact ih (n + 1) (nv + 1) (wv + 1) _ _ _ (by omega) (by rw [en]; exact nI_1 _) (by rw [ei]; exact nI_1 _) w (lv_sub hl [2, 3, 1, 0] rfl)
  exact lp P 0 0 0 _ _ _ (Nat.zero_add _) rfl rfl w hl
set_option maxRecDepth 100000 in
set_option maxHeartbeats 4000000 in
theorem c_X12_manyOf_2 (l : Launch) (D : va_G) (cy : Nat → ClassId) (a0 a1 a2 a3 a4 a5 a6 a7 a8 a9 a10 a11 a12 a13 a14 a15 a16 a17 : Nat) : Ct l D cy yX12_manyOf cX12_manyOf 4 (some .int) 1 22 0 0 [(a0, .inr (12, [.ref a1, .ref a2, .ref a3, .ref a4, .ref a5, .int 0, .ref a6, .int 0, .int 0, .int 0, .int 0, .int 0, .int 0, .int 0, .int 0, .int 0, .int 0, .int (-1), .ref a7, .ref a8, .int 190, .ref a9, .int 0, .ref a10, .ref a11, .ref a12, .ref a13, .ref a14, .int 0, .ref a15, .ref a16, .ref a17])), (a9, .inl (cy 2, 2465, .inr (.inl (rwF (fun _ => 0) (PP 20 2 (20 + 1 - 2))))))] [.ref a0, .int 0] (fun u : Unit => some (.int 190)) (fun _ => True) (fun u : Unit => [(a0, .inr (12, [.ref a1, .ref a2, .ref a3, .ref a4, .ref a5, .int 0, .ref a6, .int 0, .int 0, .int 0, .int 0, .int 0, .int 0, .int 0, .int 0, .int 0, .int 0, .int (-1), .ref a7, .ref a8, .int 190, .ref a9, .int 0, .ref a10, .ref a11, .ref a12, .ref a13, .ref a14, .int 0, .ref a15, .ref a16, .ref a17])), (a9, .inl (cy 2, 2465, .inr (.inl (rwF (fun _ => 0) (PP 20 2 (20 + 1 - 2))))))]) := by
  refine Ct.of (by decide +kernel) (Nat.le_of_ble_eq_true rfl) ?_
  intro p e s m args below meth c A ls C hr hlocks hml hnm w hl
  have hl : lv_has ls 4 [(0, .ref a0), (1, .int 0)] := hl
  refine lv_iconst (v := 0) C.1 C.2.1 dX12_manyOf_0 (by decide) ?_
  refine lv_istore_n (lv' := [(2, .int 0), (0, .ref a0), (1, .int 0)]) C.1 C.2.1 dX12_manyOf_1 rfl hl (by decide) rfl (fun ls hl => ?_)
  refine lv_iconst (v := 0) C.1 C.2.1 dX12_manyOf_2 (by decide) ?_
  refine lv_istore_n (lv' := [(3, .int 0), (2, .int 0), (0, .ref a0), (1, .int 0)]) C.1 C.2.1 dX12_manyOf_3 rfl hl (by decide) rfl (fun ls hl => ?_)
  refine lp_X12_manyOf_2 a0 a1 a2 a3 a4 a5 a6 a7 a8 a9 a10 a11 a12 a13 a14 a15 a16 a17 (fun _ => 0) 190 (PP 20 2 (20 + 1 - 2)) (by decide +kernel) (by decide +kernel) C hml (Nat.le_of_ble_eq_true rfl) (Nat.le_of_ble_eq_true rfl) ⟨Nat.le_of_ble_eq_true rfl, Nat.le_of_ble_eq_true rfl⟩ (w.re rfl) (lv_sub hl [2, 3, 1, 0] rfl) (fun H locs ls w hl => ?_)
  have w : Wd D A s.heap [(a0, .inr (12, [.ref a1, .ref a2, .ref a3, .ref a4, .ref a5, .int 0, .ref a6, .int 0, .int 0, .int 0, .int 0, .int 0, .int 0, .int 0, .int 0, .int 0, .int 0, .int (-1), .ref a7, .ref a8, .int 190, .ref a9, .int 0, .ref a10, .ref a11, .ref a12, .ref a13, .ref a14, .int 0, .ref a15, .ref a16, .ref a17])), (a9, .inl (cy 2, 2465, .inr (.inl (rwF (fun _ => 0) (PP 20 2 (20 + 1 - 2))))))] _ _ := w
  refine lv_iload_n C.1 C.2.1 dX12_manyOf_35 rfl (lv_at hl 2 rfl) ?_
  exact r_iret C w hlocks () hr rfl rfl trivial [0, 1] rfl rfl ⟨Nat.le_of_ble_eq_true rfl, Nat.le_of_ble_eq_true rfl⟩ dX12_manyOf_36
theorem dX12_shortBy_5 : decode cX12_shortBy 5 = .ok (.istore_n 3, 1) := by decide +kernel
theorem dX12_shortBy_6 : decode cX12_shortBy 6 = .ok (.iload_n 2, 1) := by decide +kernel
theorem dX12_shortBy_7 : decode cX12_shortBy 7 = .ok (.ifCond .ne 14, 3) := by decide +kernel
theorem dX12_shortBy_10 : decode cX12_shortBy 10 = .ok (.iload_n 3, 1) := by decide +kernel
theorem dX12_shortBy_11 : decode cX12_shortBy 11 = .ok (.iconst 1, 1) := by decide +kernel
theorem dX12_shortBy_12 : decode cX12_shortBy 12 = .ok (.if_icmp .ne 7, 3) := by decide +kernel
theorem dX12_shortBy_19 : decode cX12_shortBy 19 = .ok (.iconst 0, 1) := by decide +kernel
theorem dX12_shortBy_20 : decode cX12_shortBy 20 = .ok (.ireturn, 1) := by decide +kernel
set_option maxRecDepth 100000 in
set_option maxHeartbeats 4000000 in
theorem c_X12_shortBy_0 (l : Launch) (D : va_G) (cy : Nat → ClassId) (a0 a1 a2 a3 a4 a5 a6 a7 a8 a9 a10 a11 a12 a13 a14 a15 a16 a17 : Nat) : Ct l D cy yX12_shortBy cX12_shortBy 5 (some .boolean) 2 45 0 0 [(a0, .inr (12, [.ref a1, .ref a2, .ref a3, .ref a4, .ref a5, .int 0, .ref a6, .int 0, .int 0, .int 0, .int 0, .int 0, .int 0, .int 0, .int 0, .int 0, .int 0, .int (-1), .ref a7, .ref a8, .int 190, .ref a9, .int 0, .ref a10, .ref a11, .ref a12, .ref a13, .ref a14, .int 0, .ref a15, .ref a16, .ref a17])), (a9, .inl (cy 2, 2465, .inr (.inl (rwF (fun _ => 0) (PP 20 2 (20 + 1 - 2))))))] [.ref a0, .int 0, .int 0] (fun u : Unit => some (.int 0)) (fun _ => True) (fun u : Unit => [(a0, .inr (12, [.ref a1, .ref a2, .ref a3, .ref a4, .ref a5, .int 0, .ref a6, .int 0, .int 0, .int 0, .int 0, .int 0, .int 0, .int 0, .int 0, .int 0, .int 0, .int (-1), .ref a7, .ref a8, .int 190, .ref a9, .int 0, .ref a10, .ref a11, .ref a12, .ref a13, .ref a14, .int 0, .ref a15, .ref a16, .ref a17])), (a9, .inl (cy 2, 2465, .inr (.inl (rwF (fun _ => 0) (PP 20 2 (20 + 1 - 2))))))]) := by
  refine Ct.of (by decide +kernel) (Nat.le_of_ble_eq_true rfl) ?_
  intro p e s m args below meth c A ls C hr hlocks hml hnm w hl
  have hl : lv_has ls 5 [(0, .ref a0), (1, .int 0), (2, .int 0)] := hl
  refine lv_aload_n C.1 C.2.1 dX12_shortBy_0 rfl (lv_at hl 0 rfl) ?_
  refine lv_iload_n C.1 C.2.1 dX12_shortBy_1 rfl (lv_at hl 1 rfl) ?_
  refine r_callV C w fv_RX12_333 (c_X12_manyOf_2 l D cy a0 a1 a2 a3 a4 a5 a6 a7 a8 a9 a10 a11 a12 a13 a14 a15 a16 a17) (hl.1.trans hml.symm) [0, 1] [] (wr := []) ⟨rfl, rfl, rfl, rfl, by decide⟩ 0 rfl rfl rfl rfl rfl ⟨Nat.le_of_ble_eq_true rfl, Nat.le_of_ble_eq_true rfl, Nat.le_of_ble_eq_true rfl⟩ 0 0 ⟨rfl, rfl, Nat.le_of_ble_eq_true rfl, Nat.le_of_ble_eq_true rfl⟩ dX12_shortBy_2 (fun u H locs hp w => ?_)
  have w : Wd D A s.heap [(a0, .inr (12, [.ref a1, .ref a2, .ref a3, .ref a4, .ref a5, .int 0, .ref a6, .int 0, .int 0, .int 0, .int 0, .int 0, .int 0, .int 0, .int 0, .int 0, .int 0, .int (-1), .ref a7, .ref a8, .int 190, .ref a9, .int 0, .ref a10, .ref a11, .ref a12, .ref a13, .ref a14, .int 0, .ref a15, .ref a16, .ref a17])), (a9, .inl (cy 2, 2465, .inr (.inl (rwF (fun _ => 0) (PP 20 2 (20 + 1 - 2))))))] _ _ := w
  refine r_top (g2 := F0 m 5 ls [.int 190]) rfl ?_
  refine lv_istore_n (lv' := [(3, .int 190), (0, .ref a0), (1, .int 0), (2, .int 0)]) C.1 C.2.1 dX12_shortBy_5 rfl hl (by decide) rfl (fun ls hl => ?_)
  refine lv_iload_n C.1 C.2.1 dX12_shortBy_6 rfl (lv_at hl 3 rfl) ?_
  refine b_if_ne_f C (tgt := 21) dX12_shortBy_7 (by decide) (by decide) ?_
  refine lv_iload_n C.1 C.2.1 dX12_shortBy_10 rfl (lv_at hl 0 rfl) ?_
  refine lv_iconst (v := 1) C.1 C.2.1 dX12_shortBy_11 (by decide) ?_
  refine b_icmp_ne_t C (tgt := 19) dX12_shortBy_12 (by decide) (by decide) ?_
  refine lv_iconst (v := 0) C.1 C.2.1 dX12_shortBy_19 (by decide) ?_
  exact r_iret C w hlocks () hr rfl rfl trivial [0, 1] rfl rfl ⟨Nat.le_of_ble_eq_true rfl, Nat.le_of_ble_eq_true rfl⟩ dX12_shortBy_20
theorem fv_RX12_383 : FV RX12 383 yX12_shortBy cX12_shortBy 5 (some .boolean) 2 := ⟨⟨gw_mem (by decide +kernel) (by decide +kernel), gw_mem (by decide +kernel) (by decide +kernel), gw_mem (by decide +kernel) (by decide +kernel), gw_mem (by decide +kernel) (by decide +kernel), gw_mem (by decide +kernel) (by decide +kernel)⟩, ⟨by decide +kernel, by decide +kernel, by decide +kernel⟩⟩
theorem dX12_shortest_77 : decode cX12_shortest 77 = .ok (.ifCond .eq 46, 3) := by decide +kernel
theorem dX12_shortest_123 : decode cX12_shortest 123 = .ok (.iinc 3 1, 3) := by decide +kernel
theorem dX12_shortest_126 : decode cX12_shortest 126 = .ok (.goto (-60), 3) := by decide +kernel
theorem dX12_shortBy_21 : decode cX12_shortBy 21 = .ok (.iload_n 3, 1) := by decide +kernel
theorem dX12_shortBy_22 : decode cX12_shortBy 22 = .ok (.ifCond .ne 5, 3) := by decide +kernel
theorem dX12_shortBy_27 : decode cX12_shortBy 27 = .ok (.iconst 0, 1) := by decide +kernel
theorem dX12_shortBy_28 : decode cX12_shortBy 28 = .ok (.istore 4, 2) := by decide +kernel
theorem dX12_shortBy_30 : decode cX12_shortBy 30 = .ok (.iload 4, 2) := by decide +kernel
theorem dX12_shortBy_32 : decode cX12_shortBy 32 = .ok (.iconst 2, 1) := by decide +kernel
theorem dX12_shortBy_33 : decode cX12_shortBy 33 = .ok (.aload_n 0, 1) := by decide +kernel
theorem dX12_shortBy_34 : decode cX12_shortBy 34 = .ok (.getfield 9, 3) := by decide +kernel
theorem dX12_shortBy_37 : decode cX12_shortBy 37 = .ok (.iconst 5, 1) := by decide +kernel
theorem dX12_shortBy_38 : decode cX12_shortBy 38 = .ok (.iaload, 1) := by decide +kernel
theorem dX12_shortBy_39 : decode cX12_shortBy 39 = .ok (.imul, 1) := by decide +kernel
theorem dX12_shortBy_40 : decode cX12_shortBy 40 = .ok (.if_icmp .ge 57, 3) := by decide +kernel
theorem dX12_shortBy_97 : decode cX12_shortBy 97 = .ok (.iconst 0, 1) := by decide +kernel
theorem dX12_shortBy_98 : decode cX12_shortBy 98 = .ok (.ireturn, 1) := by decide +kernel
set_option maxRecDepth 100000 in
set_option maxHeartbeats 4000000 in
theorem c_X12_shortBy_1 (l : Launch) (D : va_G) (cy : Nat → ClassId) (a0 a1 a2 a3 a4 a5 a6 a7 a8 a9 a10 a11 a12 a13 a14 a15 a16 a17 : Nat) : Ct l D cy yX12_shortBy cX12_shortBy 5 (some .boolean) 2 45 0 0 [(a0, .inr (12, [.ref a1, .ref a2, .ref a3, .ref a4, .ref a5, .int 0, .ref a6, .int 0, .int 0, .int 0, .int 0, .int 0, .int 0, .int 0, .int 0, .int 0, .int 0, .int (-1), .ref a7, .ref a8, .int 190, .ref a9, .int 0, .ref a10, .ref a11, .ref a12, .ref a13, .ref a14, .int 0, .ref a15, .ref a16, .ref a17])), (a1, .inl (cy 1, 1868, .inl (upd (upd (upd (fun _ => 0) 1 2) 2 20) 3 120))), (a9, .inl (cy 2, 2465, .inr (.inl (rwF (fun _ => 0) (PP 20 2 (20 + 1 - 2))))))] [.ref a0, .int 0, .int 1] (fun u : Unit => some (.int 0)) (fun _ => True) (fun u : Unit => [(a1, .inl (cy 1, 1868, .inl (upd (upd (upd (fun _ => 0) 1 2) 2 20) 3 120))), (a0, .inr (12, [.ref a1, .ref a2, .ref a3, .ref a4, .ref a5, .int 0, .ref a6, .int 0, .int 0, .int 0, .int 0, .int 0, .int 0, .int 0, .int 0, .int 0, .int 0, .int (-1), .ref a7, .ref a8, .int 190, .ref a9, .int 0, .ref a10, .ref a11, .ref a12, .ref a13, .ref a14, .int 0, .ref a15, .ref a16, .ref a17])), (a9, .inl (cy 2, 2465, .inr (.inl (rwF (fun _ => 0) (PP 20 2 (20 + 1 - 2))))))]) := by
  refine Ct.of (by decide +kernel) (Nat.le_of_ble_eq_true rfl) ?_
  intro p e s m args below meth c A ls C hr hlocks hml hnm w hl
  have hl : lv_has ls 5 [(0, .ref a0), (1, .int 0), (2, .int 1)] := hl
  refine lv_aload_n C.1 C.2.1 dX12_shortBy_0 rfl (lv_at hl 0 rfl) ?_
  refine lv_iload_n C.1 C.2.1 dX12_shortBy_1 rfl (lv_at hl 1 rfl) ?_
  refine r_callV C w fv_RX12_333 (c_X12_manyOf_2 l D cy a0 a1 a2 a3 a4 a5 a6 a7 a8 a9 a10 a11 a12 a13 a14 a15 a16 a17) (hl.1.trans hml.symm) [0, 2] [1] (wr := [(a1, .inl (cy 1, 1868, .inl (upd (upd (upd (fun _ => 0) 1 2) 2 20) 3 120)))]) ⟨rfl, rfl, rfl, rfl, by decide⟩ 0 rfl rfl rfl rfl rfl ⟨Nat.le_of_ble_eq_true rfl, Nat.le_of_ble_eq_true rfl, Nat.le_of_ble_eq_true rfl⟩ 0 0 ⟨rfl, rfl, Nat.le_of_ble_eq_true rfl, Nat.le_of_ble_eq_true rfl⟩ dX12_shortBy_2 (fun u H locs hp w => ?_)
  have w : Wd D A s.heap [(a1, .inl (cy 1, 1868, .inl (upd (upd (upd (fun _ => 0) 1 2) 2 20) 3 120))), (a0, .inr (12, [.ref a1, .ref a2, .ref a3, .ref a4, .ref a5, .int 0, .ref a6, .int 0, .int 0, .int 0, .int 0, .int 0, .int 0, .int 0, .int 0, .int 0, .int 0, .int (-1), .ref a7, .ref a8, .int 190, .ref a9, .int 0, .ref a10, .ref a11, .ref a12, .ref a13, .ref a14, .int 0, .ref a15, .ref a16, .ref a17])), (a9, .inl (cy 2, 2465, .inr (.inl (rwF (fun _ => 0) (PP 20 2 (20 + 1 - 2))))))] _ _ := w
  refine r_top (g2 := F0 m 5 ls [.int 190]) rfl ?_
  refine lv_istore_n (lv' := [(3, .int 190), (0, .ref a0), (1, .int 0), (2, .int 1)]) C.1 C.2.1 dX12_shortBy_5 rfl hl (by decide) rfl (fun ls hl => ?_)
  refine lv_iload_n C.1 C.2.1 dX12_shortBy_6 rfl (lv_at hl 3 rfl) ?_
  refine b_if_ne_t C (tgt := 21) dX12_shortBy_7 (by decide) (by decide) ?_
  refine lv_iload_n C.1 C.2.1 dX12_shortBy_21 rfl (lv_at hl 0 rfl) ?_
  refine b_if_ne_t C (tgt := 27) dX12_shortBy_22 (by decide) (by decide) ?_
  refine lv_iconst (v := 0) C.1 C.2.1 dX12_shortBy_27 (by decide) ?_
  refine lv_istore (lv' := [(4, .int 0), (3, .int 190), (0, .ref a0), (1, .int 0), (2, .int 1)]) C.1 C.2.1 dX12_shortBy_28 hl (by decide) rfl (fun ls hl => ?_)
  refine lv_iload C.1 C.2.1 dX12_shortBy_30 (lv_at hl 0 rfl) ?_
  refine lv_iconst (v := 2) C.1 C.2.1 dX12_shortBy_32 (by decide) ?_
  refine lv_aload_n C.1 C.2.1 dX12_shortBy_33 rfl (lv_at hl 2 rfl) ?_
  refine r_get C w 1 rfl rfl 0 (by decide) fl_RX12_9 (v := .ref a1) rfl dX12_shortBy_34 ?_
  refine lv_iconst (v := 5) C.1 C.2.1 dX12_shortBy_37 (by decide) ?_
  refine r_iald C w 0 rfl (v := 0) (vinD (by decide)) rfl dX12_shortBy_38 ?_
  refine r_imul C (v := 0) dX12_shortBy_39 (by decide) ?_
  refine b_icmp_ge_t C (tgt := 97) dX12_shortBy_40 (by decide) (by decide) ?_
  refine lv_iconst (v := 0) C.1 C.2.1 dX12_shortBy_97 (by decide) ?_
  exact r_iret C w hlocks () hr rfl rfl trivial [0, 1, 2] rfl rfl ⟨Nat.le_of_ble_eq_true rfl, Nat.le_of_ble_eq_true rfl⟩ dX12_shortBy_98
set_option maxRecDepth 100000 in
set_option maxHeartbeats 4000000 in
theorem c_X12_within_41 (l : Launch) (D : va_G) (cy : Nat → ClassId) : Ct l D cy yX12_within cX12_within 6 (some .boolean) 0 0 0 0 [] [.long 1, .long 1, .long 4] (fun u : Unit => some (.int 1)) (fun _ => True) (fun u : Unit => []) := by
  refine Ct.of (by decide +kernel) (Nat.le_of_ble_eq_true rfl) ?_
  intro p e s m args below meth c A ls C hr hlocks hml hnm w hl
  have hl : lv_has ls 6 [(0, .long 1), (2, .long 1), (4, .long 4)] := hl
  refine lv_lload_n C.1 C.2.1 dX12_within_0 rfl (lv_at hl 0 rfl) ?_
  refine lv_lload_n C.1 C.2.1 dX12_within_1 rfl (lv_at hl 1 rfl) ?_
  refine r_lcmp C (v := 0) dX12_within_2 (by decide) ?_
  refine b_if_lt_f C (tgt := 17) dX12_within_3 (by decide) (by decide) ?_
  refine lv_lload_n C.1 C.2.1 dX12_within_6 rfl (lv_at hl 0 rfl) ?_
  refine lv_lload C.1 C.2.1 dX12_within_7 (lv_at hl 2 rfl) ?_
  refine r_lcmp C (v := (-1)) dX12_within_9 (by decide) ?_
  refine b_if_gt_f C (tgt := 17) dX12_within_10 (by decide) (by decide) ?_
  refine lv_iconst (v := 1) C.1 C.2.1 dX12_within_13 (by decide) ?_
  refine lv_goto (tgt := 18) C.1 C.2.1 dX12_within_14 (by decide) ?_
  exact r_iret C w hlocks () hr rfl rfl trivial [] rfl rfl ⟨Nat.le_of_ble_eq_true rfl, Nat.le_of_ble_eq_true rfl⟩ dX12_within_18
theorem dX12_shortest_129 : decode cX12_shortest 129 = .ok (.iconst (-1), 1) := by decide +kernel
theorem dX12_shortest_130 : decode cX12_shortest 130 = .ok (.ireturn, 1) := by decide +kernel
set_option maxRecDepth 100000 in
set_option maxHeartbeats 4000000 in
theorem c_X12_shortest_2 (l : Launch) (D : va_G) (cy : Nat → ClassId) (a0 a1 a2 a3 a4 a5 a6 a7 a8 a9 a10 a11 a12 a13 a14 a15 a16 a17 : Nat) (x1 : Int32) (k0 : ¬ x1 < 0) (k1 : ¬ 1 < x1) : Ct l D cy yX12_shortest cX12_shortest 4 (some .int) 3 69 0 0 [(a0, .inr (12, [.ref a1, .ref a2, .ref a3, .ref a4, .ref a5, .int 0, .ref a6, .int 0, .int 0, .int 0, .int 0, .int 0, .int 0, .int 0, .int 0, .int 0, .int 0, .int (-1), .ref a7, .ref a8, .int 0, .ref a9, .int 0, .ref a10, .ref a11, .ref a12, .ref a13, .ref a14, .int 0, .ref a15, .ref a16, .ref a17])), (a1, .inl (cy 1, 1868, .inl (upd (upd (upd (fun _ => 0) 1 2) 2 20) 3 120))), (a7, .inl (cy 1, 1830, .inl (fun _ => 0))), (a8, .inl (cy 1, 1830, .inl (fun _ => 0))), (a9, .inl (cy 2, 2465, .inr (.inl (fun _ => 0))))] [.ref a0, .int 1, .int x1] (fun u : Unit => some (.int (-1))) (fun _ => True) (fun u : Unit => [(a7, .inl (cy 1, 1830, .inl (lxF (fun _ => 0) 2 20 (PP 20 2 (20 + 1 - 2))))), (a8, .inl (cy 1, 1830, .inl (lyF (fun _ => 0) 2 20 (PP 20 2 (20 + 1 - 2))))), (a1, .inl (cy 1, 1868, .inl (upd (upd (upd (fun _ => 0) 1 2) 2 20) 3 120))), (a0, .inr (12, [.ref a1, .ref a2, .ref a3, .ref a4, .ref a5, .int 0, .ref a6, .int 0, .int 0, .int 0, .int 0, .int 0, .int 0, .int 0, .int 0, .int 0, .int 0, .int (-1), .ref a7, .ref a8, .int 190, .ref a9, .int 0, .ref a10, .ref a11, .ref a12, .ref a13, .ref a14, .int 0, .ref a15, .ref a16, .ref a17])), (a9, .inl (cy 2, 2465, .inr (.inl (rwF (fun _ => 0) (PP 20 2 (20 + 1 - 2))))))]) := by
  refine Ct.of (by decide +kernel) (Nat.le_of_ble_eq_true rfl) ?_
  intro p e s m args below meth c A ls C hr hlocks hml hnm w hl
  have hl : lv_has ls 4 [(0, .ref a0), (1, .int 1), (2, .int x1)] := hl
  refine lv_aload_n C.1 C.2.1 dX12_shortest_0 rfl (lv_at hl 0 rfl) ?_
  refine lv_iload_n C.1 C.2.1 dX12_shortest_1 rfl (lv_at hl 1 rfl) ?_
  refine lv_i2l (v := 1) C.1 C.2.1 dX12_shortest_2 (by decide) ?_
  refine lv_lconst (v := 1) C.1 C.2.1 dX12_shortest_3 (by decide) ?_
  refine lv_ldc2 (v := 4) C.1 C.2.1 C.2.2.1 (C.2.2.2.1 _ kl_RX12_386) dX12_shortest_4 ?_
  refine r_callS C w fs_RX12_133 (c_X12_within_41 l D cy) (hl.1.trans hml.symm) [] [0, 1, 2, 3, 4] (wr := [(a0, .inr (12, [.ref a1, .ref a2, .ref a3, .ref a4, .ref a5, .int 0, .ref a6, .int 0, .int 0, .int 0, .int 0, .int 0, .int 0, .int 0, .int 0, .int 0, .int 0, .int (-1), .ref a7, .ref a8, .int 0, .ref a9, .int 0, .ref a10, .ref a11, .ref a12, .ref a13, .ref a14, .int 0, .ref a15, .ref a16, .ref a17])), (a1, .inl (cy 1, 1868, .inl (upd (upd (upd (fun _ => 0) 1 2) 2 20) 3 120))), (a7, .inl (cy 1, 1830, .inl (fun _ => 0))), (a8, .inl (cy 1, 1830, .inl (fun _ => 0))), (a9, .inl (cy 2, 2465, .inr (.inl (fun _ => 0))))]) ⟨rfl, rfl, rfl, rfl, by decide⟩ rfl rfl ⟨Nat.le_of_ble_eq_true rfl, Nat.le_of_ble_eq_true rfl, Nat.le_of_ble_eq_true rfl⟩ 0 0 ⟨rfl, rfl, Nat.le_of_ble_eq_true rfl, Nat.le_of_ble_eq_true rfl⟩ dX12_shortest_7 (fun u H locs hp w => ?_)
  have w : Wd D A s.heap [(a0, .inr (12, [.ref a1, .ref a2, .ref a3, .ref a4, .ref a5, .int 0, .ref a6, .int 0, .int 0, .int 0, .int 0, .int 0, .int 0, .int 0, .int 0, .int 0, .int 0, .int (-1), .ref a7, .ref a8, .int 0, .ref a9, .int 0, .ref a10, .ref a11, .ref a12, .ref a13, .ref a14, .int 0, .ref a15, .ref a16, .ref a17])), (a1, .inl (cy 1, 1868, .inl (upd (upd (upd (fun _ => 0) 1 2) 2 20) 3 120))), (a7, .inl (cy 1, 1830, .inl (fun _ => 0))), (a8, .inl (cy 1, 1830, .inl (fun _ => 0))), (a9, .inl (cy 2, 2465, .inr (.inl (fun _ => 0))))] _ _ := w
  refine r_top (g2 := F0 m 10 ls [.int 1, .ref a0]) rfl ?_
  refine b_if_eq_f C (tgt := 41) dX12_shortest_10 (by decide) (by decide) ?_
  refine lv_iload_n C.1 C.2.1 dX12_shortest_13 rfl (lv_at hl 2 rfl) ?_
  refine lv_i2l (v := (Int32.toInt64 x1)) C.1 C.2.1 dX12_shortest_14 rfl ?_
  refine lv_lconst (v := 0) C.1 C.2.1 dX12_shortest_15 (by decide) ?_
  refine lv_lconst (v := 1) C.1 C.2.1 dX12_shortest_16 (by decide) ?_
  refine r_callS C w fs_RX12_133 (c_X12_within_17 l D cy x1 k0 k1) (hl.1.trans hml.symm) [] [0, 1, 2, 3, 4] (wr := [(a0, .inr (12, [.ref a1, .ref a2, .ref a3, .ref a4, .ref a5, .int 0, .ref a6, .int 0, .int 0, .int 0, .int 0, .int 0, .int 0, .int 0, .int 0, .int 0, .int 0, .int (-1), .ref a7, .ref a8, .int 0, .ref a9, .int 0, .ref a10, .ref a11, .ref a12, .ref a13, .ref a14, .int 0, .ref a15, .ref a16, .ref a17])), (a1, .inl (cy 1, 1868, .inl (upd (upd (upd (fun _ => 0) 1 2) 2 20) 3 120))), (a7, .inl (cy 1, 1830, .inl (fun _ => 0))), (a8, .inl (cy 1, 1830, .inl (fun _ => 0))), (a9, .inl (cy 2, 2465, .inr (.inl (fun _ => 0))))]) ⟨rfl, rfl, rfl, rfl, by decide⟩ rfl rfl ⟨Nat.le_of_ble_eq_true rfl, Nat.le_of_ble_eq_true rfl, Nat.le_of_ble_eq_true rfl⟩ 0 0 ⟨rfl, rfl, Nat.le_of_ble_eq_true rfl, Nat.le_of_ble_eq_true rfl⟩ dX12_shortest_17 (fun u H locs hp w => ?_)
  have w : Wd D A s.heap [(a0, .inr (12, [.ref a1, .ref a2, .ref a3, .ref a4, .ref a5, .int 0, .ref a6, .int 0, .int 0, .int 0, .int 0, .int 0, .int 0, .int 0, .int 0, .int 0, .int 0, .int (-1), .ref a7, .ref a8, .int 0, .ref a9, .int 0, .ref a10, .ref a11, .ref a12, .ref a13, .ref a14, .int 0, .ref a15, .ref a16, .ref a17])), (a1, .inl (cy 1, 1868, .inl (upd (upd (upd (fun _ => 0) 1 2) 2 20) 3 120))), (a7, .inl (cy 1, 1830, .inl (fun _ => 0))), (a8, .inl (cy 1, 1830, .inl (fun _ => 0))), (a9, .inl (cy 2, 2465, .inr (.inl (fun _ => 0))))] _ _ := w
  refine r_top (g2 := F0 m 20 ls [.int 1, .ref a0]) rfl ?_
  refine b_if_ne_t C (tgt := 37) dX12_shortest_20 (by decide) (by decide) ?_
  refine lv_iconst (v := 0) C.1 C.2.1 dX12_shortest_37 (by decide) ?_
  refine lv_goto (tgt := 42) C.1 C.2.1 dX12_shortest_38 (by decide) ?_
  refine r_put C w 0 rfl rfl 5 (by decide) fl_RX12_71 rfl (ty := .int) (tyX12_ok 5 (by decide)) rfl rfl (Nat.le_of_ble_eq_true rfl) [(a0, .inr (12, [.ref a1, .ref a2, .ref a3, .ref a4, .ref a5, .int 0, .ref a6, .int 0, .int 0, .int 0, .int 0, .int 0, .int 0, .int 0, .int 0, .int 0, .int 0, .int (-1), .ref a7, .ref a8, .int 0, .ref a9, .int 0, .ref a10, .ref a11, .ref a12, .ref a13, .ref a14, .int 0, .ref a15, .ref a16, .ref a17])), (a1, .inl (cy 1, 1868, .inl (upd (upd (upd (fun _ => 0) 1 2) 2 20) 3 120))), (a7, .inl (cy 1, 1830, .inl (fun _ => 0))), (a8, .inl (cy 1, 1830, .inl (fun _ => 0))), (a9, .inl (cy 2, 2465, .inr (.inl (fun _ => 0))))] rfl dX12_shortest_42 (fun H locs w => ?_)
  refine lv_aload_n C.1 C.2.1 dX12_shortest_45 rfl (lv_at hl 0 rfl) ?_
  refine r_get C w 0 rfl rfl 5 (by decide) fl_RX12_71 (v := .int 0) rfl dX12_shortest_46 ?_
  refine b_if_le_t C (tgt := 54) dX12_shortest_49 (by decide) (by decide) ?_
  refine lv_aload_n C.1 C.2.1 dX12_shortest_54 rfl (lv_at hl 0 rfl) ?_
  refine r_callV C w fv_RX12_253 (c_X12_layPairs_0 l D cy a0 a1 a2 a3 a4 a5 a6 a7 a8 a9 a10 a11 a12 a13 a14 a15 a16 a17) (hl.1.trans hml.symm) [0, 1, 2, 3] [4] (wr := [(a9, .inl (cy 2, 2465, .inr (.inl (fun _ => 0))))]) ⟨rfl, rfl, rfl, rfl, by decide⟩ 0 rfl rfl rfl rfl rfl ⟨Nat.le_of_ble_eq_true rfl, Nat.le_of_ble_eq_true rfl, Nat.le_of_ble_eq_true rfl⟩ 0 0 ⟨rfl, rfl, Nat.le_of_ble_eq_true rfl, Nat.le_of_ble_eq_true rfl⟩ dX12_shortest_55 (fun u H locs hp w => ?_)
  have w : Wd D A s.heap [(a9, .inl (cy 2, 2465, .inr (.inl (fun _ => 0)))), (a0, .inr (12, [.ref a1, .ref a2, .ref a3, .ref a4, .ref a5, .int 0, .ref a6, .int 0, .int 0, .int 0, .int 0, .int 0, .int 0, .int 0, .int 0, .int 0, .int 0, .int (-1), .ref a7, .ref a8, .int 190, .ref a9, .int 0, .ref a10, .ref a11, .ref a12, .ref a13, .ref a14, .int 0, .ref a15, .ref a16, .ref a17])), (a1, .inl (cy 1, 1868, .inl (upd (upd (upd (fun _ => 0) 1 2) 2 20) 3 120))), (a7, .inl (cy 1, 1830, .inl (lxF (fun _ => 0) 2 20 (PP 20 2 (20 + 1 - 2))))), (a8, .inl (cy 1, 1830, .inl (lyF (fun _ => 0) 2 20 (PP 20 2 (20 + 1 - 2)))))] _ _ := w
  refine r_top (g2 := F0 m 58 ls []) rfl ?_
  refine lv_aload_n C.1 C.2.1 dX12_shortest_58 rfl (lv_at hl 0 rfl) ?_
  refine lv_iconst (v := 0) C.1 C.2.1 dX12_shortest_59 (by decide) ?_
  refine lv_iconst (v := 1) C.1 C.2.1 dX12_shortest_60 (by decide) ?_
  refine r_callV C w fv_RX12_323 (c_X12_fills_2 l D cy a0 a1 a2 a3 a4 a5 a6 a7 a8 a9 a10 a11 a12 a13 a14 a15 a16 a17) (hl.1.trans hml.symm) [1, 0] [2, 3, 4] (wr := [(a1, .inl (cy 1, 1868, .inl (upd (upd (upd (fun _ => 0) 1 2) 2 20) 3 120))), (a7, .inl (cy 1, 1830, .inl (lxF (fun _ => 0) 2 20 (PP 20 2 (20 + 1 - 2))))), (a8, .inl (cy 1, 1830, .inl (lyF (fun _ => 0) 2 20 (PP 20 2 (20 + 1 - 2)))))]) ⟨rfl, rfl, rfl, rfl, by decide⟩ 0 rfl rfl rfl rfl rfl ⟨Nat.le_of_ble_eq_true rfl, Nat.le_of_ble_eq_true rfl, Nat.le_of_ble_eq_true rfl⟩ 0 0 ⟨rfl, rfl, Nat.le_of_ble_eq_true rfl, Nat.le_of_ble_eq_true rfl⟩ dX12_shortest_61 (fun u H locs hp w => ?_)
  have w : Wd D A s.heap [(a1, .inl (cy 1, 1868, .inl (upd (upd (upd (fun _ => 0) 1 2) 2 20) 3 120))), (a7, .inl (cy 1, 1830, .inl (lxF (fun _ => 0) 2 20 (PP 20 2 (20 + 1 - 2))))), (a8, .inl (cy 1, 1830, .inl (lyF (fun _ => 0) 2 20 (PP 20 2 (20 + 1 - 2))))), (a0, .inr (12, [.ref a1, .ref a2, .ref a3, .ref a4, .ref a5, .int 0, .ref a6, .int 0, .int 0, .int 0, .int 0, .int 0, .int 0, .int 0, .int 0, .int 0, .int 0, .int (-1), .ref a7, .ref a8, .int 190, .ref a9, .int 0, .ref a10, .ref a11, .ref a12, .ref a13, .ref a14, .int 0, .ref a15, .ref a16, .ref a17])), (a9, .inl (cy 2, 2465, .inr (.inl (rwF (fun _ => 0) (PP 20 2 (20 + 1 - 2))))))] _ _ := w
  refine r_top (g2 := F0 m 64 ls []) rfl ?_
  refine lv_iconst (v := 0) C.1 C.2.1 dX12_shortest_64 (by decide) ?_
  refine lv_istore_n (lv' := [(3, .int 0), (0, .ref a0), (1, .int 1), (2, .int x1)]) C.1 C.2.1 dX12_shortest_65 rfl hl (by decide) rfl (fun ls hl => ?_)
  refine lv_iload_n C.1 C.2.1 dX12_shortest_66 rfl (lv_at hl 0 rfl) ?_
  refine lv_iload_n C.1 C.2.1 dX12_shortest_67 rfl (lv_at hl 2 rfl) ?_
  refine b_icmp_gt_f C (tgt := 129) dX12_shortest_68 (by decide) (by decide) ?_
  refine lv_aload_n C.1 C.2.1 dX12_shortest_71 rfl (lv_at hl 1 rfl) ?_
  refine lv_iconst (v := 0) C.1 C.2.1 dX12_shortest_72 (by decide) ?_
  refine lv_iload_n C.1 C.2.1 dX12_shortest_73 rfl (lv_at hl 0 rfl) ?_
  refine r_callV C w fv_RX12_383 (c_X12_shortBy_0 l D cy a0 a1 a2 a3 a4 a5 a6 a7 a8 a9 a10 a11 a12 a13 a14 a15 a16 a17) (hl.1.trans hml.symm) [3, 4] [0, 1, 2] (wr := [(a1, .inl (cy 1, 1868, .inl (upd (upd (upd (fun _ => 0) 1 2) 2 20) 3 120))), (a7, .inl (cy 1, 1830, .inl (lxF (fun _ => 0) 2 20 (PP 20 2 (20 + 1 - 2))))), (a8, .inl (cy 1, 1830, .inl (lyF (fun _ => 0) 2 20 (PP 20 2 (20 + 1 - 2)))))]) ⟨rfl, rfl, rfl, rfl, by decide⟩ 0 rfl rfl rfl rfl rfl ⟨Nat.le_of_ble_eq_true rfl, Nat.le_of_ble_eq_true rfl, Nat.le_of_ble_eq_true rfl⟩ 0 0 ⟨rfl, rfl, Nat.le_of_ble_eq_true rfl, Nat.le_of_ble_eq_true rfl⟩ dX12_shortest_74 (fun u H locs hp w => ?_)
  have w : Wd D A s.heap [(a1, .inl (cy 1, 1868, .inl (upd (upd (upd (fun _ => 0) 1 2) 2 20) 3 120))), (a7, .inl (cy 1, 1830, .inl (lxF (fun _ => 0) 2 20 (PP 20 2 (20 + 1 - 2))))), (a8, .inl (cy 1, 1830, .inl (lyF (fun _ => 0) 2 20 (PP 20 2 (20 + 1 - 2))))), (a0, .inr (12, [.ref a1, .ref a2, .ref a3, .ref a4, .ref a5, .int 0, .ref a6, .int 0, .int 0, .int 0, .int 0, .int 0, .int 0, .int 0, .int 0, .int 0, .int 0, .int (-1), .ref a7, .ref a8, .int 190, .ref a9, .int 0, .ref a10, .ref a11, .ref a12, .ref a13, .ref a14, .int 0, .ref a15, .ref a16, .ref a17])), (a9, .inl (cy 2, 2465, .inr (.inl (rwF (fun _ => 0) (PP 20 2 (20 + 1 - 2))))))] _ _ := w
  refine r_top (g2 := F0 m 77 ls [.int 0]) rfl ?_
  refine b_if_eq_t C (tgt := 123) dX12_shortest_77 (by decide) (by decide) ?_
  refine lv_iinc (v := 1) (lv' := [(3, .int 1), (0, .ref a0), (1, .int 1), (2, .int x1)]) C.1 C.2.1 dX12_shortest_123 hl (k := 0) rfl (by decide) (by decide) rfl (fun ls hl => ?_)
  refine lv_goto (tgt := 66) C.1 C.2.1 dX12_shortest_126 (by decide) ?_
  refine lv_iload_n C.1 C.2.1 dX12_shortest_66 rfl (lv_at hl 0 rfl) ?_
  refine lv_iload_n C.1 C.2.1 dX12_shortest_67 rfl (lv_at hl 2 rfl) ?_
  refine b_icmp_gt_f C (tgt := 129) dX12_shortest_68 (by decide) (by decide) ?_
  refine lv_aload_n C.1 C.2.1 dX12_shortest_71 rfl (lv_at hl 1 rfl) ?_
  refine lv_iconst (v := 0) C.1 C.2.1 dX12_shortest_72 (by decide) ?_
  refine lv_iload_n C.1 C.2.1 dX12_shortest_73 rfl (lv_at hl 0 rfl) ?_
  refine r_callV C w fv_RX12_383 (c_X12_shortBy_1 l D cy a0 a1 a2 a3 a4 a5 a6 a7 a8 a9 a10 a11 a12 a13 a14 a15 a16 a17) (hl.1.trans hml.symm) [3, 0, 4] [1, 2] (wr := [(a7, .inl (cy 1, 1830, .inl (lxF (fun _ => 0) 2 20 (PP 20 2 (20 + 1 - 2))))), (a8, .inl (cy 1, 1830, .inl (lyF (fun _ => 0) 2 20 (PP 20 2 (20 + 1 - 2)))))]) ⟨rfl, rfl, rfl, rfl, by decide⟩ 0 rfl rfl rfl rfl rfl ⟨Nat.le_of_ble_eq_true rfl, Nat.le_of_ble_eq_true rfl, Nat.le_of_ble_eq_true rfl⟩ 0 0 ⟨rfl, rfl, Nat.le_of_ble_eq_true rfl, Nat.le_of_ble_eq_true rfl⟩ dX12_shortest_74 (fun u H locs hp w => ?_)
  have w : Wd D A s.heap [(a7, .inl (cy 1, 1830, .inl (lxF (fun _ => 0) 2 20 (PP 20 2 (20 + 1 - 2))))), (a8, .inl (cy 1, 1830, .inl (lyF (fun _ => 0) 2 20 (PP 20 2 (20 + 1 - 2))))), (a1, .inl (cy 1, 1868, .inl (upd (upd (upd (fun _ => 0) 1 2) 2 20) 3 120))), (a0, .inr (12, [.ref a1, .ref a2, .ref a3, .ref a4, .ref a5, .int 0, .ref a6, .int 0, .int 0, .int 0, .int 0, .int 0, .int 0, .int 0, .int 0, .int 0, .int 0, .int (-1), .ref a7, .ref a8, .int 190, .ref a9, .int 0, .ref a10, .ref a11, .ref a12, .ref a13, .ref a14, .int 0, .ref a15, .ref a16, .ref a17])), (a9, .inl (cy 2, 2465, .inr (.inl (rwF (fun _ => 0) (PP 20 2 (20 + 1 - 2))))))] _ _ := w
  refine r_top (g2 := F0 m 77 ls [.int 0]) rfl ?_
  refine b_if_eq_t C (tgt := 123) dX12_shortest_77 (by decide) (by decide) ?_
  refine lv_iinc (v := 2) (lv' := [(3, .int 2), (0, .ref a0), (1, .int 1), (2, .int x1)]) C.1 C.2.1 dX12_shortest_123 hl (k := 0) rfl (by decide) (by decide) rfl (fun ls hl => ?_)
  refine lv_goto (tgt := 66) C.1 C.2.1 dX12_shortest_126 (by decide) ?_
  refine lv_iload_n C.1 C.2.1 dX12_shortest_66 rfl (lv_at hl 0 rfl) ?_
  refine lv_iload_n C.1 C.2.1 dX12_shortest_67 rfl (lv_at hl 2 rfl) ?_
  refine b_icmp_gt_t C (tgt := 129) dX12_shortest_68 (by decide) (by decide) ?_
  refine lv_iconst (v := (-1)) C.1 C.2.1 dX12_shortest_129 (by decide) ?_
  exact r_iret C w hlocks () hr rfl rfl trivial [0, 1, 2, 3, 4] rfl rfl ⟨Nat.le_of_ble_eq_true rfl, Nat.le_of_ble_eq_true rfl⟩ dX12_shortest_130
set_option maxRecDepth 100000 in
set_option maxHeartbeats 4000000 in
theorem c_X12_shortBy_2 (l : Launch) (D : va_G) (cy : Nat → ClassId) (a0 a1 a2 a3 a4 a5 a6 a7 a8 a9 a10 a11 a12 a13 a14 a15 a16 a17 : Nat) : Ct l D cy yX12_shortBy cX12_shortBy 5 (some .boolean) 2 45 0 0 [(a0, .inr (12, [.ref a1, .ref a2, .ref a3, .ref a4, .ref a5, .int 0, .ref a6, .int 0, .int 0, .int 0, .int 0, .int 0, .int 0, .int 0, .int 0, .int 0, .int 0, .int (-1), .ref a7, .ref a8, .int 190, .ref a9, .int 0, .ref a10, .ref a11, .ref a12, .ref a13, .ref a14, .int 0, .ref a15, .ref a16, .ref a17])), (a1, .inl (cy 1, 1868, .inl (upd (upd (upd (fun _ => 0) 1 2) 2 20) 3 120))), (a9, .inl (cy 2, 2465, .inr (.inl (rwF (fun _ => 0) (PP 20 2 (20 + 1 - 2))))))] [.ref a0, .int 0, .int 2] (fun u : Unit => some (.int 0)) (fun _ => True) (fun u : Unit => [(a1, .inl (cy 1, 1868, .inl (upd (upd (upd (fun _ => 0) 1 2) 2 20) 3 120))), (a0, .inr (12, [.ref a1, .ref a2, .ref a3, .ref a4, .ref a5, .int 0, .ref a6, .int 0, .int 0, .int 0, .int 0, .int 0, .int 0, .int 0, .int 0, .int 0, .int 0, .int (-1), .ref a7, .ref a8, .int 190, .ref a9, .int 0, .ref a10, .ref a11, .ref a12, .ref a13, .ref a14, .int 0, .ref a15, .ref a16, .ref a17])), (a9, .inl (cy 2, 2465, .inr (.inl (rwF (fun _ => 0) (PP 20 2 (20 + 1 - 2))))))]) := by
  refine Ct.of (by decide +kernel) (Nat.le_of_ble_eq_true rfl) ?_
  intro p e s m args below meth c A ls C hr hlocks hml hnm w hl
  have hl : lv_has ls 5 [(0, .ref a0), (1, .int 0), (2, .int 2)] := hl
  refine lv_aload_n C.1 C.2.1 dX12_shortBy_0 rfl (lv_at hl 0 rfl) ?_
  refine lv_iload_n C.1 C.2.1 dX12_shortBy_1 rfl (lv_at hl 1 rfl) ?_
  refine r_callV C w fv_RX12_333 (c_X12_manyOf_2 l D cy a0 a1 a2 a3 a4 a5 a6 a7 a8 a9 a10 a11 a12 a13 a14 a15 a16 a17) (hl.1.trans hml.symm) [0, 2] [1] (wr := [(a1, .inl (cy 1, 1868, .inl (upd (upd (upd (fun _ => 0) 1 2) 2 20) 3 120)))]) ⟨rfl, rfl, rfl, rfl, by decide⟩ 0 rfl rfl rfl rfl rfl ⟨Nat.le_of_ble_eq_true rfl, Nat.le_of_ble_eq_true rfl, Nat.le_of_ble_eq_true rfl⟩ 0 0 ⟨rfl, rfl, Nat.le_of_ble_eq_true rfl, Nat.le_of_ble_eq_true rfl⟩ dX12_shortBy_2 (fun u H locs hp w => ?_)
  have w : Wd D A s.heap [(a1, .inl (cy 1, 1868, .inl (upd (upd (upd (fun _ => 0) 1 2) 2 20) 3 120))), (a0, .inr (12, [.ref a1, .ref a2, .ref a3, .ref a4, .ref a5, .int 0, .ref a6, .int 0, .int 0, .int 0, .int 0, .int 0, .int 0, .int 0, .int 0, .int 0, .int 0, .int (-1), .ref a7, .ref a8, .int 190, .ref a9, .int 0, .ref a10, .ref a11, .ref a12, .ref a13, .ref a14, .int 0, .ref a15, .ref a16, .ref a17])), (a9, .inl (cy 2, 2465, .inr (.inl (rwF (fun _ => 0) (PP 20 2 (20 + 1 - 2))))))] _ _ := w
  refine r_top (g2 := F0 m 5 ls [.int 190]) rfl ?_
  refine lv_istore_n (lv' := [(3, .int 190), (0, .ref a0), (1, .int 0), (2, .int 2)]) C.1 C.2.1 dX12_shortBy_5 rfl hl (by decide) rfl (fun ls hl => ?_)
  refine lv_iload_n C.1 C.2.1 dX12_shortBy_6 rfl (lv_at hl 3 rfl) ?_
  refine b_if_ne_t C (tgt := 21) dX12_shortBy_7 (by decide) (by decide) ?_
  refine lv_iload_n C.1 C.2.1 dX12_shortBy_21 rfl (lv_at hl 0 rfl) ?_
  refine b_if_ne_t C (tgt := 27) dX12_shortBy_22 (by decide) (by decide) ?_
  refine lv_iconst (v := 0) C.1 C.2.1 dX12_shortBy_27 (by decide) ?_
  refine lv_istore (lv' := [(4, .int 0), (3, .int 190), (0, .ref a0), (1, .int 0), (2, .int 2)]) C.1 C.2.1 dX12_shortBy_28 hl (by decide) rfl (fun ls hl => ?_)
  refine lv_iload C.1 C.2.1 dX12_shortBy_30 (lv_at hl 0 rfl) ?_
  refine lv_iconst (v := 2) C.1 C.2.1 dX12_shortBy_32 (by decide) ?_
  refine lv_aload_n C.1 C.2.1 dX12_shortBy_33 rfl (lv_at hl 2 rfl) ?_
  refine r_get C w 1 rfl rfl 0 (by decide) fl_RX12_9 (v := .ref a1) rfl dX12_shortBy_34 ?_
  refine lv_iconst (v := 5) C.1 C.2.1 dX12_shortBy_37 (by decide) ?_
  refine r_iald C w 0 rfl (v := 0) (vinD (by decide)) rfl dX12_shortBy_38 ?_
  refine r_imul C (v := 0) dX12_shortBy_39 (by decide) ?_
  refine b_icmp_ge_t C (tgt := 97) dX12_shortBy_40 (by decide) (by decide) ?_
  refine lv_iconst (v := 0) C.1 C.2.1 dX12_shortBy_97 (by decide) ?_
  exact r_iret C w hlocks () hr rfl rfl trivial [0, 1, 2] rfl rfl ⟨Nat.le_of_ble_eq_true rfl, Nat.le_of_ble_eq_true rfl⟩ dX12_shortBy_98
set_option maxRecDepth 100000 in
set_option maxHeartbeats 4000000 in
theorem c_X12_within_42 (l : Launch) (D : va_G) (cy : Nat → ClassId) : Ct l D cy yX12_within cX12_within 6 (some .boolean) 0 0 0 0 [] [.long 2, .long 1, .long 4] (fun u : Unit => some (.int 1)) (fun _ => True) (fun u : Unit => []) := by
  refine Ct.of (by decide +kernel) (Nat.le_of_ble_eq_true rfl) ?_
  intro p e s m args below meth c A ls C hr hlocks hml hnm w hl
  have hl : lv_has ls 6 [(0, .long 2), (2, .long 1), (4, .long 4)] := hl
  refine lv_lload_n C.1 C.2.1 dX12_within_0 rfl (lv_at hl 0 rfl) ?_
  refine lv_lload_n C.1 C.2.1 dX12_within_1 rfl (lv_at hl 1 rfl) ?_
  refine r_lcmp C (v := 1) dX12_within_2 (by decide) ?_
  refine b_if_lt_f C (tgt := 17) dX12_within_3 (by decide) (by decide) ?_
  refine lv_lload_n C.1 C.2.1 dX12_within_6 rfl (lv_at hl 0 rfl) ?_
  refine lv_lload C.1 C.2.1 dX12_within_7 (lv_at hl 2 rfl) ?_
  refine r_lcmp C (v := (-1)) dX12_within_9 (by decide) ?_
  refine b_if_gt_f C (tgt := 17) dX12_within_10 (by decide) (by decide) ?_
  refine lv_iconst (v := 1) C.1 C.2.1 dX12_within_13 (by decide) ?_
  refine lv_goto (tgt := 18) C.1 C.2.1 dX12_within_14 (by decide) ?_
  exact r_iret C w hlocks () hr rfl rfl trivial [] rfl rfl ⟨Nat.le_of_ble_eq_true rfl, Nat.le_of_ble_eq_true rfl⟩ dX12_within_18
set_option maxRecDepth 100000 in
set_option maxHeartbeats 4000000 in
theorem c_X12_shortest_3 (l : Launch) (D : va_G) (cy : Nat → ClassId) (a0 a1 a2 a3 a4 a5 a6 a7 a8 a9 a10 a11 a12 a13 a14 a15 a16 a17 : Nat) (x1 : Int32) (k0 : ¬ x1 < 0) (k1 : ¬ 1 < x1) : Ct l D cy yX12_shortest cX12_shortest 4 (some .int) 3 69 0 0 [(a0, .inr (12, [.ref a1, .ref a2, .ref a3, .ref a4, .ref a5, .int 0, .ref a6, .int 0, .int 0, .int 0, .int 0, .int 0, .int 0, .int 0, .int 0, .int 0, .int 0, .int (-1), .ref a7, .ref a8, .int 0, .ref a9, .int 0, .ref a10, .ref a11, .ref a12, .ref a13, .ref a14, .int 0, .ref a15, .ref a16, .ref a17])), (a1, .inl (cy 1, 1868, .inl (upd (upd (upd (fun _ => 0) 1 2) 2 20) 3 120))), (a7, .inl (cy 1, 1830, .inl (fun _ => 0))), (a8, .inl (cy 1, 1830, .inl (fun _ => 0))), (a9, .inl (cy 2, 2465, .inr (.inl (fun _ => 0))))] [.ref a0, .int 2, .int x1] (fun u : Unit => some (.int (-1))) (fun _ => True) (fun u : Unit => [(a7, .inl (cy 1, 1830, .inl (lxF (fun _ => 0) 2 20 (PP 20 2 (20 + 1 - 2))))), (a8, .inl (cy 1, 1830, .inl (lyF (fun _ => 0) 2 20 (PP 20 2 (20 + 1 - 2))))), (a1, .inl (cy 1, 1868, .inl (upd (upd (upd (fun _ => 0) 1 2) 2 20) 3 120))), (a0, .inr (12, [.ref a1, .ref a2, .ref a3, .ref a4, .ref a5, .int 0, .ref a6, .int 0, .int 0, .int 0, .int 0, .int 0, .int 0, .int 0, .int 0, .int 0, .int 0, .int (-1), .ref a7, .ref a8, .int 190, .ref a9, .int 0, .ref a10, .ref a11, .ref a12, .ref a13, .ref a14, .int 0, .ref a15, .ref a16, .ref a17])), (a9, .inl (cy 2, 2465, .inr (.inl (rwF (fun _ => 0) (PP 20 2 (20 + 1 - 2))))))]) := by
  refine Ct.of (by decide +kernel) (Nat.le_of_ble_eq_true rfl) ?_
  intro p e s m args below meth c A ls C hr hlocks hml hnm w hl
  have hl : lv_has ls 4 [(0, .ref a0), (1, .int 2), (2, .int x1)] := hl
  refine lv_aload_n C.1 C.2.1 dX12_shortest_0 rfl (lv_at hl 0 rfl) ?_
  refine lv_iload_n C.1 C.2.1 dX12_shortest_1 rfl (lv_at hl 1 rfl) ?_
  refine lv_i2l (v := 2) C.1 C.2.1 dX12_shortest_2 (by decide) ?_
  refine lv_lconst (v := 1) C.1 C.2.1 dX12_shortest_3 (by decide) ?_
  refine lv_ldc2 (v := 4) C.1 C.2.1 C.2.2.1 (C.2.2.2.1 _ kl_RX12_386) dX12_shortest_4 ?_
  refine r_callS C w fs_RX12_133 (c_X12_within_42 l D cy) (hl.1.trans hml.symm) [] [0, 1, 2, 3, 4] (wr := [(a0, .inr (12, [.ref a1, .ref a2, .ref a3, .ref a4, .ref a5, .int 0, .ref a6, .int 0, .int 0, .int 0, .int 0, .int 0, .int 0, .int 0, .int 0, .int 0, .int 0, .int (-1), .ref a7, .ref a8, .int 0, .ref a9, .int 0, .ref a10, .ref a11, .ref a12, .ref a13, .ref a14, .int 0, .ref a15, .ref a16, .ref a17])), (a1, .inl (cy 1, 1868, .inl (upd (upd (upd (fun _ => 0) 1 2) 2 20) 3 120))), (a7, .inl (cy 1, 1830, .inl (fun _ => 0))), (a8, .inl (cy 1, 1830, .inl (fun _ => 0))), (a9, .inl (cy 2, 2465, .inr (.inl (fun _ => 0))))]) ⟨rfl, rfl, rfl, rfl, by decide⟩ rfl rfl ⟨Nat.le_of_ble_eq_true rfl, Nat.le_of_ble_eq_true rfl, Nat.le_of_ble_eq_true rfl⟩ 0 0 ⟨rfl, rfl, Nat.le_of_ble_eq_true rfl, Nat.le_of_ble_eq_true rfl⟩ dX12_shortest_7 (fun u H locs hp w => ?_)
  have w : Wd D A s.heap [(a0, .inr (12, [.ref a1, .ref a2, .ref a3, .ref a4, .ref a5, .int 0, .ref a6, .int 0, .int 0, .int 0, .int 0, .int 0, .int 0, .int 0, .int 0, .int 0, .int 0, .int (-1), .ref a7, .ref a8, .int 0, .ref a9, .int 0, .ref a10, .ref a11, .ref a12, .ref a13, .ref a14, .int 0, .ref a15, .ref a16, .ref a17])), (a1, .inl (cy 1, 1868, .inl (upd (upd (upd (fun _ => 0) 1 2) 2 20) 3 120))), (a7, .inl (cy 1, 1830, .inl (fun _ => 0))), (a8, .inl (cy 1, 1830, .inl (fun _ => 0))), (a9, .inl (cy 2, 2465, .inr (.inl (fun _ => 0))))] _ _ := w
  refine r_top (g2 := F0 m 10 ls [.int 1, .ref a0]) rfl ?_
  refine b_if_eq_f C (tgt := 41) dX12_shortest_10 (by decide) (by decide) ?_
  refine lv_iload_n C.1 C.2.1 dX12_shortest_13 rfl (lv_at hl 2 rfl) ?_
  refine lv_i2l (v := (Int32.toInt64 x1)) C.1 C.2.1 dX12_shortest_14 rfl ?_
  refine lv_lconst (v := 0) C.1 C.2.1 dX12_shortest_15 (by decide) ?_
  refine lv_lconst (v := 1) C.1 C.2.1 dX12_shortest_16 (by decide) ?_
  refine r_callS C w fs_RX12_133 (c_X12_within_17 l D cy x1 k0 k1) (hl.1.trans hml.symm) [] [0, 1, 2, 3, 4] (wr := [(a0, .inr (12, [.ref a1, .ref a2, .ref a3, .ref a4, .ref a5, .int 0, .ref a6, .int 0, .int 0, .int 0, .int 0, .int 0, .int 0, .int 0, .int 0, .int 0, .int 0, .int (-1), .ref a7, .ref a8, .int 0, .ref a9, .int 0, .ref a10, .ref a11, .ref a12, .ref a13, .ref a14, .int 0, .ref a15, .ref a16, .ref a17])), (a1, .inl (cy 1, 1868, .inl (upd (upd (upd (fun _ => 0) 1 2) 2 20) 3 120))), (a7, .inl (cy 1, 1830, .inl (fun _ => 0))), (a8, .inl (cy 1, 1830, .inl (fun _ => 0))), (a9, .inl (cy 2, 2465, .inr (.inl (fun _ => 0))))]) ⟨rfl, rfl, rfl, rfl, by decide⟩ rfl rfl ⟨Nat.le_of_ble_eq_true rfl, Nat.le_of_ble_eq_true rfl, Nat.le_of_ble_eq_true rfl⟩ 0 0 ⟨rfl, rfl, Nat.le_of_ble_eq_true rfl, Nat.le_of_ble_eq_true rfl⟩ dX12_shortest_17 (fun u H locs hp w => ?_)
  have w : Wd D A s.heap [(a0, .inr (12, [.ref a1, .ref a2, .ref a3, .ref a4, .ref a5, .int 0, .ref a6, .int 0, .int 0, .int 0, .int 0, .int 0, .int 0, .int 0, .int 0, .int 0, .int 0, .int (-1), .ref a7, .ref a8, .int 0, .ref a9, .int 0, .ref a10, .ref a11, .ref a12, .ref a13, .ref a14, .int 0, .ref a15, .ref a16, .ref a17])), (a1, .inl (cy 1, 1868, .inl (upd (upd (upd (fun _ => 0) 1 2) 2 20) 3 120))), (a7, .inl (cy 1, 1830, .inl (fun _ => 0))), (a8, .inl (cy 1, 1830, .inl (fun _ => 0))), (a9, .inl (cy 2, 2465, .inr (.inl (fun _ => 0))))] _ _ := w
  refine r_top (g2 := F0 m 20 ls [.int 1, .ref a0]) rfl ?_
  refine b_if_ne_t C (tgt := 37) dX12_shortest_20 (by decide) (by decide) ?_
  refine lv_iconst (v := 0) C.1 C.2.1 dX12_shortest_37 (by decide) ?_
  refine lv_goto (tgt := 42) C.1 C.2.1 dX12_shortest_38 (by decide) ?_
  refine r_put C w 0 rfl rfl 5 (by decide) fl_RX12_71 rfl (ty := .int) (tyX12_ok 5 (by decide)) rfl rfl (Nat.le_of_ble_eq_true rfl) [(a0, .inr (12, [.ref a1, .ref a2, .ref a3, .ref a4, .ref a5, .int 0, .ref a6, .int 0, .int 0, .int 0, .int 0, .int 0, .int 0, .int 0, .int 0, .int 0, .int 0, .int (-1), .ref a7, .ref a8, .int 0, .ref a9, .int 0, .ref a10, .ref a11, .ref a12, .ref a13, .ref a14, .int 0, .ref a15, .ref a16, .ref a17])), (a1, .inl (cy 1, 1868, .inl (upd (upd (upd (fun _ => 0) 1 2) 2 20) 3 120))), (a7, .inl (cy 1, 1830, .inl (fun _ => 0))), (a8, .inl (cy 1, 1830, .inl (fun _ => 0))), (a9, .inl (cy 2, 2465, .inr (.inl (fun _ => 0))))] rfl dX12_shortest_42 (fun H locs w => ?_)
  refine lv_aload_n C.1 C.2.1 dX12_shortest_45 rfl (lv_at hl 0 rfl) ?_
  refine r_get C w 0 rfl rfl 5 (by decide) fl_RX12_71 (v := .int 0) rfl dX12_shortest_46 ?_
  refine b_if_le_t C (tgt := 54) dX12_shortest_49 (by decide) (by decide) ?_
  refine lv_aload_n C.1 C.2.1 dX12_shortest_54 rfl (lv_at hl 0 rfl) ?_
  refine r_callV C w fv_RX12_253 (c_X12_layPairs_0 l D cy a0 a1 a2 a3 a4 a5 a6 a7 a8 a9 a10 a11 a12 a13 a14 a15 a16 a17) (hl.1.trans hml.symm) [0, 1, 2, 3] [4] (wr := [(a9, .inl (cy 2, 2465, .inr (.inl (fun _ => 0))))]) ⟨rfl, rfl, rfl, rfl, by decide⟩ 0 rfl rfl rfl rfl rfl ⟨Nat.le_of_ble_eq_true rfl, Nat.le_of_ble_eq_true rfl, Nat.le_of_ble_eq_true rfl⟩ 0 0 ⟨rfl, rfl, Nat.le_of_ble_eq_true rfl, Nat.le_of_ble_eq_true rfl⟩ dX12_shortest_55 (fun u H locs hp w => ?_)
  have w : Wd D A s.heap [(a9, .inl (cy 2, 2465, .inr (.inl (fun _ => 0)))), (a0, .inr (12, [.ref a1, .ref a2, .ref a3, .ref a4, .ref a5, .int 0, .ref a6, .int 0, .int 0, .int 0, .int 0, .int 0, .int 0, .int 0, .int 0, .int 0, .int 0, .int (-1), .ref a7, .ref a8, .int 190, .ref a9, .int 0, .ref a10, .ref a11, .ref a12, .ref a13, .ref a14, .int 0, .ref a15, .ref a16, .ref a17])), (a1, .inl (cy 1, 1868, .inl (upd (upd (upd (fun _ => 0) 1 2) 2 20) 3 120))), (a7, .inl (cy 1, 1830, .inl (lxF (fun _ => 0) 2 20 (PP 20 2 (20 + 1 - 2))))), (a8, .inl (cy 1, 1830, .inl (lyF (fun _ => 0) 2 20 (PP 20 2 (20 + 1 - 2)))))] _ _ := w
  refine r_top (g2 := F0 m 58 ls []) rfl ?_
  refine lv_aload_n C.1 C.2.1 dX12_shortest_58 rfl (lv_at hl 0 rfl) ?_
  refine lv_iconst (v := 0) C.1 C.2.1 dX12_shortest_59 (by decide) ?_
  refine lv_iconst (v := 1) C.1 C.2.1 dX12_shortest_60 (by decide) ?_
  refine r_callV C w fv_RX12_323 (c_X12_fills_2 l D cy a0 a1 a2 a3 a4 a5 a6 a7 a8 a9 a10 a11 a12 a13 a14 a15 a16 a17) (hl.1.trans hml.symm) [1, 0] [2, 3, 4] (wr := [(a1, .inl (cy 1, 1868, .inl (upd (upd (upd (fun _ => 0) 1 2) 2 20) 3 120))), (a7, .inl (cy 1, 1830, .inl (lxF (fun _ => 0) 2 20 (PP 20 2 (20 + 1 - 2))))), (a8, .inl (cy 1, 1830, .inl (lyF (fun _ => 0) 2 20 (PP 20 2 (20 + 1 - 2)))))]) ⟨rfl, rfl, rfl, rfl, by decide⟩ 0 rfl rfl rfl rfl rfl ⟨Nat.le_of_ble_eq_true rfl, Nat.le_of_ble_eq_true rfl, Nat.le_of_ble_eq_true rfl⟩ 0 0 ⟨rfl, rfl, Nat.le_of_ble_eq_true rfl, Nat.le_of_ble_eq_true rfl⟩ dX12_shortest_61 (fun u H locs hp w => ?_)
  have w : Wd D A s.heap [(a1, .inl (cy 1, 1868, .inl (upd (upd (upd (fun _ => 0) 1 2) 2 20) 3 120))), (a7, .inl (cy 1, 1830, .inl (lxF (fun _ => 0) 2 20 (PP 20 2 (20 + 1 - 2))))), (a8, .inl (cy 1, 1830, .inl (lyF (fun _ => 0) 2 20 (PP 20 2 (20 + 1 - 2))))), (a0, .inr (12, [.ref a1, .ref a2, .ref a3, .ref a4, .ref a5, .int 0, .ref a6, .int 0, .int 0, .int 0, .int 0, .int 0, .int 0, .int 0, .int 0, .int 0, .int 0, .int (-1), .ref a7, .ref a8, .int 190, .ref a9, .int 0, .ref a10, .ref a11, .ref a12, .ref a13, .ref a14, .int 0, .ref a15, .ref a16, .ref a17])), (a9, .inl (cy 2, 2465, .inr (.inl (rwF (fun _ => 0) (PP 20 2 (20 + 1 - 2))))))] _ _ := w
  refine r_top (g2 := F0 m 64 ls []) rfl ?_
  refine lv_iconst (v := 0) C.1 C.2.1 dX12_shortest_64 (by decide) ?_
  refine lv_istore_n (lv' := [(3, .int 0), (0, .ref a0), (1, .int 2), (2, .int x1)]) C.1 C.2.1 dX12_shortest_65 rfl hl (by decide) rfl (fun ls hl => ?_)
  refine lv_iload_n C.1 C.2.1 dX12_shortest_66 rfl (lv_at hl 0 rfl) ?_
  refine lv_iload_n C.1 C.2.1 dX12_shortest_67 rfl (lv_at hl 2 rfl) ?_
  refine b_icmp_gt_f C (tgt := 129) dX12_shortest_68 (by decide) (by decide) ?_
  refine lv_aload_n C.1 C.2.1 dX12_shortest_71 rfl (lv_at hl 1 rfl) ?_
  refine lv_iconst (v := 0) C.1 C.2.1 dX12_shortest_72 (by decide) ?_
  refine lv_iload_n C.1 C.2.1 dX12_shortest_73 rfl (lv_at hl 0 rfl) ?_
  refine r_callV C w fv_RX12_383 (c_X12_shortBy_0 l D cy a0 a1 a2 a3 a4 a5 a6 a7 a8 a9 a10 a11 a12 a13 a14 a15 a16 a17) (hl.1.trans hml.symm) [3, 4] [0, 1, 2] (wr := [(a1, .inl (cy 1, 1868, .inl (upd (upd (upd (fun _ => 0) 1 2) 2 20) 3 120))), (a7, .inl (cy 1, 1830, .inl (lxF (fun _ => 0) 2 20 (PP 20 2 (20 + 1 - 2))))), (a8, .inl (cy 1, 1830, .inl (lyF (fun _ => 0) 2 20 (PP 20 2 (20 + 1 - 2)))))]) ⟨rfl, rfl, rfl, rfl, by decide⟩ 0 rfl rfl rfl rfl rfl ⟨Nat.le_of_ble_eq_true rfl, Nat.le_of_ble_eq_true rfl, Nat.le_of_ble_eq_true rfl⟩ 0 0 ⟨rfl, rfl, Nat.le_of_ble_eq_true rfl, Nat.le_of_ble_eq_true rfl⟩ dX12_shortest_74 (fun u H locs hp w => ?_)
  have w : Wd D A s.heap [(a1, .inl (cy 1, 1868, .inl (upd (upd (upd (fun _ => 0) 1 2) 2 20) 3 120))), (a7, .inl (cy 1, 1830, .inl (lxF (fun _ => 0) 2 20 (PP 20 2 (20 + 1 - 2))))), (a8, .inl (cy 1, 1830, .inl (lyF (fun _ => 0) 2 20 (PP 20 2 (20 + 1 - 2))))), (a0, .inr (12, [.ref a1, .ref a2, .ref a3, .ref a4, .ref a5, .int 0, .ref a6, .int 0, .int 0, .int 0, .int 0, .int 0, .int 0, .int 0, .int 0, .int 0, .int 0, .int (-1), .ref a7, .ref a8, .int 190, .ref a9, .int 0, .ref a10, .ref a11, .ref a12, .ref a13, .ref a14, .int 0, .ref a15, .ref a16, .ref a17])), (a9, .inl (cy 2, 2465, .inr (.inl (rwF (fun _ => 0) (PP 20 2 (20 + 1 - 2))))))] _ _ := w
  refine r_top (g2 := F0 m 77 ls [.int 0]) rfl ?_
  refine b_if_eq_t C (tgt := 123) dX12_shortest_77 (by decide) (by decide) ?_
  refine lv_iinc (v := 1) (lv' := [(3, .int 1), (0, .ref a0), (1, .int 2), (2, .int x1)]) C.1 C.2.1 dX12_shortest_123 hl (k := 0) rfl (by decide) (by decide) rfl (fun ls hl => ?_)
  refine lv_goto (tgt := 66) C.1 C.2.1 dX12_shortest_126 (by decide) ?_
  refine lv_iload_n C.1 C.2.1 dX12_shortest_66 rfl (lv_at hl 0 rfl) ?_
  refine lv_iload_n C.1 C.2.1 dX12_shortest_67 rfl (lv_at hl 2 rfl) ?_
  refine b_icmp_gt_f C (tgt := 129) dX12_shortest_68 (by decide) (by decide) ?_
  refine lv_aload_n C.1 C.2.1 dX12_shortest_71 rfl (lv_at hl 1 rfl) ?_
  refine lv_iconst (v := 0) C.1 C.2.1 dX12_shortest_72 (by decide) ?_
  refine lv_iload_n C.1 C.2.1 dX12_shortest_73 rfl (lv_at hl 0 rfl) ?_
  refine r_callV C w fv_RX12_383 (c_X12_shortBy_1 l D cy a0 a1 a2 a3 a4 a5 a6 a7 a8 a9 a10 a11 a12 a13 a14 a15 a16 a17) (hl.1.trans hml.symm) [3, 0, 4] [1, 2] (wr := [(a7, .inl (cy 1, 1830, .inl (lxF (fun _ => 0) 2 20 (PP 20 2 (20 + 1 - 2))))), (a8, .inl (cy 1, 1830, .inl (lyF (fun _ => 0) 2 20 (PP 20 2 (20 + 1 - 2)))))]) ⟨rfl, rfl, rfl, rfl, by decide⟩ 0 rfl rfl rfl rfl rfl ⟨Nat.le_of_ble_eq_true rfl, Nat.le_of_ble_eq_true rfl, Nat.le_of_ble_eq_true rfl⟩ 0 0 ⟨rfl, rfl, Nat.le_of_ble_eq_true rfl, Nat.le_of_ble_eq_true rfl⟩ dX12_shortest_74 (fun u H locs hp w => ?_)
  have w : Wd D A s.heap [(a7, .inl (cy 1, 1830, .inl (lxF (fun _ => 0) 2 20 (PP 20 2 (20 + 1 - 2))))), (a8, .inl (cy 1, 1830, .inl (lyF (fun _ => 0) 2 20 (PP 20 2 (20 + 1 - 2))))), (a1, .inl (cy 1, 1868, .inl (upd (upd (upd (fun _ => 0) 1 2) 2 20) 3 120))), (a0, .inr (12, [.ref a1, .ref a2, .ref a3, .ref a4, .ref a5, .int 0, .ref a6, .int 0, .int 0, .int 0, .int 0, .int 0, .int 0, .int 0, .int 0, .int 0, .int 0, .int (-1), .ref a7, .ref a8, .int 190, .ref a9, .int 0, .ref a10, .ref a11, .ref a12, .ref a13, .ref a14, .int 0, .ref a15, .ref a16, .ref a17])), (a9, .inl (cy 2, 2465, .inr (.inl (rwF (fun _ => 0) (PP 20 2 (20 + 1 - 2))))))] _ _ := w
  refine r_top (g2 := F0 m 77 ls [.int 0]) rfl ?_
  refine b_if_eq_t C (tgt := 123) dX12_shortest_77 (by decide) (by decide) ?_
  refine lv_iinc (v := 2) (lv' := [(3, .int 2), (0, .ref a0), (1, .int 2), (2, .int x1)]) C.1 C.2.1 dX12_shortest_123 hl (k := 0) rfl (by decide) (by decide) rfl (fun ls hl => ?_)
  refine lv_goto (tgt := 66) C.1 C.2.1 dX12_shortest_126 (by decide) ?_
  refine lv_iload_n C.1 C.2.1 dX12_shortest_66 rfl (lv_at hl 0 rfl) ?_
  refine lv_iload_n C.1 C.2.1 dX12_shortest_67 rfl (lv_at hl 2 rfl) ?_
  refine b_icmp_gt_f C (tgt := 129) dX12_shortest_68 (by decide) (by decide) ?_
  refine lv_aload_n C.1 C.2.1 dX12_shortest_71 rfl (lv_at hl 1 rfl) ?_
  refine lv_iconst (v := 0) C.1 C.2.1 dX12_shortest_72 (by decide) ?_
  refine lv_iload_n C.1 C.2.1 dX12_shortest_73 rfl (lv_at hl 0 rfl) ?_
  refine r_callV C w fv_RX12_383 (c_X12_shortBy_2 l D cy a0 a1 a2 a3 a4 a5 a6 a7 a8 a9 a10 a11 a12 a13 a14 a15 a16 a17) (hl.1.trans hml.symm) [3, 2, 4] [0, 1] (wr := [(a7, .inl (cy 1, 1830, .inl (lxF (fun _ => 0) 2 20 (PP 20 2 (20 + 1 - 2))))), (a8, .inl (cy 1, 1830, .inl (lyF (fun _ => 0) 2 20 (PP 20 2 (20 + 1 - 2)))))]) ⟨rfl, rfl, rfl, rfl, by decide⟩ 0 rfl rfl rfl rfl rfl ⟨Nat.le_of_ble_eq_true rfl, Nat.le_of_ble_eq_true rfl, Nat.le_of_ble_eq_true rfl⟩ 0 0 ⟨rfl, rfl, Nat.le_of_ble_eq_true rfl, Nat.le_of_ble_eq_true rfl⟩ dX12_shortest_74 (fun u H locs hp w => ?_)
  have w : Wd D A s.heap [(a7, .inl (cy 1, 1830, .inl (lxF (fun _ => 0) 2 20 (PP 20 2 (20 + 1 - 2))))), (a8, .inl (cy 1, 1830, .inl (lyF (fun _ => 0) 2 20 (PP 20 2 (20 + 1 - 2))))), (a1, .inl (cy 1, 1868, .inl (upd (upd (upd (fun _ => 0) 1 2) 2 20) 3 120))), (a0, .inr (12, [.ref a1, .ref a2, .ref a3, .ref a4, .ref a5, .int 0, .ref a6, .int 0, .int 0, .int 0, .int 0, .int 0, .int 0, .int 0, .int 0, .int 0, .int 0, .int (-1), .ref a7, .ref a8, .int 190, .ref a9, .int 0, .ref a10, .ref a11, .ref a12, .ref a13, .ref a14, .int 0, .ref a15, .ref a16, .ref a17])), (a9, .inl (cy 2, 2465, .inr (.inl (rwF (fun _ => 0) (PP 20 2 (20 + 1 - 2))))))] _ _ := w
  refine r_top (g2 := F0 m 77 ls [.int 0]) rfl ?_
  refine b_if_eq_t C (tgt := 123) dX12_shortest_77 (by decide) (by decide) ?_
  refine lv_iinc (v := 3) (lv' := [(3, .int 3), (0, .ref a0), (1, .int 2), (2, .int x1)]) C.1 C.2.1 dX12_shortest_123 hl (k := 0) rfl (by decide) (by decide) rfl (fun ls hl => ?_)
  refine lv_goto (tgt := 66) C.1 C.2.1 dX12_shortest_126 (by decide) ?_
  refine lv_iload_n C.1 C.2.1 dX12_shortest_66 rfl (lv_at hl 0 rfl) ?_
  refine lv_iload_n C.1 C.2.1 dX12_shortest_67 rfl (lv_at hl 2 rfl) ?_
  refine b_icmp_gt_t C (tgt := 129) dX12_shortest_68 (by decide) (by decide) ?_
  refine lv_iconst (v := (-1)) C.1 C.2.1 dX12_shortest_129 (by decide) ?_
  exact r_iret C w hlocks () hr rfl rfl trivial [0, 1, 2, 3, 4] rfl rfl ⟨Nat.le_of_ble_eq_true rfl, Nat.le_of_ble_eq_true rfl⟩ dX12_shortest_130
set_option maxRecDepth 100000 in
set_option maxHeartbeats 4000000 in
theorem c_X12_shortBy_3 (l : Launch) (D : va_G) (cy : Nat → ClassId) (a0 a1 a2 a3 a4 a5 a6 a7 a8 a9 a10 a11 a12 a13 a14 a15 a16 a17 : Nat) : Ct l D cy yX12_shortBy cX12_shortBy 5 (some .boolean) 2 45 0 0 [(a0, .inr (12, [.ref a1, .ref a2, .ref a3, .ref a4, .ref a5, .int 0, .ref a6, .int 0, .int 0, .int 0, .int 0, .int 0, .int 0, .int 0, .int 0, .int 0, .int 0, .int (-1), .ref a7, .ref a8, .int 190, .ref a9, .int 0, .ref a10, .ref a11, .ref a12, .ref a13, .ref a14, .int 0, .ref a15, .ref a16, .ref a17])), (a1, .inl (cy 1, 1868, .inl (upd (upd (upd (fun _ => 0) 1 2) 2 20) 3 120))), (a9, .inl (cy 2, 2465, .inr (.inl (rwF (fun _ => 0) (PP 20 2 (20 + 1 - 2))))))] [.ref a0, .int 0, .int 3] (fun u : Unit => some (.int 0)) (fun _ => True) (fun u : Unit => [(a1, .inl (cy 1, 1868, .inl (upd (upd (upd (fun _ => 0) 1 2) 2 20) 3 120))), (a0, .inr (12, [.ref a1, .ref a2, .ref a3, .ref a4, .ref a5, .int 0, .ref a6, .int 0, .int 0, .int 0, .int 0, .int 0, .int 0, .int 0, .int 0, .int 0, .int 0, .int (-1), .ref a7, .ref a8, .int 190, .ref a9, .int 0, .ref a10, .ref a11, .ref a12, .ref a13, .ref a14, .int 0, .ref a15, .ref a16, .ref a17])), (a9, .inl (cy 2, 2465, .inr (.inl (rwF (fun _ => 0) (PP 20 2 (20 + 1 - 2))))))]) := by
  refine Ct.of (by decide +kernel) (Nat.le_of_ble_eq_true rfl) ?_
  intro p e s m args below meth c A ls C hr hlocks hml hnm w hl
  have hl : lv_has ls 5 [(0, .ref a0), (1, .int 0), (2, .int 3)] := hl
  refine lv_aload_n C.1 C.2.1 dX12_shortBy_0 rfl (lv_at hl 0 rfl) ?_
  refine lv_iload_n C.1 C.2.1 dX12_shortBy_1 rfl (lv_at hl 1 rfl) ?_
  refine r_callV C w fv_RX12_333 (c_X12_manyOf_2 l D cy a0 a1 a2 a3 a4 a5 a6 a7 a8 a9 a10 a11 a12 a13 a14 a15 a16 a17) (hl.1.trans hml.symm) [0, 2] [1] (wr := [(a1, .inl (cy 1, 1868, .inl (upd (upd (upd (fun _ => 0) 1 2) 2 20) 3 120)))]) ⟨rfl, rfl, rfl, rfl, by decide⟩ 0 rfl rfl rfl rfl rfl ⟨Nat.le_of_ble_eq_true rfl, Nat.le_of_ble_eq_true rfl, Nat.le_of_ble_eq_true rfl⟩ 0 0 ⟨rfl, rfl, Nat.le_of_ble_eq_true rfl, Nat.le_of_ble_eq_true rfl⟩ dX12_shortBy_2 (fun u H locs hp w => ?_)
  have w : Wd D A s.heap [(a1, .inl (cy 1, 1868, .inl (upd (upd (upd (fun _ => 0) 1 2) 2 20) 3 120))), (a0, .inr (12, [.ref a1, .ref a2, .ref a3, .ref a4, .ref a5, .int 0, .ref a6, .int 0, .int 0, .int 0, .int 0, .int 0, .int 0, .int 0, .int 0, .int 0, .int 0, .int (-1), .ref a7, .ref a8, .int 190, .ref a9, .int 0, .ref a10, .ref a11, .ref a12, .ref a13, .ref a14, .int 0, .ref a15, .ref a16, .ref a17])), (a9, .inl (cy 2, 2465, .inr (.inl (rwF (fun _ => 0) (PP 20 2 (20 + 1 - 2))))))] _ _ := w
  refine r_top (g2 := F0 m 5 ls [.int 190]) rfl ?_
  refine lv_istore_n (lv' := [(3, .int 190), (0, .ref a0), (1, .int 0), (2, .int 3)]) C.1 C.2.1 dX12_shortBy_5 rfl hl (by decide) rfl (fun ls hl => ?_)
  refine lv_iload_n C.1 C.2.1 dX12_shortBy_6 rfl (lv_at hl 3 rfl) ?_
  refine b_if_ne_t C (tgt := 21) dX12_shortBy_7 (by decide) (by decide) ?_
  refine lv_iload_n C.1 C.2.1 dX12_shortBy_21 rfl (lv_at hl 0 rfl) ?_
  refine b_if_ne_t C (tgt := 27) dX12_shortBy_22 (by decide) (by decide) ?_
  refine lv_iconst (v := 0) C.1 C.2.1 dX12_shortBy_27 (by decide) ?_
  refine lv_istore (lv' := [(4, .int 0), (3, .int 190), (0, .ref a0), (1, .int 0), (2, .int 3)]) C.1 C.2.1 dX12_shortBy_28 hl (by decide) rfl (fun ls hl => ?_)
  refine lv_iload C.1 C.2.1 dX12_shortBy_30 (lv_at hl 0 rfl) ?_
  refine lv_iconst (v := 2) C.1 C.2.1 dX12_shortBy_32 (by decide) ?_
  refine lv_aload_n C.1 C.2.1 dX12_shortBy_33 rfl (lv_at hl 2 rfl) ?_
  refine r_get C w 1 rfl rfl 0 (by decide) fl_RX12_9 (v := .ref a1) rfl dX12_shortBy_34 ?_
  refine lv_iconst (v := 5) C.1 C.2.1 dX12_shortBy_37 (by decide) ?_
  refine r_iald C w 0 rfl (v := 0) (vinD (by decide)) rfl dX12_shortBy_38 ?_
  refine r_imul C (v := 0) dX12_shortBy_39 (by decide) ?_
  refine b_icmp_ge_t C (tgt := 97) dX12_shortBy_40 (by decide) (by decide) ?_
  refine lv_iconst (v := 0) C.1 C.2.1 dX12_shortBy_97 (by decide) ?_
  exact r_iret C w hlocks () hr rfl rfl trivial [0, 1, 2] rfl rfl ⟨Nat.le_of_ble_eq_true rfl, Nat.le_of_ble_eq_true rfl⟩ dX12_shortBy_98
set_option maxRecDepth 100000 in
set_option maxHeartbeats 4000000 in
theorem c_X12_within_43 (l : Launch) (D : va_G) (cy : Nat → ClassId) : Ct l D cy yX12_within cX12_within 6 (some .boolean) 0 0 0 0 [] [.long 3, .long 1, .long 4] (fun u : Unit => some (.int 1)) (fun _ => True) (fun u : Unit => []) := by
  refine Ct.of (by decide +kernel) (Nat.le_of_ble_eq_true rfl) ?_
  intro p e s m args below meth c A ls C hr hlocks hml hnm w hl
  have hl : lv_has ls 6 [(0, .long 3), (2, .long 1), (4, .long 4)] := hl
  refine lv_lload_n C.1 C.2.1 dX12_within_0 rfl (lv_at hl 0 rfl) ?_
  refine lv_lload_n C.1 C.2.1 dX12_within_1 rfl (lv_at hl 1 rfl) ?_
  refine r_lcmp C (v := 1) dX12_within_2 (by decide) ?_
  refine b_if_lt_f C (tgt := 17) dX12_within_3 (by decide) (by decide) ?_
  refine lv_lload_n C.1 C.2.1 dX12_within_6 rfl (lv_at hl 0 rfl) ?_
  refine lv_lload C.1 C.2.1 dX12_within_7 (lv_at hl 2 rfl) ?_
  refine r_lcmp C (v := (-1)) dX12_within_9 (by decide) ?_
  refine b_if_gt_f C (tgt := 17) dX12_within_10 (by decide) (by decide) ?_
  refine lv_iconst (v := 1) C.1 C.2.1 dX12_within_13 (by decide) ?_
  refine lv_goto (tgt := 18) C.1 C.2.1 dX12_within_14 (by decide) ?_
  exact r_iret C w hlocks () hr rfl rfl trivial [] rfl rfl ⟨Nat.le_of_ble_eq_true rfl, Nat.le_of_ble_eq_true rfl⟩ dX12_within_18
set_option maxRecDepth 100000 in
set_option maxHeartbeats 4000000 in
theorem c_X12_shortest_4 (l : Launch) (D : va_G) (cy : Nat → ClassId) (a0 a1 a2 a3 a4 a5 a6 a7 a8 a9 a10 a11 a12 a13 a14 a15 a16 a17 : Nat) (x1 : Int32) (k0 : ¬ x1 < 0) (k1 : ¬ 1 < x1) : Ct l D cy yX12_shortest cX12_shortest 4 (some .int) 3 69 0 0 [(a0, .inr (12, [.ref a1, .ref a2, .ref a3, .ref a4, .ref a5, .int 0, .ref a6, .int 0, .int 0, .int 0, .int 0, .int 0, .int 0, .int 0, .int 0, .int 0, .int 0, .int (-1), .ref a7, .ref a8, .int 0, .ref a9, .int 0, .ref a10, .ref a11, .ref a12, .ref a13, .ref a14, .int 0, .ref a15, .ref a16, .ref a17])), (a1, .inl (cy 1, 1868, .inl (upd (upd (upd (fun _ => 0) 1 2) 2 20) 3 120))), (a7, .inl (cy 1, 1830, .inl (fun _ => 0))), (a8, .inl (cy 1, 1830, .inl (fun _ => 0))), (a9, .inl (cy 2, 2465, .inr (.inl (fun _ => 0))))] [.ref a0, .int 3, .int x1] (fun u : Unit => some (.int (-1))) (fun _ => True) (fun u : Unit => [(a7, .inl (cy 1, 1830, .inl (lxF (fun _ => 0) 2 20 (PP 20 2 (20 + 1 - 2))))), (a8, .inl (cy 1, 1830, .inl (lyF (fun _ => 0) 2 20 (PP 20 2 (20 + 1 - 2))))), (a1, .inl (cy 1, 1868, .inl (upd (upd (upd (fun _ => 0) 1 2) 2 20) 3 120))), (a0, .inr (12, [.ref a1, .ref a2, .ref a3, .ref a4, .ref a5, .int 0, .ref a6, .int 0, .int 0, .int 0, .int 0, .int 0, .int 0, .int 0, .int 0, .int 0, .int 0, .int (-1), .ref a7, .ref a8, .int 190, .ref a9, .int 0, .ref a10, .ref a11, .ref a12, .ref a13, .ref a14, .int 0, .ref a15, .ref a16, .ref a17])), (a9, .inl (cy 2, 2465, .inr (.inl (rwF (fun _ => 0) (PP 20 2 (20 + 1 - 2))))))]) := by
  refine Ct.of (by decide +kernel) (Nat.le_of_ble_eq_true rfl) ?_
  intro p e s m args below meth c A ls C hr hlocks hml hnm w hl
  have hl : lv_has ls 4 [(0, .ref a0), (1, .int 3), (2, .int x1)] := hl
  refine lv_aload_n C.1 C.2.1 dX12_shortest_0 rfl (lv_at hl 0 rfl) ?_
  refine lv_iload_n C.1 C.2.1 dX12_shortest_1 rfl (lv_at hl 1 rfl) ?_
  refine lv_i2l (v := 3) C.1 C.2.1 dX12_shortest_2 (by decide) ?_
  refine lv_lconst (v := 1) C.1 C.2.1 dX12_shortest_3 (by decide) ?_
  refine lv_ldc2 (v := 4) C.1 C.2.1 C.2.2.1 (C.2.2.2.1 _ kl_RX12_386) dX12_shortest_4 ?_
  refine r_callS C w fs_RX12_133 (c_X12_within_43 l D cy) (hl.1.trans hml.symm) [] [0, 1, 2, 3, 4] (wr := [(a0, .inr (12, [.ref a1, .ref a2, .ref a3, .ref a4, .ref a5, .int 0, .ref a6, .int 0, .int 0, .int 0, .int 0, .int 0, .int 0, .int 0, .int 0, .int 0, .int 0, .int (-1), .ref a7, .ref a8, .int 0, .ref a9, .int 0, .ref a10, .ref a11, .ref a12, .ref a13, .ref a14, .int 0, .ref a15, .ref a16, .ref a17])), (a1, .inl (cy 1, 1868, .inl (upd (upd (upd (fun _ => 0) 1 2) 2 20) 3 120))), (a7, .inl (cy 1, 1830, .inl (fun _ => 0))), (a8, .inl (cy 1, 1830, .inl (fun _ => 0))), (a9, .inl (cy 2, 2465, .inr (.inl (fun _ => 0))))]) ⟨rfl, rfl, rfl, rfl, by decide⟩ rfl rfl ⟨Nat.le_of_ble_eq_true rfl, Nat.le_of_ble_eq_true rfl, Nat.le_of_ble_eq_true rfl⟩ 0 0 ⟨rfl, rfl, Nat.le_of_ble_eq_true rfl, Nat.le_of_ble_eq_true rfl⟩ dX12_shortest_7 (fun u H locs hp w => ?_)
  have w : Wd D A s.heap [(a0, .inr (12, [.ref a1, .ref a2, .ref a3, .ref a4, .ref a5, .int 0, .ref a6, .int 0, .int 0, .int 0, .int 0, .int 0, .int 0, .int 0, .int 0, .int 0, .int 0, .int (-1), .ref a7, .ref a8, .int 0, .ref a9, .int 0, .ref a10, .ref a11, .ref a12, .ref a13, .ref a14, .int 0, .ref a15, .ref a16, .ref a17])), (a1, .inl (cy 1, 1868, .inl (upd (upd (upd (fun _ => 0) 1 2) 2 20) 3 120))), (a7, .inl (cy 1, 1830, .inl (fun _ => 0))), (a8, .inl (cy 1, 1830, .inl (fun _ => 0))), (a9, .inl (cy 2, 2465, .inr (.inl (fun _ => 0))))] _ _ := w
  refine r_top (g2 := F0 m 10 ls [.int 1, .ref a0]) rfl ?_
  refine b_if_eq_f C (tgt := 41) dX12_shortest_10 (by decide) (by decide) ?_
  refine lv_iload_n C.1 C.2.1 dX12_shortest_13 rfl (lv_at hl 2 rfl) ?_
  refine lv_i2l (v := (Int32.toInt64 x1)) C.1 C.2.1 dX12_shortest_14 rfl ?_
  refine lv_lconst (v := 0) C.1 C.2.1 dX12_shortest_15 (by decide) ?_
  refine lv_lconst (v := 1) C.1 C.2.1 dX12_shortest_16 (by decide) ?_
  refine r_callS C w fs_RX12_133 (c_X12_within_17 l D cy x1 k0 k1) (hl.1.trans hml.symm) [] [0, 1, 2, 3, 4] (wr := [(a0, .inr (12, [.ref a1, .ref a2, .ref a3, .ref a4, .ref a5, .int 0, .ref a6, .int 0, .int 0, .int 0, .int 0, .int 0, .int 0, .int 0, .int 0, .int 0, .int 0, .int (-1), .ref a7, .ref a8, .int 0, .ref a9, .int 0, .ref a10, .ref a11, .ref a12, .ref a13, .ref a14, .int 0, .ref a15, .ref a16, .ref a17])), (a1, .inl (cy 1, 1868, .inl (upd (upd (upd (fun _ => 0) 1 2) 2 20) 3 120))), (a7, .inl (cy 1, 1830, .inl (fun _ => 0))), (a8, .inl (cy 1, 1830, .inl (fun _ => 0))), (a9, .inl (cy 2, 2465, .inr (.inl (fun _ => 0))))]) ⟨rfl, rfl, rfl, rfl, by decide⟩ rfl rfl ⟨Nat.le_of_ble_eq_true rfl, Nat.le_of_ble_eq_true rfl, Nat.le_of_ble_eq_true rfl⟩ 0 0 ⟨rfl, rfl, Nat.le_of_ble_eq_true rfl, Nat.le_of_ble_eq_true rfl⟩ dX12_shortest_17 (fun u H locs hp w => ?_)
  have w : Wd D A s.heap [(a0, .inr (12, [.ref a1, .ref a2, .ref a3, .ref a4, .ref a5, .int 0, .ref a6, .int 0, .int 0, .int 0, .int 0, .int 0, .int 0, .int 0, .int 0, .int 0, .int 0, .int (-1), .ref a7, .ref a8, .int 0, .ref a9, .int 0, .ref a10, .ref a11, .ref a12, .ref a13, .ref a14, .int 0, .ref a15, .ref a16, .ref a17])), (a1, .inl (cy 1, 1868, .inl (upd (upd (upd (fun _ => 0) 1 2) 2 20) 3 120))), (a7, .inl (cy 1, 1830, .inl (fun _ => 0))), (a8, .inl (cy 1, 1830, .inl (fun _ => 0))), (a9, .inl (cy 2, 2465, .inr (.inl (fun _ => 0))))] _ _ := w
  refine r_top (g2 := F0 m 20 ls [.int 1, .ref a0]) rfl ?_
  refine b_if_ne_t C (tgt := 37) dX12_shortest_20 (by decide) (by decide) ?_
  refine lv_iconst (v := 0) C.1 C.2.1 dX12_shortest_37 (by decide) ?_
  refine lv_goto (tgt := 42) C.1 C.2.1 dX12_shortest_38 (by decide) ?_
  refine r_put C w 0 rfl rfl 5 (by decide) fl_RX12_71 rfl (ty := .int) (tyX12_ok 5 (by decide)) rfl rfl (Nat.le_of_ble_eq_true rfl) [(a0, .inr (12, [.ref a1, .ref a2, .ref a3, .ref a4, .ref a5, .int 0, .ref a6, .int 0, .int 0, .int 0, .int 0, .int 0, .int 0, .int 0, .int 0, .int 0, .int 0, .int (-1), .ref a7, .ref a8, .int 0, .ref a9, .int 0, .ref a10, .ref a11, .ref a12, .ref a13, .ref a14, .int 0, .ref a15, .ref a16, .ref a17])), (a1, .inl (cy 1, 1868, .inl (upd (upd (upd (fun _ => 0) 1 2) 2 20) 3 120))), (a7, .inl (cy 1, 1830, .inl (fun _ => 0))), (a8, .inl (cy 1, 1830, .inl (fun _ => 0))), (a9, .inl (cy 2, 2465, .inr (.inl (fun _ => 0))))] rfl dX12_shortest_42 (fun H locs w => ?_)
  refine lv_aload_n C.1 C.2.1 dX12_shortest_45 rfl (lv_at hl 0 rfl) ?_
  refine r_get C w 0 rfl rfl 5 (by decide) fl_RX12_71 (v := .int 0) rfl dX12_shortest_46 ?_
  refine b_if_le_t C (tgt := 54) dX12_shortest_49 (by decide) (by decide) ?_
  refine lv_aload_n C.1 C.2.1 dX12_shortest_54 rfl (lv_at hl 0 rfl) ?_
  refine r_callV C w fv_RX12_253 (c_X12_layPairs_0 l D cy a0 a1 a2 a3 a4 a5 a6 a7 a8 a9 a10 a11 a12 a13 a14 a15 a16 a17) (hl.1.trans hml.symm) [0, 1, 2, 3] [4] (wr := [(a9, .inl (cy 2, 2465, .inr (.inl (fun _ => 0))))]) ⟨rfl, rfl, rfl, rfl, by decide⟩ 0 rfl rfl rfl rfl rfl ⟨Nat.le_of_ble_eq_true rfl, Nat.le_of_ble_eq_true rfl, Nat.le_of_ble_eq_true rfl⟩ 0 0 ⟨rfl, rfl, Nat.le_of_ble_eq_true rfl, Nat.le_of_ble_eq_true rfl⟩ dX12_shortest_55 (fun u H locs hp w => ?_)
  have w : Wd D A s.heap [(a9, .inl (cy 2, 2465, .inr (.inl (fun _ => 0)))), (a0, .inr (12, [.ref a1, .ref a2, .ref a3, .ref a4, .ref a5, .int 0, .ref a6, .int 0, .int 0, .int 0, .int 0, .int 0, .int 0, .int 0, .int 0, .int 0, .int 0, .int (-1), .ref a7, .ref a8, .int 190, .ref a9, .int 0, .ref a10, .ref a11, .ref a12, .ref a13, .ref a14, .int 0, .ref a15, .ref a16, .ref a17])), (a1, .inl (cy 1, 1868, .inl (upd (upd (upd (fun _ => 0) 1 2) 2 20) 3 120))), (a7, .inl (cy 1, 1830, .inl (lxF (fun _ => 0) 2 20 (PP 20 2 (20 + 1 - 2))))), (a8, .inl (cy 1, 1830, .inl (lyF (fun _ => 0) 2 20 (PP 20 2 (20 + 1 - 2)))))] _ _ := w
  refine r_top (g2 := F0 m 58 ls []) rfl ?_
  refine lv_aload_n C.1 C.2.1 dX12_shortest_58 rfl (lv_at hl 0 rfl) ?_
  refine lv_iconst (v := 0) C.1 C.2.1 dX12_shortest_59 (by decide) ?_
  refine lv_iconst (v := 1) C.1 C.2.1 dX12_shortest_60 (by decide) ?_
  refine r_callV C w fv_RX12_323 (c_X12_fills_2 l D cy a0 a1 a2 a3 a4 a5 a6 a7 a8 a9 a10 a11 a12 a13 a14 a15 a16 a17) (hl.1.trans hml.symm) [1, 0] [2, 3, 4] (wr := [(a1, .inl (cy 1, 1868, .inl (upd (upd (upd (fun _ => 0) 1 2) 2 20) 3 120))), (a7, .inl (cy 1, 1830, .inl (lxF (fun _ => 0) 2 20 (PP 20 2 (20 + 1 - 2))))), (a8, .inl (cy 1, 1830, .inl (lyF (fun _ => 0) 2 20 (PP 20 2 (20 + 1 - 2)))))]) ⟨rfl, rfl, rfl, rfl, by decide⟩ 0 rfl rfl rfl rfl rfl ⟨Nat.le_of_ble_eq_true rfl, Nat.le_of_ble_eq_true rfl, Nat.le_of_ble_eq_true rfl⟩ 0 0 ⟨rfl, rfl, Nat.le_of_ble_eq_true rfl, Nat.le_of_ble_eq_true rfl⟩ dX12_shortest_61 (fun u H locs hp w => ?_)
  have w : Wd D A s.heap [(a1, .inl (cy 1, 1868, .inl (upd (upd (upd (fun _ => 0) 1 2) 2 20) 3 120))), (a7, .inl (cy 1, 1830, .inl (lxF (fun _ => 0) 2 20 (PP 20 2 (20 + 1 - 2))))), (a8, .inl (cy 1, 1830, .inl (lyF (fun _ => 0) 2 20 (PP 20 2 (20 + 1 - 2))))), (a0, .inr (12, [.ref a1, .ref a2, .ref a3, .ref a4, .ref a5, .int 0, .ref a6, .int 0, .int 0, .int 0, .int 0, .int 0, .int 0, .int 0, .int 0, .int 0, .int 0, .int (-1), .ref a7, .ref a8, .int 190, .ref a9, .int 0, .ref a10, .ref a11, .ref a12, .ref a13, .ref a14, .int 0, .ref a15, .ref a16, .ref a17])), (a9, .inl (cy 2, 2465, .inr (.inl (rwF (fun _ => 0) (PP 20 2 (20 + 1 - 2))))))] _ _ := w
  refine r_top (g2 := F0 m 64 ls []) rfl ?_
  refine lv_iconst (v := 0) C.1 C.2.1 dX12_shortest_64 (by decide) ?_
  refine lv_istore_n (lv' := [(3, .int 0), (0, .ref a0), (1, .int 3), (2, .int x1)]) C.1 C.2.1 dX12_shortest_65 rfl hl (by decide) rfl (fun ls hl => ?_)
  refine lv_iload_n C.1 C.2.1 dX12_shortest_66 rfl (lv_at hl 0 rfl) ?_
  refine lv_iload_n C.1 C.2.1 dX12_shortest_67 rfl (lv_at hl 2 rfl) ?_
  refine b_icmp_gt_f C (tgt := 129) dX12_shortest_68 (by decide) (by decide) ?_
  refine lv_aload_n C.1 C.2.1 dX12_shortest_71 rfl (lv_at hl 1 rfl) ?_
  refine lv_iconst (v := 0) C.1 C.2.1 dX12_shortest_72 (by decide) ?_
  refine lv_iload_n C.1 C.2.1 dX12_shortest_73 rfl (lv_at hl 0 rfl) ?_
  refine r_callV C w fv_RX12_383 (c_X12_shortBy_0 l D cy a0 a1 a2 a3 a4 a5 a6 a7 a8 a9 a10 a11 a12 a13 a14 a15 a16 a17) (hl.1.trans hml.symm) [3, 4] [0, 1, 2] (wr := [(a1, .inl (cy 1, 1868, .inl (upd (upd (upd (fun _ => 0) 1 2) 2 20) 3 120))), (a7, .inl (cy 1, 1830, .inl (lxF (fun _ => 0) 2 20 (PP 20 2 (20 + 1 - 2))))), (a8, .inl (cy 1, 1830, .inl (lyF (fun _ => 0) 2 20 (PP 20 2 (20 + 1 - 2)))))]) ⟨rfl, rfl, rfl, rfl, by decide⟩ 0 rfl rfl rfl rfl rfl ⟨Nat.le_of_ble_eq_true rfl, Nat.le_of_ble_eq_true rfl, Nat.le_of_ble_eq_true rfl⟩ 0 0 ⟨rfl, rfl, Nat.le_of_ble_eq_true rfl, Nat.le_of_ble_eq_true rfl⟩ dX12_shortest_74 (fun u H locs hp w => ?_)
  have w : Wd D A s.heap [(a1, .inl (cy 1, 1868, .inl (upd (upd (upd (fun _ => 0) 1 2) 2 20) 3 120))), (a7, .inl (cy 1, 1830, .inl (lxF (fun _ => 0) 2 20 (PP 20 2 (20 + 1 - 2))))), (a8, .inl (cy 1, 1830, .inl (lyF (fun _ => 0) 2 20 (PP 20 2 (20 + 1 - 2))))), (a0, .inr (12, [.ref a1, .ref a2, .ref a3, .ref a4, .ref a5, .int 0, .ref a6, .int 0, .int 0, .int 0, .int 0, .int 0, .int 0, .int 0, .int 0, .int 0, .int 0, .int (-1), .ref a7, .ref a8, .int 190, .ref a9, .int 0, .ref a10, .ref a11, .ref a12, .ref a13, .ref a14, .int 0, .ref a15, .ref a16, .ref a17])), (a9, .inl (cy 2, 2465, .inr (.inl (rwF (fun _ => 0) (PP 20 2 (20 + 1 - 2))))))] _ _ := w
  refine r_top (g2 := F0 m 77 ls [.int 0]) rfl ?_
  refine b_if_eq_t C (tgt := 123) dX12_shortest_77 (by decide) (by decide) ?_
  refine lv_iinc (v := 1) (lv' := [(3, .int 1), (0, .ref a0), (1, .int 3), (2, .int x1)]) C.1 C.2.1 dX12_shortest_123 hl (k := 0) rfl (by decide) (by decide) rfl (fun ls hl => ?_)
  refine lv_goto (tgt := 66) C.1 C.2.1 dX12_shortest_126 (by decide) ?_
  refine lv_iload_n C.1 C.2.1 dX12_shortest_66 rfl (lv_at hl 0 rfl) ?_
  refine lv_iload_n C.1 C.2.1 dX12_shortest_67 rfl (lv_at hl 2 rfl) ?_
  refine b_icmp_gt_f C (tgt := 129) dX12_shortest_68 (by decide) (by decide) ?_
  refine lv_aload_n C.1 C.2.1 dX12_shortest_71 rfl (lv_at hl 1 rfl) ?_
  refine lv_iconst (v := 0) C.1 C.2.1 dX12_shortest_72 (by decide) ?_
  refine lv_iload_n C.1 C.2.1 dX12_shortest_73 rfl (lv_at hl 0 rfl) ?_
  refine r_callV C w fv_RX12_383 (c_X12_shortBy_1 l D cy a0 a1 a2 a3 a4 a5 a6 a7 a8 a9 a10 a11 a12 a13 a14 a15 a16 a17) (hl.1.trans hml.symm) [3, 0, 4] [1, 2] (wr := [(a7, .inl (cy 1, 1830, .inl (lxF (fun _ => 0) 2 20 (PP 20 2 (20 + 1 - 2))))), (a8, .inl (cy 1, 1830, .inl (lyF (fun _ => 0) 2 20 (PP 20 2 (20 + 1 - 2)))))]) ⟨rfl, rfl, rfl, rfl, by decide⟩ 0 rfl rfl rfl rfl rfl ⟨Nat.le_of_ble_eq_true rfl, Nat.le_of_ble_eq_true rfl, Nat.le_of_ble_eq_true rfl⟩ 0 0 ⟨rfl, rfl, Nat.le_of_ble_eq_true rfl, Nat.le_of_ble_eq_true rfl⟩ dX12_shortest_74 (fun u H locs hp w => ?_)
  have w : Wd D A s.heap [(a7, .inl (cy 1, 1830, .inl (lxF (fun _ => 0) 2 20 (PP 20 2 (20 + 1 - 2))))), (a8, .inl (cy 1, 1830, .inl (lyF (fun _ => 0) 2 20 (PP 20 2 (20 + 1 - 2))))), (a1, .inl (cy 1, 1868, .inl (upd (upd (upd (fun _ => 0) 1 2) 2 20) 3 120))), (a0, .inr (12, [.ref a1, .ref a2, .ref a3, .ref a4, .ref a5, .int 0, .ref a6, .int 0, .int 0, .int 0, .int 0, .int 0, .int 0, .int 0, .int 0, .int 0, .int 0, .int (-1), .ref a7, .ref a8, .int 190, .ref a9, .int 0, .ref a10, .ref a11, .ref a12, .ref a13, .ref a14, .int 0, .ref a15, .ref a16, .ref a17])), (a9, .inl (cy 2, 2465, .inr (.inl (rwF (fun _ => 0) (PP 20 2 (20 + 1 - 2))))))] _ _ := w
  refine r_top (g2 := F0 m 77 ls [.int 0]) rfl ?_
  refine b_if_eq_t C (tgt := 123) dX12_shortest_77 (by decide) (by decide) ?_
  refine lv_iinc (v := 2) (lv' := [(3, .int 2), (0, .ref a0), (1, .int 3), (2, .int x1)]) C.1 C.2.1 dX12_shortest_123 hl (k := 0) rfl (by decide) (by decide) rfl (fun ls hl => ?_)
  refine lv_goto (tgt := 66) C.1 C.2.1 dX12_shortest_126 (by decide) ?_
  refine lv_iload_n C.1 C.2.1 dX12_shortest_66 rfl (lv_at hl 0 rfl) ?_
  refine lv_iload_n C.1 C.2.1 dX12_shortest_67 rfl (lv_at hl 2 rfl) ?_
  refine b_icmp_gt_f C (tgt := 129) dX12_shortest_68 (by decide) (by decide) ?_
  refine lv_aload_n C.1 C.2.1 dX12_shortest_71 rfl (lv_at hl 1 rfl) ?_
  refine lv_iconst (v := 0) C.1 C.2.1 dX12_shortest_72 (by decide) ?_
  refine lv_iload_n C.1 C.2.1 dX12_shortest_73 rfl (lv_at hl 0 rfl) ?_
  refine r_callV C w fv_RX12_383 (c_X12_shortBy_2 l D cy a0 a1 a2 a3 a4 a5 a6 a7 a8 a9 a10 a11 a12 a13 a14 a15 a16 a17) (hl.1.trans hml.symm) [3, 2, 4] [0, 1] (wr := [(a7, .inl (cy 1, 1830, .inl (lxF (fun _ => 0) 2 20 (PP 20 2 (20 + 1 - 2))))), (a8, .inl (cy 1, 1830, .inl (lyF (fun _ => 0) 2 20 (PP 20 2 (20 + 1 - 2)))))]) ⟨rfl, rfl, rfl, rfl, by decide⟩ 0 rfl rfl rfl rfl rfl ⟨Nat.le_of_ble_eq_true rfl, Nat.le_of_ble_eq_true rfl, Nat.le_of_ble_eq_true rfl⟩ 0 0 ⟨rfl, rfl, Nat.le_of_ble_eq_true rfl, Nat.le_of_ble_eq_true rfl⟩ dX12_shortest_74 (fun u H locs hp w => ?_)
  have w : Wd D A s.heap [(a7, .inl (cy 1, 1830, .inl (lxF (fun _ => 0) 2 20 (PP 20 2 (20 + 1 - 2))))), (a8, .inl (cy 1, 1830, .inl (lyF (fun _ => 0) 2 20 (PP 20 2 (20 + 1 - 2))))), (a1, .inl (cy 1, 1868, .inl (upd (upd (upd (fun _ => 0) 1 2) 2 20) 3 120))), (a0, .inr (12, [.ref a1, .ref a2, .ref a3, .ref a4, .ref a5, .int 0, .ref a6, .int 0, .int 0, .int 0, .int 0, .int 0, .int 0, .int 0, .int 0, .int 0, .int 0, .int (-1), .ref a7, .ref a8, .int 190, .ref a9, .int 0, .ref a10, .ref a11, .ref a12, .ref a13, .ref a14, .int 0, .ref a15, .ref a16, .ref a17])), (a9, .inl (cy 2, 2465, .inr (.inl (rwF (fun _ => 0) (PP 20 2 (20 + 1 - 2))))))] _ _ := w
  refine r_top (g2 := F0 m 77 ls [.int 0]) rfl ?_
  refine b_if_eq_t C (tgt := 123) dX12_shortest_77 (by decide) (by decide) ?_
  refine lv_iinc (v := 3) (lv' := [(3, .int 3), (0, .ref a0), (1, .int 3), (2, .int x1)]) C.1 C.2.1 dX12_shortest_123 hl (k := 0) rfl (by decide) (by decide) rfl (fun ls hl => ?_)
  refine lv_goto (tgt := 66) C.1 C.2.1 dX12_shortest_126 (by decide) ?_
  refine lv_iload_n C.1 C.2.1 dX12_shortest_66 rfl (lv_at hl 0 rfl) ?_
  refine lv_iload_n C.1 C.2.1 dX12_shortest_67 rfl (lv_at hl 2 rfl) ?_
  refine b_icmp_gt_f C (tgt := 129) dX12_shortest_68 (by decide) (by decide) ?_
  refine lv_aload_n C.1 C.2.1 dX12_shortest_71 rfl (lv_at hl 1 rfl) ?_
  refine lv_iconst (v := 0) C.1 C.2.1 dX12_shortest_72 (by decide) ?_
  refine lv_iload_n C.1 C.2.1 dX12_shortest_73 rfl (lv_at hl 0 rfl) ?_
  refine r_callV C w fv_RX12_383 (c_X12_shortBy_3 l D cy a0 a1 a2 a3 a4 a5 a6 a7 a8 a9 a10 a11 a12 a13 a14 a15 a16 a17) (hl.1.trans hml.symm) [3, 2, 4] [0, 1] (wr := [(a7, .inl (cy 1, 1830, .inl (lxF (fun _ => 0) 2 20 (PP 20 2 (20 + 1 - 2))))), (a8, .inl (cy 1, 1830, .inl (lyF (fun _ => 0) 2 20 (PP 20 2 (20 + 1 - 2)))))]) ⟨rfl, rfl, rfl, rfl, by decide⟩ 0 rfl rfl rfl rfl rfl ⟨Nat.le_of_ble_eq_true rfl, Nat.le_of_ble_eq_true rfl, Nat.le_of_ble_eq_true rfl⟩ 0 0 ⟨rfl, rfl, Nat.le_of_ble_eq_true rfl, Nat.le_of_ble_eq_true rfl⟩ dX12_shortest_74 (fun u H locs hp w => ?_)
  have w : Wd D A s.heap [(a7, .inl (cy 1, 1830, .inl (lxF (fun _ => 0) 2 20 (PP 20 2 (20 + 1 - 2))))), (a8, .inl (cy 1, 1830, .inl (lyF (fun _ => 0) 2 20 (PP 20 2 (20 + 1 - 2))))), (a1, .inl (cy 1, 1868, .inl (upd (upd (upd (fun _ => 0) 1 2) 2 20) 3 120))), (a0, .inr (12, [.ref a1, .ref a2, .ref a3, .ref a4, .ref a5, .int 0, .ref a6, .int 0, .int 0, .int 0, .int 0, .int 0, .int 0, .int 0, .int 0, .int 0, .int 0, .int (-1), .ref a7, .ref a8, .int 190, .ref a9, .int 0, .ref a10, .ref a11, .ref a12, .ref a13, .ref a14, .int 0, .ref a15, .ref a16, .ref a17])), (a9, .inl (cy 2, 2465, .inr (.inl (rwF (fun _ => 0) (PP 20 2 (20 + 1 - 2))))))] _ _ := w
  refine r_top (g2 := F0 m 77 ls [.int 0]) rfl ?_
  refine b_if_eq_t C (tgt := 123) dX12_shortest_77 (by decide) (by decide) ?_
  refine lv_iinc (v := 4) (lv' := [(3, .int 4), (0, .ref a0), (1, .int 3), (2, .int x1)]) C.1 C.2.1 dX12_shortest_123 hl (k := 0) rfl (by decide) (by decide) rfl (fun ls hl => ?_)
  refine lv_goto (tgt := 66) C.1 C.2.1 dX12_shortest_126 (by decide) ?_
  refine lv_iload_n C.1 C.2.1 dX12_shortest_66 rfl (lv_at hl 0 rfl) ?_
  refine lv_iload_n C.1 C.2.1 dX12_shortest_67 rfl (lv_at hl 2 rfl) ?_
  refine b_icmp_gt_t C (tgt := 129) dX12_shortest_68 (by decide) (by decide) ?_
  refine lv_iconst (v := (-1)) C.1 C.2.1 dX12_shortest_129 (by decide) ?_
  exact r_iret C w hlocks () hr rfl rfl trivial [0, 1, 2, 3, 4] rfl rfl ⟨Nat.le_of_ble_eq_true rfl, Nat.le_of_ble_eq_true rfl⟩ dX12_shortest_130
set_option maxRecDepth 100000 in
set_option maxHeartbeats 4000000 in
theorem c_X12_within_44 (l : Launch) (D : va_G) (cy : Nat → ClassId) : Ct l D cy yX12_within cX12_within 6 (some .boolean) 0 0 0 0 [] [.long 4, .long 1, .long 4] (fun u : Unit => some (.int 1)) (fun _ => True) (fun u : Unit => []) := by
  refine Ct.of (by decide +kernel) (Nat.le_of_ble_eq_true rfl) ?_
  intro p e s m args below meth c A ls C hr hlocks hml hnm w hl
  have hl : lv_has ls 6 [(0, .long 4), (2, .long 1), (4, .long 4)] := hl
  refine lv_lload_n C.1 C.2.1 dX12_within_0 rfl (lv_at hl 0 rfl) ?_
  refine lv_lload_n C.1 C.2.1 dX12_within_1 rfl (lv_at hl 1 rfl) ?_
  refine r_lcmp C (v := 1) dX12_within_2 (by decide) ?_
  refine b_if_lt_f C (tgt := 17) dX12_within_3 (by decide) (by decide) ?_
  refine lv_lload_n C.1 C.2.1 dX12_within_6 rfl (lv_at hl 0 rfl) ?_
  refine lv_lload C.1 C.2.1 dX12_within_7 (lv_at hl 2 rfl) ?_
  refine r_lcmp C (v := 0) dX12_within_9 (by decide) ?_
  refine b_if_gt_f C (tgt := 17) dX12_within_10 (by decide) (by decide) ?_
  refine lv_iconst (v := 1) C.1 C.2.1 dX12_within_13 (by decide) ?_
  refine lv_goto (tgt := 18) C.1 C.2.1 dX12_within_14 (by decide) ?_
  exact r_iret C w hlocks () hr rfl rfl trivial [] rfl rfl ⟨Nat.le_of_ble_eq_true rfl, Nat.le_of_ble_eq_true rfl⟩ dX12_within_18
set_option maxRecDepth 100000 in
set_option maxHeartbeats 4000000 in
theorem c_X12_shortBy_4 (l : Launch) (D : va_G) (cy : Nat → ClassId) (a0 a1 a2 a3 a4 a5 a6 a7 a8 a9 a10 a11 a12 a13 a14 a15 a16 a17 : Nat) : Ct l D cy yX12_shortBy cX12_shortBy 5 (some .boolean) 2 45 0 0 [(a0, .inr (12, [.ref a1, .ref a2, .ref a3, .ref a4, .ref a5, .int 0, .ref a6, .int 0, .int 0, .int 0, .int 0, .int 0, .int 0, .int 0, .int 0, .int 0, .int 0, .int (-1), .ref a7, .ref a8, .int 190, .ref a9, .int 0, .ref a10, .ref a11, .ref a12, .ref a13, .ref a14, .int 0, .ref a15, .ref a16, .ref a17])), (a1, .inl (cy 1, 1868, .inl (upd (upd (upd (fun _ => 0) 1 2) 2 20) 3 120))), (a9, .inl (cy 2, 2465, .inr (.inl (rwF (fun _ => 0) (PP 20 2 (20 + 1 - 2))))))] [.ref a0, .int 0, .int 4] (fun u : Unit => some (.int 0)) (fun _ => True) (fun u : Unit => [(a1, .inl (cy 1, 1868, .inl (upd (upd (upd (fun _ => 0) 1 2) 2 20) 3 120))), (a0, .inr (12, [.ref a1, .ref a2, .ref a3, .ref a4, .ref a5, .int 0, .ref a6, .int 0, .int 0, .int 0, .int 0, .int 0, .int 0, .int 0, .int 0, .int 0, .int 0, .int (-1), .ref a7, .ref a8, .int 190, .ref a9, .int 0, .ref a10, .ref a11, .ref a12, .ref a13, .ref a14, .int 0, .ref a15, .ref a16, .ref a17])), (a9, .inl (cy 2, 2465, .inr (.inl (rwF (fun _ => 0) (PP 20 2 (20 + 1 - 2))))))]) := by
  refine Ct.of (by decide +kernel) (Nat.le_of_ble_eq_true rfl) ?_
  intro p e s m args below meth c A ls C hr hlocks hml hnm w hl
  have hl : lv_has ls 5 [(0, .ref a0), (1, .int 0), (2, .int 4)] := hl
  refine lv_aload_n C.1 C.2.1 dX12_shortBy_0 rfl (lv_at hl 0 rfl) ?_
  refine lv_iload_n C.1 C.2.1 dX12_shortBy_1 rfl (lv_at hl 1 rfl) ?_
  refine r_callV C w fv_RX12_333 (c_X12_manyOf_2 l D cy a0 a1 a2 a3 a4 a5 a6 a7 a8 a9 a10 a11 a12 a13 a14 a15 a16 a17) (hl.1.trans hml.symm) [0, 2] [1] (wr := [(a1, .inl (cy 1, 1868, .inl (upd (upd (upd (fun _ => 0) 1 2) 2 20) 3 120)))]) ⟨rfl, rfl, rfl, rfl, by decide⟩ 0 rfl rfl rfl rfl rfl ⟨Nat.le_of_ble_eq_true rfl, Nat.le_of_ble_eq_true rfl, Nat.le_of_ble_eq_true rfl⟩ 0 0 ⟨rfl, rfl, Nat.le_of_ble_eq_true rfl, Nat.le_of_ble_eq_true rfl⟩ dX12_shortBy_2 (fun u H locs hp w => ?_)
  have w : Wd D A s.heap [(a1, .inl (cy 1, 1868, .inl (upd (upd (upd (fun _ => 0) 1 2) 2 20) 3 120))), (a0, .inr (12, [.ref a1, .ref a2, .ref a3, .ref a4, .ref a5, .int 0, .ref a6, .int 0, .int 0, .int 0, .int 0, .int 0, .int 0, .int 0, .int 0, .int 0, .int 0, .int (-1), .ref a7, .ref a8, .int 190, .ref a9, .int 0, .ref a10, .ref a11, .ref a12, .ref a13, .ref a14, .int 0, .ref a15, .ref a16, .ref a17])), (a9, .inl (cy 2, 2465, .inr (.inl (rwF (fun _ => 0) (PP 20 2 (20 + 1 - 2))))))] _ _ := w
  refine r_top (g2 := F0 m 5 ls [.int 190]) rfl ?_
  refine lv_istore_n (lv' := [(3, .int 190), (0, .ref a0), (1, .int 0), (2, .int 4)]) C.1 C.2.1 dX12_shortBy_5 rfl hl (by decide) rfl (fun ls hl => ?_)
  refine lv_iload_n C.1 C.2.1 dX12_shortBy_6 rfl (lv_at hl 3 rfl) ?_
  refine b_if_ne_t C (tgt := 21) dX12_shortBy_7 (by decide) (by decide) ?_
  refine lv_iload_n C.1 C.2.1 dX12_shortBy_21 rfl (lv_at hl 0 rfl) ?_
  refine b_if_ne_t C (tgt := 27) dX12_shortBy_22 (by decide) (by decide) ?_
  refine lv_iconst (v := 0) C.1 C.2.1 dX12_shortBy_27 (by decide) ?_
  refine lv_istore (lv' := [(4, .int 0), (3, .int 190), (0, .ref a0), (1, .int 0), (2, .int 4)]) C.1 C.2.1 dX12_shortBy_28 hl (by decide) rfl (fun ls hl => ?_)
  refine lv_iload C.1 C.2.1 dX12_shortBy_30 (lv_at hl 0 rfl) ?_
  refine lv_iconst (v := 2) C.1 C.2.1 dX12_shortBy_32 (by decide) ?_
  refine lv_aload_n C.1 C.2.1 dX12_shortBy_33 rfl (lv_at hl 2 rfl) ?_
  refine r_get C w 1 rfl rfl 0 (by decide) fl_RX12_9 (v := .ref a1) rfl dX12_shortBy_34 ?_
  refine lv_iconst (v := 5) C.1 C.2.1 dX12_shortBy_37 (by decide) ?_
  refine r_iald C w 0 rfl (v := 0) (vinD (by decide)) rfl dX12_shortBy_38 ?_
  refine r_imul C (v := 0) dX12_shortBy_39 (by decide) ?_
  refine b_icmp_ge_t C (tgt := 97) dX12_shortBy_40 (by decide) (by decide) ?_
  refine lv_iconst (v := 0) C.1 C.2.1 dX12_shortBy_97 (by decide) ?_
  exact r_iret C w hlocks () hr rfl rfl trivial [0, 1, 2] rfl rfl ⟨Nat.le_of_ble_eq_true rfl, Nat.le_of_ble_eq_true rfl⟩ dX12_shortBy_98
set_option maxRecDepth 100000 in
set_option maxHeartbeats 4000000 in
theorem c_X12_shortest_5 (l : Launch) (D : va_G) (cy : Nat → ClassId) (a0 a1 a2 a3 a4 a5 a6 a7 a8 a9 a10 a11 a12 a13 a14 a15 a16 a17 : Nat) (x1 : Int32) (k0 : ¬ x1 < 0) (k1 : ¬ 1 < x1) : Ct l D cy yX12_shortest cX12_shortest 4 (some .int) 3 69 0 0 [(a0, .inr (12, [.ref a1, .ref a2, .ref a3, .ref a4, .ref a5, .int 0, .ref a6, .int 0, .int 0, .int 0, .int 0, .int 0, .int 0, .int 0, .int 0, .int 0, .int 0, .int (-1), .ref a7, .ref a8, .int 0, .ref a9, .int 0, .ref a10, .ref a11, .ref a12, .ref a13, .ref a14, .int 0, .ref a15, .ref a16, .ref a17])), (a1, .inl (cy 1, 1868, .inl (upd (upd (upd (fun _ => 0) 1 2) 2 20) 3 120))), (a7, .inl (cy 1, 1830, .inl (fun _ => 0))), (a8, .inl (cy 1, 1830, .inl (fun _ => 0))), (a9, .inl (cy 2, 2465, .inr (.inl (fun _ => 0))))] [.ref a0, .int 4, .int x1] (fun u : Unit => some (.int (-1))) (fun _ => True) (fun u : Unit => [(a7, .inl (cy 1, 1830, .inl (lxF (fun _ => 0) 2 20 (PP 20 2 (20 + 1 - 2))))), (a8, .inl (cy 1, 1830, .inl (lyF (fun _ => 0) 2 20 (PP 20 2 (20 + 1 - 2))))), (a1, .inl (cy 1, 1868, .inl (upd (upd (upd (fun _ => 0) 1 2) 2 20) 3 120))), (a0, .inr (12, [.ref a1, .ref a2, .ref a3, .ref a4, .ref a5, .int 0, .ref a6, .int 0, .int 0, .int 0, .int 0, .int 0, .int 0, .int 0, .int 0, .int 0, .int 0, .int (-1), .ref a7, .ref a8, .int 190, .ref a9, .int 0, .ref a10, .ref a11, .ref a12, .ref a13, .ref a14, .int 0, .ref a15, .ref a16, .ref a17])), (a9, .inl (cy 2, 2465, .inr (.inl (rwF (fun _ => 0) (PP 20 2 (20 + 1 - 2))))))]) := by
  refine Ct.of (by decide +kernel) (Nat.le_of_ble_eq_true rfl) ?_
  intro p e s m args below meth c A ls C hr hlocks hml hnm w hl
  have hl : lv_has ls 4 [(0, .ref a0), (1, .int 4), (2, .int x1)] := hl
  refine lv_aload_n C.1 C.2.1 dX12_shortest_0 rfl (lv_at hl 0 rfl) ?_
  refine lv_iload_n C.1 C.2.1 dX12_shortest_1 rfl (lv_at hl 1 rfl) ?_
  refine lv_i2l (v := 4) C.1 C.2.1 dX12_shortest_2 (by decide) ?_
  refine lv_lconst (v := 1) C.1 C.2.1 dX12_shortest_3 (by decide) ?_
  refine lv_ldc2 (v := 4) C.1 C.2.1 C.2.2.1 (C.2.2.2.1 _ kl_RX12_386) dX12_shortest_4 ?_
  refine r_callS C w fs_RX12_133 (c_X12_within_44 l D cy) (hl.1.trans hml.symm) [] [0, 1, 2, 3, 4] (wr := [(a0, .inr (12, [.ref a1, .ref a2, .ref a3, .ref a4, .ref a5, .int 0, .ref a6, .int 0, .int 0, .int 0, .int 0, .int 0, .int 0, .int 0, .int 0, .int 0, .int 0, .int (-1), .ref a7, .ref a8, .int 0, .ref a9, .int 0, .ref a10, .ref a11, .ref a12, .ref a13, .ref a14, .int 0, .ref a15, .ref a16, .ref a17])), (a1, .inl (cy 1, 1868, .inl (upd (upd (upd (fun _ => 0) 1 2) 2 20) 3 120))), (a7, .inl (cy 1, 1830, .inl (fun _ => 0))), (a8, .inl (cy 1, 1830, .inl (fun _ => 0))), (a9, .inl (cy 2, 2465, .inr (.inl (fun _ => 0))))]) ⟨rfl, rfl, rfl, rfl, by decide⟩ rfl rfl ⟨Nat.le_of_ble_eq_true rfl, Nat.le_of_ble_eq_true rfl, Nat.le_of_ble_eq_true rfl⟩ 0 0 ⟨rfl, rfl, Nat.le_of_ble_eq_true rfl, Nat.le_of_ble_eq_true rfl⟩ dX12_shortest_7 (fun u H locs hp w => ?_)
  have w : Wd D A s.heap [(a0, .inr (12, [.ref a1, .ref a2, .ref a3, .ref a4, .ref a5, .int 0, .ref a6, .int 0, .int 0, .int 0, .int 0, .int 0, .int 0, .int 0, .int 0, .int 0, .int 0, .int (-1), .ref a7, .ref a8, .int 0, .ref a9, .int 0, .ref a10, .ref a11, .ref a12, .ref a13, .ref a14, .int 0, .ref a15, .ref a16, .ref a17])), (a1, .inl (cy 1, 1868, .inl (upd (upd (upd (fun _ => 0) 1 2) 2 20) 3 120))), (a7, .inl (cy 1, 1830, .inl (fun _ => 0))), (a8, .inl (cy 1, 1830, .inl (fun _ => 0))), (a9, .inl (cy 2, 2465, .inr (.inl (fun _ => 0))))] _ _ := w
  refine r_top (g2 := F0 m 10 ls [.int 1, .ref a0]) rfl ?_
  refine b_if_eq_f C (tgt := 41) dX12_shortest_10 (by decide) (by decide) ?_
  refine lv_iload_n C.1 C.2.1 dX12_shortest_13 rfl (lv_at hl 2 rfl) ?_
  refine lv_i2l (v := (Int32.toInt64 x1)) C.1 C.2.1 dX12_shortest_14 rfl ?_
  refine lv_lconst (v := 0) C.1 C.2.1 dX12_shortest_15 (by decide) ?_
  refine lv_lconst (v := 1) C.1 C.2.1 dX12_shortest_16 (by decide) ?_
  refine r_callS C w fs_RX12_133 (c_X12_within_17 l D cy x1 k0 k1) (hl.1.trans hml.symm) [] [0, 1, 2, 3, 4] (wr := [(a0, .inr (12, [.ref a1, .ref a2, .ref a3, .ref a4, .ref a5, .int 0, .ref a6, .int 0, .int 0, .int 0, .int 0, .int 0, .int 0, .int 0, .int 0, .int 0, .int 0, .int (-1), .ref a7, .ref a8, .int 0, .ref a9, .int 0, .ref a10, .ref a11, .ref a12, .ref a13, .ref a14, .int 0, .ref a15, .ref a16, .ref a17])), (a1, .inl (cy 1, 1868, .inl (upd (upd (upd (fun _ => 0) 1 2) 2 20) 3 120))), (a7, .inl (cy 1, 1830, .inl (fun _ => 0))), (a8, .inl (cy 1, 1830, .inl (fun _ => 0))), (a9, .inl (cy 2, 2465, .inr (.inl (fun _ => 0))))]) ⟨rfl, rfl, rfl, rfl, by decide⟩ rfl rfl ⟨Nat.le_of_ble_eq_true rfl, Nat.le_of_ble_eq_true rfl, Nat.le_of_ble_eq_true rfl⟩ 0 0 ⟨rfl, rfl, Nat.le_of_ble_eq_true rfl, Nat.le_of_ble_eq_true rfl⟩ dX12_shortest_17 (fun u H locs hp w => ?_)
  have w : Wd D A s.heap [(a0, .inr (12, [.ref a1, .ref a2, .ref a3, .ref a4, .ref a5, .int 0, .ref a6, .int 0, .int 0, .int 0, .int 0, .int 0, .int 0, .int 0, .int 0, .int 0, .int 0, .int (-1), .ref a7, .ref a8, .int 0, .ref a9, .int 0, .ref a10, .ref a11, .ref a12, .ref a13, .ref a14, .int 0, .ref a15, .ref a16, .ref a17])), (a1, .inl (cy 1, 1868, .inl (upd (upd (upd (fun _ => 0) 1 2) 2 20) 3 120))), (a7, .inl (cy 1, 1830, .inl (fun _ => 0))), (a8, .inl (cy 1, 1830, .inl (fun _ => 0))), (a9, .inl (cy 2, 2465, .inr (.inl (fun _ => 0))))] _ _ := w
  refine r_top (g2 := F0 m 20 ls [.int 1, .ref a0]) rfl ?_
  refine b_if_ne_t C (tgt := 37) dX12_shortest_20 (by decide) (by decide) ?_
  refine lv_iconst (v := 0) C.1 C.2.1 dX12_shortest_37 (by decide) ?_
  refine lv_goto (tgt := 42) C.1 C.2.1 dX12_shortest_38 (by decide) ?_
  refine r_put C w 0 rfl rfl 5 (by decide) fl_RX12_71 rfl (ty := .int) (tyX12_ok 5 (by decide)) rfl rfl (Nat.le_of_ble_eq_true rfl) [(a0, .inr (12, [.ref a1, .ref a2, .ref a3, .ref a4, .ref a5, .int 0, .ref a6, .int 0, .int 0, .int 0, .int 0, .int 0, .int 0, .int 0, .int 0, .int 0, .int 0, .int (-1), .ref a7, .ref a8, .int 0, .ref a9, .int 0, .ref a10, .ref a11, .ref a12, .ref a13, .ref a14, .int 0, .ref a15, .ref a16, .ref a17])), (a1, .inl (cy 1, 1868, .inl (upd (upd (upd (fun _ => 0) 1 2) 2 20) 3 120))), (a7, .inl (cy 1, 1830, .inl (fun _ => 0))), (a8, .inl (cy 1, 1830, .inl (fun _ => 0))), (a9, .inl (cy 2, 2465, .inr (.inl (fun _ => 0))))] rfl dX12_shortest_42 (fun H locs w => ?_)
  refine lv_aload_n C.1 C.2.1 dX12_shortest_45 rfl (lv_at hl 0 rfl) ?_
  refine r_get C w 0 rfl rfl 5 (by decide) fl_RX12_71 (v := .int 0) rfl dX12_shortest_46 ?_
  refine b_if_le_t C (tgt := 54) dX12_shortest_49 (by decide) (by decide) ?_
  refine lv_aload_n C.1 C.2.1 dX12_shortest_54 rfl (lv_at hl 0 rfl) ?_
  refine r_callV C w fv_RX12_253 (c_X12_layPairs_0 l D cy a0 a1 a2 a3 a4 a5 a6 a7 a8 a9 a10 a11 a12 a13 a14 a15 a16 a17) (hl.1.trans hml.symm) [0, 1, 2, 3] [4] (wr := [(a9, .inl (cy 2, 2465, .inr (.inl (fun _ => 0))))]) ⟨rfl, rfl, rfl, rfl, by decide⟩ 0 rfl rfl rfl rfl rfl ⟨Nat.le_of_ble_eq_true rfl, Nat.le_of_ble_eq_true rfl, Nat.le_of_ble_eq_true rfl⟩ 0 0 ⟨rfl, rfl, Nat.le_of_ble_eq_true rfl, Nat.le_of_ble_eq_true rfl⟩ dX12_shortest_55 (fun u H locs hp w => ?_)
  have w : Wd D A s.heap [(a9, .inl (cy 2, 2465, .inr (.inl (fun _ => 0)))), (a0, .inr (12, [.ref a1, .ref a2, .ref a3, .ref a4, .ref a5, .int 0, .ref a6, .int 0, .int 0, .int 0, .int 0, .int 0, .int 0, .int 0, .int 0, .int 0, .int 0, .int (-1), .ref a7, .ref a8, .int 190, .ref a9, .int 0, .ref a10, .ref a11, .ref a12, .ref a13, .ref a14, .int 0, .ref a15, .ref a16, .ref a17])), (a1, .inl (cy 1, 1868, .inl (upd (upd (upd (fun _ => 0) 1 2) 2 20) 3 120))), (a7, .inl (cy 1, 1830, .inl (lxF (fun _ => 0) 2 20 (PP 20 2 (20 + 1 - 2))))), (a8, .inl (cy 1, 1830, .inl (lyF (fun _ => 0) 2 20 (PP 20 2 (20 + 1 - 2)))))] _ _ := w
  refine r_top (g2 := F0 m 58 ls []) rfl ?_
  refine lv_aload_n C.1 C.2.1 dX12_shortest_58 rfl (lv_at hl 0 rfl) ?_
  refine lv_iconst (v := 0) C.1 C.2.1 dX12_shortest_59 (by decide) ?_
  refine lv_iconst (v := 1) C.1 C.2.1 dX12_shortest_60 (by decide) ?_
  refine r_callV C w fv_RX12_323 (c_X12_fills_2 l D cy a0 a1 a2 a3 a4 a5 a6 a7 a8 a9 a10 a11 a12 a13 a14 a15 a16 a17) (hl.1.trans hml.symm) [1, 0] [2, 3, 4] (wr := [(a1, .inl (cy 1, 1868, .inl (upd (upd (upd (fun _ => 0) 1 2) 2 20) 3 120))), (a7, .inl (cy 1, 1830, .inl (lxF (fun _ => 0) 2 20 (PP 20 2 (20 + 1 - 2))))), (a8, .inl (cy 1, 1830, .inl (lyF (fun _ => 0) 2 20 (PP 20 2 (20 + 1 - 2)))))]) ⟨rfl, rfl, rfl, rfl, by decide⟩ 0 rfl rfl rfl rfl rfl ⟨Nat.le_of_ble_eq_true rfl, Nat.le_of_ble_eq_true rfl, Nat.le_of_ble_eq_true rfl⟩ 0 0 ⟨rfl, rfl, Nat.le_of_ble_eq_true rfl, Nat.le_of_ble_eq_true rfl⟩ dX12_shortest_61 (fun u H locs hp w => ?_)
  have w : Wd D A s.heap [(a1, .inl (cy 1, 1868, .inl (upd (upd (upd (fun _ => 0) 1 2) 2 20) 3 120))), (a7, .inl (cy 1, 1830, .inl (lxF (fun _ => 0) 2 20 (PP 20 2 (20 + 1 - 2))))), (a8, .inl (cy 1, 1830, .inl (lyF (fun _ => 0) 2 20 (PP 20 2 (20 + 1 - 2))))), (a0, .inr (12, [.ref a1, .ref a2, .ref a3, .ref a4, .ref a5, .int 0, .ref a6, .int 0, .int 0, .int 0, .int 0, .int 0, .int 0, .int 0, .int 0, .int 0, .int 0, .int (-1), .ref a7, .ref a8, .int 190, .ref a9, .int 0, .ref a10, .ref a11, .ref a12, .ref a13, .ref a14, .int 0, .ref a15, .ref a16, .ref a17])), (a9, .inl (cy 2, 2465, .inr (.inl (rwF (fun _ => 0) (PP 20 2 (20 + 1 - 2))))))] _ _ := w
  refine r_top (g2 := F0 m 64 ls []) rfl ?_
  refine lv_iconst (v := 0) C.1 C.2.1 dX12_shortest_64 (by decide) ?_
  refine lv_istore_n (lv' := [(3, .int 0), (0, .ref a0), (1, .int 4), (2, .int x1)]) C.1 C.2.1 dX12_shortest_65 rfl hl (by decide) rfl (fun ls hl => ?_)
  refine lv_iload_n C.1 C.2.1 dX12_shortest_66 rfl (lv_at hl 0 rfl) ?_
  refine lv_iload_n C.1 C.2.1 dX12_shortest_67 rfl (lv_at hl 2 rfl) ?_
  refine b_icmp_gt_f C (tgt := 129) dX12_shortest_68 (by decide) (by decide) ?_
  refine lv_aload_n C.1 C.2.1 dX12_shortest_71 rfl (lv_at hl 1 rfl) ?_
  refine lv_iconst (v := 0) C.1 C.2.1 dX12_shortest_72 (by decide) ?_
  refine lv_iload_n C.1 C.2.1 dX12_shortest_73 rfl (lv_at hl 0 rfl) ?_
  refine r_callV C w fv_RX12_383 (c_X12_shortBy_0 l D cy a0 a1 a2 a3 a4 a5 a6 a7 a8 a9 a10 a11 a12 a13 a14 a15 a16 a17) (hl.1.trans hml.symm) [3, 4] [0, 1, 2] (wr := [(a1, .inl (cy 1, 1868, .inl (upd (upd (upd (fun _ => 0) 1 2) 2 20) 3 120))), (a7, .inl (cy 1, 1830, .inl (lxF (fun _ => 0) 2 20 (PP 20 2 (20 + 1 - 2))))), (a8, .inl (cy 1, 1830, .inl (lyF (fun _ => 0) 2 20 (PP 20 2 (20 + 1 - 2)))))]) ⟨rfl, rfl, rfl, rfl, by decide⟩ 0 rfl rfl rfl rfl rfl ⟨Nat.le_of_ble_eq_true rfl, Nat.le_of_ble_eq_true rfl, Nat.le_of_ble_eq_true rfl⟩ 0 0 ⟨rfl, rfl, Nat.le_of_ble_eq_true rfl, Nat.le_of_ble_eq_true rfl⟩ dX12_shortest_74 (fun u H locs hp w => ?_)
  have w : Wd D A s.heap [(a1, .inl (cy 1, 1868, .inl (upd (upd (upd (fun _ => 0) 1 2) 2 20) 3 120))), (a7, .inl (cy 1, 1830, .inl (lxF (fun _ => 0) 2 20 (PP 20 2 (20 + 1 - 2))))), (a8, .inl (cy 1, 1830, .inl (lyF (fun _ => 0) 2 20 (PP 20 2 (20 + 1 - 2))))), (a0, .inr (12, [.ref a1, .ref a2, .ref a3, .ref a4, .ref a5, .int 0, .ref a6, .int 0, .int 0, .int 0, .int 0, .int 0, .int 0, .int 0, .int 0, .int 0, .int 0, .int (-1), .ref a7, .ref a8, .int 190, .ref a9, .int 0, .ref a10, .ref a11, .ref a12, .ref a13, .ref a14, .int 0, .ref a15, .ref a16, .ref a17])), (a9, .inl (cy 2, 2465, .inr (.inl (rwF (fun _ => 0) (PP 20 2 (20 + 1 - 2))))))] _ _ := w
  refine r_top (g2 := F0 m 77 ls [.int 0]) rfl ?_
  refine b_if_eq_t C (tgt := 123) dX12_shortest_77 (by decide) (by decide) ?_
  refine lv_iinc (v := 1) (lv' := [(3, .int 1), (0, .ref a0), (1, .int 4), (2, .int x1)]) C.1 C.2.1 dX12_shortest_123 hl (k := 0) rfl (by decide) (by decide) rfl (fun ls hl => ?_)
  refine lv_goto (tgt := 66) C.1 C.2.1 dX12_shortest_126 (by decide) ?_
  refine lv_iload_n C.1 C.2.1 dX12_shortest_66 rfl (lv_at hl 0 rfl) ?_
  refine lv_iload_n C.1 C.2.1 dX12_shortest_67 rfl (lv_at hl 2 rfl) ?_
  refine b_icmp_gt_f C (tgt := 129) dX12_shortest_68 (by decide) (by decide) ?_
  refine lv_aload_n C.1 C.2.1 dX12_shortest_71 rfl (lv_at hl 1 rfl) ?_
  refine lv_iconst (v := 0) C.1 C.2.1 dX12_shortest_72 (by decide) ?_
  refine lv_iload_n C.1 C.2.1 dX12_shortest_73 rfl (lv_at hl 0 rfl) ?_
  refine r_callV C w fv_RX12_383 (c_X12_shortBy_1 l D cy a0 a1 a2 a3 a4 a5 a6 a7 a8 a9 a10 a11 a12 a13 a14 a15 a16 a17) (hl.1.trans hml.symm) [3, 0, 4] [1, 2] (wr := [(a7, .inl (cy 1, 1830, .inl (lxF (fun _ => 0) 2 20 (PP 20 2 (20 + 1 - 2))))), (a8, .inl (cy 1, 1830, .inl (lyF (fun _ => 0) 2 20 (PP 20 2 (20 + 1 - 2)))))]) ⟨rfl, rfl, rfl, rfl, by decide⟩ 0 rfl rfl rfl rfl rfl ⟨Nat.le_of_ble_eq_true rfl, Nat.le_of_ble_eq_true rfl, Nat.le_of_ble_eq_true rfl⟩ 0 0 ⟨rfl, rfl, Nat.le_of_ble_eq_true rfl, Nat.le_of_ble_eq_true rfl⟩ dX12_shortest_74 (fun u H locs hp w => ?_)
  have w : Wd D A s.heap [(a7, .inl (cy 1, 1830, .inl (lxF (fun _ => 0) 2 20 (PP 20 2 (20 + 1 - 2))))), (a8, .inl (cy 1, 1830, .inl (lyF (fun _ => 0) 2 20 (PP 20 2 (20 + 1 - 2))))), (a1, .inl (cy 1, 1868, .inl (upd (upd (upd (fun _ => 0) 1 2) 2 20) 3 120))), (a0, .inr (12, [.ref a1, .ref a2, .ref a3, .ref a4, .ref a5, .int 0, .ref a6, .int 0, .int 0, .int 0, .int 0, .int 0, .int 0, .int 0, .int 0, .int 0, .int 0, .int (-1), .ref a7, .ref a8, .int 190, .ref a9, .int 0, .ref a10, .ref a11, .ref a12, .ref a13, .ref a14, .int 0, .ref a15, .ref a16, .ref a17])), (a9, .inl (cy 2, 2465, .inr (.inl (rwF (fun _ => 0) (PP 20 2 (20 + 1 - 2))))))] _ _ := w
  refine r_top (g2 := F0 m 77 ls [.int 0]) rfl ?_
  refine b_if_eq_t C (tgt := 123) dX12_shortest_77 (by decide) (by decide) ?_
  refine lv_iinc (v := 2) (lv' := [(3, .int 2), (0, .ref a0), (1, .int 4), (2, .int x1)]) C.1 C.2.1 dX12_shortest_123 hl (k := 0) rfl (by decide) (by decide) rfl (fun ls hl => ?_)
  refine lv_goto (tgt := 66) C.1 C.2.1 dX12_shortest_126 (by decide) ?_
  refine lv_iload_n C.1 C.2.1 dX12_shortest_66 rfl (lv_at hl 0 rfl) ?_
  refine lv_iload_n C.1 C.2.1 dX12_shortest_67 rfl (lv_at hl 2 rfl) ?_
  refine b_icmp_gt_f C (tgt := 129) dX12_shortest_68 (by decide) (by decide) ?_
  refine lv_aload_n C.1 C.2.1 dX12_shortest_71 rfl (lv_at hl 1 rfl) ?_
  refine lv_iconst (v := 0) C.1 C.2.1 dX12_shortest_72 (by decide) ?_
  refine lv_iload_n C.1 C.2.1 dX12_shortest_73 rfl (lv_at hl 0 rfl) ?_
  refine r_callV C w fv_RX12_383 (c_X12_shortBy_2 l D cy a0 a1 a2 a3 a4 a5 a6 a7 a8 a9 a10 a11 a12 a13 a14 a15 a16 a17) (hl.1.trans hml.symm) [3, 2, 4] [0, 1] (wr := [(a7, .inl (cy 1, 1830, .inl (lxF (fun _ => 0) 2 20 (PP 20 2 (20 + 1 - 2))))), (a8, .inl (cy 1, 1830, .inl (lyF (fun _ => 0) 2 20 (PP 20 2 (20 + 1 - 2)))))]) ⟨rfl, rfl, rfl, rfl, by decide⟩ 0 rfl rfl rfl rfl rfl ⟨Nat.le_of_ble_eq_true rfl, Nat.le_of_ble_eq_true rfl, Nat.le_of_ble_eq_true rfl⟩ 0 0 ⟨rfl, rfl, Nat.le_of_ble_eq_true rfl, Nat.le_of_ble_eq_true rfl⟩ dX12_shortest_74 (fun u H locs hp w => ?_)
  have w : Wd D A s.heap [(a7, .inl (cy 1, 1830, .inl (lxF (fun _ => 0) 2 20 (PP 20 2 (20 + 1 - 2))))), (a8, .inl (cy 1, 1830, .inl (lyF (fun _ => 0) 2 20 (PP 20 2 (20 + 1 - 2))))), (a1, .inl (cy 1, 1868, .inl (upd (upd (upd (fun _ => 0) 1 2) 2 20) 3 120))), (a0, .inr (12, [.ref a1, .ref a2, .ref a3, .ref a4, .ref a5, .int 0, .ref a6, .int 0, .int 0, .int 0, .int 0, .int 0, .int 0, .int 0, .int 0, .int 0, .int 0, .int (-1), .ref a7, .ref a8, .int 190, .ref a9, .int 0, .ref a10, .ref a11, .ref a12, .ref a13, .ref a14, .int 0, .ref a15, .ref a16, .ref a17])), (a9, .inl (cy 2, 2465, .inr (.inl (rwF (fun _ => 0) (PP 20 2 (20 + 1 - 2))))))] _ _ := w
  refine r_top (g2 := F0 m 77 ls [.int 0]) rfl ?_
  refine b_if_eq_t C (tgt := 123) dX12_shortest_77 (by decide) (by decide) ?_
  refine lv_iinc (v := 3) (lv' := [(3, .int 3), (0, .ref a0), (1, .int 4), (2, .int x1)]) C.1 C.2.1 dX12_shortest_123 hl (k := 0) rfl (by decide) (by decide) rfl (fun ls hl => ?_)
  refine lv_goto (tgt := 66) C.1 C.2.1 dX12_shortest_126 (by decide) ?_
  refine lv_iload_n C.1 C.2.1 dX12_shortest_66 rfl (lv_at hl 0 rfl) ?_
  refine lv_iload_n C.1 C.2.1 dX12_shortest_67 rfl (lv_at hl 2 rfl) ?_
  refine b_icmp_gt_f C (tgt := 129) dX12_shortest_68 (by decide) (by decide) ?_
  refine lv_aload_n C.1 C.2.1 dX12_shortest_71 rfl (lv_at hl 1 rfl) ?_
  refine lv_iconst (v := 0) C.1 C.2.1 dX12_shortest_72 (by decide) ?_
  refine lv_iload_n C.1 C.2.1 dX12_shortest_73 rfl (lv_at hl 0 rfl) ?_
  refine r_callV C w fv_RX12_383 (c_X12_shortBy_3 l D cy a0 a1 a2 a3 a4 a5 a6 a7 a8 a9 a10 a11 a12 a13 a14 a15 a16 a17) (hl.1.trans hml.symm) [3, 2, 4] [0, 1] (wr := [(a7, .inl (cy 1, 1830, .inl (lxF (fun _ => 0) 2 20 (PP 20 2 (20 + 1 - 2))))), (a8, .inl (cy 1, 1830, .inl (lyF (fun _ => 0) 2 20 (PP 20 2 (20 + 1 - 2)))))]) ⟨rfl, rfl, rfl, rfl, by decide⟩ 0 rfl rfl rfl rfl rfl ⟨Nat.le_of_ble_eq_true rfl, Nat.le_of_ble_eq_true rfl, Nat.le_of_ble_eq_true rfl⟩ 0 0 ⟨rfl, rfl, Nat.le_of_ble_eq_true rfl, Nat.le_of_ble_eq_true rfl⟩ dX12_shortest_74 (fun u H locs hp w => ?_)
  have w : Wd D A s.heap [(a7, .inl (cy 1, 1830, .inl (lxF (fun _ => 0) 2 20 (PP 20 2 (20 + 1 - 2))))), (a8, .inl (cy 1, 1830, .inl (lyF (fun _ => 0) 2 20 (PP 20 2 (20 + 1 - 2))))), (a1, .inl (cy 1, 1868, .inl (upd (upd (upd (fun _ => 0) 1 2) 2 20) 3 120))), (a0, .inr (12, [.ref a1, .ref a2, .ref a3, .ref a4, .ref a5, .int 0, .ref a6, .int 0, .int 0, .int 0, .int 0, .int 0, .int 0, .int 0, .int 0, .int 0, .int 0, .int (-1), .ref a7, .ref a8, .int 190, .ref a9, .int 0, .ref a10, .ref a11, .ref a12, .ref a13, .ref a14, .int 0, .ref a15, .ref a16, .ref a17])), (a9, .inl (cy 2, 2465, .inr (.inl (rwF (fun _ => 0) (PP 20 2 (20 + 1 - 2))))))] _ _ := w
  refine r_top (g2 := F0 m 77 ls [.int 0]) rfl ?_
  refine b_if_eq_t C (tgt := 123) dX12_shortest_77 (by decide) (by decide) ?_
  refine lv_iinc (v := 4) (lv' := [(3, .int 4), (0, .ref a0), (1, .int 4), (2, .int x1)]) C.1 C.2.1 dX12_shortest_123 hl (k := 0) rfl (by decide) (by decide) rfl (fun ls hl => ?_)
  refine lv_goto (tgt := 66) C.1 C.2.1 dX12_shortest_126 (by decide) ?_
  refine lv_iload_n C.1 C.2.1 dX12_shortest_66 rfl (lv_at hl 0 rfl) ?_
  refine lv_iload_n C.1 C.2.1 dX12_shortest_67 rfl (lv_at hl 2 rfl) ?_
  refine b_icmp_gt_f C (tgt := 129) dX12_shortest_68 (by decide) (by decide) ?_
  refine lv_aload_n C.1 C.2.1 dX12_shortest_71 rfl (lv_at hl 1 rfl) ?_
  refine lv_iconst (v := 0) C.1 C.2.1 dX12_shortest_72 (by decide) ?_
  refine lv_iload_n C.1 C.2.1 dX12_shortest_73 rfl (lv_at hl 0 rfl) ?_
  refine r_callV C w fv_RX12_383 (c_X12_shortBy_4 l D cy a0 a1 a2 a3 a4 a5 a6 a7 a8 a9 a10 a11 a12 a13 a14 a15 a16 a17) (hl.1.trans hml.symm) [3, 2, 4] [0, 1] (wr := [(a7, .inl (cy 1, 1830, .inl (lxF (fun _ => 0) 2 20 (PP 20 2 (20 + 1 - 2))))), (a8, .inl (cy 1, 1830, .inl (lyF (fun _ => 0) 2 20 (PP 20 2 (20 + 1 - 2)))))]) ⟨rfl, rfl, rfl, rfl, by decide⟩ 0 rfl rfl rfl rfl rfl ⟨Nat.le_of_ble_eq_true rfl, Nat.le_of_ble_eq_true rfl, Nat.le_of_ble_eq_true rfl⟩ 0 0 ⟨rfl, rfl, Nat.le_of_ble_eq_true rfl, Nat.le_of_ble_eq_true rfl⟩ dX12_shortest_74 (fun u H locs hp w => ?_)
  have w : Wd D A s.heap [(a7, .inl (cy 1, 1830, .inl (lxF (fun _ => 0) 2 20 (PP 20 2 (20 + 1 - 2))))), (a8, .inl (cy 1, 1830, .inl (lyF (fun _ => 0) 2 20 (PP 20 2 (20 + 1 - 2))))), (a1, .inl (cy 1, 1868, .inl (upd (upd (upd (fun _ => 0) 1 2) 2 20) 3 120))), (a0, .inr (12, [.ref a1, .ref a2, .ref a3, .ref a4, .ref a5, .int 0, .ref a6, .int 0, .int 0, .int 0, .int 0, .int 0, .int 0, .int 0, .int 0, .int 0, .int 0, .int (-1), .ref a7, .ref a8, .int 190, .ref a9, .int 0, .ref a10, .ref a11, .ref a12, .ref a13, .ref a14, .int 0, .ref a15, .ref a16, .ref a17])), (a9, .inl (cy 2, 2465, .inr (.inl (rwF (fun _ => 0) (PP 20 2 (20 + 1 - 2))))))] _ _ := w
  refine r_top (g2 := F0 m 77 ls [.int 0]) rfl ?_
  refine b_if_eq_t C (tgt := 123) dX12_shortest_77 (by decide) (by decide) ?_
  refine lv_iinc (v := 5) (lv' := [(3, .int 5), (0, .ref a0), (1, .int 4), (2, .int x1)]) C.1 C.2.1 dX12_shortest_123 hl (k := 0) rfl (by decide) (by decide) rfl (fun ls hl => ?_)
  refine lv_goto (tgt := 66) C.1 C.2.1 dX12_shortest_126 (by decide) ?_
  refine lv_iload_n C.1 C.2.1 dX12_shortest_66 rfl (lv_at hl 0 rfl) ?_
  refine lv_iload_n C.1 C.2.1 dX12_shortest_67 rfl (lv_at hl 2 rfl) ?_
  refine b_icmp_gt_t C (tgt := 129) dX12_shortest_68 (by decide) (by decide) ?_
  refine lv_iconst (v := (-1)) C.1 C.2.1 dX12_shortest_129 (by decide) ?_
  exact r_iret C w hlocks () hr rfl rfl trivial [0, 1, 2, 3, 4] rfl rfl ⟨Nat.le_of_ble_eq_true rfl, Nat.le_of_ble_eq_true rfl⟩ dX12_shortest_130
set_option maxRecDepth 100000 in
set_option maxHeartbeats 4000000 in
theorem c_X12_shortest_6 (l : Launch) (D : va_G) (cy : Nat → ClassId) (a0 a1 a2 a3 a4 a5 a6 a7 a8 a9 a10 a11 a12 a13 a14 a15 a16 a17 : Nat) (x0 : Int32) (x1 : Int32) (k0 : ¬ x0 < 1) (k1 : ¬ 4 < x0) (k2 : ¬ x1 < 0) (k3 : 1 < x1) (k4 : x1 < 10) : Ct l D cy yX12_shortest cX12_shortest 4 (some .int) 1 25 0 0 [(a0, .inr (12, [.ref a1, .ref a2, .ref a3, .ref a4, .ref a5, .int 0, .ref a6, .int 0, .int 0, .int 0, .int 0, .int 0, .int 0, .int 0, .int 0, .int 0, .int 0, .int (-1), .ref a7, .ref a8, .int 0, .ref a9, .int 0, .ref a10, .ref a11, .ref a12, .ref a13, .ref a14, .int 0, .ref a15, .ref a16, .ref a17]))] [.ref a0, .int x0, .int x1] (fun u : Unit => some (.int 0)) (fun _ => True) (fun u : Unit => [(a0, .inr (12, [.ref a1, .ref a2, .ref a3, .ref a4, .ref a5, .int 1, .ref a6, .int 0, .int 0, .int 0, .int 0, .int 0, .int 0, .int 0, .int 0, .int 0, .int 0, .int (-1), .ref a7, .ref a8, .int 0, .ref a9, .int 0, .ref a10, .ref a11, .ref a12, .ref a13, .ref a14, .int 0, .ref a15, .ref a16, .ref a17]))]) := by
  refine Ct.of (by decide +kernel) (Nat.le_of_ble_eq_true rfl) ?_
  intro p e s m args below meth c A ls C hr hlocks hml hnm w hl
  have hl : lv_has ls 4 [(0, .ref a0), (1, .int x0), (2, .int x1)] := hl
  refine lv_aload_n C.1 C.2.1 dX12_shortest_0 rfl (lv_at hl 0 rfl) ?_
  refine lv_iload_n C.1 C.2.1 dX12_shortest_1 rfl (lv_at hl 1 rfl) ?_
  refine lv_i2l (v := (Int32.toInt64 x0)) C.1 C.2.1 dX12_shortest_2 rfl ?_
  refine lv_lconst (v := 1) C.1 C.2.1 dX12_shortest_3 (by decide) ?_
  refine lv_ldc2 (v := 4) C.1 C.2.1 C.2.2.1 (C.2.2.2.1 _ kl_RX12_386) dX12_shortest_4 ?_
  refine r_callS C w fs_RX12_133 (c_X12_within_37 l D cy x0 k0 k1) (hl.1.trans hml.symm) [] [0] (wr := [(a0, .inr (12, [.ref a1, .ref a2, .ref a3, .ref a4, .ref a5, .int 0, .ref a6, .int 0, .int 0, .int 0, .int 0, .int 0, .int 0, .int 0, .int 0, .int 0, .int 0, .int (-1), .ref a7, .ref a8, .int 0, .ref a9, .int 0, .ref a10, .ref a11, .ref a12, .ref a13, .ref a14, .int 0, .ref a15, .ref a16, .ref a17]))]) ⟨rfl, rfl, rfl, rfl, by decide⟩ rfl rfl ⟨Nat.le_of_ble_eq_true rfl, Nat.le_of_ble_eq_true rfl, Nat.le_of_ble_eq_true rfl⟩ 0 0 ⟨rfl, rfl, Nat.le_of_ble_eq_true rfl, Nat.le_of_ble_eq_true rfl⟩ dX12_shortest_7 (fun u H locs hp w => ?_)
  have w : Wd D A s.heap [(a0, .inr (12, [.ref a1, .ref a2, .ref a3, .ref a4, .ref a5, .int 0, .ref a6, .int 0, .int 0, .int 0, .int 0, .int 0, .int 0, .int 0, .int 0, .int 0, .int 0, .int (-1), .ref a7, .ref a8, .int 0, .ref a9, .int 0, .ref a10, .ref a11, .ref a12, .ref a13, .ref a14, .int 0, .ref a15, .ref a16, .ref a17]))] _ _ := w
  refine r_top (g2 := F0 m 10 ls [.int 1, .ref a0]) rfl ?_
  refine b_if_eq_f C (tgt := 41) dX12_shortest_10 (by decide) (by decide) ?_
  refine lv_iload_n C.1 C.2.1 dX12_shortest_13 rfl (lv_at hl 2 rfl) ?_
  refine lv_i2l (v := (Int32.toInt64 x1)) C.1 C.2.1 dX12_shortest_14 rfl ?_
  refine lv_lconst (v := 0) C.1 C.2.1 dX12_shortest_15 (by decide) ?_
  refine lv_lconst (v := 1) C.1 C.2.1 dX12_shortest_16 (by decide) ?_
  refine r_callS C w fs_RX12_133 (c_X12_within_16 l D cy x1 k2 k3) (hl.1.trans hml.symm) [] [0] (wr := [(a0, .inr (12, [.ref a1, .ref a2, .ref a3, .ref a4, .ref a5, .int 0, .ref a6, .int 0, .int 0, .int 0, .int 0, .int 0, .int 0, .int 0, .int 0, .int 0, .int 0, .int (-1), .ref a7, .ref a8, .int 0, .ref a9, .int 0, .ref a10, .ref a11, .ref a12, .ref a13, .ref a14, .int 0, .ref a15, .ref a16, .ref a17]))]) ⟨rfl, rfl, rfl, rfl, by decide⟩ rfl rfl ⟨Nat.le_of_ble_eq_true rfl, Nat.le_of_ble_eq_true rfl, Nat.le_of_ble_eq_true rfl⟩ 0 0 ⟨rfl, rfl, Nat.le_of_ble_eq_true rfl, Nat.le_of_ble_eq_true rfl⟩ dX12_shortest_17 (fun u H locs hp w => ?_)
  have w : Wd D A s.heap [(a0, .inr (12, [.ref a1, .ref a2, .ref a3, .ref a4, .ref a5, .int 0, .ref a6, .int 0, .int 0, .int 0, .int 0, .int 0, .int 0, .int 0, .int 0, .int 0, .int 0, .int (-1), .ref a7, .ref a8, .int 0, .ref a9, .int 0, .ref a10, .ref a11, .ref a12, .ref a13, .ref a14, .int 0, .ref a15, .ref a16, .ref a17]))] _ _ := w
  refine r_top (g2 := F0 m 20 ls [.int 0, .ref a0]) rfl ?_
  refine b_if_ne_f C (tgt := 37) dX12_shortest_20 (by decide) (by decide) ?_
  refine lv_iload_n C.1 C.2.1 dX12_shortest_23 rfl (lv_at hl 2 rfl) ?_
  refine lv_i2l (v := (Int32.toInt64 x1)) C.1 C.2.1 dX12_shortest_24 rfl ?_
  refine lv_ldc2 (v := 10) C.1 C.2.1 C.2.2.1 (C.2.2.2.1 _ kl_RX12_388) dX12_shortest_25 ?_
  refine lv_ldc2 (v := 13) C.1 C.2.1 C.2.2.1 (C.2.2.2.1 _ kl_RX12_390) dX12_shortest_28 ?_
  refine r_callS C w fs_RX12_133 (c_X12_within_38 l D cy x1 k4) (hl.1.trans hml.symm) [] [0] (wr := [(a0, .inr (12, [.ref a1, .ref a2, .ref a3, .ref a4, .ref a5, .int 0, .ref a6, .int 0, .int 0, .int 0, .int 0, .int 0, .int 0, .int 0, .int 0, .int 0, .int 0, .int (-1), .ref a7, .ref a8, .int 0, .ref a9, .int 0, .ref a10, .ref a11, .ref a12, .ref a13, .ref a14, .int 0, .ref a15, .ref a16, .ref a17]))]) ⟨rfl, rfl, rfl, rfl, by decide⟩ rfl rfl ⟨Nat.le_of_ble_eq_true rfl, Nat.le_of_ble_eq_true rfl, Nat.le_of_ble_eq_true rfl⟩ 0 0 ⟨rfl, rfl, Nat.le_of_ble_eq_true rfl, Nat.le_of_ble_eq_true rfl⟩ dX12_shortest_31 (fun u H locs hp w => ?_)
  have w : Wd D A s.heap [(a0, .inr (12, [.ref a1, .ref a2, .ref a3, .ref a4, .ref a5, .int 0, .ref a6, .int 0, .int 0, .int 0, .int 0, .int 0, .int 0, .int 0, .int 0, .int 0, .int 0, .int (-1), .ref a7, .ref a8, .int 0, .ref a9, .int 0, .ref a10, .ref a11, .ref a12, .ref a13, .ref a14, .int 0, .ref a15, .ref a16, .ref a17]))] _ _ := w
  refine r_top (g2 := F0 m 34 ls [.int 0, .ref a0]) rfl ?_
  refine b_if_eq_t C (tgt := 41) dX12_shortest_34 (by decide) (by decide) ?_
  refine lv_iconst (v := 1) C.1 C.2.1 dX12_shortest_41 (by decide) ?_
  refine r_put C w 0 rfl rfl 5 (by decide) fl_RX12_71 rfl (ty := .int) (tyX12_ok 5 (by decide)) rfl rfl (Nat.le_of_ble_eq_true rfl) [(a0, .inr (12, [.ref a1, .ref a2, .ref a3, .ref a4, .ref a5, .int 1, .ref a6, .int 0, .int 0, .int 0, .int 0, .int 0, .int 0, .int 0, .int 0, .int 0, .int 0, .int (-1), .ref a7, .ref a8, .int 0, .ref a9, .int 0, .ref a10, .ref a11, .ref a12, .ref a13, .ref a14, .int 0, .ref a15, .ref a16, .ref a17]))] rfl dX12_shortest_42 (fun H locs w => ?_)
  refine lv_aload_n C.1 C.2.1 dX12_shortest_45 rfl (lv_at hl 0 rfl) ?_
  refine r_get C w 0 rfl rfl 5 (by decide) fl_RX12_71 (v := .int 1) rfl dX12_shortest_46 ?_
  refine b_if_le_f C (tgt := 54) dX12_shortest_49 (by decide) (by decide) ?_
  refine lv_iconst (v := 0) C.1 C.2.1 dX12_shortest_52 (by decide) ?_
  exact r_iret C w hlocks () hr rfl rfl trivial [0] rfl rfl ⟨Nat.le_of_ble_eq_true rfl, Nat.le_of_ble_eq_true rfl⟩ dX12_shortest_53
set_option maxRecDepth 100000 in
set_option maxHeartbeats 4000000 in
theorem c_X12_shortest_7 (l : Launch) (D : va_G) (cy : Nat → ClassId) (a0 a1 a2 a3 a4 a5 a6 a7 a8 a9 a10 a11 a12 a13 a14 a15 a16 a17 : Nat) (x1 : Int32) (k0 : ¬ x1 < 0) (k1 : 1 < x1) (k2 : ¬ x1 < 10) (k3 : ¬ 13 < x1) : Ct l D cy yX12_shortest cX12_shortest 4 (some .int) 3 69 0 0 [(a0, .inr (12, [.ref a1, .ref a2, .ref a3, .ref a4, .ref a5, .int 0, .ref a6, .int 0, .int 0, .int 0, .int 0, .int 0, .int 0, .int 0, .int 0, .int 0, .int 0, .int (-1), .ref a7, .ref a8, .int 0, .ref a9, .int 0, .ref a10, .ref a11, .ref a12, .ref a13, .ref a14, .int 0, .ref a15, .ref a16, .ref a17])), (a1, .inl (cy 1, 1868, .inl (upd (upd (upd (fun _ => 0) 1 2) 2 20) 3 120))), (a7, .inl (cy 1, 1830, .inl (fun _ => 0))), (a8, .inl (cy 1, 1830, .inl (fun _ => 0))), (a9, .inl (cy 2, 2465, .inr (.inl (fun _ => 0))))] [.ref a0, .int 1, .int x1] (fun u : Unit => some (.int (-1))) (fun _ => True) (fun u : Unit => [(a7, .inl (cy 1, 1830, .inl (lxF (fun _ => 0) 2 20 (PP 20 2 (20 + 1 - 2))))), (a8, .inl (cy 1, 1830, .inl (lyF (fun _ => 0) 2 20 (PP 20 2 (20 + 1 - 2))))), (a1, .inl (cy 1, 1868, .inl (upd (upd (upd (fun _ => 0) 1 2) 2 20) 3 120))), (a0, .inr (12, [.ref a1, .ref a2, .ref a3, .ref a4, .ref a5, .int 0, .ref a6, .int 0, .int 0, .int 0, .int 0, .int 0, .int 0, .int 0, .int 0, .int 0, .int 0, .int (-1), .ref a7, .ref a8, .int 190, .ref a9, .int 0, .ref a10, .ref a11, .ref a12, .ref a13, .ref a14, .int 0, .ref a15, .ref a16, .ref a17])), (a9, .inl (cy 2, 2465, .inr (.inl (rwF (fun _ => 0) (PP 20 2 (20 + 1 - 2))))))]) := by
  refine Ct.of (by decide +kernel) (Nat.le_of_ble_eq_true rfl) ?_
  intro p e s m args below meth c A ls C hr hlocks hml hnm w hl
  have hl : lv_has ls 4 [(0, .ref a0), (1, .int 1), (2, .int x1)] := hl
  refine lv_aload_n C.1 C.2.1 dX12_shortest_0 rfl (lv_at hl 0 rfl) ?_
  refine lv_iload_n C.1 C.2.1 dX12_shortest_1 rfl (lv_at hl 1 rfl) ?_
  refine lv_i2l (v := 1) C.1 C.2.1 dX12_shortest_2 (by decide) ?_
  refine lv_lconst (v := 1) C.1 C.2.1 dX12_shortest_3 (by decide) ?_
  refine lv_ldc2 (v := 4) C.1 C.2.1 C.2.2.1 (C.2.2.2.1 _ kl_RX12_386) dX12_shortest_4 ?_
  refine r_callS C w fs_RX12_133 (c_X12_within_41 l D cy) (hl.1.trans hml.symm) [] [0, 1, 2, 3, 4] (wr := [(a0, .inr (12, [.ref a1, .ref a2, .ref a3, .ref a4, .ref a5, .int 0, .ref a6, .int 0, .int 0, .int 0, .int 0, .int 0, .int 0, .int 0, .int 0, .int 0, .int 0, .int (-1), .ref a7, .ref a8, .int 0, .ref a9, .int 0, .ref a10, .ref a11, .ref a12, .ref a13, .ref a14, .int 0, .ref a15, .ref a16, .ref a17])), (a1, .inl (cy 1, 1868, .inl (upd (upd (upd (fun _ => 0) 1 2) 2 20) 3 120))), (a7, .inl (cy 1, 1830, .inl (fun _ => 0))), (a8, .inl (cy 1, 1830, .inl (fun _ => 0))), (a9, .inl (cy 2, 2465, .inr (.inl (fun _ => 0))))]) ⟨rfl, rfl, rfl, rfl, by decide⟩ rfl rfl ⟨Nat.le_of_ble_eq_true rfl, Nat.le_of_ble_eq_true rfl, Nat.le_of_ble_eq_true rfl⟩ 0 0 ⟨rfl, rfl, Nat.le_of_ble_eq_true rfl, Nat.le_of_ble_eq_true rfl⟩ dX12_shortest_7 (fun u H locs hp w => ?_)
  have w : Wd D A s.heap [(a0, .inr (12, [.ref a1, .ref a2, .ref a3, .ref a4, .ref a5, .int 0, .ref a6, .int 0, .int 0, .int 0, .int 0, .int 0, .int 0, .int 0, .int 0, .int 0, .int 0, .int (-1), .ref a7, .ref a8, .int 0, .ref a9, .int 0, .ref a10, .ref a11, .ref a12, .ref a13, .ref a14, .int 0, .ref a15, .ref a16, .ref a17])), (a1, .inl (cy 1, 1868, .inl (upd (upd (upd (fun _ => 0) 1 2) 2 20) 3 120))), (a7, .inl (cy 1, 1830, .inl (fun _ => 0))), (a8, .inl (cy 1, 1830, .inl (fun _ => 0))), (a9, .inl (cy 2, 2465, .inr (.inl (fun _ => 0))))] _ _ := w
  refine r_top (g2 := F0 m 10 ls [.int 1, .ref a0]) rfl ?_
  refine b_if_eq_f C (tgt := 41) dX12_shortest_10 (by decide) (by decide) ?_
  refine lv_iload_n C.1 C.2.1 dX12_shortest_13 rfl (lv_at hl 2 rfl) ?_
  refine lv_i2l (v := (Int32.toInt64 x1)) C.1 C.2.1 dX12_shortest_14 rfl ?_
  refine lv_lconst (v := 0) C.1 C.2.1 dX12_shortest_15 (by decide) ?_
  refine lv_lconst (v := 1) C.1 C.2.1 dX12_shortest_16 (by decide) ?_
  refine r_callS C w fs_RX12_133 (c_X12_within_16 l D cy x1 k0 k1) (hl.1.trans hml.symm) [] [0, 1, 2, 3, 4] (wr := [(a0, .inr (12, [.ref a1, .ref a2, .ref a3, .ref a4, .ref a5, .int 0, .ref a6, .int 0, .int 0, .int 0, .int 0, .int 0, .int 0, .int 0, .int 0, .int 0, .int 0, .int (-1), .ref a7, .ref a8, .int 0, .ref a9, .int 0, .ref a10, .ref a11, .ref a12, .ref a13, .ref a14, .int 0, .ref a15, .ref a16, .ref a17])), (a1, .inl (cy 1, 1868, .inl (upd (upd (upd (fun _ => 0) 1 2) 2 20) 3 120))), (a7, .inl (cy 1, 1830, .inl (fun _ => 0))), (a8, .inl (cy 1, 1830, .inl (fun _ => 0))), (a9, .inl (cy 2, 2465, .inr (.inl (fun _ => 0))))]) ⟨rfl, rfl, rfl, rfl, by decide⟩ rfl rfl ⟨Nat.le_of_ble_eq_true rfl, Nat.le_of_ble_eq_true rfl, Nat.le_of_ble_eq_true rfl⟩ 0 0 ⟨rfl, rfl, Nat.le_of_ble_eq_true rfl, Nat.le_of_ble_eq_true rfl⟩ dX12_shortest_17 (fun u H locs hp w => ?_)
  have w : Wd D A s.heap [(a0, .inr (12, [.ref a1, .ref a2, .ref a3, .ref a4, .ref a5, .int 0, .ref a6, .int 0, .int 0, .int 0, .int 0, .int 0, .int 0, .int 0, .int 0, .int 0, .int 0, .int (-1), .ref a7, .ref a8, .int 0, .ref a9, .int 0, .ref a10, .ref a11, .ref a12, .ref a13, .ref a14, .int 0, .ref a15, .ref a16, .ref a17])), (a1, .inl (cy 1, 1868, .inl (upd (upd (upd (fun _ => 0) 1 2) 2 20) 3 120))), (a7, .inl (cy 1, 1830, .inl (fun _ => 0))), (a8, .inl (cy 1, 1830, .inl (fun _ => 0))), (a9, .inl (cy 2, 2465, .inr (.inl (fun _ => 0))))] _ _ := w
  refine r_top (g2 := F0 m 20 ls [.int 0, .ref a0]) rfl ?_
  refine b_if_ne_f C (tgt := 37) dX12_shortest_20 (by decide) (by decide) ?_
  refine lv_iload_n C.1 C.2.1 dX12_shortest_23 rfl (lv_at hl 2 rfl) ?_
  refine lv_i2l (v := (Int32.toInt64 x1)) C.1 C.2.1 dX12_shortest_24 rfl ?_
  refine lv_ldc2 (v := 10) C.1 C.2.1 C.2.2.1 (C.2.2.2.1 _ kl_RX12_388) dX12_shortest_25 ?_
  refine lv_ldc2 (v := 13) C.1 C.2.1 C.2.2.1 (C.2.2.2.1 _ kl_RX12_390) dX12_shortest_28 ?_
  refine r_callS C w fs_RX12_133 (c_X12_within_40 l D cy x1 k2 k3) (hl.1.trans hml.symm) [] [0, 1, 2, 3, 4] (wr := [(a0, .inr (12, [.ref a1, .ref a2, .ref a3, .ref a4, .ref a5, .int 0, .ref a6, .int 0, .int 0, .int 0, .int 0, .int 0, .int 0, .int 0, .int 0, .int 0, .int 0, .int (-1), .ref a7, .ref a8, .int 0, .ref a9, .int 0, .ref a10, .ref a11, .ref a12, .ref a13, .ref a14, .int 0, .ref a15, .ref a16, .ref a17])), (a1, .inl (cy 1, 1868, .inl (upd (upd (upd (fun _ => 0) 1 2) 2 20) 3 120))), (a7, .inl (cy 1, 1830, .inl (fun _ => 0))), (a8, .inl (cy 1, 1830, .inl (fun _ => 0))), (a9, .inl (cy 2, 2465, .inr (.inl (fun _ => 0))))]) ⟨rfl, rfl, rfl, rfl, by decide⟩ rfl rfl ⟨Nat.le_of_ble_eq_true rfl, Nat.le_of_ble_eq_true rfl, Nat.le_of_ble_eq_true rfl⟩ 0 0 ⟨rfl, rfl, Nat.le_of_ble_eq_true rfl, Nat.le_of_ble_eq_true rfl⟩ dX12_shortest_31 (fun u H locs hp w => ?_)
  have w : Wd D A s.heap [(a0, .inr (12, [.ref a1, .ref a2, .ref a3, .ref a4, .ref a5, .int 0, .ref a6, .int 0, .int 0, .int 0, .int 0, .int 0, .int 0, .int 0, .int 0, .int 0, .int 0, .int (-1), .ref a7, .ref a8, .int 0, .ref a9, .int 0, .ref a10, .ref a11, .ref a12, .ref a13, .ref a14, .int 0, .ref a15, .ref a16, .ref a17])), (a1, .inl (cy 1, 1868, .inl (upd (upd (upd (fun _ => 0) 1 2) 2 20) 3 120))), (a7, .inl (cy 1, 1830, .inl (fun _ => 0))), (a8, .inl (cy 1, 1830, .inl (fun _ => 0))), (a9, .inl (cy 2, 2465, .inr (.inl (fun _ => 0))))] _ _ := w
  refine r_top (g2 := F0 m 34 ls [.int 1, .ref a0]) rfl ?_
  refine b_if_eq_f C (tgt := 41) dX12_shortest_34 (by decide) (by decide) ?_
  refine lv_iconst (v := 0) C.1 C.2.1 dX12_shortest_37 (by decide) ?_
  refine lv_goto (tgt := 42) C.1 C.2.1 dX12_shortest_38 (by decide) ?_
  refine r_put C w 0 rfl rfl 5 (by decide) fl_RX12_71 rfl (ty := .int) (tyX12_ok 5 (by decide)) rfl rfl (Nat.le_of_ble_eq_true rfl) [(a0, .inr (12, [.ref a1, .ref a2, .ref a3, .ref a4, .ref a5, .int 0, .ref a6, .int 0, .int 0, .int 0, .int 0, .int 0, .int 0, .int 0, .int 0, .int 0, .int 0, .int (-1), .ref a7, .ref a8, .int 0, .ref a9, .int 0, .ref a10, .ref a11, .ref a12, .ref a13, .ref a14, .int 0, .ref a15, .ref a16, .ref a17])), (a1, .inl (cy 1, 1868, .inl (upd (upd (upd (fun _ => 0) 1 2) 2 20) 3 120))), (a7, .inl (cy 1, 1830, .inl (fun _ => 0))), (a8, .inl (cy 1, 1830, .inl (fun _ => 0))), (a9, .inl (cy 2, 2465, .inr (.inl (fun _ => 0))))] rfl dX12_shortest_42 (fun H locs w => ?_)
  refine lv_aload_n C.1 C.2.1 dX12_shortest_45 rfl (lv_at hl 0 rfl) ?_
  refine r_get C w 0 rfl rfl 5 (by decide) fl_RX12_71 (v := .int 0) rfl dX12_shortest_46 ?_
  refine b_if_le_t C (tgt := 54) dX12_shortest_49 (by decide) (by decide) ?_
  refine lv_aload_n C.1 C.2.1 dX12_shortest_54 rfl (lv_at hl 0 rfl) ?_
  refine r_callV C w fv_RX12_253 (c_X12_layPairs_0 l D cy a0 a1 a2 a3 a4 a5 a6 a7 a8 a9 a10 a11 a12 a13 a14 a15 a16 a17) (hl.1.trans hml.symm) [0, 1, 2, 3] [4] (wr := [(a9, .inl (cy 2, 2465, .inr (.inl (fun _ => 0))))]) ⟨rfl, rfl, rfl, rfl, by decide⟩ 0 rfl rfl rfl rfl rfl ⟨Nat.le_of_ble_eq_true rfl, Nat.le_of_ble_eq_true rfl, Nat.le_of_ble_eq_true rfl⟩ 0 0 ⟨rfl, rfl, Nat.le_of_ble_eq_true rfl, Nat.le_of_ble_eq_true rfl⟩ dX12_shortest_55 (fun u H locs hp w => ?_)
  have w : Wd D A s.heap [(a9, .inl (cy 2, 2465, .inr (.inl (fun _ => 0)))), (a0, .inr (12, [.ref a1, .ref a2, .ref a3, .ref a4, .ref a5, .int 0, .ref a6, .int 0, .int 0, .int 0, .int 0, .int 0, .int 0, .int 0, .int 0, .int 0, .int 0, .int (-1), .ref a7, .ref a8, .int 190, .ref a9, .int 0, .ref a10, .ref a11, .ref a12, .ref a13, .ref a14, .int 0, .ref a15, .ref a16, .ref a17])), (a1, .inl (cy 1, 1868, .inl (upd (upd (upd (fun _ => 0) 1 2) 2 20) 3 120))), (a7, .inl (cy 1, 1830, .inl (lxF (fun _ => 0) 2 20 (PP 20 2 (20 + 1 - 2))))), (a8, .inl (cy 1, 1830, .inl (lyF (fun _ => 0) 2 20 (PP 20 2 (20 + 1 - 2)))))] _ _ := w
  refine r_top (g2 := F0 m 58 ls []) rfl ?_
  refine lv_aload_n C.1 C.2.1 dX12_shortest_58 rfl (lv_at hl 0 rfl) ?_
  refine lv_iconst (v := 0) C.1 C.2.1 dX12_shortest_59 (by decide) ?_
  refine lv_iconst (v := 1) C.1 C.2.1 dX12_shortest_60 (by decide) ?_
  refine r_callV C w fv_RX12_323 (c_X12_fills_2 l D cy a0 a1 a2 a3 a4 a5 a6 a7 a8 a9 a10 a11 a12 a13 a14 a15 a16 a17) (hl.1.trans hml.symm) [1, 0] [2, 3, 4] (wr := [(a1, .inl (cy 1, 1868, .inl (upd (upd (upd (fun _ => 0) 1 2) 2 20) 3 120))), (a7, .inl (cy 1, 1830, .inl (lxF (fun _ => 0) 2 20 (PP 20 2 (20 + 1 - 2))))), (a8, .inl (cy 1, 1830, .inl (lyF (fun _ => 0) 2 20 (PP 20 2 (20 + 1 - 2)))))]) ⟨rfl, rfl, rfl, rfl, by decide⟩ 0 rfl rfl rfl rfl rfl ⟨Nat.le_of_ble_eq_true rfl, Nat.le_of_ble_eq_true rfl, Nat.le_of_ble_eq_true rfl⟩ 0 0 ⟨rfl, rfl, Nat.le_of_ble_eq_true rfl, Nat.le_of_ble_eq_true rfl⟩ dX12_shortest_61 (fun u H locs hp w => ?_)
  have w : Wd D A s.heap [(a1, .inl (cy 1, 1868, .inl (upd (upd (upd (fun _ => 0) 1 2) 2 20) 3 120))), (a7, .inl (cy 1, 1830, .inl (lxF (fun _ => 0) 2 20 (PP 20 2 (20 + 1 - 2))))), (a8, .inl (cy 1, 1830, .inl (lyF (fun _ => 0) 2 20 (PP 20 2 (20 + 1 - 2))))), (a0, .inr (12, [.ref a1, .ref a2, .ref a3, .ref a4, .ref a5, .int 0, .ref a6, .int 0, .int 0, .int 0, .int 0, .int 0, .int 0, .int 0, .int 0, .int 0, .int 0, .int (-1), .ref a7, .ref a8, .int 190, .ref a9, .int 0, .ref a10, .ref a11, .ref a12, .ref a13, .ref a14, .int 0, .ref a15, .ref a16, .ref a17])), (a9, .inl (cy 2, 2465, .inr (.inl (rwF (fun _ => 0) (PP 20 2 (20 + 1 - 2))))))] _ _ := w
  refine r_top (g2 := F0 m 64 ls []) rfl ?_
  refine lv_iconst (v := 0) C.1 C.2.1 dX12_shortest_64 (by decide) ?_
  refine lv_istore_n (lv' := [(3, .int 0), (0, .ref a0), (1, .int 1), (2, .int x1)]) C.1 C.2.1 dX12_shortest_65 rfl hl (by decide) rfl (fun ls hl => ?_)
  refine lv_iload_n C.1 C.2.1 dX12_shortest_66 rfl (lv_at hl 0 rfl) ?_
  refine lv_iload_n C.1 C.2.1 dX12_shortest_67 rfl (lv_at hl 2 rfl) ?_
  refine b_icmp_gt_f C (tgt := 129) dX12_shortest_68 (by decide) (by decide) ?_
  refine lv_aload_n C.1 C.2.1 dX12_shortest_71 rfl (lv_at hl 1 rfl) ?_
  refine lv_iconst (v := 0) C.1 C.2.1 dX12_shortest_72 (by decide) ?_
  refine lv_iload_n C.1 C.2.1 dX12_shortest_73 rfl (lv_at hl 0 rfl) ?_
  refine r_callV C w fv_RX12_383 (c_X12_shortBy_0 l D cy a0 a1 a2 a3 a4 a5 a6 a7 a8 a9 a10 a11 a12 a13 a14 a15 a16 a17) (hl.1.trans hml.symm) [3, 4] [0, 1, 2] (wr := [(a1, .inl (cy 1, 1868, .inl (upd (upd (upd (fun _ => 0) 1 2) 2 20) 3 120))), (a7, .inl (cy 1, 1830, .inl (lxF (fun _ => 0) 2 20 (PP 20 2 (20 + 1 - 2))))), (a8, .inl (cy 1, 1830, .inl (lyF (fun _ => 0) 2 20 (PP 20 2 (20 + 1 - 2)))))]) ⟨rfl, rfl, rfl, rfl, by decide⟩ 0 rfl rfl rfl rfl rfl ⟨Nat.le_of_ble_eq_true rfl, Nat.le_of_ble_eq_true rfl, Nat.le_of_ble_eq_true rfl⟩ 0 0 ⟨rfl, rfl, Nat.le_of_ble_eq_true rfl, Nat.le_of_ble_eq_true rfl⟩ dX12_shortest_74 (fun u H locs hp w => ?_)
  have w : Wd D A s.heap [(a1, .inl (cy 1, 1868, .inl (upd (upd (upd (fun _ => 0) 1 2) 2 20) 3 120))), (a7, .inl (cy 1, 1830, .inl (lxF (fun _ => 0) 2 20 (PP 20 2 (20 + 1 - 2))))), (a8, .inl (cy 1, 1830, .inl (lyF (fun _ => 0) 2 20 (PP 20 2 (20 + 1 - 2))))), (a0, .inr (12, [.ref a1, .ref a2, .ref a3, .ref a4, .ref a5, .int 0, .ref a6, .int 0, .int 0, .int 0, .int 0, .int 0, .int 0, .int 0, .int 0, .int 0, .int 0, .int (-1), .ref a7, .ref a8, .int 190, .ref a9, .int 0, .ref a10, .ref a11, .ref a12, .ref a13, .ref a14, .int 0, .ref a15, .ref a16, .ref a17])), (a9, .inl (cy 2, 2465, .inr (.inl (rwF (fun _ => 0) (PP 20 2 (20 + 1 - 2))))))] _ _ := w
  refine r_top (g2 := F0 m 77 ls [.int 0]) rfl ?_
  refine b_if_eq_t C (tgt := 123) dX12_shortest_77 (by decide) (by decide) ?_
  refine lv_iinc (v := 1) (lv' := [(3, .int 1), (0, .ref a0), (1, .int 1), (2, .int x1)]) C.1 C.2.1 dX12_shortest_123 hl (k := 0) rfl (by decide) (by decide) rfl (fun ls hl => ?_)
  refine lv_goto (tgt := 66) C.1 C.2.1 dX12_shortest_126 (by decide) ?_
  refine lv_iload_n C.1 C.2.1 dX12_shortest_66 rfl (lv_at hl 0 rfl) ?_
  refine lv_iload_n C.1 C.2.1 dX12_shortest_67 rfl (lv_at hl 2 rfl) ?_
  refine b_icmp_gt_f C (tgt := 129) dX12_shortest_68 (by decide) (by decide) ?_
  refine lv_aload_n C.1 C.2.1 dX12_shortest_71 rfl (lv_at hl 1 rfl) ?_
  refine lv_iconst (v := 0) C.1 C.2.1 dX12_shortest_72 (by decide) ?_
  refine lv_iload_n C.1 C.2.1 dX12_shortest_73 rfl (lv_at hl 0 rfl) ?_
  refine r_callV C w fv_RX12_383 (c_X12_shortBy_1 l D cy a0 a1 a2 a3 a4 a5 a6 a7 a8 a9 a10 a11 a12 a13 a14 a15 a16 a17) (hl.1.trans hml.symm) [3, 0, 4] [1, 2] (wr := [(a7, .inl (cy 1, 1830, .inl (lxF (fun _ => 0) 2 20 (PP 20 2 (20 + 1 - 2))))), (a8, .inl (cy 1, 1830, .inl (lyF (fun _ => 0) 2 20 (PP 20 2 (20 + 1 - 2)))))]) ⟨rfl, rfl, rfl, rfl, by decide⟩ 0 rfl rfl rfl rfl rfl ⟨Nat.le_of_ble_eq_true rfl, Nat.le_of_ble_eq_true rfl, Nat.le_of_ble_eq_true rfl⟩ 0 0 ⟨rfl, rfl, Nat.le_of_ble_eq_true rfl, Nat.le_of_ble_eq_true rfl⟩ dX12_shortest_74 (fun u H locs hp w => ?_)
  have w : Wd D A s.heap [(a7, .inl (cy 1, 1830, .inl (lxF (fun _ => 0) 2 20 (PP 20 2 (20 + 1 - 2))))), (a8, .inl (cy 1, 1830, .inl (lyF (fun _ => 0) 2 20 (PP 20 2 (20 + 1 - 2))))), (a1, .inl (cy 1, 1868, .inl (upd (upd (upd (fun _ => 0) 1 2) 2 20) 3 120))), (a0, .inr (12, [.ref a1, .ref a2, .ref a3, .ref a4, .ref a5, .int 0, .ref a6, .int 0, .int 0, .int 0, .int 0, .int 0, .int 0, .int 0, .int 0, .int 0, .int 0, .int (-1), .ref a7, .ref a8, .int 190, .ref a9, .int 0, .ref a10, .ref a11, .ref a12, .ref a13, .ref a14, .int 0, .ref a15, .ref a16, .ref a17])), (a9, .inl (cy 2, 2465, .inr (.inl (rwF (fun _ => 0) (PP 20 2 (20 + 1 - 2))))))] _ _ := w
  refine r_top (g2 := F0 m 77 ls [.int 0]) rfl ?_
  refine b_if_eq_t C (tgt := 123) dX12_shortest_77 (by decide) (by decide) ?_
  refine lv_iinc (v := 2) (lv' := [(3, .int 2), (0, .ref a0), (1, .int 1), (2, .int x1)]) C.1 C.2.1 dX12_shortest_123 hl (k := 0) rfl (by decide) (by decide) rfl (fun ls hl => ?_)
  refine lv_goto (tgt := 66) C.1 C.2.1 dX12_shortest_126 (by decide) ?_
  refine lv_iload_n C.1 C.2.1 dX12_shortest_66 rfl (lv_at hl 0 rfl) ?_
  refine lv_iload_n C.1 C.2.1 dX12_shortest_67 rfl (lv_at hl 2 rfl) ?_
  refine b_icmp_gt_t C (tgt := 129) dX12_shortest_68 (by decide) (by decide) ?_
  refine lv_iconst (v := (-1)) C.1 C.2.1 dX12_shortest_129 (by decide) ?_
  exact r_iret C w hlocks () hr rfl rfl trivial [0, 1, 2, 3, 4] rfl rfl ⟨Nat.le_of_ble_eq_true rfl, Nat.le_of_ble_eq_true rfl⟩ dX12_shortest_130
set_option maxRecDepth 100000 in
set_option maxHeartbeats 4000000 in
theorem c_X12_shortest_8 (l : Launch) (D : va_G) (cy : Nat → ClassId) (a0 a1 a2 a3 a4 a5 a6 a7 a8 a9 a10 a11 a12 a13 a14 a15 a16 a17 : Nat) (x1 : Int32) (k0 : ¬ x1 < 0) (k1 : 1 < x1) (k2 : ¬ x1 < 10) (k3 : ¬ 13 < x1) : Ct l D cy yX12_shortest cX12_shortest 4 (some .int) 3 69 0 0 [(a0, .inr (12, [.ref a1, .ref a2, .ref a3, .ref a4, .ref a5, .int 0, .ref a6, .int 0, .int 0, .int 0, .int 0, .int 0, .int 0, .int 0, .int 0, .int 0, .int 0, .int (-1), .ref a7, .ref a8, .int 0, .ref a9, .int 0, .ref a10, .ref a11, .ref a12, .ref a13, .ref a14, .int 0, .ref a15, .ref a16, .ref a17])), (a1, .inl (cy 1, 1868, .inl (upd (upd (upd (fun _ => 0) 1 2) 2 20) 3 120))), (a7, .inl (cy 1, 1830, .inl (fun _ => 0))), (a8, .inl (cy 1, 1830, .inl (fun _ => 0))), (a9, .inl (cy 2, 2465, .inr (.inl (fun _ => 0))))] [.ref a0, .int 2, .int x1] (fun u : Unit => some (.int (-1))) (fun _ => True) (fun u : Unit => [(a7, .inl (cy 1, 1830, .inl (lxF (fun _ => 0) 2 20 (PP 20 2 (20 + 1 - 2))))), (a8, .inl (cy 1, 1830, .inl (lyF (fun _ => 0) 2 20 (PP 20 2 (20 + 1 - 2))))), (a1, .inl (cy 1, 1868, .inl (upd (upd (upd (fun _ => 0) 1 2) 2 20) 3 120))), (a0, .inr (12, [.ref a1, .ref a2, .ref a3, .ref a4, .ref a5, .int 0, .ref a6, .int 0, .int 0, .int 0, .int 0, .int 0, .int 0, .int 0, .int 0, .int 0, .int 0, .int (-1), .ref a7, .ref a8, .int 190, .ref a9, .int 0, .ref a10, .ref a11, .ref a12, .ref a13, .ref a14, .int 0, .ref a15, .ref a16, .ref a17])), (a9, .inl (cy 2, 2465, .inr (.inl (rwF (fun _ => 0) (PP 20 2 (20 + 1 - 2))))))]) := by
  refine Ct.of (by decide +kernel) (Nat.le_of_ble_eq_true rfl) ?_
  intro p e s m args below meth c A ls C hr hlocks hml hnm w hl
  have hl : lv_has ls 4 [(0, .ref a0), (1, .int 2), (2, .int x1)] := hl
  refine lv_aload_n C.1 C.2.1 dX12_shortest_0 rfl (lv_at hl 0 rfl) ?_
  refine lv_iload_n C.1 C.2.1 dX12_shortest_1 rfl (lv_at hl 1 rfl) ?_
  refine lv_i2l (v := 2) C.1 C.2.1 dX12_shortest_2 (by decide) ?_
  refine lv_lconst (v := 1) C.1 C.2.1 dX12_shortest_3 (by decide) ?_
  refine lv_ldc2 (v := 4) C.1 C.2.1 C.2.2.1 (C.2.2.2.1 _ kl_RX12_386) dX12_shortest_4 ?_
  refine r_callS C w fs_RX12_133 (c_X12_within_42 l D cy) (hl.1.trans hml.symm) [] [0, 1, 2, 3, 4] (wr := [(a0, .inr (12, [.ref a1, .ref a2, .ref a3, .ref a4, .ref a5, .int 0, .ref a6, .int 0, .int 0, .int 0, .int 0, .int 0, .int 0, .int 0, .int 0, .int 0, .int 0, .int (-1), .ref a7, .ref a8, .int 0, .ref a9, .int 0, .ref a10, .ref a11, .ref a12, .ref a13, .ref a14, .int 0, .ref a15, .ref a16, .ref a17])), (a1, .inl (cy 1, 1868, .inl (upd (upd (upd (fun _ => 0) 1 2) 2 20) 3 120))), (a7, .inl (cy 1, 1830, .inl (fun _ => 0))), (a8, .inl (cy 1, 1830, .inl (fun _ => 0))), (a9, .inl (cy 2, 2465, .inr (.inl (fun _ => 0))))]) ⟨rfl, rfl, rfl, rfl, by decide⟩ rfl rfl ⟨Nat.le_of_ble_eq_true rfl, Nat.le_of_ble_eq_true rfl, Nat.le_of_ble_eq_true rfl⟩ 0 0 ⟨rfl, rfl, Nat.le_of_ble_eq_true rfl, Nat.le_of_ble_eq_true rfl⟩ dX12_shortest_7 (fun u H locs hp w => ?_)
  have w : Wd D A s.heap [(a0, .inr (12, [.ref a1, .ref a2, .ref a3, .ref a4, .ref a5, .int 0, .ref a6, .int 0, .int 0, .int 0, .int 0, .int 0, .int 0, .int 0, .int 0, .int 0, .int 0, .int (-1), .ref a7, .ref a8, .int 0, .ref a9, .int 0, .ref a10, .ref a11, .ref a12, .ref a13, .ref a14, .int 0, .ref a15, .ref a16, .ref a17])), (a1, .inl (cy 1, 1868, .inl (upd (upd (upd (fun _ => 0) 1 2) 2 20) 3 120))), (a7, .inl (cy 1, 1830, .inl (fun _ => 0))), (a8, .inl (cy 1, 1830, .inl (fun _ => 0))), (a9, .inl (cy 2, 2465, .inr (.inl (fun _ => 0))))] _ _ := w
  refine r_top (g2 := F0 m 10 ls [.int 1, .ref a0]) rfl ?_
  refine b_if_eq_f C (tgt := 41) dX12_shortest_10 (by decide) (by decide) ?_
  refine lv_iload_n C.1 C.2.1 dX12_shortest_13 rfl (lv_at hl 2 rfl) ?_
  refine lv_i2l (v := (Int32.toInt64 x1)) C.1 C.2.1 dX12_shortest_14 rfl ?_
  refine lv_lconst (v := 0) C.1 C.2.1 dX12_shortest_15 (by decide) ?_
  refine lv_lconst (v := 1) C.1 C.2.1 dX12_shortest_16 (by decide) ?_
  refine r_callS C w fs_RX12_133 (c_X12_within_16 l D cy x1 k0 k1) (hl.1.trans hml.symm) [] [0, 1, 2, 3, 4] (wr := [(a0, .inr (12, [.ref a1, .ref a2, .ref a3, .ref a4, .ref a5, .int 0, .ref a6, .int 0, .int 0, .int 0, .int 0, .int 0, .int 0, .int 0, .int 0, .int 0, .int 0, .int (-1), .ref a7, .ref a8, .int 0, .ref a9, .int 0, .ref a10, .ref a11, .ref a12, .ref a13, .ref a14, .int 0, .ref a15, .ref a16, .ref a17])), (a1, .inl (cy 1, 1868, .inl (upd (upd (upd (fun _ => 0) 1 2) 2 20) 3 120))), (a7, .inl (cy 1, 1830, .inl (fun _ => 0))), (a8, .inl (cy 1, 1830, .inl (fun _ => 0))), (a9, .inl (cy 2, 2465, .inr (.inl (fun _ => 0))))]) ⟨rfl, rfl, rfl, rfl, by decide⟩ rfl rfl ⟨Nat.le_of_ble_eq_true rfl, Nat.le_of_ble_eq_true rfl, Nat.le_of_ble_eq_true rfl⟩ 0 0 ⟨rfl, rfl, Nat.le_of_ble_eq_true rfl, Nat.le_of_ble_eq_true rfl⟩ dX12_shortest_17 (fun u H locs hp w => ?_)
  have w : Wd D A s.heap [(a0, .inr (12, [.ref a1, .ref a2, .ref a3, .ref a4, .ref a5, .int 0, .ref a6, .int 0, .int 0, .int 0, .int 0, .int 0, .int 0, .int 0, .int 0, .int 0, .int 0, .int (-1), .ref a7, .ref a8, .int 0, .ref a9, .int 0, .ref a10, .ref a11, .ref a12, .ref a13, .ref a14, .int 0, .ref a15, .ref a16, .ref a17])), (a1, .inl (cy 1, 1868, .inl (upd (upd (upd (fun _ => 0) 1 2) 2 20) 3 120))), (a7, .inl (cy 1, 1830, .inl (fun _ => 0))), (a8, .inl (cy 1, 1830, .inl (fun _ => 0))), (a9, .inl (cy 2, 2465, .inr (.inl (fun _ => 0))))] _ _ := w
  refine r_top (g2 := F0 m 20 ls [.int 0, .ref a0]) rfl ?_
  refine b_if_ne_f C (tgt := 37) dX12_shortest_20 (by decide) (by decide) ?_
  refine lv_iload_n C.1 C.2.1 dX12_shortest_23 rfl (lv_at hl 2 rfl) ?_
  refine lv_i2l (v := (Int32.toInt64 x1)) C.1 C.2.1 dX12_shortest_24 rfl ?_
  refine lv_ldc2 (v := 10) C.1 C.2.1 C.2.2.1 (C.2.2.2.1 _ kl_RX12_388) dX12_shortest_25 ?_
  refine lv_ldc2 (v := 13) C.1 C.2.1 C.2.2.1 (C.2.2.2.1 _ kl_RX12_390) dX12_shortest_28 ?_
  refine r_callS C w fs_RX12_133 (c_X12_within_40 l D cy x1 k2 k3) (hl.1.trans hml.symm) [] [0, 1, 2, 3, 4] (wr := [(a0, .inr (12, [.ref a1, .ref a2, .ref a3, .ref a4, .ref a5, .int 0, .ref a6, .int 0, .int 0, .int 0, .int 0, .int 0, .int 0, .int 0, .int 0, .int 0, .int 0, .int (-1), .ref a7, .ref a8, .int 0, .ref a9, .int 0, .ref a10, .ref a11, .ref a12, .ref a13, .ref a14, .int 0, .ref a15, .ref a16, .ref a17])), (a1, .inl (cy 1, 1868, .inl (upd (upd (upd (fun _ => 0) 1 2) 2 20) 3 120))), (a7, .inl (cy 1, 1830, .inl (fun _ => 0))), (a8, .inl (cy 1, 1830, .inl (fun _ => 0))), (a9, .inl (cy 2, 2465, .inr (.inl (fun _ => 0))))]) ⟨rfl, rfl, rfl, rfl, by decide⟩ rfl rfl ⟨Nat.le_of_ble_eq_true rfl, Nat.le_of_ble_eq_true rfl, Nat.le_of_ble_eq_true rfl⟩ 0 0 ⟨rfl, rfl, Nat.le_of_ble_eq_true rfl, Nat.le_of_ble_eq_true rfl⟩ dX12_shortest_31 (fun u H locs hp w => ?_)
  have w : Wd D A s.heap [(a0, .inr (12, [.ref a1, .ref a2, .ref a3, .ref a4, .ref a5, .int 0, .ref a6, .int 0, .int 0, .int 0, .int 0, .int 0, .int 0, .int 0, .int 0, .int 0, .int 0, .int (-1), .ref a7, .ref a8, .int 0, .ref a9, .int 0, .ref a10, .ref a11, .ref a12, .ref a13, .ref a14, .int 0, .ref a15, .ref a16, .ref a17])), (a1, .inl (cy 1, 1868, .inl (upd (upd (upd (fun _ => 0) 1 2) 2 20) 3 120))), (a7, .inl (cy 1, 1830, .inl (fun _ => 0))), (a8, .inl (cy 1, 1830, .inl (fun _ => 0))), (a9, .inl (cy 2, 2465, .inr (.inl (fun _ => 0))))] _ _ := w
  refine r_top (g2 := F0 m 34 ls [.int 1, .ref a0]) rfl ?_
  refine b_if_eq_f C (tgt := 41) dX12_shortest_34 (by decide) (by decide) ?_
  refine lv_iconst (v := 0) C.1 C.2.1 dX12_shortest_37 (by decide) ?_
  refine lv_goto (tgt := 42) C.1 C.2.1 dX12_shortest_38 (by decide) ?_
  refine r_put C w 0 rfl rfl 5 (by decide) fl_RX12_71 rfl (ty := .int) (tyX12_ok 5 (by decide)) rfl rfl (Nat.le_of_ble_eq_true rfl) [(a0, .inr (12, [.ref a1, .ref a2, .ref a3, .ref a4, .ref a5, .int 0, .ref a6, .int 0, .int 0, .int 0, .int 0, .int 0, .int 0, .int 0, .int 0, .int 0, .int 0, .int (-1), .ref a7, .ref a8, .int 0, .ref a9, .int 0, .ref a10, .ref a11, .ref a12, .ref a13, .ref a14, .int 0, .ref a15, .ref a16, .ref a17])), (a1, .inl (cy 1, 1868, .inl (upd (upd (upd (fun _ => 0) 1 2) 2 20) 3 120))), (a7, .inl (cy 1, 1830, .inl (fun _ => 0))), (a8, .inl (cy 1, 1830, .inl (fun _ => 0))), (a9, .inl (cy 2, 2465, .inr (.inl (fun _ => 0))))] rfl dX12_shortest_42 (fun H locs w => ?_)
  refine lv_aload_n C.1 C.2.1 dX12_shortest_45 rfl (lv_at hl 0 rfl) ?_
  refine r_get C w 0 rfl rfl 5 (by decide) fl_RX12_71 (v := .int 0) rfl dX12_shortest_46 ?_
  refine b_if_le_t C (tgt := 54) dX12_shortest_49 (by decide) (by decide) ?_
  refine lv_aload_n C.1 C.2.1 dX12_shortest_54 rfl (lv_at hl 0 rfl) ?_
  refine r_callV C w fv_RX12_253 (c_X12_layPairs_0 l D cy a0 a1 a2 a3 a4 a5 a6 a7 a8 a9 a10 a11 a12 a13 a14 a15 a16 a17) (hl.1.trans hml.symm) [0, 1, 2, 3] [4] (wr := [(a9, .inl (cy 2, 2465, .inr (.inl (fun _ => 0))))]) ⟨rfl, rfl, rfl, rfl, by decide⟩ 0 rfl rfl rfl rfl rfl ⟨Nat.le_of_ble_eq_true rfl, Nat.le_of_ble_eq_true rfl, Nat.le_of_ble_eq_true rfl⟩ 0 0 ⟨rfl, rfl, Nat.le_of_ble_eq_true rfl, Nat.le_of_ble_eq_true rfl⟩ dX12_shortest_55 (fun u H locs hp w => ?_)
  have w : Wd D A s.heap [(a9, .inl (cy 2, 2465, .inr (.inl (fun _ => 0)))), (a0, .inr (12, [.ref a1, .ref a2, .ref a3, .ref a4, .ref a5, .int 0, .ref a6, .int 0, .int 0, .int 0, .int 0, .int 0, .int 0, .int 0, .int 0, .int 0, .int 0, .int (-1), .ref a7, .ref a8, .int 190, .ref a9, .int 0, .ref a10, .ref a11, .ref a12, .ref a13, .ref a14, .int 0, .ref a15, .ref a16, .ref a17])), (a1, .inl (cy 1, 1868, .inl (upd (upd (upd (fun _ => 0) 1 2) 2 20) 3 120))), (a7, .inl (cy 1, 1830, .inl (lxF (fun _ => 0) 2 20 (PP 20 2 (20 + 1 - 2))))), (a8, .inl (cy 1, 1830, .inl (lyF (fun _ => 0) 2 20 (PP 20 2 (20 + 1 - 2)))))] _ _ := w
  refine r_top (g2 := F0 m 58 ls []) rfl ?_
  refine lv_aload_n C.1 C.2.1 dX12_shortest_58 rfl (lv_at hl 0 rfl) ?_
  refine lv_iconst (v := 0) C.1 C.2.1 dX12_shortest_59 (by decide) ?_
  refine lv_iconst (v := 1) C.1 C.2.1 dX12_shortest_60 (by decide) ?_
  refine r_callV C w fv_RX12_323 (c_X12_fills_2 l D cy a0 a1 a2 a3 a4 a5 a6 a7 a8 a9 a10 a11 a12 a13 a14 a15 a16 a17) (hl.1.trans hml.symm) [1, 0] [2, 3, 4] (wr := [(a1, .inl (cy 1, 1868, .inl (upd (upd (upd (fun _ => 0) 1 2) 2 20) 3 120))), (a7, .inl (cy 1, 1830, .inl (lxF (fun _ => 0) 2 20 (PP 20 2 (20 + 1 - 2))))), (a8, .inl (cy 1, 1830, .inl (lyF (fun _ => 0) 2 20 (PP 20 2 (20 + 1 - 2)))))]) ⟨rfl, rfl, rfl, rfl, by decide⟩ 0 rfl rfl rfl rfl rfl ⟨Nat.le_of_ble_eq_true rfl, Nat.le_of_ble_eq_true rfl, Nat.le_of_ble_eq_true rfl⟩ 0 0 ⟨rfl, rfl, Nat.le_of_ble_eq_true rfl, Nat.le_of_ble_eq_true rfl⟩ dX12_shortest_61 (fun u H locs hp w => ?_)
  have w : Wd D A s.heap [(a1, .inl (cy 1, 1868, .inl (upd (upd (upd (fun _ => 0) 1 2) 2 20) 3 120))), (a7, .inl (cy 1, 1830, .inl (lxF (fun _ => 0) 2 20 (PP 20 2 (20 + 1 - 2))))), (a8, .inl (cy 1, 1830, .inl (lyF (fun _ => 0) 2 20 (PP 20 2 (20 + 1 - 2))))), (a0, .inr (12, [.ref a1, .ref a2, .ref a3, .ref a4, .ref a5, .int 0, .ref a6, .int 0, .int 0, .int 0, .int 0, .int 0, .int 0, .int 0, .int 0, .int 0, .int 0, .int (-1), .ref a7, .ref a8, .int 190, .ref a9, .int 0, .ref a10, .ref a11, .ref a12, .ref a13, .ref a14, .int 0, .ref a15, .ref a16, .ref a17])), (a9, .inl (cy 2, 2465, .inr (.inl (rwF (fun _ => 0) (PP 20 2 (20 + 1 - 2))))))] _ _ := w
  refine r_top (g2 := F0 m 64 ls []) rfl ?_
  refine lv_iconst (v := 0) C.1 C.2.1 dX12_shortest_64 (by decide) ?_
  refine lv_istore_n (lv' := [(3, .int 0), (0, .ref a0), (1, .int 2), (2, .int x1)]) C.1 C.2.1 dX12_shortest_65 rfl hl (by decide) rfl (fun ls hl => ?_)
  refine lv_iload_n C.1 C.2.1 dX12_shortest_66 rfl (lv_at hl 0 rfl) ?_
  refine lv_iload_n C.1 C.2.1 dX12_shortest_67 rfl (lv_at hl 2 rfl) ?_
  refine b_icmp_gt_f C (tgt := 129) dX12_shortest_68 (by decide) (by decide) ?_
  refine lv_aload_n C.1 C.2.1 dX12_shortest_71 rfl (lv_at hl 1 rfl) ?_
  refine lv_iconst (v := 0) C.1 C.2.1 dX12_shortest_72 (by decide) ?_
  refine lv_iload_n C.1 C.2.1 dX12_shortest_73 rfl (lv_at hl 0 rfl) ?_
  refine r_callV C w fv_RX12_383 (c_X12_shortBy_0 l D cy a0 a1 a2 a3 a4 a5 a6 a7 a8 a9 a10 a11 a12 a13 a14 a15 a16 a17) (hl.1.trans hml.symm) [3, 4] [0, 1, 2] (wr := [(a1, .inl (cy 1, 1868, .inl (upd (upd (upd (fun _ => 0) 1 2) 2 20) 3 120))), (a7, .inl (cy 1, 1830, .inl (lxF (fun _ => 0) 2 20 (PP 20 2 (20 + 1 - 2))))), (a8, .inl (cy 1, 1830, .inl (lyF (fun _ => 0) 2 20 (PP 20 2 (20 + 1 - 2)))))]) ⟨rfl, rfl, rfl, rfl, by decide⟩ 0 rfl rfl rfl rfl rfl ⟨Nat.le_of_ble_eq_true rfl, Nat.le_of_ble_eq_true rfl, Nat.le_of_ble_eq_true rfl⟩ 0 0 ⟨rfl, rfl, Nat.le_of_ble_eq_true rfl, Nat.le_of_ble_eq_true rfl⟩ dX12_shortest_74 (fun u H locs hp w => ?_)
  have w : Wd D A s.heap [(a1, .inl (cy 1, 1868, .inl (upd (upd (upd (fun _ => 0) 1 2) 2 20) 3 120))), (a7, .inl (cy 1, 1830, .inl (lxF (fun _ => 0) 2 20 (PP 20 2 (20 + 1 - 2))))), (a8, .inl (cy 1, 1830, .inl (lyF (fun _ => 0) 2 20 (PP 20 2 (20 + 1 - 2))))), (a0, .inr (12, [.ref a1, .ref a2, .ref a3, .ref a4, .ref a5, .int 0, .ref a6, .int 0, .int 0, .int 0, .int 0, .int 0, .int 0, .int 0, .int 0, .int 0, .int 0, .int (-1), .ref a7, .ref a8, .int 190, .ref a9, .int 0, .ref a10, .ref a11, .ref a12, .ref a13, .ref a14, .int 0, .ref a15, .ref a16, .ref a17])), (a9, .inl (cy 2, 2465, .inr (.inl (rwF (fun _ => 0) (PP 20 2 (20 + 1 - 2))))))] _ _ := w
  refine r_top (g2 := F0 m 77 ls [.int 0]) rfl ?_
  refine b_if_eq_t C (tgt := 123) dX12_shortest_77 (by decide) (by decide) ?_
  refine lv_iinc (v := 1) (lv' := [(3, .int 1), (0, .ref a0), (1, .int 2), (2, .int x1)]) C.1 C.2.1 dX12_shortest_123 hl (k := 0) rfl (by decide) (by decide) rfl (fun ls hl => ?_)
  refine lv_goto (tgt := 66) C.1 C.2.1 dX12_shortest_126 (by decide) ?_
  refine lv_iload_n C.1 C.2.1 dX12_shortest_66 rfl (lv_at hl 0 rfl) ?_
  refine lv_iload_n C.1 C.2.1 dX12_shortest_67 rfl (lv_at hl 2 rfl) ?_
  refine b_icmp_gt_f C (tgt := 129) dX12_shortest_68 (by decide) (by decide) ?_
  refine lv_aload_n C.1 C.2.1 dX12_shortest_71 rfl (lv_at hl 1 rfl) ?_
  refine lv_iconst (v := 0) C.1 C.2.1 dX12_shortest_72 (by decide) ?_
  refine lv_iload_n C.1 C.2.1 dX12_shortest_73 rfl (lv_at hl 0 rfl) ?_
  refine r_callV C w fv_RX12_383 (c_X12_shortBy_1 l D cy a0 a1 a2 a3 a4 a5 a6 a7 a8 a9 a10 a11 a12 a13 a14 a15 a16 a17) (hl.1.trans hml.symm) [3, 0, 4] [1, 2] (wr := [(a7, .inl (cy 1, 1830, .inl (lxF (fun _ => 0) 2 20 (PP 20 2 (20 + 1 - 2))))), (a8, .inl (cy 1, 1830, .inl (lyF (fun _ => 0) 2 20 (PP 20 2 (20 + 1 - 2)))))]) ⟨rfl, rfl, rfl, rfl, by decide⟩ 0 rfl rfl rfl rfl rfl ⟨Nat.le_of_ble_eq_true rfl, Nat.le_of_ble_eq_true rfl, Nat.le_of_ble_eq_true rfl⟩ 0 0 ⟨rfl, rfl, Nat.le_of_ble_eq_true rfl, Nat.le_of_ble_eq_true rfl⟩ dX12_shortest_74 (fun u H locs hp w => ?_)
  have w : Wd D A s.heap [(a7, .inl (cy 1, 1830, .inl (lxF (fun _ => 0) 2 20 (PP 20 2 (20 + 1 - 2))))), (a8, .inl (cy 1, 1830, .inl (lyF (fun _ => 0) 2 20 (PP 20 2 (20 + 1 - 2))))), (a1, .inl (cy 1, 1868, .inl (upd (upd (upd (fun _ => 0) 1 2) 2 20) 3 120))), (a0, .inr (12, [.ref a1, .ref a2, .ref a3, .ref a4, .ref a5, .int 0, .ref a6, .int 0, .int 0, .int 0, .int 0, .int 0, .int 0, .int 0, .int 0, .int 0, .int 0, .int (-1), .ref a7, .ref a8, .int 190, .ref a9, .int 0, .ref a10, .ref a11, .ref a12, .ref a13, .ref a14, .int 0, .ref a15, .ref a16, .ref a17])), (a9, .inl (cy 2, 2465, .inr (.inl (rwF (fun _ => 0) (PP 20 2 (20 + 1 - 2))))))] _ _ := w
  refine r_top (g2 := F0 m 77 ls [.int 0]) rfl ?_
  refine b_if_eq_t C (tgt := 123) dX12_shortest_77 (by decide) (by decide) ?_
  refine lv_iinc (v := 2) (lv' := [(3, .int 2), (0, .ref a0), (1, .int 2), (2, .int x1)]) C.1 C.2.1 dX12_shortest_123 hl (k := 0) rfl (by decide) (by decide) rfl (fun ls hl => ?_)
  refine lv_goto (tgt := 66) C.1 C.2.1 dX12_shortest_126 (by decide) ?_
  refine lv_iload_n C.1 C.2.1 dX12_shortest_66 rfl (lv_at hl 0 rfl) ?_
  refine lv_iload_n C.1 C.2.1 dX12_shortest_67 rfl (lv_at hl 2 rfl) ?_
  refine b_icmp_gt_f C (tgt := 129) dX12_shortest_68 (by decide) (by decide) ?_
  refine lv_aload_n C.1 C.2.1 dX12_shortest_71 rfl (lv_at hl 1 rfl) ?_
  refine lv_iconst (v := 0) C.1 C.2.1 dX12_shortest_72 (by decide) ?_
  refine lv_iload_n C.1 C.2.1 dX12_shortest_73 rfl (lv_at hl 0 rfl) ?_
  refine r_callV C w fv_RX12_383 (c_X12_shortBy_2 l D cy a0 a1 a2 a3 a4 a5 a6 a7 a8 a9 a10 a11 a12 a13 a14 a15 a16 a17) (hl.1.trans hml.symm) [3, 2, 4] [0, 1] (wr := [(a7, .inl (cy 1, 1830, .inl (lxF (fun _ => 0) 2 20 (PP 20 2 (20 + 1 - 2))))), (a8, .inl (cy 1, 1830, .inl (lyF (fun _ => 0) 2 20 (PP 20 2 (20 + 1 - 2)))))]) ⟨rfl, rfl, rfl, rfl, by decide⟩ 0 rfl rfl rfl rfl rfl ⟨Nat.le_of_ble_eq_true rfl, Nat.le_of_ble_eq_true rfl, Nat.le_of_ble_eq_true rfl⟩ 0 0 ⟨rfl, rfl, Nat.le_of_ble_eq_true rfl, Nat.le_of_ble_eq_true rfl⟩ dX12_shortest_74 (fun u H locs hp w => ?_)
  have w : Wd D A s.heap [(a7, .inl (cy 1, 1830, .inl (lxF (fun _ => 0) 2 20 (PP 20 2 (20 + 1 - 2))))), (a8, .inl (cy 1, 1830, .inl (lyF (fun _ => 0) 2 20 (PP 20 2 (20 + 1 - 2))))), (a1, .inl (cy 1, 1868, .inl (upd (upd (upd (fun _ => 0) 1 2) 2 20) 3 120))), (a0, .inr (12, [.ref a1, .ref a2, .ref a3, .ref a4, .ref a5, .int 0, .ref a6, .int 0, .int 0, .int 0, .int 0, .int 0, .int 0, .int 0, .int 0, .int 0, .int 0, .int (-1), .ref a7, .ref a8, .int 190, .ref a9, .int 0, .ref a10, .ref a11, .ref a12, .ref a13, .ref a14, .int 0, .ref a15, .ref a16, .ref a17])), (a9, .inl (cy 2, 2465, .inr (.inl (rwF (fun _ => 0) (PP 20 2 (20 + 1 - 2))))))] _ _ := w
  refine r_top (g2 := F0 m 77 ls [.int 0]) rfl ?_
  refine b_if_eq_t C (tgt := 123) dX12_shortest_77 (by decide) (by decide) ?_
  refine lv_iinc (v := 3) (lv' := [(3, .int 3), (0, .ref a0), (1, .int 2), (2, .int x1)]) C.1 C.2.1 dX12_shortest_123 hl (k := 0) rfl (by decide) (by decide) rfl (fun ls hl => ?_)
  refine lv_goto (tgt := 66) C.1 C.2.1 dX12_shortest_126 (by decide) ?_
  refine lv_iload_n C.1 C.2.1 dX12_shortest_66 rfl (lv_at hl 0 rfl) ?_
  refine lv_iload_n C.1 C.2.1 dX12_shortest_67 rfl (lv_at hl 2 rfl) ?_
  refine b_icmp_gt_t C (tgt := 129) dX12_shortest_68 (by decide) (by decide) ?_
  refine lv_iconst (v := (-1)) C.1 C.2.1 dX12_shortest_129 (by decide) ?_
  exact r_iret C w hlocks () hr rfl rfl trivial [0, 1, 2, 3, 4] rfl rfl ⟨Nat.le_of_ble_eq_true rfl, Nat.le_of_ble_eq_true rfl⟩ dX12_shortest_130
set_option maxRecDepth 100000 in
set_option maxHeartbeats 4000000 in
theorem c_X12_shortest_9 (l : Launch) (D : va_G) (cy : Nat → ClassId) (a0 a1 a2 a3 a4 a5 a6 a7 a8 a9 a10 a11 a12 a13 a14 a15 a16 a17 : Nat) (x1 : Int32) (k0 : ¬ x1 < 0) (k1 : 1 < x1) (k2 : ¬ x1 < 10) (k3 : ¬ 13 < x1) : Ct l D cy yX12_shortest cX12_shortest 4 (some .int) 3 69 0 0 [(a0, .inr (12, [.ref a1, .ref a2, .ref a3, .ref a4, .ref a5, .int 0, .ref a6, .int 0, .int 0, .int 0, .int 0, .int 0, .int 0, .int 0, .int 0, .int 0, .int 0, .int (-1), .ref a7, .ref a8, .int 0, .ref a9, .int 0, .ref a10, .ref a11, .ref a12, .ref a13, .ref a14, .int 0, .ref a15, .ref a16, .ref a17])), (a1, .inl (cy 1, 1868, .inl (upd (upd (upd (fun _ => 0) 1 2) 2 20) 3 120))), (a7, .inl (cy 1, 1830, .inl (fun _ => 0))), (a8, .inl (cy 1, 1830, .inl (fun _ => 0))), (a9, .inl (cy 2, 2465, .inr (.inl (fun _ => 0))))] [.ref a0, .int 3, .int x1] (fun u : Unit => some (.int (-1))) (fun _ => True) (fun u : Unit => [(a7, .inl (cy 1, 1830, .inl (lxF (fun _ => 0) 2 20 (PP 20 2 (20 + 1 - 2))))), (a8, .inl (cy 1, 1830, .inl (lyF (fun _ => 0) 2 20 (PP 20 2 (20 + 1 - 2))))), (a1, .inl (cy 1, 1868, .inl (upd (upd (upd (fun _ => 0) 1 2) 2 20) 3 120))), (a0, .inr (12, [.ref a1, .ref a2, .ref a3, .ref a4, .ref a5, .int 0, .ref a6, .int 0, .int 0, .int 0, .int 0, .int 0, .int 0, .int 0, .int 0, .int 0, .int 0, .int (-1), .ref a7, .ref a8, .int 190, .ref a9, .int 0, .ref a10, .ref a11, .ref a12, .ref a13, .ref a14, .int 0, .ref a15, .ref a16, .ref a17])), (a9, .inl (cy 2, 2465, .inr (.inl (rwF (fun _ => 0) (PP 20 2 (20 + 1 - 2))))))]) := by
  refine Ct.of (by decide +kernel) (Nat.le_of_ble_eq_true rfl) ?_
  intro p e s m args below meth c A ls C hr hlocks hml hnm w hl
  have hl : lv_has ls 4 [(0, .ref a0), (1, .int 3), (2, .int x1)] := hl
  refine lv_aload_n C.1 C.2.1 dX12_shortest_0 rfl (lv_at hl 0 rfl) ?_
  refine lv_iload_n C.1 C.2.1 dX12_shortest_1 rfl (lv_at hl 1 rfl) ?_
  refine lv_i2l (v := 3) C.1 C.2.1 dX12_shortest_2 (by decide) ?_
  refine lv_lconst (v := 1) C.1 C.2.1 dX12_shortest_3 (by decide) ?_
  refine lv_ldc2 (v := 4) C.1 C.2.1 C.2.2.1 (C.2.2.2.1 _ kl_RX12_386) dX12_shortest_4 ?_
  refine r_callS C w fs_RX12_133 (c_X12_within_43 l D cy) (hl.1.trans hml.symm) [] [0, 1, 2, 3, 4] (wr := [(a0, .inr (12, [.ref a1, .ref a2, .ref a3, .ref a4, .ref a5, .int 0, .ref a6, .int 0, .int 0, .int 0, .int 0, .int 0, .int 0, .int 0, .int 0, .int 0, .int 0, .int (-1), .ref a7, .ref a8, .int 0, .ref a9, .int 0, .ref a10, .ref a11, .ref a12, .ref a13, .ref a14, .int 0, .ref a15, .ref a16, .ref a17])), (a1, .inl (cy 1, 1868, .inl (upd (upd (upd (fun _ => 0) 1 2) 2 20) 3 120))), (a7, .inl (cy 1, 1830, .inl (fun _ => 0))), (a8, .inl (cy 1, 1830, .inl (fun _ => 0))), (a9, .inl (cy 2, 2465, .inr (.inl (fun _ => 0))))]) ⟨rfl, rfl, rfl, rfl, by decide⟩ rfl rfl ⟨Nat.le_of_ble_eq_true rfl, Nat.le_of_ble_eq_true rfl, Nat.le_of_ble_eq_true rfl⟩ 0 0 ⟨rfl, rfl, Nat.le_of_ble_eq_true rfl, Nat.le_of_ble_eq_true rfl⟩ dX12_shortest_7 (fun u H locs hp w => ?_)
  have w : Wd D A s.heap [(a0, .inr (12, [.ref a1, .ref a2, .ref a3, .ref a4, .ref a5, .int 0, .ref a6, .int 0, .int 0, .int 0, .int 0, .int 0, .int 0, .int 0, .int 0, .int 0, .int 0, .int (-1), .ref a7, .ref a8, .int 0, .ref a9, .int 0, .ref a10, .ref a11, .ref a12, .ref a13, .ref a14, .int 0, .ref a15, .ref a16, .ref a17])), (a1, .inl (cy 1, 1868, .inl (upd (upd (upd (fun _ => 0) 1 2) 2 20) 3 120))), (a7, .inl (cy 1, 1830, .inl (fun _ => 0))), (a8, .inl (cy 1, 1830, .inl (fun _ => 0))), (a9, .inl (cy 2, 2465, .inr (.inl (fun _ => 0))))] _ _ := w
  refine r_top (g2 := F0 m 10 ls [.int 1, .ref a0]) rfl ?_
  refine b_if_eq_f C (tgt := 41) dX12_shortest_10 (by decide) (by decide) ?_
  refine lv_iload_n C.1 C.2.1 dX12_shortest_13 rfl (lv_at hl 2 rfl) ?_
  refine lv_i2l (v := (Int32.toInt64 x1)) C.1 C.2.1 dX12_shortest_14 rfl ?_
  refine lv_lconst (v := 0) C.1 C.2.1 dX12_shortest_15 (by decide) ?_
  refine lv_lconst (v := 1) C.1 C.2.1 dX12_shortest_16 (by decide) ?_
  refine r_callS C w fs_RX12_133 (c_X12_within_16 l D cy x1 k0 k1) (hl.1.trans hml.symm) [] [0, 1, 2, 3, 4] (wr := [(a0, .inr (12, [.ref a1, .ref a2, .ref a3, .ref a4, .ref a5, .int 0, .ref a6, .int 0, .int 0, .int 0, .int 0, .int 0, .int 0, .int 0, .int 0, .int 0, .int 0, .int (-1), .ref a7, .ref a8, .int 0, .ref a9, .int 0, .ref a10, .ref a11, .ref a12, .ref a13, .ref a14, .int 0, .ref a15, .ref a16, .ref a17])), (a1, .inl (cy 1, 1868, .inl (upd (upd (upd (fun _ => 0) 1 2) 2 20) 3 120))), (a7, .inl (cy 1, 1830, .inl (fun _ => 0))), (a8, .inl (cy 1, 1830, .inl (fun _ => 0))), (a9, .inl (cy 2, 2465, .inr (.inl (fun _ => 0))))]) ⟨rfl, rfl, rfl, rfl, by decide⟩ rfl rfl ⟨Nat.le_of_ble_eq_true rfl, Nat.le_of_ble_eq_true rfl, Nat.le_of_ble_eq_true rfl⟩ 0 0 ⟨rfl, rfl, Nat.le_of_ble_eq_true rfl, Nat.le_of_ble_eq_true rfl⟩ dX12_shortest_17 (fun u H locs hp w => ?_)
  have w : Wd D A s.heap [(a0, .inr (12, [.ref a1, .ref a2, .ref a3, .ref a4, .ref a5, .int 0, .ref a6, .int 0, .int 0, .int 0, .int 0, .int 0, .int 0, .int 0, .int 0, .int 0, .int 0, .int (-1), .ref a7, .ref a8, .int 0, .ref a9, .int 0, .ref a10, .ref a11, .ref a12, .ref a13, .ref a14, .int 0, .ref a15, .ref a16, .ref a17])), (a1, .inl (cy 1, 1868, .inl (upd (upd (upd (fun _ => 0) 1 2) 2 20) 3 120))), (a7, .inl (cy 1, 1830, .inl (fun _ => 0))), (a8, .inl (cy 1, 1830, .inl (fun _ => 0))), (a9, .inl (cy 2, 2465, .inr (.inl (fun _ => 0))))] _ _ := w
  refine r_top (g2 := F0 m 20 ls [.int 0, .ref a0]) rfl ?_
  refine b_if_ne_f C (tgt := 37) dX12_shortest_20 (by decide) (by decide) ?_
  refine lv_iload_n C.1 C.2.1 dX12_shortest_23 rfl (lv_at hl 2 rfl) ?_
  refine lv_i2l (v := (Int32.toInt64 x1)) C.1 C.2.1 dX12_shortest_24 rfl ?_
  refine lv_ldc2 (v := 10) C.1 C.2.1 C.2.2.1 (C.2.2.2.1 _ kl_RX12_388) dX12_shortest_25 ?_
  refine lv_ldc2 (v := 13) C.1 C.2.1 C.2.2.1 (C.2.2.2.1 _ kl_RX12_390) dX12_shortest_28 ?_
  refine r_callS C w fs_RX12_133 (c_X12_within_40 l D cy x1 k2 k3) (hl.1.trans hml.symm) [] [0, 1, 2, 3, 4] (wr := [(a0, .inr (12, [.ref a1, .ref a2, .ref a3, .ref a4, .ref a5, .int 0, .ref a6, .int 0, .int 0, .int 0, .int 0, .int 0, .int 0, .int 0, .int 0, .int 0, .int 0, .int (-1), .ref a7, .ref a8, .int 0, .ref a9, .int 0, .ref a10, .ref a11, .ref a12, .ref a13, .ref a14, .int 0, .ref a15, .ref a16, .ref a17])), (a1, .inl (cy 1, 1868, .inl (upd (upd (upd (fun _ => 0) 1 2) 2 20) 3 120))), (a7, .inl (cy 1, 1830, .inl (fun _ => 0))), (a8, .inl (cy 1, 1830, .inl (fun _ => 0))), (a9, .inl (cy 2, 2465, .inr (.inl (fun _ => 0))))]) ⟨rfl, rfl, rfl, rfl, by decide⟩ rfl rfl ⟨Nat.le_of_ble_eq_true rfl, Nat.le_of_ble_eq_true rfl, Nat.le_of_ble_eq_true rfl⟩ 0 0 ⟨rfl, rfl, Nat.le_of_ble_eq_true rfl, Nat.le_of_ble_eq_true rfl⟩ dX12_shortest_31 (fun u H locs hp w => ?_)
  have w : Wd D A s.heap [(a0, .inr (12, [.ref a1, .ref a2, .ref a3, .ref a4, .ref a5, .int 0, .ref a6, .int 0, .int 0, .int 0, .int 0, .int 0, .int 0, .int 0, .int 0, .int 0, .int 0, .int (-1), .ref a7, .ref a8, .int 0, .ref a9, .int 0, .ref a10, .ref a11, .ref a12, .ref a13, .ref a14, .int 0, .ref a15, .ref a16, .ref a17])), (a1, .inl (cy 1, 1868, .inl (upd (upd (upd (fun _ => 0) 1 2) 2 20) 3 120))), (a7, .inl (cy 1, 1830, .inl (fun _ => 0))), (a8, .inl (cy 1, 1830, .inl (fun _ => 0))), (a9, .inl (cy 2, 2465, .inr (.inl (fun _ => 0))))] _ _ := w
  refine r_top (g2 := F0 m 34 ls [.int 1, .ref a0]) rfl ?_
  refine b_if_eq_f C (tgt := 41) dX12_shortest_34 (by decide) (by decide) ?_
  refine lv_iconst (v := 0) C.1 C.2.1 dX12_shortest_37 (by decide) ?_
  refine lv_goto (tgt := 42) C.1 C.2.1 dX12_shortest_38 (by decide) ?_
  refine r_put C w 0 rfl rfl 5 (by decide) fl_RX12_71 rfl (ty := .int) (tyX12_ok 5 (by decide)) rfl rfl (Nat.le_of_ble_eq_true rfl) [(a0, .inr (12, [.ref a1, .ref a2, .ref a3, .ref a4, .ref a5, .int 0, .ref a6, .int 0, .int 0, .int 0, .int 0, .int 0, .int 0, .int 0, .int 0, .int 0, .int 0, .int (-1), .ref a7, .ref a8, .int 0, .ref a9, .int 0, .ref a10, .ref a11, .ref a12, .ref a13, .ref a14, .int 0, .ref a15, .ref a16, .ref a17])), (a1, .inl (cy 1, 1868, .inl (upd (upd (upd (fun _ => 0) 1 2) 2 20) 3 120))), (a7, .inl (cy 1, 1830, .inl (fun _ => 0))), (a8, .inl (cy 1, 1830, .inl (fun _ => 0))), (a9, .inl (cy 2, 2465, .inr (.inl (fun _ => 0))))] rfl dX12_shortest_42 (fun H locs w => ?_)
  refine lv_aload_n C.1 C.2.1 dX12_shortest_45 rfl (lv_at hl 0 rfl) ?_
  refine r_get C w 0 rfl rfl 5 (by decide) fl_RX12_71 (v := .int 0) rfl dX12_shortest_46 ?_
  refine b_if_le_t C (tgt := 54) dX12_shortest_49 (by decide) (by decide) ?_
  refine lv_aload_n C.1 C.2.1 dX12_shortest_54 rfl (lv_at hl 0 rfl) ?_
  refine r_callV C w fv_RX12_253 (c_X12_layPairs_0 l D cy a0 a1 a2 a3 a4 a5 a6 a7 a8 a9 a10 a11 a12 a13 a14 a15 a16 a17) (hl.1.trans hml.symm) [0, 1, 2, 3] [4] (wr := [(a9, .inl (cy 2, 2465, .inr (.inl (fun _ => 0))))]) ⟨rfl, rfl, rfl, rfl, by decide⟩ 0 rfl rfl rfl rfl rfl ⟨Nat.le_of_ble_eq_true rfl, Nat.le_of_ble_eq_true rfl, Nat.le_of_ble_eq_true rfl⟩ 0 0 ⟨rfl, rfl, Nat.le_of_ble_eq_true rfl, Nat.le_of_ble_eq_true rfl⟩ dX12_shortest_55 (fun u H locs hp w => ?_)
  have w : Wd D A s.heap [(a9, .inl (cy 2, 2465, .inr (.inl (fun _ => 0)))), (a0, .inr (12, [.ref a1, .ref a2, .ref a3, .ref a4, .ref a5, .int 0, .ref a6, .int 0, .int 0, .int 0, .int 0, .int 0, .int 0, .int 0, .int 0, .int 0, .int 0, .int (-1), .ref a7, .ref a8, .int 190, .ref a9, .int 0, .ref a10, .ref a11, .ref a12, .ref a13, .ref a14, .int 0, .ref a15, .ref a16, .ref a17])), (a1, .inl (cy 1, 1868, .inl (upd (upd (upd (fun _ => 0) 1 2) 2 20) 3 120))), (a7, .inl (cy 1, 1830, .inl (lxF (fun _ => 0) 2 20 (PP 20 2 (20 + 1 - 2))))), (a8, .inl (cy 1, 1830, .inl (lyF (fun _ => 0) 2 20 (PP 20 2 (20 + 1 - 2)))))] _ _ := w
  refine r_top (g2 := F0 m 58 ls []) rfl ?_
  refine lv_aload_n C.1 C.2.1 dX12_shortest_58 rfl (lv_at hl 0 rfl) ?_
  refine lv_iconst (v := 0) C.1 C.2.1 dX12_shortest_59 (by decide) ?_
  refine lv_iconst (v := 1) C.1 C.2.1 dX12_shortest_60 (by decide) ?_
  refine r_callV C w fv_RX12_323 (c_X12_fills_2 l D cy a0 a1 a2 a3 a4 a5 a6 a7 a8 a9 a10 a11 a12 a13 a14 a15 a16 a17) (hl.1.trans hml.symm) [1, 0] [2, 3, 4] (wr := [(a1, .inl (cy 1, 1868, .inl (upd (upd (upd (fun _ => 0) 1 2) 2 20) 3 120))), (a7, .inl (cy 1, 1830, .inl (lxF (fun _ => 0) 2 20 (PP 20 2 (20 + 1 - 2))))), (a8, .inl (cy 1, 1830, .inl (lyF (fun _ => 0) 2 20 (PP 20 2 (20 + 1 - 2)))))]) ⟨rfl, rfl, rfl, rfl, by decide⟩ 0 rfl rfl rfl rfl rfl ⟨Nat.le_of_ble_eq_true rfl, Nat.le_of_ble_eq_true rfl, Nat.le_of_ble_eq_true rfl⟩ 0 0 ⟨rfl, rfl, Nat.le_of_ble_eq_true rfl, Nat.le_of_ble_eq_true rfl⟩ dX12_shortest_61 (fun u H locs hp w => ?_)
  have w : Wd D A s.heap [(a1, .inl (cy 1, 1868, .inl (upd (upd (upd (fun _ => 0) 1 2) 2 20) 3 120))), (a7, .inl (cy 1, 1830, .inl (lxF (fun _ => 0) 2 20 (PP 20 2 (20 + 1 - 2))))), (a8, .inl (cy 1, 1830, .inl (lyF (fun _ => 0) 2 20 (PP 20 2 (20 + 1 - 2))))), (a0, .inr (12, [.ref a1, .ref a2, .ref a3, .ref a4, .ref a5, .int 0, .ref a6, .int 0, .int 0, .int 0, .int 0, .int 0, .int 0, .int 0, .int 0, .int 0, .int 0, .int (-1), .ref a7, .ref a8, .int 190, .ref a9, .int 0, .ref a10, .ref a11, .ref a12, .ref a13, .ref a14, .int 0, .ref a15, .ref a16, .ref a17])), (a9, .inl (cy 2, 2465, .inr (.inl (rwF (fun _ => 0) (PP 20 2 (20 + 1 - 2))))))] _ _ := w
  refine r_top (g2 := F0 m 64 ls []) rfl ?_
  refine lv_iconst (v := 0) C.1 C.2.1 dX12_shortest_64 (by decide) ?_
  refine lv_istore_n (lv' := [(3, .int 0), (0, .ref a0), (1, .int 3), (2, .int x1)]) C.1 C.2.1 dX12_shortest_65 rfl hl (by decide) rfl (fun ls hl => ?_)
  refine lv_iload_n C.1 C.2.1 dX12_shortest_66 rfl (lv_at hl 0 rfl) ?_
  refine lv_iload_n C.1 C.2.1 dX12_shortest_67 rfl (lv_at hl 2 rfl) ?_
  refine b_icmp_gt_f C (tgt := 129) dX12_shortest_68 (by decide) (by decide) ?_
  refine lv_aload_n C.1 C.2.1 dX12_shortest_71 rfl (lv_at hl 1 rfl) ?_
  refine lv_iconst (v := 0) C.1 C.2.1 dX12_shortest_72 (by decide) ?_
  refine lv_iload_n C.1 C.2.1 dX12_shortest_73 rfl (lv_at hl 0 rfl) ?_
  refine r_callV C w fv_RX12_383 (c_X12_shortBy_0 l D cy a0 a1 a2 a3 a4 a5 a6 a7 a8 a9 a10 a11 a12 a13 a14 a15 a16 a17) (hl.1.trans hml.symm) [3, 4] [0, 1, 2] (wr := [(a1, .inl (cy 1, 1868, .inl (upd (upd (upd (fun _ => 0) 1 2) 2 20) 3 120))), (a7, .inl (cy 1, 1830, .inl (lxF (fun _ => 0) 2 20 (PP 20 2 (20 + 1 - 2))))), (a8, .inl (cy 1, 1830, .inl (lyF (fun _ => 0) 2 20 (PP 20 2 (20 + 1 - 2)))))]) ⟨rfl, rfl, rfl, rfl, by decide⟩ 0 rfl rfl rfl rfl rfl ⟨Nat.le_of_ble_eq_true rfl, Nat.le_of_ble_eq_true rfl, Nat.le_of_ble_eq_true rfl⟩ 0 0 ⟨rfl, rfl, Nat.le_of_ble_eq_true rfl, Nat.le_of_ble_eq_true rfl⟩ dX12_shortest_74 (fun u H locs hp w => ?_)
  have w : Wd D A s.heap [(a1, .inl (cy 1, 1868, .inl (upd (upd (upd (fun _ => 0) 1 2) 2 20) 3 120))), (a7, .inl (cy 1, 1830, .inl (lxF (fun _ => 0) 2 20 (PP 20 2 (20 + 1 - 2))))), (a8, .inl (cy 1, 1830, .inl (lyF (fun _ => 0) 2 20 (PP 20 2 (20 + 1 - 2))))), (a0, .inr (12, [.ref a1, .ref a2, .ref a3, .ref a4, .ref a5, .int 0, .ref a6, .int 0, .int 0, .int 0, .int 0, .int 0, .int 0, .int 0, .int 0, .int 0, .int 0, .int (-1), .ref a7, .ref a8, .int 190, .ref a9, .int 0, .ref a10, .ref a11, .ref a12, .ref a13, .ref a14, .int 0, .ref a15, .ref a16, .ref a17])), (a9, .inl (cy 2, 2465, .inr (.inl (rwF (fun _ => 0) (PP 20 2 (20 + 1 - 2))))))] _ _ := w
  refine r_top (g2 := F0 m 77 ls [.int 0]) rfl ?_
  refine b_if_eq_t C (tgt := 123) dX12_shortest_77 (by decide) (by decide) ?_
  refine lv_iinc (v := 1) (lv' := [(3, .int 1), (0, .ref a0), (1, .int 3), (2, .int x1)]) C.1 C.2.1 dX12_shortest_123 hl (k := 0) rfl (by decide) (by decide) rfl (fun ls hl => ?_)
  refine lv_goto (tgt := 66) C.1 C.2.1 dX12_shortest_126 (by decide) ?_
  refine lv_iload_n C.1 C.2.1 dX12_shortest_66 rfl (lv_at hl 0 rfl) ?_
  refine lv_iload_n C.1 C.2.1 dX12_shortest_67 rfl (lv_at hl 2 rfl) ?_
  refine b_icmp_gt_f C (tgt := 129) dX12_shortest_68 (by decide) (by decide) ?_
  refine lv_aload_n C.1 C.2.1 dX12_shortest_71 rfl (lv_at hl 1 rfl) ?_
  refine lv_iconst (v := 0) C.1 C.2.1 dX12_shortest_72 (by decide) ?_
  refine lv_iload_n C.1 C.2.1 dX12_shortest_73 rfl (lv_at hl 0 rfl) ?_
  refine r_callV C w fv_RX12_383 (c_X12_shortBy_1 l D cy a0 a1 a2 a3 a4 a5 a6 a7 a8 a9 a10 a11 a12 a13 a14 a15 a16 a17) (hl.1.trans hml.symm) [3, 0, 4] [1, 2] (wr := [(a7, .inl (cy 1, 1830, .inl (lxF (fun _ => 0) 2 20 (PP 20 2 (20 + 1 - 2))))), (a8, .inl (cy 1, 1830, .inl (lyF (fun _ => 0) 2 20 (PP 20 2 (20 + 1 - 2)))))]) ⟨rfl, rfl, rfl, rfl, by decide⟩ 0 rfl rfl rfl rfl rfl ⟨Nat.le_of_ble_eq_true rfl, Nat.le_of_ble_eq_true rfl, Nat.le_of_ble_eq_true rfl⟩ 0 0 ⟨rfl, rfl, Nat.le_of_ble_eq_true rfl, Nat.le_of_ble_eq_true rfl⟩ dX12_shortest_74 (fun u H locs hp w => ?_)
  have w : Wd D A s.heap [(a7, .inl (cy 1, 1830, .inl (lxF (fun _ => 0) 2 20 (PP 20 2 (20 + 1 - 2))))), (a8, .inl (cy 1, 1830, .inl (lyF (fun _ => 0) 2 20 (PP 20 2 (20 + 1 - 2))))), (a1, .inl (cy 1, 1868, .inl (upd (upd (upd (fun _ => 0) 1 2) 2 20) 3 120))), (a0, .inr (12, [.ref a1, .ref a2, .ref a3, .ref a4, .ref a5, .int 0, .ref a6, .int 0, .int 0, .int 0, .int 0, .int 0, .int 0, .int 0, .int 0, .int 0, .int 0, .int (-1), .ref a7, .ref a8, .int 190, .ref a9, .int 0, .ref a10, .ref a11, .ref a12, .ref a13, .ref a14, .int 0, .ref a15, .ref a16, .ref a17])), (a9, .inl (cy 2, 2465, .inr (.inl (rwF (fun _ => 0) (PP 20 2 (20 + 1 - 2))))))] _ _ := w
  refine r_top (g2 := F0 m 77 ls [.int 0]) rfl ?_
  refine b_if_eq_t C (tgt := 123) dX12_shortest_77 (by decide) (by decide) ?_
  refine lv_iinc (v := 2) (lv' := [(3, .int 2), (0, .ref a0), (1, .int 3), (2, .int x1)]) C.1 C.2.1 dX12_shortest_123 hl (k := 0) rfl (by decide) (by decide) rfl (fun ls hl => ?_)
  refine lv_goto (tgt := 66) C.1 C.2.1 dX12_shortest_126 (by decide) ?_
  refine lv_iload_n C.1 C.2.1 dX12_shortest_66 rfl (lv_at hl 0 rfl) ?_
  refine lv_iload_n C.1 C.2.1 dX12_shortest_67 rfl (lv_at hl 2 rfl) ?_
  refine b_icmp_gt_f C (tgt := 129) dX12_shortest_68 (by decide) (by decide) ?_
  refine lv_aload_n C.1 C.2.1 dX12_shortest_71 rfl (lv_at hl 1 rfl) ?_
  refine lv_iconst (v := 0) C.1 C.2.1 dX12_shortest_72 (by decide) ?_
  refine lv_iload_n C.1 C.2.1 dX12_shortest_73 rfl (lv_at hl 0 rfl) ?_
  refine r_callV C w fv_RX12_383 (c_X12_shortBy_2 l D cy a0 a1 a2 a3 a4 a5 a6 a7 a8 a9 a10 a11 a12 a13 a14 a15 a16 a17) (hl.1.trans hml.symm) [3, 2, 4] [0, 1] (wr := [(a7, .inl (cy 1, 1830, .inl (lxF (fun _ => 0) 2 20 (PP 20 2 (20 + 1 - 2))))), (a8, .inl (cy 1, 1830, .inl (lyF (fun _ => 0) 2 20 (PP 20 2 (20 + 1 - 2)))))]) ⟨rfl, rfl, rfl, rfl, by decide⟩ 0 rfl rfl rfl rfl rfl ⟨Nat.le_of_ble_eq_true rfl, Nat.le_of_ble_eq_true rfl, Nat.le_of_ble_eq_true rfl⟩ 0 0 ⟨rfl, rfl, Nat.le_of_ble_eq_true rfl, Nat.le_of_ble_eq_true rfl⟩ dX12_shortest_74 (fun u H locs hp w => ?_)
  have w : Wd D A s.heap [(a7, .inl (cy 1, 1830, .inl (lxF (fun _ => 0) 2 20 (PP 20 2 (20 + 1 - 2))))), (a8, .inl (cy 1, 1830, .inl (lyF (fun _ => 0) 2 20 (PP 20 2 (20 + 1 - 2))))), (a1, .inl (cy 1, 1868, .inl (upd (upd (upd (fun _ => 0) 1 2) 2 20) 3 120))), (a0, .inr (12, [.ref a1, .ref a2, .ref a3, .ref a4, .ref a5, .int 0, .ref a6, .int 0, .int 0, .int 0, .int 0, .int 0, .int 0, .int 0, .int 0, .int 0, .int 0, .int (-1), .ref a7, .ref a8, .int 190, .ref a9, .int 0, .ref a10, .ref a11, .ref a12, .ref a13, .ref a14, .int 0, .ref a15, .ref a16, .ref a17])), (a9, .inl (cy 2, 2465, .inr (.inl (rwF (fun _ => 0) (PP 20 2 (20 + 1 - 2))))))] _ _ := w
  refine r_top (g2 := F0 m 77 ls [.int 0]) rfl ?_
  refine b_if_eq_t C (tgt := 123) dX12_shortest_77 (by decide) (by decide) ?_
  refine lv_iinc (v := 3) (lv' := [(3, .int 3), (0, .ref a0), (1, .int 3), (2, .int x1)]) C.1 C.2.1 dX12_shortest_123 hl (k := 0) rfl (by decide) (by decide) rfl (fun ls hl => ?_)
  refine lv_goto (tgt := 66) C.1 C.2.1 dX12_shortest_126 (by decide) ?_
  refine lv_iload_n C.1 C.2.1 dX12_shortest_66 rfl (lv_at hl 0 rfl) ?_
  refine lv_iload_n C.1 C.2.1 dX12_shortest_67 rfl (lv_at hl 2 rfl) ?_
  refine b_icmp_gt_f C (tgt := 129) dX12_shortest_68 (by decide) (by decide) ?_
  refine lv_aload_n C.1 C.2.1 dX12_shortest_71 rfl (lv_at hl 1 rfl) ?_
  refine lv_iconst (v := 0) C.1 C.2.1 dX12_shortest_72 (by decide) ?_
  refine lv_iload_n C.1 C.2.1 dX12_shortest_73 rfl (lv_at hl 0 rfl) ?_
  refine r_callV C w fv_RX12_383 (c_X12_shortBy_3 l D cy a0 a1 a2 a3 a4 a5 a6 a7 a8 a9 a10 a11 a12 a13 a14 a15 a16 a17) (hl.1.trans hml.symm) [3, 2, 4] [0, 1] (wr := [(a7, .inl (cy 1, 1830, .inl (lxF (fun _ => 0) 2 20 (PP 20 2 (20 + 1 - 2))))), (a8, .inl (cy 1, 1830, .inl (lyF (fun _ => 0) 2 20 (PP 20 2 (20 + 1 - 2)))))]) ⟨rfl, rfl, rfl, rfl, by decide⟩ 0 rfl rfl rfl rfl rfl ⟨Nat.le_of_ble_eq_true rfl, Nat.le_of_ble_eq_true rfl, Nat.le_of_ble_eq_true rfl⟩ 0 0 ⟨rfl, rfl, Nat.le_of_ble_eq_true rfl, Nat.le_of_ble_eq_true rfl⟩ dX12_shortest_74 (fun u H locs hp w => ?_)
  have w : Wd D A s.heap [(a7, .inl (cy 1, 1830, .inl (lxF (fun _ => 0) 2 20 (PP 20 2 (20 + 1 - 2))))), (a8, .inl (cy 1, 1830, .inl (lyF (fun _ => 0) 2 20 (PP 20 2 (20 + 1 - 2))))), (a1, .inl (cy 1, 1868, .inl (upd (upd (upd (fun _ => 0) 1 2) 2 20) 3 120))), (a0, .inr (12, [.ref a1, .ref a2, .ref a3, .ref a4, .ref a5, .int 0, .ref a6, .int 0, .int 0, .int 0, .int 0, .int 0, .int 0, .int 0, .int 0, .int 0, .int 0, .int (-1), .ref a7, .ref a8, .int 190, .ref a9, .int 0, .ref a10, .ref a11, .ref a12, .ref a13, .ref a14, .int 0, .ref a15, .ref a16, .ref a17])), (a9, .inl (cy 2, 2465, .inr (.inl (rwF (fun _ => 0) (PP 20 2 (20 + 1 - 2))))))] _ _ := w
  refine r_top (g2 := F0 m 77 ls [.int 0]) rfl ?_
  refine b_if_eq_t C (tgt := 123) dX12_shortest_77 (by decide) (by decide) ?_
  refine lv_iinc (v := 4) (lv' := [(3, .int 4), (0, .ref a0), (1, .int 3), (2, .int x1)]) C.1 C.2.1 dX12_shortest_123 hl (k := 0) rfl (by decide) (by decide) rfl (fun ls hl => ?_)
  refine lv_goto (tgt := 66) C.1 C.2.1 dX12_shortest_126 (by decide) ?_
  refine lv_iload_n C.1 C.2.1 dX12_shortest_66 rfl (lv_at hl 0 rfl) ?_
  refine lv_iload_n C.1 C.2.1 dX12_shortest_67 rfl (lv_at hl 2 rfl) ?_
  refine b_icmp_gt_t C (tgt := 129) dX12_shortest_68 (by decide) (by decide) ?_
  refine lv_iconst (v := (-1)) C.1 C.2.1 dX12_shortest_129 (by decide) ?_
  exact r_iret C w hlocks () hr rfl rfl trivial [0, 1, 2, 3, 4] rfl rfl ⟨Nat.le_of_ble_eq_true rfl, Nat.le_of_ble_eq_true rfl⟩ dX12_shortest_130
set_option maxRecDepth 100000 in
set_option maxHeartbeats 4000000 in
theorem c_X12_shortest_10 (l : Launch) (D : va_G) (cy : Nat → ClassId) (a0 a1 a2 a3 a4 a5 a6 a7 a8 a9 a10 a11 a12 a13 a14 a15 a16 a17 : Nat) (x1 : Int32) (k0 : ¬ x1 < 0) (k1 : 1 < x1) (k2 : ¬ x1 < 10) (k3 : ¬ 13 < x1) : Ct l D cy yX12_shortest cX12_shortest 4 (some .int) 3 69 0 0 [(a0, .inr (12, [.ref a1, .ref a2, .ref a3, .ref a4, .ref a5, .int 0, .ref a6, .int 0, .int 0, .int 0, .int 0, .int 0, .int 0, .int 0, .int 0, .int 0, .int 0, .int (-1), .ref a7, .ref a8, .int 0, .ref a9, .int 0, .ref a10, .ref a11, .ref a12, .ref a13, .ref a14, .int 0, .ref a15, .ref a16, .ref a17])), (a1, .inl (cy 1, 1868, .inl (upd (upd (upd (fun _ => 0) 1 2) 2 20) 3 120))), (a7, .inl (cy 1, 1830, .inl (fun _ => 0))), (a8, .inl (cy 1, 1830, .inl (fun _ => 0))), (a9, .inl (cy 2, 2465, .inr (.inl (fun _ => 0))))] [.ref a0, .int 4, .int x1] (fun u : Unit => some (.int (-1))) (fun _ => True) (fun u : Unit => [(a7, .inl (cy 1, 1830, .inl (lxF (fun _ => 0) 2 20 (PP 20 2 (20 + 1 - 2))))), (a8, .inl (cy 1, 1830, .inl (lyF (fun _ => 0) 2 20 (PP 20 2 (20 + 1 - 2))))), (a1, .inl (cy 1, 1868, .inl (upd (upd (upd (fun _ => 0) 1 2) 2 20) 3 120))), (a0, .inr (12, [.ref a1, .ref a2, .ref a3, .ref a4, .ref a5, .int 0, .ref a6, .int 0, .int 0, .int 0, .int 0, .int 0, .int 0, .int 0, .int 0, .int 0, .int 0, .int (-1), .ref a7, .ref a8, .int 190, .ref a9, .int 0, .ref a10, .ref a11, .ref a12, .ref a13, .ref a14, .int 0, .ref a15, .ref a16, .ref a17])), (a9, .inl (cy 2, 2465, .inr (.inl (rwF (fun _ => 0) (PP 20 2 (20 + 1 - 2))))))]) := by
  refine Ct.of (by decide +kernel) (Nat.le_of_ble_eq_true rfl) ?_
  intro p e s m args below meth c A ls C hr hlocks hml hnm w hl
  have hl : lv_has ls 4 [(0, .ref a0), (1, .int 4), (2, .int x1)] := hl
  refine lv_aload_n C.1 C.2.1 dX12_shortest_0 rfl (lv_at hl 0 rfl) ?_
  refine lv_iload_n C.1 C.2.1 dX12_shortest_1 rfl (lv_at hl 1 rfl) ?_
  refine lv_i2l (v := 4) C.1 C.2.1 dX12_shortest_2 (by decide) ?_
  refine lv_lconst (v := 1) C.1 C.2.1 dX12_shortest_3 (by decide) ?_
  refine lv_ldc2 (v := 4) C.1 C.2.1 C.2.2.1 (C.2.2.2.1 _ kl_RX12_386) dX12_shortest_4 ?_
  refine r_callS C w fs_RX12_133 (c_X12_within_44 l D cy) (hl.1.trans hml.symm) [] [0, 1, 2, 3, 4] (wr := [(a0, .inr (12, [.ref a1, .ref a2, .ref a3, .ref a4, .ref a5, .int 0, .ref a6, .int 0, .int 0, .int 0, .int 0, .int 0, .int 0, .int 0, .int 0, .int 0, .int 0, .int (-1), .ref a7, .ref a8, .int 0, .ref a9, .int 0, .ref a10, .ref a11, .ref a12, .ref a13, .ref a14, .int 0, .ref a15, .ref a16, .ref a17])), (a1, .inl (cy 1, 1868, .inl (upd (upd (upd (fun _ => 0) 1 2) 2 20) 3 120))), (a7, .inl (cy 1, 1830, .inl (fun _ => 0))), (a8, .inl (cy 1, 1830, .inl (fun _ => 0))), (a9, .inl (cy 2, 2465, .inr (.inl (fun _ => 0))))]) ⟨rfl, rfl, rfl, rfl, by decide⟩ rfl rfl ⟨Nat.le_of_ble_eq_true rfl, Nat.le_of_ble_eq_true rfl, Nat.le_of_ble_eq_true rfl⟩ 0 0 ⟨rfl, rfl, Nat.le_of_ble_eq_true rfl, Nat.le_of_ble_eq_true rfl⟩ dX12_shortest_7 (fun u H locs hp w => ?_)
  have w : Wd D A s.heap [(a0, .inr (12, [.ref a1, .ref a2, .ref a3, .ref a4, .ref a5, .int 0, .ref a6, .int 0, .int 0, .int 0, .int 0, .int 0, .int 0, .int 0, .int 0, .int 0, .int 0, .int (-1), .ref a7, .ref a8, .int 0, .ref a9, .int 0, .ref a10, .ref a11, .ref a12, .ref a13, .ref a14, .int 0, .ref a15, .ref a16, .ref a17])), (a1, .inl (cy 1, 1868, .inl (upd (upd (upd (fun _ => 0) 1 2) 2 20) 3 120))), (a7, .inl (cy 1, 1830, .inl (fun _ => 0))), (a8, .inl (cy 1, 1830, .inl (fun _ => 0))), (a9, .inl (cy 2, 2465, .inr (.inl (fun _ => 0))))] _ _ := w
  refine r_top (g2 := F0 m 10 ls [.int 1, .ref a0]) rfl ?_
  refine b_if_eq_f C (tgt := 41) dX12_shortest_10 (by decide) (by decide) ?_
  refine lv_iload_n C.1 C.2.1 dX12_shortest_13 rfl (lv_at hl 2 rfl) ?_
  refine lv_i2l (v := (Int32.toInt64 x1)) C.1 C.2.1 dX12_shortest_14 rfl ?_
  refine lv_lconst (v := 0) C.1 C.2.1 dX12_shortest_15 (by decide) ?_
  refine lv_lconst (v := 1) C.1 C.2.1 dX12_shortest_16 (by decide) ?_
  refine r_callS C w fs_RX12_133 (c_X12_within_16 l D cy x1 k0 k1) (hl.1.trans hml.symm) [] [0, 1, 2, 3, 4] (wr := [(a0, .inr (12, [.ref a1, .ref a2, .ref a3, .ref a4, .ref a5, .int 0, .ref a6, .int 0, .int 0, .int 0, .int 0, .int 0, .int 0, .int 0, .int 0, .int 0, .int 0, .int (-1), .ref a7, .ref a8, .int 0, .ref a9, .int 0, .ref a10, .ref a11, .ref a12, .ref a13, .ref a14, .int 0, .ref a15, .ref a16, .ref a17])), (a1, .inl (cy 1, 1868, .inl (upd (upd (upd (fun _ => 0) 1 2) 2 20) 3 120))), (a7, .inl (cy 1, 1830, .inl (fun _ => 0))), (a8, .inl (cy 1, 1830, .inl (fun _ => 0))), (a9, .inl (cy 2, 2465, .inr (.inl (fun _ => 0))))]) ⟨rfl, rfl, rfl, rfl, by decide⟩ rfl rfl ⟨Nat.le_of_ble_eq_true rfl, Nat.le_of_ble_eq_true rfl, Nat.le_of_ble_eq_true rfl⟩ 0 0 ⟨rfl, rfl, Nat.le_of_ble_eq_true rfl, Nat.le_of_ble_eq_true rfl⟩ dX12_shortest_17 (fun u H locs hp w => ?_)
  have w : Wd D A s.heap [(a0, .inr (12, [.ref a1, .ref a2, .ref a3, .ref a4, .ref a5, .int 0, .ref a6, .int 0, .int 0, .int 0, .int 0, .int 0, .int 0, .int 0, .int 0, .int 0, .int 0, .int (-1), .ref a7, .ref a8, .int 0, .ref a9, .int 0, .ref a10, .ref a11, .ref a12, .ref a13, .ref a14, .int 0, .ref a15, .ref a16, .ref a17])), (a1, .inl (cy 1, 1868, .inl (upd (upd (upd (fun _ => 0) 1 2) 2 20) 3 120))), (a7, .inl (cy 1, 1830, .inl (fun _ => 0))), (a8, .inl (cy 1, 1830, .inl (fun _ => 0))), (a9, .inl (cy 2, 2465, .inr (.inl (fun _ => 0))))] _ _ := w
  refine r_top (g2 := F0 m 20 ls [.int 0, .ref a0]) rfl ?_
  refine b_if_ne_f C (tgt := 37) dX12_shortest_20 (by decide) (by decide) ?_
  refine lv_iload_n C.1 C.2.1 dX12_shortest_23 rfl (lv_at hl 2 rfl) ?_
  refine lv_i2l (v := (Int32.toInt64 x1)) C.1 C.2.1 dX12_shortest_24 rfl ?_
  refine lv_ldc2 (v := 10) C.1 C.2.1 C.2.2.1 (C.2.2.2.1 _ kl_RX12_388) dX12_shortest_25 ?_
  refine lv_ldc2 (v := 13) C.1 C.2.1 C.2.2.1 (C.2.2.2.1 _ kl_RX12_390) dX12_shortest_28 ?_
  refine r_callS C w fs_RX12_133 (c_X12_within_40 l D cy x1 k2 k3) (hl.1.trans hml.symm) [] [0, 1, 2, 3, 4] (wr := [(a0, .inr (12, [.ref a1, .ref a2, .ref a3, .ref a4, .ref a5, .int 0, .ref a6, .int 0, .int 0, .int 0, .int 0, .int 0, .int 0, .int 0, .int 0, .int 0, .int 0, .int (-1), .ref a7, .ref a8, .int 0, .ref a9, .int 0, .ref a10, .ref a11, .ref a12, .ref a13, .ref a14, .int 0, .ref a15, .ref a16, .ref a17])), (a1, .inl (cy 1, 1868, .inl (upd (upd (upd (fun _ => 0) 1 2) 2 20) 3 120))), (a7, .inl (cy 1, 1830, .inl (fun _ => 0))), (a8, .inl (cy 1, 1830, .inl (fun _ => 0))), (a9, .inl (cy 2, 2465, .inr (.inl (fun _ => 0))))]) ⟨rfl, rfl, rfl, rfl, by decide⟩ rfl rfl ⟨Nat.le_of_ble_eq_true rfl, Nat.le_of_ble_eq_true rfl, Nat.le_of_ble_eq_true rfl⟩ 0 0 ⟨rfl, rfl, Nat.le_of_ble_eq_true rfl, Nat.le_of_ble_eq_true rfl⟩ dX12_shortest_31 (fun u H locs hp w => ?_)
  have w : Wd D A s.heap [(a0, .inr (12, [.ref a1, .ref a2, .ref a3, .ref a4, .ref a5, .int 0, .ref a6, .int 0, .int 0, .int 0, .int 0, .int 0, .int 0, .int 0, .int 0, .int 0, .int 0, .int (-1), .ref a7, .ref a8, .int 0, .ref a9, .int 0, .ref a10, .ref a11, .ref a12, .ref a13, .ref a14, .int 0, .ref a15, .ref a16, .ref a17])), (a1, .inl (cy 1, 1868, .inl (upd (upd (upd (fun _ => 0) 1 2) 2 20) 3 120))), (a7, .inl (cy 1, 1830, .inl (fun _ => 0))), (a8, .inl (cy 1, 1830, .inl (fun _ => 0))), (a9, .inl (cy 2, 2465, .inr (.inl (fun _ => 0))))] _ _ := w
  refine r_top (g2 := F0 m 34 ls [.int 1, .ref a0]) rfl ?_
  refine b_if_eq_f C (tgt := 41) dX12_shortest_34 (by decide) (by decide) ?_
  refine lv_iconst (v := 0) C.1 C.2.1 dX12_shortest_37 (by decide) ?_
  refine lv_goto (tgt := 42) C.1 C.2.1 dX12_shortest_38 (by decide) ?_
  refine r_put C w 0 rfl rfl 5 (by decide) fl_RX12_71 rfl (ty := .int) (tyX12_ok 5 (by decide)) rfl rfl (Nat.le_of_ble_eq_true rfl) [(a0, .inr (12, [.ref a1, .ref a2, .ref a3, .ref a4, .ref a5, .int 0, .ref a6, .int 0, .int 0, .int 0, .int 0, .int 0, .int 0, .int 0, .int 0, .int 0, .int 0, .int (-1), .ref a7, .ref a8, .int 0, .ref a9, .int 0, .ref a10, .ref a11, .ref a12, .ref a13, .ref a14, .int 0, .ref a15, .ref a16, .ref a17])), (a1, .inl (cy 1, 1868, .inl (upd (upd (upd (fun _ => 0) 1 2) 2 20) 3 120))), (a7, .inl (cy 1, 1830, .inl (fun _ => 0))), (a8, .inl (cy 1, 1830, .inl (fun _ => 0))), (a9, .inl (cy 2, 2465, .inr (.inl (fun _ => 0))))] rfl dX12_shortest_42 (fun H locs w => ?_)
  refine lv_aload_n C.1 C.2.1 dX12_shortest_45 rfl (lv_at hl 0 rfl) ?_
  refine r_get C w 0 rfl rfl 5 (by decide) fl_RX12_71 (v := .int 0) rfl dX12_shortest_46 ?_
  refine b_if_le_t C (tgt := 54) dX12_shortest_49 (by decide) (by decide) ?_
  refine lv_aload_n C.1 C.2.1 dX12_shortest_54 rfl (lv_at hl 0 rfl) ?_
  refine r_callV C w fv_RX12_253 (c_X12_layPairs_0 l D cy a0 a1 a2 a3 a4 a5 a6 a7 a8 a9 a10 a11 a12 a13 a14 a15 a16 a17) (hl.1.trans hml.symm) [0, 1, 2, 3] [4] (wr := [(a9, .inl (cy 2, 2465, .inr (.inl (fun _ => 0))))]) ⟨rfl, rfl, rfl, rfl, by decide⟩ 0 rfl rfl rfl rfl rfl ⟨Nat.le_of_ble_eq_true rfl, Nat.le_of_ble_eq_true rfl, Nat.le_of_ble_eq_true rfl⟩ 0 0 ⟨rfl, rfl, Nat.le_of_ble_eq_true rfl, Nat.le_of_ble_eq_true rfl⟩ dX12_shortest_55 (fun u H locs hp w => ?_)
  have w : Wd D A s.heap [(a9, .inl (cy 2, 2465, .inr (.inl (fun _ => 0)))), (a0, .inr (12, [.ref a1, .ref a2, .ref a3, .ref a4, .ref a5, .int 0, .ref a6, .int 0, .int 0, .int 0, .int 0, .int 0, .int 0, .int 0, .int 0, .int 0, .int 0, .int (-1), .ref a7, .ref a8, .int 190, .ref a9, .int 0, .ref a10, .ref a11, .ref a12, .ref a13, .ref a14, .int 0, .ref a15, .ref a16, .ref a17])), (a1, .inl (cy 1, 1868, .inl (upd (upd (upd (fun _ => 0) 1 2) 2 20) 3 120))), (a7, .inl (cy 1, 1830, .inl (lxF (fun _ => 0) 2 20 (PP 20 2 (20 + 1 - 2))))), (a8, .inl (cy 1, 1830, .inl (lyF (fun _ => 0) 2 20 (PP 20 2 (20 + 1 - 2)))))] _ _ := w
  refine r_top (g2 := F0 m 58 ls []) rfl ?_
  refine lv_aload_n C.1 C.2.1 dX12_shortest_58 rfl (lv_at hl 0 rfl) ?_
  refine lv_iconst (v := 0) C.1 C.2.1 dX12_shortest_59 (by decide) ?_
  refine lv_iconst (v := 1) C.1 C.2.1 dX12_shortest_60 (by decide) ?_
  refine r_callV C w fv_RX12_323 (c_X12_fills_2 l D cy a0 a1 a2 a3 a4 a5 a6 a7 a8 a9 a10 a11 a12 a13 a14 a15 a16 a17) (hl.1.trans hml.symm) [1, 0] [2, 3, 4] (wr := [(a1, .inl (cy 1, 1868, .inl (upd (upd (upd (fun _ => 0) 1 2) 2 20) 3 120))), (a7, .inl (cy 1, 1830, .inl (lxF (fun _ => 0) 2 20 (PP 20 2 (20 + 1 - 2))))), (a8, .inl (cy 1, 1830, .inl (lyF (fun _ => 0) 2 20 (PP 20 2 (20 + 1 - 2)))))]) ⟨rfl, rfl, rfl, rfl, by decide⟩ 0 rfl rfl rfl rfl rfl ⟨Nat.le_of_ble_eq_true rfl, Nat.le_of_ble_eq_true rfl, Nat.le_of_ble_eq_true rfl⟩ 0 0 ⟨rfl, rfl, Nat.le_of_ble_eq_true rfl, Nat.le_of_ble_eq_true rfl⟩ dX12_shortest_61 (fun u H locs hp w => ?_)
  have w : Wd D A s.heap [(a1, .inl (cy 1, 1868, .inl (upd (upd (upd (fun _ => 0) 1 2) 2 20) 3 120))), (a7, .inl (cy 1, 1830, .inl (lxF (fun _ => 0) 2 20 (PP 20 2 (20 + 1 - 2))))), (a8, .inl (cy 1, 1830, .inl (lyF (fun _ => 0) 2 20 (PP 20 2 (20 + 1 - 2))))), (a0, .inr (12, [.ref a1, .ref a2, .ref a3, .ref a4, .ref a5, .int 0, .ref a6, .int 0, .int 0, .int 0, .int 0, .int 0, .int 0, .int 0, .int 0, .int 0, .int 0, .int (-1), .ref a7, .ref a8, .int 190, .ref a9, .int 0, .ref a10, .ref a11, .ref a12, .ref a13, .ref a14, .int 0, .ref a15, .ref a16, .ref a17])), (a9, .inl (cy 2, 2465, .inr (.inl (rwF (fun _ => 0) (PP 20 2 (20 + 1 - 2))))))] _ _ := w
  refine r_top (g2 := F0 m 64 ls []) rfl ?_
  refine lv_iconst (v := 0) C.1 C.2.1 dX12_shortest_64 (by decide) ?_
  refine lv_istore_n (lv' := [(3, .int 0), (0, .ref a0), (1, .int 4), (2, .int x1)]) C.1 C.2.1 dX12_shortest_65 rfl hl (by decide) rfl (fun ls hl => ?_)
  refine lv_iload_n C.1 C.2.1 dX12_shortest_66 rfl (lv_at hl 0 rfl) ?_
  refine lv_iload_n C.1 C.2.1 dX12_shortest_67 rfl (lv_at hl 2 rfl) ?_
  refine b_icmp_gt_f C (tgt := 129) dX12_shortest_68 (by decide) (by decide) ?_
  refine lv_aload_n C.1 C.2.1 dX12_shortest_71 rfl (lv_at hl 1 rfl) ?_
  refine lv_iconst (v := 0) C.1 C.2.1 dX12_shortest_72 (by decide) ?_
  refine lv_iload_n C.1 C.2.1 dX12_shortest_73 rfl (lv_at hl 0 rfl) ?_
  refine r_callV C w fv_RX12_383 (c_X12_shortBy_0 l D cy a0 a1 a2 a3 a4 a5 a6 a7 a8 a9 a10 a11 a12 a13 a14 a15 a16 a17) (hl.1.trans hml.symm) [3, 4] [0, 1, 2] (wr := [(a1, .inl (cy 1, 1868, .inl (upd (upd (upd (fun _ => 0) 1 2) 2 20) 3 120))), (a7, .inl (cy 1, 1830, .inl (lxF (fun _ => 0) 2 20 (PP 20 2 (20 + 1 - 2))))), (a8, .inl (cy 1, 1830, .inl (lyF (fun _ => 0) 2 20 (PP 20 2 (20 + 1 - 2)))))]) ⟨rfl, rfl, rfl, rfl, by decide⟩ 0 rfl rfl rfl rfl rfl ⟨Nat.le_of_ble_eq_true rfl, Nat.le_of_ble_eq_true rfl, Nat.le_of_ble_eq_true rfl⟩ 0 0 ⟨rfl, rfl, Nat.le_of_ble_eq_true rfl, Nat.le_of_ble_eq_true rfl⟩ dX12_shortest_74 (fun u H locs hp w => ?_)
  have w : Wd D A s.heap [(a1, .inl (cy 1, 1868, .inl (upd (upd (upd (fun _ => 0) 1 2) 2 20) 3 120))), (a7, .inl (cy 1, 1830, .inl (lxF (fun _ => 0) 2 20 (PP 20 2 (20 + 1 - 2))))), (a8, .inl (cy 1, 1830, .inl (lyF (fun _ => 0) 2 20 (PP 20 2 (20 + 1 - 2))))), (a0, .inr (12, [.ref a1, .ref a2, .ref a3, .ref a4, .ref a5, .int 0, .ref a6, .int 0, .int 0, .int 0, .int 0, .int 0, .int 0, .int 0, .int 0, .int 0, .int 0, .int (-1), .ref a7, .ref a8, .int 190, .ref a9, .int 0, .ref a10, .ref a11, .ref a12, .ref a13, .ref a14, .int 0, .ref a15, .ref a16, .ref a17])), (a9, .inl (cy 2, 2465, .inr (.inl (rwF (fun _ => 0) (PP 20 2 (20 + 1 - 2))))))] _ _ := w
  refine r_top (g2 := F0 m 77 ls [.int 0]) rfl ?_
  refine b_if_eq_t C (tgt := 123) dX12_shortest_77 (by decide) (by decide) ?_
  refine lv_iinc (v := 1) (lv' := [(3, .int 1), (0, .ref a0), (1, .int 4), (2, .int x1)]) C.1 C.2.1 dX12_shortest_123 hl (k := 0) rfl (by decide) (by decide) rfl (fun ls hl => ?_)
  refine lv_goto (tgt := 66) C.1 C.2.1 dX12_shortest_126 (by decide) ?_
  refine lv_iload_n C.1 C.2.1 dX12_shortest_66 rfl (lv_at hl 0 rfl) ?_
  refine lv_iload_n C.1 C.2.1 dX12_shortest_67 rfl (lv_at hl 2 rfl) ?_
  refine b_icmp_gt_f C (tgt := 129) dX12_shortest_68 (by decide) (by decide) ?_
  refine lv_aload_n C.1 C.2.1 dX12_shortest_71 rfl (lv_at hl 1 rfl) ?_
  refine lv_iconst (v := 0) C.1 C.2.1 dX12_shortest_72 (by decide) ?_
  refine lv_iload_n C.1 C.2.1 dX12_shortest_73 rfl (lv_at hl 0 rfl) ?_
  refine r_callV C w fv_RX12_383 (c_X12_shortBy_1 l D cy a0 a1 a2 a3 a4 a5 a6 a7 a8 a9 a10 a11 a12 a13 a14 a15 a16 a17) (hl.1.trans hml.symm) [3, 0, 4] [1, 2] (wr := [(a7, .inl (cy 1, 1830, .inl (lxF (fun _ => 0) 2 20 (PP 20 2 (20 + 1 - 2))))), (a8, .inl (cy 1, 1830, .inl (lyF (fun _ => 0) 2 20 (PP 20 2 (20 + 1 - 2)))))]) ⟨rfl, rfl, rfl, rfl, by decide⟩ 0 rfl rfl rfl rfl rfl ⟨Nat.le_of_ble_eq_true rfl, Nat.le_of_ble_eq_true rfl, Nat.le_of_ble_eq_true rfl⟩ 0 0 ⟨rfl, rfl, Nat.le_of_ble_eq_true rfl, Nat.le_of_ble_eq_true rfl⟩ dX12_shortest_74 (fun u H locs hp w => ?_)
  have w : Wd D A s.heap [(a7, .inl (cy 1, 1830, .inl (lxF (fun _ => 0) 2 20 (PP 20 2 (20 + 1 - 2))))), (a8, .inl (cy 1, 1830, .inl (lyF (fun _ => 0) 2 20 (PP 20 2 (20 + 1 - 2))))), (a1, .inl (cy 1, 1868, .inl (upd (upd (upd (fun _ => 0) 1 2) 2 20) 3 120))), (a0, .inr (12, [.ref a1, .ref a2, .ref a3, .ref a4, .ref a5, .int 0, .ref a6, .int 0, .int 0, .int 0, .int 0, .int 0, .int 0, .int 0, .int 0, .int 0, .int 0, .int (-1), .ref a7, .ref a8, .int 190, .ref a9, .int 0, .ref a10, .ref a11, .ref a12, .ref a13, .ref a14, .int 0, .ref a15, .ref a16, .ref a17])), (a9, .inl (cy 2, 2465, .inr (.inl (rwF (fun _ => 0) (PP 20 2 (20 + 1 - 2))))))] _ _ := w
  refine r_top (g2 := F0 m 77 ls [.int 0]) rfl ?_
  refine b_if_eq_t C (tgt := 123) dX12_shortest_77 (by decide) (by decide) ?_
  refine lv_iinc (v := 2) (lv' := [(3, .int 2), (0, .ref a0), (1, .int 4), (2, .int x1)]) C.1 C.2.1 dX12_shortest_123 hl (k := 0) rfl (by decide) (by decide) rfl (fun ls hl => ?_)
  refine lv_goto (tgt := 66) C.1 C.2.1 dX12_shortest_126 (by decide) ?_
  refine lv_iload_n C.1 C.2.1 dX12_shortest_66 rfl (lv_at hl 0 rfl) ?_
  refine lv_iload_n C.1 C.2.1 dX12_shortest_67 rfl (lv_at hl 2 rfl) ?_
  refine b_icmp_gt_f C (tgt := 129) dX12_shortest_68 (by decide) (by decide) ?_
  refine lv_aload_n C.1 C.2.1 dX12_shortest_71 rfl (lv_at hl 1 rfl) ?_
  refine lv_iconst (v := 0) C.1 C.2.1 dX12_shortest_72 (by decide) ?_
  refine lv_iload_n C.1 C.2.1 dX12_shortest_73 rfl (lv_at hl 0 rfl) ?_
  refine r_callV C w fv_RX12_383 (c_X12_shortBy_2 l D cy a0 a1 a2 a3 a4 a5 a6 a7 a8 a9 a10 a11 a12 a13 a14 a15 a16 a17) (hl.1.trans hml.symm) [3, 2, 4] [0, 1] (wr := [(a7, .inl (cy 1, 1830, .inl (lxF (fun _ => 0) 2 20 (PP 20 2 (20 + 1 - 2))))), (a8, .inl (cy 1, 1830, .inl (lyF (fun _ => 0) 2 20 (PP 20 2 (20 + 1 - 2)))))]) ⟨rfl, rfl, rfl, rfl, by decide⟩ 0 rfl rfl rfl rfl rfl ⟨Nat.le_of_ble_eq_true rfl, Nat.le_of_ble_eq_true rfl, Nat.le_of_ble_eq_true rfl⟩ 0 0 ⟨rfl, rfl, Nat.le_of_ble_eq_true rfl, Nat.le_of_ble_eq_true rfl⟩ dX12_shortest_74 (fun u H locs hp w => ?_)
  have w : Wd D A s.heap [(a7, .inl (cy 1, 1830, .inl (lxF (fun _ => 0) 2 20 (PP 20 2 (20 + 1 - 2))))), (a8, .inl (cy 1, 1830, .inl (lyF (fun _ => 0) 2 20 (PP 20 2 (20 + 1 - 2))))), (a1, .inl (cy 1, 1868, .inl (upd (upd (upd (fun _ => 0) 1 2) 2 20) 3 120))), (a0, .inr (12, [.ref a1, .ref a2, .ref a3, .ref a4, .ref a5, .int 0, .ref a6, .int 0, .int 0, .int 0, .int 0, .int 0, .int 0, .int 0, .int 0, .int 0, .int 0, .int (-1), .ref a7, .ref a8, .int 190, .ref a9, .int 0, .ref a10, .ref a11, .ref a12, .ref a13, .ref a14, .int 0, .ref a15, .ref a16, .ref a17])), (a9, .inl (cy 2, 2465, .inr (.inl (rwF (fun _ => 0) (PP 20 2 (20 + 1 - 2))))))] _ _ := w
  refine r_top (g2 := F0 m 77 ls [.int 0]) rfl ?_
  refine b_if_eq_t C (tgt := 123) dX12_shortest_77 (by decide) (by decide) ?_
  refine lv_iinc (v := 3) (lv' := [(3, .int 3), (0, .ref a0), (1, .int 4), (2, .int x1)]) C.1 C.2.1 dX12_shortest_123 hl (k := 0) rfl (by decide) (by decide) rfl (fun ls hl => ?_)
  refine lv_goto (tgt := 66) C.1 C.2.1 dX12_shortest_126 (by decide) ?_
  refine lv_iload_n C.1 C.2.1 dX12_shortest_66 rfl (lv_at hl 0 rfl) ?_
  refine lv_iload_n C.1 C.2.1 dX12_shortest_67 rfl (lv_at hl 2 rfl) ?_
  refine b_icmp_gt_f C (tgt := 129) dX12_shortest_68 (by decide) (by decide) ?_
  refine lv_aload_n C.1 C.2.1 dX12_shortest_71 rfl (lv_at hl 1 rfl) ?_
  refine lv_iconst (v := 0) C.1 C.2.1 dX12_shortest_72 (by decide) ?_
  refine lv_iload_n C.1 C.2.1 dX12_shortest_73 rfl (lv_at hl 0 rfl) ?_
  refine r_callV C w fv_RX12_383 (c_X12_shortBy_3 l D cy a0 a1 a2 a3 a4 a5 a6 a7 a8 a9 a10 a11 a12 a13 a14 a15 a16 a17) (hl.1.trans hml.symm) [3, 2, 4] [0, 1] (wr := [(a7, .inl (cy 1, 1830, .inl (lxF (fun _ => 0) 2 20 (PP 20 2 (20 + 1 - 2))))), (a8, .inl (cy 1, 1830, .inl (lyF (fun _ => 0) 2 20 (PP 20 2 (20 + 1 - 2)))))]) ⟨rfl, rfl, rfl, rfl, by decide⟩ 0 rfl rfl rfl rfl rfl ⟨Nat.le_of_ble_eq_true rfl, Nat.le_of_ble_eq_true rfl, Nat.le_of_ble_eq_true rfl⟩ 0 0 ⟨rfl, rfl, Nat.le_of_ble_eq_true rfl, Nat.le_of_ble_eq_true rfl⟩ dX12_shortest_74 (fun u H locs hp w => ?_)
  have w : Wd D A s.heap [(a7, .inl (cy 1, 1830, .inl (lxF (fun _ => 0) 2 20 (PP 20 2 (20 + 1 - 2))))), (a8, .inl (cy 1, 1830, .inl (lyF (fun _ => 0) 2 20 (PP 20 2 (20 + 1 - 2))))), (a1, .inl (cy 1, 1868, .inl (upd (upd (upd (fun _ => 0) 1 2) 2 20) 3 120))), (a0, .inr (12, [.ref a1, .ref a2, .ref a3, .ref a4, .ref a5, .int 0, .ref a6, .int 0, .int 0, .int 0, .int 0, .int 0, .int 0, .int 0, .int 0, .int 0, .int 0, .int (-1), .ref a7, .ref a8, .int 190, .ref a9, .int 0, .ref a10, .ref a11, .ref a12, .ref a13, .ref a14, .int 0, .ref a15, .ref a16, .ref a17])), (a9, .inl (cy 2, 2465, .inr (.inl (rwF (fun _ => 0) (PP 20 2 (20 + 1 - 2))))))] _ _ := w
  refine r_top (g2 := F0 m 77 ls [.int 0]) rfl ?_
  refine b_if_eq_t C (tgt := 123) dX12_shortest_77 (by decide) (by decide) ?_
  refine lv_iinc (v := 4) (lv' := [(3, .int 4), (0, .ref a0), (1, .int 4), (2, .int x1)]) C.1 C.2.1 dX12_shortest_123 hl (k := 0) rfl (by decide) (by decide) rfl (fun ls hl => ?_)
  refine lv_goto (tgt := 66) C.1 C.2.1 dX12_shortest_126 (by decide) ?_
  refine lv_iload_n C.1 C.2.1 dX12_shortest_66 rfl (lv_at hl 0 rfl) ?_
  refine lv_iload_n C.1 C.2.1 dX12_shortest_67 rfl (lv_at hl 2 rfl) ?_
  refine b_icmp_gt_f C (tgt := 129) dX12_shortest_68 (by decide) (by decide) ?_
  refine lv_aload_n C.1 C.2.1 dX12_shortest_71 rfl (lv_at hl 1 rfl) ?_
  refine lv_iconst (v := 0) C.1 C.2.1 dX12_shortest_72 (by decide) ?_
  refine lv_iload_n C.1 C.2.1 dX12_shortest_73 rfl (lv_at hl 0 rfl) ?_
  refine r_callV C w fv_RX12_383 (c_X12_shortBy_4 l D cy a0 a1 a2 a3 a4 a5 a6 a7 a8 a9 a10 a11 a12 a13 a14 a15 a16 a17) (hl.1.trans hml.symm) [3, 2, 4] [0, 1] (wr := [(a7, .inl (cy 1, 1830, .inl (lxF (fun _ => 0) 2 20 (PP 20 2 (20 + 1 - 2))))), (a8, .inl (cy 1, 1830, .inl (lyF (fun _ => 0) 2 20 (PP 20 2 (20 + 1 - 2)))))]) ⟨rfl, rfl, rfl, rfl, by decide⟩ 0 rfl rfl rfl rfl rfl ⟨Nat.le_of_ble_eq_true rfl, Nat.le_of_ble_eq_true rfl, Nat.le_of_ble_eq_true rfl⟩ 0 0 ⟨rfl, rfl, Nat.le_of_ble_eq_true rfl, Nat.le_of_ble_eq_true rfl⟩ dX12_shortest_74 (fun u H locs hp w => ?_)
  have w : Wd D A s.heap [(a7, .inl (cy 1, 1830, .inl (lxF (fun _ => 0) 2 20 (PP 20 2 (20 + 1 - 2))))), (a8, .inl (cy 1, 1830, .inl (lyF (fun _ => 0) 2 20 (PP 20 2 (20 + 1 - 2))))), (a1, .inl (cy 1, 1868, .inl (upd (upd (upd (fun _ => 0) 1 2) 2 20) 3 120))), (a0, .inr (12, [.ref a1, .ref a2, .ref a3, .ref a4, .ref a5, .int 0, .ref a6, .int 0, .int 0, .int 0, .int 0, .int 0, .int 0, .int 0, .int 0, .int 0, .int 0, .int (-1), .ref a7, .ref a8, .int 190, .ref a9, .int 0, .ref a10, .ref a11, .ref a12, .ref a13, .ref a14, .int 0, .ref a15, .ref a16, .ref a17])), (a9, .inl (cy 2, 2465, .inr (.inl (rwF (fun _ => 0) (PP 20 2 (20 + 1 - 2))))))] _ _ := w
  refine r_top (g2 := F0 m 77 ls [.int 0]) rfl ?_
  refine b_if_eq_t C (tgt := 123) dX12_shortest_77 (by decide) (by decide) ?_
  refine lv_iinc (v := 5) (lv' := [(3, .int 5), (0, .ref a0), (1, .int 4), (2, .int x1)]) C.1 C.2.1 dX12_shortest_123 hl (k := 0) rfl (by decide) (by decide) rfl (fun ls hl => ?_)
  refine lv_goto (tgt := 66) C.1 C.2.1 dX12_shortest_126 (by decide) ?_
  refine lv_iload_n C.1 C.2.1 dX12_shortest_66 rfl (lv_at hl 0 rfl) ?_
  refine lv_iload_n C.1 C.2.1 dX12_shortest_67 rfl (lv_at hl 2 rfl) ?_
  refine b_icmp_gt_t C (tgt := 129) dX12_shortest_68 (by decide) (by decide) ?_
  refine lv_iconst (v := (-1)) C.1 C.2.1 dX12_shortest_129 (by decide) ?_
  exact r_iret C w hlocks () hr rfl rfl trivial [0, 1, 2, 3, 4] rfl rfl ⟨Nat.le_of_ble_eq_true rfl, Nat.le_of_ble_eq_true rfl⟩ dX12_shortest_130
set_option maxRecDepth 100000 in
set_option maxHeartbeats 4000000 in
theorem c_X12_shortest_11 (l : Launch) (D : va_G) (cy : Nat → ClassId) (a0 a1 a2 a3 a4 a5 a6 a7 a8 a9 a10 a11 a12 a13 a14 a15 a16 a17 : Nat) (x0 : Int32) (x1 : Int32) (k0 : ¬ x0 < 1) (k1 : ¬ 4 < x0) (k2 : ¬ x1 < 0) (k3 : 1 < x1) (k4 : ¬ x1 < 10) (k5 : 13 < x1) : Ct l D cy yX12_shortest cX12_shortest 4 (some .int) 1 25 0 0 [(a0, .inr (12, [.ref a1, .ref a2, .ref a3, .ref a4, .ref a5, .int 0, .ref a6, .int 0, .int 0, .int 0, .int 0, .int 0, .int 0, .int 0, .int 0, .int 0, .int 0, .int (-1), .ref a7, .ref a8, .int 0, .ref a9, .int 0, .ref a10, .ref a11, .ref a12, .ref a13, .ref a14, .int 0, .ref a15, .ref a16, .ref a17]))] [.ref a0, .int x0, .int x1] (fun u : Unit => some (.int 0)) (fun _ => True) (fun u : Unit => [(a0, .inr (12, [.ref a1, .ref a2, .ref a3, .ref a4, .ref a5, .int 1, .ref a6, .int 0, .int 0, .int 0, .int 0, .int 0, .int 0, .int 0, .int 0, .int 0, .int 0, .int (-1), .ref a7, .ref a8, .int 0, .ref a9, .int 0, .ref a10, .ref a11, .ref a12, .ref a13, .ref a14, .int 0, .ref a15, .ref a16, .ref a17]))]) := by
  refine Ct.of (by decide +kernel) (Nat.le_of_ble_eq_true rfl) ?_
  intro p e s m args below meth c A ls C hr hlocks hml hnm w hl
  have hl : lv_has ls 4 [(0, .ref a0), (1, .int x0), (2, .int x1)] := hl
  refine lv_aload_n C.1 C.2.1 dX12_shortest_0 rfl (lv_at hl 0 rfl) ?_
  refine lv_iload_n C.1 C.2.1 dX12_shortest_1 rfl (lv_at hl 1 rfl) ?_
  refine lv_i2l (v := (Int32.toInt64 x0)) C.1 C.2.1 dX12_shortest_2 rfl ?_
  refine lv_lconst (v := 1) C.1 C.2.1 dX12_shortest_3 (by decide) ?_
  refine lv_ldc2 (v := 4) C.1 C.2.1 C.2.2.1 (C.2.2.2.1 _ kl_RX12_386) dX12_shortest_4 ?_
  refine r_callS C w fs_RX12_133 (c_X12_within_37 l D cy x0 k0 k1) (hl.1.trans hml.symm) [] [0] (wr := [(a0, .inr (12, [.ref a1, .ref a2, .ref a3, .ref a4, .ref a5, .int 0, .ref a6, .int 0, .int 0, .int 0, .int 0, .int 0, .int 0, .int 0, .int 0, .int 0, .int 0, .int (-1), .ref a7, .ref a8, .int 0, .ref a9, .int 0, .ref a10, .ref a11, .ref a12, .ref a13, .ref a14, .int 0, .ref a15, .ref a16, .ref a17]))]) ⟨rfl, rfl, rfl, rfl, by decide⟩ rfl rfl ⟨Nat.le_of_ble_eq_true rfl, Nat.le_of_ble_eq_true rfl, Nat.le_of_ble_eq_true rfl⟩ 0 0 ⟨rfl, rfl, Nat.le_of_ble_eq_true rfl, Nat.le_of_ble_eq_true rfl⟩ dX12_shortest_7 (fun u H locs hp w => ?_)
  have w : Wd D A s.heap [(a0, .inr (12, [.ref a1, .ref a2, .ref a3, .ref a4, .ref a5, .int 0, .ref a6, .int 0, .int 0, .int 0, .int 0, .int 0, .int 0, .int 0, .int 0, .int 0, .int 0, .int (-1), .ref a7, .ref a8, .int 0, .ref a9, .int 0, .ref a10, .ref a11, .ref a12, .ref a13, .ref a14, .int 0, .ref a15, .ref a16, .ref a17]))] _ _ := w
  refine r_top (g2 := F0 m 10 ls [.int 1, .ref a0]) rfl ?_
  refine b_if_eq_f C (tgt := 41) dX12_shortest_10 (by decide) (by decide) ?_
  refine lv_iload_n C.1 C.2.1 dX12_shortest_13 rfl (lv_at hl 2 rfl) ?_
  refine lv_i2l (v := (Int32.toInt64 x1)) C.1 C.2.1 dX12_shortest_14 rfl ?_
  refine lv_lconst (v := 0) C.1 C.2.1 dX12_shortest_15 (by decide) ?_
  refine lv_lconst (v := 1) C.1 C.2.1 dX12_shortest_16 (by decide) ?_
  refine r_callS C w fs_RX12_133 (c_X12_within_16 l D cy x1 k2 k3) (hl.1.trans hml.symm) [] [0] (wr := [(a0, .inr (12, [.ref a1, .ref a2, .ref a3, .ref a4, .ref a5, .int 0, .ref a6, .int 0, .int 0, .int 0, .int 0, .int 0, .int 0, .int 0, .int 0, .int 0, .int 0, .int (-1), .ref a7, .ref a8, .int 0, .ref a9, .int 0, .ref a10, .ref a11, .ref a12, .ref a13, .ref a14, .int 0, .ref a15, .ref a16, .ref a17]))]) ⟨rfl, rfl, rfl, rfl, by decide⟩ rfl rfl ⟨Nat.le_of_ble_eq_true rfl, Nat.le_of_ble_eq_true rfl, Nat.le_of_ble_eq_true rfl⟩ 0 0 ⟨rfl, rfl, Nat.le_of_ble_eq_true rfl, Nat.le_of_ble_eq_true rfl⟩ dX12_shortest_17 (fun u H locs hp w => ?_)
  have w : Wd D A s.heap [(a0, .inr (12, [.ref a1, .ref a2, .ref a3, .ref a4, .ref a5, .int 0, .ref a6, .int 0, .int 0, .int 0, .int 0, .int 0, .int 0, .int 0, .int 0, .int 0, .int 0, .int (-1), .ref a7, .ref a8, .int 0, .ref a9, .int 0, .ref a10, .ref a11, .ref a12, .ref a13, .ref a14, .int 0, .ref a15, .ref a16, .ref a17]))] _ _ := w
  refine r_top (g2 := F0 m 20 ls [.int 0, .ref a0]) rfl ?_
  refine b_if_ne_f C (tgt := 37) dX12_shortest_20 (by decide) (by decide) ?_
  refine lv_iload_n C.1 C.2.1 dX12_shortest_23 rfl (lv_at hl 2 rfl) ?_
  refine lv_i2l (v := (Int32.toInt64 x1)) C.1 C.2.1 dX12_shortest_24 rfl ?_
  refine lv_ldc2 (v := 10) C.1 C.2.1 C.2.2.1 (C.2.2.2.1 _ kl_RX12_388) dX12_shortest_25 ?_
  refine lv_ldc2 (v := 13) C.1 C.2.1 C.2.2.1 (C.2.2.2.1 _ kl_RX12_390) dX12_shortest_28 ?_
  refine r_callS C w fs_RX12_133 (c_X12_within_39 l D cy x1 k4 k5) (hl.1.trans hml.symm) [] [0] (wr := [(a0, .inr (12, [.ref a1, .ref a2, .ref a3, .ref a4, .ref a5, .int 0, .ref a6, .int 0, .int 0, .int 0, .int 0, .int 0, .int 0, .int 0, .int 0, .int 0, .int 0, .int (-1), .ref a7, .ref a8, .int 0, .ref a9, .int 0, .ref a10, .ref a11, .ref a12, .ref a13, .ref a14, .int 0, .ref a15, .ref a16, .ref a17]))]) ⟨rfl, rfl, rfl, rfl, by decide⟩ rfl rfl ⟨Nat.le_of_ble_eq_true rfl, Nat.le_of_ble_eq_true rfl, Nat.le_of_ble_eq_true rfl⟩ 0 0 ⟨rfl, rfl, Nat.le_of_ble_eq_true rfl, Nat.le_of_ble_eq_true rfl⟩ dX12_shortest_31 (fun u H locs hp w => ?_)
  have w : Wd D A s.heap [(a0, .inr (12, [.ref a1, .ref a2, .ref a3, .ref a4, .ref a5, .int 0, .ref a6, .int 0, .int 0, .int 0, .int 0, .int 0, .int 0, .int 0, .int 0, .int 0, .int 0, .int (-1), .ref a7, .ref a8, .int 0, .ref a9, .int 0, .ref a10, .ref a11, .ref a12, .ref a13, .ref a14, .int 0, .ref a15, .ref a16, .ref a17]))] _ _ := w
  refine r_top (g2 := F0 m 34 ls [.int 0, .ref a0]) rfl ?_
  refine b_if_eq_t C (tgt := 41) dX12_shortest_34 (by decide) (by decide) ?_
  refine lv_iconst (v := 1) C.1 C.2.1 dX12_shortest_41 (by decide) ?_
  refine r_put C w 0 rfl rfl 5 (by decide) fl_RX12_71 rfl (ty := .int) (tyX12_ok 5 (by decide)) rfl rfl (Nat.le_of_ble_eq_true rfl) [(a0, .inr (12, [.ref a1, .ref a2, .ref a3, .ref a4, .ref a5, .int 1, .ref a6, .int 0, .int 0, .int 0, .int 0, .int 0, .int 0, .int 0, .int 0, .int 0, .int 0, .int (-1), .ref a7, .ref a8, .int 0, .ref a9, .int 0, .ref a10, .ref a11, .ref a12, .ref a13, .ref a14, .int 0, .ref a15, .ref a16, .ref a17]))] rfl dX12_shortest_42 (fun H locs w => ?_)
  refine lv_aload_n C.1 C.2.1 dX12_shortest_45 rfl (lv_at hl 0 rfl) ?_
  refine r_get C w 0 rfl rfl 5 (by decide) fl_RX12_71 (v := .int 1) rfl dX12_shortest_46 ?_
  refine b_if_le_f C (tgt := 54) dX12_shortest_49 (by decide) (by decide) ?_
  refine lv_iconst (v := 0) C.1 C.2.1 dX12_shortest_52 (by decide) ?_
  exact r_iret C w hlocks () hr rfl rfl trivial [0] rfl rfl ⟨Nat.le_of_ble_eq_true rfl, Nat.le_of_ble_eq_true rfl⟩ dX12_shortest_53
set_option maxRecDepth 100000 in
set_option maxHeartbeats 4000000 in
theorem c_X12_shortest_12 (l : Launch) (D : va_G) (cy : Nat → ClassId) (a0 a1 a2 a3 a4 a5 a6 a7 a8 a9 a10 a11 a12 a13 a14 a15 a16 a17 : Nat) (x0 : Int32) (x1 : Int32) (k0 : ¬ x0 < 1) (k1 : 4 < x0) : Ct l D cy yX12_shortest cX12_shortest 4 (some .int) 1 25 0 0 [(a0, .inr (12, [.ref a1, .ref a2, .ref a3, .ref a4, .ref a5, .int 0, .ref a6, .int 0, .int 0, .int 0, .int 0, .int 0, .int 0, .int 0, .int 0, .int 0, .int 0, .int (-1), .ref a7, .ref a8, .int 0, .ref a9, .int 0, .ref a10, .ref a11, .ref a12, .ref a13, .ref a14, .int 0, .ref a15, .ref a16, .ref a17]))] [.ref a0, .int x0, .int x1] (fun u : Unit => some (.int 0)) (fun _ => True) (fun u : Unit => [(a0, .inr (12, [.ref a1, .ref a2, .ref a3, .ref a4, .ref a5, .int 1, .ref a6, .int 0, .int 0, .int 0, .int 0, .int 0, .int 0, .int 0, .int 0, .int 0, .int 0, .int (-1), .ref a7, .ref a8, .int 0, .ref a9, .int 0, .ref a10, .ref a11, .ref a12, .ref a13, .ref a14, .int 0, .ref a15, .ref a16, .ref a17]))]) := by
  refine Ct.of (by decide +kernel) (Nat.le_of_ble_eq_true rfl) ?_
  intro p e s m args below meth c A ls C hr hlocks hml hnm w hl
  have hl : lv_has ls 4 [(0, .ref a0), (1, .int x0), (2, .int x1)] := hl
  refine lv_aload_n C.1 C.2.1 dX12_shortest_0 rfl (lv_at hl 0 rfl) ?_
  refine lv_iload_n C.1 C.2.1 dX12_shortest_1 rfl (lv_at hl 1 rfl) ?_
  refine lv_i2l (v := (Int32.toInt64 x0)) C.1 C.2.1 dX12_shortest_2 rfl ?_
  refine lv_lconst (v := 1) C.1 C.2.1 dX12_shortest_3 (by decide) ?_
  refine lv_ldc2 (v := 4) C.1 C.2.1 C.2.2.1 (C.2.2.2.1 _ kl_RX12_386) dX12_shortest_4 ?_
  refine r_callS C w fs_RX12_133 (c_X12_within_36 l D cy x0 k0 k1) (hl.1.trans hml.symm) [] [0] (wr := [(a0, .inr (12, [.ref a1, .ref a2, .ref a3, .ref a4, .ref a5, .int 0, .ref a6, .int 0, .int 0, .int 0, .int 0, .int 0, .int 0, .int 0, .int 0, .int 0, .int 0, .int (-1), .ref a7, .ref a8, .int 0, .ref a9, .int 0, .ref a10, .ref a11, .ref a12, .ref a13, .ref a14, .int 0, .ref a15, .ref a16, .ref a17]))]) ⟨rfl, rfl, rfl, rfl, by decide⟩ rfl rfl ⟨Nat.le_of_ble_eq_true rfl, Nat.le_of_ble_eq_true rfl, Nat.le_of_ble_eq_true rfl⟩ 0 0 ⟨rfl, rfl, Nat.le_of_ble_eq_true rfl, Nat.le_of_ble_eq_true rfl⟩ dX12_shortest_7 (fun u H locs hp w => ?_)
  have w : Wd D A s.heap [(a0, .inr (12, [.ref a1, .ref a2, .ref a3, .ref a4, .ref a5, .int 0, .ref a6, .int 0, .int 0, .int 0, .int 0, .int 0, .int 0, .int 0, .int 0, .int 0, .int 0, .int (-1), .ref a7, .ref a8, .int 0, .ref a9, .int 0, .ref a10, .ref a11, .ref a12, .ref a13, .ref a14, .int 0, .ref a15, .ref a16, .ref a17]))] _ _ := w
  refine r_top (g2 := F0 m 10 ls [.int 0, .ref a0]) rfl ?_
  refine b_if_eq_t C (tgt := 41) dX12_shortest_10 (by decide) (by decide) ?_
  refine lv_iconst (v := 1) C.1 C.2.1 dX12_shortest_41 (by decide) ?_
  refine r_put C w 0 rfl rfl 5 (by decide) fl_RX12_71 rfl (ty := .int) (tyX12_ok 5 (by decide)) rfl rfl (Nat.le_of_ble_eq_true rfl) [(a0, .inr (12, [.ref a1, .ref a2, .ref a3, .ref a4, .ref a5, .int 1, .ref a6, .int 0, .int 0, .int 0, .int 0, .int 0, .int 0, .int 0, .int 0, .int 0, .int 0, .int (-1), .ref a7, .ref a8, .int 0, .ref a9, .int 0, .ref a10, .ref a11, .ref a12, .ref a13, .ref a14, .int 0, .ref a15, .ref a16, .ref a17]))] rfl dX12_shortest_42 (fun H locs w => ?_)
  refine lv_aload_n C.1 C.2.1 dX12_shortest_45 rfl (lv_at hl 0 rfl) ?_
  refine r_get C w 0 rfl rfl 5 (by decide) fl_RX12_71 (v := .int 1) rfl dX12_shortest_46 ?_
  refine b_if_le_f C (tgt := 54) dX12_shortest_49 (by decide) (by decide) ?_
  refine lv_iconst (v := 0) C.1 C.2.1 dX12_shortest_52 (by decide) ?_
  exact r_iret C w hlocks () hr rfl rfl trivial [0] rfl rfl ⟨Nat.le_of_ble_eq_true rfl, Nat.le_of_ble_eq_true rfl⟩ dX12_shortest_53
