theorem dX11_feed_0 : decode cX11_feed 0 = .ok (.aload_n 0, 1) := by decide +kernel
theorem fl_RX11_45 : Cond.fieldLink RX11 45 "TwoSlips" "taped" "I" ∈ gw := gw_mem (by decide +kernel) (by decide +kernel)
theorem dX11_feed_1 : decode cX11_feed 1 = .ok (.getfield 45, 3) := by decide +kernel
theorem dX11_feed_4 : decode cX11_feed 4 = .ok (.bipush 20, 2) := by decide +kernel
theorem dX11_feed_6 : decode cX11_feed 6 = .ok (.iadd, 1) := by decide +kernel
theorem dX11_feed_7 : decode cX11_feed 7 = .ok (.sipush 900, 3) := by decide +kernel
theorem dX11_feed_10 : decode cX11_feed 10 = .ok (.if_icmp .le 5, 3) := by decide +kernel
theorem dX11_feed_15 : decode cX11_feed 15 = .ok (.aload_n 0, 1) := by decide +kernel
theorem dX11_feed_16 : decode cX11_feed 16 = .ok (.iload_n 1, 1) := by decide +kernel
theorem dX11_feed_17 : decode cX11_feed 17 = .ok (.invokevirtual 48, 3) := by decide +kernel
theorem dX11_putBytes_0 : decode cX11_putBytes 0 = .ok (.bipush 24, 2) := by decide +kernel
theorem dX11_putBytes_2 : decode cX11_putBytes 2 = .ok (.istore_n 2, 1) := by decide +kernel
theorem dX11_putBytes_3 : decode cX11_putBytes 3 = .ok (.iload_n 2, 1) := by decide +kernel
theorem dX11_putBytes_4 : decode cX11_putBytes 4 = .ok (.ifCond .lt 39, 3) := by decide +kernel
theorem dX11_putBytes_7 : decode cX11_putBytes 7 = .ok (.aload_n 0, 1) := by decide +kernel
theorem dX11_putBytes_8 : decode cX11_putBytes 8 = .ok (.getfield 45, 3) := by decide +kernel
theorem dX11_putBytes_11 : decode cX11_putBytes 11 = .ok (.sipush 900, 3) := by decide +kernel
theorem dX11_putBytes_14 : decode cX11_putBytes 14 = .ok (.if_icmp .ge 29, 3) := by decide +kernel
theorem dX11_putBytes_17 : decode cX11_putBytes 17 = .ok (.aload_n 0, 1) := by decide +kernel
theorem dX11_putBytes_18 : decode cX11_putBytes 18 = .ok (.getfield 9, 3) := by decide +kernel
theorem dX11_putBytes_21 : decode cX11_putBytes 21 = .ok (.aload_n 0, 1) := by decide +kernel
theorem dX11_putBytes_22 : decode cX11_putBytes 22 = .ok (.dup, 1) := by decide +kernel
theorem dX11_putBytes_23 : decode cX11_putBytes 23 = .ok (.getfield 45, 3) := by decide +kernel
theorem dX11_putBytes_26 : decode cX11_putBytes 26 = .ok (.dup_x1, 1) := by decide +kernel
theorem dX11_putBytes_27 : decode cX11_putBytes 27 = .ok (.iconst 1, 1) := by decide +kernel
theorem dX11_putBytes_28 : decode cX11_putBytes 28 = .ok (.iadd, 1) := by decide +kernel
theorem dX11_putBytes_29 : decode cX11_putBytes 29 = .ok (.putfield 45, 3) := by decide +kernel
theorem dX11_putBytes_32 : decode cX11_putBytes 32 = .ok (.iload_n 1, 1) := by decide +kernel
theorem dX11_putBytes_33 : decode cX11_putBytes 33 = .ok (.iload_n 2, 1) := by decide +kernel
theorem dX11_putBytes_34 : decode cX11_putBytes 34 = .ok (.ishr, 1) := by decide +kernel
theorem dX11_putBytes_35 : decode cX11_putBytes 35 = .ok (.i2b, 1) := by decide +kernel
theorem dX11_putBytes_36 : decode cX11_putBytes 36 = .ok (.bastore, 1) := by decide +kernel
theorem dX11_putBytes_37 : decode cX11_putBytes 37 = .ok (.iinc 2 (-8), 3) := by decide +kernel
theorem dX11_putBytes_40 : decode cX11_putBytes 40 = .ok (.goto (-37), 3) := by decide +kernel
theorem dX11_putBytes_43 : decode cX11_putBytes 43 = .ok (.return_, 1) := by decide +kernel
set_option maxRecDepth 100000 in
set_option maxHeartbeats 4000000 in
theorem c_X11_putBytes_0 (l : Launch) (D : va_G) (cy : Nat → ClassId) (a0 a1 a2 a3 a4 a5 a6 : Nat) (x0 : Int32) : Ct l D cy yX11_putBytes cX11_putBytes 3 none 0 0 0 0 [(a0, .inr (11, [.ref a1, .int 0, .int 0, .int (-1), .ref a2, .ref a3, .ref a4, .ref a5, .ref a6, .null])), (a1, .inl (cy 0, 900, .inl (fun _ => 0)))] [.ref a0, .int x0] (fun u : Unit => none) (fun _ => True) (fun u : Unit => [(a0, .inr (11, [.ref a1, .int 4, .int 0, .int (-1), .ref a2, .ref a3, .ref a4, .ref a5, .ref a6, .null])), (a1, .inl (cy 0, 900, .inl (upd (upd (upd (upd (fun _ => 0) 0 (vp_nar .byte (Int8.toInt32 (Int32.toInt8 (x0 >>> (24 &&& 31)))))) 1 (vp_nar .byte (Int8.toInt32 (Int32.toInt8 (x0 >>> (16 &&& 31)))))) 2 (vp_nar .byte (Int8.toInt32 (Int32.toInt8 (x0 >>> (8 &&& 31)))))) 3 (vp_nar .byte (Int8.toInt32 (Int32.toInt8 (x0 >>> (0 &&& 31))))))))]) := by
  refine Ct.of (by decide +kernel) (Nat.le_of_ble_eq_true rfl) ?_
  intro p e s m args below meth c A ls C hr hlocks hml hnm w hl
  have hl : lv_has ls 3 [(0, .ref a0), (1, .int x0)] := hl
  refine lv_bipush (v := 24) C.1 C.2.1 dX11_putBytes_0 (by decide) ?_
  refine lv_istore_n (lv' := [(2, .int 24), (0, .ref a0), (1, .int x0)]) C.1 C.2.1 dX11_putBytes_2 rfl hl (by decide) rfl (fun ls hl => ?_)
  refine lv_iload_n C.1 C.2.1 dX11_putBytes_3 rfl (lv_at hl 0 rfl) ?_
  refine b_if_lt_f C (tgt := 43) dX11_putBytes_4 (by decide) (by decide) ?_
  refine lv_aload_n C.1 C.2.1 dX11_putBytes_7 rfl (lv_at hl 1 rfl) ?_
  refine r_get C w 0 rfl rfl 1 (by decide) fl_RX11_45 (v := .int 0) rfl dX11_putBytes_8 ?_
  refine lv_sipush (v := 900) C.1 C.2.1 dX11_putBytes_11 (by decide) ?_
  refine b_icmp_ge_f C (tgt := 43) dX11_putBytes_14 (by decide) (by decide) ?_
  refine lv_aload_n C.1 C.2.1 dX11_putBytes_17 rfl (lv_at hl 1 rfl) ?_
  refine r_get C w 0 rfl rfl 0 (by decide) fl_RX11_9 (v := .ref a1) rfl dX11_putBytes_18 ?_
  refine lv_aload_n C.1 C.2.1 dX11_putBytes_21 rfl (lv_at hl 1 rfl) ?_
  refine lv_dup C.1 C.2.1 dX11_putBytes_22 rfl ?_
  refine r_get C w 0 rfl rfl 1 (by decide) fl_RX11_45 (v := .int 0) rfl dX11_putBytes_23 ?_
  refine lv_dup_x1 C.1 C.2.1 dX11_putBytes_26 rfl rfl ?_
  refine lv_iconst (v := 1) C.1 C.2.1 dX11_putBytes_27 (by decide) ?_
  refine r_iadd C (v := 1) dX11_putBytes_28 (by decide) ?_
  refine r_put C w 0 rfl rfl 1 (by decide) fl_RX11_45 rfl (ty := .int) (tyX11_ok 1 (by decide)) rfl rfl (Nat.le_of_ble_eq_true rfl) [(a0, .inr (11, [.ref a1, .int 1, .int 0, .int (-1), .ref a2, .ref a3, .ref a4, .ref a5, .ref a6, .null])), (a1, .inl (cy 0, 900, .inl (fun _ => 0)))] rfl dX11_putBytes_29 (fun H locs w => ?_)
  refine lv_iload_n C.1 C.2.1 dX11_putBytes_32 rfl (lv_at hl 2 rfl) ?_
  refine lv_iload_n C.1 C.2.1 dX11_putBytes_33 rfl (lv_at hl 0 rfl) ?_
  refine r_ishr C (v := (x0 >>> (24 &&& 31))) dX11_putBytes_34 rfl ?_
  refine lv_i2b (v := (Int8.toInt32 (Int32.toInt8 (x0 >>> (24 &&& 31))))) C.1 C.2.1 dX11_putBytes_35 rfl ?_
  refine r_bast C w 1 rfl (vinD (by decide)) (upd (fun _ => 0) 0 (vp_nar .byte (Int8.toInt32 (Int32.toInt8 (x0 >>> (24 &&& 31)))))) rfl [(a0, .inr (11, [.ref a1, .int 1, .int 0, .int (-1), .ref a2, .ref a3, .ref a4, .ref a5, .ref a6, .null])), (a1, .inl (cy 0, 900, .inl (upd (fun _ => 0) 0 (vp_nar .byte (Int8.toInt32 (Int32.toInt8 (x0 >>> (24 &&& 31))))))))] rfl dX11_putBytes_36 (fun H locs w => ?_)
  refine lv_iinc (v := 16) (lv' := [(2, .int 16), (0, .ref a0), (1, .int x0)]) C.1 C.2.1 dX11_putBytes_37 hl (k := 0) rfl (by decide) (by decide) rfl (fun ls hl => ?_)
  refine lv_goto (tgt := 3) C.1 C.2.1 dX11_putBytes_40 (by decide) ?_
  refine lv_iload_n C.1 C.2.1 dX11_putBytes_3 rfl (lv_at hl 0 rfl) ?_
  refine b_if_lt_f C (tgt := 43) dX11_putBytes_4 (by decide) (by decide) ?_
  refine lv_aload_n C.1 C.2.1 dX11_putBytes_7 rfl (lv_at hl 1 rfl) ?_
  refine r_get C w 0 rfl rfl 1 (by decide) fl_RX11_45 (v := .int 1) rfl dX11_putBytes_8 ?_
  refine lv_sipush (v := 900) C.1 C.2.1 dX11_putBytes_11 (by decide) ?_
  refine b_icmp_ge_f C (tgt := 43) dX11_putBytes_14 (by decide) (by decide) ?_
  refine lv_aload_n C.1 C.2.1 dX11_putBytes_17 rfl (lv_at hl 1 rfl) ?_
  refine r_get C w 0 rfl rfl 0 (by decide) fl_RX11_9 (v := .ref a1) rfl dX11_putBytes_18 ?_
  refine lv_aload_n C.1 C.2.1 dX11_putBytes_21 rfl (lv_at hl 1 rfl) ?_
  refine lv_dup C.1 C.2.1 dX11_putBytes_22 rfl ?_
  refine r_get C w 0 rfl rfl 1 (by decide) fl_RX11_45 (v := .int 1) rfl dX11_putBytes_23 ?_
  refine lv_dup_x1 C.1 C.2.1 dX11_putBytes_26 rfl rfl ?_
  refine lv_iconst (v := 1) C.1 C.2.1 dX11_putBytes_27 (by decide) ?_
  refine r_iadd C (v := 2) dX11_putBytes_28 (by decide) ?_
  refine r_put C w 0 rfl rfl 1 (by decide) fl_RX11_45 rfl (ty := .int) (tyX11_ok 1 (by decide)) rfl rfl (Nat.le_of_ble_eq_true rfl) [(a0, .inr (11, [.ref a1, .int 2, .int 0, .int (-1), .ref a2, .ref a3, .ref a4, .ref a5, .ref a6, .null])), (a1, .inl (cy 0, 900, .inl (upd (fun _ => 0) 0 (vp_nar .byte (Int8.toInt32 (Int32.toInt8 (x0 >>> (24 &&& 31))))))))] rfl dX11_putBytes_29 (fun H locs w => ?_)
  refine lv_iload_n C.1 C.2.1 dX11_putBytes_32 rfl (lv_at hl 2 rfl) ?_
  refine lv_iload_n C.1 C.2.1 dX11_putBytes_33 rfl (lv_at hl 0 rfl) ?_
  refine r_ishr C (v := (x0 >>> (16 &&& 31))) dX11_putBytes_34 rfl ?_
  refine lv_i2b (v := (Int8.toInt32 (Int32.toInt8 (x0 >>> (16 &&& 31))))) C.1 C.2.1 dX11_putBytes_35 rfl ?_
  refine r_bast C w 1 rfl (vinD (by decide)) (upd (upd (fun _ => 0) 0 (vp_nar .byte (Int8.toInt32 (Int32.toInt8 (x0 >>> (24 &&& 31)))))) 1 (vp_nar .byte (Int8.toInt32 (Int32.toInt8 (x0 >>> (16 &&& 31)))))) rfl [(a0, .inr (11, [.ref a1, .int 2, .int 0, .int (-1), .ref a2, .ref a3, .ref a4, .ref a5, .ref a6, .null])), (a1, .inl (cy 0, 900, .inl (upd (upd (fun _ => 0) 0 (vp_nar .byte (Int8.toInt32 (Int32.toInt8 (x0 >>> (24 &&& 31)))))) 1 (vp_nar .byte (Int8.toInt32 (Int32.toInt8 (x0 >>> (16 &&& 31))))))))] rfl dX11_putBytes_36 (fun H locs w => ?_)
  refine lv_iinc (v := 8) (lv' := [(2, .int 8), (0, .ref a0), (1, .int x0)]) C.1 C.2.1 dX11_putBytes_37 hl (k := 0) rfl (by decide) (by decide) rfl (fun ls hl => ?_)
  refine lv_goto (tgt := 3) C.1 C.2.1 dX11_putBytes_40 (by decide) ?_
  refine lv_iload_n C.1 C.2.1 dX11_putBytes_3 rfl (lv_at hl 0 rfl) ?_
  refine b_if_lt_f C (tgt := 43) dX11_putBytes_4 (by decide) (by decide) ?_
  refine lv_aload_n C.1 C.2.1 dX11_putBytes_7 rfl (lv_at hl 1 rfl) ?_
  refine r_get C w 0 rfl rfl 1 (by decide) fl_RX11_45 (v := .int 2) rfl dX11_putBytes_8 ?_
  refine lv_sipush (v := 900) C.1 C.2.1 dX11_putBytes_11 (by decide) ?_
  refine b_icmp_ge_f C (tgt := 43) dX11_putBytes_14 (by decide) (by decide) ?_
  refine lv_aload_n C.1 C.2.1 dX11_putBytes_17 rfl (lv_at hl 1 rfl) ?_
  refine r_get C w 0 rfl rfl 0 (by decide) fl_RX11_9 (v := .ref a1) rfl dX11_putBytes_18 ?_
  refine lv_aload_n C.1 C.2.1 dX11_putBytes_21 rfl (lv_at hl 1 rfl) ?_
  refine lv_dup C.1 C.2.1 dX11_putBytes_22 rfl ?_
  refine r_get C w 0 rfl rfl 1 (by decide) fl_RX11_45 (v := .int 2) rfl dX11_putBytes_23 ?_
  refine lv_dup_x1 C.1 C.2.1 dX11_putBytes_26 rfl rfl ?_
  refine lv_iconst (v := 1) C.1 C.2.1 dX11_putBytes_27 (by decide) ?_
  refine r_iadd C (v := 3) dX11_putBytes_28 (by decide) ?_
  refine r_put C w 0 rfl rfl 1 (by decide) fl_RX11_45 rfl (ty := .int) (tyX11_ok 1 (by decide)) rfl rfl (Nat.le_of_ble_eq_true rfl) [(a0, .inr (11, [.ref a1, .int 3, .int 0, .int (-1), .ref a2, .ref a3, .ref a4, .ref a5, .ref a6, .null])), (a1, .inl (cy 0, 900, .inl (upd (upd (fun _ => 0) 0 (vp_nar .byte (Int8.toInt32 (Int32.toInt8 (x0 >>> (24 &&& 31)))))) 1 (vp_nar .byte (Int8.toInt32 (Int32.toInt8 (x0 >>> (16 &&& 31))))))))] rfl dX11_putBytes_29 (fun H locs w => ?_)
  refine lv_iload_n C.1 C.2.1 dX11_putBytes_32 rfl (lv_at hl 2 rfl) ?_
  refine lv_iload_n C.1 C.2.1 dX11_putBytes_33 rfl (lv_at hl 0 rfl) ?_
  refine r_ishr C (v := (x0 >>> (8 &&& 31))) dX11_putBytes_34 rfl ?_
  refine lv_i2b (v := (Int8.toInt32 (Int32.toInt8 (x0 >>> (8 &&& 31))))) C.1 C.2.1 dX11_putBytes_35 rfl ?_
  refine r_bast C w 1 rfl (vinD (by decide)) (upd (upd (upd (fun _ => 0) 0 (vp_nar .byte (Int8.toInt32 (Int32.toInt8 (x0 >>> (24 &&& 31)))))) 1 (vp_nar .byte (Int8.toInt32 (Int32.toInt8 (x0 >>> (16 &&& 31)))))) 2 (vp_nar .byte (Int8.toInt32 (Int32.toInt8 (x0 >>> (8 &&& 31)))))) rfl [(a0, .inr (11, [.ref a1, .int 3, .int 0, .int (-1), .ref a2, .ref a3, .ref a4, .ref a5, .ref a6, .null])), (a1, .inl (cy 0, 900, .inl (upd (upd (upd (fun _ => 0) 0 (vp_nar .byte (Int8.toInt32 (Int32.toInt8 (x0 >>> (24 &&& 31)))))) 1 (vp_nar .byte (Int8.toInt32 (Int32.toInt8 (x0 >>> (16 &&& 31)))))) 2 (vp_nar .byte (Int8.toInt32 (Int32.toInt8 (x0 >>> (8 &&& 31))))))))] rfl dX11_putBytes_36 (fun H locs w => ?_)
  refine lv_iinc (v := 0) (lv' := [(2, .int 0), (0, .ref a0), (1, .int x0)]) C.1 C.2.1 dX11_putBytes_37 hl (k := 0) rfl (by decide) (by decide) rfl (fun ls hl => ?_)
  refine lv_goto (tgt := 3) C.1 C.2.1 dX11_putBytes_40 (by decide) ?_
  refine lv_iload_n C.1 C.2.1 dX11_putBytes_3 rfl (lv_at hl 0 rfl) ?_
  refine b_if_lt_f C (tgt := 43) dX11_putBytes_4 (by decide) (by decide) ?_
  refine lv_aload_n C.1 C.2.1 dX11_putBytes_7 rfl (lv_at hl 1 rfl) ?_
  refine r_get C w 0 rfl rfl 1 (by decide) fl_RX11_45 (v := .int 3) rfl dX11_putBytes_8 ?_
  refine lv_sipush (v := 900) C.1 C.2.1 dX11_putBytes_11 (by decide) ?_
  refine b_icmp_ge_f C (tgt := 43) dX11_putBytes_14 (by decide) (by decide) ?_
  refine lv_aload_n C.1 C.2.1 dX11_putBytes_17 rfl (lv_at hl 1 rfl) ?_
  refine r_get C w 0 rfl rfl 0 (by decide) fl_RX11_9 (v := .ref a1) rfl dX11_putBytes_18 ?_
  refine lv_aload_n C.1 C.2.1 dX11_putBytes_21 rfl (lv_at hl 1 rfl) ?_
  refine lv_dup C.1 C.2.1 dX11_putBytes_22 rfl ?_
  refine r_get C w 0 rfl rfl 1 (by decide) fl_RX11_45 (v := .int 3) rfl dX11_putBytes_23 ?_
  refine lv_dup_x1 C.1 C.2.1 dX11_putBytes_26 rfl rfl ?_
  refine lv_iconst (v := 1) C.1 C.2.1 dX11_putBytes_27 (by decide) ?_
  refine r_iadd C (v := 4) dX11_putBytes_28 (by decide) ?_
  refine r_put C w 0 rfl rfl 1 (by decide) fl_RX11_45 rfl (ty := .int) (tyX11_ok 1 (by decide)) rfl rfl (Nat.le_of_ble_eq_true rfl) [(a0, .inr (11, [.ref a1, .int 4, .int 0, .int (-1), .ref a2, .ref a3, .ref a4, .ref a5, .ref a6, .null])), (a1, .inl (cy 0, 900, .inl (upd (upd (upd (fun _ => 0) 0 (vp_nar .byte (Int8.toInt32 (Int32.toInt8 (x0 >>> (24 &&& 31)))))) 1 (vp_nar .byte (Int8.toInt32 (Int32.toInt8 (x0 >>> (16 &&& 31)))))) 2 (vp_nar .byte (Int8.toInt32 (Int32.toInt8 (x0 >>> (8 &&& 31))))))))] rfl dX11_putBytes_29 (fun H locs w => ?_)
  refine lv_iload_n C.1 C.2.1 dX11_putBytes_32 rfl (lv_at hl 2 rfl) ?_
  refine lv_iload_n C.1 C.2.1 dX11_putBytes_33 rfl (lv_at hl 0 rfl) ?_
  refine r_ishr C (v := (x0 >>> (0 &&& 31))) dX11_putBytes_34 rfl ?_
  refine lv_i2b (v := (Int8.toInt32 (Int32.toInt8 (x0 >>> (0 &&& 31))))) C.1 C.2.1 dX11_putBytes_35 rfl ?_
  refine r_bast C w 1 rfl (vinD (by decide)) (upd (upd (upd (upd (fun _ => 0) 0 (vp_nar .byte (Int8.toInt32 (Int32.toInt8 (x0 >>> (24 &&& 31)))))) 1 (vp_nar .byte (Int8.toInt32 (Int32.toInt8 (x0 >>> (16 &&& 31)))))) 2 (vp_nar .byte (Int8.toInt32 (Int32.toInt8 (x0 >>> (8 &&& 31)))))) 3 (vp_nar .byte (Int8.toInt32 (Int32.toInt8 (x0 >>> (0 &&& 31)))))) rfl [(a0, .inr (11, [.ref a1, .int 4, .int 0, .int (-1), .ref a2, .ref a3, .ref a4, .ref a5, .ref a6, .null])), (a1, .inl (cy 0, 900, .inl (upd (upd (upd (upd (fun _ => 0) 0 (vp_nar .byte (Int8.toInt32 (Int32.toInt8 (x0 >>> (24 &&& 31)))))) 1 (vp_nar .byte (Int8.toInt32 (Int32.toInt8 (x0 >>> (16 &&& 31)))))) 2 (vp_nar .byte (Int8.toInt32 (Int32.toInt8 (x0 >>> (8 &&& 31)))))) 3 (vp_nar .byte (Int8.toInt32 (Int32.toInt8 (x0 >>> (0 &&& 31))))))))] rfl dX11_putBytes_36 (fun H locs w => ?_)
  refine lv_iinc (v := (-8)) (lv' := [(2, .int (-8)), (0, .ref a0), (1, .int x0)]) C.1 C.2.1 dX11_putBytes_37 hl (k := 0) rfl (by decide) (by decide) rfl (fun ls hl => ?_)
  refine lv_goto (tgt := 3) C.1 C.2.1 dX11_putBytes_40 (by decide) ?_
  refine lv_iload_n C.1 C.2.1 dX11_putBytes_3 rfl (lv_at hl 0 rfl) ?_
  refine b_if_lt_t C (tgt := 43) dX11_putBytes_4 (by decide) (by decide) ?_
  exact r_vret C w hlocks () hr rfl trivial [0, 1] rfl rfl ⟨Nat.le_of_ble_eq_true rfl, Nat.le_of_ble_eq_true rfl⟩ dX11_putBytes_43
theorem fv_RX11_48 : FV RX11 48 yX11_putBytes cX11_putBytes 3 none 1 := ⟨⟨gw_mem (by decide +kernel) (by decide +kernel), gw_mem (by decide +kernel) (by decide +kernel), gw_mem (by decide +kernel) (by decide +kernel), gw_mem (by decide +kernel) (by decide +kernel), gw_mem (by decide +kernel) (by decide +kernel)⟩, ⟨by decide +kernel, by decide +kernel, by decide +kernel⟩⟩
theorem dX11_feed_20 : decode cX11_feed 20 = .ok (.aload_n 0, 1) := by decide +kernel
theorem dX11_feed_21 : decode cX11_feed 21 = .ok (.iload_n 2, 1) := by decide +kernel
theorem dX11_feed_22 : decode cX11_feed 22 = .ok (.invokevirtual 48, 3) := by decide +kernel
set_option maxRecDepth 100000 in
set_option maxHeartbeats 4000000 in
theorem c_X11_putBytes_1 (l : Launch) (D : va_G) (cy : Nat → ClassId) (a0 a1 a2 a3 a4 a5 a6 : Nat) (x0 : Int32) (x1 : Int32) (x2 : Int32) (x3 : Int32) (x4 : Int32) : Ct l D cy yX11_putBytes cX11_putBytes 3 none 0 0 0 0 [(a0, .inr (11, [.ref a1, .int 4, .int 0, .int (-1), .ref a2, .ref a3, .ref a4, .ref a5, .ref a6, .null])), (a1, .inl (cy 0, 900, .inl (upd (upd (upd (upd (fun _ => 0) 0 x1) 1 x2) 2 x3) 3 x4)))] [.ref a0, .int x0] (fun u : Unit => none) (fun _ => True) (fun u : Unit => [(a0, .inr (11, [.ref a1, .int 8, .int 0, .int (-1), .ref a2, .ref a3, .ref a4, .ref a5, .ref a6, .null])), (a1, .inl (cy 0, 900, .inl (upd (upd (upd (upd (upd (upd (upd (upd (fun _ => 0) 0 x1) 1 x2) 2 x3) 3 x4) 4 (vp_nar .byte (Int8.toInt32 (Int32.toInt8 (x0 >>> (24 &&& 31)))))) 5 (vp_nar .byte (Int8.toInt32 (Int32.toInt8 (x0 >>> (16 &&& 31)))))) 6 (vp_nar .byte (Int8.toInt32 (Int32.toInt8 (x0 >>> (8 &&& 31)))))) 7 (vp_nar .byte (Int8.toInt32 (Int32.toInt8 (x0 >>> (0 &&& 31))))))))]) := by
  refine Ct.of (by decide +kernel) (Nat.le_of_ble_eq_true rfl) ?_
  intro p e s m args below meth c A ls C hr hlocks hml hnm w hl
  have hl : lv_has ls 3 [(0, .ref a0), (1, .int x0)] := hl
  refine lv_bipush (v := 24) C.1 C.2.1 dX11_putBytes_0 (by decide) ?_
  refine lv_istore_n (lv' := [(2, .int 24), (0, .ref a0), (1, .int x0)]) C.1 C.2.1 dX11_putBytes_2 rfl hl (by decide) rfl (fun ls hl => ?_)
  refine lv_iload_n C.1 C.2.1 dX11_putBytes_3 rfl (lv_at hl 0 rfl) ?_
  refine b_if_lt_f C (tgt := 43) dX11_putBytes_4 (by decide) (by decide) ?_
  refine lv_aload_n C.1 C.2.1 dX11_putBytes_7 rfl (lv_at hl 1 rfl) ?_
  refine r_get C w 0 rfl rfl 1 (by decide) fl_RX11_45 (v := .int 4) rfl dX11_putBytes_8 ?_
  refine lv_sipush (v := 900) C.1 C.2.1 dX11_putBytes_11 (by decide) ?_
  refine b_icmp_ge_f C (tgt := 43) dX11_putBytes_14 (by decide) (by decide) ?_
  refine lv_aload_n C.1 C.2.1 dX11_putBytes_17 rfl (lv_at hl 1 rfl) ?_
  refine r_get C w 0 rfl rfl 0 (by decide) fl_RX11_9 (v := .ref a1) rfl dX11_putBytes_18 ?_
  refine lv_aload_n C.1 C.2.1 dX11_putBytes_21 rfl (lv_at hl 1 rfl) ?_
  refine lv_dup C.1 C.2.1 dX11_putBytes_22 rfl ?_
  refine r_get C w 0 rfl rfl 1 (by decide) fl_RX11_45 (v := .int 4) rfl dX11_putBytes_23 ?_
  refine lv_dup_x1 C.1 C.2.1 dX11_putBytes_26 rfl rfl ?_
  refine lv_iconst (v := 1) C.1 C.2.1 dX11_putBytes_27 (by decide) ?_
  refine r_iadd C (v := 5) dX11_putBytes_28 (by decide) ?_
  refine r_put C w 0 rfl rfl 1 (by decide) fl_RX11_45 rfl (ty := .int) (tyX11_ok 1 (by decide)) rfl rfl (Nat.le_of_ble_eq_true rfl) [(a0, .inr (11, [.ref a1, .int 5, .int 0, .int (-1), .ref a2, .ref a3, .ref a4, .ref a5, .ref a6, .null])), (a1, .inl (cy 0, 900, .inl (upd (upd (upd (upd (fun _ => 0) 0 x1) 1 x2) 2 x3) 3 x4)))] rfl dX11_putBytes_29 (fun H locs w => ?_)
  refine lv_iload_n C.1 C.2.1 dX11_putBytes_32 rfl (lv_at hl 2 rfl) ?_
  refine lv_iload_n C.1 C.2.1 dX11_putBytes_33 rfl (lv_at hl 0 rfl) ?_
  refine r_ishr C (v := (x0 >>> (24 &&& 31))) dX11_putBytes_34 rfl ?_
  refine lv_i2b (v := (Int8.toInt32 (Int32.toInt8 (x0 >>> (24 &&& 31))))) C.1 C.2.1 dX11_putBytes_35 rfl ?_
  refine r_bast C w 1 rfl (vinD (by decide)) (upd (upd (upd (upd (upd (fun _ => 0) 0 x1) 1 x2) 2 x3) 3 x4) 4 (vp_nar .byte (Int8.toInt32 (Int32.toInt8 (x0 >>> (24 &&& 31)))))) rfl [(a0, .inr (11, [.ref a1, .int 5, .int 0, .int (-1), .ref a2, .ref a3, .ref a4, .ref a5, .ref a6, .null])), (a1, .inl (cy 0, 900, .inl (upd (upd (upd (upd (upd (fun _ => 0) 0 x1) 1 x2) 2 x3) 3 x4) 4 (vp_nar .byte (Int8.toInt32 (Int32.toInt8 (x0 >>> (24 &&& 31))))))))] rfl dX11_putBytes_36 (fun H locs w => ?_)
  refine lv_iinc (v := 16) (lv' := [(2, .int 16), (0, .ref a0), (1, .int x0)]) C.1 C.2.1 dX11_putBytes_37 hl (k := 0) rfl (by decide) (by decide) rfl (fun ls hl => ?_)
  refine lv_goto (tgt := 3) C.1 C.2.1 dX11_putBytes_40 (by decide) ?_
  refine lv_iload_n C.1 C.2.1 dX11_putBytes_3 rfl (lv_at hl 0 rfl) ?_
  refine b_if_lt_f C (tgt := 43) dX11_putBytes_4 (by decide) (by decide) ?_
  refine lv_aload_n C.1 C.2.1 dX11_putBytes_7 rfl (lv_at hl 1 rfl) ?_
  refine r_get C w 0 rfl rfl 1 (by decide) fl_RX11_45 (v := .int 5) rfl dX11_putBytes_8 ?_
  refine lv_sipush (v := 900) C.1 C.2.1 dX11_putBytes_11 (by decide) ?_
  refine b_icmp_ge_f C (tgt := 43) dX11_putBytes_14 (by decide) (by decide) ?_
  refine lv_aload_n C.1 C.2.1 dX11_putBytes_17 rfl (lv_at hl 1 rfl) ?_
  refine r_get C w 0 rfl rfl 0 (by decide) fl_RX11_9 (v := .ref a1) rfl dX11_putBytes_18 ?_
  refine lv_aload_n C.1 C.2.1 dX11_putBytes_21 rfl (lv_at hl 1 rfl) ?_
  refine lv_dup C.1 C.2.1 dX11_putBytes_22 rfl ?_
  refine r_get C w 0 rfl rfl 1 (by decide) fl_RX11_45 (v := .int 5) rfl dX11_putBytes_23 ?_
  refine lv_dup_x1 C.1 C.2.1 dX11_putBytes_26 rfl rfl ?_
  refine lv_iconst (v := 1) C.1 C.2.1 dX11_putBytes_27 (by decide) ?_
  refine r_iadd C (v := 6) dX11_putBytes_28 (by decide) ?_
  refine r_put C w 0 rfl rfl 1 (by decide) fl_RX11_45 rfl (ty := .int) (tyX11_ok 1 (by decide)) rfl rfl (Nat.le_of_ble_eq_true rfl) [(a0, .inr (11, [.ref a1, .int 6, .int 0, .int (-1), .ref a2, .ref a3, .ref a4, .ref a5, .ref a6, .null])), (a1, .inl (cy 0, 900, .inl (upd (upd (upd (upd (upd (fun _ => 0) 0 x1) 1 x2) 2 x3) 3 x4) 4 (vp_nar .byte (Int8.toInt32 (Int32.toInt8 (x0 >>> (24 &&& 31))))))))] rfl dX11_putBytes_29 (fun H locs w => ?_)
  refine lv_iload_n C.1 C.2.1 dX11_putBytes_32 rfl (lv_at hl 2 rfl) ?_
  refine lv_iload_n C.1 C.2.1 dX11_putBytes_33 rfl (lv_at hl 0 rfl) ?_
  refine r_ishr C (v := (x0 >>> (16 &&& 31))) dX11_putBytes_34 rfl ?_
  refine lv_i2b (v := (Int8.toInt32 (Int32.toInt8 (x0 >>> (16 &&& 31))))) C.1 C.2.1 dX11_putBytes_35 rfl ?_
  refine r_bast C w 1 rfl (vinD (by decide)) (upd (upd (upd (upd (upd (upd (fun _ => 0) 0 x1) 1 x2) 2 x3) 3 x4) 4 (vp_nar .byte (Int8.toInt32 (Int32.toInt8 (x0 >>> (24 &&& 31)))))) 5 (vp_nar .byte (Int8.toInt32 (Int32.toInt8 (x0 >>> (16 &&& 31)))))) rfl [(a0, .inr (11, [.ref a1, .int 6, .int 0, .int (-1), .ref a2, .ref a3, .ref a4, .ref a5, .ref a6, .null])), (a1, .inl (cy 0, 900, .inl (upd (upd (upd (upd (upd (upd (fun _ => 0) 0 x1) 1 x2) 2 x3) 3 x4) 4 (vp_nar .byte (Int8.toInt32 (Int32.toInt8 (x0 >>> (24 &&& 31)))))) 5 (vp_nar .byte (Int8.toInt32 (Int32.toInt8 (x0 >>> (16 &&& 31))))))))] rfl dX11_putBytes_36 (fun H locs w => ?_)
  refine lv_iinc (v := 8) (lv' := [(2, .int 8), (0, .ref a0), (1, .int x0)]) C.1 C.2.1 dX11_putBytes_37 hl (k := 0) rfl (by decide) (by decide) rfl (fun ls hl => ?_)
  refine lv_goto (tgt := 3) C.1 C.2.1 dX11_putBytes_40 (by decide) ?_
  refine lv_iload_n C.1 C.2.1 dX11_putBytes_3 rfl (lv_at hl 0 rfl) ?_
  refine b_if_lt_f C (tgt := 43) dX11_putBytes_4 (by decide) (by decide) ?_
  refine lv_aload_n C.1 C.2.1 dX11_putBytes_7 rfl (lv_at hl 1 rfl) ?_
  refine r_get C w 0 rfl rfl 1 (by decide) fl_RX11_45 (v := .int 6) rfl dX11_putBytes_8 ?_
  refine lv_sipush (v := 900) C.1 C.2.1 dX11_putBytes_11 (by decide) ?_
  refine b_icmp_ge_f C (tgt := 43) dX11_putBytes_14 (by decide) (by decide) ?_
  refine lv_aload_n C.1 C.2.1 dX11_putBytes_17 rfl (lv_at hl 1 rfl) ?_
  refine r_get C w 0 rfl rfl 0 (by decide) fl_RX11_9 (v := .ref a1) rfl dX11_putBytes_18 ?_
  refine lv_aload_n C.1 C.2.1 dX11_putBytes_21 rfl (lv_at hl 1 rfl) ?_
  refine lv_dup C.1 C.2.1 dX11_putBytes_22 rfl ?_
  refine r_get C w 0 rfl rfl 1 (by decide) fl_RX11_45 (v := .int 6) rfl dX11_putBytes_23 ?_
  refine lv_dup_x1 C.1 C.2.1 dX11_putBytes_26 rfl rfl ?_
  refine lv_iconst (v := 1) C.1 C.2.1 dX11_putBytes_27 (by decide) ?_
  refine r_iadd C (v := 7) dX11_putBytes_28 (by decide) ?_
  refine r_put C w 0 rfl rfl 1 (by decide) fl_RX11_45 rfl (ty := .int) (tyX11_ok 1 (by decide)) rfl rfl (Nat.le_of_ble_eq_true rfl) [(a0, .inr (11, [.ref a1, .int 7, .int 0, .int (-1), .ref a2, .ref a3, .ref a4, .ref a5, .ref a6, .null])), (a1, .inl (cy 0, 900, .inl (upd (upd (upd (upd (upd (upd (fun _ => 0) 0 x1) 1 x2) 2 x3) 3 x4) 4 (vp_nar .byte (Int8.toInt32 (Int32.toInt8 (x0 >>> (24 &&& 31)))))) 5 (vp_nar .byte (Int8.toInt32 (Int32.toInt8 (x0 >>> (16 &&& 31))))))))] rfl dX11_putBytes_29 (fun H locs w => ?_)
  refine lv_iload_n C.1 C.2.1 dX11_putBytes_32 rfl (lv_at hl 2 rfl) ?_
  refine lv_iload_n C.1 C.2.1 dX11_putBytes_33 rfl (lv_at hl 0 rfl) ?_
  refine r_ishr C (v := (x0 >>> (8 &&& 31))) dX11_putBytes_34 rfl ?_
  refine lv_i2b (v := (Int8.toInt32 (Int32.toInt8 (x0 >>> (8 &&& 31))))) C.1 C.2.1 dX11_putBytes_35 rfl ?_
  refine r_bast C w 1 rfl (vinD (by decide)) (upd (upd (upd (upd (upd (upd (upd (fun _ => 0) 0 x1) 1 x2) 2 x3) 3 x4) 4 (vp_nar .byte (Int8.toInt32 (Int32.toInt8 (x0 >>> (24 &&& 31)))))) 5 (vp_nar .byte (Int8.toInt32 (Int32.toInt8 (x0 >>> (16 &&& 31)))))) 6 (vp_nar .byte (Int8.toInt32 (Int32.toInt8 (x0 >>> (8 &&& 31)))))) rfl [(a0, .inr (11, [.ref a1, .int 7, .int 0, .int (-1), .ref a2, .ref a3, .ref a4, .ref a5, .ref a6, .null])), (a1, .inl (cy 0, 900, .inl (upd (upd (upd (upd (upd (upd (upd (fun _ => 0) 0 x1) 1 x2) 2 x3) 3 x4) 4 (vp_nar .byte (Int8.toInt32 (Int32.toInt8 (x0 >>> (24 &&& 31)))))) 5 (vp_nar .byte (Int8.toInt32 (Int32.toInt8 (x0 >>> (16 &&& 31)))))) 6 (vp_nar .byte (Int8.toInt32 (Int32.toInt8 (x0 >>> (8 &&& 31))))))))] rfl dX11_putBytes_36 (fun H locs w => ?_)
  refine lv_iinc (v := 0) (lv' := [(2, .int 0), (0, .ref a0), (1, .int x0)]) C.1 C.2.1 dX11_putBytes_37 hl (k := 0) rfl (by decide) (by decide) rfl (fun ls hl => ?_)
  refine lv_goto (tgt := 3) C.1 C.2.1 dX11_putBytes_40 (by decide) ?_
  refine lv_iload_n C.1 C.2.1 dX11_putBytes_3 rfl (lv_at hl 0 rfl) ?_
  refine b_if_lt_f C (tgt := 43) dX11_putBytes_4 (by decide) (by decide) ?_
  refine lv_aload_n C.1 C.2.1 dX11_putBytes_7 rfl (lv_at hl 1 rfl) ?_
  refine r_get C w 0 rfl rfl 1 (by decide) fl_RX11_45 (v := .int 7) rfl dX11_putBytes_8 ?_
  refine lv_sipush (v := 900) C.1 C.2.1 dX11_putBytes_11 (by decide) ?_
  refine b_icmp_ge_f C (tgt := 43) dX11_putBytes_14 (by decide) (by decide) ?_
  refine lv_aload_n C.1 C.2.1 dX11_putBytes_17 rfl (lv_at hl 1 rfl) ?_
  refine r_get C w 0 rfl rfl 0 (by decide) fl_RX11_9 (v := .ref a1) rfl dX11_putBytes_18 ?_
  refine lv_aload_n C.1 C.2.1 dX11_putBytes_21 rfl (lv_at hl 1 rfl) ?_
  refine lv_dup C.1 C.2.1 dX11_putBytes_22 rfl ?_
  refine r_get C w 0 rfl rfl 1 (by decide) fl_RX11_45 (v := .int 7) rfl dX11_putBytes_23 ?_
  refine lv_dup_x1 C.1 C.2.1 dX11_putBytes_26 rfl rfl ?_
  refine lv_iconst (v := 1) C.1 C.2.1 dX11_putBytes_27 (by decide) ?_
  refine r_iadd C (v := 8) dX11_putBytes_28 (by decide) ?_
  refine r_put C w 0 rfl rfl 1 (by decide) fl_RX11_45 rfl (ty := .int) (tyX11_ok 1 (by decide)) rfl rfl (Nat.le_of_ble_eq_true rfl) [(a0, .inr (11, [.ref a1, .int 8, .int 0, .int (-1), .ref a2, .ref a3, .ref a4, .ref a5, .ref a6, .null])), (a1, .inl (cy 0, 900, .inl (upd (upd (upd (upd (upd (upd (upd (fun _ => 0) 0 x1) 1 x2) 2 x3) 3 x4) 4 (vp_nar .byte (Int8.toInt32 (Int32.toInt8 (x0 >>> (24 &&& 31)))))) 5 (vp_nar .byte (Int8.toInt32 (Int32.toInt8 (x0 >>> (16 &&& 31)))))) 6 (vp_nar .byte (Int8.toInt32 (Int32.toInt8 (x0 >>> (8 &&& 31))))))))] rfl dX11_putBytes_29 (fun H locs w => ?_)
  refine lv_iload_n C.1 C.2.1 dX11_putBytes_32 rfl (lv_at hl 2 rfl) ?_
  refine lv_iload_n C.1 C.2.1 dX11_putBytes_33 rfl (lv_at hl 0 rfl) ?_
  refine r_ishr C (v := (x0 >>> (0 &&& 31))) dX11_putBytes_34 rfl ?_
  refine lv_i2b (v := (Int8.toInt32 (Int32.toInt8 (x0 >>> (0 &&& 31))))) C.1 C.2.1 dX11_putBytes_35 rfl ?_
  refine r_bast C w 1 rfl (vinD (by decide)) (upd (upd (upd (upd (upd (upd (upd (upd (fun _ => 0) 0 x1) 1 x2) 2 x3) 3 x4) 4 (vp_nar .byte (Int8.toInt32 (Int32.toInt8 (x0 >>> (24 &&& 31)))))) 5 (vp_nar .byte (Int8.toInt32 (Int32.toInt8 (x0 >>> (16 &&& 31)))))) 6 (vp_nar .byte (Int8.toInt32 (Int32.toInt8 (x0 >>> (8 &&& 31)))))) 7 (vp_nar .byte (Int8.toInt32 (Int32.toInt8 (x0 >>> (0 &&& 31)))))) rfl [(a0, .inr (11, [.ref a1, .int 8, .int 0, .int (-1), .ref a2, .ref a3, .ref a4, .ref a5, .ref a6, .null])), (a1, .inl (cy 0, 900, .inl (upd (upd (upd (upd (upd (upd (upd (upd (fun _ => 0) 0 x1) 1 x2) 2 x3) 3 x4) 4 (vp_nar .byte (Int8.toInt32 (Int32.toInt8 (x0 >>> (24 &&& 31)))))) 5 (vp_nar .byte (Int8.toInt32 (Int32.toInt8 (x0 >>> (16 &&& 31)))))) 6 (vp_nar .byte (Int8.toInt32 (Int32.toInt8 (x0 >>> (8 &&& 31)))))) 7 (vp_nar .byte (Int8.toInt32 (Int32.toInt8 (x0 >>> (0 &&& 31))))))))] rfl dX11_putBytes_36 (fun H locs w => ?_)
  refine lv_iinc (v := (-8)) (lv' := [(2, .int (-8)), (0, .ref a0), (1, .int x0)]) C.1 C.2.1 dX11_putBytes_37 hl (k := 0) rfl (by decide) (by decide) rfl (fun ls hl => ?_)
  refine lv_goto (tgt := 3) C.1 C.2.1 dX11_putBytes_40 (by decide) ?_
  refine lv_iload_n C.1 C.2.1 dX11_putBytes_3 rfl (lv_at hl 0 rfl) ?_
  refine b_if_lt_t C (tgt := 43) dX11_putBytes_4 (by decide) (by decide) ?_
  exact r_vret C w hlocks () hr rfl trivial [0, 1] rfl rfl ⟨Nat.le_of_ble_eq_true rfl, Nat.le_of_ble_eq_true rfl⟩ dX11_putBytes_43
theorem dX11_feed_25 : decode cX11_feed 25 = .ok (.aload_n 0, 1) := by decide +kernel
theorem dX11_feed_26 : decode cX11_feed 26 = .ok (.iload_n 3, 1) := by decide +kernel
theorem dX11_feed_27 : decode cX11_feed 27 = .ok (.invokevirtual 48, 3) := by decide +kernel
set_option maxRecDepth 100000 in
set_option maxHeartbeats 4000000 in
theorem c_X11_putBytes_2 (l : Launch) (D : va_G) (cy : Nat → ClassId) (a0 a1 a2 a3 a4 a5 a6 : Nat) (x0 : Int32) (x1 : Int32) (x2 : Int32) (x3 : Int32) (x4 : Int32) (x5 : Int32) (x6 : Int32) (x7 : Int32) (x8 : Int32) : Ct l D cy yX11_putBytes cX11_putBytes 3 none 0 0 0 0 [(a0, .inr (11, [.ref a1, .int 8, .int 0, .int (-1), .ref a2, .ref a3, .ref a4, .ref a5, .ref a6, .null])), (a1, .inl (cy 0, 900, .inl (upd (upd (upd (upd (upd (upd (upd (upd (fun _ => 0) 0 x1) 1 x2) 2 x3) 3 x4) 4 x5) 5 x6) 6 x7) 7 x8)))] [.ref a0, .int x0] (fun u : Unit => none) (fun _ => True) (fun u : Unit => [(a0, .inr (11, [.ref a1, .int 12, .int 0, .int (-1), .ref a2, .ref a3, .ref a4, .ref a5, .ref a6, .null])), (a1, .inl (cy 0, 900, .inl (upd (upd (upd (upd (upd (upd (upd (upd (upd (upd (upd (upd (fun _ => 0) 0 x1) 1 x2) 2 x3) 3 x4) 4 x5) 5 x6) 6 x7) 7 x8) 8 (vp_nar .byte (Int8.toInt32 (Int32.toInt8 (x0 >>> (24 &&& 31)))))) 9 (vp_nar .byte (Int8.toInt32 (Int32.toInt8 (x0 >>> (16 &&& 31)))))) 10 (vp_nar .byte (Int8.toInt32 (Int32.toInt8 (x0 >>> (8 &&& 31)))))) 11 (vp_nar .byte (Int8.toInt32 (Int32.toInt8 (x0 >>> (0 &&& 31))))))))]) := by
  refine Ct.of (by decide +kernel) (Nat.le_of_ble_eq_true rfl) ?_
  intro p e s m args below meth c A ls C hr hlocks hml hnm w hl
  have hl : lv_has ls 3 [(0, .ref a0), (1, .int x0)] := hl
  refine lv_bipush (v := 24) C.1 C.2.1 dX11_putBytes_0 (by decide) ?_
  refine lv_istore_n (lv' := [(2, .int 24), (0, .ref a0), (1, .int x0)]) C.1 C.2.1 dX11_putBytes_2 rfl hl (by decide) rfl (fun ls hl => ?_)
  refine lv_iload_n C.1 C.2.1 dX11_putBytes_3 rfl (lv_at hl 0 rfl) ?_
  refine b_if_lt_f C (tgt := 43) dX11_putBytes_4 (by decide) (by decide) ?_
  refine lv_aload_n C.1 C.2.1 dX11_putBytes_7 rfl (lv_at hl 1 rfl) ?_
  refine r_get C w 0 rfl rfl 1 (by decide) fl_RX11_45 (v := .int 8) rfl dX11_putBytes_8 ?_
  refine lv_sipush (v := 900) C.1 C.2.1 dX11_putBytes_11 (by decide) ?_
  refine b_icmp_ge_f C (tgt := 43) dX11_putBytes_14 (by decide) (by decide) ?_
  refine lv_aload_n C.1 C.2.1 dX11_putBytes_17 rfl (lv_at hl 1 rfl) ?_
  refine r_get C w 0 rfl rfl 0 (by decide) fl_RX11_9 (v := .ref a1) rfl dX11_putBytes_18 ?_
  refine lv_aload_n C.1 C.2.1 dX11_putBytes_21 rfl (lv_at hl 1 rfl) ?_
  refine lv_dup C.1 C.2.1 dX11_putBytes_22 rfl ?_
  refine r_get C w 0 rfl rfl 1 (by decide) fl_RX11_45 (v := .int 8) rfl dX11_putBytes_23 ?_
  refine lv_dup_x1 C.1 C.2.1 dX11_putBytes_26 rfl rfl ?_
  refine lv_iconst (v := 1) C.1 C.2.1 dX11_putBytes_27 (by decide) ?_
  refine r_iadd C (v := 9) dX11_putBytes_28 (by decide) ?_
  refine r_put C w 0 rfl rfl 1 (by decide) fl_RX11_45 rfl (ty := .int) (tyX11_ok 1 (by decide)) rfl rfl (Nat.le_of_ble_eq_true rfl) [(a0, .inr (11, [.ref a1, .int 9, .int 0, .int (-1), .ref a2, .ref a3, .ref a4, .ref a5, .ref a6, .null])), (a1, .inl (cy 0, 900, .inl (upd (upd (upd (upd (upd (upd (upd (upd (fun _ => 0) 0 x1) 1 x2) 2 x3) 3 x4) 4 x5) 5 x6) 6 x7) 7 x8)))] rfl dX11_putBytes_29 (fun H locs w => ?_)
  refine lv_iload_n C.1 C.2.1 dX11_putBytes_32 rfl (lv_at hl 2 rfl) ?_
  refine lv_iload_n C.1 C.2.1 dX11_putBytes_33 rfl (lv_at hl 0 rfl) ?_
  refine r_ishr C (v := (x0 >>> (24 &&& 31))) dX11_putBytes_34 rfl ?_
  refine lv_i2b (v := (Int8.toInt32 (Int32.toInt8 (x0 >>> (24 &&& 31))))) C.1 C.2.1 dX11_putBytes_35 rfl ?_
  refine r_bast C w 1 rfl (vinD (by decide)) (upd (upd (upd (upd (upd (upd (upd (upd (upd (fun _ => 0) 0 x1) 1 x2) 2 x3) 3 x4) 4 x5) 5 x6) 6 x7) 7 x8) 8 (vp_nar .byte (Int8.toInt32 (Int32.toInt8 (x0 >>> (24 &&& 31)))))) rfl [(a0, .inr (11, [.ref a1, .int 9, .int 0, .int (-1), .ref a2, .ref a3, .ref a4, .ref a5, .ref a6, .null])), (a1, .inl (cy 0, 900, .inl (upd (upd (upd (upd (upd (upd (upd (upd (upd (fun _ => 0) 0 x1) 1 x2) 2 x3) 3 x4) 4 x5) 5 x6) 6 x7) 7 x8) 8 (vp_nar .byte (Int8.toInt32 (Int32.toInt8 (x0 >>> (24 &&& 31))))))))] rfl dX11_putBytes_36 (fun H locs w => ?_)
  refine lv_iinc (v := 16) (lv' := [(2, .int 16), (0, .ref a0), (1, .int x0)]) C.1 C.2.1 dX11_putBytes_37 hl (k := 0) rfl (by decide) (by decide) rfl (fun ls hl => ?_)
  refine lv_goto (tgt := 3) C.1 C.2.1 dX11_putBytes_40 (by decide) ?_
  refine lv_iload_n C.1 C.2.1 dX11_putBytes_3 rfl (lv_at hl 0 rfl) ?_
  refine b_if_lt_f C (tgt := 43) dX11_putBytes_4 (by decide) (by decide) ?_
  refine lv_aload_n C.1 C.2.1 dX11_putBytes_7 rfl (lv_at hl 1 rfl) ?_
  refine r_get C w 0 rfl rfl 1 (by decide) fl_RX11_45 (v := .int 9) rfl dX11_putBytes_8 ?_
  refine lv_sipush (v := 900) C.1 C.2.1 dX11_putBytes_11 (by decide) ?_
  refine b_icmp_ge_f C (tgt := 43) dX11_putBytes_14 (by decide) (by decide) ?_
  refine lv_aload_n C.1 C.2.1 dX11_putBytes_17 rfl (lv_at hl 1 rfl) ?_
  refine r_get C w 0 rfl rfl 0 (by decide) fl_RX11_9 (v := .ref a1) rfl dX11_putBytes_18 ?_
  refine lv_aload_n C.1 C.2.1 dX11_putBytes_21 rfl (lv_at hl 1 rfl) ?_
  refine lv_dup C.1 C.2.1 dX11_putBytes_22 rfl ?_
  refine r_get C w 0 rfl rfl 1 (by decide) fl_RX11_45 (v := .int 9) rfl dX11_putBytes_23 ?_
  refine lv_dup_x1 C.1 C.2.1 dX11_putBytes_26 rfl rfl ?_
  refine lv_iconst (v := 1) C.1 C.2.1 dX11_putBytes_27 (by decide) ?_
  refine r_iadd C (v := 10) dX11_putBytes_28 (by decide) ?_
  refine r_put C w 0 rfl rfl 1 (by decide) fl_RX11_45 rfl (ty := .int) (tyX11_ok 1 (by decide)) rfl rfl (Nat.le_of_ble_eq_true rfl) [(a0, .inr (11, [.ref a1, .int 10, .int 0, .int (-1), .ref a2, .ref a3, .ref a4, .ref a5, .ref a6, .null])), (a1, .inl (cy 0, 900, .inl (upd (upd (upd (upd (upd (upd (upd (upd (upd (fun _ => 0) 0 x1) 1 x2) 2 x3) 3 x4) 4 x5) 5 x6) 6 x7) 7 x8) 8 (vp_nar .byte (Int8.toInt32 (Int32.toInt8 (x0 >>> (24 &&& 31))))))))] rfl dX11_putBytes_29 (fun H locs w => ?_)
  refine lv_iload_n C.1 C.2.1 dX11_putBytes_32 rfl (lv_at hl 2 rfl) ?_
  refine lv_iload_n C.1 C.2.1 dX11_putBytes_33 rfl (lv_at hl 0 rfl) ?_
  refine r_ishr C (v := (x0 >>> (16 &&& 31))) dX11_putBytes_34 rfl ?_
  refine lv_i2b (v := (Int8.toInt32 (Int32.toInt8 (x0 >>> (16 &&& 31))))) C.1 C.2.1 dX11_putBytes_35 rfl ?_
  refine r_bast C w 1 rfl (vinD (by decide)) (upd (upd (upd (upd (upd (upd (upd (upd (upd (upd (fun _ => 0) 0 x1) 1 x2) 2 x3) 3 x4) 4 x5) 5 x6) 6 x7) 7 x8) 8 (vp_nar .byte (Int8.toInt32 (Int32.toInt8 (x0 >>> (24 &&& 31)))))) 9 (vp_nar .byte (Int8.toInt32 (Int32.toInt8 (x0 >>> (16 &&& 31)))))) rfl [(a0, .inr (11, [.ref a1, .int 10, .int 0, .int (-1), .ref a2, .ref a3, .ref a4, .ref a5, .ref a6, .null])), (a1, .inl (cy 0, 900, .inl (upd (upd (upd (upd (upd (upd (upd (upd (upd (upd (fun _ => 0) 0 x1) 1 x2) 2 x3) 3 x4) 4 x5) 5 x6) 6 x7) 7 x8) 8 (vp_nar .byte (Int8.toInt32 (Int32.toInt8 (x0 >>> (24 &&& 31)))))) 9 (vp_nar .byte (Int8.toInt32 (Int32.toInt8 (x0 >>> (16 &&& 31))))))))] rfl dX11_putBytes_36 (fun H locs w => ?_)
  refine lv_iinc (v := 8) (lv' := [(2, .int 8), (0, .ref a0), (1, .int x0)]) C.1 C.2.1 dX11_putBytes_37 hl (k := 0) rfl (by decide) (by decide) rfl (fun ls hl => ?_)
  refine lv_goto (tgt := 3) C.1 C.2.1 dX11_putBytes_40 (by decide) ?_
  refine lv_iload_n C.1 C.2.1 dX11_putBytes_3 rfl (lv_at hl 0 rfl) ?_
  refine b_if_lt_f C (tgt := 43) dX11_putBytes_4 (by decide) (by decide) ?_
  refine lv_aload_n C.1 C.2.1 dX11_putBytes_7 rfl (lv_at hl 1 rfl) ?_
  refine r_get C w 0 rfl rfl 1 (by decide) fl_RX11_45 (v := .int 10) rfl dX11_putBytes_8 ?_
  refine lv_sipush (v := 900) C.1 C.2.1 dX11_putBytes_11 (by decide) ?_
  refine b_icmp_ge_f C (tgt := 43) dX11_putBytes_14 (by decide) (by decide) ?_
  refine lv_aload_n C.1 C.2.1 dX11_putBytes_17 rfl (lv_at hl 1 rfl) ?_
  refine r_get C w 0 rfl rfl 0 (by decide) fl_RX11_9 (v := .ref a1) rfl dX11_putBytes_18 ?_
  refine lv_aload_n C.1 C.2.1 dX11_putBytes_21 rfl (lv_at hl 1 rfl) ?_
  refine lv_dup C.1 C.2.1 dX11_putBytes_22 rfl ?_
  refine r_get C w 0 rfl rfl 1 (by decide) fl_RX11_45 (v := .int 10) rfl dX11_putBytes_23 ?_
  refine lv_dup_x1 C.1 C.2.1 dX11_putBytes_26 rfl rfl ?_
  refine lv_iconst (v := 1) C.1 C.2.1 dX11_putBytes_27 (by decide) ?_
  refine r_iadd C (v := 11) dX11_putBytes_28 (by decide) ?_
  refine r_put C w 0 rfl rfl 1 (by decide) fl_RX11_45 rfl (ty := .int) (tyX11_ok 1 (by decide)) rfl rfl (Nat.le_of_ble_eq_true rfl) [(a0, .inr (11, [.ref a1, .int 11, .int 0, .int (-1), .ref a2, .ref a3, .ref a4, .ref a5, .ref a6, .null])), (a1, .inl (cy 0, 900, .inl (upd (upd (upd (upd (upd (upd (upd (upd (upd (upd (fun _ => 0) 0 x1) 1 x2) 2 x3) 3 x4) 4 x5) 5 x6) 6 x7) 7 x8) 8 (vp_nar .byte (Int8.toInt32 (Int32.toInt8 (x0 >>> (24 &&& 31)))))) 9 (vp_nar .byte (Int8.toInt32 (Int32.toInt8 (x0 >>> (16 &&& 31))))))))] rfl dX11_putBytes_29 (fun H locs w => ?_)
  refine lv_iload_n C.1 C.2.1 dX11_putBytes_32 rfl (lv_at hl 2 rfl) ?_
  refine lv_iload_n C.1 C.2.1 dX11_putBytes_33 rfl (lv_at hl 0 rfl) ?_
  refine r_ishr C (v := (x0 >>> (8 &&& 31))) dX11_putBytes_34 rfl ?_
  refine lv_i2b (v := (Int8.toInt32 (Int32.toInt8 (x0 >>> (8 &&& 31))))) C.1 C.2.1 dX11_putBytes_35 rfl ?_
  refine r_bast C w 1 rfl (vinD (by decide)) (upd (upd (upd (upd (upd (upd (upd (upd (upd (upd (upd (fun _ => 0) 0 x1) 1 x2) 2 x3) 3 x4) 4 x5) 5 x6) 6 x7) 7 x8) 8 (vp_nar .byte (Int8.toInt32 (Int32.toInt8 (x0 >>> (24 &&& 31)))))) 9 (vp_nar .byte (Int8.toInt32 (Int32.toInt8 (x0 >>> (16 &&& 31)))))) 10 (vp_nar .byte (Int8.toInt32 (Int32.toInt8 (x0 >>> (8 &&& 31)))))) rfl [(a0, .inr (11, [.ref a1, .int 11, .int 0, .int (-1), .ref a2, .ref a3, .ref a4, .ref a5, .ref a6, .null])), (a1, .inl (cy 0, 900, .inl (upd (upd (upd (upd (upd (upd (upd (upd (upd (upd (upd (fun _ => 0) 0 x1) 1 x2) 2 x3) 3 x4) 4 x5) 5 x6) 6 x7) 7 x8) 8 (vp_nar .byte (Int8.toInt32 (Int32.toInt8 (x0 >>> (24 &&& 31)))))) 9 (vp_nar .byte (Int8.toInt32 (Int32.toInt8 (x0 >>> (16 &&& 31)))))) 10 (vp_nar .byte (Int8.toInt32 (Int32.toInt8 (x0 >>> (8 &&& 31))))))))] rfl dX11_putBytes_36 (fun H locs w => ?_)
  refine lv_iinc (v := 0) (lv' := [(2, .int 0), (0, .ref a0), (1, .int x0)]) C.1 C.2.1 dX11_putBytes_37 hl (k := 0) rfl (by decide) (by decide) rfl (fun ls hl => ?_)
  refine lv_goto (tgt := 3) C.1 C.2.1 dX11_putBytes_40 (by decide) ?_
  refine lv_iload_n C.1 C.2.1 dX11_putBytes_3 rfl (lv_at hl 0 rfl) ?_
  refine b_if_lt_f C (tgt := 43) dX11_putBytes_4 (by decide) (by decide) ?_
  refine lv_aload_n C.1 C.2.1 dX11_putBytes_7 rfl (lv_at hl 1 rfl) ?_
  refine r_get C w 0 rfl rfl 1 (by decide) fl_RX11_45 (v := .int 11) rfl dX11_putBytes_8 ?_
  refine lv_sipush (v := 900) C.1 C.2.1 dX11_putBytes_11 (by decide) ?_
  refine b_icmp_ge_f C (tgt := 43) dX11_putBytes_14 (by decide) (by decide) ?_
  refine lv_aload_n C.1 C.2.1 dX11_putBytes_17 rfl (lv_at hl 1 rfl) ?_
  refine r_get C w 0 rfl rfl 0 (by decide) fl_RX11_9 (v := .ref a1) rfl dX11_putBytes_18 ?_
  refine lv_aload_n C.1 C.2.1 dX11_putBytes_21 rfl (lv_at hl 1 rfl) ?_
  refine lv_dup C.1 C.2.1 dX11_putBytes_22 rfl ?_
  refine r_get C w 0 rfl rfl 1 (by decide) fl_RX11_45 (v := .int 11) rfl dX11_putBytes_23 ?_
  refine lv_dup_x1 C.1 C.2.1 dX11_putBytes_26 rfl rfl ?_
  refine lv_iconst (v := 1) C.1 C.2.1 dX11_putBytes_27 (by decide) ?_
  refine r_iadd C (v := 12) dX11_putBytes_28 (by decide) ?_
  refine r_put C w 0 rfl rfl 1 (by decide) fl_RX11_45 rfl (ty := .int) (tyX11_ok 1 (by decide)) rfl rfl (Nat.le_of_ble_eq_true rfl) [(a0, .inr (11, [.ref a1, .int 12, .int 0, .int (-1), .ref a2, .ref a3, .ref a4, .ref a5, .ref a6, .null])), (a1, .inl (cy 0, 900, .inl (upd (upd (upd (upd (upd (upd (upd (upd (upd (upd (upd (fun _ => 0) 0 x1) 1 x2) 2 x3) 3 x4) 4 x5) 5 x6) 6 x7) 7 x8) 8 (vp_nar .byte (Int8.toInt32 (Int32.toInt8 (x0 >>> (24 &&& 31)))))) 9 (vp_nar .byte (Int8.toInt32 (Int32.toInt8 (x0 >>> (16 &&& 31)))))) 10 (vp_nar .byte (Int8.toInt32 (Int32.toInt8 (x0 >>> (8 &&& 31))))))))] rfl dX11_putBytes_29 (fun H locs w => ?_)
  refine lv_iload_n C.1 C.2.1 dX11_putBytes_32 rfl (lv_at hl 2 rfl) ?_
  refine lv_iload_n C.1 C.2.1 dX11_putBytes_33 rfl (lv_at hl 0 rfl) ?_
  refine r_ishr C (v := (x0 >>> (0 &&& 31))) dX11_putBytes_34 rfl ?_
  refine lv_i2b (v := (Int8.toInt32 (Int32.toInt8 (x0 >>> (0 &&& 31))))) C.1 C.2.1 dX11_putBytes_35 rfl ?_
  refine r_bast C w 1 rfl (vinD (by decide)) (upd (upd (upd (upd (upd (upd (upd (upd (upd (upd (upd (upd (fun _ => 0) 0 x1) 1 x2) 2 x3) 3 x4) 4 x5) 5 x6) 6 x7) 7 x8) 8 (vp_nar .byte (Int8.toInt32 (Int32.toInt8 (x0 >>> (24 &&& 31)))))) 9 (vp_nar .byte (Int8.toInt32 (Int32.toInt8 (x0 >>> (16 &&& 31)))))) 10 (vp_nar .byte (Int8.toInt32 (Int32.toInt8 (x0 >>> (8 &&& 31)))))) 11 (vp_nar .byte (Int8.toInt32 (Int32.toInt8 (x0 >>> (0 &&& 31)))))) rfl [(a0, .inr (11, [.ref a1, .int 12, .int 0, .int (-1), .ref a2, .ref a3, .ref a4, .ref a5, .ref a6, .null])), (a1, .inl (cy 0, 900, .inl (upd (upd (upd (upd (upd (upd (upd (upd (upd (upd (upd (upd (fun _ => 0) 0 x1) 1 x2) 2 x3) 3 x4) 4 x5) 5 x6) 6 x7) 7 x8) 8 (vp_nar .byte (Int8.toInt32 (Int32.toInt8 (x0 >>> (24 &&& 31)))))) 9 (vp_nar .byte (Int8.toInt32 (Int32.toInt8 (x0 >>> (16 &&& 31)))))) 10 (vp_nar .byte (Int8.toInt32 (Int32.toInt8 (x0 >>> (8 &&& 31)))))) 11 (vp_nar .byte (Int8.toInt32 (Int32.toInt8 (x0 >>> (0 &&& 31))))))))] rfl dX11_putBytes_36 (fun H locs w => ?_)
  refine lv_iinc (v := (-8)) (lv' := [(2, .int (-8)), (0, .ref a0), (1, .int x0)]) C.1 C.2.1 dX11_putBytes_37 hl (k := 0) rfl (by decide) (by decide) rfl (fun ls hl => ?_)
  refine lv_goto (tgt := 3) C.1 C.2.1 dX11_putBytes_40 (by decide) ?_
  refine lv_iload_n C.1 C.2.1 dX11_putBytes_3 rfl (lv_at hl 0 rfl) ?_
  refine b_if_lt_t C (tgt := 43) dX11_putBytes_4 (by decide) (by decide) ?_
  exact r_vret C w hlocks () hr rfl trivial [0, 1] rfl rfl ⟨Nat.le_of_ble_eq_true rfl, Nat.le_of_ble_eq_true rfl⟩ dX11_putBytes_43
theorem dX11_feed_30 : decode cX11_feed 30 = .ok (.aload_n 0, 1) := by decide +kernel
theorem dX11_feed_31 : decode cX11_feed 31 = .ok (.iload 4, 2) := by decide +kernel
theorem dX11_feed_33 : decode cX11_feed 33 = .ok (.invokevirtual 48, 3) := by decide +kernel
set_option maxRecDepth 100000 in
set_option maxHeartbeats 4000000 in
theorem c_X11_putBytes_3 (l : Launch) (D : va_G) (cy : Nat → ClassId) (a0 a1 a2 a3 a4 a5 a6 : Nat) (x0 : Int32) (x1 : Int32) (x2 : Int32) (x3 : Int32) (x4 : Int32) (x5 : Int32) (x6 : Int32) (x7 : Int32) (x8 : Int32) (x9 : Int32) (x10 : Int32) (x11 : Int32) (x12 : Int32) : Ct l D cy yX11_putBytes cX11_putBytes 3 none 0 0 0 0 [(a0, .inr (11, [.ref a1, .int 12, .int 0, .int (-1), .ref a2, .ref a3, .ref a4, .ref a5, .ref a6, .null])), (a1, .inl (cy 0, 900, .inl (upd (upd (upd (upd (upd (upd (upd (upd (upd (upd (upd (upd (fun _ => 0) 0 x1) 1 x2) 2 x3) 3 x4) 4 x5) 5 x6) 6 x7) 7 x8) 8 x9) 9 x10) 10 x11) 11 x12)))] [.ref a0, .int x0] (fun u : Unit => none) (fun _ => True) (fun u : Unit => [(a0, .inr (11, [.ref a1, .int 16, .int 0, .int (-1), .ref a2, .ref a3, .ref a4, .ref a5, .ref a6, .null])), (a1, .inl (cy 0, 900, .inl (upd (upd (upd (upd (upd (upd (upd (upd (upd (upd (upd (upd (upd (upd (upd (upd (fun _ => 0) 0 x1) 1 x2) 2 x3) 3 x4) 4 x5) 5 x6) 6 x7) 7 x8) 8 x9) 9 x10) 10 x11) 11 x12) 12 (vp_nar .byte (Int8.toInt32 (Int32.toInt8 (x0 >>> (24 &&& 31)))))) 13 (vp_nar .byte (Int8.toInt32 (Int32.toInt8 (x0 >>> (16 &&& 31)))))) 14 (vp_nar .byte (Int8.toInt32 (Int32.toInt8 (x0 >>> (8 &&& 31)))))) 15 (vp_nar .byte (Int8.toInt32 (Int32.toInt8 (x0 >>> (0 &&& 31))))))))]) := by
  refine Ct.of (by decide +kernel) (Nat.le_of_ble_eq_true rfl) ?_
  intro p e s m args below meth c A ls C hr hlocks hml hnm w hl
  have hl : lv_has ls 3 [(0, .ref a0), (1, .int x0)] := hl
  refine lv_bipush (v := 24) C.1 C.2.1 dX11_putBytes_0 (by decide) ?_
  refine lv_istore_n (lv' := [(2, .int 24), (0, .ref a0), (1, .int x0)]) C.1 C.2.1 dX11_putBytes_2 rfl hl (by decide) rfl (fun ls hl => ?_)
  refine lv_iload_n C.1 C.2.1 dX11_putBytes_3 rfl (lv_at hl 0 rfl) ?_
  refine b_if_lt_f C (tgt := 43) dX11_putBytes_4 (by decide) (by decide) ?_
  refine lv_aload_n C.1 C.2.1 dX11_putBytes_7 rfl (lv_at hl 1 rfl) ?_
  refine r_get C w 0 rfl rfl 1 (by decide) fl_RX11_45 (v := .int 12) rfl dX11_putBytes_8 ?_
  refine lv_sipush (v := 900) C.1 C.2.1 dX11_putBytes_11 (by decide) ?_
  refine b_icmp_ge_f C (tgt := 43) dX11_putBytes_14 (by decide) (by decide) ?_
  refine lv_aload_n C.1 C.2.1 dX11_putBytes_17 rfl (lv_at hl 1 rfl) ?_
  refine r_get C w 0 rfl rfl 0 (by decide) fl_RX11_9 (v := .ref a1) rfl dX11_putBytes_18 ?_
  refine lv_aload_n C.1 C.2.1 dX11_putBytes_21 rfl (lv_at hl 1 rfl) ?_
  refine lv_dup C.1 C.2.1 dX11_putBytes_22 rfl ?_
  refine r_get C w 0 rfl rfl 1 (by decide) fl_RX11_45 (v := .int 12) rfl dX11_putBytes_23 ?_
  refine lv_dup_x1 C.1 C.2.1 dX11_putBytes_26 rfl rfl ?_
  refine lv_iconst (v := 1) C.1 C.2.1 dX11_putBytes_27 (by decide) ?_
  refine r_iadd C (v := 13) dX11_putBytes_28 (by decide) ?_
  refine r_put C w 0 rfl rfl 1 (by decide) fl_RX11_45 rfl (ty := .int) (tyX11_ok 1 (by decide)) rfl rfl (Nat.le_of_ble_eq_true rfl) [(a0, .inr (11, [.ref a1, .int 13, .int 0, .int (-1), .ref a2, .ref a3, .ref a4, .ref a5, .ref a6, .null])), (a1, .inl (cy 0, 900, .inl (upd (upd (upd (upd (upd (upd (upd (upd (upd (upd (upd (upd (fun _ => 0) 0 x1) 1 x2) 2 x3) 3 x4) 4 x5) 5 x6) 6 x7) 7 x8) 8 x9) 9 x10) 10 x11) 11 x12)))] rfl dX11_putBytes_29 (fun H locs w => ?_)
  refine lv_iload_n C.1 C.2.1 dX11_putBytes_32 rfl (lv_at hl 2 rfl) ?_
  refine lv_iload_n C.1 C.2.1 dX11_putBytes_33 rfl (lv_at hl 0 rfl) ?_
  refine r_ishr C (v := (x0 >>> (24 &&& 31))) dX11_putBytes_34 rfl ?_
  refine lv_i2b (v := (Int8.toInt32 (Int32.toInt8 (x0 >>> (24 &&& 31))))) C.1 C.2.1 dX11_putBytes_35 rfl ?_
  refine r_bast C w 1 rfl (vinD (by decide)) (upd (upd (upd (upd (upd (upd (upd (upd (upd (upd (upd (upd (upd (fun _ => 0) 0 x1) 1 x2) 2 x3) 3 x4) 4 x5) 5 x6) 6 x7) 7 x8) 8 x9) 9 x10) 10 x11) 11 x12) 12 (vp_nar .byte (Int8.toInt32 (Int32.toInt8 (x0 >>> (24 &&& 31)))))) rfl [(a0, .inr (11, [.ref a1, .int 13, .int 0, .int (-1), .ref a2, .ref a3, .ref a4, .ref a5, .ref a6, .null])), (a1, .inl (cy 0, 900, .inl (upd (upd (upd (upd (upd (upd (upd (upd (upd (upd (upd (upd (upd (fun _ => 0) 0 x1) 1 x2) 2 x3) 3 x4) 4 x5) 5 x6) 6 x7) 7 x8) 8 x9) 9 x10) 10 x11) 11 x12) 12 (vp_nar .byte (Int8.toInt32 (Int32.toInt8 (x0 >>> (24 &&& 31))))))))] rfl dX11_putBytes_36 (fun H locs w => ?_)
  refine lv_iinc (v := 16) (lv' := [(2, .int 16), (0, .ref a0), (1, .int x0)]) C.1 C.2.1 dX11_putBytes_37 hl (k := 0) rfl (by decide) (by decide) rfl (fun ls hl => ?_)
  refine lv_goto (tgt := 3) C.1 C.2.1 dX11_putBytes_40 (by decide) ?_
  refine lv_iload_n C.1 C.2.1 dX11_putBytes_3 rfl (lv_at hl 0 rfl) ?_
  refine b_if_lt_f C (tgt := 43) dX11_putBytes_4 (by decide) (by decide) ?_
  refine lv_aload_n C.1 C.2.1 dX11_putBytes_7 rfl (lv_at hl 1 rfl) ?_
  refine r_get C w 0 rfl rfl 1 (by decide) fl_RX11_45 (v := .int 13) rfl dX11_putBytes_8 ?_
  refine lv_sipush (v := 900) C.1 C.2.1 dX11_putBytes_11 (by decide) ?_
  refine b_icmp_ge_f C (tgt := 43) dX11_putBytes_14 (by decide) (by decide) ?_
  refine lv_aload_n C.1 C.2.1 dX11_putBytes_17 rfl (lv_at hl 1 rfl) ?_
  refine r_get C w 0 rfl rfl 0 (by decide) fl_RX11_9 (v := .ref a1) rfl dX11_putBytes_18 ?_
  refine lv_aload_n C.1 C.2.1 dX11_putBytes_21 rfl (lv_at hl 1 rfl) ?_
  refine lv_dup C.1 C.2.1 dX11_putBytes_22 rfl ?_
  refine r_get C w 0 rfl rfl 1 (by decide) fl_RX11_45 (v := .int 13) rfl dX11_putBytes_23 ?_
  refine lv_dup_x1 C.1 C.2.1 dX11_putBytes_26 rfl rfl ?_
  refine lv_iconst (v := 1) C.1 C.2.1 dX11_putBytes_27 (by decide) ?_
  refine r_iadd C (v := 14) dX11_putBytes_28 (by decide) ?_
  refine r_put C w 0 rfl rfl 1 (by decide) fl_RX11_45 rfl (ty := .int) (tyX11_ok 1 (by decide)) rfl rfl (Nat.le_of_ble_eq_true rfl) [(a0, .inr (11, [.ref a1, .int 14, .int 0, .int (-1), .ref a2, .ref a3, .ref a4, .ref a5, .ref a6, .null])), (a1, .inl (cy 0, 900, .inl (upd (upd (upd (upd (upd (upd (upd (upd (upd (upd (upd (upd (upd (fun _ => 0) 0 x1) 1 x2) 2 x3) 3 x4) 4 x5) 5 x6) 6 x7) 7 x8) 8 x9) 9 x10) 10 x11) 11 x12) 12 (vp_nar .byte (Int8.toInt32 (Int32.toInt8 (x0 >>> (24 &&& 31))))))))] rfl dX11_putBytes_29 (fun H locs w => ?_)
  refine lv_iload_n C.1 C.2.1 dX11_putBytes_32 rfl (lv_at hl 2 rfl) ?_
  refine lv_iload_n C.1 C.2.1 dX11_putBytes_33 rfl (lv_at hl 0 rfl) ?_
  refine r_ishr C (v := (x0 >>> (16 &&& 31))) dX11_putBytes_34 rfl ?_
  refine lv_i2b (v := (Int8.toInt32 (Int32.toInt8 (x0 >>> (16 &&& 31))))) C.1 C.2.1 dX11_putBytes_35 rfl ?_
  refine r_bast C w 1 rfl (vinD (by decide)) (upd (upd (upd (upd (upd (upd (upd (upd (upd (upd (upd (upd (upd (upd (fun _ => 0) 0 x1) 1 x2) 2 x3) 3 x4) 4 x5) 5 x6) 6 x7) 7 x8) 8 x9) 9 x10) 10 x11) 11 x12) 12 (vp_nar .byte (Int8.toInt32 (Int32.toInt8 (x0 >>> (24 &&& 31)))))) 13 (vp_nar .byte (Int8.toInt32 (Int32.toInt8 (x0 >>> (16 &&& 31)))))) rfl [(a0, .inr (11, [.ref a1, .int 14, .int 0, .int (-1), .ref a2, .ref a3, .ref a4, .ref a5, .ref a6, .null])), (a1, .inl (cy 0, 900, .inl (upd (upd (upd (upd (upd (upd (upd (upd (upd (upd (upd (upd (upd (upd (fun _ => 0) 0 x1) 1 x2) 2 x3) 3 x4) 4 x5) 5 x6) 6 x7) 7 x8) 8 x9) 9 x10) 10 x11) 11 x12) 12 (vp_nar .byte (Int8.toInt32 (Int32.toInt8 (x0 >>> (24 &&& 31)))))) 13 (vp_nar .byte (Int8.toInt32 (Int32.toInt8 (x0 >>> (16 &&& 31))))))))] rfl dX11_putBytes_36 (fun H locs w => ?_)
  refine lv_iinc (v := 8) (lv' := [(2, .int 8), (0, .ref a0), (1, .int x0)]) C.1 C.2.1 dX11_putBytes_37 hl (k := 0) rfl (by decide) (by decide) rfl (fun ls hl => ?_)
  refine lv_goto (tgt := 3) C.1 C.2.1 dX11_putBytes_40 (by decide) ?_
  refine lv_iload_n C.1 C.2.1 dX11_putBytes_3 rfl (lv_at hl 0 rfl) ?_
  refine b_if_lt_f C (tgt := 43) dX11_putBytes_4 (by decide) (by decide) ?_
  refine lv_aload_n C.1 C.2.1 dX11_putBytes_7 rfl (lv_at hl 1 rfl) ?_
  refine r_get C w 0 rfl rfl 1 (by decide) fl_RX11_45 (v := .int 14) rfl dX11_putBytes_8 ?_
  refine lv_sipush (v := 900) C.1 C.2.1 dX11_putBytes_11 (by decide) ?_
  refine b_icmp_ge_f C (tgt := 43) dX11_putBytes_14 (by decide) (by decide) ?_
  refine lv_aload_n C.1 C.2.1 dX11_putBytes_17 rfl (lv_at hl 1 rfl) ?_
  refine r_get C w 0 rfl rfl 0 (by decide) fl_RX11_9 (v := .ref a1) rfl dX11_putBytes_18 ?_
  refine lv_aload_n C.1 C.2.1 dX11_putBytes_21 rfl (lv_at hl 1 rfl) ?_
  refine lv_dup C.1 C.2.1 dX11_putBytes_22 rfl ?_
  refine r_get C w 0 rfl rfl 1 (by decide) fl_RX11_45 (v := .int 14) rfl dX11_putBytes_23 ?_
  refine lv_dup_x1 C.1 C.2.1 dX11_putBytes_26 rfl rfl ?_
  refine lv_iconst (v := 1) C.1 C.2.1 dX11_putBytes_27 (by decide) ?_
  refine r_iadd C (v := 15) dX11_putBytes_28 (by decide) ?_
  refine r_put C w 0 rfl rfl 1 (by decide) fl_RX11_45 rfl (ty := .int) (tyX11_ok 1 (by decide)) rfl rfl (Nat.le_of_ble_eq_true rfl) [(a0, .inr (11, [.ref a1, .int 15, .int 0, .int (-1), .ref a2, .ref a3, .ref a4, .ref a5, .ref a6, .null])), (a1, .inl (cy 0, 900, .inl (upd (upd (upd (upd (upd (upd (upd (upd (upd (upd (upd (upd (upd (upd (fun _ => 0) 0 x1) 1 x2) 2 x3) 3 x4) 4 x5) 5 x6) 6 x7) 7 x8) 8 x9) 9 x10) 10 x11) 11 x12) 12 (vp_nar .byte (Int8.toInt32 (Int32.toInt8 (x0 >>> (24 &&& 31)))))) 13 (vp_nar .byte (Int8.toInt32 (Int32.toInt8 (x0 >>> (16 &&& 31))))))))] rfl dX11_putBytes_29 (fun H locs w => ?_)
  refine lv_iload_n C.1 C.2.1 dX11_putBytes_32 rfl (lv_at hl 2 rfl) ?_
  refine lv_iload_n C.1 C.2.1 dX11_putBytes_33 rfl (lv_at hl 0 rfl) ?_
  refine r_ishr C (v := (x0 >>> (8 &&& 31))) dX11_putBytes_34 rfl ?_
  refine lv_i2b (v := (Int8.toInt32 (Int32.toInt8 (x0 >>> (8 &&& 31))))) C.1 C.2.1 dX11_putBytes_35 rfl ?_
  refine r_bast C w 1 rfl (vinD (by decide)) (upd (upd (upd (upd (upd (upd (upd (upd (upd (upd (upd (upd (upd (upd (upd (fun _ => 0) 0 x1) 1 x2) 2 x3) 3 x4) 4 x5) 5 x6) 6 x7) 7 x8) 8 x9) 9 x10) 10 x11) 11 x12) 12 (vp_nar .byte (Int8.toInt32 (Int32.toInt8 (x0 >>> (24 &&& 31)))))) 13 (vp_nar .byte (Int8.toInt32 (Int32.toInt8 (x0 >>> (16 &&& 31)))))) 14 (vp_nar .byte (Int8.toInt32 (Int32.toInt8 (x0 >>> (8 &&& 31)))))) rfl [(a0, .inr (11, [.ref a1, .int 15, .int 0, .int (-1), .ref a2, .ref a3, .ref a4, .ref a5, .ref a6, .null])), (a1, .inl (cy 0, 900, .inl (upd (upd (upd (upd (upd (upd (upd (upd (upd (upd (upd (upd (upd (upd (upd (fun _ => 0) 0 x1) 1 x2) 2 x3) 3 x4) 4 x5) 5 x6) 6 x7) 7 x8) 8 x9) 9 x10) 10 x11) 11 x12) 12 (vp_nar .byte (Int8.toInt32 (Int32.toInt8 (x0 >>> (24 &&& 31)))))) 13 (vp_nar .byte (Int8.toInt32 (Int32.toInt8 (x0 >>> (16 &&& 31)))))) 14 (vp_nar .byte (Int8.toInt32 (Int32.toInt8 (x0 >>> (8 &&& 31))))))))] rfl dX11_putBytes_36 (fun H locs w => ?_)
  refine lv_iinc (v := 0) (lv' := [(2, .int 0), (0, .ref a0), (1, .int x0)]) C.1 C.2.1 dX11_putBytes_37 hl (k := 0) rfl (by decide) (by decide) rfl (fun ls hl => ?_)
  refine lv_goto (tgt := 3) C.1 C.2.1 dX11_putBytes_40 (by decide) ?_
  refine lv_iload_n C.1 C.2.1 dX11_putBytes_3 rfl (lv_at hl 0 rfl) ?_
  refine b_if_lt_f C (tgt := 43) dX11_putBytes_4 (by decide) (by decide) ?_
  refine lv_aload_n C.1 C.2.1 dX11_putBytes_7 rfl (lv_at hl 1 rfl) ?_
  refine r_get C w 0 rfl rfl 1 (by decide) fl_RX11_45 (v := .int 15) rfl dX11_putBytes_8 ?_
  refine lv_sipush (v := 900) C.1 C.2.1 dX11_putBytes_11 (by decide) ?_
  refine b_icmp_ge_f C (tgt := 43) dX11_putBytes_14 (by decide) (by decide) ?_
  refine lv_aload_n C.1 C.2.1 dX11_putBytes_17 rfl (lv_at hl 1 rfl) ?_
  refine r_get C w 0 rfl rfl 0 (by decide) fl_RX11_9 (v := .ref a1) rfl dX11_putBytes_18 ?_
  refine lv_aload_n C.1 C.2.1 dX11_putBytes_21 rfl (lv_at hl 1 rfl) ?_
  refine lv_dup C.1 C.2.1 dX11_putBytes_22 rfl ?_
  refine r_get C w 0 rfl rfl 1 (by decide) fl_RX11_45 (v := .int 15) rfl dX11_putBytes_23 ?_
  refine lv_dup_x1 C.1 C.2.1 dX11_putBytes_26 rfl rfl ?_
  refine lv_iconst (v := 1) C.1 C.2.1 dX11_putBytes_27 (by decide) ?_
  refine r_iadd C (v := 16) dX11_putBytes_28 (by decide) ?_
  refine r_put C w 0 rfl rfl 1 (by decide) fl_RX11_45 rfl (ty := .int) (tyX11_ok 1 (by decide)) rfl rfl (Nat.le_of_ble_eq_true rfl) [(a0, .inr (11, [.ref a1, .int 16, .int 0, .int (-1), .ref a2, .ref a3, .ref a4, .ref a5, .ref a6, .null])), (a1, .inl (cy 0, 900, .inl (upd (upd (upd (upd (upd (upd (upd (upd (upd (upd (upd (upd (upd (upd (upd (fun _ => 0) 0 x1) 1 x2) 2 x3) 3 x4) 4 x5) 5 x6) 6 x7) 7 x8) 8 x9) 9 x10) 10 x11) 11 x12) 12 (vp_nar .byte (Int8.toInt32 (Int32.toInt8 (x0 >>> (24 &&& 31)))))) 13 (vp_nar .byte (Int8.toInt32 (Int32.toInt8 (x0 >>> (16 &&& 31)))))) 14 (vp_nar .byte (Int8.toInt32 (Int32.toInt8 (x0 >>> (8 &&& 31))))))))] rfl dX11_putBytes_29 (fun H locs w => ?_)
  refine lv_iload_n C.1 C.2.1 dX11_putBytes_32 rfl (lv_at hl 2 rfl) ?_
  refine lv_iload_n C.1 C.2.1 dX11_putBytes_33 rfl (lv_at hl 0 rfl) ?_
  refine r_ishr C (v := (x0 >>> (0 &&& 31))) dX11_putBytes_34 rfl ?_
  refine lv_i2b (v := (Int8.toInt32 (Int32.toInt8 (x0 >>> (0 &&& 31))))) C.1 C.2.1 dX11_putBytes_35 rfl ?_
  refine r_bast C w 1 rfl (vinD (by decide)) (upd (upd (upd (upd (upd (upd (upd (upd (upd (upd (upd (upd (upd (upd (upd (upd (fun _ => 0) 0 x1) 1 x2) 2 x3) 3 x4) 4 x5) 5 x6) 6 x7) 7 x8) 8 x9) 9 x10) 10 x11) 11 x12) 12 (vp_nar .byte (Int8.toInt32 (Int32.toInt8 (x0 >>> (24 &&& 31)))))) 13 (vp_nar .byte (Int8.toInt32 (Int32.toInt8 (x0 >>> (16 &&& 31)))))) 14 (vp_nar .byte (Int8.toInt32 (Int32.toInt8 (x0 >>> (8 &&& 31)))))) 15 (vp_nar .byte (Int8.toInt32 (Int32.toInt8 (x0 >>> (0 &&& 31)))))) rfl [(a0, .inr (11, [.ref a1, .int 16, .int 0, .int (-1), .ref a2, .ref a3, .ref a4, .ref a5, .ref a6, .null])), (a1, .inl (cy 0, 900, .inl (upd (upd (upd (upd (upd (upd (upd (upd (upd (upd (upd (upd (upd (upd (upd (upd (fun _ => 0) 0 x1) 1 x2) 2 x3) 3 x4) 4 x5) 5 x6) 6 x7) 7 x8) 8 x9) 9 x10) 10 x11) 11 x12) 12 (vp_nar .byte (Int8.toInt32 (Int32.toInt8 (x0 >>> (24 &&& 31)))))) 13 (vp_nar .byte (Int8.toInt32 (Int32.toInt8 (x0 >>> (16 &&& 31)))))) 14 (vp_nar .byte (Int8.toInt32 (Int32.toInt8 (x0 >>> (8 &&& 31)))))) 15 (vp_nar .byte (Int8.toInt32 (Int32.toInt8 (x0 >>> (0 &&& 31))))))))] rfl dX11_putBytes_36 (fun H locs w => ?_)
  refine lv_iinc (v := (-8)) (lv' := [(2, .int (-8)), (0, .ref a0), (1, .int x0)]) C.1 C.2.1 dX11_putBytes_37 hl (k := 0) rfl (by decide) (by decide) rfl (fun ls hl => ?_)
  refine lv_goto (tgt := 3) C.1 C.2.1 dX11_putBytes_40 (by decide) ?_
  refine lv_iload_n C.1 C.2.1 dX11_putBytes_3 rfl (lv_at hl 0 rfl) ?_
  refine b_if_lt_t C (tgt := 43) dX11_putBytes_4 (by decide) (by decide) ?_
  exact r_vret C w hlocks () hr rfl trivial [0, 1] rfl rfl ⟨Nat.le_of_ble_eq_true rfl, Nat.le_of_ble_eq_true rfl⟩ dX11_putBytes_43
theorem dX11_feed_36 : decode cX11_feed 36 = .ok (.aload_n 0, 1) := by decide +kernel
theorem dX11_feed_37 : decode cX11_feed 37 = .ok (.iload 5, 2) := by decide +kernel
theorem dX11_feed_39 : decode cX11_feed 39 = .ok (.invokevirtual 48, 3) := by decide +kernel
set_option maxRecDepth 100000 in
set_option maxHeartbeats 4000000 in
theorem c_X11_putBytes_4 (l : Launch) (D : va_G) (cy : Nat → ClassId) (a0 a1 a2 a3 a4 a5 a6 : Nat) (x0 : Int32) (x1 : Int32) (x2 : Int32) (x3 : Int32) (x4 : Int32) (x5 : Int32) (x6 : Int32) (x7 : Int32) (x8 : Int32) (x9 : Int32) (x10 : Int32) (x11 : Int32) (x12 : Int32) (x13 : Int32) (x14 : Int32) (x15 : Int32) (x16 : Int32) : Ct l D cy yX11_putBytes cX11_putBytes 3 none 0 0 0 0 [(a0, .inr (11, [.ref a1, .int 16, .int 0, .int (-1), .ref a2, .ref a3, .ref a4, .ref a5, .ref a6, .null])), (a1, .inl (cy 0, 900, .inl (upd (upd (upd (upd (upd (upd (upd (upd (upd (upd (upd (upd (upd (upd (upd (upd (fun _ => 0) 0 x1) 1 x2) 2 x3) 3 x4) 4 x5) 5 x6) 6 x7) 7 x8) 8 x9) 9 x10) 10 x11) 11 x12) 12 x13) 13 x14) 14 x15) 15 x16)))] [.ref a0, .int x0] (fun u : Unit => none) (fun _ => True) (fun u : Unit => [(a0, .inr (11, [.ref a1, .int 20, .int 0, .int (-1), .ref a2, .ref a3, .ref a4, .ref a5, .ref a6, .null])), (a1, .inl (cy 0, 900, .inl (upd (upd (upd (upd (upd (upd (upd (upd (upd (upd (upd (upd (upd (upd (upd (upd (upd (upd (upd (upd (fun _ => 0) 0 x1) 1 x2) 2 x3) 3 x4) 4 x5) 5 x6) 6 x7) 7 x8) 8 x9) 9 x10) 10 x11) 11 x12) 12 x13) 13 x14) 14 x15) 15 x16) 16 (vp_nar .byte (Int8.toInt32 (Int32.toInt8 (x0 >>> (24 &&& 31)))))) 17 (vp_nar .byte (Int8.toInt32 (Int32.toInt8 (x0 >>> (16 &&& 31)))))) 18 (vp_nar .byte (Int8.toInt32 (Int32.toInt8 (x0 >>> (8 &&& 31)))))) 19 (vp_nar .byte (Int8.toInt32 (Int32.toInt8 (x0 >>> (0 &&& 31))))))))]) := by
  refine Ct.of (by decide +kernel) (Nat.le_of_ble_eq_true rfl) ?_
  intro p e s m args below meth c A ls C hr hlocks hml hnm w hl
  have hl : lv_has ls 3 [(0, .ref a0), (1, .int x0)] := hl
  refine lv_bipush (v := 24) C.1 C.2.1 dX11_putBytes_0 (by decide) ?_
  refine lv_istore_n (lv' := [(2, .int 24), (0, .ref a0), (1, .int x0)]) C.1 C.2.1 dX11_putBytes_2 rfl hl (by decide) rfl (fun ls hl => ?_)
  refine lv_iload_n C.1 C.2.1 dX11_putBytes_3 rfl (lv_at hl 0 rfl) ?_
  refine b_if_lt_f C (tgt := 43) dX11_putBytes_4 (by decide) (by decide) ?_
  refine lv_aload_n C.1 C.2.1 dX11_putBytes_7 rfl (lv_at hl 1 rfl) ?_
  refine r_get C w 0 rfl rfl 1 (by decide) fl_RX11_45 (v := .int 16) rfl dX11_putBytes_8 ?_
  refine lv_sipush (v := 900) C.1 C.2.1 dX11_putBytes_11 (by decide) ?_
  refine b_icmp_ge_f C (tgt := 43) dX11_putBytes_14 (by decide) (by decide) ?_
  refine lv_aload_n C.1 C.2.1 dX11_putBytes_17 rfl (lv_at hl 1 rfl) ?_
  refine r_get C w 0 rfl rfl 0 (by decide) fl_RX11_9 (v := .ref a1) rfl dX11_putBytes_18 ?_
  refine lv_aload_n C.1 C.2.1 dX11_putBytes_21 rfl (lv_at hl 1 rfl) ?_
  refine lv_dup C.1 C.2.1 dX11_putBytes_22 rfl ?_
  refine r_get C w 0 rfl rfl 1 (by decide) fl_RX11_45 (v := .int 16) rfl dX11_putBytes_23 ?_
  refine lv_dup_x1 C.1 C.2.1 dX11_putBytes_26 rfl rfl ?_
  refine lv_iconst (v := 1) C.1 C.2.1 dX11_putBytes_27 (by decide) ?_
  refine r_iadd C (v := 17) dX11_putBytes_28 (by decide) ?_
  refine r_put C w 0 rfl rfl 1 (by decide) fl_RX11_45 rfl (ty := .int) (tyX11_ok 1 (by decide)) rfl rfl (Nat.le_of_ble_eq_true rfl) [(a0, .inr (11, [.ref a1, .int 17, .int 0, .int (-1), .ref a2, .ref a3, .ref a4, .ref a5, .ref a6, .null])), (a1, .inl (cy 0, 900, .inl (upd (upd (upd (upd (upd (upd (upd (upd (upd (upd (upd (upd (upd (upd (upd (upd (fun _ => 0) 0 x1) 1 x2) 2 x3) 3 x4) 4 x5) 5 x6) 6 x7) 7 x8) 8 x9) 9 x10) 10 x11) 11 x12) 12 x13) 13 x14) 14 x15) 15 x16)))] rfl dX11_putBytes_29 (fun H locs w => ?_)
  refine lv_iload_n C.1 C.2.1 dX11_putBytes_32 rfl (lv_at hl 2 rfl) ?_
  refine lv_iload_n C.1 C.2.1 dX11_putBytes_33 rfl (lv_at hl 0 rfl) ?_
  refine r_ishr C (v := (x0 >>> (24 &&& 31))) dX11_putBytes_34 rfl ?_
  refine lv_i2b (v := (Int8.toInt32 (Int32.toInt8 (x0 >>> (24 &&& 31))))) C.1 C.2.1 dX11_putBytes_35 rfl ?_
  refine r_bast C w 1 rfl (vinD (by decide)) (upd (upd (upd (upd (upd (upd (upd (upd (upd (upd (upd (upd (upd (upd (upd (upd (upd (fun _ => 0) 0 x1) 1 x2) 2 x3) 3 x4) 4 x5) 5 x6) 6 x7) 7 x8) 8 x9) 9 x10) 10 x11) 11 x12) 12 x13) 13 x14) 14 x15) 15 x16) 16 (vp_nar .byte (Int8.toInt32 (Int32.toInt8 (x0 >>> (24 &&& 31)))))) rfl [(a0, .inr (11, [.ref a1, .int 17, .int 0, .int (-1), .ref a2, .ref a3, .ref a4, .ref a5, .ref a6, .null])), (a1, .inl (cy 0, 900, .inl (upd (upd (upd (upd (upd (upd (upd (upd (upd (upd (upd (upd (upd (upd (upd (upd (upd (fun _ => 0) 0 x1) 1 x2) 2 x3) 3 x4) 4 x5) 5 x6) 6 x7) 7 x8) 8 x9) 9 x10) 10 x11) 11 x12) 12 x13) 13 x14) 14 x15) 15 x16) 16 (vp_nar .byte (Int8.toInt32 (Int32.toInt8 (x0 >>> (24 &&& 31))))))))] rfl dX11_putBytes_36 (fun H locs w => ?_)
  refine lv_iinc (v := 16) (lv' := [(2, .int 16), (0, .ref a0), (1, .int x0)]) C.1 C.2.1 dX11_putBytes_37 hl (k := 0) rfl (by decide) (by decide) rfl (fun ls hl => ?_)
  refine lv_goto (tgt := 3) C.1 C.2.1 dX11_putBytes_40 (by decide) ?_
  refine lv_iload_n C.1 C.2.1 dX11_putBytes_3 rfl (lv_at hl 0 rfl) ?_
  refine b_if_lt_f C (tgt := 43) dX11_putBytes_4 (by decide) (by decide) ?_
  refine lv_aload_n C.1 C.2.1 dX11_putBytes_7 rfl (lv_at hl 1 rfl) ?_
  refine r_get C w 0 rfl rfl 1 (by decide) fl_RX11_45 (v := .int 17) rfl dX11_putBytes_8 ?_
  refine lv_sipush (v := 900) C.1 C.2.1 dX11_putBytes_11 (by decide) ?_
  refine b_icmp_ge_f C (tgt := 43) dX11_putBytes_14 (by decide) (by decide) ?_
  refine lv_aload_n C.1 C.2.1 dX11_putBytes_17 rfl (lv_at hl 1 rfl) ?_
  refine r_get C w 0 rfl rfl 0 (by decide) fl_RX11_9 (v := .ref a1) rfl dX11_putBytes_18 ?_
  refine lv_aload_n C.1 C.2.1 dX11_putBytes_21 rfl (lv_at hl 1 rfl) ?_
  refine lv_dup C.1 C.2.1 dX11_putBytes_22 rfl ?_
  refine r_get C w 0 rfl rfl 1 (by decide) fl_RX11_45 (v := .int 17) rfl dX11_putBytes_23 ?_
  refine lv_dup_x1 C.1 C.2.1 dX11_putBytes_26 rfl rfl ?_
  refine lv_iconst (v := 1) C.1 C.2.1 dX11_putBytes_27 (by decide) ?_
  refine r_iadd C (v := 18) dX11_putBytes_28 (by decide) ?_
  refine r_put C w 0 rfl rfl 1 (by decide) fl_RX11_45 rfl (ty := .int) (tyX11_ok 1 (by decide)) rfl rfl (Nat.le_of_ble_eq_true rfl) [(a0, .inr (11, [.ref a1, .int 18, .int 0, .int (-1), .ref a2, .ref a3, .ref a4, .ref a5, .ref a6, .null])), (a1, .inl (cy 0, 900, .inl (upd (upd (upd (upd (upd (upd (upd (upd (upd (upd (upd (upd (upd (upd (upd (upd (upd (fun _ => 0) 0 x1) 1 x2) 2 x3) 3 x4) 4 x5) 5 x6) 6 x7) 7 x8) 8 x9) 9 x10) 10 x11) 11 x12) 12 x13) 13 x14) 14 x15) 15 x16) 16 (vp_nar .byte (Int8.toInt32 (Int32.toInt8 (x0 >>> (24 &&& 31))))))))] rfl dX11_putBytes_29 (fun H locs w => ?_)
  refine lv_iload_n C.1 C.2.1 dX11_putBytes_32 rfl (lv_at hl 2 rfl) ?_
  refine lv_iload_n C.1 C.2.1 dX11_putBytes_33 rfl (lv_at hl 0 rfl) ?_
  refine r_ishr C (v := (x0 >>> (16 &&& 31))) dX11_putBytes_34 rfl ?_
  refine lv_i2b (v := (Int8.toInt32 (Int32.toInt8 (x0 >>> (16 &&& 31))))) C.1 C.2.1 dX11_putBytes_35 rfl ?_
  refine r_bast C w 1 rfl (vinD (by decide)) (upd (upd (upd (upd (upd (upd (upd (upd (upd (upd (upd (upd (upd (upd (upd (upd (upd (upd (fun _ => 0) 0 x1) 1 x2) 2 x3) 3 x4) 4 x5) 5 x6) 6 x7) 7 x8) 8 x9) 9 x10) 10 x11) 11 x12) 12 x13) 13 x14) 14 x15) 15 x16) 16 (vp_nar .byte (Int8.toInt32 (Int32.toInt8 (x0 >>> (24 &&& 31)))))) 17 (vp_nar .byte (Int8.toInt32 (Int32.toInt8 (x0 >>> (16 &&& 31)))))) rfl [(a0, .inr (11, [.ref a1, .int 18, .int 0, .int (-1), .ref a2, .ref a3, .ref a4, .ref a5, .ref a6, .null])), (a1, .inl (cy 0, 900, .inl (upd (upd (upd (upd (upd (upd (upd (upd (upd (upd (upd (upd (upd (upd (upd (upd (upd (upd (fun _ => 0) 0 x1) 1 x2) 2 x3) 3 x4) 4 x5) 5 x6) 6 x7) 7 x8) 8 x9) 9 x10) 10 x11) 11 x12) 12 x13) 13 x14) 14 x15) 15 x16) 16 (vp_nar .byte (Int8.toInt32 (Int32.toInt8 (x0 >>> (24 &&& 31)))))) 17 (vp_nar .byte (Int8.toInt32 (Int32.toInt8 (x0 >>> (16 &&& 31))))))))] rfl dX11_putBytes_36 (fun H locs w => ?_)
  refine lv_iinc (v := 8) (lv' := [(2, .int 8), (0, .ref a0), (1, .int x0)]) C.1 C.2.1 dX11_putBytes_37 hl (k := 0) rfl (by decide) (by decide) rfl (fun ls hl => ?_)
  refine lv_goto (tgt := 3) C.1 C.2.1 dX11_putBytes_40 (by decide) ?_
  refine lv_iload_n C.1 C.2.1 dX11_putBytes_3 rfl (lv_at hl 0 rfl) ?_
  refine b_if_lt_f C (tgt := 43) dX11_putBytes_4 (by decide) (by decide) ?_
  refine lv_aload_n C.1 C.2.1 dX11_putBytes_7 rfl (lv_at hl 1 rfl) ?_
  refine r_get C w 0 rfl rfl 1 (by decide) fl_RX11_45 (v := .int 18) rfl dX11_putBytes_8 ?_
  refine lv_sipush (v := 900) C.1 C.2.1 dX11_putBytes_11 (by decide) ?_
  refine b_icmp_ge_f C (tgt := 43) dX11_putBytes_14 (by decide) (by decide) ?_
  refine lv_aload_n C.1 C.2.1 dX11_putBytes_17 rfl (lv_at hl 1 rfl) ?_
  refine r_get C w 0 rfl rfl 0 (by decide) fl_RX11_9 (v := .ref a1) rfl dX11_putBytes_18 ?_
  refine lv_aload_n C.1 C.2.1 dX11_putBytes_21 rfl (lv_at hl 1 rfl) ?_
  refine lv_dup C.1 C.2.1 dX11_putBytes_22 rfl ?_
  refine r_get C w 0 rfl rfl 1 (by decide) fl_RX11_45 (v := .int 18) rfl dX11_putBytes_23 ?_
  refine lv_dup_x1 C.1 C.2.1 dX11_putBytes_26 rfl rfl ?_
  refine lv_iconst (v := 1) C.1 C.2.1 dX11_putBytes_27 (by decide) ?_
  refine r_iadd C (v := 19) dX11_putBytes_28 (by decide) ?_
  refine r_put C w 0 rfl rfl 1 (by decide) fl_RX11_45 rfl (ty := .int) (tyX11_ok 1 (by decide)) rfl rfl (Nat.le_of_ble_eq_true rfl) [(a0, .inr (11, [.ref a1, .int 19, .int 0, .int (-1), .ref a2, .ref a3, .ref a4, .ref a5, .ref a6, .null])), (a1, .inl (cy 0, 900, .inl (upd (upd (upd (upd (upd (upd (upd (upd (upd (upd (upd (upd (upd (upd (upd (upd (upd (upd (fun _ => 0) 0 x1) 1 x2) 2 x3) 3 x4) 4 x5) 5 x6) 6 x7) 7 x8) 8 x9) 9 x10) 10 x11) 11 x12) 12 x13) 13 x14) 14 x15) 15 x16) 16 (vp_nar .byte (Int8.toInt32 (Int32.toInt8 (x0 >>> (24 &&& 31)))))) 17 (vp_nar .byte (Int8.toInt32 (Int32.toInt8 (x0 >>> (16 &&& 31))))))))] rfl dX11_putBytes_29 (fun H locs w => ?_)
  refine lv_iload_n C.1 C.2.1 dX11_putBytes_32 rfl (lv_at hl 2 rfl) ?_
  refine lv_iload_n C.1 C.2.1 dX11_putBytes_33 rfl (lv_at hl 0 rfl) ?_
  refine r_ishr C (v := (x0 >>> (8 &&& 31))) dX11_putBytes_34 rfl ?_
  refine lv_i2b (v := (Int8.toInt32 (Int32.toInt8 (x0 >>> (8 &&& 31))))) C.1 C.2.1 dX11_putBytes_35 rfl ?_
  refine r_bast C w 1 rfl (vinD (by decide)) (upd (upd (upd (upd (upd (upd (upd (upd (upd (upd (upd (upd (upd (upd (upd (upd (upd (upd (upd (fun _ => 0) 0 x1) 1 x2) 2 x3) 3 x4) 4 x5) 5 x6) 6 x7) 7 x8) 8 x9) 9 x10) 10 x11) 11 x12) 12 x13) 13 x14) 14 x15) 15 x16) 16 (vp_nar .byte (Int8.toInt32 (Int32.toInt8 (x0 >>> (24 &&& 31)))))) 17 (vp_nar .byte (Int8.toInt32 (Int32.toInt8 (x0 >>> (16 &&& 31)))))) 18 (vp_nar .byte (Int8.toInt32 (Int32.toInt8 (x0 >>> (8 &&& 31)))))) rfl [(a0, .inr (11, [.ref a1, .int 19, .int 0, .int (-1), .ref a2, .ref a3, .ref a4, .ref a5, .ref a6, .null])), (a1, .inl (cy 0, 900, .inl (upd (upd (upd (upd (upd (upd (upd (upd (upd (upd (upd (upd (upd (upd (upd (upd (upd (upd (upd (fun _ => 0) 0 x1) 1 x2) 2 x3) 3 x4) 4 x5) 5 x6) 6 x7) 7 x8) 8 x9) 9 x10) 10 x11) 11 x12) 12 x13) 13 x14) 14 x15) 15 x16) 16 (vp_nar .byte (Int8.toInt32 (Int32.toInt8 (x0 >>> (24 &&& 31)))))) 17 (vp_nar .byte (Int8.toInt32 (Int32.toInt8 (x0 >>> (16 &&& 31)))))) 18 (vp_nar .byte (Int8.toInt32 (Int32.toInt8 (x0 >>> (8 &&& 31))))))))] rfl dX11_putBytes_36 (fun H locs w => ?_)
  refine lv_iinc (v := 0) (lv' := [(2, .int 0), (0, .ref a0), (1, .int x0)]) C.1 C.2.1 dX11_putBytes_37 hl (k := 0) rfl (by decide) (by decide) rfl (fun ls hl => ?_)
  refine lv_goto (tgt := 3) C.1 C.2.1 dX11_putBytes_40 (by decide) ?_
  refine lv_iload_n C.1 C.2.1 dX11_putBytes_3 rfl (lv_at hl 0 rfl) ?_
  refine b_if_lt_f C (tgt := 43) dX11_putBytes_4 (by decide) (by decide) ?_
  refine lv_aload_n C.1 C.2.1 dX11_putBytes_7 rfl (lv_at hl 1 rfl) ?_
  refine r_get C w 0 rfl rfl 1 (by decide) fl_RX11_45 (v := .int 19) rfl dX11_putBytes_8 ?_
  refine lv_sipush (v := 900) C.1 C.2.1 dX11_putBytes_11 (by decide) ?_
  refine b_icmp_ge_f C (tgt := 43) dX11_putBytes_14 (by decide) (by decide) ?_
  refine lv_aload_n C.1 C.2.1 dX11_putBytes_17 rfl (lv_at hl 1 rfl) ?_
  refine r_get C w 0 rfl rfl 0 (by decide) fl_RX11_9 (v := .ref a1) rfl dX11_putBytes_18 ?_
  refine lv_aload_n C.1 C.2.1 dX11_putBytes_21 rfl (lv_at hl 1 rfl) ?_
  refine lv_dup C.1 C.2.1 dX11_putBytes_22 rfl ?_
  refine r_get C w 0 rfl rfl 1 (by decide) fl_RX11_45 (v := .int 19) rfl dX11_putBytes_23 ?_
  refine lv_dup_x1 C.1 C.2.1 dX11_putBytes_26 rfl rfl ?_
  refine lv_iconst (v := 1) C.1 C.2.1 dX11_putBytes_27 (by decide) ?_
  refine r_iadd C (v := 20) dX11_putBytes_28 (by decide) ?_
  refine r_put C w 0 rfl rfl 1 (by decide) fl_RX11_45 rfl (ty := .int) (tyX11_ok 1 (by decide)) rfl rfl (Nat.le_of_ble_eq_true rfl) [(a0, .inr (11, [.ref a1, .int 20, .int 0, .int (-1), .ref a2, .ref a3, .ref a4, .ref a5, .ref a6, .null])), (a1, .inl (cy 0, 900, .inl (upd (upd (upd (upd (upd (upd (upd (upd (upd (upd (upd (upd (upd (upd (upd (upd (upd (upd (upd (fun _ => 0) 0 x1) 1 x2) 2 x3) 3 x4) 4 x5) 5 x6) 6 x7) 7 x8) 8 x9) 9 x10) 10 x11) 11 x12) 12 x13) 13 x14) 14 x15) 15 x16) 16 (vp_nar .byte (Int8.toInt32 (Int32.toInt8 (x0 >>> (24 &&& 31)))))) 17 (vp_nar .byte (Int8.toInt32 (Int32.toInt8 (x0 >>> (16 &&& 31)))))) 18 (vp_nar .byte (Int8.toInt32 (Int32.toInt8 (x0 >>> (8 &&& 31))))))))] rfl dX11_putBytes_29 (fun H locs w => ?_)
  refine lv_iload_n C.1 C.2.1 dX11_putBytes_32 rfl (lv_at hl 2 rfl) ?_
  refine lv_iload_n C.1 C.2.1 dX11_putBytes_33 rfl (lv_at hl 0 rfl) ?_
  refine r_ishr C (v := (x0 >>> (0 &&& 31))) dX11_putBytes_34 rfl ?_
  refine lv_i2b (v := (Int8.toInt32 (Int32.toInt8 (x0 >>> (0 &&& 31))))) C.1 C.2.1 dX11_putBytes_35 rfl ?_
  refine r_bast C w 1 rfl (vinD (by decide)) (upd (upd (upd (upd (upd (upd (upd (upd (upd (upd (upd (upd (upd (upd (upd (upd (upd (upd (upd (upd (fun _ => 0) 0 x1) 1 x2) 2 x3) 3 x4) 4 x5) 5 x6) 6 x7) 7 x8) 8 x9) 9 x10) 10 x11) 11 x12) 12 x13) 13 x14) 14 x15) 15 x16) 16 (vp_nar .byte (Int8.toInt32 (Int32.toInt8 (x0 >>> (24 &&& 31)))))) 17 (vp_nar .byte (Int8.toInt32 (Int32.toInt8 (x0 >>> (16 &&& 31)))))) 18 (vp_nar .byte (Int8.toInt32 (Int32.toInt8 (x0 >>> (8 &&& 31)))))) 19 (vp_nar .byte (Int8.toInt32 (Int32.toInt8 (x0 >>> (0 &&& 31)))))) rfl [(a0, .inr (11, [.ref a1, .int 20, .int 0, .int (-1), .ref a2, .ref a3, .ref a4, .ref a5, .ref a6, .null])), (a1, .inl (cy 0, 900, .inl (upd (upd (upd (upd (upd (upd (upd (upd (upd (upd (upd (upd (upd (upd (upd (upd (upd (upd (upd (upd (fun _ => 0) 0 x1) 1 x2) 2 x3) 3 x4) 4 x5) 5 x6) 6 x7) 7 x8) 8 x9) 9 x10) 10 x11) 11 x12) 12 x13) 13 x14) 14 x15) 15 x16) 16 (vp_nar .byte (Int8.toInt32 (Int32.toInt8 (x0 >>> (24 &&& 31)))))) 17 (vp_nar .byte (Int8.toInt32 (Int32.toInt8 (x0 >>> (16 &&& 31)))))) 18 (vp_nar .byte (Int8.toInt32 (Int32.toInt8 (x0 >>> (8 &&& 31)))))) 19 (vp_nar .byte (Int8.toInt32 (Int32.toInt8 (x0 >>> (0 &&& 31))))))))] rfl dX11_putBytes_36 (fun H locs w => ?_)
  refine lv_iinc (v := (-8)) (lv' := [(2, .int (-8)), (0, .ref a0), (1, .int x0)]) C.1 C.2.1 dX11_putBytes_37 hl (k := 0) rfl (by decide) (by decide) rfl (fun ls hl => ?_)
  refine lv_goto (tgt := 3) C.1 C.2.1 dX11_putBytes_40 (by decide) ?_
  refine lv_iload_n C.1 C.2.1 dX11_putBytes_3 rfl (lv_at hl 0 rfl) ?_
  refine b_if_lt_t C (tgt := 43) dX11_putBytes_4 (by decide) (by decide) ?_
  exact r_vret C w hlocks () hr rfl trivial [0, 1] rfl rfl ⟨Nat.le_of_ble_eq_true rfl, Nat.le_of_ble_eq_true rfl⟩ dX11_putBytes_43
theorem dX11_feed_42 : decode cX11_feed 42 = .ok (.aload_n 0, 1) := by decide +kernel
theorem dX11_feed_43 : decode cX11_feed 43 = .ok (.getfield 45, 3) := by decide +kernel
theorem dX11_feed_46 : decode cX11_feed 46 = .ok (.ireturn, 1) := by decide +kernel
set_option maxRecDepth 100000 in
set_option maxHeartbeats 4000000 in
theorem c_X11_feed_0 (l : Launch) (D : va_G) (cy : Nat → ClassId) (a0 a1 a2 a3 a4 a5 a6 : Nat) (x0 : Int32) (x1 : Int32) (x2 : Int32) (x3 : Int32) (x4 : Int32) : Ct l D cy yX11_feed cX11_feed 6 (some .int) 1 22 0 0 [(a0, .inr (11, [.ref a1, .int 0, .int 0, .int (-1), .ref a2, .ref a3, .ref a4, .ref a5, .ref a6, .null])), (a1, .inl (cy 0, 900, .inl (fun _ => 0)))] [.ref a0, .int x0, .int x1, .int x2, .int x3, .int x4] (fun u : Unit => some (.int 20)) (fun _ => True) (fun u : Unit => [(a0, .inr (11, [.ref a1, .int 20, .int 0, .int (-1), .ref a2, .ref a3, .ref a4, .ref a5, .ref a6, .null])), (a1, .inl (cy 0, 900, .inl (upd (upd (upd (upd (upd (upd (upd (upd (upd (upd (upd (upd (upd (upd (upd (upd (upd (upd (upd (upd (fun _ => 0) 0 (vp_nar .byte (Int8.toInt32 (Int32.toInt8 (x0 >>> (24 &&& 31)))))) 1 (vp_nar .byte (Int8.toInt32 (Int32.toInt8 (x0 >>> (16 &&& 31)))))) 2 (vp_nar .byte (Int8.toInt32 (Int32.toInt8 (x0 >>> (8 &&& 31)))))) 3 (vp_nar .byte (Int8.toInt32 (Int32.toInt8 (x0 >>> (0 &&& 31)))))) 4 (vp_nar .byte (Int8.toInt32 (Int32.toInt8 (x1 >>> (24 &&& 31)))))) 5 (vp_nar .byte (Int8.toInt32 (Int32.toInt8 (x1 >>> (16 &&& 31)))))) 6 (vp_nar .byte (Int8.toInt32 (Int32.toInt8 (x1 >>> (8 &&& 31)))))) 7 (vp_nar .byte (Int8.toInt32 (Int32.toInt8 (x1 >>> (0 &&& 31)))))) 8 (vp_nar .byte (Int8.toInt32 (Int32.toInt8 (x2 >>> (24 &&& 31)))))) 9 (vp_nar .byte (Int8.toInt32 (Int32.toInt8 (x2 >>> (16 &&& 31)))))) 10 (vp_nar .byte (Int8.toInt32 (Int32.toInt8 (x2 >>> (8 &&& 31)))))) 11 (vp_nar .byte (Int8.toInt32 (Int32.toInt8 (x2 >>> (0 &&& 31)))))) 12 (vp_nar .byte (Int8.toInt32 (Int32.toInt8 (x3 >>> (24 &&& 31)))))) 13 (vp_nar .byte (Int8.toInt32 (Int32.toInt8 (x3 >>> (16 &&& 31)))))) 14 (vp_nar .byte (Int8.toInt32 (Int32.toInt8 (x3 >>> (8 &&& 31)))))) 15 (vp_nar .byte (Int8.toInt32 (Int32.toInt8 (x3 >>> (0 &&& 31)))))) 16 (vp_nar .byte (Int8.toInt32 (Int32.toInt8 (x4 >>> (24 &&& 31)))))) 17 (vp_nar .byte (Int8.toInt32 (Int32.toInt8 (x4 >>> (16 &&& 31)))))) 18 (vp_nar .byte (Int8.toInt32 (Int32.toInt8 (x4 >>> (8 &&& 31)))))) 19 (vp_nar .byte (Int8.toInt32 (Int32.toInt8 (x4 >>> (0 &&& 31))))))))]) := by
  refine Ct.of (by decide +kernel) (Nat.le_of_ble_eq_true rfl) ?_
  intro p e s m args below meth c A ls C hr hlocks hml hnm w hl
  have hl : lv_has ls 6 [(0, .ref a0), (1, .int x0), (2, .int x1), (3, .int x2), (4, .int x3), (5, .int x4)] := hl
  refine lv_aload_n C.1 C.2.1 dX11_feed_0 rfl (lv_at hl 0 rfl) ?_
  refine r_get C w 0 rfl rfl 1 (by decide) fl_RX11_45 (v := .int 0) rfl dX11_feed_1 ?_
  refine lv_bipush (v := 20) C.1 C.2.1 dX11_feed_4 (by decide) ?_
  refine r_iadd C (v := 20) dX11_feed_6 (by decide) ?_
  refine lv_sipush (v := 900) C.1 C.2.1 dX11_feed_7 (by decide) ?_
  refine b_icmp_le_t C (tgt := 15) dX11_feed_10 (by decide) (by decide) ?_
  refine lv_aload_n C.1 C.2.1 dX11_feed_15 rfl (lv_at hl 0 rfl) ?_
  refine lv_iload_n C.1 C.2.1 dX11_feed_16 rfl (lv_at hl 1 rfl) ?_
  refine r_callV C w fv_RX11_48 (c_X11_putBytes_0 l D cy a0 a1 a2 a3 a4 a5 a6 x0) (hl.1.trans hml.symm) [0, 1] [] (wr := []) ⟨rfl, rfl, rfl, rfl, by decide⟩ 0 rfl rfl rfl rfl rfl ⟨Nat.le_of_ble_eq_true rfl, Nat.le_of_ble_eq_true rfl, Nat.le_of_ble_eq_true rfl⟩ 0 0 ⟨rfl, rfl, Nat.le_of_ble_eq_true rfl, Nat.le_of_ble_eq_true rfl⟩ dX11_feed_17 (fun u H locs hp w => ?_)
  have w : Wd D A s.heap [(a0, .inr (11, [.ref a1, .int 4, .int 0, .int (-1), .ref a2, .ref a3, .ref a4, .ref a5, .ref a6, .null])), (a1, .inl (cy 0, 900, .inl (upd (upd (upd (upd (fun _ => 0) 0 (vp_nar .byte (Int8.toInt32 (Int32.toInt8 (x0 >>> (24 &&& 31)))))) 1 (vp_nar .byte (Int8.toInt32 (Int32.toInt8 (x0 >>> (16 &&& 31)))))) 2 (vp_nar .byte (Int8.toInt32 (Int32.toInt8 (x0 >>> (8 &&& 31)))))) 3 (vp_nar .byte (Int8.toInt32 (Int32.toInt8 (x0 >>> (0 &&& 31))))))))] _ _ := w
  refine r_top (g2 := F0 m 20 ls []) rfl ?_
  refine lv_aload_n C.1 C.2.1 dX11_feed_20 rfl (lv_at hl 0 rfl) ?_
  refine lv_iload_n C.1 C.2.1 dX11_feed_21 rfl (lv_at hl 2 rfl) ?_
  refine r_callV C w fv_RX11_48 (c_X11_putBytes_1 l D cy a0 a1 a2 a3 a4 a5 a6 x1 (vp_nar .byte (Int8.toInt32 (Int32.toInt8 (x0 >>> (24 &&& 31))))) (vp_nar .byte (Int8.toInt32 (Int32.toInt8 (x0 >>> (16 &&& 31))))) (vp_nar .byte (Int8.toInt32 (Int32.toInt8 (x0 >>> (8 &&& 31))))) (vp_nar .byte (Int8.toInt32 (Int32.toInt8 (x0 >>> (0 &&& 31)))))) (hl.1.trans hml.symm) [0, 1] [] (wr := []) ⟨rfl, rfl, rfl, rfl, by decide⟩ 0 rfl rfl rfl rfl rfl ⟨Nat.le_of_ble_eq_true rfl, Nat.le_of_ble_eq_true rfl, Nat.le_of_ble_eq_true rfl⟩ 0 0 ⟨rfl, rfl, Nat.le_of_ble_eq_true rfl, Nat.le_of_ble_eq_true rfl⟩ dX11_feed_22 (fun u H locs hp w => ?_)
  have w : Wd D A s.heap [(a0, .inr (11, [.ref a1, .int 8, .int 0, .int (-1), .ref a2, .ref a3, .ref a4, .ref a5, .ref a6, .null])), (a1, .inl (cy 0, 900, .inl (upd (upd (upd (upd (upd (upd (upd (upd (fun _ => 0) 0 (vp_nar .byte (Int8.toInt32 (Int32.toInt8 (x0 >>> (24 &&& 31)))))) 1 (vp_nar .byte (Int8.toInt32 (Int32.toInt8 (x0 >>> (16 &&& 31)))))) 2 (vp_nar .byte (Int8.toInt32 (Int32.toInt8 (x0 >>> (8 &&& 31)))))) 3 (vp_nar .byte (Int8.toInt32 (Int32.toInt8 (x0 >>> (0 &&& 31)))))) 4 (vp_nar .byte (Int8.toInt32 (Int32.toInt8 (x1 >>> (24 &&& 31)))))) 5 (vp_nar .byte (Int8.toInt32 (Int32.toInt8 (x1 >>> (16 &&& 31)))))) 6 (vp_nar .byte (Int8.toInt32 (Int32.toInt8 (x1 >>> (8 &&& 31)))))) 7 (vp_nar .byte (Int8.toInt32 (Int32.toInt8 (x1 >>> (0 &&& 31))))))))] _ _ := w
  refine r_top (g2 := F0 m 25 ls []) rfl ?_
  refine lv_aload_n C.1 C.2.1 dX11_feed_25 rfl (lv_at hl 0 rfl) ?_
  refine lv_iload_n C.1 C.2.1 dX11_feed_26 rfl (lv_at hl 3 rfl) ?_
  refine r_callV C w fv_RX11_48 (c_X11_putBytes_2 l D cy a0 a1 a2 a3 a4 a5 a6 x2 (vp_nar .byte (Int8.toInt32 (Int32.toInt8 (x0 >>> (24 &&& 31))))) (vp_nar .byte (Int8.toInt32 (Int32.toInt8 (x0 >>> (16 &&& 31))))) (vp_nar .byte (Int8.toInt32 (Int32.toInt8 (x0 >>> (8 &&& 31))))) (vp_nar .byte (Int8.toInt32 (Int32.toInt8 (x0 >>> (0 &&& 31))))) (vp_nar .byte (Int8.toInt32 (Int32.toInt8 (x1 >>> (24 &&& 31))))) (vp_nar .byte (Int8.toInt32 (Int32.toInt8 (x1 >>> (16 &&& 31))))) (vp_nar .byte (Int8.toInt32 (Int32.toInt8 (x1 >>> (8 &&& 31))))) (vp_nar .byte (Int8.toInt32 (Int32.toInt8 (x1 >>> (0 &&& 31)))))) (hl.1.trans hml.symm) [0, 1] [] (wr := []) ⟨rfl, rfl, rfl, rfl, by decide⟩ 0 rfl rfl rfl rfl rfl ⟨Nat.le_of_ble_eq_true rfl, Nat.le_of_ble_eq_true rfl, Nat.le_of_ble_eq_true rfl⟩ 0 0 ⟨rfl, rfl, Nat.le_of_ble_eq_true rfl, Nat.le_of_ble_eq_true rfl⟩ dX11_feed_27 (fun u H locs hp w => ?_)
  have w : Wd D A s.heap [(a0, .inr (11, [.ref a1, .int 12, .int 0, .int (-1), .ref a2, .ref a3, .ref a4, .ref a5, .ref a6, .null])), (a1, .inl (cy 0, 900, .inl (upd (upd (upd (upd (upd (upd (upd (upd (upd (upd (upd (upd (fun _ => 0) 0 (vp_nar .byte (Int8.toInt32 (Int32.toInt8 (x0 >>> (24 &&& 31)))))) 1 (vp_nar .byte (Int8.toInt32 (Int32.toInt8 (x0 >>> (16 &&& 31)))))) 2 (vp_nar .byte (Int8.toInt32 (Int32.toInt8 (x0 >>> (8 &&& 31)))))) 3 (vp_nar .byte (Int8.toInt32 (Int32.toInt8 (x0 >>> (0 &&& 31)))))) 4 (vp_nar .byte (Int8.toInt32 (Int32.toInt8 (x1 >>> (24 &&& 31)))))) 5 (vp_nar .byte (Int8.toInt32 (Int32.toInt8 (x1 >>> (16 &&& 31)))))) 6 (vp_nar .byte (Int8.toInt32 (Int32.toInt8 (x1 >>> (8 &&& 31)))))) 7 (vp_nar .byte (Int8.toInt32 (Int32.toInt8 (x1 >>> (0 &&& 31)))))) 8 (vp_nar .byte (Int8.toInt32 (Int32.toInt8 (x2 >>> (24 &&& 31)))))) 9 (vp_nar .byte (Int8.toInt32 (Int32.toInt8 (x2 >>> (16 &&& 31)))))) 10 (vp_nar .byte (Int8.toInt32 (Int32.toInt8 (x2 >>> (8 &&& 31)))))) 11 (vp_nar .byte (Int8.toInt32 (Int32.toInt8 (x2 >>> (0 &&& 31))))))))] _ _ := w
  refine r_top (g2 := F0 m 30 ls []) rfl ?_
  refine lv_aload_n C.1 C.2.1 dX11_feed_30 rfl (lv_at hl 0 rfl) ?_
  refine lv_iload C.1 C.2.1 dX11_feed_31 (lv_at hl 4 rfl) ?_
  refine r_callV C w fv_RX11_48 (c_X11_putBytes_3 l D cy a0 a1 a2 a3 a4 a5 a6 x3 (vp_nar .byte (Int8.toInt32 (Int32.toInt8 (x0 >>> (24 &&& 31))))) (vp_nar .byte (Int8.toInt32 (Int32.toInt8 (x0 >>> (16 &&& 31))))) (vp_nar .byte (Int8.toInt32 (Int32.toInt8 (x0 >>> (8 &&& 31))))) (vp_nar .byte (Int8.toInt32 (Int32.toInt8 (x0 >>> (0 &&& 31))))) (vp_nar .byte (Int8.toInt32 (Int32.toInt8 (x1 >>> (24 &&& 31))))) (vp_nar .byte (Int8.toInt32 (Int32.toInt8 (x1 >>> (16 &&& 31))))) (vp_nar .byte (Int8.toInt32 (Int32.toInt8 (x1 >>> (8 &&& 31))))) (vp_nar .byte (Int8.toInt32 (Int32.toInt8 (x1 >>> (0 &&& 31))))) (vp_nar .byte (Int8.toInt32 (Int32.toInt8 (x2 >>> (24 &&& 31))))) (vp_nar .byte (Int8.toInt32 (Int32.toInt8 (x2 >>> (16 &&& 31))))) (vp_nar .byte (Int8.toInt32 (Int32.toInt8 (x2 >>> (8 &&& 31))))) (vp_nar .byte (Int8.toInt32 (Int32.toInt8 (x2 >>> (0 &&& 31)))))) (hl.1.trans hml.symm) [0, 1] [] (wr := []) ⟨rfl, rfl, rfl, rfl, by decide⟩ 0 rfl rfl rfl rfl rfl ⟨Nat.le_of_ble_eq_true rfl, Nat.le_of_ble_eq_true rfl, Nat.le_of_ble_eq_true rfl⟩ 0 0 ⟨rfl, rfl, Nat.le_of_ble_eq_true rfl, Nat.le_of_ble_eq_true rfl⟩ dX11_feed_33 (fun u H locs hp w => ?_)
  have w : Wd D A s.heap [(a0, .inr (11, [.ref a1, .int 16, .int 0, .int (-1), .ref a2, .ref a3, .ref a4, .ref a5, .ref a6, .null])), (a1, .inl (cy 0, 900, .inl (upd (upd (upd (upd (upd (upd (upd (upd (upd (upd (upd (upd (upd (upd (upd (upd (fun _ => 0) 0 (vp_nar .byte (Int8.toInt32 (Int32.toInt8 (x0 >>> (24 &&& 31)))))) 1 (vp_nar .byte (Int8.toInt32 (Int32.toInt8 (x0 >>> (16 &&& 31)))))) 2 (vp_nar .byte (Int8.toInt32 (Int32.toInt8 (x0 >>> (8 &&& 31)))))) 3 (vp_nar .byte (Int8.toInt32 (Int32.toInt8 (x0 >>> (0 &&& 31)))))) 4 (vp_nar .byte (Int8.toInt32 (Int32.toInt8 (x1 >>> (24 &&& 31)))))) 5 (vp_nar .byte (Int8.toInt32 (Int32.toInt8 (x1 >>> (16 &&& 31)))))) 6 (vp_nar .byte (Int8.toInt32 (Int32.toInt8 (x1 >>> (8 &&& 31)))))) 7 (vp_nar .byte (Int8.toInt32 (Int32.toInt8 (x1 >>> (0 &&& 31)))))) 8 (vp_nar .byte (Int8.toInt32 (Int32.toInt8 (x2 >>> (24 &&& 31)))))) 9 (vp_nar .byte (Int8.toInt32 (Int32.toInt8 (x2 >>> (16 &&& 31)))))) 10 (vp_nar .byte (Int8.toInt32 (Int32.toInt8 (x2 >>> (8 &&& 31)))))) 11 (vp_nar .byte (Int8.toInt32 (Int32.toInt8 (x2 >>> (0 &&& 31)))))) 12 (vp_nar .byte (Int8.toInt32 (Int32.toInt8 (x3 >>> (24 &&& 31)))))) 13 (vp_nar .byte (Int8.toInt32 (Int32.toInt8 (x3 >>> (16 &&& 31)))))) 14 (vp_nar .byte (Int8.toInt32 (Int32.toInt8 (x3 >>> (8 &&& 31)))))) 15 (vp_nar .byte (Int8.toInt32 (Int32.toInt8 (x3 >>> (0 &&& 31))))))))] _ _ := w
  refine r_top (g2 := F0 m 36 ls []) rfl ?_
  refine lv_aload_n C.1 C.2.1 dX11_feed_36 rfl (lv_at hl 0 rfl) ?_
  refine lv_iload C.1 C.2.1 dX11_feed_37 (lv_at hl 5 rfl) ?_
  refine r_callV C w fv_RX11_48 (c_X11_putBytes_4 l D cy a0 a1 a2 a3 a4 a5 a6 x4 (vp_nar .byte (Int8.toInt32 (Int32.toInt8 (x0 >>> (24 &&& 31))))) (vp_nar .byte (Int8.toInt32 (Int32.toInt8 (x0 >>> (16 &&& 31))))) (vp_nar .byte (Int8.toInt32 (Int32.toInt8 (x0 >>> (8 &&& 31))))) (vp_nar .byte (Int8.toInt32 (Int32.toInt8 (x0 >>> (0 &&& 31))))) (vp_nar .byte (Int8.toInt32 (Int32.toInt8 (x1 >>> (24 &&& 31))))) (vp_nar .byte (Int8.toInt32 (Int32.toInt8 (x1 >>> (16 &&& 31))))) (vp_nar .byte (Int8.toInt32 (Int32.toInt8 (x1 >>> (8 &&& 31))))) (vp_nar .byte (Int8.toInt32 (Int32.toInt8 (x1 >>> (0 &&& 31))))) (vp_nar .byte (Int8.toInt32 (Int32.toInt8 (x2 >>> (24 &&& 31))))) (vp_nar .byte (Int8.toInt32 (Int32.toInt8 (x2 >>> (16 &&& 31))))) (vp_nar .byte (Int8.toInt32 (Int32.toInt8 (x2 >>> (8 &&& 31))))) (vp_nar .byte (Int8.toInt32 (Int32.toInt8 (x2 >>> (0 &&& 31))))) (vp_nar .byte (Int8.toInt32 (Int32.toInt8 (x3 >>> (24 &&& 31))))) (vp_nar .byte (Int8.toInt32 (Int32.toInt8 (x3 >>> (16 &&& 31))))) (vp_nar .byte (Int8.toInt32 (Int32.toInt8 (x3 >>> (8 &&& 31))))) (vp_nar .byte (Int8.toInt32 (Int32.toInt8 (x3 >>> (0 &&& 31)))))) (hl.1.trans hml.symm) [0, 1] [] (wr := []) ⟨rfl, rfl, rfl, rfl, by decide⟩ 0 rfl rfl rfl rfl rfl ⟨Nat.le_of_ble_eq_true rfl, Nat.le_of_ble_eq_true rfl, Nat.le_of_ble_eq_true rfl⟩ 0 0 ⟨rfl, rfl, Nat.le_of_ble_eq_true rfl, Nat.le_of_ble_eq_true rfl⟩ dX11_feed_39 (fun u H locs hp w => ?_)
  have w : Wd D A s.heap [(a0, .inr (11, [.ref a1, .int 20, .int 0, .int (-1), .ref a2, .ref a3, .ref a4, .ref a5, .ref a6, .null])), (a1, .inl (cy 0, 900, .inl (upd (upd (upd (upd (upd (upd (upd (upd (upd (upd (upd (upd (upd (upd (upd (upd (upd (upd (upd (upd (fun _ => 0) 0 (vp_nar .byte (Int8.toInt32 (Int32.toInt8 (x0 >>> (24 &&& 31)))))) 1 (vp_nar .byte (Int8.toInt32 (Int32.toInt8 (x0 >>> (16 &&& 31)))))) 2 (vp_nar .byte (Int8.toInt32 (Int32.toInt8 (x0 >>> (8 &&& 31)))))) 3 (vp_nar .byte (Int8.toInt32 (Int32.toInt8 (x0 >>> (0 &&& 31)))))) 4 (vp_nar .byte (Int8.toInt32 (Int32.toInt8 (x1 >>> (24 &&& 31)))))) 5 (vp_nar .byte (Int8.toInt32 (Int32.toInt8 (x1 >>> (16 &&& 31)))))) 6 (vp_nar .byte (Int8.toInt32 (Int32.toInt8 (x1 >>> (8 &&& 31)))))) 7 (vp_nar .byte (Int8.toInt32 (Int32.toInt8 (x1 >>> (0 &&& 31)))))) 8 (vp_nar .byte (Int8.toInt32 (Int32.toInt8 (x2 >>> (24 &&& 31)))))) 9 (vp_nar .byte (Int8.toInt32 (Int32.toInt8 (x2 >>> (16 &&& 31)))))) 10 (vp_nar .byte (Int8.toInt32 (Int32.toInt8 (x2 >>> (8 &&& 31)))))) 11 (vp_nar .byte (Int8.toInt32 (Int32.toInt8 (x2 >>> (0 &&& 31)))))) 12 (vp_nar .byte (Int8.toInt32 (Int32.toInt8 (x3 >>> (24 &&& 31)))))) 13 (vp_nar .byte (Int8.toInt32 (Int32.toInt8 (x3 >>> (16 &&& 31)))))) 14 (vp_nar .byte (Int8.toInt32 (Int32.toInt8 (x3 >>> (8 &&& 31)))))) 15 (vp_nar .byte (Int8.toInt32 (Int32.toInt8 (x3 >>> (0 &&& 31)))))) 16 (vp_nar .byte (Int8.toInt32 (Int32.toInt8 (x4 >>> (24 &&& 31)))))) 17 (vp_nar .byte (Int8.toInt32 (Int32.toInt8 (x4 >>> (16 &&& 31)))))) 18 (vp_nar .byte (Int8.toInt32 (Int32.toInt8 (x4 >>> (8 &&& 31)))))) 19 (vp_nar .byte (Int8.toInt32 (Int32.toInt8 (x4 >>> (0 &&& 31))))))))] _ _ := w
  refine r_top (g2 := F0 m 42 ls []) rfl ?_
  refine lv_aload_n C.1 C.2.1 dX11_feed_42 rfl (lv_at hl 0 rfl) ?_
  refine r_get C w 0 rfl rfl 1 (by decide) fl_RX11_45 (v := .int 20) rfl dX11_feed_43 ?_
  exact r_iret C w hlocks () hr rfl rfl trivial [0, 1] rfl rfl ⟨Nat.le_of_ble_eq_true rfl, Nat.le_of_ble_eq_true rfl⟩ dX11_feed_46
theorem dX11_talk_0 : decode cX11_talk 0 = .ok (.iload_n 1, 1) := by decide +kernel
theorem dX11_talk_1 : decode cX11_talk 1 = .ok (.ifCond .lt 11, 3) := by decide +kernel
theorem fa5_56 : ∀ w ∈ vx_atS RX11 56 nIAE ["java/lang/RuntimeException", "java/lang/Exception"], w ∈ lw_tbl ∧ (isCas w = true ∨ goodWord w = true) := by decide +kernel
theorem fa6_52_56 : ∀ w ∈ Cond.classLink RX11 52 nIAE :: Cond.initialized nIAE :: vx_atS RX11 56 nIAE ["java/lang/RuntimeException", "java/lang/Exception"], vx_ot w = true := by decide +kernel
theorem ft_52_54_56 : FT RX11 52 54 56 nIAE "not so many bytes on the tape" := ft_of (by decide +kernel) (by decide +kernel) (by decide +kernel) (by decide +kernel) fa5_56 fa6_52_56
theorem dX11_talk_12 : decode cX11_talk 12 = .ok (.new 52, 3) := by decide +kernel
theorem dX11_talk_15 : decode cX11_talk 15 = .ok (.dup, 1) := by decide +kernel
theorem dX11_talk_16 : decode cX11_talk 16 = .ok (.ldc 54, 2) := by decide +kernel
theorem dX11_talk_18 : decode cX11_talk 18 = .ok (.invokespecial 56, 3) := by decide +kernel
theorem dX11_talk_21 : decode cX11_talk 21 = .ok (.athrow, 1) := by decide +kernel
set_option maxRecDepth 100000 in
set_option maxHeartbeats 4000000 in
theorem c_X11_talk_0 (l : Launch) (D : va_G) (cy : Nat → ClassId) (a0 a1 a2 a3 a4 a5 a6 : Nat) (x0 : Int32) (k0 : x0 < 0) (hst : l.stackTraces = false) : CtX l D cy yX11_talk cX11_talk 3 (some .int) 6 82 1 6 [(a0, .inr (11, [.ref a1, .int 0, .int 0, .int (-1), .ref a2, .ref a3, .ref a4, .ref a5, .ref a6, .null]))] [.ref a0, .int x0] nIAE := by
  refine CtX.of (by decide +kernel) (Nat.le_of_ble_eq_true rfl) ?_
  intro p e s m args below meth c A ls C hlocks hml htab w hl
  have hl : lv_has ls 3 [(0, .ref a0), (1, .int x0)] := hl
  refine lv_iload_n C.1 C.2.1 dX11_talk_0 rfl (lv_at hl 1 rfl) ?_
  refine b_if_lt_t C (tgt := 12) dX11_talk_1 (by decide) k0 ?_
  exact r_throwS C hst w ft_52_54_56 (hl.1.trans hml.symm) hlocks htab dX11_talk_12 dX11_talk_15 dX11_talk_16 dX11_talk_18 dX11_talk_21 ⟨Nat.le_of_ble_eq_true rfl, Nat.le_of_ble_eq_true rfl, Nat.le_of_ble_eq_true rfl, Nat.le_of_ble_eq_true rfl⟩ ⟨Nat.le_of_ble_eq_true rfl, Nat.le_of_ble_eq_true rfl⟩
theorem dX11_talk_4 : decode cX11_talk 4 = .ok (.iload_n 1, 1) := by decide +kernel
theorem dX11_talk_5 : decode cX11_talk 5 = .ok (.aload_n 0, 1) := by decide +kernel
theorem dX11_talk_6 : decode cX11_talk 6 = .ok (.getfield 45, 3) := by decide +kernel
theorem dX11_talk_9 : decode cX11_talk 9 = .ok (.if_icmp .le 13, 3) := by decide +kernel
theorem dX11_talk_22 : decode cX11_talk 22 = .ok (.aload_n 0, 1) := by decide +kernel
theorem dX11_talk_23 : decode cX11_talk 23 = .ok (.invokevirtual 59, 3) := by decide +kernel
theorem dX11_spareTalk_0 : decode cX11_spareTalk 0 = .ok (.iconst 0, 1) := by decide +kernel
theorem dX11_spareTalk_1 : decode cX11_spareTalk 1 = .ok (.istore_n 1, 1) := by decide +kernel
theorem dX11_spareTalk_2 : decode cX11_spareTalk 2 = .ok (.iload_n 1, 1) := by decide +kernel
theorem dX11_spareTalk_3 : decode cX11_spareTalk 3 = .ok (.aload_n 0, 1) := by decide +kernel
theorem dX11_spareTalk_4 : decode cX11_spareTalk 4 = .ok (.getfield 26, 3) := by decide +kernel
theorem dX11_spareTalk_7 : decode cX11_spareTalk 7 = .ok (.arraylength, 1) := by decide +kernel
theorem dX11_spareTalk_8 : decode cX11_spareTalk 8 = .ok (.if_icmp .ge 64, 3) := by decide +kernel
theorem dX11_spareTalk_11 : decode cX11_spareTalk 11 = .ok (.aload_n 0, 1) := by decide +kernel
theorem dX11_spareTalk_12 : decode cX11_spareTalk 12 = .ok (.getfield 26, 3) := by decide +kernel
theorem dX11_spareTalk_15 : decode cX11_spareTalk 15 = .ok (.iload_n 1, 1) := by decide +kernel
theorem dX11_spareTalk_16 : decode cX11_spareTalk 16 = .ok (.aaload, 1) := by decide +kernel
theorem dX11_spareTalk_17 : decode cX11_spareTalk 17 = .ok (.ifnonnull 16, 3) := by decide +kernel
theorem dX11_spareTalk_33 : decode cX11_spareTalk 33 = .ok (.aload_n 0, 1) := by decide +kernel
theorem dX11_spareTalk_34 : decode cX11_spareTalk 34 = .ok (.getfield 26, 3) := by decide +kernel
theorem dX11_spareTalk_37 : decode cX11_spareTalk 37 = .ok (.iload_n 1, 1) := by decide +kernel
theorem dX11_spareTalk_38 : decode cX11_spareTalk 38 = .ok (.aaload, 1) := by decide +kernel
theorem dX11_spareTalk_39 : decode cX11_spareTalk 39 = .ok (.aload_n 0, 1) := by decide +kernel
theorem dX11_spareTalk_40 : decode cX11_spareTalk 40 = .ok (.getfield 41, 3) := by decide +kernel
theorem dX11_spareTalk_43 : decode cX11_spareTalk 43 = .ok (.if_acmp .eq 23, 3) := by decide +kernel
theorem dX11_spareTalk_66 : decode cX11_spareTalk 66 = .ok (.iinc 1 1, 3) := by decide +kernel
theorem dX11_spareTalk_69 : decode cX11_spareTalk 69 = .ok (.goto (-67), 3) := by decide +kernel
theorem dX11_spareTalk_20 : decode cX11_spareTalk 20 = .ok (.aload_n 0, 1) := by decide +kernel
theorem dX11_spareTalk_21 : decode cX11_spareTalk 21 = .ok (.getfield 26, 3) := by decide +kernel
theorem dX11_spareTalk_24 : decode cX11_spareTalk 24 = .ok (.iload_n 1, 1) := by decide +kernel
theorem dX11_spareTalk_25 : decode cX11_spareTalk 25 = .ok (.new 24, 3) := by decide +kernel
theorem dX11_spareTalk_28 : decode cX11_spareTalk 28 = .ok (.dup, 1) := by decide +kernel
theorem dX11_spareTalk_29 : decode cX11_spareTalk 29 = .ok (.invokespecial 40, 3) := by decide +kernel
theorem dX11_spareTalk_32 : decode cX11_spareTalk 32 = .ok (.aastore, 1) := by decide +kernel
theorem dX11_spareTalk_46 : decode cX11_spareTalk 46 = .ok (.aload_n 0, 1) := by decide +kernel
theorem dX11_spareTalk_47 : decode cX11_spareTalk 47 = .ok (.aload_n 0, 1) := by decide +kernel
theorem dX11_spareTalk_48 : decode cX11_spareTalk 48 = .ok (.getfield 26, 3) := by decide +kernel
theorem dX11_spareTalk_51 : decode cX11_spareTalk 51 = .ok (.iload_n 1, 1) := by decide +kernel
theorem dX11_spareTalk_52 : decode cX11_spareTalk 52 = .ok (.aaload, 1) := by decide +kernel
theorem dX11_spareTalk_53 : decode cX11_spareTalk 53 = .ok (.invokevirtual 81, 3) := by decide +kernel
theorem dX11_isImaged_0 : decode cX11_isImaged 0 = .ok (.iconst 0, 1) := by decide +kernel
theorem dX11_isImaged_1 : decode cX11_isImaged 1 = .ok (.istore_n 2, 1) := by decide +kernel
theorem dX11_isImaged_2 : decode cX11_isImaged 2 = .ok (.iload_n 2, 1) := by decide +kernel
theorem dX11_isImaged_3 : decode cX11_isImaged 3 = .ok (.iconst 3, 1) := by decide +kernel
theorem dX11_isImaged_4 : decode cX11_isImaged 4 = .ok (.if_icmp .ge 21, 3) := by decide +kernel
theorem dX11_isImaged_7 : decode cX11_isImaged 7 = .ok (.aload_n 0, 1) := by decide +kernel
theorem dX11_isImaged_8 : decode cX11_isImaged 8 = .ok (.getfield 30, 3) := by decide +kernel
theorem dX11_isImaged_11 : decode cX11_isImaged 11 = .ok (.iload_n 2, 1) := by decide +kernel
theorem dX11_isImaged_12 : decode cX11_isImaged 12 = .ok (.aaload, 1) := by decide +kernel
theorem dX11_isImaged_13 : decode cX11_isImaged 13 = .ok (.aload_n 1, 1) := by decide +kernel
theorem dX11_isImaged_14 : decode cX11_isImaged 14 = .ok (.if_acmp .ne 5, 3) := by decide +kernel
theorem dX11_isImaged_19 : decode cX11_isImaged 19 = .ok (.iinc 2 1, 3) := by decide +kernel
theorem dX11_isImaged_22 : decode cX11_isImaged 22 = .ok (.goto (-20), 3) := by decide +kernel
theorem dX11_isImaged_25 : decode cX11_isImaged 25 = .ok (.iconst 0, 1) := by decide +kernel
theorem dX11_isImaged_26 : decode cX11_isImaged 26 = .ok (.ireturn, 1) := by decide +kernel
set_option maxRecDepth 100000 in
set_option maxHeartbeats 4000000 in
theorem c_X11_isImaged_0 (l : Launch) (D : va_G) (cy : Nat → ClassId) (a0 a1 a2 a3 a4 a5 a6 a7 : Nat) : Ct l D cy yX11_isImaged cX11_isImaged 3 (some .boolean) 0 0 0 0 [(a0, .inr (11, [.ref a2, .int 0, .int 0, .int (-1), .ref a3, .ref a4, .ref a5, .ref a6, .ref a7, .null])), (a5, .inl (cy 4, 3, .inr (.inr (.inr (.inr (fun _ => none))))))] [.ref a0, .ref a1] (fun u : Unit => some (.int 0)) (fun _ => True) (fun u : Unit => [(a0, .inr (11, [.ref a2, .int 0, .int 0, .int (-1), .ref a3, .ref a4, .ref a5, .ref a6, .ref a7, .null])), (a5, .inl (cy 4, 3, .inr (.inr (.inr (.inr (fun _ => none))))))]) := by
  refine Ct.of (by decide +kernel) (Nat.le_of_ble_eq_true rfl) ?_
  intro p e s m args below meth c A ls C hr hlocks hml hnm w hl
  have hl : lv_has ls 3 [(0, .ref a0), (1, .ref a1)] := hl
  refine lv_iconst (v := 0) C.1 C.2.1 dX11_isImaged_0 (by decide) ?_
  refine lv_istore_n (lv' := [(2, .int 0), (0, .ref a0), (1, .ref a1)]) C.1 C.2.1 dX11_isImaged_1 rfl hl (by decide) rfl (fun ls hl => ?_)
  refine lv_iload_n C.1 C.2.1 dX11_isImaged_2 rfl (lv_at hl 0 rfl) ?_
  refine lv_iconst (v := 3) C.1 C.2.1 dX11_isImaged_3 (by decide) ?_
  refine b_icmp_ge_f C (tgt := 25) dX11_isImaged_4 (by decide) (by decide) ?_
  refine lv_aload_n C.1 C.2.1 dX11_isImaged_7 rfl (lv_at hl 1 rfl) ?_
  refine r_get C w 0 rfl rfl 6 (by decide) fl_RX11_30 (v := .ref a5) rfl dX11_isImaged_8 ?_
  refine lv_iload_n C.1 C.2.1 dX11_isImaged_11 rfl (lv_at hl 0 rfl) ?_
  refine r_aald C w 1 4 rfl rfl rfl (v := .null) (vinD (by decide)) rfl dX11_isImaged_12 ?_
  refine lv_aload_n C.1 C.2.1 dX11_isImaged_13 rfl (lv_at hl 2 rfl) ?_
  refine b_acmp_ne_t C (tgt := 19) dX11_isImaged_14 (by decide) (rfl : va_rf none = _) (rfl : va_rf (some a1) = _) (fun q => nomatch q) ?_
  refine lv_iinc (v := 1) (lv' := [(2, .int 1), (0, .ref a0), (1, .ref a1)]) C.1 C.2.1 dX11_isImaged_19 hl (k := 0) rfl (by decide) (by decide) rfl (fun ls hl => ?_)
  refine lv_goto (tgt := 2) C.1 C.2.1 dX11_isImaged_22 (by decide) ?_
  refine lv_iload_n C.1 C.2.1 dX11_isImaged_2 rfl (lv_at hl 0 rfl) ?_
  refine lv_iconst (v := 3) C.1 C.2.1 dX11_isImaged_3 (by decide) ?_
  refine b_icmp_ge_f C (tgt := 25) dX11_isImaged_4 (by decide) (by decide) ?_
  refine lv_aload_n C.1 C.2.1 dX11_isImaged_7 rfl (lv_at hl 1 rfl) ?_
  refine r_get C w 0 rfl rfl 6 (by decide) fl_RX11_30 (v := .ref a5) rfl dX11_isImaged_8 ?_
  refine lv_iload_n C.1 C.2.1 dX11_isImaged_11 rfl (lv_at hl 0 rfl) ?_
  refine r_aald C w 1 4 rfl rfl rfl (v := .null) (vinD (by decide)) rfl dX11_isImaged_12 ?_
  refine lv_aload_n C.1 C.2.1 dX11_isImaged_13 rfl (lv_at hl 2 rfl) ?_
  refine b_acmp_ne_t C (tgt := 19) dX11_isImaged_14 (by decide) (rfl : va_rf none = _) (rfl : va_rf (some a1) = _) (fun q => nomatch q) ?_
  refine lv_iinc (v := 2) (lv' := [(2, .int 2), (0, .ref a0), (1, .ref a1)]) C.1 C.2.1 dX11_isImaged_19 hl (k := 0) rfl (by decide) (by decide) rfl (fun ls hl => ?_)
  refine lv_goto (tgt := 2) C.1 C.2.1 dX11_isImaged_22 (by decide) ?_
  refine lv_iload_n C.1 C.2.1 dX11_isImaged_2 rfl (lv_at hl 0 rfl) ?_
  refine lv_iconst (v := 3) C.1 C.2.1 dX11_isImaged_3 (by decide) ?_
  refine b_icmp_ge_f C (tgt := 25) dX11_isImaged_4 (by decide) (by decide) ?_
  refine lv_aload_n C.1 C.2.1 dX11_isImaged_7 rfl (lv_at hl 1 rfl) ?_
  refine r_get C w 0 rfl rfl 6 (by decide) fl_RX11_30 (v := .ref a5) rfl dX11_isImaged_8 ?_
  refine lv_iload_n C.1 C.2.1 dX11_isImaged_11 rfl (lv_at hl 0 rfl) ?_
  refine r_aald C w 1 4 rfl rfl rfl (v := .null) (vinD (by decide)) rfl dX11_isImaged_12 ?_
  refine lv_aload_n C.1 C.2.1 dX11_isImaged_13 rfl (lv_at hl 2 rfl) ?_
  refine b_acmp_ne_t C (tgt := 19) dX11_isImaged_14 (by decide) (rfl : va_rf none = _) (rfl : va_rf (some a1) = _) (fun q => nomatch q) ?_
  refine lv_iinc (v := 3) (lv' := [(2, .int 3), (0, .ref a0), (1, .ref a1)]) C.1 C.2.1 dX11_isImaged_19 hl (k := 0) rfl (by decide) (by decide) rfl (fun ls hl => ?_)
  refine lv_goto (tgt := 2) C.1 C.2.1 dX11_isImaged_22 (by decide) ?_
  refine lv_iload_n C.1 C.2.1 dX11_isImaged_2 rfl (lv_at hl 0 rfl) ?_
  refine lv_iconst (v := 3) C.1 C.2.1 dX11_isImaged_3 (by decide) ?_
  refine b_icmp_ge_t C (tgt := 25) dX11_isImaged_4 (by decide) (by decide) ?_
  refine lv_iconst (v := 0) C.1 C.2.1 dX11_isImaged_25 (by decide) ?_
  exact r_iret C w hlocks () hr rfl rfl trivial [0, 1] rfl rfl ⟨Nat.le_of_ble_eq_true rfl, Nat.le_of_ble_eq_true rfl⟩ dX11_isImaged_26
theorem fv_RX11_81 : FV RX11 81 yX11_isImaged cX11_isImaged 3 (some .boolean) 1 := ⟨⟨gw_mem (by decide +kernel) (by decide +kernel), gw_mem (by decide +kernel) (by decide +kernel), gw_mem (by decide +kernel) (by decide +kernel), gw_mem (by decide +kernel) (by decide +kernel), gw_mem (by decide +kernel) (by decide +kernel)⟩, ⟨by decide +kernel, by decide +kernel, by decide +kernel⟩⟩
theorem dX11_spareTalk_56 : decode cX11_spareTalk 56 = .ok (.ifCond .ne 10, 3) := by decide +kernel
theorem dX11_spareTalk_59 : decode cX11_spareTalk 59 = .ok (.aload_n 0, 1) := by decide +kernel
theorem dX11_spareTalk_60 : decode cX11_spareTalk 60 = .ok (.getfield 26, 3) := by decide +kernel
theorem dX11_spareTalk_63 : decode cX11_spareTalk 63 = .ok (.iload_n 1, 1) := by decide +kernel
theorem dX11_spareTalk_64 : decode cX11_spareTalk 64 = .ok (.aaload, 1) := by decide +kernel
theorem dX11_spareTalk_65 : decode cX11_spareTalk 65 = .ok (.areturn, 1) := by decide +kernel
set_option maxRecDepth 100000 in
set_option maxHeartbeats 4000000 in
theorem c_X11_spareTalk_0 (l : Launch) (D : va_G) (cy : Nat → ClassId) (a0 a1 a2 a3 a4 a5 a6 a11 a12 a13 a14 a15 a16 a17 : Nat) : Ct l D cy yX11_spareTalk cX11_spareTalk 2 (some (.object "TwoSlips$Talk")) 2 32 8 1263 [(a0, .inr (11, [.ref a1, .int 0, .int 0, .int (-1), .ref a2, .ref a3, .ref a4, .ref a5, .ref a6, .null])), (a3, .inl (cy 4, 5, .inr (.inr (.inr (.inr (va_up (fun _ => none) 0 (some a6))))))), (a4, .inl (cy 4, 3, .inr (.inr (.inr (.inr (fun _ => none)))))), (a6, .inr (9, [.int 0, .int 2, .int 20, .int 120, .int 0, .int 0, .int 0, .int 0, .ref a11, .int 0, .ref a12, .ref a13, .int 0, .ref a14, .ref a15, .ref a16, .ref a17]))] [.ref a0] (fun u : Nat × Nat × Nat × Nat × Nat × Nat × Nat × Nat => some (.ref u.1)) (fun _ => True) (fun u : Nat × Nat × Nat × Nat × Nat × Nat × Nat × Nat => [(a3, .inl (cy 4, 5, .inr (.inr (.inr (.inr (va_up (va_up (fun _ => none) 0 (some a6)) 1 (some u.1))))))), (a6, .inr (9, [.int 0, .int 2, .int 20, .int 120, .int 0, .int 0, .int 0, .int 0, .ref a11, .int 0, .ref a12, .ref a13, .int 0, .ref a14, .ref a15, .ref a16, .ref a17])), (u.1, .inr (9, [.int 0, .int 2, .int 20, .int 120, .int 0, .int 0, .int 0, .int 0, .ref u.2.1, .int 0, .ref u.2.2.1, .ref u.2.2.2.1, .int 0, .ref u.2.2.2.2.1, .ref u.2.2.2.2.2.1, .ref u.2.2.2.2.2.2.1, .ref u.2.2.2.2.2.2.2])), (u.2.1, .inl (cy 1, 6, .inl (fun _ => 0))), (u.2.2.1, .inl (cy 1, 20, .inl (fun _ => 0))), (u.2.2.2.1, .inl (cy 1, 20, .inl (fun _ => 0))), (u.2.2.2.2.1, .inl (cy 1, 300, .inl (fun _ => 0))), (u.2.2.2.2.2.1, .inl (cy 1, 300, .inl (fun _ => 0))), (u.2.2.2.2.2.2.1, .inl (cy 1, 300, .inl (fun _ => 0))), (u.2.2.2.2.2.2.2, .inl (cy 1, 300, .inl (fun _ => 0))), (a0, .inr (11, [.ref a1, .int 0, .int 0, .int (-1), .ref a2, .ref a3, .ref a4, .ref a5, .ref a6, .null])), (a4, .inl (cy 4, 3, .inr (.inr (.inr (.inr (fun _ => none))))))]) := by
  refine Ct.of (by decide +kernel) (Nat.le_of_ble_eq_true rfl) ?_
  intro p e s m args below meth c A ls C hr hlocks hml hnm w hl
  have hl : lv_has ls 2 [(0, .ref a0)] := hl
  refine lv_iconst (v := 0) C.1 C.2.1 dX11_spareTalk_0 (by decide) ?_
  refine lv_istore_n (lv' := [(1, .int 0), (0, .ref a0)]) C.1 C.2.1 dX11_spareTalk_1 rfl hl (by decide) rfl (fun ls hl => ?_)
  refine lv_iload_n C.1 C.2.1 dX11_spareTalk_2 rfl (lv_at hl 0 rfl) ?_
  refine lv_aload_n C.1 C.2.1 dX11_spareTalk_3 rfl (lv_at hl 1 rfl) ?_
  refine r_get C w 0 rfl rfl 5 (by decide) fl_RX11_26 (v := .ref a3) rfl dX11_spareTalk_4 ?_
  refine r_alen C w 1 4 rfl rfl (v := 5) rfl dX11_spareTalk_7 ?_
  refine b_icmp_ge_f C (tgt := 72) dX11_spareTalk_8 (by decide) (by decide) ?_
  refine lv_aload_n C.1 C.2.1 dX11_spareTalk_11 rfl (lv_at hl 1 rfl) ?_
  refine r_get C w 0 rfl rfl 5 (by decide) fl_RX11_26 (v := .ref a3) rfl dX11_spareTalk_12 ?_
  refine lv_iload_n C.1 C.2.1 dX11_spareTalk_15 rfl (lv_at hl 0 rfl) ?_
  refine r_aald C w 1 4 rfl rfl rfl (v := .ref a6) (vinD (by decide)) rfl dX11_spareTalk_16 ?_
  refine lv_ifnonnull (tgt := 33) C.1 C.2.1 dX11_spareTalk_17 (by decide) ?_
  refine lv_aload_n C.1 C.2.1 dX11_spareTalk_33 rfl (lv_at hl 1 rfl) ?_
  refine r_get C w 0 rfl rfl 5 (by decide) fl_RX11_26 (v := .ref a3) rfl dX11_spareTalk_34 ?_
  refine lv_iload_n C.1 C.2.1 dX11_spareTalk_37 rfl (lv_at hl 0 rfl) ?_
  refine r_aald C w 1 4 rfl rfl rfl (v := .ref a6) (vinD (by decide)) rfl dX11_spareTalk_38 ?_
  refine lv_aload_n C.1 C.2.1 dX11_spareTalk_39 rfl (lv_at hl 1 rfl) ?_
  refine r_get C w 0 rfl rfl 8 (by decide) fl_RX11_41 (v := .ref a6) rfl dX11_spareTalk_40 ?_
  refine b_acmp_eq_t C (tgt := 66) dX11_spareTalk_43 (by decide) (rfl : va_rf (some a6) = _) (rfl : va_rf (some a6) = _) rfl ?_
  refine lv_iinc (v := 1) (lv' := [(1, .int 1), (0, .ref a0)]) C.1 C.2.1 dX11_spareTalk_66 hl (k := 0) rfl (by decide) (by decide) rfl (fun ls hl => ?_)
  refine lv_goto (tgt := 2) C.1 C.2.1 dX11_spareTalk_69 (by decide) ?_
  refine lv_iload_n C.1 C.2.1 dX11_spareTalk_2 rfl (lv_at hl 0 rfl) ?_
  refine lv_aload_n C.1 C.2.1 dX11_spareTalk_3 rfl (lv_at hl 1 rfl) ?_
  refine r_get C w 0 rfl rfl 5 (by decide) fl_RX11_26 (v := .ref a3) rfl dX11_spareTalk_4 ?_
  refine r_alen C w 1 4 rfl rfl (v := 5) rfl dX11_spareTalk_7 ?_
  refine b_icmp_ge_f C (tgt := 72) dX11_spareTalk_8 (by decide) (by decide) ?_
  refine lv_aload_n C.1 C.2.1 dX11_spareTalk_11 rfl (lv_at hl 1 rfl) ?_
  refine r_get C w 0 rfl rfl 5 (by decide) fl_RX11_26 (v := .ref a3) rfl dX11_spareTalk_12 ?_
  refine lv_iload_n C.1 C.2.1 dX11_spareTalk_15 rfl (lv_at hl 0 rfl) ?_
  refine r_aald C w 1 4 rfl rfl rfl (v := .null) (vinD (by decide)) rfl dX11_spareTalk_16 ?_
  refine lv_ifnonnullN C.1 C.2.1 dX11_spareTalk_17 ?_
  refine lv_aload_n C.1 C.2.1 dX11_spareTalk_20 rfl (lv_at hl 1 rfl) ?_
  refine r_get C w 0 rfl rfl 5 (by decide) fl_RX11_26 (v := .ref a3) rfl dX11_spareTalk_21 ?_
  refine lv_iload_n C.1 C.2.1 dX11_spareTalk_24 rfl (lv_at hl 0 rfl) ?_
  refine r_new C w (ci := 9) rfl cl_RX11_24 in_9 it_9 tyX9 tyX9_ok [.int 0, .int 0, .int 0, .int 0, .int 0, .int 0, .int 0, .int 0, .null, .int 0, .null, .null, .int 0, .null, .null, .null, .null] (by decide +kernel) 1 17 rfl rfl ⟨Nat.le_of_ble_eq_true rfl, Nat.le_of_ble_eq_true rfl⟩ dX11_spareTalk_25 (fun n1 H w => ?_)
  have w : Wd D A s.heap [(a0, .inr (11, [.ref a1, .int 0, .int 0, .int (-1), .ref a2, .ref a3, .ref a4, .ref a5, .ref a6, .null])), (a3, .inl (cy 4, 5, .inr (.inr (.inr (.inr (va_up (fun _ => none) 0 (some a6))))))), (a4, .inl (cy 4, 3, .inr (.inr (.inr (.inr (fun _ => none)))))), (a6, .inr (9, [.int 0, .int 2, .int 20, .int 120, .int 0, .int 0, .int 0, .int 0, .ref a11, .int 0, .ref a12, .ref a13, .int 0, .ref a14, .ref a15, .ref a16, .ref a17])), (n1, .inr (9, [.int 0, .int 0, .int 0, .int 0, .int 0, .int 0, .int 0, .int 0, .null, .int 0, .null, .null, .int 0, .null, .null, .null, .null]))] _ _ := w
  refine lv_dup C.1 C.2.1 dX11_spareTalk_28 rfl ?_
  refine r_callN C w C.2.2.2.2.1.2.2.1.2.2.1 fn_X9_init (c_X9_init_0 l D cy n1) (hl.1.trans hml.symm) [4] [0, 1, 2, 3] (wr := [(a0, .inr (11, [.ref a1, .int 0, .int 0, .int (-1), .ref a2, .ref a3, .ref a4, .ref a5, .ref a6, .null])), (a3, .inl (cy 4, 5, .inr (.inr (.inr (.inr (va_up (fun _ => none) 0 (some a6))))))), (a4, .inl (cy 4, 3, .inr (.inr (.inr (.inr (fun _ => none)))))), (a6, .inr (9, [.int 0, .int 2, .int 20, .int 120, .int 0, .int 0, .int 0, .int 0, .ref a11, .int 0, .ref a12, .ref a13, .int 0, .ref a14, .ref a15, .ref a16, .ref a17]))]) ⟨rfl, rfl, rfl, rfl, by decide⟩ rfl rfl ⟨Nat.le_of_ble_eq_true rfl, Nat.le_of_ble_eq_true rfl, Nat.le_of_ble_eq_true rfl⟩ 8 1263 ⟨rfl, rfl, Nat.le_of_ble_eq_true rfl, Nat.le_of_ble_eq_true rfl⟩ dX11_spareTalk_29 (fun u H locs hp w => ?_)
  obtain ⟨n2, n3, n4, n5, n6, n7, n8⟩ := u
  have w : Wd D A s.heap [(a0, .inr (11, [.ref a1, .int 0, .int 0, .int (-1), .ref a2, .ref a3, .ref a4, .ref a5, .ref a6, .null])), (a3, .inl (cy 4, 5, .inr (.inr (.inr (.inr (va_up (fun _ => none) 0 (some a6))))))), (a4, .inl (cy 4, 3, .inr (.inr (.inr (.inr (fun _ => none)))))), (a6, .inr (9, [.int 0, .int 2, .int 20, .int 120, .int 0, .int 0, .int 0, .int 0, .ref a11, .int 0, .ref a12, .ref a13, .int 0, .ref a14, .ref a15, .ref a16, .ref a17])), (n1, .inr (9, [.int 0, .int 2, .int 20, .int 120, .int 0, .int 0, .int 0, .int 0, .ref n2, .int 0, .ref n3, .ref n4, .int 0, .ref n5, .ref n6, .ref n7, .ref n8])), (n2, .inl (cy 1, 6, .inl (fun _ => 0))), (n3, .inl (cy 1, 20, .inl (fun _ => 0))), (n4, .inl (cy 1, 20, .inl (fun _ => 0))), (n5, .inl (cy 1, 300, .inl (fun _ => 0))), (n6, .inl (cy 1, 300, .inl (fun _ => 0))), (n7, .inl (cy 1, 300, .inl (fun _ => 0))), (n8, .inl (cy 1, 300, .inl (fun _ => 0)))] _ _ := w
  refine r_top (g2 := F0 m 32 ls [.ref n1, .int 1, .ref a3]) rfl ?_
  refine r_aastT C w 1 4 rfl rfl (vinD (by decide)) (va_up (va_up (fun _ => none) 0 (some a6)) 1 (some n1)) rfl [(a0, .inr (11, [.ref a1, .int 0, .int 0, .int (-1), .ref a2, .ref a3, .ref a4, .ref a5, .ref a6, .null])), (a3, .inl (cy 4, 5, .inr (.inr (.inr (.inr (va_up (va_up (fun _ => none) 0 (some a6)) 1 (some n1))))))), (a4, .inl (cy 4, 3, .inr (.inr (.inr (.inr (fun _ => none)))))), (a6, .inr (9, [.int 0, .int 2, .int 20, .int 120, .int 0, .int 0, .int 0, .int 0, .ref a11, .int 0, .ref a12, .ref a13, .int 0, .ref a14, .ref a15, .ref a16, .ref a17])), (n1, .inr (9, [.int 0, .int 2, .int 20, .int 120, .int 0, .int 0, .int 0, .int 0, .ref n2, .int 0, .ref n3, .ref n4, .int 0, .ref n5, .ref n6, .ref n7, .ref n8])), (n2, .inl (cy 1, 6, .inl (fun _ => 0))), (n3, .inl (cy 1, 20, .inl (fun _ => 0))), (n4, .inl (cy 1, 20, .inl (fun _ => 0))), (n5, .inl (cy 1, 300, .inl (fun _ => 0))), (n6, .inl (cy 1, 300, .inl (fun _ => 0))), (n7, .inl (cy 1, 300, .inl (fun _ => 0))), (n8, .inl (cy 1, 300, .inl (fun _ => 0)))] rfl dX11_spareTalk_32 (fun H locs w => ?_)
  refine lv_aload_n C.1 C.2.1 dX11_spareTalk_33 rfl (lv_at hl 1 rfl) ?_
  refine r_get C w 0 rfl rfl 5 (by decide) fl_RX11_26 (v := .ref a3) rfl dX11_spareTalk_34 ?_
  refine lv_iload_n C.1 C.2.1 dX11_spareTalk_37 rfl (lv_at hl 0 rfl) ?_
  refine r_aald C w 1 4 rfl rfl rfl (v := .ref n1) (vinD (by decide)) rfl dX11_spareTalk_38 ?_
  refine lv_aload_n C.1 C.2.1 dX11_spareTalk_39 rfl (lv_at hl 1 rfl) ?_
  refine r_get C w 0 rfl rfl 8 (by decide) fl_RX11_41 (v := .ref a6) rfl dX11_spareTalk_40 ?_
  refine b_acmp_eq_f C (tgt := 66) dX11_spareTalk_43 (by decide) (rfl : va_rf (some n1) = _) (rfl : va_rf (some a6) = _) (fun q => (w.ne 4 3 rfl rfl (by decide)) (Option.some.inj q)) ?_
  refine lv_aload_n C.1 C.2.1 dX11_spareTalk_46 rfl (lv_at hl 1 rfl) ?_
  refine lv_aload_n C.1 C.2.1 dX11_spareTalk_47 rfl (lv_at hl 1 rfl) ?_
  refine r_get C w 0 rfl rfl 5 (by decide) fl_RX11_26 (v := .ref a3) rfl dX11_spareTalk_48 ?_
  refine lv_iload_n C.1 C.2.1 dX11_spareTalk_51 rfl (lv_at hl 0 rfl) ?_
  refine r_aald C w 1 4 rfl rfl rfl (v := .ref n1) (vinD (by decide)) rfl dX11_spareTalk_52 ?_
  refine r_callV C w fv_RX11_81 (c_X11_isImaged_0 l D cy a0 n1 a1 a2 a3 a4 a5 a6) (hl.1.trans hml.symm) [0, 2] [1, 3, 4, 5, 6, 7, 8, 9, 10, 11] (wr := [(a3, .inl (cy 4, 5, .inr (.inr (.inr (.inr (va_up (va_up (fun _ => none) 0 (some a6)) 1 (some n1))))))), (a6, .inr (9, [.int 0, .int 2, .int 20, .int 120, .int 0, .int 0, .int 0, .int 0, .ref a11, .int 0, .ref a12, .ref a13, .int 0, .ref a14, .ref a15, .ref a16, .ref a17])), (n1, .inr (9, [.int 0, .int 2, .int 20, .int 120, .int 0, .int 0, .int 0, .int 0, .ref n2, .int 0, .ref n3, .ref n4, .int 0, .ref n5, .ref n6, .ref n7, .ref n8])), (n2, .inl (cy 1, 6, .inl (fun _ => 0))), (n3, .inl (cy 1, 20, .inl (fun _ => 0))), (n4, .inl (cy 1, 20, .inl (fun _ => 0))), (n5, .inl (cy 1, 300, .inl (fun _ => 0))), (n6, .inl (cy 1, 300, .inl (fun _ => 0))), (n7, .inl (cy 1, 300, .inl (fun _ => 0))), (n8, .inl (cy 1, 300, .inl (fun _ => 0)))]) ⟨rfl, rfl, rfl, rfl, by decide⟩ 0 rfl rfl rfl rfl rfl ⟨Nat.le_of_ble_eq_true rfl, Nat.le_of_ble_eq_true rfl, Nat.le_of_ble_eq_true rfl⟩ 8 1263 ⟨rfl, rfl, Nat.le_of_ble_eq_true rfl, Nat.le_of_ble_eq_true rfl⟩ dX11_spareTalk_53 (fun u H locs hp w => ?_)
  have w : Wd D A s.heap [(a3, .inl (cy 4, 5, .inr (.inr (.inr (.inr (va_up (va_up (fun _ => none) 0 (some a6)) 1 (some n1))))))), (a6, .inr (9, [.int 0, .int 2, .int 20, .int 120, .int 0, .int 0, .int 0, .int 0, .ref a11, .int 0, .ref a12, .ref a13, .int 0, .ref a14, .ref a15, .ref a16, .ref a17])), (n1, .inr (9, [.int 0, .int 2, .int 20, .int 120, .int 0, .int 0, .int 0, .int 0, .ref n2, .int 0, .ref n3, .ref n4, .int 0, .ref n5, .ref n6, .ref n7, .ref n8])), (n2, .inl (cy 1, 6, .inl (fun _ => 0))), (n3, .inl (cy 1, 20, .inl (fun _ => 0))), (n4, .inl (cy 1, 20, .inl (fun _ => 0))), (n5, .inl (cy 1, 300, .inl (fun _ => 0))), (n6, .inl (cy 1, 300, .inl (fun _ => 0))), (n7, .inl (cy 1, 300, .inl (fun _ => 0))), (n8, .inl (cy 1, 300, .inl (fun _ => 0))), (a0, .inr (11, [.ref a1, .int 0, .int 0, .int (-1), .ref a2, .ref a3, .ref a4, .ref a5, .ref a6, .null])), (a4, .inl (cy 4, 3, .inr (.inr (.inr (.inr (fun _ => none))))))] _ _ := w
  refine r_top (g2 := F0 m 56 ls [.int 0]) rfl ?_
  refine b_if_ne_f C (tgt := 66) dX11_spareTalk_56 (by decide) (by decide) ?_
  refine lv_aload_n C.1 C.2.1 dX11_spareTalk_59 rfl (lv_at hl 1 rfl) ?_
  refine r_get C w 10 rfl rfl 5 (by decide) fl_RX11_26 (v := .ref a3) rfl dX11_spareTalk_60 ?_
  refine lv_iload_n C.1 C.2.1 dX11_spareTalk_63 rfl (lv_at hl 0 rfl) ?_
  refine r_aald C w 0 4 rfl rfl rfl (v := .ref n1) (vinD (by decide)) rfl dX11_spareTalk_64 ?_
  exact r_aret C w hlocks (n1, n2, n3, n4, n5, n6, n7, n8) hr (Or.inl ⟨_, rfl⟩) rfl trivial [0, 1, 2, 3, 4, 5, 6, 7, 8, 9, 10, 11] rfl rfl ⟨Nat.le_of_ble_eq_true rfl, Nat.le_of_ble_eq_true rfl⟩ dX11_spareTalk_65
theorem fv_RX11_59 : FV RX11 59 yX11_spareTalk cX11_spareTalk 2 (some (.object "TwoSlips$Talk")) 0 := ⟨⟨gw_mem (by decide +kernel) (by decide +kernel), gw_mem (by decide +kernel) (by decide +kernel), gw_mem (by decide +kernel) (by decide +kernel), gw_mem (by decide +kernel) (by decide +kernel), gw_mem (by decide +kernel) (by decide +kernel)⟩, ⟨by decide +kernel, by decide +kernel, by decide +kernel⟩⟩
theorem dX11_talk_26 : decode cX11_talk 26 = .ok (.astore_n 2, 1) := by decide +kernel
theorem dX11_talk_27 : decode cX11_talk 27 = .ok (.aload_n 0, 1) := by decide +kernel
theorem dX11_talk_28 : decode cX11_talk 28 = .ok (.aload_n 0, 1) := by decide +kernel
theorem dX11_talk_29 : decode cX11_talk 29 = .ok (.getfield 20, 3) := by decide +kernel
theorem dX11_talk_32 : decode cX11_talk 32 = .ok (.aload_n 0, 1) := by decide +kernel
theorem dX11_talk_33 : decode cX11_talk 33 = .ok (.getfield 9, 3) := by decide +kernel
theorem dX11_talk_36 : decode cX11_talk 36 = .ok (.aload_n 2, 1) := by decide +kernel
theorem dX11_talk_37 : decode cX11_talk 37 = .ok (.iload_n 1, 1) := by decide +kernel
theorem dX11_talk_38 : decode cX11_talk 38 = .ok (.invokevirtual 63, 3) := by decide +kernel
theorem dX5_read_0 : decode cX5_read 0 = .ok (.aload_n 0, 1) := by decide +kernel
theorem dX5_read_1 : decode cX5_read 1 = .ok (.aload_n 1, 1) := by decide +kernel
theorem dX5_read_2 : decode cX5_read 2 = .ok (.putfield 9, 3) := by decide +kernel
theorem dX5_read_5 : decode cX5_read 5 = .ok (.aload_n 0, 1) := by decide +kernel
theorem dX5_read_6 : decode cX5_read 6 = .ok (.aload_n 2, 1) := by decide +kernel
theorem dX5_read_7 : decode cX5_read 7 = .ok (.putfield 15, 3) := by decide +kernel
theorem fl_RX5_15 : Cond.fieldLink RX5 15 "TwoSlips$Reading" "talk" "LTwoSlips$Talk;" ∈ gw := gw_mem (by decide +kernel) (by decide +kernel)
theorem dX5_read_10 : decode cX5_read 10 = .ok (.aload_n 0, 1) := by decide +kernel
theorem dX5_read_11 : decode cX5_read 11 = .ok (.getfield 15, 3) := by decide +kernel
theorem dX5_read_14 : decode cX5_read 14 = .ok (.invokevirtual 19, 3) := by decide +kernel
theorem dX9_clear_0 : decode cX9_clear 0 = .ok (.aload_n 0, 1) := by decide +kernel
theorem dX9_clear_1 : decode cX9_clear 1 = .ok (.iconst 0, 1) := by decide +kernel
theorem dX9_clear_2 : decode cX9_clear 2 = .ok (.putfield 43, 3) := by decide +kernel
theorem fl_RX9_43 : Cond.fieldLink RX9 43 "TwoSlips$Talk" "lines" "I" ∈ gw := gw_mem (by decide +kernel) (by decide +kernel)
theorem dX9_clear_5 : decode cX9_clear 5 = .ok (.aload_n 0, 1) := by decide +kernel
theorem dX9_clear_6 : decode cX9_clear 6 = .ok (.iconst 2, 1) := by decide +kernel
theorem dX9_clear_7 : decode cX9_clear 7 = .ok (.putfield 9, 3) := by decide +kernel
theorem dX9_clear_10 : decode cX9_clear 10 = .ok (.aload_n 0, 1) := by decide +kernel
theorem dX9_clear_11 : decode cX9_clear 11 = .ok (.bipush 20, 2) := by decide +kernel
theorem dX9_clear_13 : decode cX9_clear 13 = .ok (.putfield 15, 3) := by decide +kernel
theorem dX9_clear_16 : decode cX9_clear 16 = .ok (.aload_n 0, 1) := by decide +kernel
theorem dX9_clear_17 : decode cX9_clear 17 = .ok (.bipush 120, 2) := by decide +kernel
theorem dX9_clear_19 : decode cX9_clear 19 = .ok (.putfield 18, 3) := by decide +kernel
theorem dX9_clear_22 : decode cX9_clear 22 = .ok (.aload_n 0, 1) := by decide +kernel
theorem dX9_clear_23 : decode cX9_clear 23 = .ok (.iconst 0, 1) := by decide +kernel
theorem dX9_clear_24 : decode cX9_clear 24 = .ok (.putfield 46, 3) := by decide +kernel
theorem fl_RX9_46 : Cond.fieldLink RX9 46 "TwoSlips$Talk" "unlike" "Z" ∈ gw := gw_mem (by decide +kernel) (by decide +kernel)
theorem dX9_clear_27 : decode cX9_clear 27 = .ok (.aload_n 0, 1) := by decide +kernel
theorem dX9_clear_28 : decode cX9_clear 28 = .ok (.iconst 0, 1) := by decide +kernel
theorem dX9_clear_29 : decode cX9_clear 29 = .ok (.putfield 50, 3) := by decide +kernel
theorem fl_RX9_50 : Cond.fieldLink RX9 50 "TwoSlips$Talk" "speakers" "I" ∈ gw := gw_mem (by decide +kernel) (by decide +kernel)
theorem dX9_clear_32 : decode cX9_clear 32 = .ok (.aload_n 0, 1) := by decide +kernel
theorem dX9_clear_33 : decode cX9_clear 33 = .ok (.iconst 0, 1) := by decide +kernel
theorem dX9_clear_34 : decode cX9_clear 34 = .ok (.putfield 53, 3) := by decide +kernel
theorem fl_RX9_53 : Cond.fieldLink RX9 53 "TwoSlips$Talk" "liars" "I" ∈ gw := gw_mem (by decide +kernel) (by decide +kernel)
theorem dX9_clear_37 : decode cX9_clear 37 = .ok (.aload_n 0, 1) := by decide +kernel
theorem dX9_clear_38 : decode cX9_clear 38 = .ok (.iconst 0, 1) := by decide +kernel
theorem dX9_clear_39 : decode cX9_clear 39 = .ok (.putfield 56, 3) := by decide +kernel
theorem fl_RX9_56 : Cond.fieldLink RX9 56 "TwoSlips$Talk" "deaf" "I" ∈ gw := gw_mem (by decide +kernel) (by decide +kernel)
theorem dX9_clear_42 : decode cX9_clear 42 = .ok (.aload_n 0, 1) := by decide +kernel
theorem dX9_clear_43 : decode cX9_clear 43 = .ok (.iconst 0, 1) := by decide +kernel
theorem dX9_clear_44 : decode cX9_clear 44 = .ok (.putfield 59, 3) := by decide +kernel
theorem fl_RX9_59 : Cond.fieldLink RX9 59 "TwoSlips$Talk" "turns" "I" ∈ gw := gw_mem (by decide +kernel) (by decide +kernel)
theorem dX9_clear_47 : decode cX9_clear 47 = .ok (.aload_n 0, 1) := by decide +kernel
theorem dX9_clear_48 : decode cX9_clear 48 = .ok (.iconst 0, 1) := by decide +kernel
theorem dX9_clear_49 : decode cX9_clear 49 = .ok (.putfield 62, 3) := by decide +kernel
theorem fl_RX9_62 : Cond.fieldLink RX9 62 "TwoSlips$Talk" "facts" "I" ∈ gw := gw_mem (by decide +kernel) (by decide +kernel)
theorem dX9_clear_52 : decode cX9_clear 52 = .ok (.return_, 1) := by decide +kernel
set_option maxRecDepth 100000 in
set_option maxHeartbeats 4000000 in
theorem c_X9_clear_0 (l : Launch) (D : va_G) (cy : Nat → ClassId) (a0 a1 a2 a3 a4 a5 a6 a7 : Nat) : Ct l D cy yX9_clear cX9_clear 1 none 0 0 0 0 [(a0, .inr (9, [.int 0, .int 2, .int 20, .int 120, .int 0, .int 0, .int 0, .int 0, .ref a1, .int 0, .ref a2, .ref a3, .int 0, .ref a4, .ref a5, .ref a6, .ref a7]))] [.ref a0] (fun u : Unit => none) (fun _ => True) (fun u : Unit => [(a0, .inr (9, [.int 0, .int 2, .int 20, .int 120, .int 0, .int 0, .int 0, .int 0, .ref a1, .int 0, .ref a2, .ref a3, .int 0, .ref a4, .ref a5, .ref a6, .ref a7]))]) := by
  refine Ct.of (by decide +kernel) (Nat.le_of_ble_eq_true rfl) ?_
  intro p e s m args below meth c A ls C hr hlocks hml hnm w hl
  have hl : lv_has ls 1 [(0, .ref a0)] := hl
  refine lv_aload_n C.1 C.2.1 dX9_clear_0 rfl (lv_at hl 0 rfl) ?_
  refine lv_iconst (v := 0) C.1 C.2.1 dX9_clear_1 (by decide) ?_
  refine r_put C w 0 rfl rfl 0 (by decide) fl_RX9_43 rfl (ty := .int) (tyX9_ok 0 (by decide)) rfl rfl (Nat.le_of_ble_eq_true rfl) [(a0, .inr (9, [.int 0, .int 2, .int 20, .int 120, .int 0, .int 0, .int 0, .int 0, .ref a1, .int 0, .ref a2, .ref a3, .int 0, .ref a4, .ref a5, .ref a6, .ref a7]))] rfl dX9_clear_2 (fun H locs w => ?_)
  refine lv_aload_n C.1 C.2.1 dX9_clear_5 rfl (lv_at hl 0 rfl) ?_
  refine lv_iconst (v := 2) C.1 C.2.1 dX9_clear_6 (by decide) ?_
  refine r_put C w 0 rfl rfl 1 (by decide) fl_RX9_9 rfl (ty := .int) (tyX9_ok 1 (by decide)) rfl rfl (Nat.le_of_ble_eq_true rfl) [(a0, .inr (9, [.int 0, .int 2, .int 20, .int 120, .int 0, .int 0, .int 0, .int 0, .ref a1, .int 0, .ref a2, .ref a3, .int 0, .ref a4, .ref a5, .ref a6, .ref a7]))] rfl dX9_clear_7 (fun H locs w => ?_)
  refine lv_aload_n C.1 C.2.1 dX9_clear_10 rfl (lv_at hl 0 rfl) ?_
  refine lv_bipush (v := 20) C.1 C.2.1 dX9_clear_11 (by decide) ?_
  refine r_put C w 0 rfl rfl 2 (by decide) fl_RX9_15 rfl (ty := .int) (tyX9_ok 2 (by decide)) rfl rfl (Nat.le_of_ble_eq_true rfl) [(a0, .inr (9, [.int 0, .int 2, .int 20, .int 120, .int 0, .int 0, .int 0, .int 0, .ref a1, .int 0, .ref a2, .ref a3, .int 0, .ref a4, .ref a5, .ref a6, .ref a7]))] rfl dX9_clear_13 (fun H locs w => ?_)
  refine lv_aload_n C.1 C.2.1 dX9_clear_16 rfl (lv_at hl 0 rfl) ?_
  refine lv_bipush (v := 120) C.1 C.2.1 dX9_clear_17 (by decide) ?_
  refine r_put C w 0 rfl rfl 3 (by decide) fl_RX9_18 rfl (ty := .int) (tyX9_ok 3 (by decide)) rfl rfl (Nat.le_of_ble_eq_true rfl) [(a0, .inr (9, [.int 0, .int 2, .int 20, .int 120, .int 0, .int 0, .int 0, .int 0, .ref a1, .int 0, .ref a2, .ref a3, .int 0, .ref a4, .ref a5, .ref a6, .ref a7]))] rfl dX9_clear_19 (fun H locs w => ?_)
  refine lv_aload_n C.1 C.2.1 dX9_clear_22 rfl (lv_at hl 0 rfl) ?_
  refine lv_iconst (v := 0) C.1 C.2.1 dX9_clear_23 (by decide) ?_
  refine r_put C w 0 rfl rfl 4 (by decide) fl_RX9_46 rfl (ty := .boolean) (tyX9_ok 4 (by decide)) rfl rfl (Nat.le_of_ble_eq_true rfl) [(a0, .inr (9, [.int 0, .int 2, .int 20, .int 120, .int 0, .int 0, .int 0, .int 0, .ref a1, .int 0, .ref a2, .ref a3, .int 0, .ref a4, .ref a5, .ref a6, .ref a7]))] rfl dX9_clear_24 (fun H locs w => ?_)
  refine lv_aload_n C.1 C.2.1 dX9_clear_27 rfl (lv_at hl 0 rfl) ?_
  refine lv_iconst (v := 0) C.1 C.2.1 dX9_clear_28 (by decide) ?_
  refine r_put C w 0 rfl rfl 5 (by decide) fl_RX9_50 rfl (ty := .int) (tyX9_ok 5 (by decide)) rfl rfl (Nat.le_of_ble_eq_true rfl) [(a0, .inr (9, [.int 0, .int 2, .int 20, .int 120, .int 0, .int 0, .int 0, .int 0, .ref a1, .int 0, .ref a2, .ref a3, .int 0, .ref a4, .ref a5, .ref a6, .ref a7]))] rfl dX9_clear_29 (fun H locs w => ?_)
  refine lv_aload_n C.1 C.2.1 dX9_clear_32 rfl (lv_at hl 0 rfl) ?_
  refine lv_iconst (v := 0) C.1 C.2.1 dX9_clear_33 (by decide) ?_
  refine r_put C w 0 rfl rfl 6 (by decide) fl_RX9_53 rfl (ty := .int) (tyX9_ok 6 (by decide)) rfl rfl (Nat.le_of_ble_eq_true rfl) [(a0, .inr (9, [.int 0, .int 2, .int 20, .int 120, .int 0, .int 0, .int 0, .int 0, .ref a1, .int 0, .ref a2, .ref a3, .int 0, .ref a4, .ref a5, .ref a6, .ref a7]))] rfl dX9_clear_34 (fun H locs w => ?_)
  refine lv_aload_n C.1 C.2.1 dX9_clear_37 rfl (lv_at hl 0 rfl) ?_
  refine lv_iconst (v := 0) C.1 C.2.1 dX9_clear_38 (by decide) ?_
  refine r_put C w 0 rfl rfl 7 (by decide) fl_RX9_56 rfl (ty := .int) (tyX9_ok 7 (by decide)) rfl rfl (Nat.le_of_ble_eq_true rfl) [(a0, .inr (9, [.int 0, .int 2, .int 20, .int 120, .int 0, .int 0, .int 0, .int 0, .ref a1, .int 0, .ref a2, .ref a3, .int 0, .ref a4, .ref a5, .ref a6, .ref a7]))] rfl dX9_clear_39 (fun H locs w => ?_)
  refine lv_aload_n C.1 C.2.1 dX9_clear_42 rfl (lv_at hl 0 rfl) ?_
  refine lv_iconst (v := 0) C.1 C.2.1 dX9_clear_43 (by decide) ?_
  refine r_put C w 0 rfl rfl 9 (by decide) fl_RX9_59 rfl (ty := .int) (tyX9_ok 9 (by decide)) rfl rfl (Nat.le_of_ble_eq_true rfl) [(a0, .inr (9, [.int 0, .int 2, .int 20, .int 120, .int 0, .int 0, .int 0, .int 0, .ref a1, .int 0, .ref a2, .ref a3, .int 0, .ref a4, .ref a5, .ref a6, .ref a7]))] rfl dX9_clear_44 (fun H locs w => ?_)
  refine lv_aload_n C.1 C.2.1 dX9_clear_47 rfl (lv_at hl 0 rfl) ?_
  refine lv_iconst (v := 0) C.1 C.2.1 dX9_clear_48 (by decide) ?_
  refine r_put C w 0 rfl rfl 12 (by decide) fl_RX9_62 rfl (ty := .int) (tyX9_ok 12 (by decide)) rfl rfl (Nat.le_of_ble_eq_true rfl) [(a0, .inr (9, [.int 0, .int 2, .int 20, .int 120, .int 0, .int 0, .int 0, .int 0, .ref a1, .int 0, .ref a2, .ref a3, .int 0, .ref a4, .ref a5, .ref a6, .ref a7]))] rfl dX9_clear_49 (fun H locs w => ?_)
  exact r_vret C w hlocks () hr rfl trivial [0] rfl rfl ⟨Nat.le_of_ble_eq_true rfl, Nat.le_of_ble_eq_true rfl⟩ dX9_clear_52
theorem fv_RX5_19 : FV RX5 19 yX9_clear cX9_clear 1 none 0 := ⟨⟨gw_mem (by decide +kernel) (by decide +kernel), gw_mem (by decide +kernel) (by decide +kernel), gw_mem (by decide +kernel) (by decide +kernel), gw_mem (by decide +kernel) (by decide +kernel), gw_mem (by decide +kernel) (by decide +kernel)⟩, ⟨by decide +kernel, by decide +kernel, by decide +kernel⟩⟩
theorem dX5_read_17 : decode cX5_read 17 = .ok (.aload_n 0, 1) := by decide +kernel
theorem dX5_read_18 : decode cX5_read 18 = .ok (.iload_n 3, 1) := by decide +kernel
theorem dX5_read_19 : decode cX5_read 19 = .ok (.aload_n 0, 1) := by decide +kernel
theorem dX5_read_20 : decode cX5_read 20 = .ok (.getfield 9, 3) := by decide +kernel
theorem dX5_read_23 : decode cX5_read 23 = .ok (.arraylength, 1) := by decide +kernel
theorem ml_RX5_24 : Cond.methodLink RX5 24 Lib.Math.min.name ∈ gw := gw_mem (by decide +kernel) (by decide +kernel)
theorem st_min : Cond.static Lib.Math.min.name ∈ gw := gw_mem (by decide +kernel) (by decide +kernel)
theorem it_math : Cond.initialized "java/lang/Math" ∈ gw := gw_mem (by decide +kernel) (by decide +kernel)
theorem cd_min : Cond.code Lib.Math.min.name Lib.Math.min.code 2 (some .int) ∈ gw := gw_mem (by decide +kernel) (by decide +kernel)
theorem dX5_read_24 : decode cX5_read 24 = .ok (.invokestatic 24, 3) := by decide +kernel
theorem dX5_read_27 : decode cX5_read 27 = .ok (.putfield 30, 3) := by decide +kernel
theorem fl_RX5_30 : Cond.fieldLink RX5 30 "TwoSlips$Reading" "length" "I" ∈ gw := gw_mem (by decide +kernel) (by decide +kernel)
theorem dX5_read_30 : decode cX5_read 30 = .ok (.aload_n 0, 1) := by decide +kernel
theorem dX5_read_31 : decode cX5_read 31 = .ok (.iconst 0, 1) := by decide +kernel
theorem dX5_read_32 : decode cX5_read 32 = .ok (.putfield 34, 3) := by decide +kernel
theorem fl_RX5_34 : Cond.fieldLink RX5 34 "TwoSlips$Reading" "stop" "I" ∈ gw := gw_mem (by decide +kernel) (by decide +kernel)
theorem dX5_read_35 : decode cX5_read 35 = .ok (.aload_n 0, 1) := by decide +kernel
theorem dX5_read_36 : decode cX5_read 36 = .ok (.iconst 0, 1) := by decide +kernel
theorem dX5_read_37 : decode cX5_read 37 = .ok (.putfield 37, 3) := by decide +kernel
theorem fl_RX5_37 : Cond.fieldLink RX5 37 "TwoSlips$Reading" "fault" "I" ∈ gw := gw_mem (by decide +kernel) (by decide +kernel)
theorem dX5_read_40 : decode cX5_read 40 = .ok (.aload_n 0, 1) := by decide +kernel
theorem dX5_read_41 : decode cX5_read 41 = .ok (.invokevirtual 40, 3) := by decide +kernel
theorem dX5_step_0 : decode cX5_step 0 = .ok (.aload_n 0, 1) := by decide +kernel
theorem dX5_step_1 : decode cX5_step 1 = .ok (.getfield 34, 3) := by decide +kernel
theorem dX5_step_4 : decode cX5_step 4 = .ok (.aload_n 0, 1) := by decide +kernel
theorem dX5_step_5 : decode cX5_step 5 = .ok (.getfield 30, 3) := by decide +kernel
theorem dX5_step_8 : decode cX5_step 8 = .ok (.if_icmp .ge 44, 3) := by decide +kernel
theorem dX5_step_52 : decode cX5_step 52 = .ok (.aload_n 0, 1) := by decide +kernel
theorem dX5_step_53 : decode cX5_step 53 = .ok (.aload_n 0, 1) := by decide +kernel
theorem dX5_step_54 : decode cX5_step 54 = .ok (.getfield 34, 3) := by decide +kernel
theorem dX5_step_57 : decode cX5_step 57 = .ok (.putfield 57, 3) := by decide +kernel
theorem fl_RX5_57 : Cond.fieldLink RX5 57 "TwoSlips$Reading" "start" "I" ∈ gw := gw_mem (by decide +kernel) (by decide +kernel)
theorem dX5_step_60 : decode cX5_step 60 = .ok (.aload_n 0, 1) := by decide +kernel
theorem dX5_step_61 : decode cX5_step 61 = .ok (.getfield 34, 3) := by decide +kernel
theorem dX5_step_64 : decode cX5_step 64 = .ok (.aload_n 0, 1) := by decide +kernel
theorem dX5_step_65 : decode cX5_step 65 = .ok (.getfield 30, 3) := by decide +kernel
theorem dX5_step_68 : decode cX5_step 68 = .ok (.if_icmp .lt 9, 3) := by decide +kernel
theorem dX5_step_71 : decode cX5_step 71 = .ok (.aload_n 0, 1) := by decide +kernel
theorem dX5_step_72 : decode cX5_step 72 = .ok (.iconst 0, 1) := by decide +kernel
theorem dX5_step_73 : decode cX5_step 73 = .ok (.putfield 43, 3) := by decide +kernel
theorem fl_RX5_43 : Cond.fieldLink RX5 43 "TwoSlips$Reading" "kind" "I" ∈ gw := gw_mem (by decide +kernel) (by decide +kernel)
theorem dX5_step_76 : decode cX5_step 76 = .ok (.return_, 1) := by decide +kernel
set_option maxRecDepth 100000 in
set_option maxHeartbeats 4000000 in
theorem c_X5_step_0 (l : Launch) (D : va_G) (cy : Nat → ClassId) (a0 a1 a2 : Nat) : Ct l D cy yX5_step cX5_step 2 none 0 0 0 0 [(a0, .inr (5, [.ref a1, .int 0, .int 0, .int 0, .int 0, .int 0, .int 0, .ref a2]))] [.ref a0] (fun u : Unit => none) (fun _ => True) (fun u : Unit => [(a0, .inr (5, [.ref a1, .int 0, .int 0, .int 0, .int 0, .int 0, .int 0, .ref a2]))]) := by
  refine Ct.of (by decide +kernel) (Nat.le_of_ble_eq_true rfl) ?_
  intro p e s m args below meth c A ls C hr hlocks hml hnm w hl
  have hl : lv_has ls 2 [(0, .ref a0)] := hl
  refine lv_aload_n C.1 C.2.1 dX5_step_0 rfl (lv_at hl 0 rfl) ?_
  refine r_get C w 0 rfl rfl 3 (by decide) fl_RX5_34 (v := .int 0) rfl dX5_step_1 ?_
  refine lv_aload_n C.1 C.2.1 dX5_step_4 rfl (lv_at hl 0 rfl) ?_
  refine r_get C w 0 rfl rfl 1 (by decide) fl_RX5_30 (v := .int 0) rfl dX5_step_5 ?_
  refine b_icmp_ge_t C (tgt := 52) dX5_step_8 (by decide) (by decide) ?_
  refine lv_aload_n C.1 C.2.1 dX5_step_52 rfl (lv_at hl 0 rfl) ?_
  refine lv_aload_n C.1 C.2.1 dX5_step_53 rfl (lv_at hl 0 rfl) ?_
  refine r_get C w 0 rfl rfl 3 (by decide) fl_RX5_34 (v := .int 0) rfl dX5_step_54 ?_
  refine r_put C w 0 rfl rfl 2 (by decide) fl_RX5_57 rfl (ty := .int) (tyX5_ok 2 (by decide)) rfl rfl (Nat.le_of_ble_eq_true rfl) [(a0, .inr (5, [.ref a1, .int 0, .int 0, .int 0, .int 0, .int 0, .int 0, .ref a2]))] rfl dX5_step_57 (fun H locs w => ?_)
  refine lv_aload_n C.1 C.2.1 dX5_step_60 rfl (lv_at hl 0 rfl) ?_
  refine r_get C w 0 rfl rfl 3 (by decide) fl_RX5_34 (v := .int 0) rfl dX5_step_61 ?_
  refine lv_aload_n C.1 C.2.1 dX5_step_64 rfl (lv_at hl 0 rfl) ?_
  refine r_get C w 0 rfl rfl 1 (by decide) fl_RX5_30 (v := .int 0) rfl dX5_step_65 ?_
  refine b_icmp_lt_f C (tgt := 77) dX5_step_68 (by decide) (by decide) ?_
  refine lv_aload_n C.1 C.2.1 dX5_step_71 rfl (lv_at hl 0 rfl) ?_
  refine lv_iconst (v := 0) C.1 C.2.1 dX5_step_72 (by decide) ?_
  refine r_put C w 0 rfl rfl 4 (by decide) fl_RX5_43 rfl (ty := .int) (tyX5_ok 4 (by decide)) rfl rfl (Nat.le_of_ble_eq_true rfl) [(a0, .inr (5, [.ref a1, .int 0, .int 0, .int 0, .int 0, .int 0, .int 0, .ref a2]))] rfl dX5_step_73 (fun H locs w => ?_)
  exact r_vret C w hlocks () hr rfl trivial [0] rfl rfl ⟨Nat.le_of_ble_eq_true rfl, Nat.le_of_ble_eq_true rfl⟩ dX5_step_76
theorem fv_RX5_40 : FV RX5 40 yX5_step cX5_step 2 none 0 := ⟨⟨gw_mem (by decide +kernel) (by decide +kernel), gw_mem (by decide +kernel) (by decide +kernel), gw_mem (by decide +kernel) (by decide +kernel), gw_mem (by decide +kernel) (by decide +kernel), gw_mem (by decide +kernel) (by decide +kernel)⟩, ⟨by decide +kernel, by decide +kernel, by decide +kernel⟩⟩
theorem dX5_read_44 : decode cX5_read 44 = .ok (.iconst 0, 1) := by decide +kernel
theorem dX5_read_45 : decode cX5_read 45 = .ok (.istore 4, 2) := by decide +kernel
theorem dX5_read_47 : decode cX5_read 47 = .ok (.iload 4, 2) := by decide +kernel
theorem dX5_read_49 : decode cX5_read 49 = .ok (.sipush 900, 3) := by decide +kernel
theorem dX5_read_52 : decode cX5_read 52 = .ok (.if_icmp .gt 50, 3) := by decide +kernel
theorem dX5_read_55 : decode cX5_read 55 = .ok (.aload_n 0, 1) := by decide +kernel
theorem dX5_read_56 : decode cX5_read 56 = .ok (.getfield 43, 3) := by decide +kernel
theorem dX5_read_59 : decode cX5_read 59 = .ok (.ifCond .eq 43, 3) := by decide +kernel
theorem dX5_read_102 : decode cX5_read 102 = .ok (.aload_n 0, 1) := by decide +kernel
theorem dX5_read_103 : decode cX5_read 103 = .ok (.getfield 37, 3) := by decide +kernel
theorem dX5_read_106 : decode cX5_read 106 = .ok (.ireturn, 1) := by decide +kernel
set_option maxRecDepth 100000 in
set_option maxHeartbeats 4000000 in
theorem c_X5_read_0 (l : Launch) (D : va_G) (cy : Nat → ClassId) (a0 a1 a2 a3 a4 a5 a6 a7 a8 a9 a10 : Nat) : Ct l D cy yX5_read cX5_read 5 (some .int) 1 21 0 0 [(a0, .inr (5, [.ref a3, .int 0, .int 0, .int 0, .int 0, .int 0, .int 0, .null])), (a1, .inl (cy 0, 900, .inl (fun _ => 0))), (a2, .inr (9, [.int 0, .int 2, .int 20, .int 120, .int 0, .int 0, .int 0, .int 0, .ref a4, .int 0, .ref a5, .ref a6, .int 0, .ref a7, .ref a8, .ref a9, .ref a10]))] [.ref a0, .ref a1, .ref a2, .int 0] (fun u : Unit => some (.int 0)) (fun _ => True) (fun u : Unit => [(a1, .inl (cy 0, 900, .inl (fun _ => 0))), (a2, .inr (9, [.int 0, .int 2, .int 20, .int 120, .int 0, .int 0, .int 0, .int 0, .ref a4, .int 0, .ref a5, .ref a6, .int 0, .ref a7, .ref a8, .ref a9, .ref a10])), (a0, .inr (5, [.ref a1, .int 0, .int 0, .int 0, .int 0, .int 0, .int 0, .ref a2]))]) := by
  refine Ct.of (by decide +kernel) (Nat.le_of_ble_eq_true rfl) ?_
  intro p e s m args below meth c A ls C hr hlocks hml hnm w hl
  have hl : lv_has ls 5 [(0, .ref a0), (1, .ref a1), (2, .ref a2), (3, .int 0)] := hl
  refine lv_aload_n C.1 C.2.1 dX5_read_0 rfl (lv_at hl 0 rfl) ?_
  refine lv_aload_n C.1 C.2.1 dX5_read_1 rfl (lv_at hl 1 rfl) ?_
  refine r_put C w 0 rfl rfl 0 (by decide) fl_RX5_9 rfl (ty := (.array .byte)) (tyX5_ok 0 (by decide)) rfl rfl (Nat.le_of_ble_eq_true rfl) [(a0, .inr (5, [.ref a1, .int 0, .int 0, .int 0, .int 0, .int 0, .int 0, .null])), (a1, .inl (cy 0, 900, .inl (fun _ => 0))), (a2, .inr (9, [.int 0, .int 2, .int 20, .int 120, .int 0, .int 0, .int 0, .int 0, .ref a4, .int 0, .ref a5, .ref a6, .int 0, .ref a7, .ref a8, .ref a9, .ref a10]))] rfl dX5_read_2 (fun H locs w => ?_)
  refine lv_aload_n C.1 C.2.1 dX5_read_5 rfl (lv_at hl 0 rfl) ?_
  refine lv_aload_n C.1 C.2.1 dX5_read_6 rfl (lv_at hl 2 rfl) ?_
  refine r_put C w 0 rfl rfl 7 (by decide) fl_RX5_15 rfl (ty := (.object "TwoSlips$Talk")) (tyX5_ok 7 (by decide)) rfl rfl (Nat.le_of_ble_eq_true rfl) [(a0, .inr (5, [.ref a1, .int 0, .int 0, .int 0, .int 0, .int 0, .int 0, .ref a2])), (a1, .inl (cy 0, 900, .inl (fun _ => 0))), (a2, .inr (9, [.int 0, .int 2, .int 20, .int 120, .int 0, .int 0, .int 0, .int 0, .ref a4, .int 0, .ref a5, .ref a6, .int 0, .ref a7, .ref a8, .ref a9, .ref a10]))] rfl dX5_read_7 (fun H locs w => ?_)
  refine lv_aload_n C.1 C.2.1 dX5_read_10 rfl (lv_at hl 0 rfl) ?_
  refine r_get C w 0 rfl rfl 7 (by decide) fl_RX5_15 (v := .ref a2) rfl dX5_read_11 ?_
  refine r_callV C w fv_RX5_19 (c_X9_clear_0 l D cy a2 a4 a5 a6 a7 a8 a9 a10) (hl.1.trans hml.symm) [2] [0, 1] (wr := [(a0, .inr (5, [.ref a1, .int 0, .int 0, .int 0, .int 0, .int 0, .int 0, .ref a2])), (a1, .inl (cy 0, 900, .inl (fun _ => 0)))]) ⟨rfl, rfl, rfl, rfl, by decide⟩ 0 rfl rfl rfl rfl rfl ⟨Nat.le_of_ble_eq_true rfl, Nat.le_of_ble_eq_true rfl, Nat.le_of_ble_eq_true rfl⟩ 0 0 ⟨rfl, rfl, Nat.le_of_ble_eq_true rfl, Nat.le_of_ble_eq_true rfl⟩ dX5_read_14 (fun u H locs hp w => ?_)
  have w : Wd D A s.heap [(a0, .inr (5, [.ref a1, .int 0, .int 0, .int 0, .int 0, .int 0, .int 0, .ref a2])), (a1, .inl (cy 0, 900, .inl (fun _ => 0))), (a2, .inr (9, [.int 0, .int 2, .int 20, .int 120, .int 0, .int 0, .int 0, .int 0, .ref a4, .int 0, .ref a5, .ref a6, .int 0, .ref a7, .ref a8, .ref a9, .ref a10]))] _ _ := w
  refine r_top (g2 := F0 m 17 ls []) rfl ?_
  refine lv_aload_n C.1 C.2.1 dX5_read_17 rfl (lv_at hl 0 rfl) ?_
  refine lv_iload_n C.1 C.2.1 dX5_read_18 rfl (lv_at hl 3 rfl) ?_
  refine lv_aload_n C.1 C.2.1 dX5_read_19 rfl (lv_at hl 0 rfl) ?_
  refine r_get C w 0 rfl rfl 0 (by decide) fl_RX5_9 (v := .ref a1) rfl dX5_read_20 ?_
  refine r_alen C w 1 0 rfl rfl (v := 900) rfl dX5_read_23 ?_
  refine r_mmin C (hl.1.trans hml.symm) ml_RX5_24 st_min it_math cd_min (v := 0) (by decide) ⟨Nat.le_of_ble_eq_true rfl, Nat.le_of_ble_eq_true rfl, Nat.le_of_ble_eq_true rfl, Nat.le_of_ble_eq_true rfl⟩ dX5_read_24 ?_
  refine r_put C w 0 rfl rfl 1 (by decide) fl_RX5_30 rfl (ty := .int) (tyX5_ok 1 (by decide)) rfl rfl (Nat.le_of_ble_eq_true rfl) [(a0, .inr (5, [.ref a1, .int 0, .int 0, .int 0, .int 0, .int 0, .int 0, .ref a2])), (a1, .inl (cy 0, 900, .inl (fun _ => 0))), (a2, .inr (9, [.int 0, .int 2, .int 20, .int 120, .int 0, .int 0, .int 0, .int 0, .ref a4, .int 0, .ref a5, .ref a6, .int 0, .ref a7, .ref a8, .ref a9, .ref a10]))] rfl dX5_read_27 (fun H locs w => ?_)
  refine lv_aload_n C.1 C.2.1 dX5_read_30 rfl (lv_at hl 0 rfl) ?_
  refine lv_iconst (v := 0) C.1 C.2.1 dX5_read_31 (by decide) ?_
  refine r_put C w 0 rfl rfl 3 (by decide) fl_RX5_34 rfl (ty := .int) (tyX5_ok 3 (by decide)) rfl rfl (Nat.le_of_ble_eq_true rfl) [(a0, .inr (5, [.ref a1, .int 0, .int 0, .int 0, .int 0, .int 0, .int 0, .ref a2])), (a1, .inl (cy 0, 900, .inl (fun _ => 0))), (a2, .inr (9, [.int 0, .int 2, .int 20, .int 120, .int 0, .int 0, .int 0, .int 0, .ref a4, .int 0, .ref a5, .ref a6, .int 0, .ref a7, .ref a8, .ref a9, .ref a10]))] rfl dX5_read_32 (fun H locs w => ?_)
  refine lv_aload_n C.1 C.2.1 dX5_read_35 rfl (lv_at hl 0 rfl) ?_
  refine lv_iconst (v := 0) C.1 C.2.1 dX5_read_36 (by decide) ?_
  refine r_put C w 0 rfl rfl 6 (by decide) fl_RX5_37 rfl (ty := .int) (tyX5_ok 6 (by decide)) rfl rfl (Nat.le_of_ble_eq_true rfl) [(a0, .inr (5, [.ref a1, .int 0, .int 0, .int 0, .int 0, .int 0, .int 0, .ref a2])), (a1, .inl (cy 0, 900, .inl (fun _ => 0))), (a2, .inr (9, [.int 0, .int 2, .int 20, .int 120, .int 0, .int 0, .int 0, .int 0, .ref a4, .int 0, .ref a5, .ref a6, .int 0, .ref a7, .ref a8, .ref a9, .ref a10]))] rfl dX5_read_37 (fun H locs w => ?_)
  refine lv_aload_n C.1 C.2.1 dX5_read_40 rfl (lv_at hl 0 rfl) ?_
  refine r_callV C w fv_RX5_40 (c_X5_step_0 l D cy a0 a1 a2) (hl.1.trans hml.symm) [0] [1, 2] (wr := [(a1, .inl (cy 0, 900, .inl (fun _ => 0))), (a2, .inr (9, [.int 0, .int 2, .int 20, .int 120, .int 0, .int 0, .int 0, .int 0, .ref a4, .int 0, .ref a5, .ref a6, .int 0, .ref a7, .ref a8, .ref a9, .ref a10]))]) ⟨rfl, rfl, rfl, rfl, by decide⟩ 0 rfl rfl rfl rfl rfl ⟨Nat.le_of_ble_eq_true rfl, Nat.le_of_ble_eq_true rfl, Nat.le_of_ble_eq_true rfl⟩ 0 0 ⟨rfl, rfl, Nat.le_of_ble_eq_true rfl, Nat.le_of_ble_eq_true rfl⟩ dX5_read_41 (fun u H locs hp w => ?_)
  have w : Wd D A s.heap [(a1, .inl (cy 0, 900, .inl (fun _ => 0))), (a2, .inr (9, [.int 0, .int 2, .int 20, .int 120, .int 0, .int 0, .int 0, .int 0, .ref a4, .int 0, .ref a5, .ref a6, .int 0, .ref a7, .ref a8, .ref a9, .ref a10])), (a0, .inr (5, [.ref a1, .int 0, .int 0, .int 0, .int 0, .int 0, .int 0, .ref a2]))] _ _ := w
  refine r_top (g2 := F0 m 44 ls []) rfl ?_
  refine lv_iconst (v := 0) C.1 C.2.1 dX5_read_44 (by decide) ?_
  refine lv_istore (lv' := [(4, .int 0), (0, .ref a0), (1, .ref a1), (2, .ref a2), (3, .int 0)]) C.1 C.2.1 dX5_read_45 hl (by decide) rfl (fun ls hl => ?_)
  refine lv_iload C.1 C.2.1 dX5_read_47 (lv_at hl 0 rfl) ?_
  refine lv_sipush (v := 900) C.1 C.2.1 dX5_read_49 (by decide) ?_
  refine b_icmp_gt_f C (tgt := 102) dX5_read_52 (by decide) (by decide) ?_
  refine lv_aload_n C.1 C.2.1 dX5_read_55 rfl (lv_at hl 1 rfl) ?_
  refine r_get C w 2 rfl rfl 4 (by decide) fl_RX5_43 (v := .int 0) rfl dX5_read_56 ?_
  refine b_if_eq_t C (tgt := 102) dX5_read_59 (by decide) (by decide) ?_
  refine lv_aload_n C.1 C.2.1 dX5_read_102 rfl (lv_at hl 1 rfl) ?_
  refine r_get C w 2 rfl rfl 6 (by decide) fl_RX5_37 (v := .int 0) rfl dX5_read_103 ?_
  exact r_iret C w hlocks () hr rfl rfl trivial [0, 1, 2] rfl rfl ⟨Nat.le_of_ble_eq_true rfl, Nat.le_of_ble_eq_true rfl⟩ dX5_read_106
theorem fv_RX11_63 : FV RX11 63 yX5_read cX5_read 5 (some .int) 3 := ⟨⟨gw_mem (by decide +kernel) (by decide +kernel), gw_mem (by decide +kernel) (by decide +kernel), gw_mem (by decide +kernel) (by decide +kernel), gw_mem (by decide +kernel) (by decide +kernel), gw_mem (by decide +kernel) (by decide +kernel)⟩, ⟨by decide +kernel, by decide +kernel, by decide +kernel⟩⟩
theorem dX11_talk_41 : decode cX11_talk 41 = .ok (.putfield 67, 3) := by decide +kernel
theorem fl_RX11_67 : Cond.fieldLink RX11 67 "TwoSlips" "faultKind" "I" ∈ gw := gw_mem (by decide +kernel) (by decide +kernel)
theorem dX11_talk_44 : decode cX11_talk 44 = .ok (.aload_n 0, 1) := by decide +kernel
theorem dX11_talk_45 : decode cX11_talk 45 = .ok (.aload_n 0, 1) := by decide +kernel
theorem dX11_talk_46 : decode cX11_talk 46 = .ok (.getfield 67, 3) := by decide +kernel
theorem dX11_talk_49 : decode cX11_talk 49 = .ok (.ifCond .ne 7, 3) := by decide +kernel
theorem dX11_talk_52 : decode cX11_talk 52 = .ok (.iconst (-1), 1) := by decide +kernel
theorem dX11_talk_53 : decode cX11_talk 53 = .ok (.goto 10, 3) := by decide +kernel
theorem dX11_talk_63 : decode cX11_talk 63 = .ok (.putfield 13, 3) := by decide +kernel
theorem dX11_talk_66 : decode cX11_talk 66 = .ok (.aload_n 0, 1) := by decide +kernel
theorem dX11_talk_67 : decode cX11_talk 67 = .ok (.iconst 0, 1) := by decide +kernel
theorem dX11_talk_68 : decode cX11_talk 68 = .ok (.putfield 45, 3) := by decide +kernel
theorem dX11_talk_71 : decode cX11_talk 71 = .ok (.aload_n 0, 1) := by decide +kernel
theorem dX11_talk_72 : decode cX11_talk 72 = .ok (.getfield 67, 3) := by decide +kernel
theorem dX11_talk_75 : decode cX11_talk 75 = .ok (.ifCond .eq 11, 3) := by decide +kernel
theorem dX11_talk_86 : decode cX11_talk 86 = .ok (.aload_n 0, 1) := by decide +kernel
theorem dX11_talk_87 : decode cX11_talk 87 = .ok (.aload_n 2, 1) := by decide +kernel
theorem dX11_talk_88 : decode cX11_talk 88 = .ok (.invokevirtual 74, 3) := by decide +kernel
theorem dX11_become_0 : decode cX11_become 0 = .ok (.aload_n 0, 1) := by decide +kernel
theorem dX11_become_1 : decode cX11_become 1 = .ok (.aload_n 1, 1) := by decide +kernel
theorem dX11_become_2 : decode cX11_become 2 = .ok (.putfield 41, 3) := by decide +kernel
theorem dX11_become_5 : decode cX11_become 5 = .ok (.aload_n 0, 1) := by decide +kernel
theorem fl_RX11_85 : Cond.fieldLink RX11 85 "TwoSlips" "scene" "LTwoSlips$Scene;" ∈ gw := gw_mem (by decide +kernel) (by decide +kernel)
theorem dX11_become_6 : decode cX11_become 6 = .ok (.getfield 85, 3) := by decide +kernel
theorem dX11_become_9 : decode cX11_become 9 = .ok (.ifnull 10, 3) := by decide +kernel
theorem dX11_become_19 : decode cX11_become 19 = .ok (.return_, 1) := by decide +kernel
set_option maxRecDepth 100000 in
set_option maxHeartbeats 4000000 in
theorem c_X11_become_0 (l : Launch) (D : va_G) (cy : Nat → ClassId) (a0 a1 a2 a3 a4 a5 a6 a7 : Nat) : Ct l D cy yX11_become cX11_become 2 none 0 0 0 0 [(a0, .inr (11, [.ref a2, .int 0, .int 0, .int (-1), .ref a3, .ref a4, .ref a5, .ref a6, .ref a7, .null]))] [.ref a0, .ref a1] (fun u : Unit => none) (fun _ => True) (fun u : Unit => [(a0, .inr (11, [.ref a2, .int 0, .int 0, .int (-1), .ref a3, .ref a4, .ref a5, .ref a6, .ref a1, .null]))]) := by
  refine Ct.of (by decide +kernel) (Nat.le_of_ble_eq_true rfl) ?_
  intro p e s m args below meth c A ls C hr hlocks hml hnm w hl
  have hl : lv_has ls 2 [(0, .ref a0), (1, .ref a1)] := hl
  refine lv_aload_n C.1 C.2.1 dX11_become_0 rfl (lv_at hl 0 rfl) ?_
  refine lv_aload_n C.1 C.2.1 dX11_become_1 rfl (lv_at hl 1 rfl) ?_
  refine r_put C w 0 rfl rfl 8 (by decide) fl_RX11_41 rfl (ty := (.object "TwoSlips$Talk")) (tyX11_ok 8 (by decide)) rfl rfl (Nat.le_of_ble_eq_true rfl) [(a0, .inr (11, [.ref a2, .int 0, .int 0, .int (-1), .ref a3, .ref a4, .ref a5, .ref a6, .ref a1, .null]))] rfl dX11_become_2 (fun H locs w => ?_)
  refine lv_aload_n C.1 C.2.1 dX11_become_5 rfl (lv_at hl 0 rfl) ?_
  refine r_get C w 0 rfl rfl 9 (by decide) fl_RX11_85 (v := .null) rfl dX11_become_6 ?_
  refine lv_ifnullN (tgt := 19) C.1 C.2.1 dX11_become_9 (by decide) ?_
  exact r_vret C w hlocks () hr rfl trivial [0] rfl rfl ⟨Nat.le_of_ble_eq_true rfl, Nat.le_of_ble_eq_true rfl⟩ dX11_become_19
theorem fv_RX11_74 : FV RX11 74 yX11_become cX11_become 2 none 1 := ⟨⟨gw_mem (by decide +kernel) (by decide +kernel), gw_mem (by decide +kernel) (by decide +kernel), gw_mem (by decide +kernel) (by decide +kernel), gw_mem (by decide +kernel) (by decide +kernel), gw_mem (by decide +kernel) (by decide +kernel)⟩, ⟨by decide +kernel, by decide +kernel, by decide +kernel⟩⟩
theorem dX11_talk_91 : decode cX11_talk 91 = .ok (.aload_n 2, 1) := by decide +kernel
theorem fl_RX11_78 : Cond.fieldLink RX11 78 "TwoSlips$Talk" "lines" "I" ∈ gw := gw_mem (by decide +kernel) (by decide +kernel)
theorem dX11_talk_92 : decode cX11_talk 92 = .ok (.getfield 78, 3) := by decide +kernel
theorem dX11_talk_95 : decode cX11_talk 95 = .ok (.ireturn, 1) := by decide +kernel
set_option maxRecDepth 100000 in
set_option maxHeartbeats 4000000 in
theorem c_X11_talk_1 (l : Launch) (D : va_G) (cy : Nat → ClassId) (a0 a1 a2 a3 a4 a5 a6 a7 a11 a12 a13 a14 a15 a16 a17 : Nat) : Ct l D cy yX11_talk cX11_talk 3 (some .int) 3 53 8 1263 [(a0, .inr (11, [.ref a1, .int 0, .int 0, .int (-1), .ref a2, .ref a3, .ref a4, .ref a5, .ref a6, .null])), (a1, .inl (cy 0, 900, .inl (fun _ => 0))), (a2, .inr (5, [.ref a7, .int 0, .int 0, .int 0, .int 0, .int 0, .int 0, .null])), (a3, .inl (cy 4, 5, .inr (.inr (.inr (.inr (va_up (fun _ => none) 0 (some a6))))))), (a4, .inl (cy 4, 3, .inr (.inr (.inr (.inr (fun _ => none)))))), (a6, .inr (9, [.int 0, .int 2, .int 20, .int 120, .int 0, .int 0, .int 0, .int 0, .ref a11, .int 0, .ref a12, .ref a13, .int 0, .ref a14, .ref a15, .ref a16, .ref a17]))] [.ref a0, .int 0] (fun u : Nat × Nat × Nat × Nat × Nat × Nat × Nat × Nat => some (.int 0)) (fun _ => True) (fun u : Nat × Nat × Nat × Nat × Nat × Nat × Nat × Nat => [(a3, .inl (cy 4, 5, .inr (.inr (.inr (.inr (va_up (va_up (fun _ => none) 0 (some a6)) 1 (some u.1))))))), (a6, .inr (9, [.int 0, .int 2, .int 20, .int 120, .int 0, .int 0, .int 0, .int 0, .ref a11, .int 0, .ref a12, .ref a13, .int 0, .ref a14, .ref a15, .ref a16, .ref a17])), (u.2.1, .inl (cy 1, 6, .inl (fun _ => 0))), (u.2.2.1, .inl (cy 1, 20, .inl (fun _ => 0))), (u.2.2.2.1, .inl (cy 1, 20, .inl (fun _ => 0))), (u.2.2.2.2.1, .inl (cy 1, 300, .inl (fun _ => 0))), (u.2.2.2.2.2.1, .inl (cy 1, 300, .inl (fun _ => 0))), (u.2.2.2.2.2.2.1, .inl (cy 1, 300, .inl (fun _ => 0))), (u.2.2.2.2.2.2.2, .inl (cy 1, 300, .inl (fun _ => 0))), (a4, .inl (cy 4, 3, .inr (.inr (.inr (.inr (fun _ => none)))))), (a1, .inl (cy 0, 900, .inl (fun _ => 0))), (u.1, .inr (9, [.int 0, .int 2, .int 20, .int 120, .int 0, .int 0, .int 0, .int 0, .ref u.2.1, .int 0, .ref u.2.2.1, .ref u.2.2.2.1, .int 0, .ref u.2.2.2.2.1, .ref u.2.2.2.2.2.1, .ref u.2.2.2.2.2.2.1, .ref u.2.2.2.2.2.2.2])), (a2, .inr (5, [.ref a1, .int 0, .int 0, .int 0, .int 0, .int 0, .int 0, .ref u.1])), (a0, .inr (11, [.ref a1, .int 0, .int 0, .int (-1), .ref a2, .ref a3, .ref a4, .ref a5, .ref u.1, .null]))]) := by
  refine Ct.of (by decide +kernel) (Nat.le_of_ble_eq_true rfl) ?_
  intro p e s m args below meth c A ls C hr hlocks hml hnm w hl
  have hl : lv_has ls 3 [(0, .ref a0), (1, .int 0)] := hl
  refine lv_iload_n C.1 C.2.1 dX11_talk_0 rfl (lv_at hl 1 rfl) ?_
  refine b_if_lt_f C (tgt := 12) dX11_talk_1 (by decide) (by decide) ?_
  refine lv_iload_n C.1 C.2.1 dX11_talk_4 rfl (lv_at hl 1 rfl) ?_
  refine lv_aload_n C.1 C.2.1 dX11_talk_5 rfl (lv_at hl 0 rfl) ?_
  refine r_get C w 0 rfl rfl 1 (by decide) fl_RX11_45 (v := .int 0) rfl dX11_talk_6 ?_
  refine b_icmp_le_t C (tgt := 22) dX11_talk_9 (by decide) (by decide) ?_
  refine lv_aload_n C.1 C.2.1 dX11_talk_22 rfl (lv_at hl 0 rfl) ?_
  refine r_callV C w fv_RX11_59 (c_X11_spareTalk_0 l D cy a0 a1 a2 a3 a4 a5 a6 a11 a12 a13 a14 a15 a16 a17) (hl.1.trans hml.symm) [0, 3, 4, 5] [1, 2] (wr := [(a1, .inl (cy 0, 900, .inl (fun _ => 0))), (a2, .inr (5, [.ref a7, .int 0, .int 0, .int 0, .int 0, .int 0, .int 0, .null]))]) ⟨rfl, rfl, rfl, rfl, by decide⟩ 0 rfl rfl rfl rfl rfl ⟨Nat.le_of_ble_eq_true rfl, Nat.le_of_ble_eq_true rfl, Nat.le_of_ble_eq_true rfl⟩ 8 1263 ⟨rfl, rfl, Nat.le_of_ble_eq_true rfl, Nat.le_of_ble_eq_true rfl⟩ dX11_talk_23 (fun u H locs hp w => ?_)
  obtain ⟨n1, n2, n3, n4, n5, n6, n7, n8⟩ := u
  have w : Wd D A s.heap [(a1, .inl (cy 0, 900, .inl (fun _ => 0))), (a2, .inr (5, [.ref a7, .int 0, .int 0, .int 0, .int 0, .int 0, .int 0, .null])), (a3, .inl (cy 4, 5, .inr (.inr (.inr (.inr (va_up (va_up (fun _ => none) 0 (some a6)) 1 (some n1))))))), (a6, .inr (9, [.int 0, .int 2, .int 20, .int 120, .int 0, .int 0, .int 0, .int 0, .ref a11, .int 0, .ref a12, .ref a13, .int 0, .ref a14, .ref a15, .ref a16, .ref a17])), (n1, .inr (9, [.int 0, .int 2, .int 20, .int 120, .int 0, .int 0, .int 0, .int 0, .ref n2, .int 0, .ref n3, .ref n4, .int 0, .ref n5, .ref n6, .ref n7, .ref n8])), (n2, .inl (cy 1, 6, .inl (fun _ => 0))), (n3, .inl (cy 1, 20, .inl (fun _ => 0))), (n4, .inl (cy 1, 20, .inl (fun _ => 0))), (n5, .inl (cy 1, 300, .inl (fun _ => 0))), (n6, .inl (cy 1, 300, .inl (fun _ => 0))), (n7, .inl (cy 1, 300, .inl (fun _ => 0))), (n8, .inl (cy 1, 300, .inl (fun _ => 0))), (a0, .inr (11, [.ref a1, .int 0, .int 0, .int (-1), .ref a2, .ref a3, .ref a4, .ref a5, .ref a6, .null])), (a4, .inl (cy 4, 3, .inr (.inr (.inr (.inr (fun _ => none))))))] _ _ := w
  refine r_top (g2 := F0 m 26 ls [.ref n1]) rfl ?_
  refine lv_astore_n (lv' := [(2, .ref n1), (0, .ref a0), (1, .int 0)]) C.1 C.2.1 dX11_talk_26 rfl hl (by decide) rfl (fun ls hl => ?_)
  refine lv_aload_n C.1 C.2.1 dX11_talk_27 rfl (lv_at hl 1 rfl) ?_
  refine lv_aload_n C.1 C.2.1 dX11_talk_28 rfl (lv_at hl 1 rfl) ?_
  refine r_get C w 12 rfl rfl 4 (by decide) fl_RX11_20 (v := .ref a2) rfl dX11_talk_29 ?_
  refine lv_aload_n C.1 C.2.1 dX11_talk_32 rfl (lv_at hl 1 rfl) ?_
  refine r_get C w 12 rfl rfl 0 (by decide) fl_RX11_9 (v := .ref a1) rfl dX11_talk_33 ?_
  refine lv_aload_n C.1 C.2.1 dX11_talk_36 rfl (lv_at hl 0 rfl) ?_
  refine lv_iload_n C.1 C.2.1 dX11_talk_37 rfl (lv_at hl 2 rfl) ?_
  refine r_callV C w fv_RX11_63 (c_X5_read_0 l D cy a2 a1 n1 a7 n2 n3 n4 n5 n6 n7 n8) (hl.1.trans hml.symm) [1, 0, 4] [2, 3, 5, 6, 7, 8, 9, 10, 11, 12, 13] (wr := [(a3, .inl (cy 4, 5, .inr (.inr (.inr (.inr (va_up (va_up (fun _ => none) 0 (some a6)) 1 (some n1))))))), (a6, .inr (9, [.int 0, .int 2, .int 20, .int 120, .int 0, .int 0, .int 0, .int 0, .ref a11, .int 0, .ref a12, .ref a13, .int 0, .ref a14, .ref a15, .ref a16, .ref a17])), (n2, .inl (cy 1, 6, .inl (fun _ => 0))), (n3, .inl (cy 1, 20, .inl (fun _ => 0))), (n4, .inl (cy 1, 20, .inl (fun _ => 0))), (n5, .inl (cy 1, 300, .inl (fun _ => 0))), (n6, .inl (cy 1, 300, .inl (fun _ => 0))), (n7, .inl (cy 1, 300, .inl (fun _ => 0))), (n8, .inl (cy 1, 300, .inl (fun _ => 0))), (a0, .inr (11, [.ref a1, .int 0, .int 0, .int (-1), .ref a2, .ref a3, .ref a4, .ref a5, .ref a6, .null])), (a4, .inl (cy 4, 3, .inr (.inr (.inr (.inr (fun _ => none))))))]) ⟨rfl, rfl, rfl, rfl, by decide⟩ 0 rfl rfl rfl rfl rfl ⟨Nat.le_of_ble_eq_true rfl, Nat.le_of_ble_eq_true rfl, Nat.le_of_ble_eq_true rfl⟩ 8 1263 ⟨rfl, rfl, Nat.le_of_ble_eq_true rfl, Nat.le_of_ble_eq_true rfl⟩ dX11_talk_38 (fun u H locs hp w => ?_)
  have w : Wd D A s.heap [(a3, .inl (cy 4, 5, .inr (.inr (.inr (.inr (va_up (va_up (fun _ => none) 0 (some a6)) 1 (some n1))))))), (a6, .inr (9, [.int 0, .int 2, .int 20, .int 120, .int 0, .int 0, .int 0, .int 0, .ref a11, .int 0, .ref a12, .ref a13, .int 0, .ref a14, .ref a15, .ref a16, .ref a17])), (n2, .inl (cy 1, 6, .inl (fun _ => 0))), (n3, .inl (cy 1, 20, .inl (fun _ => 0))), (n4, .inl (cy 1, 20, .inl (fun _ => 0))), (n5, .inl (cy 1, 300, .inl (fun _ => 0))), (n6, .inl (cy 1, 300, .inl (fun _ => 0))), (n7, .inl (cy 1, 300, .inl (fun _ => 0))), (n8, .inl (cy 1, 300, .inl (fun _ => 0))), (a0, .inr (11, [.ref a1, .int 0, .int 0, .int (-1), .ref a2, .ref a3, .ref a4, .ref a5, .ref a6, .null])), (a4, .inl (cy 4, 3, .inr (.inr (.inr (.inr (fun _ => none)))))), (a1, .inl (cy 0, 900, .inl (fun _ => 0))), (n1, .inr (9, [.int 0, .int 2, .int 20, .int 120, .int 0, .int 0, .int 0, .int 0, .ref n2, .int 0, .ref n3, .ref n4, .int 0, .ref n5, .ref n6, .ref n7, .ref n8])), (a2, .inr (5, [.ref a1, .int 0, .int 0, .int 0, .int 0, .int 0, .int 0, .ref n1]))] _ _ := w
  refine r_top (g2 := F0 m 41 ls [.int 0, .ref a0]) rfl ?_
  refine r_put C w 9 rfl rfl 2 (by decide) fl_RX11_67 rfl (ty := .int) (tyX11_ok 2 (by decide)) rfl rfl (Nat.le_of_ble_eq_true rfl) [(a3, .inl (cy 4, 5, .inr (.inr (.inr (.inr (va_up (va_up (fun _ => none) 0 (some a6)) 1 (some n1))))))), (a6, .inr (9, [.int 0, .int 2, .int 20, .int 120, .int 0, .int 0, .int 0, .int 0, .ref a11, .int 0, .ref a12, .ref a13, .int 0, .ref a14, .ref a15, .ref a16, .ref a17])), (n2, .inl (cy 1, 6, .inl (fun _ => 0))), (n3, .inl (cy 1, 20, .inl (fun _ => 0))), (n4, .inl (cy 1, 20, .inl (fun _ => 0))), (n5, .inl (cy 1, 300, .inl (fun _ => 0))), (n6, .inl (cy 1, 300, .inl (fun _ => 0))), (n7, .inl (cy 1, 300, .inl (fun _ => 0))), (n8, .inl (cy 1, 300, .inl (fun _ => 0))), (a0, .inr (11, [.ref a1, .int 0, .int 0, .int (-1), .ref a2, .ref a3, .ref a4, .ref a5, .ref a6, .null])), (a4, .inl (cy 4, 3, .inr (.inr (.inr (.inr (fun _ => none)))))), (a1, .inl (cy 0, 900, .inl (fun _ => 0))), (n1, .inr (9, [.int 0, .int 2, .int 20, .int 120, .int 0, .int 0, .int 0, .int 0, .ref n2, .int 0, .ref n3, .ref n4, .int 0, .ref n5, .ref n6, .ref n7, .ref n8])), (a2, .inr (5, [.ref a1, .int 0, .int 0, .int 0, .int 0, .int 0, .int 0, .ref n1]))] rfl dX11_talk_41 (fun H locs w => ?_)
  refine lv_aload_n C.1 C.2.1 dX11_talk_44 rfl (lv_at hl 1 rfl) ?_
  refine lv_aload_n C.1 C.2.1 dX11_talk_45 rfl (lv_at hl 1 rfl) ?_
  refine r_get C w 9 rfl rfl 2 (by decide) fl_RX11_67 (v := .int 0) rfl dX11_talk_46 ?_
  refine b_if_ne_f C (tgt := 56) dX11_talk_49 (by decide) (by decide) ?_
  refine lv_iconst (v := (-1)) C.1 C.2.1 dX11_talk_52 (by decide) ?_
  refine lv_goto (tgt := 63) C.1 C.2.1 dX11_talk_53 (by decide) ?_
  refine r_put C w 9 rfl rfl 3 (by decide) fl_RX11_13 rfl (ty := .int) (tyX11_ok 3 (by decide)) rfl rfl (Nat.le_of_ble_eq_true rfl) [(a3, .inl (cy 4, 5, .inr (.inr (.inr (.inr (va_up (va_up (fun _ => none) 0 (some a6)) 1 (some n1))))))), (a6, .inr (9, [.int 0, .int 2, .int 20, .int 120, .int 0, .int 0, .int 0, .int 0, .ref a11, .int 0, .ref a12, .ref a13, .int 0, .ref a14, .ref a15, .ref a16, .ref a17])), (n2, .inl (cy 1, 6, .inl (fun _ => 0))), (n3, .inl (cy 1, 20, .inl (fun _ => 0))), (n4, .inl (cy 1, 20, .inl (fun _ => 0))), (n5, .inl (cy 1, 300, .inl (fun _ => 0))), (n6, .inl (cy 1, 300, .inl (fun _ => 0))), (n7, .inl (cy 1, 300, .inl (fun _ => 0))), (n8, .inl (cy 1, 300, .inl (fun _ => 0))), (a0, .inr (11, [.ref a1, .int 0, .int 0, .int (-1), .ref a2, .ref a3, .ref a4, .ref a5, .ref a6, .null])), (a4, .inl (cy 4, 3, .inr (.inr (.inr (.inr (fun _ => none)))))), (a1, .inl (cy 0, 900, .inl (fun _ => 0))), (n1, .inr (9, [.int 0, .int 2, .int 20, .int 120, .int 0, .int 0, .int 0, .int 0, .ref n2, .int 0, .ref n3, .ref n4, .int 0, .ref n5, .ref n6, .ref n7, .ref n8])), (a2, .inr (5, [.ref a1, .int 0, .int 0, .int 0, .int 0, .int 0, .int 0, .ref n1]))] rfl dX11_talk_63 (fun H locs w => ?_)
  refine lv_aload_n C.1 C.2.1 dX11_talk_66 rfl (lv_at hl 1 rfl) ?_
  refine lv_iconst (v := 0) C.1 C.2.1 dX11_talk_67 (by decide) ?_
  refine r_put C w 9 rfl rfl 1 (by decide) fl_RX11_45 rfl (ty := .int) (tyX11_ok 1 (by decide)) rfl rfl (Nat.le_of_ble_eq_true rfl) [(a3, .inl (cy 4, 5, .inr (.inr (.inr (.inr (va_up (va_up (fun _ => none) 0 (some a6)) 1 (some n1))))))), (a6, .inr (9, [.int 0, .int 2, .int 20, .int 120, .int 0, .int 0, .int 0, .int 0, .ref a11, .int 0, .ref a12, .ref a13, .int 0, .ref a14, .ref a15, .ref a16, .ref a17])), (n2, .inl (cy 1, 6, .inl (fun _ => 0))), (n3, .inl (cy 1, 20, .inl (fun _ => 0))), (n4, .inl (cy 1, 20, .inl (fun _ => 0))), (n5, .inl (cy 1, 300, .inl (fun _ => 0))), (n6, .inl (cy 1, 300, .inl (fun _ => 0))), (n7, .inl (cy 1, 300, .inl (fun _ => 0))), (n8, .inl (cy 1, 300, .inl (fun _ => 0))), (a0, .inr (11, [.ref a1, .int 0, .int 0, .int (-1), .ref a2, .ref a3, .ref a4, .ref a5, .ref a6, .null])), (a4, .inl (cy 4, 3, .inr (.inr (.inr (.inr (fun _ => none)))))), (a1, .inl (cy 0, 900, .inl (fun _ => 0))), (n1, .inr (9, [.int 0, .int 2, .int 20, .int 120, .int 0, .int 0, .int 0, .int 0, .ref n2, .int 0, .ref n3, .ref n4, .int 0, .ref n5, .ref n6, .ref n7, .ref n8])), (a2, .inr (5, [.ref a1, .int 0, .int 0, .int 0, .int 0, .int 0, .int 0, .ref n1]))] rfl dX11_talk_68 (fun H locs w => ?_)
  refine lv_aload_n C.1 C.2.1 dX11_talk_71 rfl (lv_at hl 1 rfl) ?_
  refine r_get C w 9 rfl rfl 2 (by decide) fl_RX11_67 (v := .int 0) rfl dX11_talk_72 ?_
  refine b_if_eq_t C (tgt := 86) dX11_talk_75 (by decide) (by decide) ?_
  refine lv_aload_n C.1 C.2.1 dX11_talk_86 rfl (lv_at hl 1 rfl) ?_
  refine lv_aload_n C.1 C.2.1 dX11_talk_87 rfl (lv_at hl 0 rfl) ?_
  refine r_callV C w fv_RX11_74 (c_X11_become_0 l D cy a0 n1 a1 a2 a3 a4 a5 a6) (hl.1.trans hml.symm) [9] [0, 1, 2, 3, 4, 5, 6, 7, 8, 10, 11, 12, 13] (wr := [(a3, .inl (cy 4, 5, .inr (.inr (.inr (.inr (va_up (va_up (fun _ => none) 0 (some a6)) 1 (some n1))))))), (a6, .inr (9, [.int 0, .int 2, .int 20, .int 120, .int 0, .int 0, .int 0, .int 0, .ref a11, .int 0, .ref a12, .ref a13, .int 0, .ref a14, .ref a15, .ref a16, .ref a17])), (n2, .inl (cy 1, 6, .inl (fun _ => 0))), (n3, .inl (cy 1, 20, .inl (fun _ => 0))), (n4, .inl (cy 1, 20, .inl (fun _ => 0))), (n5, .inl (cy 1, 300, .inl (fun _ => 0))), (n6, .inl (cy 1, 300, .inl (fun _ => 0))), (n7, .inl (cy 1, 300, .inl (fun _ => 0))), (n8, .inl (cy 1, 300, .inl (fun _ => 0))), (a4, .inl (cy 4, 3, .inr (.inr (.inr (.inr (fun _ => none)))))), (a1, .inl (cy 0, 900, .inl (fun _ => 0))), (n1, .inr (9, [.int 0, .int 2, .int 20, .int 120, .int 0, .int 0, .int 0, .int 0, .ref n2, .int 0, .ref n3, .ref n4, .int 0, .ref n5, .ref n6, .ref n7, .ref n8])), (a2, .inr (5, [.ref a1, .int 0, .int 0, .int 0, .int 0, .int 0, .int 0, .ref n1]))]) ⟨rfl, rfl, rfl, rfl, by decide⟩ 0 rfl rfl rfl rfl rfl ⟨Nat.le_of_ble_eq_true rfl, Nat.le_of_ble_eq_true rfl, Nat.le_of_ble_eq_true rfl⟩ 8 1263 ⟨rfl, rfl, Nat.le_of_ble_eq_true rfl, Nat.le_of_ble_eq_true rfl⟩ dX11_talk_88 (fun u H locs hp w => ?_)
  have w : Wd D A s.heap [(a3, .inl (cy 4, 5, .inr (.inr (.inr (.inr (va_up (va_up (fun _ => none) 0 (some a6)) 1 (some n1))))))), (a6, .inr (9, [.int 0, .int 2, .int 20, .int 120, .int 0, .int 0, .int 0, .int 0, .ref a11, .int 0, .ref a12, .ref a13, .int 0, .ref a14, .ref a15, .ref a16, .ref a17])), (n2, .inl (cy 1, 6, .inl (fun _ => 0))), (n3, .inl (cy 1, 20, .inl (fun _ => 0))), (n4, .inl (cy 1, 20, .inl (fun _ => 0))), (n5, .inl (cy 1, 300, .inl (fun _ => 0))), (n6, .inl (cy 1, 300, .inl (fun _ => 0))), (n7, .inl (cy 1, 300, .inl (fun _ => 0))), (n8, .inl (cy 1, 300, .inl (fun _ => 0))), (a4, .inl (cy 4, 3, .inr (.inr (.inr (.inr (fun _ => none)))))), (a1, .inl (cy 0, 900, .inl (fun _ => 0))), (n1, .inr (9, [.int 0, .int 2, .int 20, .int 120, .int 0, .int 0, .int 0, .int 0, .ref n2, .int 0, .ref n3, .ref n4, .int 0, .ref n5, .ref n6, .ref n7, .ref n8])), (a2, .inr (5, [.ref a1, .int 0, .int 0, .int 0, .int 0, .int 0, .int 0, .ref n1])), (a0, .inr (11, [.ref a1, .int 0, .int 0, .int (-1), .ref a2, .ref a3, .ref a4, .ref a5, .ref n1, .null]))] _ _ := w
  refine r_top (g2 := F0 m 91 ls []) rfl ?_
  refine lv_aload_n C.1 C.2.1 dX11_talk_91 rfl (lv_at hl 0 rfl) ?_
  refine r_get C w 11 rfl rfl 0 (by decide) fl_RX11_78 (v := .int 0) rfl dX11_talk_92 ?_
  exact r_iret C w hlocks (n1, n2, n3, n4, n5, n6, n7, n8) hr rfl rfl trivial [0, 1, 2, 3, 4, 5, 6, 7, 8, 9, 10, 11, 12, 13] rfl rfl ⟨Nat.le_of_ble_eq_true rfl, Nat.le_of_ble_eq_true rfl⟩ dX11_talk_95
set_option maxRecDepth 100000 in
set_option maxHeartbeats 4000000 in
theorem c_X11_talk_2 (l : Launch) (D : va_G) (cy : Nat → ClassId) (a0 a1 a2 a3 a4 a5 a6 : Nat) (x0 : Int32) (k0 : ¬ x0 < 0) (k1 : ¬ x0 ≤ 0) (hst : l.stackTraces = false) : CtX l D cy yX11_talk cX11_talk 3 (some .int) 6 82 1 6 [(a0, .inr (11, [.ref a1, .int 0, .int 0, .int (-1), .ref a2, .ref a3, .ref a4, .ref a5, .ref a6, .null]))] [.ref a0, .int x0] nIAE := by
  refine CtX.of (by decide +kernel) (Nat.le_of_ble_eq_true rfl) ?_
  intro p e s m args below meth c A ls C hlocks hml htab w hl
  have hl : lv_has ls 3 [(0, .ref a0), (1, .int x0)] := hl
  refine lv_iload_n C.1 C.2.1 dX11_talk_0 rfl (lv_at hl 1 rfl) ?_
  refine b_if_lt_f C (tgt := 12) dX11_talk_1 (by decide) k0 ?_
  refine lv_iload_n C.1 C.2.1 dX11_talk_4 rfl (lv_at hl 1 rfl) ?_
  refine lv_aload_n C.1 C.2.1 dX11_talk_5 rfl (lv_at hl 0 rfl) ?_
  refine r_get C w 0 rfl rfl 1 (by decide) fl_RX11_45 (v := .int 0) rfl dX11_talk_6 ?_
  refine b_icmp_le_f C (tgt := 22) dX11_talk_9 (by decide) k1 ?_
  exact r_throwS C hst w ft_52_54_56 (hl.1.trans hml.symm) hlocks htab dX11_talk_12 dX11_talk_15 dX11_talk_16 dX11_talk_18 dX11_talk_21 ⟨Nat.le_of_ble_eq_true rfl, Nat.le_of_ble_eq_true rfl, Nat.le_of_ble_eq_true rfl, Nat.le_of_ble_eq_true rfl⟩ ⟨Nat.le_of_ble_eq_true rfl, Nat.le_of_ble_eq_true rfl⟩
theorem dX11_fault_0 : decode cX11_fault 0 = .ok (.iload_n 1, 1) := by decide +kernel
theorem dX11_fault_1 : decode cX11_fault 1 = .ok (.lookupswitch 37 #[(0, 27), (1, 32)], 27) := by decide +kernel
theorem dX11_fault_38 : decode cX11_fault 38 = .ok (.iconst (-1), 1) := by decide +kernel
theorem dX11_fault_39 : decode cX11_fault 39 = .ok (.ireturn, 1) := by decide +kernel
set_option maxRecDepth 100000 in
set_option maxHeartbeats 4000000 in
theorem c_X11_fault_0 (l : Launch) (D : va_G) (cy : Nat → ClassId) (a0 a1 a2 a3 a4 a5 a6 : Nat) (x0 : Int32) (k0 : ¬ x0 = 0) (k1 : ¬ x0 = 1) : Ct l D cy yX11_fault cX11_fault 2 (some .int) 0 0 0 0 [(a0, .inr (11, [.ref a1, .int 0, .int 0, .int (-1), .ref a2, .ref a3, .ref a4, .ref a5, .ref a6, .null]))] [.ref a0, .int x0] (fun u : Unit => some (.int (-1))) (fun _ => True) (fun u : Unit => [(a0, .inr (11, [.ref a1, .int 0, .int 0, .int (-1), .ref a2, .ref a3, .ref a4, .ref a5, .ref a6, .null]))]) := by
  refine Ct.of (by decide +kernel) (Nat.le_of_ble_eq_true rfl) ?_
  intro p e s m args below meth c A ls C hr hlocks hml hnm w hl
  have hl : lv_has ls 2 [(0, .ref a0), (1, .int x0)] := hl
  refine lv_iload_n C.1 C.2.1 dX11_fault_0 rfl (lv_at hl 1 rfl) ?_
  refine lv_lookup (tgt := 38) (off := 37) C.1 C.2.1 dX11_fault_1 (by decide) (by rw [lv_osw (k := 0) k0 (by decide)]; rw [lv_osw (k := 1) k1 (by decide)]; rfl) (by decide) ?_
  refine lv_iconst (v := (-1)) C.1 C.2.1 dX11_fault_38 (by decide) ?_
  exact r_iret C w hlocks () hr rfl rfl trivial [0] rfl rfl ⟨Nat.le_of_ble_eq_true rfl, Nat.le_of_ble_eq_true rfl⟩ dX11_fault_39
theorem dX11_fault_33 : decode cX11_fault 33 = .ok (.aload_n 0, 1) := by decide +kernel
theorem dX11_fault_34 : decode cX11_fault 34 = .ok (.getfield 13, 3) := by decide +kernel
theorem dX11_fault_37 : decode cX11_fault 37 = .ok (.ireturn, 1) := by decide +kernel
set_option maxRecDepth 100000 in
set_option maxHeartbeats 4000000 in
theorem c_X11_fault_1 (l : Launch) (D : va_G) (cy : Nat → ClassId) (a0 a1 a2 a3 a4 a5 a6 : Nat) : Ct l D cy yX11_fault cX11_fault 2 (some .int) 0 0 0 0 [(a0, .inr (11, [.ref a1, .int 0, .int 0, .int (-1), .ref a2, .ref a3, .ref a4, .ref a5, .ref a6, .null]))] [.ref a0, .int 1] (fun u : Unit => some (.int (-1))) (fun _ => True) (fun u : Unit => [(a0, .inr (11, [.ref a1, .int 0, .int 0, .int (-1), .ref a2, .ref a3, .ref a4, .ref a5, .ref a6, .null]))]) := by
  refine Ct.of (by decide +kernel) (Nat.le_of_ble_eq_true rfl) ?_
  intro p e s m args below meth c A ls C hr hlocks hml hnm w hl
  have hl : lv_has ls 2 [(0, .ref a0), (1, .int 1)] := hl
  refine lv_iload_n C.1 C.2.1 dX11_fault_0 rfl (lv_at hl 1 rfl) ?_
  refine lv_lookup (tgt := 33) (off := 32) C.1 C.2.1 dX11_fault_1 (by decide) (by decide) (by decide) ?_
  refine lv_aload_n C.1 C.2.1 dX11_fault_33 rfl (lv_at hl 0 rfl) ?_
  refine r_get C w 0 rfl rfl 3 (by decide) fl_RX11_13 (v := .int (-1)) rfl dX11_fault_34 ?_
  exact r_iret C w hlocks () hr rfl rfl trivial [0] rfl rfl ⟨Nat.le_of_ble_eq_true rfl, Nat.le_of_ble_eq_true rfl⟩ dX11_fault_37
theorem dX11_fault_28 : decode cX11_fault 28 = .ok (.aload_n 0, 1) := by decide +kernel
theorem dX11_fault_29 : decode cX11_fault 29 = .ok (.getfield 67, 3) := by decide +kernel
theorem dX11_fault_32 : decode cX11_fault 32 = .ok (.ireturn, 1) := by decide +kernel
set_option maxRecDepth 100000 in
set_option maxHeartbeats 4000000 in
theorem c_X11_fault_2 (l : Launch) (D : va_G) (cy : Nat → ClassId) (a0 a1 a2 a3 a4 a5 a6 : Nat) : Ct l D cy yX11_fault cX11_fault 2 (some .int) 0 0 0 0 [(a0, .inr (11, [.ref a1, .int 0, .int 0, .int (-1), .ref a2, .ref a3, .ref a4, .ref a5, .ref a6, .null]))] [.ref a0, .int 0] (fun u : Unit => some (.int 0)) (fun _ => True) (fun u : Unit => [(a0, .inr (11, [.ref a1, .int 0, .int 0, .int (-1), .ref a2, .ref a3, .ref a4, .ref a5, .ref a6, .null]))]) := by
  refine Ct.of (by decide +kernel) (Nat.le_of_ble_eq_true rfl) ?_
  intro p e s m args below meth c A ls C hr hlocks hml hnm w hl
  have hl : lv_has ls 2 [(0, .ref a0), (1, .int 0)] := hl
  refine lv_iload_n C.1 C.2.1 dX11_fault_0 rfl (lv_at hl 1 rfl) ?_
  refine lv_lookup (tgt := 28) (off := 27) C.1 C.2.1 dX11_fault_1 (by decide) (by decide) (by decide) ?_
  refine lv_aload_n C.1 C.2.1 dX11_fault_28 rfl (lv_at hl 0 rfl) ?_
  refine r_get C w 0 rfl rfl 2 (by decide) fl_RX11_67 (v := .int 0) rfl dX11_fault_29 ?_
  exact r_iret C w hlocks () hr rfl rfl trivial [0] rfl rfl ⟨Nat.le_of_ble_eq_true rfl, Nat.le_of_ble_eq_true rfl⟩ dX11_fault_32
