theorem sub_step (a b : Int32) : a - b + (-1) = a - (b + 1) := by
  rw [Int32.sub_eq_add_neg a b, Int32.sub_eq_add_neg a (b + 1), Int32.neg_add, Int32.sub_eq_add_neg (-b) 1, Int32.add_assoc]
theorem dX12_leftAt_0 : decode cX12_leftAt 0 = .ok (.aload_n 0, 1) := by decide +kernel
theorem dX12_leftAt_1 : decode cX12_leftAt 1 = .ok (.iconst 0, 1) := by decide +kernel
theorem dX12_leftAt_2 : decode cX12_leftAt 2 = .ok (.putfield 71, 3) := by decide +kernel
theorem dX12_leftAt_5 : decode cX12_leftAt 5 = .ok (.aload_n 0, 1) := by decide +kernel
theorem dX12_leftAt_6 : decode cX12_leftAt 6 = .ok (.iload_n 1, 1) := by decide +kernel
theorem dX12_leftAt_7 : decode cX12_leftAt 7 = .ok (.invokevirtual 342, 3) := by decide +kernel
theorem dX12_leftAt_10 : decode cX12_leftAt 10 = .ok (.ifCond .ne 9, 3) := by decide +kernel
theorem dX12_leftAt_13 : decode cX12_leftAt 13 = .ok (.aload_n 0, 1) := by decide +kernel
theorem dX12_leftAt_14 : decode cX12_leftAt 14 = .ok (.iconst 1, 1) := by decide +kernel
theorem dX12_leftAt_15 : decode cX12_leftAt 15 = .ok (.invokevirtual 237, 3) := by decide +kernel
theorem dX12_leftAt_18 : decode cX12_leftAt 18 = .ok (.ireturn, 1) := by decide +kernel
set_option maxRecDepth 100000 in
set_option maxHeartbeats 4000000 in
theorem c_X12_leftAt_0 (l : Launch) (D : va_G) (cy : Nat → ClassId) (a0 a1 a2 a3 a4 a5 a6 a7 a8 a9 a10 a11 a12 a13 a14 a15 a16 a17 : Nat) (x0 : Int32) (x1 : Int32) (k0 : x0 < 0) : Ct l D cy yX12_leftAt cX12_leftAt 5 (some .int) 2 46 0 0 [(a0, .inr (12, [.ref a1, .ref a2, .ref a3, .ref a4, .ref a5, .int 0, .ref a6, .int 0, .int 0, .int 0, .int 0, .int 0, .int 0, .int 0, .int 0, .int 0, .int 0, .int (-1), .ref a7, .ref a8, .int 0, .ref a9, .int 0, .ref a10, .ref a11, .ref a12, .ref a13, .ref a14, .int 0, .ref a15, .ref a16, .ref a17])), (a1, .inl (cy 1, 1868, .inl (upd (upd (upd (fun _ => 0) 1 2) 2 20) 3 120)))] [.ref a0, .int x0, .int x1] (fun u : Unit => some (.int 0)) (fun _ => True) (fun u : Unit => [(a1, .inl (cy 1, 1868, .inl (upd (upd (upd (fun _ => 0) 1 2) 2 20) 3 120))), (a0, .inr (12, [.ref a1, .ref a2, .ref a3, .ref a4, .ref a5, .int 1, .ref a6, .int 0, .int 0, .int 0, .int 0, .int 0, .int 0, .int 0, .int 0, .int 0, .int 0, .int (-1), .ref a7, .ref a8, .int 0, .ref a9, .int 0, .ref a10, .ref a11, .ref a12, .ref a13, .ref a14, .int 0, .ref a15, .ref a16, .ref a17]))]) := by
  refine Ct.of (by decide +kernel) (Nat.le_of_ble_eq_true rfl) ?_
  intro p e s m args below meth c A ls C hr hlocks hml hnm w hl
  have hl : lv_has ls 5 [(0, .ref a0), (1, .int x0), (2, .int x1)] := hl
  refine lv_aload_n C.1 C.2.1 dX12_leftAt_0 rfl (lv_at hl 0 rfl) ?_
  refine lv_iconst (v := 0) C.1 C.2.1 dX12_leftAt_1 (by decide) ?_
  refine r_put C w 0 rfl rfl 5 (by decide) fl_RX12_71 rfl (ty := .int) (tyX12_ok 5 (by decide)) rfl rfl (Nat.le_of_ble_eq_true rfl) [(a0, .inr (12, [.ref a1, .ref a2, .ref a3, .ref a4, .ref a5, .int 0, .ref a6, .int 0, .int 0, .int 0, .int 0, .int 0, .int 0, .int 0, .int 0, .int 0, .int 0, .int (-1), .ref a7, .ref a8, .int 0, .ref a9, .int 0, .ref a10, .ref a11, .ref a12, .ref a13, .ref a14, .int 0, .ref a15, .ref a16, .ref a17])), (a1, .inl (cy 1, 1868, .inl (upd (upd (upd (fun _ => 0) 1 2) 2 20) 3 120)))] rfl dX12_leftAt_2 (fun H locs w => ?_)
  refine lv_aload_n C.1 C.2.1 dX12_leftAt_5 rfl (lv_at hl 0 rfl) ?_
  refine lv_iload_n C.1 C.2.1 dX12_leftAt_6 rfl (lv_at hl 1 rfl) ?_
  refine r_callV C w fv_RX12_342 (c_X12_isBehind_4 l D cy a0 a1 a2 a3 a4 a5 a6 a7 a8 a9 a10 a11 a12 a13 a14 a15 a16 a17 x0 k0) (hl.1.trans hml.symm) [0, 1] [] (wr := []) ⟨rfl, rfl, rfl, rfl, by decide⟩ 0 rfl rfl rfl rfl rfl ⟨Nat.le_of_ble_eq_true rfl, Nat.le_of_ble_eq_true rfl, Nat.le_of_ble_eq_true rfl⟩ 0 0 ⟨rfl, rfl, Nat.le_of_ble_eq_true rfl, Nat.le_of_ble_eq_true rfl⟩ dX12_leftAt_7 (fun u H locs hp w => ?_)
  have w : Wd D A s.heap [(a0, .inr (12, [.ref a1, .ref a2, .ref a3, .ref a4, .ref a5, .int 0, .ref a6, .int 0, .int 0, .int 0, .int 0, .int 0, .int 0, .int 0, .int 0, .int 0, .int 0, .int (-1), .ref a7, .ref a8, .int 0, .ref a9, .int 0, .ref a10, .ref a11, .ref a12, .ref a13, .ref a14, .int 0, .ref a15, .ref a16, .ref a17])), (a1, .inl (cy 1, 1868, .inl (upd (upd (upd (fun _ => 0) 1 2) 2 20) 3 120)))] _ _ := w
  refine r_top (g2 := F0 m 10 ls [.int 0]) rfl ?_
  refine b_if_ne_f C (tgt := 19) dX12_leftAt_10 (by decide) (by decide) ?_
  refine lv_aload_n C.1 C.2.1 dX12_leftAt_13 rfl (lv_at hl 0 rfl) ?_
  refine lv_iconst (v := 1) C.1 C.2.1 dX12_leftAt_14 (by decide) ?_
  refine r_callV C w fv_RX12_237 (c_X12_fails_0 l D cy a0 a1 a2 a3 a4 a5 a6 a7 a8 a9 a10 a11 a12 a13 a14 a15 a16 a17) (hl.1.trans hml.symm) [0] [1] (wr := [(a1, .inl (cy 1, 1868, .inl (upd (upd (upd (fun _ => 0) 1 2) 2 20) 3 120)))]) ⟨rfl, rfl, rfl, rfl, by decide⟩ 0 rfl rfl rfl rfl rfl ⟨Nat.le_of_ble_eq_true rfl, Nat.le_of_ble_eq_true rfl, Nat.le_of_ble_eq_true rfl⟩ 0 0 ⟨rfl, rfl, Nat.le_of_ble_eq_true rfl, Nat.le_of_ble_eq_true rfl⟩ dX12_leftAt_15 (fun u H locs hp w => ?_)
  have w : Wd D A s.heap [(a1, .inl (cy 1, 1868, .inl (upd (upd (upd (fun _ => 0) 1 2) 2 20) 3 120))), (a0, .inr (12, [.ref a1, .ref a2, .ref a3, .ref a4, .ref a5, .int 1, .ref a6, .int 0, .int 0, .int 0, .int 0, .int 0, .int 0, .int 0, .int 0, .int 0, .int 0, .int (-1), .ref a7, .ref a8, .int 0, .ref a9, .int 0, .ref a10, .ref a11, .ref a12, .ref a13, .ref a14, .int 0, .ref a15, .ref a16, .ref a17]))] _ _ := w
  refine r_top (g2 := F0 m 18 ls [.int 0]) rfl ?_
  exact r_iret C w hlocks () hr rfl rfl trivial [0, 1] rfl rfl ⟨Nat.le_of_ble_eq_true rfl, Nat.le_of_ble_eq_true rfl⟩ dX12_leftAt_18
set_option maxRecDepth 100000 in
set_option maxHeartbeats 4000000 in
theorem c_X12_leftAt_1 (l : Launch) (D : va_G) (cy : Nat → ClassId) (a0 a1 a2 a3 a4 a5 a6 a7 a8 a9 a10 a11 a12 a13 a14 a15 a16 a17 : Nat) (x0 : Int32) (x1 : Int32) (k0 : ¬ x0 < 0) (k1 : 0 < x0) : Ct l D cy yX12_leftAt cX12_leftAt 5 (some .int) 2 46 0 0 [(a0, .inr (12, [.ref a1, .ref a2, .ref a3, .ref a4, .ref a5, .int 0, .ref a6, .int 0, .int 0, .int 0, .int 0, .int 0, .int 0, .int 0, .int 0, .int 0, .int 0, .int (-1), .ref a7, .ref a8, .int 0, .ref a9, .int 0, .ref a10, .ref a11, .ref a12, .ref a13, .ref a14, .int 0, .ref a15, .ref a16, .ref a17])), (a1, .inl (cy 1, 1868, .inl (upd (upd (upd (fun _ => 0) 1 2) 2 20) 3 120)))] [.ref a0, .int x0, .int x1] (fun u : Unit => some (.int 0)) (fun _ => True) (fun u : Unit => [(a1, .inl (cy 1, 1868, .inl (upd (upd (upd (fun _ => 0) 1 2) 2 20) 3 120))), (a0, .inr (12, [.ref a1, .ref a2, .ref a3, .ref a4, .ref a5, .int 1, .ref a6, .int 0, .int 0, .int 0, .int 0, .int 0, .int 0, .int 0, .int 0, .int 0, .int 0, .int (-1), .ref a7, .ref a8, .int 0, .ref a9, .int 0, .ref a10, .ref a11, .ref a12, .ref a13, .ref a14, .int 0, .ref a15, .ref a16, .ref a17]))]) := by
  refine Ct.of (by decide +kernel) (Nat.le_of_ble_eq_true rfl) ?_
  intro p e s m args below meth c A ls C hr hlocks hml hnm w hl
  have hl : lv_has ls 5 [(0, .ref a0), (1, .int x0), (2, .int x1)] := hl
  refine lv_aload_n C.1 C.2.1 dX12_leftAt_0 rfl (lv_at hl 0 rfl) ?_
  refine lv_iconst (v := 0) C.1 C.2.1 dX12_leftAt_1 (by decide) ?_
  refine r_put C w 0 rfl rfl 5 (by decide) fl_RX12_71 rfl (ty := .int) (tyX12_ok 5 (by decide)) rfl rfl (Nat.le_of_ble_eq_true rfl) [(a0, .inr (12, [.ref a1, .ref a2, .ref a3, .ref a4, .ref a5, .int 0, .ref a6, .int 0, .int 0, .int 0, .int 0, .int 0, .int 0, .int 0, .int 0, .int 0, .int 0, .int (-1), .ref a7, .ref a8, .int 0, .ref a9, .int 0, .ref a10, .ref a11, .ref a12, .ref a13, .ref a14, .int 0, .ref a15, .ref a16, .ref a17])), (a1, .inl (cy 1, 1868, .inl (upd (upd (upd (fun _ => 0) 1 2) 2 20) 3 120)))] rfl dX12_leftAt_2 (fun H locs w => ?_)
  refine lv_aload_n C.1 C.2.1 dX12_leftAt_5 rfl (lv_at hl 0 rfl) ?_
  refine lv_iload_n C.1 C.2.1 dX12_leftAt_6 rfl (lv_at hl 1 rfl) ?_
  refine r_callV C w fv_RX12_342 (c_X12_isBehind_6 l D cy a0 a1 a2 a3 a4 a5 a6 a7 a8 a9 a10 a11 a12 a13 a14 a15 a16 a17 x0 k0 k1) (hl.1.trans hml.symm) [0, 1] [] (wr := []) ⟨rfl, rfl, rfl, rfl, by decide⟩ 0 rfl rfl rfl rfl rfl ⟨Nat.le_of_ble_eq_true rfl, Nat.le_of_ble_eq_true rfl, Nat.le_of_ble_eq_true rfl⟩ 0 0 ⟨rfl, rfl, Nat.le_of_ble_eq_true rfl, Nat.le_of_ble_eq_true rfl⟩ dX12_leftAt_7 (fun u H locs hp w => ?_)
  have w : Wd D A s.heap [(a0, .inr (12, [.ref a1, .ref a2, .ref a3, .ref a4, .ref a5, .int 0, .ref a6, .int 0, .int 0, .int 0, .int 0, .int 0, .int 0, .int 0, .int 0, .int 0, .int 0, .int (-1), .ref a7, .ref a8, .int 0, .ref a9, .int 0, .ref a10, .ref a11, .ref a12, .ref a13, .ref a14, .int 0, .ref a15, .ref a16, .ref a17])), (a1, .inl (cy 1, 1868, .inl (upd (upd (upd (fun _ => 0) 1 2) 2 20) 3 120)))] _ _ := w
  refine r_top (g2 := F0 m 10 ls [.int 0]) rfl ?_
  refine b_if_ne_f C (tgt := 19) dX12_leftAt_10 (by decide) (by decide) ?_
  refine lv_aload_n C.1 C.2.1 dX12_leftAt_13 rfl (lv_at hl 0 rfl) ?_
  refine lv_iconst (v := 1) C.1 C.2.1 dX12_leftAt_14 (by decide) ?_
  refine r_callV C w fv_RX12_237 (c_X12_fails_0 l D cy a0 a1 a2 a3 a4 a5 a6 a7 a8 a9 a10 a11 a12 a13 a14 a15 a16 a17) (hl.1.trans hml.symm) [0] [1] (wr := [(a1, .inl (cy 1, 1868, .inl (upd (upd (upd (fun _ => 0) 1 2) 2 20) 3 120)))]) ⟨rfl, rfl, rfl, rfl, by decide⟩ 0 rfl rfl rfl rfl rfl ⟨Nat.le_of_ble_eq_true rfl, Nat.le_of_ble_eq_true rfl, Nat.le_of_ble_eq_true rfl⟩ 0 0 ⟨rfl, rfl, Nat.le_of_ble_eq_true rfl, Nat.le_of_ble_eq_true rfl⟩ dX12_leftAt_15 (fun u H locs hp w => ?_)
  have w : Wd D A s.heap [(a1, .inl (cy 1, 1868, .inl (upd (upd (upd (fun _ => 0) 1 2) 2 20) 3 120))), (a0, .inr (12, [.ref a1, .ref a2, .ref a3, .ref a4, .ref a5, .int 1, .ref a6, .int 0, .int 0, .int 0, .int 0, .int 0, .int 0, .int 0, .int 0, .int 0, .int 0, .int (-1), .ref a7, .ref a8, .int 0, .ref a9, .int 0, .ref a10, .ref a11, .ref a12, .ref a13, .ref a14, .int 0, .ref a15, .ref a16, .ref a17]))] _ _ := w
  refine r_top (g2 := F0 m 18 ls [.int 0]) rfl ?_
  exact r_iret C w hlocks () hr rfl rfl trivial [0, 1] rfl rfl ⟨Nat.le_of_ble_eq_true rfl, Nat.le_of_ble_eq_true rfl⟩ dX12_leftAt_18
theorem dX12_leftAt_19 : decode cX12_leftAt 19 = .ok (.aload_n 0, 1) := by decide +kernel
theorem dX12_leftAt_20 : decode cX12_leftAt 20 = .ok (.invokevirtual 330, 3) := by decide +kernel
theorem dX12_leftAt_23 : decode cX12_leftAt 23 = .ok (.iload_n 2, 1) := by decide +kernel
theorem dX12_leftAt_24 : decode cX12_leftAt 24 = .ok (.istore_n 3, 1) := by decide +kernel
theorem dX12_leftAt_25 : decode cX12_leftAt 25 = .ok (.iconst 0, 1) := by decide +kernel
theorem dX12_leftAt_26 : decode cX12_leftAt 26 = .ok (.istore 4, 2) := by decide +kernel
theorem dX12_leftAt_28 : decode cX12_leftAt 28 = .ok (.iload 4, 2) := by decide +kernel
theorem dX12_leftAt_30 : decode cX12_leftAt 30 = .ok (.aload_n 0, 1) := by decide +kernel
theorem dX12_leftAt_31 : decode cX12_leftAt 31 = .ok (.getfield 250, 3) := by decide +kernel
theorem dX12_leftAt_34 : decode cX12_leftAt 34 = .ok (.if_icmp .ge 32, 3) := by decide +kernel
theorem dX12_leftAt_37 : decode cX12_leftAt 37 = .ok (.aload_n 0, 1) := by decide +kernel
theorem dX12_leftAt_38 : decode cX12_leftAt 38 = .ok (.iload_n 1, 1) := by decide +kernel
theorem dX12_leftAt_39 : decode cX12_leftAt 39 = .ok (.iload 4, 2) := by decide +kernel
theorem dX12_leftAt_41 : decode cX12_leftAt 41 = .ok (.invokevirtual 293, 3) := by decide +kernel
set_option maxRecDepth 100000 in
set_option maxHeartbeats 4000000 in
theorem c_X12_has_7 (l : Launch) (D : va_G) (cy : Nat → ClassId) (a0 a1 a2 a3 a4 a5 a6 a7 a8 a9 a10 a11 a12 a13 a14 a15 a16 a17 : Nat) (x0 : Int32) (f0 : Nat → Int64) (k0 : ¬ x0 < 0) (k1 : x0 < 1830) (hbit : bitW f0 x0 = 1) : Ct l D cy yX12_has cX12_has 3 (some .boolean) 0 0 0 0 [(a0, .inr (12, [.ref a1, .ref a2, .ref a3, .ref a4, .ref a5, .int 0, .ref a6, .int 0, .int 0, .int 0, .int 0, .int 0, .int 0, .int 0, .int 0, .int 0, .int 0, .int (-1), .ref a7, .ref a8, .int 190, .ref a9, .int 21, .ref a10, .ref a11, .ref a12, .ref a13, .ref a14, .int 0, .ref a15, .ref a16, .ref a17])), (a9, .inl (cy 2, 2465, .inr (.inl f0)))] [.ref a0, .int 0, .int x0] (fun u : Unit => some (.int 1)) (fun _ => True) (fun u : Unit => [(a0, .inr (12, [.ref a1, .ref a2, .ref a3, .ref a4, .ref a5, .int 0, .ref a6, .int 0, .int 0, .int 0, .int 0, .int 0, .int 0, .int 0, .int 0, .int 0, .int 0, .int (-1), .ref a7, .ref a8, .int 190, .ref a9, .int 21, .ref a10, .ref a11, .ref a12, .ref a13, .ref a14, .int 0, .ref a15, .ref a16, .ref a17])), (a9, .inl (cy 2, 2465, .inr (.inl f0)))]) := by
  refine Ct.of (by decide +kernel) (Nat.le_of_ble_eq_true rfl) ?_
  intro p e s m args below meth c A ls C hr hlocks hml hnm w hl
  have hl : lv_has ls 3 [(0, .ref a0), (1, .int 0), (2, .int x0)] := hl
  refine lv_aload_n C.1 C.2.1 dX12_has_0 rfl (lv_at hl 0 rfl) ?_
  refine r_get C w 0 rfl rfl 21 (by decide) fl_RX12_39 (v := .ref a9) rfl dX12_has_1 ?_
  refine lv_bipush (v := 29) C.1 C.2.1 dX12_has_4 (by decide) ?_
  refine lv_iload_n C.1 C.2.1 dX12_has_6 rfl (lv_at hl 1 rfl) ?_
  refine r_imul C (v := 0) dX12_has_7 (by decide) ?_
  refine lv_iload_n C.1 C.2.1 dX12_has_8 rfl (lv_at hl 2 rfl) ?_
  refine lv_bipush (v := 6) C.1 C.2.1 dX12_has_9 (by decide) ?_
  refine r_ishr C (v := (x0 >>> (6 &&& 31))) dX12_has_11 rfl ?_
  refine r_iadd C (v := ((0 : Int32) + (x0 >>> (6 &&& 31)))) dX12_has_12 rfl ?_
  refine r_lald C w 1 rfl (v := (f0 ((0 : Int32) + (x0 >>> (6 &&& 31))).toNatClampNeg)) (plW_in k0 k1) rfl dX12_has_13 ?_
  refine lv_iload_n C.1 C.2.1 dX12_has_14 rfl (lv_at hl 2 rfl) ?_
  refine lv_bipush (v := 63) C.1 C.2.1 dX12_has_15 (by decide) ?_
  refine r_iand C (v := (x0 &&& 63)) dX12_has_17 rfl ?_
  refine lv_lshr (v := ((f0 ((0 : Int32) + (x0 >>> (6 &&& 31))).toNatClampNeg) >>> (Int32.toInt64 (x0 &&& 63) &&& 63))) C.1 C.2.1 dX12_has_18 rfl ?_
  refine lv_lconst (v := 1) C.1 C.2.1 dX12_has_19 (by decide) ?_
  refine r_land C (v := (((f0 ((0 : Int32) + (x0 >>> (6 &&& 31))).toNatClampNeg) >>> (Int32.toInt64 (x0 &&& 63) &&& 63)) &&& 1)) dX12_has_20 rfl ?_
  refine lv_lconst (v := 1) C.1 C.2.1 dX12_has_21 (by decide) ?_
  refine r_lcmp C (v := 0) dX12_has_22 (lgc_1 hbit) ?_
  refine b_if_ne_f C (tgt := 30) dX12_has_23 (by decide) (by decide) ?_
  refine lv_iconst (v := 1) C.1 C.2.1 dX12_has_26 (by decide) ?_
  refine lv_goto (tgt := 31) C.1 C.2.1 dX12_has_27 (by decide) ?_
  exact r_iret C w hlocks () hr rfl rfl trivial [0, 1] rfl rfl ⟨Nat.le_of_ble_eq_true rfl, Nat.le_of_ble_eq_true rfl⟩ dX12_has_31
theorem dX12_leftAt_44 : decode cX12_leftAt 44 = .ok (.ifCond .ne 6, 3) := by decide +kernel
theorem dX12_leftAt_50 : decode cX12_leftAt 50 = .ok (.iload_n 3, 1) := by decide +kernel
theorem dX12_leftAt_51 : decode cX12_leftAt 51 = .ok (.ifCond .ne 6, 3) := by decide +kernel
theorem dX12_leftAt_57 : decode cX12_leftAt 57 = .ok (.iinc 3 (-1), 3) := by decide +kernel
theorem dX12_leftAt_60 : decode cX12_leftAt 60 = .ok (.iinc 4 1, 3) := by decide +kernel
theorem dX12_leftAt_63 : decode cX12_leftAt 63 = .ok (.goto (-35), 3) := by decide +kernel
theorem dX12_leftAt_66 : decode cX12_leftAt 66 = .ok (.iconst (-1), 1) := by decide +kernel
set_option maxRecDepth 100000 in
set_option maxHeartbeats 4000000 in
theorem c_X12_has_8 (l : Launch) (D : va_G) (cy : Nat → ClassId) (a0 a1 a2 a3 a4 a5 a6 a7 a8 a9 a10 a11 a12 a13 a14 a15 a16 a17 : Nat) (x0 : Int32) (f0 : Nat → Int64) (k0 : ¬ x0 < 0) (k1 : x0 < 1830) (hbit : bitW f0 x0 = 1) : Ct l D cy yX12_has cX12_has 3 (some .boolean) 0 0 0 0 [(a0, .inr (12, [.ref a1, .ref a2, .ref a3, .ref a4, .ref a5, .int 0, .ref a6, .int 0, .int 0, .int 0, .int 0, .int 0, .int 0, .int 0, .int 0, .int 0, .int 0, .int (-1), .ref a7, .ref a8, .int 190, .ref a9, .int 21, .ref a10, .ref a11, .ref a12, .ref a13, .ref a14, .int 0, .ref a15, .ref a16, .ref a17])), (a9, .inl (cy 2, 2465, .inr (.inl f0)))] [.ref a0, .int 0, .int x0] (fun u : Unit => some (.int 1)) (fun _ => True) (fun u : Unit => [(a0, .inr (12, [.ref a1, .ref a2, .ref a3, .ref a4, .ref a5, .int 0, .ref a6, .int 0, .int 0, .int 0, .int 0, .int 0, .int 0, .int 0, .int 0, .int 0, .int 0, .int (-1), .ref a7, .ref a8, .int 190, .ref a9, .int 21, .ref a10, .ref a11, .ref a12, .ref a13, .ref a14, .int 0, .ref a15, .ref a16, .ref a17])), (a9, .inl (cy 2, 2465, .inr (.inl f0)))]) := by
  refine Ct.of (by decide +kernel) (Nat.le_of_ble_eq_true rfl) ?_
  intro p e s m args below meth c A ls C hr hlocks hml hnm w hl
  have hl : lv_has ls 3 [(0, .ref a0), (1, .int 0), (2, .int x0)] := hl
  refine lv_aload_n C.1 C.2.1 dX12_has_0 rfl (lv_at hl 0 rfl) ?_
  refine r_get C w 0 rfl rfl 21 (by decide) fl_RX12_39 (v := .ref a9) rfl dX12_has_1 ?_
  refine lv_bipush (v := 29) C.1 C.2.1 dX12_has_4 (by decide) ?_
  refine lv_iload_n C.1 C.2.1 dX12_has_6 rfl (lv_at hl 1 rfl) ?_
  refine r_imul C (v := 0) dX12_has_7 (by decide) ?_
  refine lv_iload_n C.1 C.2.1 dX12_has_8 rfl (lv_at hl 2 rfl) ?_
  refine lv_bipush (v := 6) C.1 C.2.1 dX12_has_9 (by decide) ?_
  refine r_ishr C (v := (x0 >>> (6 &&& 31))) dX12_has_11 rfl ?_
  refine r_iadd C (v := ((0 : Int32) + (x0 >>> (6 &&& 31)))) dX12_has_12 rfl ?_
  refine r_lald C w 1 rfl (v := (f0 ((0 : Int32) + (x0 >>> (6 &&& 31))).toNatClampNeg)) (plW_in k0 k1) rfl dX12_has_13 ?_
  refine lv_iload_n C.1 C.2.1 dX12_has_14 rfl (lv_at hl 2 rfl) ?_
  refine lv_bipush (v := 63) C.1 C.2.1 dX12_has_15 (by decide) ?_
  refine r_iand C (v := (x0 &&& 63)) dX12_has_17 rfl ?_
  refine lv_lshr (v := ((f0 ((0 : Int32) + (x0 >>> (6 &&& 31))).toNatClampNeg) >>> (Int32.toInt64 (x0 &&& 63) &&& 63))) C.1 C.2.1 dX12_has_18 rfl ?_
  refine lv_lconst (v := 1) C.1 C.2.1 dX12_has_19 (by decide) ?_
  refine r_land C (v := (((f0 ((0 : Int32) + (x0 >>> (6 &&& 31))).toNatClampNeg) >>> (Int32.toInt64 (x0 &&& 63) &&& 63)) &&& 1)) dX12_has_20 rfl ?_
  refine lv_lconst (v := 1) C.1 C.2.1 dX12_has_21 (by decide) ?_
  refine r_lcmp C (v := 0) dX12_has_22 (lgc_1 hbit) ?_
  refine b_if_ne_f C (tgt := 30) dX12_has_23 (by decide) (by decide) ?_
  refine lv_iconst (v := 1) C.1 C.2.1 dX12_has_26 (by decide) ?_
  refine lv_goto (tgt := 31) C.1 C.2.1 dX12_has_27 (by decide) ?_
  exact r_iret C w hlocks () hr rfl rfl trivial [0, 1] rfl rfl ⟨Nat.le_of_ble_eq_true rfl, Nat.le_of_ble_eq_true rfl⟩ dX12_has_31
set_option maxRecDepth 100000 in
set_option maxHeartbeats 4000000 in
theorem lp_X12_leftAt_1 {p : Program} {l : Launch} {e : Env} {R : Room} {s : State} {m : MethodId} {args : Array Value} {below : List Frame} {meth : Method} {c : Code} {cells slots : Nat} {Q : State → Prop} {D : va_G} {cy : Nat → ClassId} {A : Nat → Prop} {H : Heap} {locs : List Loc} {ls : Array Slot} (a1 a7 a8 a0 a2 a3 a4 a5 a6 a9 a10 a11 a12 a13 a14 a15 a16 a17 : Nat) (kx : Int32) (hk : kx < 0 ∨ ¬ kx < 190) (C : Cx p s m args c cX12_leftAt RX12 D cy A) (hml : c.maxLocals = 5) (hfr : 1 ≤ R.frames) (hlo : 22 ≤ R.locals) (hcs : cells ≤ R.cells ∧ slots ≤ R.slots) (w : Wd D A s.heap [(a1, .inl (cy 1, 1868, .inl (upd (upd (upd (fun _ => 0) 1 2) 2 20) 3 120))), (a7, .inl (cy 1, 1830, .inl (lxF (fun _ => 0) 2 20 (PP 20 2 (20 + 1 - 2))))), (a8, .inl (cy 1, 1830, .inl (lyF (fun _ => 0) 2 20 (PP 20 2 (20 + 1 - 2))))), (a0, .inr (12, [.ref a1, .ref a2, .ref a3, .ref a4, .ref a5, .int 0, .ref a6, .int 0, .int 0, .int 0, .int 0, .int 0, .int 0, .int 0, .int 0, .int 0, .int 0, .int (-1), .ref a7, .ref a8, .int 190, .ref a9, .int 21, .ref a10, .ref a11, .ref a12, .ref a13, .ref a14, .int 0, .ref a15, .ref a16, .ref a17])), (a9, .inl (cy 2, 2465, .inr (.inl (rwF (fun _ => 0) (PP 20 2 (20 + 1 - 2))))))] H locs) (hl : lv_has ls 5 [(0, .ref a0), (1, .int 0), (2, .int kx), (3, .int kx), (4, .int 0)])
    (kk : ∀ (H : Heap) (locs : List Loc) (ls : Array Slot), Wd D A s.heap [(a1, .inl (cy 1, 1868, .inl (upd (upd (upd (fun _ => 0) 1 2) 2 20) 3 120))), (a7, .inl (cy 1, 1830, .inl (lxF (fun _ => 0) 2 20 (PP 20 2 (20 + 1 - 2))))), (a8, .inl (cy 1, 1830, .inl (lyF (fun _ => 0) 2 20 (PP 20 2 (20 + 1 - 2))))), (a0, .inr (12, [.ref a1, .ref a2, .ref a3, .ref a4, .ref a5, .int 0, .ref a6, .int 0, .int 0, .int 0, .int 0, .int 0, .int 0, .int 0, .int 0, .int 0, .int 0, .int (-1), .ref a7, .ref a8, .int 190, .ref a9, .int 21, .ref a10, .ref a11, .ref a12, .ref a13, .ref a14, .int 0, .ref a15, .ref a16, .ref a17])), (a9, .inl (cy 2, 2465, .inr (.inl (rwF (fun _ => 0) (PP 20 2 (20 + 1 - 2))))))] H locs → lv_has ls 5 [] → W p l e R s m args below meth c H locs cells slots Q (F0 m 66 ls [])) : W p l e R s m args below meth c H locs cells slots Q (F0 m 28 ls []) := by
  have hne : ∀ n, n < 190 → ¬ kx = nI n := by
    intro n hn e
    rcases hk with h | h
    · rw [e] at h; exact nI_pos (by omega) h
    · rw [e] at h; exact h (nI_lt (b := 190) hn (by decide))
  have lp : ∀ (k n : Nat) (lv wv : Int32) (H : Heap) (locs : List Loc) (ls : Array Slot), n + k = 190 → lv = kx - nI n → wv = nI n → Wd D A s.heap [(a1, .inl (cy 1, 1868, .inl (upd (upd (upd (fun _ => 0) 1 2) 2 20) 3 120))), (a7, .inl (cy 1, 1830, .inl (lxF (fun _ => 0) 2 20 (PP 20 2 (20 + 1 - 2))))), (a8, .inl (cy 1, 1830, .inl (lyF (fun _ => 0) 2 20 (PP 20 2 (20 + 1 - 2))))), (a0, .inr (12, [.ref a1, .ref a2, .ref a3, .ref a4, .ref a5, .int 0, .ref a6, .int 0, .int 0, .int 0, .int 0, .int 0, .int 0, .int 0, .int 0, .int 0, .int 0, .int (-1), .ref a7, .ref a8, .int 190, .ref a9, .int 21, .ref a10, .ref a11, .ref a12, .ref a13, .ref a14, .int 0, .ref a15, .ref a16, .ref a17])), (a9, .inl (cy 2, 2465, .inr (.inl (rwF (fun _ => 0) (PP 20 2 (20 + 1 - 2))))))] H locs → lv_has ls 5 [(0, .ref a0), (1, .int 0), (2, .int kx), (3, .int lv), (4, .int wv)] → W p l e R s m args below meth c H locs cells slots Q (F0 m 28 ls []) := by
    intro k
    induction k with
    | zero =>
      intro n lv wv H locs ls h4 el ei w hl
      have hx : n = 190 := by omega
      subst hx
      have c1 : (190 : Int32) ≤ wv := by rw [ei]; decide
      refine lv_iload C.1 C.2.1 dX12_leftAt_28 (lv_at hl 4 rfl) ?_
      refine lv_aload_n C.1 C.2.1 dX12_leftAt_30 rfl (lv_at hl 0 rfl) ?_
      refine r_get C w 3 rfl rfl 20 (by decide) fl_RX12_250 (v := .int 190) rfl dX12_leftAt_31 ?_
      refine b_icmp_ge_t C (tgt := 66) dX12_leftAt_34 (by decide) c1 ?_
      exact kk _ _ _ w (lv_sub hl [] rfl)
    | succ k ih =>
      intro n lv wv H locs ls h4 el ei w hl
      have hw0 : ¬ wv < 0 := by rw [ei]; exact nI_pos (by omega)
      have hw1 : wv < 190 := by rw [ei]; exact nI_lt (b := 190) (by omega) (by decide)
      have hw2 : wv < 1830 := by rw [ei]; exact nI_lt (b := 1830) (by omega) (by decide)
      have hbit : bitW (rwF (fun _ => 0) (PP 20 2 (20 + 1 - 2))) wv = 1 := bitW_w _ hw0 hw1
      have c1 : ¬ (190 : Int32) ≤ wv := by rw [ei]; exact nI_ge (b := 190) (by omega) (by decide)
      have c2 : ¬ lv = 0 := by
        intro q
        have e6 : kx = nI n := by
          have e7 : kx - nI n + nI n = 0 + nI n := by rw [← el, q]
          rw [Int32.sub_add_cancel, Int32.zero_add] at e7
          exact e7
        exact hne n (by omega) e6
      refine lv_iload C.1 C.2.1 dX12_leftAt_28 (lv_at hl 4 rfl) ?_
      refine lv_aload_n C.1 C.2.1 dX12_leftAt_30 rfl (lv_at hl 0 rfl) ?_
      refine r_get C w 3 rfl rfl 20 (by decide) fl_RX12_250 (v := .int 190) rfl dX12_leftAt_31 ?_
      refine b_icmp_ge_f C (tgt := 66) dX12_leftAt_34 (by decide) c1 ?_
      refine lv_aload_n C.1 C.2.1 dX12_leftAt_37 rfl (lv_at hl 0 rfl) ?_
      refine lv_iload_n C.1 C.2.1 dX12_leftAt_38 rfl (lv_at hl 1 rfl) ?_
      refine lv_iload C.1 C.2.1 dX12_leftAt_39 (lv_at hl 4 rfl) ?_
      refine r_callV C w fv_RX12_293 (c_X12_has_8 l D cy a0 a1 a2 a3 a4 a5 a6 a7 a8 a9 a10 a11 a12 a13 a14 a15 a16 a17 wv (rwF (fun _ => 0) (PP 20 2 (20 + 1 - 2))) hw0 hw2 hbit) (hl.1.trans hml.symm) [3, 4] [0, 1, 2] (wr := [(a1, .inl (cy 1, 1868, .inl (upd (upd (upd (fun _ => 0) 1 2) 2 20) 3 120))), (a7, .inl (cy 1, 1830, .inl (lxF (fun _ => 0) 2 20 (PP 20 2 (20 + 1 - 2))))), (a8, .inl (cy 1, 1830, .inl (lyF (fun _ => 0) 2 20 (PP 20 2 (20 + 1 - 2)))))]) ⟨rfl, rfl, rfl, rfl, by decide⟩ 0 rfl rfl rfl rfl rfl ⟨by omega, by omega, Nat.le_of_ble_eq_true rfl⟩ cells slots ⟨rfl, rfl, hcs.1, hcs.2⟩ dX12_leftAt_41 (fun u H locs hp w => ?_)
      have w : Wd D A s.heap [(a1, .inl (cy 1, 1868, .inl (upd (upd (upd (fun _ => 0) 1 2) 2 20) 3 120))), (a7, .inl (cy 1, 1830, .inl (lxF (fun _ => 0) 2 20 (PP 20 2 (20 + 1 - 2))))), (a8, .inl (cy 1, 1830, .inl (lyF (fun _ => 0) 2 20 (PP 20 2 (20 + 1 - 2))))), (a0, .inr (12, [.ref a1, .ref a2, .ref a3, .ref a4, .ref a5, .int 0, .ref a6, .int 0, .int 0, .int 0, .int 0, .int 0, .int 0, .int 0, .int 0, .int 0, .int 0, .int (-1), .ref a7, .ref a8, .int 190, .ref a9, .int 21, .ref a10, .ref a11, .ref a12, .ref a13, .ref a14, .int 0, .ref a15, .ref a16, .ref a17])), (a9, .inl (cy 2, 2465, .inr (.inl (rwF (fun _ => 0) (PP 20 2 (20 + 1 - 2))))))] _ _ := w
      refine r_top (g2 := F0 m 44 ls [.int 1]) rfl ?_
      refine b_if_ne_t C (tgt := 50) dX12_leftAt_44 (by decide) (by decide) ?_
      refine lv_iload_n C.1 C.2.1 dX12_leftAt_50 rfl (lv_at hl 3 rfl) ?_
      refine b_if_ne_t C (tgt := 57) dX12_leftAt_51 (by decide) c2 ?_
      refine lv_iinc (v := (lv + (-1))) (lv' := [(3, .int (lv + (-1))), (0, .ref a0), (1, .int 0), (2, .int kx), (4, .int wv)]) C.1 C.2.1 dX12_leftAt_57 hl (k := 3) rfl rfl (by decide) rfl (fun ls hl => ?_)
      refine lv_iinc (v := (wv + 1)) (lv' := [(4, .int (wv + 1)), (3, .int (lv + (-1))), (0, .ref a0), (1, .int 0), (2, .int kx)]) C.1 C.2.1 dX12_leftAt_60 hl (k := 4) rfl rfl (by decide) rfl (fun ls hl => ?_)
      refine lv_goto (tgt := 28) C.1 C.2.1 dX12_leftAt_63 (by decide) ?_
      refine ih (n + 1) _ (wv + 1) _ _ _ (by omega) ?_ (by rw [ei]; exact nI_1 _) w (lv_sub hl [2, 3, 4, 1, 0] rfl)
      rw [el, nI_succ]
      exact sub_step _ _
  refine lp 190 0 kx 0 _ _ _ (Nat.zero_add _) ?_ rfl w hl
  rw [nI_0, Int32.sub_zero]
theorem dX12_leftAt_67 : decode cX12_leftAt 67 = .ok (.ireturn, 1) := by decide +kernel
set_option maxRecDepth 100000 in
set_option maxHeartbeats 4000000 in
theorem c_X12_leftAt_2 (l : Launch) (D : va_G) (cy : Nat → ClassId) (a0 a1 a2 a3 a4 a5 a6 a7 a8 a9 a10 a11 a12 a13 a14 a15 a16 a17 : Nat) (x1 : Int32) (k0 : x1 < 0) : Ct l D cy yX12_leftAt cX12_leftAt 5 (some .int) 3 72 0 0 [(a0, .inr (12, [.ref a1, .ref a2, .ref a3, .ref a4, .ref a5, .int 0, .ref a6, .int 0, .int 0, .int 0, .int 0, .int 0, .int 0, .int 0, .int 0, .int 0, .int 0, .int (-1), .ref a7, .ref a8, .int 0, .ref a9, .int 0, .ref a10, .ref a11, .ref a12, .ref a13, .ref a14, .int 0, .ref a15, .ref a16, .ref a17])), (a1, .inl (cy 1, 1868, .inl (upd (upd (upd (fun _ => 0) 1 2) 2 20) 3 120))), (a7, .inl (cy 1, 1830, .inl (fun _ => 0))), (a8, .inl (cy 1, 1830, .inl (fun _ => 0))), (a9, .inl (cy 2, 2465, .inr (.inl (fun _ => 0))))] [.ref a0, .int 0, .int x1] (fun u : Unit => some (.int (-1))) (fun _ => True) (fun u : Unit => [(a1, .inl (cy 1, 1868, .inl (upd (upd (upd (fun _ => 0) 1 2) 2 20) 3 120))), (a7, .inl (cy 1, 1830, .inl (lxF (fun _ => 0) 2 20 (PP 20 2 (20 + 1 - 2))))), (a8, .inl (cy 1, 1830, .inl (lyF (fun _ => 0) 2 20 (PP 20 2 (20 + 1 - 2))))), (a0, .inr (12, [.ref a1, .ref a2, .ref a3, .ref a4, .ref a5, .int 0, .ref a6, .int 0, .int 0, .int 0, .int 0, .int 0, .int 0, .int 0, .int 0, .int 0, .int 0, .int (-1), .ref a7, .ref a8, .int 190, .ref a9, .int 21, .ref a10, .ref a11, .ref a12, .ref a13, .ref a14, .int 0, .ref a15, .ref a16, .ref a17])), (a9, .inl (cy 2, 2465, .inr (.inl (rwF (fun _ => 0) (PP 20 2 (20 + 1 - 2))))))]) := by
  refine Ct.of (by decide +kernel) (Nat.le_of_ble_eq_true rfl) ?_
  intro p e s m args below meth c A ls C hr hlocks hml hnm w hl
  have hl : lv_has ls 5 [(0, .ref a0), (1, .int 0), (2, .int x1)] := hl
  refine lv_aload_n C.1 C.2.1 dX12_leftAt_0 rfl (lv_at hl 0 rfl) ?_
  refine lv_iconst (v := 0) C.1 C.2.1 dX12_leftAt_1 (by decide) ?_
  refine r_put C w 0 rfl rfl 5 (by decide) fl_RX12_71 rfl (ty := .int) (tyX12_ok 5 (by decide)) rfl rfl (Nat.le_of_ble_eq_true rfl) [(a0, .inr (12, [.ref a1, .ref a2, .ref a3, .ref a4, .ref a5, .int 0, .ref a6, .int 0, .int 0, .int 0, .int 0, .int 0, .int 0, .int 0, .int 0, .int 0, .int 0, .int (-1), .ref a7, .ref a8, .int 0, .ref a9, .int 0, .ref a10, .ref a11, .ref a12, .ref a13, .ref a14, .int 0, .ref a15, .ref a16, .ref a17])), (a1, .inl (cy 1, 1868, .inl (upd (upd (upd (fun _ => 0) 1 2) 2 20) 3 120))), (a7, .inl (cy 1, 1830, .inl (fun _ => 0))), (a8, .inl (cy 1, 1830, .inl (fun _ => 0))), (a9, .inl (cy 2, 2465, .inr (.inl (fun _ => 0))))] rfl dX12_leftAt_2 (fun H locs w => ?_)
  refine lv_aload_n C.1 C.2.1 dX12_leftAt_5 rfl (lv_at hl 0 rfl) ?_
  refine lv_iload_n C.1 C.2.1 dX12_leftAt_6 rfl (lv_at hl 1 rfl) ?_
  refine r_callV C w fv_RX12_342 (c_X12_isBehind_7 l D cy a0 a1 a2 a3 a4 a5 a6 a7 a8 a9 a10 a11 a12 a13 a14 a15 a16 a17) (hl.1.trans hml.symm) [0, 1] [2, 3, 4] (wr := [(a7, .inl (cy 1, 1830, .inl (fun _ => 0))), (a8, .inl (cy 1, 1830, .inl (fun _ => 0))), (a9, .inl (cy 2, 2465, .inr (.inl (fun _ => 0))))]) ⟨rfl, rfl, rfl, rfl, by decide⟩ 0 rfl rfl rfl rfl rfl ⟨Nat.le_of_ble_eq_true rfl, Nat.le_of_ble_eq_true rfl, Nat.le_of_ble_eq_true rfl⟩ 0 0 ⟨rfl, rfl, Nat.le_of_ble_eq_true rfl, Nat.le_of_ble_eq_true rfl⟩ dX12_leftAt_7 (fun u H locs hp w => ?_)
  have w : Wd D A s.heap [(a7, .inl (cy 1, 1830, .inl (fun _ => 0))), (a8, .inl (cy 1, 1830, .inl (fun _ => 0))), (a9, .inl (cy 2, 2465, .inr (.inl (fun _ => 0)))), (a0, .inr (12, [.ref a1, .ref a2, .ref a3, .ref a4, .ref a5, .int 0, .ref a6, .int 0, .int 0, .int 0, .int 0, .int 0, .int 0, .int 0, .int 0, .int 0, .int 0, .int (-1), .ref a7, .ref a8, .int 0, .ref a9, .int 0, .ref a10, .ref a11, .ref a12, .ref a13, .ref a14, .int 0, .ref a15, .ref a16, .ref a17])), (a1, .inl (cy 1, 1868, .inl (upd (upd (upd (fun _ => 0) 1 2) 2 20) 3 120)))] _ _ := w
  refine r_top (g2 := F0 m 10 ls [.int 1]) rfl ?_
  refine b_if_ne_t C (tgt := 19) dX12_leftAt_10 (by decide) (by decide) ?_
  refine lv_aload_n C.1 C.2.1 dX12_leftAt_19 rfl (lv_at hl 0 rfl) ?_
  refine r_callV C w fv_RX12_330 (c_X12_lays_2 l D cy a0 a1 a2 a3 a4 a5 a6 a7 a8 a9 a10 a11 a12 a13 a14 a15 a16 a17) (hl.1.trans hml.symm) [3, 4, 0, 1, 2] [] (wr := []) ⟨rfl, rfl, rfl, rfl, by decide⟩ 0 rfl rfl rfl rfl rfl ⟨Nat.le_of_ble_eq_true rfl, Nat.le_of_ble_eq_true rfl, Nat.le_of_ble_eq_true rfl⟩ 0 0 ⟨rfl, rfl, Nat.le_of_ble_eq_true rfl, Nat.le_of_ble_eq_true rfl⟩ dX12_leftAt_20 (fun u H locs hp w => ?_)
  have w : Wd D A s.heap [(a1, .inl (cy 1, 1868, .inl (upd (upd (upd (fun _ => 0) 1 2) 2 20) 3 120))), (a7, .inl (cy 1, 1830, .inl (lxF (fun _ => 0) 2 20 (PP 20 2 (20 + 1 - 2))))), (a8, .inl (cy 1, 1830, .inl (lyF (fun _ => 0) 2 20 (PP 20 2 (20 + 1 - 2))))), (a0, .inr (12, [.ref a1, .ref a2, .ref a3, .ref a4, .ref a5, .int 0, .ref a6, .int 0, .int 0, .int 0, .int 0, .int 0, .int 0, .int 0, .int 0, .int 0, .int 0, .int (-1), .ref a7, .ref a8, .int 190, .ref a9, .int 21, .ref a10, .ref a11, .ref a12, .ref a13, .ref a14, .int 0, .ref a15, .ref a16, .ref a17])), (a9, .inl (cy 2, 2465, .inr (.inl (rwF (fun _ => 0) (PP 20 2 (20 + 1 - 2))))))] _ _ := w
  refine r_top (g2 := F0 m 23 ls []) rfl ?_
  refine lv_iload_n C.1 C.2.1 dX12_leftAt_23 rfl (lv_at hl 2 rfl) ?_
  refine lv_istore_n (lv' := [(3, .int x1), (0, .ref a0), (1, .int 0), (2, .int x1)]) C.1 C.2.1 dX12_leftAt_24 rfl hl (by decide) rfl (fun ls hl => ?_)
  refine lv_iconst (v := 0) C.1 C.2.1 dX12_leftAt_25 (by decide) ?_
  refine lv_istore (lv' := [(4, .int 0), (3, .int x1), (0, .ref a0), (1, .int 0), (2, .int x1)]) C.1 C.2.1 dX12_leftAt_26 hl (by decide) rfl (fun ls hl => ?_)
  refine lp_X12_leftAt_1 a1 a7 a8 a0 a2 a3 a4 a5 a6 a9 a10 a11 a12 a13 a14 a15 a16 a17 x1 (Or.inl k0) C hml (Nat.le_of_ble_eq_true rfl) (Nat.le_of_ble_eq_true rfl) ⟨Nat.le_of_ble_eq_true rfl, Nat.le_of_ble_eq_true rfl⟩ (w.re rfl) (lv_sub hl [2, 3, 4, 1, 0] rfl) (fun H locs ls w hl => ?_)
  have w : Wd D A s.heap [(a1, .inl (cy 1, 1868, .inl (upd (upd (upd (fun _ => 0) 1 2) 2 20) 3 120))), (a7, .inl (cy 1, 1830, .inl (lxF (fun _ => 0) 2 20 (PP 20 2 (20 + 1 - 2))))), (a8, .inl (cy 1, 1830, .inl (lyF (fun _ => 0) 2 20 (PP 20 2 (20 + 1 - 2))))), (a0, .inr (12, [.ref a1, .ref a2, .ref a3, .ref a4, .ref a5, .int 0, .ref a6, .int 0, .int 0, .int 0, .int 0, .int 0, .int 0, .int 0, .int 0, .int 0, .int 0, .int (-1), .ref a7, .ref a8, .int 190, .ref a9, .int 21, .ref a10, .ref a11, .ref a12, .ref a13, .ref a14, .int 0, .ref a15, .ref a16, .ref a17])), (a9, .inl (cy 2, 2465, .inr (.inl (rwF (fun _ => 0) (PP 20 2 (20 + 1 - 2))))))] _ _ := w
  refine lv_iconst (v := (-1)) C.1 C.2.1 dX12_leftAt_66 (by decide) ?_
  exact r_iret C w hlocks () hr rfl rfl trivial [0, 1, 2, 3, 4] rfl rfl ⟨Nat.le_of_ble_eq_true rfl, Nat.le_of_ble_eq_true rfl⟩ dX12_leftAt_67
theorem dX12_leftAt_54 : decode cX12_leftAt 54 = .ok (.iload 4, 2) := by decide +kernel
set_option maxRecDepth 100000 in
set_option maxHeartbeats 4000000 in
theorem lp_X12_leftAt_2 {p : Program} {l : Launch} {e : Env} {R : Room} {s : State} {m : MethodId} {args : Array Value} {below : List Frame} {meth : Method} {c : Code} {cells slots : Nat} {Q : State → Prop} {D : va_G} {cy : Nat → ClassId} {A : Nat → Prop} {H : Heap} {locs : List Loc} {ls : Array Slot} (a1 a7 a8 a0 a2 a3 a4 a5 a6 a9 a10 a11 a12 a13 a14 a15 a16 a17 : Nat) (kx : Int32) (hk0 : ¬ kx < 0) (hk1 : kx < 190) (C : Cx p s m args c cX12_leftAt RX12 D cy A) (hml : c.maxLocals = 5) (hfr : 1 ≤ R.frames) (hlo : 22 ≤ R.locals) (hcs : cells ≤ R.cells ∧ slots ≤ R.slots) (w : Wd D A s.heap [(a1, .inl (cy 1, 1868, .inl (upd (upd (upd (fun _ => 0) 1 2) 2 20) 3 120))), (a7, .inl (cy 1, 1830, .inl (lxF (fun _ => 0) 2 20 (PP 20 2 (20 + 1 - 2))))), (a8, .inl (cy 1, 1830, .inl (lyF (fun _ => 0) 2 20 (PP 20 2 (20 + 1 - 2))))), (a0, .inr (12, [.ref a1, .ref a2, .ref a3, .ref a4, .ref a5, .int 0, .ref a6, .int 0, .int 0, .int 0, .int 0, .int 0, .int 0, .int 0, .int 0, .int 0, .int 0, .int (-1), .ref a7, .ref a8, .int 190, .ref a9, .int 21, .ref a10, .ref a11, .ref a12, .ref a13, .ref a14, .int 0, .ref a15, .ref a16, .ref a17])), (a9, .inl (cy 2, 2465, .inr (.inl (rwF (fun _ => 0) (PP 20 2 (20 + 1 - 2))))))] H locs) (hl : lv_has ls 5 [(0, .ref a0), (1, .int 0), (2, .int kx), (3, .int kx), (4, .int 0)])
    (kk : ∀ (H : Heap) (locs : List Loc) (ls : Array Slot), Wd D A s.heap [(a1, .inl (cy 1, 1868, .inl (upd (upd (upd (fun _ => 0) 1 2) 2 20) 3 120))), (a7, .inl (cy 1, 1830, .inl (lxF (fun _ => 0) 2 20 (PP 20 2 (20 + 1 - 2))))), (a8, .inl (cy 1, 1830, .inl (lyF (fun _ => 0) 2 20 (PP 20 2 (20 + 1 - 2))))), (a0, .inr (12, [.ref a1, .ref a2, .ref a3, .ref a4, .ref a5, .int 0, .ref a6, .int 0, .int 0, .int 0, .int 0, .int 0, .int 0, .int 0, .int 0, .int 0, .int 0, .int (-1), .ref a7, .ref a8, .int 190, .ref a9, .int 21, .ref a10, .ref a11, .ref a12, .ref a13, .ref a14, .int 0, .ref a15, .ref a16, .ref a17])), (a9, .inl (cy 2, 2465, .inr (.inl (rwF (fun _ => 0) (PP 20 2 (20 + 1 - 2))))))] H locs → lv_has ls 5 [(4, .int kx)] → W p l e R s m args below meth c H locs cells slots Q (F0 m 54 ls [])) : W p l e R s m args below meth c H locs cells slots Q (F0 m 28 ls []) := by
  have hkn := w_lt hk0 hk1
  have ek := clamp_nI hk0
  generalize kx.toNatClampNeg = kn at hkn ek
  have lp : ∀ (k n : Nat) (lv wv : Int32) (H : Heap) (locs : List Loc) (ls : Array Slot), n + k = kn → lv = kx - nI n → wv = nI n → Wd D A s.heap [(a1, .inl (cy 1, 1868, .inl (upd (upd (upd (fun _ => 0) 1 2) 2 20) 3 120))), (a7, .inl (cy 1, 1830, .inl (lxF (fun _ => 0) 2 20 (PP 20 2 (20 + 1 - 2))))), (a8, .inl (cy 1, 1830, .inl (lyF (fun _ => 0) 2 20 (PP 20 2 (20 + 1 - 2))))), (a0, .inr (12, [.ref a1, .ref a2, .ref a3, .ref a4, .ref a5, .int 0, .ref a6, .int 0, .int 0, .int 0, .int 0, .int 0, .int 0, .int 0, .int 0, .int 0, .int 0, .int (-1), .ref a7, .ref a8, .int 190, .ref a9, .int 21, .ref a10, .ref a11, .ref a12, .ref a13, .ref a14, .int 0, .ref a15, .ref a16, .ref a17])), (a9, .inl (cy 2, 2465, .inr (.inl (rwF (fun _ => 0) (PP 20 2 (20 + 1 - 2))))))] H locs → lv_has ls 5 [(0, .ref a0), (1, .int 0), (2, .int kx), (3, .int lv), (4, .int wv)] → W p l e R s m args below meth c H locs cells slots Q (F0 m 28 ls []) := by
    intro k
    induction k with
    | zero =>
      intro n lv wv H locs ls h4 el ei w hl
      have hx : n = kn := by omega
      subst hx
      have hw0 : ¬ wv < 0 := by rw [ei]; exact nI_pos (by omega)
      have hw1 : wv < 190 := by rw [ei]; exact nI_lt (b := 190) (by omega) (by decide)
      have hw2 : wv < 1830 := by rw [ei]; exact nI_lt (b := 1830) (by omega) (by decide)
      have hbit : bitW (rwF (fun _ => 0) (PP 20 2 (20 + 1 - 2))) wv = 1 := bitW_w _ hw0 hw1
      have c1 : ¬ (190 : Int32) ≤ wv := by rw [ei]; exact nI_ge (b := 190) (by omega) (by decide)
      have c2 : lv = 0 := by rw [el, ek, Int32.sub_self]
      refine lv_iload C.1 C.2.1 dX12_leftAt_28 (lv_at hl 4 rfl) ?_
      refine lv_aload_n C.1 C.2.1 dX12_leftAt_30 rfl (lv_at hl 0 rfl) ?_
      refine r_get C w 3 rfl rfl 20 (by decide) fl_RX12_250 (v := .int 190) rfl dX12_leftAt_31 ?_
      refine b_icmp_ge_f C (tgt := 66) dX12_leftAt_34 (by decide) c1 ?_
      refine lv_aload_n C.1 C.2.1 dX12_leftAt_37 rfl (lv_at hl 0 rfl) ?_
      refine lv_iload_n C.1 C.2.1 dX12_leftAt_38 rfl (lv_at hl 1 rfl) ?_
      refine lv_iload C.1 C.2.1 dX12_leftAt_39 (lv_at hl 4 rfl) ?_
      refine r_callV C w fv_RX12_293 (c_X12_has_8 l D cy a0 a1 a2 a3 a4 a5 a6 a7 a8 a9 a10 a11 a12 a13 a14 a15 a16 a17 wv (rwF (fun _ => 0) (PP 20 2 (20 + 1 - 2))) hw0 hw2 hbit) (hl.1.trans hml.symm) [3, 4] [0, 1, 2] (wr := [(a1, .inl (cy 1, 1868, .inl (upd (upd (upd (fun _ => 0) 1 2) 2 20) 3 120))), (a7, .inl (cy 1, 1830, .inl (lxF (fun _ => 0) 2 20 (PP 20 2 (20 + 1 - 2))))), (a8, .inl (cy 1, 1830, .inl (lyF (fun _ => 0) 2 20 (PP 20 2 (20 + 1 - 2)))))]) ⟨rfl, rfl, rfl, rfl, by decide⟩ 0 rfl rfl rfl rfl rfl ⟨by omega, by omega, Nat.le_of_ble_eq_true rfl⟩ cells slots ⟨rfl, rfl, hcs.1, hcs.2⟩ dX12_leftAt_41 (fun u H locs hp w => ?_)
      have w : Wd D A s.heap [(a1, .inl (cy 1, 1868, .inl (upd (upd (upd (fun _ => 0) 1 2) 2 20) 3 120))), (a7, .inl (cy 1, 1830, .inl (lxF (fun _ => 0) 2 20 (PP 20 2 (20 + 1 - 2))))), (a8, .inl (cy 1, 1830, .inl (lyF (fun _ => 0) 2 20 (PP 20 2 (20 + 1 - 2))))), (a0, .inr (12, [.ref a1, .ref a2, .ref a3, .ref a4, .ref a5, .int 0, .ref a6, .int 0, .int 0, .int 0, .int 0, .int 0, .int 0, .int 0, .int 0, .int 0, .int 0, .int (-1), .ref a7, .ref a8, .int 190, .ref a9, .int 21, .ref a10, .ref a11, .ref a12, .ref a13, .ref a14, .int 0, .ref a15, .ref a16, .ref a17])), (a9, .inl (cy 2, 2465, .inr (.inl (rwF (fun _ => 0) (PP 20 2 (20 + 1 - 2))))))] _ _ := w
      refine r_top (g2 := F0 m 44 ls [.int 1]) rfl ?_
      refine b_if_ne_t C (tgt := 50) dX12_leftAt_44 (by decide) (by decide) ?_
      refine lv_iload_n C.1 C.2.1 dX12_leftAt_50 rfl (lv_at hl 3 rfl) ?_
      refine b_if_ne_f C (tgt := 57) dX12_leftAt_51 (by decide) c2 ?_
      have e5 : wv = kx := by rw [ei, ek]
      have hl : lv_has ls 5 [(4, .int wv)] := (lv_sub hl [4] rfl)
      rw [e5] at hl
      exact kk _ _ _ w hl
    | succ k ih =>
      intro n lv wv H locs ls h4 el ei w hl
      have hw0 : ¬ wv < 0 := by rw [ei]; exact nI_pos (by omega)
      have hw1 : wv < 190 := by rw [ei]; exact nI_lt (b := 190) (by omega) (by decide)
      have hw2 : wv < 1830 := by rw [ei]; exact nI_lt (b := 1830) (by omega) (by decide)
      have hbit : bitW (rwF (fun _ => 0) (PP 20 2 (20 + 1 - 2))) wv = 1 := bitW_w _ hw0 hw1
      have c1 : ¬ (190 : Int32) ≤ wv := by rw [ei]; exact nI_ge (b := 190) (by omega) (by decide)
      have c2 : ¬ lv = 0 := by
        intro q
        have e6 : kx = nI n := by
          have e7 : kx - nI n + nI n = 0 + nI n := by rw [← el, q]
          rw [Int32.sub_add_cancel, Int32.zero_add] at e7
          exact e7
        rw [ek, nI_eq (by omega) (by omega)] at e6
        omega
      refine lv_iload C.1 C.2.1 dX12_leftAt_28 (lv_at hl 4 rfl) ?_
      refine lv_aload_n C.1 C.2.1 dX12_leftAt_30 rfl (lv_at hl 0 rfl) ?_
      refine r_get C w 3 rfl rfl 20 (by decide) fl_RX12_250 (v := .int 190) rfl dX12_leftAt_31 ?_
      refine b_icmp_ge_f C (tgt := 66) dX12_leftAt_34 (by decide) c1 ?_
      refine lv_aload_n C.1 C.2.1 dX12_leftAt_37 rfl (lv_at hl 0 rfl) ?_
      refine lv_iload_n C.1 C.2.1 dX12_leftAt_38 rfl (lv_at hl 1 rfl) ?_
      refine lv_iload C.1 C.2.1 dX12_leftAt_39 (lv_at hl 4 rfl) ?_
      refine r_callV C w fv_RX12_293 (c_X12_has_8 l D cy a0 a1 a2 a3 a4 a5 a6 a7 a8 a9 a10 a11 a12 a13 a14 a15 a16 a17 wv (rwF (fun _ => 0) (PP 20 2 (20 + 1 - 2))) hw0 hw2 hbit) (hl.1.trans hml.symm) [3, 4] [0, 1, 2] (wr := [(a1, .inl (cy 1, 1868, .inl (upd (upd (upd (fun _ => 0) 1 2) 2 20) 3 120))), (a7, .inl (cy 1, 1830, .inl (lxF (fun _ => 0) 2 20 (PP 20 2 (20 + 1 - 2))))), (a8, .inl (cy 1, 1830, .inl (lyF (fun _ => 0) 2 20 (PP 20 2 (20 + 1 - 2)))))]) ⟨rfl, rfl, rfl, rfl, by decide⟩ 0 rfl rfl rfl rfl rfl ⟨by omega, by omega, Nat.le_of_ble_eq_true rfl⟩ cells slots ⟨rfl, rfl, hcs.1, hcs.2⟩ dX12_leftAt_41 (fun u H locs hp w => ?_)
      have w : Wd D A s.heap [(a1, .inl (cy 1, 1868, .inl (upd (upd (upd (fun _ => 0) 1 2) 2 20) 3 120))), (a7, .inl (cy 1, 1830, .inl (lxF (fun _ => 0) 2 20 (PP 20 2 (20 + 1 - 2))))), (a8, .inl (cy 1, 1830, .inl (lyF (fun _ => 0) 2 20 (PP 20 2 (20 + 1 - 2))))), (a0, .inr (12, [.ref a1, .ref a2, .ref a3, .ref a4, .ref a5, .int 0, .ref a6, .int 0, .int 0, .int 0, .int 0, .int 0, .int 0, .int 0, .int 0, .int 0, .int 0, .int (-1), .ref a7, .ref a8, .int 190, .ref a9, .int 21, .ref a10, .ref a11, .ref a12, .ref a13, .ref a14, .int 0, .ref a15, .ref a16, .ref a17])), (a9, .inl (cy 2, 2465, .inr (.inl (rwF (fun _ => 0) (PP 20 2 (20 + 1 - 2))))))] _ _ := w
      refine r_top (g2 := F0 m 44 ls [.int 1]) rfl ?_
      refine b_if_ne_t C (tgt := 50) dX12_leftAt_44 (by decide) (by decide) ?_
      refine lv_iload_n C.1 C.2.1 dX12_leftAt_50 rfl (lv_at hl 3 rfl) ?_
      refine b_if_ne_t C (tgt := 57) dX12_leftAt_51 (by decide) c2 ?_
      refine lv_iinc (v := (lv + (-1))) (lv' := [(3, .int (lv + (-1))), (0, .ref a0), (1, .int 0), (2, .int kx), (4, .int wv)]) C.1 C.2.1 dX12_leftAt_57 hl (k := 3) rfl rfl (by decide) rfl (fun ls hl => ?_)
      refine lv_iinc (v := (wv + 1)) (lv' := [(4, .int (wv + 1)), (3, .int (lv + (-1))), (0, .ref a0), (1, .int 0), (2, .int kx)]) C.1 C.2.1 dX12_leftAt_60 hl (k := 4) rfl rfl (by decide) rfl (fun ls hl => ?_)
      refine lv_goto (tgt := 28) C.1 C.2.1 dX12_leftAt_63 (by decide) ?_
      refine ih (n + 1) _ (wv + 1) _ _ _ (by omega) ?_ (by rw [ei]; exact nI_1 _) w (lv_sub hl [2, 3, 4, 1, 0] rfl)
      rw [el, nI_succ]
      exact sub_step _ _
  refine lp kn 0 kx 0 _ _ _ (Nat.zero_add _) ?_ rfl w hl
  rw [nI_0, Int32.sub_zero]
theorem dX12_leftAt_56 : decode cX12_leftAt 56 = .ok (.ireturn, 1) := by decide +kernel
set_option maxRecDepth 100000 in
set_option maxHeartbeats 4000000 in
theorem c_X12_leftAt_3 (l : Launch) (D : va_G) (cy : Nat → ClassId) (a0 a1 a2 a3 a4 a5 a6 a7 a8 a9 a10 a11 a12 a13 a14 a15 a16 a17 : Nat) (x1 : Int32) (k0 : ¬ x1 < 0) (k1 : x1 < 190) : Ct l D cy yX12_leftAt cX12_leftAt 5 (some .int) 3 72 0 0 [(a0, .inr (12, [.ref a1, .ref a2, .ref a3, .ref a4, .ref a5, .int 0, .ref a6, .int 0, .int 0, .int 0, .int 0, .int 0, .int 0, .int 0, .int 0, .int 0, .int 0, .int (-1), .ref a7, .ref a8, .int 0, .ref a9, .int 0, .ref a10, .ref a11, .ref a12, .ref a13, .ref a14, .int 0, .ref a15, .ref a16, .ref a17])), (a1, .inl (cy 1, 1868, .inl (upd (upd (upd (fun _ => 0) 1 2) 2 20) 3 120))), (a7, .inl (cy 1, 1830, .inl (fun _ => 0))), (a8, .inl (cy 1, 1830, .inl (fun _ => 0))), (a9, .inl (cy 2, 2465, .inr (.inl (fun _ => 0))))] [.ref a0, .int 0, .int x1] (fun u : Unit => some (.int x1)) (fun _ => True) (fun u : Unit => [(a1, .inl (cy 1, 1868, .inl (upd (upd (upd (fun _ => 0) 1 2) 2 20) 3 120))), (a7, .inl (cy 1, 1830, .inl (lxF (fun _ => 0) 2 20 (PP 20 2 (20 + 1 - 2))))), (a8, .inl (cy 1, 1830, .inl (lyF (fun _ => 0) 2 20 (PP 20 2 (20 + 1 - 2))))), (a0, .inr (12, [.ref a1, .ref a2, .ref a3, .ref a4, .ref a5, .int 0, .ref a6, .int 0, .int 0, .int 0, .int 0, .int 0, .int 0, .int 0, .int 0, .int 0, .int 0, .int (-1), .ref a7, .ref a8, .int 190, .ref a9, .int 21, .ref a10, .ref a11, .ref a12, .ref a13, .ref a14, .int 0, .ref a15, .ref a16, .ref a17])), (a9, .inl (cy 2, 2465, .inr (.inl (rwF (fun _ => 0) (PP 20 2 (20 + 1 - 2))))))]) := by
  refine Ct.of (by decide +kernel) (Nat.le_of_ble_eq_true rfl) ?_
  intro p e s m args below meth c A ls C hr hlocks hml hnm w hl
  have hl : lv_has ls 5 [(0, .ref a0), (1, .int 0), (2, .int x1)] := hl
  refine lv_aload_n C.1 C.2.1 dX12_leftAt_0 rfl (lv_at hl 0 rfl) ?_
  refine lv_iconst (v := 0) C.1 C.2.1 dX12_leftAt_1 (by decide) ?_
  refine r_put C w 0 rfl rfl 5 (by decide) fl_RX12_71 rfl (ty := .int) (tyX12_ok 5 (by decide)) rfl rfl (Nat.le_of_ble_eq_true rfl) [(a0, .inr (12, [.ref a1, .ref a2, .ref a3, .ref a4, .ref a5, .int 0, .ref a6, .int 0, .int 0, .int 0, .int 0, .int 0, .int 0, .int 0, .int 0, .int 0, .int 0, .int (-1), .ref a7, .ref a8, .int 0, .ref a9, .int 0, .ref a10, .ref a11, .ref a12, .ref a13, .ref a14, .int 0, .ref a15, .ref a16, .ref a17])), (a1, .inl (cy 1, 1868, .inl (upd (upd (upd (fun _ => 0) 1 2) 2 20) 3 120))), (a7, .inl (cy 1, 1830, .inl (fun _ => 0))), (a8, .inl (cy 1, 1830, .inl (fun _ => 0))), (a9, .inl (cy 2, 2465, .inr (.inl (fun _ => 0))))] rfl dX12_leftAt_2 (fun H locs w => ?_)
  refine lv_aload_n C.1 C.2.1 dX12_leftAt_5 rfl (lv_at hl 0 rfl) ?_
  refine lv_iload_n C.1 C.2.1 dX12_leftAt_6 rfl (lv_at hl 1 rfl) ?_
  refine r_callV C w fv_RX12_342 (c_X12_isBehind_7 l D cy a0 a1 a2 a3 a4 a5 a6 a7 a8 a9 a10 a11 a12 a13 a14 a15 a16 a17) (hl.1.trans hml.symm) [0, 1] [2, 3, 4] (wr := [(a7, .inl (cy 1, 1830, .inl (fun _ => 0))), (a8, .inl (cy 1, 1830, .inl (fun _ => 0))), (a9, .inl (cy 2, 2465, .inr (.inl (fun _ => 0))))]) ⟨rfl, rfl, rfl, rfl, by decide⟩ 0 rfl rfl rfl rfl rfl ⟨Nat.le_of_ble_eq_true rfl, Nat.le_of_ble_eq_true rfl, Nat.le_of_ble_eq_true rfl⟩ 0 0 ⟨rfl, rfl, Nat.le_of_ble_eq_true rfl, Nat.le_of_ble_eq_true rfl⟩ dX12_leftAt_7 (fun u H locs hp w => ?_)
  have w : Wd D A s.heap [(a7, .inl (cy 1, 1830, .inl (fun _ => 0))), (a8, .inl (cy 1, 1830, .inl (fun _ => 0))), (a9, .inl (cy 2, 2465, .inr (.inl (fun _ => 0)))), (a0, .inr (12, [.ref a1, .ref a2, .ref a3, .ref a4, .ref a5, .int 0, .ref a6, .int 0, .int 0, .int 0, .int 0, .int 0, .int 0, .int 0, .int 0, .int 0, .int 0, .int (-1), .ref a7, .ref a8, .int 0, .ref a9, .int 0, .ref a10, .ref a11, .ref a12, .ref a13, .ref a14, .int 0, .ref a15, .ref a16, .ref a17])), (a1, .inl (cy 1, 1868, .inl (upd (upd (upd (fun _ => 0) 1 2) 2 20) 3 120)))] _ _ := w
  refine r_top (g2 := F0 m 10 ls [.int 1]) rfl ?_
  refine b_if_ne_t C (tgt := 19) dX12_leftAt_10 (by decide) (by decide) ?_
  refine lv_aload_n C.1 C.2.1 dX12_leftAt_19 rfl (lv_at hl 0 rfl) ?_
  refine r_callV C w fv_RX12_330 (c_X12_lays_2 l D cy a0 a1 a2 a3 a4 a5 a6 a7 a8 a9 a10 a11 a12 a13 a14 a15 a16 a17) (hl.1.trans hml.symm) [3, 4, 0, 1, 2] [] (wr := []) ⟨rfl, rfl, rfl, rfl, by decide⟩ 0 rfl rfl rfl rfl rfl ⟨Nat.le_of_ble_eq_true rfl, Nat.le_of_ble_eq_true rfl, Nat.le_of_ble_eq_true rfl⟩ 0 0 ⟨rfl, rfl, Nat.le_of_ble_eq_true rfl, Nat.le_of_ble_eq_true rfl⟩ dX12_leftAt_20 (fun u H locs hp w => ?_)
  have w : Wd D A s.heap [(a1, .inl (cy 1, 1868, .inl (upd (upd (upd (fun _ => 0) 1 2) 2 20) 3 120))), (a7, .inl (cy 1, 1830, .inl (lxF (fun _ => 0) 2 20 (PP 20 2 (20 + 1 - 2))))), (a8, .inl (cy 1, 1830, .inl (lyF (fun _ => 0) 2 20 (PP 20 2 (20 + 1 - 2))))), (a0, .inr (12, [.ref a1, .ref a2, .ref a3, .ref a4, .ref a5, .int 0, .ref a6, .int 0, .int 0, .int 0, .int 0, .int 0, .int 0, .int 0, .int 0, .int 0, .int 0, .int (-1), .ref a7, .ref a8, .int 190, .ref a9, .int 21, .ref a10, .ref a11, .ref a12, .ref a13, .ref a14, .int 0, .ref a15, .ref a16, .ref a17])), (a9, .inl (cy 2, 2465, .inr (.inl (rwF (fun _ => 0) (PP 20 2 (20 + 1 - 2))))))] _ _ := w
  refine r_top (g2 := F0 m 23 ls []) rfl ?_
  refine lv_iload_n C.1 C.2.1 dX12_leftAt_23 rfl (lv_at hl 2 rfl) ?_
  refine lv_istore_n (lv' := [(3, .int x1), (0, .ref a0), (1, .int 0), (2, .int x1)]) C.1 C.2.1 dX12_leftAt_24 rfl hl (by decide) rfl (fun ls hl => ?_)
  refine lv_iconst (v := 0) C.1 C.2.1 dX12_leftAt_25 (by decide) ?_
  refine lv_istore (lv' := [(4, .int 0), (3, .int x1), (0, .ref a0), (1, .int 0), (2, .int x1)]) C.1 C.2.1 dX12_leftAt_26 hl (by decide) rfl (fun ls hl => ?_)
  refine lp_X12_leftAt_2 a1 a7 a8 a0 a2 a3 a4 a5 a6 a9 a10 a11 a12 a13 a14 a15 a16 a17 x1 k0 k1 C hml (Nat.le_of_ble_eq_true rfl) (Nat.le_of_ble_eq_true rfl) ⟨Nat.le_of_ble_eq_true rfl, Nat.le_of_ble_eq_true rfl⟩ (w.re rfl) (lv_sub hl [2, 3, 4, 1, 0] rfl) (fun H locs ls w hl => ?_)
  have w : Wd D A s.heap [(a1, .inl (cy 1, 1868, .inl (upd (upd (upd (fun _ => 0) 1 2) 2 20) 3 120))), (a7, .inl (cy 1, 1830, .inl (lxF (fun _ => 0) 2 20 (PP 20 2 (20 + 1 - 2))))), (a8, .inl (cy 1, 1830, .inl (lyF (fun _ => 0) 2 20 (PP 20 2 (20 + 1 - 2))))), (a0, .inr (12, [.ref a1, .ref a2, .ref a3, .ref a4, .ref a5, .int 0, .ref a6, .int 0, .int 0, .int 0, .int 0, .int 0, .int 0, .int 0, .int 0, .int 0, .int 0, .int (-1), .ref a7, .ref a8, .int 190, .ref a9, .int 21, .ref a10, .ref a11, .ref a12, .ref a13, .ref a14, .int 0, .ref a15, .ref a16, .ref a17])), (a9, .inl (cy 2, 2465, .inr (.inl (rwF (fun _ => 0) (PP 20 2 (20 + 1 - 2))))))] _ _ := w
  refine lv_iload C.1 C.2.1 dX12_leftAt_54 (lv_at hl 0 rfl) ?_
  exact r_iret C w hlocks () hr rfl rfl trivial [0, 1, 2, 3, 4] rfl rfl ⟨Nat.le_of_ble_eq_true rfl, Nat.le_of_ble_eq_true rfl⟩ dX12_leftAt_56
set_option maxRecDepth 100000 in
set_option maxHeartbeats 4000000 in
theorem c_X12_leftAt_4 (l : Launch) (D : va_G) (cy : Nat → ClassId) (a0 a1 a2 a3 a4 a5 a6 a7 a8 a9 a10 a11 a12 a13 a14 a15 a16 a17 : Nat) (x1 : Int32) (k0 : ¬ x1 < 0) (k1 : ¬ x1 < 190) : Ct l D cy yX12_leftAt cX12_leftAt 5 (some .int) 3 72 0 0 [(a0, .inr (12, [.ref a1, .ref a2, .ref a3, .ref a4, .ref a5, .int 0, .ref a6, .int 0, .int 0, .int 0, .int 0, .int 0, .int 0, .int 0, .int 0, .int 0, .int 0, .int (-1), .ref a7, .ref a8, .int 0, .ref a9, .int 0, .ref a10, .ref a11, .ref a12, .ref a13, .ref a14, .int 0, .ref a15, .ref a16, .ref a17])), (a1, .inl (cy 1, 1868, .inl (upd (upd (upd (fun _ => 0) 1 2) 2 20) 3 120))), (a7, .inl (cy 1, 1830, .inl (fun _ => 0))), (a8, .inl (cy 1, 1830, .inl (fun _ => 0))), (a9, .inl (cy 2, 2465, .inr (.inl (fun _ => 0))))] [.ref a0, .int 0, .int x1] (fun u : Unit => some (.int (-1))) (fun _ => True) (fun u : Unit => [(a1, .inl (cy 1, 1868, .inl (upd (upd (upd (fun _ => 0) 1 2) 2 20) 3 120))), (a7, .inl (cy 1, 1830, .inl (lxF (fun _ => 0) 2 20 (PP 20 2 (20 + 1 - 2))))), (a8, .inl (cy 1, 1830, .inl (lyF (fun _ => 0) 2 20 (PP 20 2 (20 + 1 - 2))))), (a0, .inr (12, [.ref a1, .ref a2, .ref a3, .ref a4, .ref a5, .int 0, .ref a6, .int 0, .int 0, .int 0, .int 0, .int 0, .int 0, .int 0, .int 0, .int 0, .int 0, .int (-1), .ref a7, .ref a8, .int 190, .ref a9, .int 21, .ref a10, .ref a11, .ref a12, .ref a13, .ref a14, .int 0, .ref a15, .ref a16, .ref a17])), (a9, .inl (cy 2, 2465, .inr (.inl (rwF (fun _ => 0) (PP 20 2 (20 + 1 - 2))))))]) := by
  refine Ct.of (by decide +kernel) (Nat.le_of_ble_eq_true rfl) ?_
  intro p e s m args below meth c A ls C hr hlocks hml hnm w hl
  have hl : lv_has ls 5 [(0, .ref a0), (1, .int 0), (2, .int x1)] := hl
  refine lv_aload_n C.1 C.2.1 dX12_leftAt_0 rfl (lv_at hl 0 rfl) ?_
  refine lv_iconst (v := 0) C.1 C.2.1 dX12_leftAt_1 (by decide) ?_
  refine r_put C w 0 rfl rfl 5 (by decide) fl_RX12_71 rfl (ty := .int) (tyX12_ok 5 (by decide)) rfl rfl (Nat.le_of_ble_eq_true rfl) [(a0, .inr (12, [.ref a1, .ref a2, .ref a3, .ref a4, .ref a5, .int 0, .ref a6, .int 0, .int 0, .int 0, .int 0, .int 0, .int 0, .int 0, .int 0, .int 0, .int 0, .int (-1), .ref a7, .ref a8, .int 0, .ref a9, .int 0, .ref a10, .ref a11, .ref a12, .ref a13, .ref a14, .int 0, .ref a15, .ref a16, .ref a17])), (a1, .inl (cy 1, 1868, .inl (upd (upd (upd (fun _ => 0) 1 2) 2 20) 3 120))), (a7, .inl (cy 1, 1830, .inl (fun _ => 0))), (a8, .inl (cy 1, 1830, .inl (fun _ => 0))), (a9, .inl (cy 2, 2465, .inr (.inl (fun _ => 0))))] rfl dX12_leftAt_2 (fun H locs w => ?_)
  refine lv_aload_n C.1 C.2.1 dX12_leftAt_5 rfl (lv_at hl 0 rfl) ?_
  refine lv_iload_n C.1 C.2.1 dX12_leftAt_6 rfl (lv_at hl 1 rfl) ?_
  refine r_callV C w fv_RX12_342 (c_X12_isBehind_7 l D cy a0 a1 a2 a3 a4 a5 a6 a7 a8 a9 a10 a11 a12 a13 a14 a15 a16 a17) (hl.1.trans hml.symm) [0, 1] [2, 3, 4] (wr := [(a7, .inl (cy 1, 1830, .inl (fun _ => 0))), (a8, .inl (cy 1, 1830, .inl (fun _ => 0))), (a9, .inl (cy 2, 2465, .inr (.inl (fun _ => 0))))]) ⟨rfl, rfl, rfl, rfl, by decide⟩ 0 rfl rfl rfl rfl rfl ⟨Nat.le_of_ble_eq_true rfl, Nat.le_of_ble_eq_true rfl, Nat.le_of_ble_eq_true rfl⟩ 0 0 ⟨rfl, rfl, Nat.le_of_ble_eq_true rfl, Nat.le_of_ble_eq_true rfl⟩ dX12_leftAt_7 (fun u H locs hp w => ?_)
  have w : Wd D A s.heap [(a7, .inl (cy 1, 1830, .inl (fun _ => 0))), (a8, .inl (cy 1, 1830, .inl (fun _ => 0))), (a9, .inl (cy 2, 2465, .inr (.inl (fun _ => 0)))), (a0, .inr (12, [.ref a1, .ref a2, .ref a3, .ref a4, .ref a5, .int 0, .ref a6, .int 0, .int 0, .int 0, .int 0, .int 0, .int 0, .int 0, .int 0, .int 0, .int 0, .int (-1), .ref a7, .ref a8, .int 0, .ref a9, .int 0, .ref a10, .ref a11, .ref a12, .ref a13, .ref a14, .int 0, .ref a15, .ref a16, .ref a17])), (a1, .inl (cy 1, 1868, .inl (upd (upd (upd (fun _ => 0) 1 2) 2 20) 3 120)))] _ _ := w
  refine r_top (g2 := F0 m 10 ls [.int 1]) rfl ?_
  refine b_if_ne_t C (tgt := 19) dX12_leftAt_10 (by decide) (by decide) ?_
  refine lv_aload_n C.1 C.2.1 dX12_leftAt_19 rfl (lv_at hl 0 rfl) ?_
  refine r_callV C w fv_RX12_330 (c_X12_lays_2 l D cy a0 a1 a2 a3 a4 a5 a6 a7 a8 a9 a10 a11 a12 a13 a14 a15 a16 a17) (hl.1.trans hml.symm) [3, 4, 0, 1, 2] [] (wr := []) ⟨rfl, rfl, rfl, rfl, by decide⟩ 0 rfl rfl rfl rfl rfl ⟨Nat.le_of_ble_eq_true rfl, Nat.le_of_ble_eq_true rfl, Nat.le_of_ble_eq_true rfl⟩ 0 0 ⟨rfl, rfl, Nat.le_of_ble_eq_true rfl, Nat.le_of_ble_eq_true rfl⟩ dX12_leftAt_20 (fun u H locs hp w => ?_)
  have w : Wd D A s.heap [(a1, .inl (cy 1, 1868, .inl (upd (upd (upd (fun _ => 0) 1 2) 2 20) 3 120))), (a7, .inl (cy 1, 1830, .inl (lxF (fun _ => 0) 2 20 (PP 20 2 (20 + 1 - 2))))), (a8, .inl (cy 1, 1830, .inl (lyF (fun _ => 0) 2 20 (PP 20 2 (20 + 1 - 2))))), (a0, .inr (12, [.ref a1, .ref a2, .ref a3, .ref a4, .ref a5, .int 0, .ref a6, .int 0, .int 0, .int 0, .int 0, .int 0, .int 0, .int 0, .int 0, .int 0, .int 0, .int (-1), .ref a7, .ref a8, .int 190, .ref a9, .int 21, .ref a10, .ref a11, .ref a12, .ref a13, .ref a14, .int 0, .ref a15, .ref a16, .ref a17])), (a9, .inl (cy 2, 2465, .inr (.inl (rwF (fun _ => 0) (PP 20 2 (20 + 1 - 2))))))] _ _ := w
  refine r_top (g2 := F0 m 23 ls []) rfl ?_
  refine lv_iload_n C.1 C.2.1 dX12_leftAt_23 rfl (lv_at hl 2 rfl) ?_
  refine lv_istore_n (lv' := [(3, .int x1), (0, .ref a0), (1, .int 0), (2, .int x1)]) C.1 C.2.1 dX12_leftAt_24 rfl hl (by decide) rfl (fun ls hl => ?_)
  refine lv_iconst (v := 0) C.1 C.2.1 dX12_leftAt_25 (by decide) ?_
  refine lv_istore (lv' := [(4, .int 0), (3, .int x1), (0, .ref a0), (1, .int 0), (2, .int x1)]) C.1 C.2.1 dX12_leftAt_26 hl (by decide) rfl (fun ls hl => ?_)
  refine lp_X12_leftAt_1 a1 a7 a8 a0 a2 a3 a4 a5 a6 a9 a10 a11 a12 a13 a14 a15 a16 a17 x1 (Or.inr k1) C hml (Nat.le_of_ble_eq_true rfl) (Nat.le_of_ble_eq_true rfl) ⟨Nat.le_of_ble_eq_true rfl, Nat.le_of_ble_eq_true rfl⟩ (w.re rfl) (lv_sub hl [2, 3, 4, 1, 0] rfl) (fun H locs ls w hl => ?_)
  have w : Wd D A s.heap [(a1, .inl (cy 1, 1868, .inl (upd (upd (upd (fun _ => 0) 1 2) 2 20) 3 120))), (a7, .inl (cy 1, 1830, .inl (lxF (fun _ => 0) 2 20 (PP 20 2 (20 + 1 - 2))))), (a8, .inl (cy 1, 1830, .inl (lyF (fun _ => 0) 2 20 (PP 20 2 (20 + 1 - 2))))), (a0, .inr (12, [.ref a1, .ref a2, .ref a3, .ref a4, .ref a5, .int 0, .ref a6, .int 0, .int 0, .int 0, .int 0, .int 0, .int 0, .int 0, .int 0, .int 0, .int 0, .int (-1), .ref a7, .ref a8, .int 190, .ref a9, .int 21, .ref a10, .ref a11, .ref a12, .ref a13, .ref a14, .int 0, .ref a15, .ref a16, .ref a17])), (a9, .inl (cy 2, 2465, .inr (.inl (rwF (fun _ => 0) (PP 20 2 (20 + 1 - 2))))))] _ _ := w
  refine lv_iconst (v := (-1)) C.1 C.2.1 dX12_leftAt_66 (by decide) ?_
  exact r_iret C w hlocks () hr rfl rfl trivial [0, 1, 2, 3, 4] rfl rfl ⟨Nat.le_of_ble_eq_true rfl, Nat.le_of_ble_eq_true rfl⟩ dX12_leftAt_67
theorem dX12_pair_0 : decode cX12_pair 0 = .ok (.aload_n 0, 1) := by decide +kernel
theorem dX12_pair_1 : decode cX12_pair 1 = .ok (.iconst 0, 1) := by decide +kernel
theorem dX12_pair_2 : decode cX12_pair 2 = .ok (.putfield 71, 3) := by decide +kernel
theorem dX12_pair_5 : decode cX12_pair 5 = .ok (.aload_n 0, 1) := by decide +kernel
theorem dX12_pair_6 : decode cX12_pair 6 = .ok (.invokevirtual 253, 3) := by decide +kernel
theorem dX12_pair_9 : decode cX12_pair 9 = .ok (.iconst 0, 1) := by decide +kernel
theorem dX12_pair_10 : decode cX12_pair 10 = .ok (.istore_n 3, 1) := by decide +kernel
theorem dX12_pair_55 : decode cX12_pair 55 = .ok (.iconst (-1), 1) := by decide +kernel
theorem dX12_pair_11 : decode cX12_pair 11 = .ok (.iload_n 3, 1) := by decide +kernel
theorem dX12_pair_12 : decode cX12_pair 12 = .ok (.aload_n 0, 1) := by decide +kernel
theorem dX12_pair_13 : decode cX12_pair 13 = .ok (.getfield 250, 3) := by decide +kernel
theorem dX12_pair_16 : decode cX12_pair 16 = .ok (.if_icmp .ge 39, 3) := by decide +kernel
theorem dX12_pair_19 : decode cX12_pair 19 = .ok (.aload_n 0, 1) := by decide +kernel
theorem dX12_pair_20 : decode cX12_pair 20 = .ok (.getfield 33, 3) := by decide +kernel
theorem dX12_pair_23 : decode cX12_pair 23 = .ok (.iload_n 3, 1) := by decide +kernel
theorem dX12_pair_24 : decode cX12_pair 24 = .ok (.iaload, 1) := by decide +kernel
theorem dX12_pair_25 : decode cX12_pair 25 = .ok (.iload_n 1, 1) := by decide +kernel
theorem dX12_pair_26 : decode cX12_pair 26 = .ok (.iload_n 2, 1) := by decide +kernel
theorem ml_RX12_259 : Cond.methodLink RX12 259 Lib.Math.min.name ∈ gw := gw_mem (by decide +kernel) (by decide +kernel)
theorem dX12_pair_27 : decode cX12_pair 27 = .ok (.invokestatic 259, 3) := by decide +kernel
theorem dX12_pair_30 : decode cX12_pair 30 = .ok (.if_icmp .ne 19, 3) := by decide +kernel
theorem dX12_pair_49 : decode cX12_pair 49 = .ok (.iinc 3 1, 3) := by decide +kernel
theorem dX12_pair_52 : decode cX12_pair 52 = .ok (.goto (-41), 3) := by decide +kernel
theorem dX12_pair_33 : decode cX12_pair 33 = .ok (.aload_n 0, 1) := by decide +kernel
theorem dX12_pair_34 : decode cX12_pair 34 = .ok (.getfield 36, 3) := by decide +kernel
theorem dX12_pair_37 : decode cX12_pair 37 = .ok (.iload_n 3, 1) := by decide +kernel
theorem dX12_pair_38 : decode cX12_pair 38 = .ok (.iaload, 1) := by decide +kernel
theorem dX12_pair_39 : decode cX12_pair 39 = .ok (.iload_n 1, 1) := by decide +kernel
theorem dX12_pair_40 : decode cX12_pair 40 = .ok (.iload_n 2, 1) := by decide +kernel
theorem ml_RX12_264 : Cond.methodLink RX12 264 Lib.Math.max.name ∈ gw := gw_mem (by decide +kernel) (by decide +kernel)
theorem dX12_pair_41 : decode cX12_pair 41 = .ok (.invokestatic 264, 3) := by decide +kernel
theorem dX12_pair_44 : decode cX12_pair 44 = .ok (.if_icmp .ne 5, 3) := by decide +kernel
set_option maxRecDepth 100000 in
set_option maxHeartbeats 4000000 in
theorem lp_X12_pair_1 {p : Program} {l : Launch} {e : Env} {R : Room} {s : State} {m : MethodId} {args : Array Value} {below : List Frame} {meth : Method} {c : Code} {cells slots : Nat} {Q : State → Prop} {D : va_G} {cy : Nat → ClassId} {A : Nat → Prop} {H : Heap} {locs : List Loc} {ls : Array Slot} (a0 a1 a2 a3 a4 a5 a6 a7 a8 a9 a10 a11 a12 a13 a14 a15 a16 a17 : Nat) (av bv x y : Int32) (hmin : (if bv < av then bv else av) = x) (hmax : (if av < bv then bv else av) = y) (h1 : x < 2 ∨ 20 < y) (C : Cx p s m args c cX12_pair RX12 D cy A) (hml : c.maxLocals = 4) (hfr : 1 ≤ R.frames) (hlo : 30 ≤ R.locals) (hcs : cells ≤ R.cells ∧ slots ≤ R.slots) (w : Wd D A s.heap [(a0, .inr (12, [.ref a1, .ref a2, .ref a3, .ref a4, .ref a5, .int 0, .ref a6, .int 0, .int 0, .int 0, .int 0, .int 0, .int 0, .int 0, .int 0, .int 0, .int 0, .int (-1), .ref a7, .ref a8, .int 190, .ref a9, .int 0, .ref a10, .ref a11, .ref a12, .ref a13, .ref a14, .int 0, .ref a15, .ref a16, .ref a17])), (a1, .inl (cy 1, 1868, .inl (upd (upd (upd (fun _ => 0) 1 2) 2 20) 3 120))), (a7, .inl (cy 1, 1830, .inl (lxF (fun _ => 0) 2 20 (PP 20 2 (20 + 1 - 2))))), (a8, .inl (cy 1, 1830, .inl (lyF (fun _ => 0) 2 20 (PP 20 2 (20 + 1 - 2)))))] H locs) (hl : lv_has ls 4 [(0, .ref a0), (1, .int av), (2, .int bv), (3, .int 0)])
    (kk : ∀ (H : Heap) (locs : List Loc) (ls : Array Slot), Wd D A s.heap [(a0, .inr (12, [.ref a1, .ref a2, .ref a3, .ref a4, .ref a5, .int 0, .ref a6, .int 0, .int 0, .int 0, .int 0, .int 0, .int 0, .int 0, .int 0, .int 0, .int 0, .int (-1), .ref a7, .ref a8, .int 190, .ref a9, .int 0, .ref a10, .ref a11, .ref a12, .ref a13, .ref a14, .int 0, .ref a15, .ref a16, .ref a17])), (a1, .inl (cy 1, 1868, .inl (upd (upd (upd (fun _ => 0) 1 2) 2 20) 3 120))), (a7, .inl (cy 1, 1830, .inl (lxF (fun _ => 0) 2 20 (PP 20 2 (20 + 1 - 2))))), (a8, .inl (cy 1, 1830, .inl (lyF (fun _ => 0) 2 20 (PP 20 2 (20 + 1 - 2)))))] H locs → lv_has ls 4 [] → W p l e R s m args below meth c H locs cells slots Q (F0 m 55 ls [])) : W p l e R s m args below meth c H locs cells slots Q (F0 m 11 ls []) := by
  have hno := pair_no h1
  have lp : ∀ (k n : Nat) (wv : Int32) (H : Heap) (locs : List Loc) (ls : Array Slot), n + k = 190 → wv = nI n → Wd D A s.heap [(a0, .inr (12, [.ref a1, .ref a2, .ref a3, .ref a4, .ref a5, .int 0, .ref a6, .int 0, .int 0, .int 0, .int 0, .int 0, .int 0, .int 0, .int 0, .int 0, .int 0, .int (-1), .ref a7, .ref a8, .int 190, .ref a9, .int 0, .ref a10, .ref a11, .ref a12, .ref a13, .ref a14, .int 0, .ref a15, .ref a16, .ref a17])), (a1, .inl (cy 1, 1868, .inl (upd (upd (upd (fun _ => 0) 1 2) 2 20) 3 120))), (a7, .inl (cy 1, 1830, .inl (lxF (fun _ => 0) 2 20 (PP 20 2 (20 + 1 - 2))))), (a8, .inl (cy 1, 1830, .inl (lyF (fun _ => 0) 2 20 (PP 20 2 (20 + 1 - 2)))))] H locs → lv_has ls 4 [(0, .ref a0), (1, .int av), (2, .int bv), (3, .int wv)] → W p l e R s m args below meth c H locs cells slots Q (F0 m 11 ls []) := by
    intro k
    induction k with
    | zero =>
      intro n wv H locs ls h4 ei w hl
      have hx : n = 190 := by omega
      subst hx
      have c1 : (190 : Int32) ≤ wv := by rw [ei]; decide
      refine lv_iload_n C.1 C.2.1 dX12_pair_11 rfl (lv_at hl 3 rfl) ?_
      refine lv_aload_n C.1 C.2.1 dX12_pair_12 rfl (lv_at hl 0 rfl) ?_
      refine r_get C w 0 rfl rfl 20 (by decide) fl_RX12_250 (v := .int 190) rfl dX12_pair_13 ?_
      refine b_icmp_ge_t C (tgt := 55) dX12_pair_16 (by decide) c1 ?_
      exact kk _ _ _ w (lv_sub hl [] rfl)
    | succ k ih =>
      intro n wv H locs ls h4 ei w hl
      have hw0 : ¬ wv < 0 := by rw [ei]; exact nI_pos (by omega)
      have hw1 : wv < 190 := by rw [ei]; exact nI_lt (b := 190) (by omega) (by decide)
      have c1 : ¬ (190 : Int32) ≤ wv := by rw [ei]; exact nI_ge (b := 190) (by omega) (by decide)
      by_cases c2 : xW wv = x
      ·
        have c3 : ¬ yW wv = y := by
          intro q
          exact hno n (by omega) (by rw [← ei]; exact c2) (by rw [← ei]; exact q)
        refine lv_iload_n C.1 C.2.1 dX12_pair_11 rfl (lv_at hl 3 rfl) ?_
        refine lv_aload_n C.1 C.2.1 dX12_pair_12 rfl (lv_at hl 0 rfl) ?_
        refine r_get C w 0 rfl rfl 20 (by decide) fl_RX12_250 (v := .int 190) rfl dX12_pair_13 ?_
        refine b_icmp_ge_f C (tgt := 55) dX12_pair_16 (by decide) c1 ?_
        refine lv_aload_n C.1 C.2.1 dX12_pair_19 rfl (lv_at hl 0 rfl) ?_
        refine r_get C w 0 rfl rfl 18 (by decide) fl_RX12_33 (v := .ref a7) rfl dX12_pair_20 ?_
        refine lv_iload_n C.1 C.2.1 dX12_pair_23 rfl (lv_at hl 3 rfl) ?_
        refine r_iald C w 2 rfl (v := (xW wv)) (w_in hw0 hw1 (by decide)) (lxF_rd hw0 hw1) dX12_pair_24 ?_
        refine lv_iload_n C.1 C.2.1 dX12_pair_25 rfl (lv_at hl 1 rfl) ?_
        refine lv_iload_n C.1 C.2.1 dX12_pair_26 rfl (lv_at hl 2 rfl) ?_
        refine r_mmin C (hl.1.trans hml.symm) ml_RX12_259 st_min it_math cd_min (v := x) hmin ⟨by omega, by (simp [Value.category]; omega), hcs.1, hcs.2⟩ dX12_pair_27 ?_
        refine b_icmp_ne_f C (tgt := 49) dX12_pair_30 (by decide) c2 ?_
        refine lv_aload_n C.1 C.2.1 dX12_pair_33 rfl (lv_at hl 0 rfl) ?_
        refine r_get C w 0 rfl rfl 19 (by decide) fl_RX12_36 (v := .ref a8) rfl dX12_pair_34 ?_
        refine lv_iload_n C.1 C.2.1 dX12_pair_37 rfl (lv_at hl 3 rfl) ?_
        refine r_iald C w 3 rfl (v := (yW wv)) (w_in hw0 hw1 (by decide)) (lyF_rd hw0 hw1) dX12_pair_38 ?_
        refine lv_iload_n C.1 C.2.1 dX12_pair_39 rfl (lv_at hl 1 rfl) ?_
        refine lv_iload_n C.1 C.2.1 dX12_pair_40 rfl (lv_at hl 2 rfl) ?_
        refine r_mmax C (hl.1.trans hml.symm) ml_RX12_264 st_max it_math cd_max (v := y) hmax ⟨by omega, by (simp [Value.category]; omega), hcs.1, hcs.2⟩ dX12_pair_41 ?_
        refine b_icmp_ne_t C (tgt := 49) dX12_pair_44 (by decide) c3 ?_
        refine lv_iinc (v := (wv + 1)) (lv' := [(3, .int (wv + 1)), (0, .ref a0), (1, .int av), (2, .int bv)]) C.1 C.2.1 dX12_pair_49 hl (k := 3) rfl rfl (by decide) rfl (fun ls hl => ?_)
        refine lv_goto (tgt := 11) C.1 C.2.1 dX12_pair_52 (by decide) ?_
        exact ih (n + 1) (wv + 1) _ _ _ (by omega) (by rw [ei]; exact nI_1 _) w (lv_sub hl [1, 2, 3, 0] rfl)
      ·
        refine lv_iload_n C.1 C.2.1 dX12_pair_11 rfl (lv_at hl 3 rfl) ?_
        refine lv_aload_n C.1 C.2.1 dX12_pair_12 rfl (lv_at hl 0 rfl) ?_
        refine r_get C w 0 rfl rfl 20 (by decide) fl_RX12_250 (v := .int 190) rfl dX12_pair_13 ?_
        refine b_icmp_ge_f C (tgt := 55) dX12_pair_16 (by decide) c1 ?_
        refine lv_aload_n C.1 C.2.1 dX12_pair_19 rfl (lv_at hl 0 rfl) ?_
        refine r_get C w 0 rfl rfl 18 (by decide) fl_RX12_33 (v := .ref a7) rfl dX12_pair_20 ?_
        refine lv_iload_n C.1 C.2.1 dX12_pair_23 rfl (lv_at hl 3 rfl) ?_
        refine r_iald C w 2 rfl (v := (xW wv)) (w_in hw0 hw1 (by decide)) (lxF_rd hw0 hw1) dX12_pair_24 ?_
        refine lv_iload_n C.1 C.2.1 dX12_pair_25 rfl (lv_at hl 1 rfl) ?_
        refine lv_iload_n C.1 C.2.1 dX12_pair_26 rfl (lv_at hl 2 rfl) ?_
        refine r_mmin C (hl.1.trans hml.symm) ml_RX12_259 st_min it_math cd_min (v := x) hmin ⟨by omega, by (simp [Value.category]; omega), hcs.1, hcs.2⟩ dX12_pair_27 ?_
        refine b_icmp_ne_t C (tgt := 49) dX12_pair_30 (by decide) c2 ?_
        refine lv_iinc (v := (wv + 1)) (lv' := [(3, .int (wv + 1)), (0, .ref a0), (1, .int av), (2, .int bv)]) C.1 C.2.1 dX12_pair_49 hl (k := 3) rfl rfl (by decide) rfl (fun ls hl => ?_)
        refine lv_goto (tgt := 11) C.1 C.2.1 dX12_pair_52 (by decide) ?_
        exact ih (n + 1) (wv + 1) _ _ _ (by omega) (by rw [ei]; exact nI_1 _) w (lv_sub hl [1, 2, 3, 0] rfl)
  exact lp 190 0 0 _ _ _ (Nat.zero_add _) rfl w hl
theorem dX12_pair_56 : decode cX12_pair 56 = .ok (.ireturn, 1) := by decide +kernel
set_option maxRecDepth 100000 in
set_option maxHeartbeats 4000000 in
theorem c_X12_pair_0 (l : Launch) (D : va_G) (cy : Nat → ClassId) (a0 a1 a2 a3 a4 a5 a6 a7 a8 a9 a10 a11 a12 a13 a14 a15 a16 a17 : Nat) (x0 : Int32) (x1 : Int32) (k0 : x1 < x0) (k1 : x1 < 2) : Ct l D cy yX12_pair cX12_pair 4 (some .int) 1 30 0 0 [(a0, .inr (12, [.ref a1, .ref a2, .ref a3, .ref a4, .ref a5, .int 0, .ref a6, .int 0, .int 0, .int 0, .int 0, .int 0, .int 0, .int 0, .int 0, .int 0, .int 0, .int (-1), .ref a7, .ref a8, .int 0, .ref a9, .int 0, .ref a10, .ref a11, .ref a12, .ref a13, .ref a14, .int 0, .ref a15, .ref a16, .ref a17])), (a1, .inl (cy 1, 1868, .inl (upd (upd (upd (fun _ => 0) 1 2) 2 20) 3 120))), (a7, .inl (cy 1, 1830, .inl (fun _ => 0))), (a8, .inl (cy 1, 1830, .inl (fun _ => 0)))] [.ref a0, .int x0, .int x1] (fun u : Unit => some (.int (-1))) (fun _ => True) (fun u : Unit => [(a0, .inr (12, [.ref a1, .ref a2, .ref a3, .ref a4, .ref a5, .int 0, .ref a6, .int 0, .int 0, .int 0, .int 0, .int 0, .int 0, .int 0, .int 0, .int 0, .int 0, .int (-1), .ref a7, .ref a8, .int 190, .ref a9, .int 0, .ref a10, .ref a11, .ref a12, .ref a13, .ref a14, .int 0, .ref a15, .ref a16, .ref a17])), (a1, .inl (cy 1, 1868, .inl (upd (upd (upd (fun _ => 0) 1 2) 2 20) 3 120))), (a7, .inl (cy 1, 1830, .inl (lxF (fun _ => 0) 2 20 (PP 20 2 (20 + 1 - 2))))), (a8, .inl (cy 1, 1830, .inl (lyF (fun _ => 0) 2 20 (PP 20 2 (20 + 1 - 2)))))]) := by
  refine Ct.of (by decide +kernel) (Nat.le_of_ble_eq_true rfl) ?_
  intro p e s m args below meth c A ls C hr hlocks hml hnm w hl
  have hl : lv_has ls 4 [(0, .ref a0), (1, .int x0), (2, .int x1)] := hl
  refine lv_aload_n C.1 C.2.1 dX12_pair_0 rfl (lv_at hl 0 rfl) ?_
  refine lv_iconst (v := 0) C.1 C.2.1 dX12_pair_1 (by decide) ?_
  refine r_put C w 0 rfl rfl 5 (by decide) fl_RX12_71 rfl (ty := .int) (tyX12_ok 5 (by decide)) rfl rfl (Nat.le_of_ble_eq_true rfl) [(a0, .inr (12, [.ref a1, .ref a2, .ref a3, .ref a4, .ref a5, .int 0, .ref a6, .int 0, .int 0, .int 0, .int 0, .int 0, .int 0, .int 0, .int 0, .int 0, .int 0, .int (-1), .ref a7, .ref a8, .int 0, .ref a9, .int 0, .ref a10, .ref a11, .ref a12, .ref a13, .ref a14, .int 0, .ref a15, .ref a16, .ref a17])), (a1, .inl (cy 1, 1868, .inl (upd (upd (upd (fun _ => 0) 1 2) 2 20) 3 120))), (a7, .inl (cy 1, 1830, .inl (fun _ => 0))), (a8, .inl (cy 1, 1830, .inl (fun _ => 0)))] rfl dX12_pair_2 (fun H locs w => ?_)
  refine lv_aload_n C.1 C.2.1 dX12_pair_5 rfl (lv_at hl 0 rfl) ?_
  refine r_callV C w fv_RX12_253 (c_X12_layPairs_0 l D cy a0 a1 a2 a3 a4 a5 a6 a7 a8 a9 a10 a11 a12 a13 a14 a15 a16 a17) (hl.1.trans hml.symm) [0, 1, 2, 3] [] (wr := []) ⟨rfl, rfl, rfl, rfl, by decide⟩ 0 rfl rfl rfl rfl rfl ⟨Nat.le_of_ble_eq_true rfl, Nat.le_of_ble_eq_true rfl, Nat.le_of_ble_eq_true rfl⟩ 0 0 ⟨rfl, rfl, Nat.le_of_ble_eq_true rfl, Nat.le_of_ble_eq_true rfl⟩ dX12_pair_6 (fun u H locs hp w => ?_)
  have w : Wd D A s.heap [(a0, .inr (12, [.ref a1, .ref a2, .ref a3, .ref a4, .ref a5, .int 0, .ref a6, .int 0, .int 0, .int 0, .int 0, .int 0, .int 0, .int 0, .int 0, .int 0, .int 0, .int (-1), .ref a7, .ref a8, .int 190, .ref a9, .int 0, .ref a10, .ref a11, .ref a12, .ref a13, .ref a14, .int 0, .ref a15, .ref a16, .ref a17])), (a1, .inl (cy 1, 1868, .inl (upd (upd (upd (fun _ => 0) 1 2) 2 20) 3 120))), (a7, .inl (cy 1, 1830, .inl (lxF (fun _ => 0) 2 20 (PP 20 2 (20 + 1 - 2))))), (a8, .inl (cy 1, 1830, .inl (lyF (fun _ => 0) 2 20 (PP 20 2 (20 + 1 - 2)))))] _ _ := w
  refine r_top (g2 := F0 m 9 ls []) rfl ?_
  refine lv_iconst (v := 0) C.1 C.2.1 dX12_pair_9 (by decide) ?_
  refine lv_istore_n (lv' := [(3, .int 0), (0, .ref a0), (1, .int x0), (2, .int x1)]) C.1 C.2.1 dX12_pair_10 rfl hl (by decide) rfl (fun ls hl => ?_)
  refine lp_X12_pair_1 a0 a1 a2 a3 a4 a5 a6 a7 a8 a9 a10 a11 a12 a13 a14 a15 a16 a17 x0 x1 x1 x0 (if_pos k0) (if_neg (Int32.lt_asymm k0)) (Or.inl k1) C hml (Nat.le_of_ble_eq_true rfl) (Nat.le_of_ble_eq_true rfl) ⟨Nat.le_of_ble_eq_true rfl, Nat.le_of_ble_eq_true rfl⟩ (w.re rfl) (lv_sub hl [1, 2, 3, 0] rfl) (fun H locs ls w hl => ?_)
  have w : Wd D A s.heap [(a0, .inr (12, [.ref a1, .ref a2, .ref a3, .ref a4, .ref a5, .int 0, .ref a6, .int 0, .int 0, .int 0, .int 0, .int 0, .int 0, .int 0, .int 0, .int 0, .int 0, .int (-1), .ref a7, .ref a8, .int 190, .ref a9, .int 0, .ref a10, .ref a11, .ref a12, .ref a13, .ref a14, .int 0, .ref a15, .ref a16, .ref a17])), (a1, .inl (cy 1, 1868, .inl (upd (upd (upd (fun _ => 0) 1 2) 2 20) 3 120))), (a7, .inl (cy 1, 1830, .inl (lxF (fun _ => 0) 2 20 (PP 20 2 (20 + 1 - 2))))), (a8, .inl (cy 1, 1830, .inl (lyF (fun _ => 0) 2 20 (PP 20 2 (20 + 1 - 2)))))] _ _ := w
  refine lv_iconst (v := (-1)) C.1 C.2.1 dX12_pair_55 (by decide) ?_
  exact r_iret C w hlocks () hr rfl rfl trivial [0, 1, 2, 3] rfl rfl ⟨Nat.le_of_ble_eq_true rfl, Nat.le_of_ble_eq_true rfl⟩ dX12_pair_56
set_option maxRecDepth 100000 in
set_option maxHeartbeats 4000000 in
theorem c_X12_pair_1 (l : Launch) (D : va_G) (cy : Nat → ClassId) (a0 a1 a2 a3 a4 a5 a6 a7 a8 a9 a10 a11 a12 a13 a14 a15 a16 a17 : Nat) (x0 : Int32) (x1 : Int32) (k0 : x1 < x0) (k1 : ¬ x1 < 2) (k2 : 20 < x0) : Ct l D cy yX12_pair cX12_pair 4 (some .int) 1 30 0 0 [(a0, .inr (12, [.ref a1, .ref a2, .ref a3, .ref a4, .ref a5, .int 0, .ref a6, .int 0, .int 0, .int 0, .int 0, .int 0, .int 0, .int 0, .int 0, .int 0, .int 0, .int (-1), .ref a7, .ref a8, .int 0, .ref a9, .int 0, .ref a10, .ref a11, .ref a12, .ref a13, .ref a14, .int 0, .ref a15, .ref a16, .ref a17])), (a1, .inl (cy 1, 1868, .inl (upd (upd (upd (fun _ => 0) 1 2) 2 20) 3 120))), (a7, .inl (cy 1, 1830, .inl (fun _ => 0))), (a8, .inl (cy 1, 1830, .inl (fun _ => 0)))] [.ref a0, .int x0, .int x1] (fun u : Unit => some (.int (-1))) (fun _ => True) (fun u : Unit => [(a0, .inr (12, [.ref a1, .ref a2, .ref a3, .ref a4, .ref a5, .int 0, .ref a6, .int 0, .int 0, .int 0, .int 0, .int 0, .int 0, .int 0, .int 0, .int 0, .int 0, .int (-1), .ref a7, .ref a8, .int 190, .ref a9, .int 0, .ref a10, .ref a11, .ref a12, .ref a13, .ref a14, .int 0, .ref a15, .ref a16, .ref a17])), (a1, .inl (cy 1, 1868, .inl (upd (upd (upd (fun _ => 0) 1 2) 2 20) 3 120))), (a7, .inl (cy 1, 1830, .inl (lxF (fun _ => 0) 2 20 (PP 20 2 (20 + 1 - 2))))), (a8, .inl (cy 1, 1830, .inl (lyF (fun _ => 0) 2 20 (PP 20 2 (20 + 1 - 2)))))]) := by
  refine Ct.of (by decide +kernel) (Nat.le_of_ble_eq_true rfl) ?_
  intro p e s m args below meth c A ls C hr hlocks hml hnm w hl
  have hl : lv_has ls 4 [(0, .ref a0), (1, .int x0), (2, .int x1)] := hl
  refine lv_aload_n C.1 C.2.1 dX12_pair_0 rfl (lv_at hl 0 rfl) ?_
  refine lv_iconst (v := 0) C.1 C.2.1 dX12_pair_1 (by decide) ?_
  refine r_put C w 0 rfl rfl 5 (by decide) fl_RX12_71 rfl (ty := .int) (tyX12_ok 5 (by decide)) rfl rfl (Nat.le_of_ble_eq_true rfl) [(a0, .inr (12, [.ref a1, .ref a2, .ref a3, .ref a4, .ref a5, .int 0, .ref a6, .int 0, .int 0, .int 0, .int 0, .int 0, .int 0, .int 0, .int 0, .int 0, .int 0, .int (-1), .ref a7, .ref a8, .int 0, .ref a9, .int 0, .ref a10, .ref a11, .ref a12, .ref a13, .ref a14, .int 0, .ref a15, .ref a16, .ref a17])), (a1, .inl (cy 1, 1868, .inl (upd (upd (upd (fun _ => 0) 1 2) 2 20) 3 120))), (a7, .inl (cy 1, 1830, .inl (fun _ => 0))), (a8, .inl (cy 1, 1830, .inl (fun _ => 0)))] rfl dX12_pair_2 (fun H locs w => ?_)
  refine lv_aload_n C.1 C.2.1 dX12_pair_5 rfl (lv_at hl 0 rfl) ?_
  refine r_callV C w fv_RX12_253 (c_X12_layPairs_0 l D cy a0 a1 a2 a3 a4 a5 a6 a7 a8 a9 a10 a11 a12 a13 a14 a15 a16 a17) (hl.1.trans hml.symm) [0, 1, 2, 3] [] (wr := []) ⟨rfl, rfl, rfl, rfl, by decide⟩ 0 rfl rfl rfl rfl rfl ⟨Nat.le_of_ble_eq_true rfl, Nat.le_of_ble_eq_true rfl, Nat.le_of_ble_eq_true rfl⟩ 0 0 ⟨rfl, rfl, Nat.le_of_ble_eq_true rfl, Nat.le_of_ble_eq_true rfl⟩ dX12_pair_6 (fun u H locs hp w => ?_)
  have w : Wd D A s.heap [(a0, .inr (12, [.ref a1, .ref a2, .ref a3, .ref a4, .ref a5, .int 0, .ref a6, .int 0, .int 0, .int 0, .int 0, .int 0, .int 0, .int 0, .int 0, .int 0, .int 0, .int (-1), .ref a7, .ref a8, .int 190, .ref a9, .int 0, .ref a10, .ref a11, .ref a12, .ref a13, .ref a14, .int 0, .ref a15, .ref a16, .ref a17])), (a1, .inl (cy 1, 1868, .inl (upd (upd (upd (fun _ => 0) 1 2) 2 20) 3 120))), (a7, .inl (cy 1, 1830, .inl (lxF (fun _ => 0) 2 20 (PP 20 2 (20 + 1 - 2))))), (a8, .inl (cy 1, 1830, .inl (lyF (fun _ => 0) 2 20 (PP 20 2 (20 + 1 - 2)))))] _ _ := w
  refine r_top (g2 := F0 m 9 ls []) rfl ?_
  refine lv_iconst (v := 0) C.1 C.2.1 dX12_pair_9 (by decide) ?_
  refine lv_istore_n (lv' := [(3, .int 0), (0, .ref a0), (1, .int x0), (2, .int x1)]) C.1 C.2.1 dX12_pair_10 rfl hl (by decide) rfl (fun ls hl => ?_)
  refine lp_X12_pair_1 a0 a1 a2 a3 a4 a5 a6 a7 a8 a9 a10 a11 a12 a13 a14 a15 a16 a17 x0 x1 x1 x0 (if_pos k0) (if_neg (Int32.lt_asymm k0)) (Or.inr k2) C hml (Nat.le_of_ble_eq_true rfl) (Nat.le_of_ble_eq_true rfl) ⟨Nat.le_of_ble_eq_true rfl, Nat.le_of_ble_eq_true rfl⟩ (w.re rfl) (lv_sub hl [1, 2, 3, 0] rfl) (fun H locs ls w hl => ?_)
  have w : Wd D A s.heap [(a0, .inr (12, [.ref a1, .ref a2, .ref a3, .ref a4, .ref a5, .int 0, .ref a6, .int 0, .int 0, .int 0, .int 0, .int 0, .int 0, .int 0, .int 0, .int 0, .int 0, .int (-1), .ref a7, .ref a8, .int 190, .ref a9, .int 0, .ref a10, .ref a11, .ref a12, .ref a13, .ref a14, .int 0, .ref a15, .ref a16, .ref a17])), (a1, .inl (cy 1, 1868, .inl (upd (upd (upd (fun _ => 0) 1 2) 2 20) 3 120))), (a7, .inl (cy 1, 1830, .inl (lxF (fun _ => 0) 2 20 (PP 20 2 (20 + 1 - 2))))), (a8, .inl (cy 1, 1830, .inl (lyF (fun _ => 0) 2 20 (PP 20 2 (20 + 1 - 2)))))] _ _ := w
  refine lv_iconst (v := (-1)) C.1 C.2.1 dX12_pair_55 (by decide) ?_
  exact r_iret C w hlocks () hr rfl rfl trivial [0, 1, 2, 3] rfl rfl ⟨Nat.le_of_ble_eq_true rfl, Nat.le_of_ble_eq_true rfl⟩ dX12_pair_56
theorem dX12_pair_47 : decode cX12_pair 47 = .ok (.iload_n 3, 1) := by decide +kernel
set_option maxRecDepth 100000 in
set_option maxHeartbeats 4000000 in
theorem lp_X12_pair_2 {p : Program} {l : Launch} {e : Env} {R : Room} {s : State} {m : MethodId} {args : Array Value} {below : List Frame} {meth : Method} {c : Code} {cells slots : Nat} {Q : State → Prop} {D : va_G} {cy : Nat → ClassId} {A : Nat → Prop} {H : Heap} {locs : List Loc} {ls : Array Slot} (a0 a1 a2 a3 a4 a5 a6 a7 a8 a9 a10 a11 a12 a13 a14 a15 a16 a17 : Nat) (av bv x y : Int32) (hmin : (if bv < av then bv else av) = x) (hmax : (if av < bv then bv else av) = y) (h1 : ¬ x < 2) (h2 : ¬ 20 < y) (h3 : ¬ y < x) (C : Cx p s m args c cX12_pair RX12 D cy A) (hml : c.maxLocals = 4) (hfr : 1 ≤ R.frames) (hlo : 30 ≤ R.locals) (hcs : cells ≤ R.cells ∧ slots ≤ R.slots) (w : Wd D A s.heap [(a0, .inr (12, [.ref a1, .ref a2, .ref a3, .ref a4, .ref a5, .int 0, .ref a6, .int 0, .int 0, .int 0, .int 0, .int 0, .int 0, .int 0, .int 0, .int 0, .int 0, .int (-1), .ref a7, .ref a8, .int 190, .ref a9, .int 0, .ref a10, .ref a11, .ref a12, .ref a13, .ref a14, .int 0, .ref a15, .ref a16, .ref a17])), (a1, .inl (cy 1, 1868, .inl (upd (upd (upd (fun _ => 0) 1 2) 2 20) 3 120))), (a7, .inl (cy 1, 1830, .inl (lxF (fun _ => 0) 2 20 (PP 20 2 (20 + 1 - 2))))), (a8, .inl (cy 1, 1830, .inl (lyF (fun _ => 0) 2 20 (PP 20 2 (20 + 1 - 2)))))] H locs) (hl : lv_has ls 4 [(0, .ref a0), (1, .int av), (2, .int bv), (3, .int 0)])
    (kk : ∀ (H : Heap) (locs : List Loc) (ls : Array Slot), Wd D A s.heap [(a0, .inr (12, [.ref a1, .ref a2, .ref a3, .ref a4, .ref a5, .int 0, .ref a6, .int 0, .int 0, .int 0, .int 0, .int 0, .int 0, .int 0, .int 0, .int 0, .int 0, .int (-1), .ref a7, .ref a8, .int 190, .ref a9, .int 0, .ref a10, .ref a11, .ref a12, .ref a13, .ref a14, .int 0, .ref a15, .ref a16, .ref a17])), (a1, .inl (cy 1, 1868, .inl (upd (upd (upd (fun _ => 0) 1 2) 2 20) 3 120))), (a7, .inl (cy 1, 1830, .inl (lxF (fun _ => 0) 2 20 (PP 20 2 (20 + 1 - 2))))), (a8, .inl (cy 1, 1830, .inl (lyF (fun _ => 0) 2 20 (PP 20 2 (20 + 1 - 2)))))] H locs → lv_has ls 4 [(3, .int (nI (PP 20 2 (x.toNatClampNeg - 2) + (y.toNatClampNeg - x.toNatClampNeg))))] → W p l e R s m args below meth c H locs cells slots Q (F0 m 47 ls [])) : W p l e R s m args below meth c H locs cells slots Q (F0 m 11 ls []) := by
  obtain ⟨N, hN, hN190, hxy⟩ := pair_at h1 h2 h3
  have lp : ∀ (k n : Nat) (wv : Int32) (H : Heap) (locs : List Loc) (ls : Array Slot), n + k = N → wv = nI n → Wd D A s.heap [(a0, .inr (12, [.ref a1, .ref a2, .ref a3, .ref a4, .ref a5, .int 0, .ref a6, .int 0, .int 0, .int 0, .int 0, .int 0, .int 0, .int 0, .int 0, .int 0, .int 0, .int (-1), .ref a7, .ref a8, .int 190, .ref a9, .int 0, .ref a10, .ref a11, .ref a12, .ref a13, .ref a14, .int 0, .ref a15, .ref a16, .ref a17])), (a1, .inl (cy 1, 1868, .inl (upd (upd (upd (fun _ => 0) 1 2) 2 20) 3 120))), (a7, .inl (cy 1, 1830, .inl (lxF (fun _ => 0) 2 20 (PP 20 2 (20 + 1 - 2))))), (a8, .inl (cy 1, 1830, .inl (lyF (fun _ => 0) 2 20 (PP 20 2 (20 + 1 - 2)))))] H locs → lv_has ls 4 [(0, .ref a0), (1, .int av), (2, .int bv), (3, .int wv)] → W p l e R s m args below meth c H locs cells slots Q (F0 m 11 ls []) := by
    intro k
    induction k with
    | zero =>
      intro n wv H locs ls h4 ei w hl
      have hx : n = N := by omega
      subst hx
      have hw0 : ¬ wv < 0 := by rw [ei]; exact nI_pos (by omega)
      have hw1 : wv < 190 := by rw [ei]; exact nI_lt (b := 190) (by omega) (by decide)
      have c1 : ¬ (190 : Int32) ≤ wv := by rw [ei]; exact nI_ge (b := 190) (by omega) (by decide)
      have c2 : xW wv = x := by rw [ei]; exact hxy.1
      have c3 : yW wv = y := by rw [ei]; exact hxy.2
      refine lv_iload_n C.1 C.2.1 dX12_pair_11 rfl (lv_at hl 3 rfl) ?_
      refine lv_aload_n C.1 C.2.1 dX12_pair_12 rfl (lv_at hl 0 rfl) ?_
      refine r_get C w 0 rfl rfl 20 (by decide) fl_RX12_250 (v := .int 190) rfl dX12_pair_13 ?_
      refine b_icmp_ge_f C (tgt := 55) dX12_pair_16 (by decide) c1 ?_
      refine lv_aload_n C.1 C.2.1 dX12_pair_19 rfl (lv_at hl 0 rfl) ?_
      refine r_get C w 0 rfl rfl 18 (by decide) fl_RX12_33 (v := .ref a7) rfl dX12_pair_20 ?_
      refine lv_iload_n C.1 C.2.1 dX12_pair_23 rfl (lv_at hl 3 rfl) ?_
      refine r_iald C w 2 rfl (v := (xW wv)) (w_in hw0 hw1 (by decide)) (lxF_rd hw0 hw1) dX12_pair_24 ?_
      refine lv_iload_n C.1 C.2.1 dX12_pair_25 rfl (lv_at hl 1 rfl) ?_
      refine lv_iload_n C.1 C.2.1 dX12_pair_26 rfl (lv_at hl 2 rfl) ?_
      refine r_mmin C (hl.1.trans hml.symm) ml_RX12_259 st_min it_math cd_min (v := x) hmin ⟨by omega, by (simp [Value.category]; omega), hcs.1, hcs.2⟩ dX12_pair_27 ?_
      refine b_icmp_ne_f C (tgt := 49) dX12_pair_30 (by decide) c2 ?_
      refine lv_aload_n C.1 C.2.1 dX12_pair_33 rfl (lv_at hl 0 rfl) ?_
      refine r_get C w 0 rfl rfl 19 (by decide) fl_RX12_36 (v := .ref a8) rfl dX12_pair_34 ?_
      refine lv_iload_n C.1 C.2.1 dX12_pair_37 rfl (lv_at hl 3 rfl) ?_
      refine r_iald C w 3 rfl (v := (yW wv)) (w_in hw0 hw1 (by decide)) (lyF_rd hw0 hw1) dX12_pair_38 ?_
      refine lv_iload_n C.1 C.2.1 dX12_pair_39 rfl (lv_at hl 1 rfl) ?_
      refine lv_iload_n C.1 C.2.1 dX12_pair_40 rfl (lv_at hl 2 rfl) ?_
      refine r_mmax C (hl.1.trans hml.symm) ml_RX12_264 st_max it_math cd_max (v := y) hmax ⟨by omega, by (simp [Value.category]; omega), hcs.1, hcs.2⟩ dX12_pair_41 ?_
      refine b_icmp_ne_f C (tgt := 49) dX12_pair_44 (by decide) c3 ?_
      have hl : lv_has ls 4 [(3, .int wv)] := (lv_sub hl [3] rfl)
      rw [ei, hN] at hl
      exact kk _ _ _ w hl
    | succ k ih =>
      intro n wv H locs ls h4 ei w hl
      have hw0 : ¬ wv < 0 := by rw [ei]; exact nI_pos (by omega)
      have hw1 : wv < 190 := by rw [ei]; exact nI_lt (b := 190) (by omega) (by decide)
      have c1 : ¬ (190 : Int32) ≤ wv := by rw [ei]; exact nI_ge (b := 190) (by omega) (by decide)
      by_cases c2 : xW wv = x
      ·
        have c3 : ¬ yW wv = y := by
          intro q
          have := pair_un hN190 hxy (n := n) (by omega) (by rw [← ei]; exact c2) (by rw [← ei]; exact q)
          omega
        refine lv_iload_n C.1 C.2.1 dX12_pair_11 rfl (lv_at hl 3 rfl) ?_
        refine lv_aload_n C.1 C.2.1 dX12_pair_12 rfl (lv_at hl 0 rfl) ?_
        refine r_get C w 0 rfl rfl 20 (by decide) fl_RX12_250 (v := .int 190) rfl dX12_pair_13 ?_
        refine b_icmp_ge_f C (tgt := 55) dX12_pair_16 (by decide) c1 ?_
        refine lv_aload_n C.1 C.2.1 dX12_pair_19 rfl (lv_at hl 0 rfl) ?_
        refine r_get C w 0 rfl rfl 18 (by decide) fl_RX12_33 (v := .ref a7) rfl dX12_pair_20 ?_
        refine lv_iload_n C.1 C.2.1 dX12_pair_23 rfl (lv_at hl 3 rfl) ?_
        refine r_iald C w 2 rfl (v := (xW wv)) (w_in hw0 hw1 (by decide)) (lxF_rd hw0 hw1) dX12_pair_24 ?_
        refine lv_iload_n C.1 C.2.1 dX12_pair_25 rfl (lv_at hl 1 rfl) ?_
        refine lv_iload_n C.1 C.2.1 dX12_pair_26 rfl (lv_at hl 2 rfl) ?_
        refine r_mmin C (hl.1.trans hml.symm) ml_RX12_259 st_min it_math cd_min (v := x) hmin ⟨by omega, by (simp [Value.category]; omega), hcs.1, hcs.2⟩ dX12_pair_27 ?_
        refine b_icmp_ne_f C (tgt := 49) dX12_pair_30 (by decide) c2 ?_
        refine lv_aload_n C.1 C.2.1 dX12_pair_33 rfl (lv_at hl 0 rfl) ?_
        refine r_get C w 0 rfl rfl 19 (by decide) fl_RX12_36 (v := .ref a8) rfl dX12_pair_34 ?_
        refine lv_iload_n C.1 C.2.1 dX12_pair_37 rfl (lv_at hl 3 rfl) ?_
        refine r_iald C w 3 rfl (v := (yW wv)) (w_in hw0 hw1 (by decide)) (lyF_rd hw0 hw1) dX12_pair_38 ?_
        refine lv_iload_n C.1 C.2.1 dX12_pair_39 rfl (lv_at hl 1 rfl) ?_
        refine lv_iload_n C.1 C.2.1 dX12_pair_40 rfl (lv_at hl 2 rfl) ?_
        refine r_mmax C (hl.1.trans hml.symm) ml_RX12_264 st_max it_math cd_max (v := y) hmax ⟨by omega, by (simp [Value.category]; omega), hcs.1, hcs.2⟩ dX12_pair_41 ?_
        refine b_icmp_ne_t C (tgt := 49) dX12_pair_44 (by decide) c3 ?_
        refine lv_iinc (v := (wv + 1)) (lv' := [(3, .int (wv + 1)), (0, .ref a0), (1, .int av), (2, .int bv)]) C.1 C.2.1 dX12_pair_49 hl (k := 3) rfl rfl (by decide) rfl (fun ls hl => ?_)
        refine lv_goto (tgt := 11) C.1 C.2.1 dX12_pair_52 (by decide) ?_
        exact ih (n + 1) (wv + 1) _ _ _ (by omega) (by rw [ei]; exact nI_1 _) w (lv_sub hl [1, 2, 3, 0] rfl)
      ·
        refine lv_iload_n C.1 C.2.1 dX12_pair_11 rfl (lv_at hl 3 rfl) ?_
        refine lv_aload_n C.1 C.2.1 dX12_pair_12 rfl (lv_at hl 0 rfl) ?_
        refine r_get C w 0 rfl rfl 20 (by decide) fl_RX12_250 (v := .int 190) rfl dX12_pair_13 ?_
        refine b_icmp_ge_f C (tgt := 55) dX12_pair_16 (by decide) c1 ?_
        refine lv_aload_n C.1 C.2.1 dX12_pair_19 rfl (lv_at hl 0 rfl) ?_
        refine r_get C w 0 rfl rfl 18 (by decide) fl_RX12_33 (v := .ref a7) rfl dX12_pair_20 ?_
        refine lv_iload_n C.1 C.2.1 dX12_pair_23 rfl (lv_at hl 3 rfl) ?_
        refine r_iald C w 2 rfl (v := (xW wv)) (w_in hw0 hw1 (by decide)) (lxF_rd hw0 hw1) dX12_pair_24 ?_
        refine lv_iload_n C.1 C.2.1 dX12_pair_25 rfl (lv_at hl 1 rfl) ?_
        refine lv_iload_n C.1 C.2.1 dX12_pair_26 rfl (lv_at hl 2 rfl) ?_
        refine r_mmin C (hl.1.trans hml.symm) ml_RX12_259 st_min it_math cd_min (v := x) hmin ⟨by omega, by (simp [Value.category]; omega), hcs.1, hcs.2⟩ dX12_pair_27 ?_
        refine b_icmp_ne_t C (tgt := 49) dX12_pair_30 (by decide) c2 ?_
        refine lv_iinc (v := (wv + 1)) (lv' := [(3, .int (wv + 1)), (0, .ref a0), (1, .int av), (2, .int bv)]) C.1 C.2.1 dX12_pair_49 hl (k := 3) rfl rfl (by decide) rfl (fun ls hl => ?_)
        refine lv_goto (tgt := 11) C.1 C.2.1 dX12_pair_52 (by decide) ?_
        exact ih (n + 1) (wv + 1) _ _ _ (by omega) (by rw [ei]; exact nI_1 _) w (lv_sub hl [1, 2, 3, 0] rfl)
  exact lp N 0 0 _ _ _ (Nat.zero_add _) rfl w hl
theorem dX12_pair_48 : decode cX12_pair 48 = .ok (.ireturn, 1) := by decide +kernel
set_option maxRecDepth 100000 in
set_option maxHeartbeats 4000000 in
theorem c_X12_pair_2 (l : Launch) (D : va_G) (cy : Nat → ClassId) (a0 a1 a2 a3 a4 a5 a6 a7 a8 a9 a10 a11 a12 a13 a14 a15 a16 a17 : Nat) (x0 : Int32) (x1 : Int32) (k0 : x1 < x0) (k1 : ¬ x1 < 2) (k2 : ¬ 20 < x0) : Ct l D cy yX12_pair cX12_pair 4 (some .int) 1 30 0 0 [(a0, .inr (12, [.ref a1, .ref a2, .ref a3, .ref a4, .ref a5, .int 0, .ref a6, .int 0, .int 0, .int 0, .int 0, .int 0, .int 0, .int 0, .int 0, .int 0, .int 0, .int (-1), .ref a7, .ref a8, .int 0, .ref a9, .int 0, .ref a10, .ref a11, .ref a12, .ref a13, .ref a14, .int 0, .ref a15, .ref a16, .ref a17])), (a1, .inl (cy 1, 1868, .inl (upd (upd (upd (fun _ => 0) 1 2) 2 20) 3 120))), (a7, .inl (cy 1, 1830, .inl (fun _ => 0))), (a8, .inl (cy 1, 1830, .inl (fun _ => 0)))] [.ref a0, .int x0, .int x1] (fun u : Unit => some (.int (nI (PP 20 2 ((x1).toNatClampNeg - 2) + ((x0).toNatClampNeg - (x1).toNatClampNeg))))) (fun _ => True) (fun u : Unit => [(a0, .inr (12, [.ref a1, .ref a2, .ref a3, .ref a4, .ref a5, .int 0, .ref a6, .int 0, .int 0, .int 0, .int 0, .int 0, .int 0, .int 0, .int 0, .int 0, .int 0, .int (-1), .ref a7, .ref a8, .int 190, .ref a9, .int 0, .ref a10, .ref a11, .ref a12, .ref a13, .ref a14, .int 0, .ref a15, .ref a16, .ref a17])), (a1, .inl (cy 1, 1868, .inl (upd (upd (upd (fun _ => 0) 1 2) 2 20) 3 120))), (a7, .inl (cy 1, 1830, .inl (lxF (fun _ => 0) 2 20 (PP 20 2 (20 + 1 - 2))))), (a8, .inl (cy 1, 1830, .inl (lyF (fun _ => 0) 2 20 (PP 20 2 (20 + 1 - 2)))))]) := by
  refine Ct.of (by decide +kernel) (Nat.le_of_ble_eq_true rfl) ?_
  intro p e s m args below meth c A ls C hr hlocks hml hnm w hl
  have hl : lv_has ls 4 [(0, .ref a0), (1, .int x0), (2, .int x1)] := hl
  refine lv_aload_n C.1 C.2.1 dX12_pair_0 rfl (lv_at hl 0 rfl) ?_
  refine lv_iconst (v := 0) C.1 C.2.1 dX12_pair_1 (by decide) ?_
  refine r_put C w 0 rfl rfl 5 (by decide) fl_RX12_71 rfl (ty := .int) (tyX12_ok 5 (by decide)) rfl rfl (Nat.le_of_ble_eq_true rfl) [(a0, .inr (12, [.ref a1, .ref a2, .ref a3, .ref a4, .ref a5, .int 0, .ref a6, .int 0, .int 0, .int 0, .int 0, .int 0, .int 0, .int 0, .int 0, .int 0, .int 0, .int (-1), .ref a7, .ref a8, .int 0, .ref a9, .int 0, .ref a10, .ref a11, .ref a12, .ref a13, .ref a14, .int 0, .ref a15, .ref a16, .ref a17])), (a1, .inl (cy 1, 1868, .inl (upd (upd (upd (fun _ => 0) 1 2) 2 20) 3 120))), (a7, .inl (cy 1, 1830, .inl (fun _ => 0))), (a8, .inl (cy 1, 1830, .inl (fun _ => 0)))] rfl dX12_pair_2 (fun H locs w => ?_)
  refine lv_aload_n C.1 C.2.1 dX12_pair_5 rfl (lv_at hl 0 rfl) ?_
  refine r_callV C w fv_RX12_253 (c_X12_layPairs_0 l D cy a0 a1 a2 a3 a4 a5 a6 a7 a8 a9 a10 a11 a12 a13 a14 a15 a16 a17) (hl.1.trans hml.symm) [0, 1, 2, 3] [] (wr := []) ⟨rfl, rfl, rfl, rfl, by decide⟩ 0 rfl rfl rfl rfl rfl ⟨Nat.le_of_ble_eq_true rfl, Nat.le_of_ble_eq_true rfl, Nat.le_of_ble_eq_true rfl⟩ 0 0 ⟨rfl, rfl, Nat.le_of_ble_eq_true rfl, Nat.le_of_ble_eq_true rfl⟩ dX12_pair_6 (fun u H locs hp w => ?_)
  have w : Wd D A s.heap [(a0, .inr (12, [.ref a1, .ref a2, .ref a3, .ref a4, .ref a5, .int 0, .ref a6, .int 0, .int 0, .int 0, .int 0, .int 0, .int 0, .int 0, .int 0, .int 0, .int 0, .int (-1), .ref a7, .ref a8, .int 190, .ref a9, .int 0, .ref a10, .ref a11, .ref a12, .ref a13, .ref a14, .int 0, .ref a15, .ref a16, .ref a17])), (a1, .inl (cy 1, 1868, .inl (upd (upd (upd (fun _ => 0) 1 2) 2 20) 3 120))), (a7, .inl (cy 1, 1830, .inl (lxF (fun _ => 0) 2 20 (PP 20 2 (20 + 1 - 2))))), (a8, .inl (cy 1, 1830, .inl (lyF (fun _ => 0) 2 20 (PP 20 2 (20 + 1 - 2)))))] _ _ := w
  refine r_top (g2 := F0 m 9 ls []) rfl ?_
  refine lv_iconst (v := 0) C.1 C.2.1 dX12_pair_9 (by decide) ?_
  refine lv_istore_n (lv' := [(3, .int 0), (0, .ref a0), (1, .int x0), (2, .int x1)]) C.1 C.2.1 dX12_pair_10 rfl hl (by decide) rfl (fun ls hl => ?_)
  refine lp_X12_pair_2 a0 a1 a2 a3 a4 a5 a6 a7 a8 a9 a10 a11 a12 a13 a14 a15 a16 a17 x0 x1 x1 x0 (if_pos k0) (if_neg (Int32.lt_asymm k0)) k1 k2 (Int32.lt_asymm k0) C hml (Nat.le_of_ble_eq_true rfl) (Nat.le_of_ble_eq_true rfl) ⟨Nat.le_of_ble_eq_true rfl, Nat.le_of_ble_eq_true rfl⟩ (w.re rfl) (lv_sub hl [1, 2, 3, 0] rfl) (fun H locs ls w hl => ?_)
  have w : Wd D A s.heap [(a0, .inr (12, [.ref a1, .ref a2, .ref a3, .ref a4, .ref a5, .int 0, .ref a6, .int 0, .int 0, .int 0, .int 0, .int 0, .int 0, .int 0, .int 0, .int 0, .int 0, .int (-1), .ref a7, .ref a8, .int 190, .ref a9, .int 0, .ref a10, .ref a11, .ref a12, .ref a13, .ref a14, .int 0, .ref a15, .ref a16, .ref a17])), (a1, .inl (cy 1, 1868, .inl (upd (upd (upd (fun _ => 0) 1 2) 2 20) 3 120))), (a7, .inl (cy 1, 1830, .inl (lxF (fun _ => 0) 2 20 (PP 20 2 (20 + 1 - 2))))), (a8, .inl (cy 1, 1830, .inl (lyF (fun _ => 0) 2 20 (PP 20 2 (20 + 1 - 2)))))] _ _ := w
  refine lv_iload_n C.1 C.2.1 dX12_pair_47 rfl (lv_at hl 0 rfl) ?_
  exact r_iret C w hlocks () hr rfl rfl trivial [0, 1, 2, 3] rfl rfl ⟨Nat.le_of_ble_eq_true rfl, Nat.le_of_ble_eq_true rfl⟩ dX12_pair_48
set_option maxRecDepth 100000 in
set_option maxHeartbeats 4000000 in
theorem c_X12_pair_3 (l : Launch) (D : va_G) (cy : Nat → ClassId) (a0 a1 a2 a3 a4 a5 a6 a7 a8 a9 a10 a11 a12 a13 a14 a15 a16 a17 : Nat) (x0 : Int32) (x1 : Int32) (k0 : ¬ x1 < x0) (k1 : x0 < x1) (k2 : x0 < 2) : Ct l D cy yX12_pair cX12_pair 4 (some .int) 1 30 0 0 [(a0, .inr (12, [.ref a1, .ref a2, .ref a3, .ref a4, .ref a5, .int 0, .ref a6, .int 0, .int 0, .int 0, .int 0, .int 0, .int 0, .int 0, .int 0, .int 0, .int 0, .int (-1), .ref a7, .ref a8, .int 0, .ref a9, .int 0, .ref a10, .ref a11, .ref a12, .ref a13, .ref a14, .int 0, .ref a15, .ref a16, .ref a17])), (a1, .inl (cy 1, 1868, .inl (upd (upd (upd (fun _ => 0) 1 2) 2 20) 3 120))), (a7, .inl (cy 1, 1830, .inl (fun _ => 0))), (a8, .inl (cy 1, 1830, .inl (fun _ => 0)))] [.ref a0, .int x0, .int x1] (fun u : Unit => some (.int (-1))) (fun _ => True) (fun u : Unit => [(a0, .inr (12, [.ref a1, .ref a2, .ref a3, .ref a4, .ref a5, .int 0, .ref a6, .int 0, .int 0, .int 0, .int 0, .int 0, .int 0, .int 0, .int 0, .int 0, .int 0, .int (-1), .ref a7, .ref a8, .int 190, .ref a9, .int 0, .ref a10, .ref a11, .ref a12, .ref a13, .ref a14, .int 0, .ref a15, .ref a16, .ref a17])), (a1, .inl (cy 1, 1868, .inl (upd (upd (upd (fun _ => 0) 1 2) 2 20) 3 120))), (a7, .inl (cy 1, 1830, .inl (lxF (fun _ => 0) 2 20 (PP 20 2 (20 + 1 - 2))))), (a8, .inl (cy 1, 1830, .inl (lyF (fun _ => 0) 2 20 (PP 20 2 (20 + 1 - 2)))))]) := by
  refine Ct.of (by decide +kernel) (Nat.le_of_ble_eq_true rfl) ?_
  intro p e s m args below meth c A ls C hr hlocks hml hnm w hl
  have hl : lv_has ls 4 [(0, .ref a0), (1, .int x0), (2, .int x1)] := hl
  refine lv_aload_n C.1 C.2.1 dX12_pair_0 rfl (lv_at hl 0 rfl) ?_
  refine lv_iconst (v := 0) C.1 C.2.1 dX12_pair_1 (by decide) ?_
  refine r_put C w 0 rfl rfl 5 (by decide) fl_RX12_71 rfl (ty := .int) (tyX12_ok 5 (by decide)) rfl rfl (Nat.le_of_ble_eq_true rfl) [(a0, .inr (12, [.ref a1, .ref a2, .ref a3, .ref a4, .ref a5, .int 0, .ref a6, .int 0, .int 0, .int 0, .int 0, .int 0, .int 0, .int 0, .int 0, .int 0, .int 0, .int (-1), .ref a7, .ref a8, .int 0, .ref a9, .int 0, .ref a10, .ref a11, .ref a12, .ref a13, .ref a14, .int 0, .ref a15, .ref a16, .ref a17])), (a1, .inl (cy 1, 1868, .inl (upd (upd (upd (fun _ => 0) 1 2) 2 20) 3 120))), (a7, .inl (cy 1, 1830, .inl (fun _ => 0))), (a8, .inl (cy 1, 1830, .inl (fun _ => 0)))] rfl dX12_pair_2 (fun H locs w => ?_)
  refine lv_aload_n C.1 C.2.1 dX12_pair_5 rfl (lv_at hl 0 rfl) ?_
  refine r_callV C w fv_RX12_253 (c_X12_layPairs_0 l D cy a0 a1 a2 a3 a4 a5 a6 a7 a8 a9 a10 a11 a12 a13 a14 a15 a16 a17) (hl.1.trans hml.symm) [0, 1, 2, 3] [] (wr := []) ⟨rfl, rfl, rfl, rfl, by decide⟩ 0 rfl rfl rfl rfl rfl ⟨Nat.le_of_ble_eq_true rfl, Nat.le_of_ble_eq_true rfl, Nat.le_of_ble_eq_true rfl⟩ 0 0 ⟨rfl, rfl, Nat.le_of_ble_eq_true rfl, Nat.le_of_ble_eq_true rfl⟩ dX12_pair_6 (fun u H locs hp w => ?_)
  have w : Wd D A s.heap [(a0, .inr (12, [.ref a1, .ref a2, .ref a3, .ref a4, .ref a5, .int 0, .ref a6, .int 0, .int 0, .int 0, .int 0, .int 0, .int 0, .int 0, .int 0, .int 0, .int 0, .int (-1), .ref a7, .ref a8, .int 190, .ref a9, .int 0, .ref a10, .ref a11, .ref a12, .ref a13, .ref a14, .int 0, .ref a15, .ref a16, .ref a17])), (a1, .inl (cy 1, 1868, .inl (upd (upd (upd (fun _ => 0) 1 2) 2 20) 3 120))), (a7, .inl (cy 1, 1830, .inl (lxF (fun _ => 0) 2 20 (PP 20 2 (20 + 1 - 2))))), (a8, .inl (cy 1, 1830, .inl (lyF (fun _ => 0) 2 20 (PP 20 2 (20 + 1 - 2)))))] _ _ := w
  refine r_top (g2 := F0 m 9 ls []) rfl ?_
  refine lv_iconst (v := 0) C.1 C.2.1 dX12_pair_9 (by decide) ?_
  refine lv_istore_n (lv' := [(3, .int 0), (0, .ref a0), (1, .int x0), (2, .int x1)]) C.1 C.2.1 dX12_pair_10 rfl hl (by decide) rfl (fun ls hl => ?_)
  refine lp_X12_pair_1 a0 a1 a2 a3 a4 a5 a6 a7 a8 a9 a10 a11 a12 a13 a14 a15 a16 a17 x0 x1 x0 x1 (if_neg k0) (if_pos k1) (Or.inl k2) C hml (Nat.le_of_ble_eq_true rfl) (Nat.le_of_ble_eq_true rfl) ⟨Nat.le_of_ble_eq_true rfl, Nat.le_of_ble_eq_true rfl⟩ (w.re rfl) (lv_sub hl [1, 2, 3, 0] rfl) (fun H locs ls w hl => ?_)
  have w : Wd D A s.heap [(a0, .inr (12, [.ref a1, .ref a2, .ref a3, .ref a4, .ref a5, .int 0, .ref a6, .int 0, .int 0, .int 0, .int 0, .int 0, .int 0, .int 0, .int 0, .int 0, .int 0, .int (-1), .ref a7, .ref a8, .int 190, .ref a9, .int 0, .ref a10, .ref a11, .ref a12, .ref a13, .ref a14, .int 0, .ref a15, .ref a16, .ref a17])), (a1, .inl (cy 1, 1868, .inl (upd (upd (upd (fun _ => 0) 1 2) 2 20) 3 120))), (a7, .inl (cy 1, 1830, .inl (lxF (fun _ => 0) 2 20 (PP 20 2 (20 + 1 - 2))))), (a8, .inl (cy 1, 1830, .inl (lyF (fun _ => 0) 2 20 (PP 20 2 (20 + 1 - 2)))))] _ _ := w
  refine lv_iconst (v := (-1)) C.1 C.2.1 dX12_pair_55 (by decide) ?_
  exact r_iret C w hlocks () hr rfl rfl trivial [0, 1, 2, 3] rfl rfl ⟨Nat.le_of_ble_eq_true rfl, Nat.le_of_ble_eq_true rfl⟩ dX12_pair_56
set_option maxRecDepth 100000 in
set_option maxHeartbeats 4000000 in
theorem c_X12_pair_4 (l : Launch) (D : va_G) (cy : Nat → ClassId) (a0 a1 a2 a3 a4 a5 a6 a7 a8 a9 a10 a11 a12 a13 a14 a15 a16 a17 : Nat) (x0 : Int32) (x1 : Int32) (k0 : ¬ x1 < x0) (k1 : x0 < x1) (k2 : ¬ x0 < 2) (k3 : 20 < x1) : Ct l D cy yX12_pair cX12_pair 4 (some .int) 1 30 0 0 [(a0, .inr (12, [.ref a1, .ref a2, .ref a3, .ref a4, .ref a5, .int 0, .ref a6, .int 0, .int 0, .int 0, .int 0, .int 0, .int 0, .int 0, .int 0, .int 0, .int 0, .int (-1), .ref a7, .ref a8, .int 0, .ref a9, .int 0, .ref a10, .ref a11, .ref a12, .ref a13, .ref a14, .int 0, .ref a15, .ref a16, .ref a17])), (a1, .inl (cy 1, 1868, .inl (upd (upd (upd (fun _ => 0) 1 2) 2 20) 3 120))), (a7, .inl (cy 1, 1830, .inl (fun _ => 0))), (a8, .inl (cy 1, 1830, .inl (fun _ => 0)))] [.ref a0, .int x0, .int x1] (fun u : Unit => some (.int (-1))) (fun _ => True) (fun u : Unit => [(a0, .inr (12, [.ref a1, .ref a2, .ref a3, .ref a4, .ref a5, .int 0, .ref a6, .int 0, .int 0, .int 0, .int 0, .int 0, .int 0, .int 0, .int 0, .int 0, .int 0, .int (-1), .ref a7, .ref a8, .int 190, .ref a9, .int 0, .ref a10, .ref a11, .ref a12, .ref a13, .ref a14, .int 0, .ref a15, .ref a16, .ref a17])), (a1, .inl (cy 1, 1868, .inl (upd (upd (upd (fun _ => 0) 1 2) 2 20) 3 120))), (a7, .inl (cy 1, 1830, .inl (lxF (fun _ => 0) 2 20 (PP 20 2 (20 + 1 - 2))))), (a8, .inl (cy 1, 1830, .inl (lyF (fun _ => 0) 2 20 (PP 20 2 (20 + 1 - 2)))))]) := by
  refine Ct.of (by decide +kernel) (Nat.le_of_ble_eq_true rfl) ?_
  intro p e s m args below meth c A ls C hr hlocks hml hnm w hl
  have hl : lv_has ls 4 [(0, .ref a0), (1, .int x0), (2, .int x1)] := hl
  refine lv_aload_n C.1 C.2.1 dX12_pair_0 rfl (lv_at hl 0 rfl) ?_
  refine lv_iconst (v := 0) C.1 C.2.1 dX12_pair_1 (by decide) ?_
  refine r_put C w 0 rfl rfl 5 (by decide) fl_RX12_71 rfl (ty := .int) (tyX12_ok 5 (by decide)) rfl rfl (Nat.le_of_ble_eq_true rfl) [(a0, .inr (12, [.ref a1, .ref a2, .ref a3, .ref a4, .ref a5, .int 0, .ref a6, .int 0, .int 0, .int 0, .int 0, .int 0, .int 0, .int 0, .int 0, .int 0, .int 0, .int (-1), .ref a7, .ref a8, .int 0, .ref a9, .int 0, .ref a10, .ref a11, .ref a12, .ref a13, .ref a14, .int 0, .ref a15, .ref a16, .ref a17])), (a1, .inl (cy 1, 1868, .inl (upd (upd (upd (fun _ => 0) 1 2) 2 20) 3 120))), (a7, .inl (cy 1, 1830, .inl (fun _ => 0))), (a8, .inl (cy 1, 1830, .inl (fun _ => 0)))] rfl dX12_pair_2 (fun H locs w => ?_)
  refine lv_aload_n C.1 C.2.1 dX12_pair_5 rfl (lv_at hl 0 rfl) ?_
  refine r_callV C w fv_RX12_253 (c_X12_layPairs_0 l D cy a0 a1 a2 a3 a4 a5 a6 a7 a8 a9 a10 a11 a12 a13 a14 a15 a16 a17) (hl.1.trans hml.symm) [0, 1, 2, 3] [] (wr := []) ⟨rfl, rfl, rfl, rfl, by decide⟩ 0 rfl rfl rfl rfl rfl ⟨Nat.le_of_ble_eq_true rfl, Nat.le_of_ble_eq_true rfl, Nat.le_of_ble_eq_true rfl⟩ 0 0 ⟨rfl, rfl, Nat.le_of_ble_eq_true rfl, Nat.le_of_ble_eq_true rfl⟩ dX12_pair_6 (fun u H locs hp w => ?_)
  have w : Wd D A s.heap [(a0, .inr (12, [.ref a1, .ref a2, .ref a3, .ref a4, .ref a5, .int 0, .ref a6, .int 0, .int 0, .int 0, .int 0, .int 0, .int 0, .int 0, .int 0, .int 0, .int 0, .int (-1), .ref a7, .ref a8, .int 190, .ref a9, .int 0, .ref a10, .ref a11, .ref a12, .ref a13, .ref a14, .int 0, .ref a15, .ref a16, .ref a17])), (a1, .inl (cy 1, 1868, .inl (upd (upd (upd (fun _ => 0) 1 2) 2 20) 3 120))), (a7, .inl (cy 1, 1830, .inl (lxF (fun _ => 0) 2 20 (PP 20 2 (20 + 1 - 2))))), (a8, .inl (cy 1, 1830, .inl (lyF (fun _ => 0) 2 20 (PP 20 2 (20 + 1 - 2)))))] _ _ := w
  refine r_top (g2 := F0 m 9 ls []) rfl ?_
  refine lv_iconst (v := 0) C.1 C.2.1 dX12_pair_9 (by decide) ?_
  refine lv_istore_n (lv' := [(3, .int 0), (0, .ref a0), (1, .int x0), (2, .int x1)]) C.1 C.2.1 dX12_pair_10 rfl hl (by decide) rfl (fun ls hl => ?_)
  refine lp_X12_pair_1 a0 a1 a2 a3 a4 a5 a6 a7 a8 a9 a10 a11 a12 a13 a14 a15 a16 a17 x0 x1 x0 x1 (if_neg k0) (if_pos k1) (Or.inr k3) C hml (Nat.le_of_ble_eq_true rfl) (Nat.le_of_ble_eq_true rfl) ⟨Nat.le_of_ble_eq_true rfl, Nat.le_of_ble_eq_true rfl⟩ (w.re rfl) (lv_sub hl [1, 2, 3, 0] rfl) (fun H locs ls w hl => ?_)
  have w : Wd D A s.heap [(a0, .inr (12, [.ref a1, .ref a2, .ref a3, .ref a4, .ref a5, .int 0, .ref a6, .int 0, .int 0, .int 0, .int 0, .int 0, .int 0, .int 0, .int 0, .int 0, .int 0, .int (-1), .ref a7, .ref a8, .int 190, .ref a9, .int 0, .ref a10, .ref a11, .ref a12, .ref a13, .ref a14, .int 0, .ref a15, .ref a16, .ref a17])), (a1, .inl (cy 1, 1868, .inl (upd (upd (upd (fun _ => 0) 1 2) 2 20) 3 120))), (a7, .inl (cy 1, 1830, .inl (lxF (fun _ => 0) 2 20 (PP 20 2 (20 + 1 - 2))))), (a8, .inl (cy 1, 1830, .inl (lyF (fun _ => 0) 2 20 (PP 20 2 (20 + 1 - 2)))))] _ _ := w
  refine lv_iconst (v := (-1)) C.1 C.2.1 dX12_pair_55 (by decide) ?_
  exact r_iret C w hlocks () hr rfl rfl trivial [0, 1, 2, 3] rfl rfl ⟨Nat.le_of_ble_eq_true rfl, Nat.le_of_ble_eq_true rfl⟩ dX12_pair_56
set_option maxRecDepth 100000 in
set_option maxHeartbeats 4000000 in
theorem c_X12_pair_5 (l : Launch) (D : va_G) (cy : Nat → ClassId) (a0 a1 a2 a3 a4 a5 a6 a7 a8 a9 a10 a11 a12 a13 a14 a15 a16 a17 : Nat) (x0 : Int32) (x1 : Int32) (k0 : ¬ x1 < x0) (k1 : x0 < x1) (k2 : ¬ x0 < 2) (k3 : ¬ 20 < x1) : Ct l D cy yX12_pair cX12_pair 4 (some .int) 1 30 0 0 [(a0, .inr (12, [.ref a1, .ref a2, .ref a3, .ref a4, .ref a5, .int 0, .ref a6, .int 0, .int 0, .int 0, .int 0, .int 0, .int 0, .int 0, .int 0, .int 0, .int 0, .int (-1), .ref a7, .ref a8, .int 0, .ref a9, .int 0, .ref a10, .ref a11, .ref a12, .ref a13, .ref a14, .int 0, .ref a15, .ref a16, .ref a17])), (a1, .inl (cy 1, 1868, .inl (upd (upd (upd (fun _ => 0) 1 2) 2 20) 3 120))), (a7, .inl (cy 1, 1830, .inl (fun _ => 0))), (a8, .inl (cy 1, 1830, .inl (fun _ => 0)))] [.ref a0, .int x0, .int x1] (fun u : Unit => some (.int (nI (PP 20 2 ((x0).toNatClampNeg - 2) + ((x1).toNatClampNeg - (x0).toNatClampNeg))))) (fun _ => True) (fun u : Unit => [(a0, .inr (12, [.ref a1, .ref a2, .ref a3, .ref a4, .ref a5, .int 0, .ref a6, .int 0, .int 0, .int 0, .int 0, .int 0, .int 0, .int 0, .int 0, .int 0, .int 0, .int (-1), .ref a7, .ref a8, .int 190, .ref a9, .int 0, .ref a10, .ref a11, .ref a12, .ref a13, .ref a14, .int 0, .ref a15, .ref a16, .ref a17])), (a1, .inl (cy 1, 1868, .inl (upd (upd (upd (fun _ => 0) 1 2) 2 20) 3 120))), (a7, .inl (cy 1, 1830, .inl (lxF (fun _ => 0) 2 20 (PP 20 2 (20 + 1 - 2))))), (a8, .inl (cy 1, 1830, .inl (lyF (fun _ => 0) 2 20 (PP 20 2 (20 + 1 - 2)))))]) := by
  refine Ct.of (by decide +kernel) (Nat.le_of_ble_eq_true rfl) ?_
  intro p e s m args below meth c A ls C hr hlocks hml hnm w hl
  have hl : lv_has ls 4 [(0, .ref a0), (1, .int x0), (2, .int x1)] := hl
  refine lv_aload_n C.1 C.2.1 dX12_pair_0 rfl (lv_at hl 0 rfl) ?_
  refine lv_iconst (v := 0) C.1 C.2.1 dX12_pair_1 (by decide) ?_
  refine r_put C w 0 rfl rfl 5 (by decide) fl_RX12_71 rfl (ty := .int) (tyX12_ok 5 (by decide)) rfl rfl (Nat.le_of_ble_eq_true rfl) [(a0, .inr (12, [.ref a1, .ref a2, .ref a3, .ref a4, .ref a5, .int 0, .ref a6, .int 0, .int 0, .int 0, .int 0, .int 0, .int 0, .int 0, .int 0, .int 0, .int 0, .int (-1), .ref a7, .ref a8, .int 0, .ref a9, .int 0, .ref a10, .ref a11, .ref a12, .ref a13, .ref a14, .int 0, .ref a15, .ref a16, .ref a17])), (a1, .inl (cy 1, 1868, .inl (upd (upd (upd (fun _ => 0) 1 2) 2 20) 3 120))), (a7, .inl (cy 1, 1830, .inl (fun _ => 0))), (a8, .inl (cy 1, 1830, .inl (fun _ => 0)))] rfl dX12_pair_2 (fun H locs w => ?_)
  refine lv_aload_n C.1 C.2.1 dX12_pair_5 rfl (lv_at hl 0 rfl) ?_
  refine r_callV C w fv_RX12_253 (c_X12_layPairs_0 l D cy a0 a1 a2 a3 a4 a5 a6 a7 a8 a9 a10 a11 a12 a13 a14 a15 a16 a17) (hl.1.trans hml.symm) [0, 1, 2, 3] [] (wr := []) ⟨rfl, rfl, rfl, rfl, by decide⟩ 0 rfl rfl rfl rfl rfl ⟨Nat.le_of_ble_eq_true rfl, Nat.le_of_ble_eq_true rfl, Nat.le_of_ble_eq_true rfl⟩ 0 0 ⟨rfl, rfl, Nat.le_of_ble_eq_true rfl, Nat.le_of_ble_eq_true rfl⟩ dX12_pair_6 (fun u H locs hp w => ?_)
  have w : Wd D A s.heap [(a0, .inr (12, [.ref a1, .ref a2, .ref a3, .ref a4, .ref a5, .int 0, .ref a6, .int 0, .int 0, .int 0, .int 0, .int 0, .int 0, .int 0, .int 0, .int 0, .int 0, .int (-1), .ref a7, .ref a8, .int 190, .ref a9, .int 0, .ref a10, .ref a11, .ref a12, .ref a13, .ref a14, .int 0, .ref a15, .ref a16, .ref a17])), (a1, .inl (cy 1, 1868, .inl (upd (upd (upd (fun _ => 0) 1 2) 2 20) 3 120))), (a7, .inl (cy 1, 1830, .inl (lxF (fun _ => 0) 2 20 (PP 20 2 (20 + 1 - 2))))), (a8, .inl (cy 1, 1830, .inl (lyF (fun _ => 0) 2 20 (PP 20 2 (20 + 1 - 2)))))] _ _ := w
  refine r_top (g2 := F0 m 9 ls []) rfl ?_
  refine lv_iconst (v := 0) C.1 C.2.1 dX12_pair_9 (by decide) ?_
  refine lv_istore_n (lv' := [(3, .int 0), (0, .ref a0), (1, .int x0), (2, .int x1)]) C.1 C.2.1 dX12_pair_10 rfl hl (by decide) rfl (fun ls hl => ?_)
  refine lp_X12_pair_2 a0 a1 a2 a3 a4 a5 a6 a7 a8 a9 a10 a11 a12 a13 a14 a15 a16 a17 x0 x1 x0 x1 (if_neg k0) (if_pos k1) k2 k3 k0 C hml (Nat.le_of_ble_eq_true rfl) (Nat.le_of_ble_eq_true rfl) ⟨Nat.le_of_ble_eq_true rfl, Nat.le_of_ble_eq_true rfl⟩ (w.re rfl) (lv_sub hl [1, 2, 3, 0] rfl) (fun H locs ls w hl => ?_)
  have w : Wd D A s.heap [(a0, .inr (12, [.ref a1, .ref a2, .ref a3, .ref a4, .ref a5, .int 0, .ref a6, .int 0, .int 0, .int 0, .int 0, .int 0, .int 0, .int 0, .int 0, .int 0, .int 0, .int (-1), .ref a7, .ref a8, .int 190, .ref a9, .int 0, .ref a10, .ref a11, .ref a12, .ref a13, .ref a14, .int 0, .ref a15, .ref a16, .ref a17])), (a1, .inl (cy 1, 1868, .inl (upd (upd (upd (fun _ => 0) 1 2) 2 20) 3 120))), (a7, .inl (cy 1, 1830, .inl (lxF (fun _ => 0) 2 20 (PP 20 2 (20 + 1 - 2))))), (a8, .inl (cy 1, 1830, .inl (lyF (fun _ => 0) 2 20 (PP 20 2 (20 + 1 - 2)))))] _ _ := w
  refine lv_iload_n C.1 C.2.1 dX12_pair_47 rfl (lv_at hl 0 rfl) ?_
  exact r_iret C w hlocks () hr rfl rfl trivial [0, 1, 2, 3] rfl rfl ⟨Nat.le_of_ble_eq_true rfl, Nat.le_of_ble_eq_true rfl⟩ dX12_pair_48
set_option maxRecDepth 100000 in
set_option maxHeartbeats 4000000 in
theorem c_X12_pair_6 (l : Launch) (D : va_G) (cy : Nat → ClassId) (a0 a1 a2 a3 a4 a5 a6 a7 a8 a9 a10 a11 a12 a13 a14 a15 a16 a17 : Nat) (x0 : Int32) (x1 : Int32) (k0 : ¬ x1 < x0) (k1 : ¬ x0 < x1) (k2 : x0 < 2) : Ct l D cy yX12_pair cX12_pair 4 (some .int) 1 30 0 0 [(a0, .inr (12, [.ref a1, .ref a2, .ref a3, .ref a4, .ref a5, .int 0, .ref a6, .int 0, .int 0, .int 0, .int 0, .int 0, .int 0, .int 0, .int 0, .int 0, .int 0, .int (-1), .ref a7, .ref a8, .int 0, .ref a9, .int 0, .ref a10, .ref a11, .ref a12, .ref a13, .ref a14, .int 0, .ref a15, .ref a16, .ref a17])), (a1, .inl (cy 1, 1868, .inl (upd (upd (upd (fun _ => 0) 1 2) 2 20) 3 120))), (a7, .inl (cy 1, 1830, .inl (fun _ => 0))), (a8, .inl (cy 1, 1830, .inl (fun _ => 0)))] [.ref a0, .int x0, .int x1] (fun u : Unit => some (.int (-1))) (fun _ => True) (fun u : Unit => [(a0, .inr (12, [.ref a1, .ref a2, .ref a3, .ref a4, .ref a5, .int 0, .ref a6, .int 0, .int 0, .int 0, .int 0, .int 0, .int 0, .int 0, .int 0, .int 0, .int 0, .int (-1), .ref a7, .ref a8, .int 190, .ref a9, .int 0, .ref a10, .ref a11, .ref a12, .ref a13, .ref a14, .int 0, .ref a15, .ref a16, .ref a17])), (a1, .inl (cy 1, 1868, .inl (upd (upd (upd (fun _ => 0) 1 2) 2 20) 3 120))), (a7, .inl (cy 1, 1830, .inl (lxF (fun _ => 0) 2 20 (PP 20 2 (20 + 1 - 2))))), (a8, .inl (cy 1, 1830, .inl (lyF (fun _ => 0) 2 20 (PP 20 2 (20 + 1 - 2)))))]) := by
  refine Ct.of (by decide +kernel) (Nat.le_of_ble_eq_true rfl) ?_
  intro p e s m args below meth c A ls C hr hlocks hml hnm w hl
  have hl : lv_has ls 4 [(0, .ref a0), (1, .int x0), (2, .int x1)] := hl
  refine lv_aload_n C.1 C.2.1 dX12_pair_0 rfl (lv_at hl 0 rfl) ?_
  refine lv_iconst (v := 0) C.1 C.2.1 dX12_pair_1 (by decide) ?_
  refine r_put C w 0 rfl rfl 5 (by decide) fl_RX12_71 rfl (ty := .int) (tyX12_ok 5 (by decide)) rfl rfl (Nat.le_of_ble_eq_true rfl) [(a0, .inr (12, [.ref a1, .ref a2, .ref a3, .ref a4, .ref a5, .int 0, .ref a6, .int 0, .int 0, .int 0, .int 0, .int 0, .int 0, .int 0, .int 0, .int 0, .int 0, .int (-1), .ref a7, .ref a8, .int 0, .ref a9, .int 0, .ref a10, .ref a11, .ref a12, .ref a13, .ref a14, .int 0, .ref a15, .ref a16, .ref a17])), (a1, .inl (cy 1, 1868, .inl (upd (upd (upd (fun _ => 0) 1 2) 2 20) 3 120))), (a7, .inl (cy 1, 1830, .inl (fun _ => 0))), (a8, .inl (cy 1, 1830, .inl (fun _ => 0)))] rfl dX12_pair_2 (fun H locs w => ?_)
  refine lv_aload_n C.1 C.2.1 dX12_pair_5 rfl (lv_at hl 0 rfl) ?_
  refine r_callV C w fv_RX12_253 (c_X12_layPairs_0 l D cy a0 a1 a2 a3 a4 a5 a6 a7 a8 a9 a10 a11 a12 a13 a14 a15 a16 a17) (hl.1.trans hml.symm) [0, 1, 2, 3] [] (wr := []) ⟨rfl, rfl, rfl, rfl, by decide⟩ 0 rfl rfl rfl rfl rfl ⟨Nat.le_of_ble_eq_true rfl, Nat.le_of_ble_eq_true rfl, Nat.le_of_ble_eq_true rfl⟩ 0 0 ⟨rfl, rfl, Nat.le_of_ble_eq_true rfl, Nat.le_of_ble_eq_true rfl⟩ dX12_pair_6 (fun u H locs hp w => ?_)
  have w : Wd D A s.heap [(a0, .inr (12, [.ref a1, .ref a2, .ref a3, .ref a4, .ref a5, .int 0, .ref a6, .int 0, .int 0, .int 0, .int 0, .int 0, .int 0, .int 0, .int 0, .int 0, .int 0, .int (-1), .ref a7, .ref a8, .int 190, .ref a9, .int 0, .ref a10, .ref a11, .ref a12, .ref a13, .ref a14, .int 0, .ref a15, .ref a16, .ref a17])), (a1, .inl (cy 1, 1868, .inl (upd (upd (upd (fun _ => 0) 1 2) 2 20) 3 120))), (a7, .inl (cy 1, 1830, .inl (lxF (fun _ => 0) 2 20 (PP 20 2 (20 + 1 - 2))))), (a8, .inl (cy 1, 1830, .inl (lyF (fun _ => 0) 2 20 (PP 20 2 (20 + 1 - 2)))))] _ _ := w
  refine r_top (g2 := F0 m 9 ls []) rfl ?_
  refine lv_iconst (v := 0) C.1 C.2.1 dX12_pair_9 (by decide) ?_
  refine lv_istore_n (lv' := [(3, .int 0), (0, .ref a0), (1, .int x0), (2, .int x1)]) C.1 C.2.1 dX12_pair_10 rfl hl (by decide) rfl (fun ls hl => ?_)
  refine lp_X12_pair_1 a0 a1 a2 a3 a4 a5 a6 a7 a8 a9 a10 a11 a12 a13 a14 a15 a16 a17 x0 x1 x0 x0 (if_neg k0) (if_neg k1) (Or.inl k2) C hml (Nat.le_of_ble_eq_true rfl) (Nat.le_of_ble_eq_true rfl) ⟨Nat.le_of_ble_eq_true rfl, Nat.le_of_ble_eq_true rfl⟩ (w.re rfl) (lv_sub hl [1, 2, 3, 0] rfl) (fun H locs ls w hl => ?_)
  have w : Wd D A s.heap [(a0, .inr (12, [.ref a1, .ref a2, .ref a3, .ref a4, .ref a5, .int 0, .ref a6, .int 0, .int 0, .int 0, .int 0, .int 0, .int 0, .int 0, .int 0, .int 0, .int 0, .int (-1), .ref a7, .ref a8, .int 190, .ref a9, .int 0, .ref a10, .ref a11, .ref a12, .ref a13, .ref a14, .int 0, .ref a15, .ref a16, .ref a17])), (a1, .inl (cy 1, 1868, .inl (upd (upd (upd (fun _ => 0) 1 2) 2 20) 3 120))), (a7, .inl (cy 1, 1830, .inl (lxF (fun _ => 0) 2 20 (PP 20 2 (20 + 1 - 2))))), (a8, .inl (cy 1, 1830, .inl (lyF (fun _ => 0) 2 20 (PP 20 2 (20 + 1 - 2)))))] _ _ := w
  refine lv_iconst (v := (-1)) C.1 C.2.1 dX12_pair_55 (by decide) ?_
  exact r_iret C w hlocks () hr rfl rfl trivial [0, 1, 2, 3] rfl rfl ⟨Nat.le_of_ble_eq_true rfl, Nat.le_of_ble_eq_true rfl⟩ dX12_pair_56
set_option maxRecDepth 100000 in
set_option maxHeartbeats 4000000 in
theorem c_X12_pair_7 (l : Launch) (D : va_G) (cy : Nat → ClassId) (a0 a1 a2 a3 a4 a5 a6 a7 a8 a9 a10 a11 a12 a13 a14 a15 a16 a17 : Nat) (x0 : Int32) (x1 : Int32) (k0 : ¬ x1 < x0) (k1 : ¬ x0 < x1) (k2 : ¬ x0 < 2) (k3 : 20 < x0) : Ct l D cy yX12_pair cX12_pair 4 (some .int) 1 30 0 0 [(a0, .inr (12, [.ref a1, .ref a2, .ref a3, .ref a4, .ref a5, .int 0, .ref a6, .int 0, .int 0, .int 0, .int 0, .int 0, .int 0, .int 0, .int 0, .int 0, .int 0, .int (-1), .ref a7, .ref a8, .int 0, .ref a9, .int 0, .ref a10, .ref a11, .ref a12, .ref a13, .ref a14, .int 0, .ref a15, .ref a16, .ref a17])), (a1, .inl (cy 1, 1868, .inl (upd (upd (upd (fun _ => 0) 1 2) 2 20) 3 120))), (a7, .inl (cy 1, 1830, .inl (fun _ => 0))), (a8, .inl (cy 1, 1830, .inl (fun _ => 0)))] [.ref a0, .int x0, .int x1] (fun u : Unit => some (.int (-1))) (fun _ => True) (fun u : Unit => [(a0, .inr (12, [.ref a1, .ref a2, .ref a3, .ref a4, .ref a5, .int 0, .ref a6, .int 0, .int 0, .int 0, .int 0, .int 0, .int 0, .int 0, .int 0, .int 0, .int 0, .int (-1), .ref a7, .ref a8, .int 190, .ref a9, .int 0, .ref a10, .ref a11, .ref a12, .ref a13, .ref a14, .int 0, .ref a15, .ref a16, .ref a17])), (a1, .inl (cy 1, 1868, .inl (upd (upd (upd (fun _ => 0) 1 2) 2 20) 3 120))), (a7, .inl (cy 1, 1830, .inl (lxF (fun _ => 0) 2 20 (PP 20 2 (20 + 1 - 2))))), (a8, .inl (cy 1, 1830, .inl (lyF (fun _ => 0) 2 20 (PP 20 2 (20 + 1 - 2)))))]) := by
  refine Ct.of (by decide +kernel) (Nat.le_of_ble_eq_true rfl) ?_
  intro p e s m args below meth c A ls C hr hlocks hml hnm w hl
  have hl : lv_has ls 4 [(0, .ref a0), (1, .int x0), (2, .int x1)] := hl
  refine lv_aload_n C.1 C.2.1 dX12_pair_0 rfl (lv_at hl 0 rfl) ?_
  refine lv_iconst (v := 0) C.1 C.2.1 dX12_pair_1 (by decide) ?_
  refine r_put C w 0 rfl rfl 5 (by decide) fl_RX12_71 rfl (ty := .int) (tyX12_ok 5 (by decide)) rfl rfl (Nat.le_of_ble_eq_true rfl) [(a0, .inr (12, [.ref a1, .ref a2, .ref a3, .ref a4, .ref a5, .int 0, .ref a6, .int 0, .int 0, .int 0, .int 0, .int 0, .int 0, .int 0, .int 0, .int 0, .int 0, .int (-1), .ref a7, .ref a8, .int 0, .ref a9, .int 0, .ref a10, .ref a11, .ref a12, .ref a13, .ref a14, .int 0, .ref a15, .ref a16, .ref a17])), (a1, .inl (cy 1, 1868, .inl (upd (upd (upd (fun _ => 0) 1 2) 2 20) 3 120))), (a7, .inl (cy 1, 1830, .inl (fun _ => 0))), (a8, .inl (cy 1, 1830, .inl (fun _ => 0)))] rfl dX12_pair_2 (fun H locs w => ?_)
  refine lv_aload_n C.1 C.2.1 dX12_pair_5 rfl (lv_at hl 0 rfl) ?_
  refine r_callV C w fv_RX12_253 (c_X12_layPairs_0 l D cy a0 a1 a2 a3 a4 a5 a6 a7 a8 a9 a10 a11 a12 a13 a14 a15 a16 a17) (hl.1.trans hml.symm) [0, 1, 2, 3] [] (wr := []) ⟨rfl, rfl, rfl, rfl, by decide⟩ 0 rfl rfl rfl rfl rfl ⟨Nat.le_of_ble_eq_true rfl, Nat.le_of_ble_eq_true rfl, Nat.le_of_ble_eq_true rfl⟩ 0 0 ⟨rfl, rfl, Nat.le_of_ble_eq_true rfl, Nat.le_of_ble_eq_true rfl⟩ dX12_pair_6 (fun u H locs hp w => ?_)
  have w : Wd D A s.heap [(a0, .inr (12, [.ref a1, .ref a2, .ref a3, .ref a4, .ref a5, .int 0, .ref a6, .int 0, .int 0, .int 0, .int 0, .int 0, .int 0, .int 0, .int 0, .int 0, .int 0, .int (-1), .ref a7, .ref a8, .int 190, .ref a9, .int 0, .ref a10, .ref a11, .ref a12, .ref a13, .ref a14, .int 0, .ref a15, .ref a16, .ref a17])), (a1, .inl (cy 1, 1868, .inl (upd (upd (upd (fun _ => 0) 1 2) 2 20) 3 120))), (a7, .inl (cy 1, 1830, .inl (lxF (fun _ => 0) 2 20 (PP 20 2 (20 + 1 - 2))))), (a8, .inl (cy 1, 1830, .inl (lyF (fun _ => 0) 2 20 (PP 20 2 (20 + 1 - 2)))))] _ _ := w
  refine r_top (g2 := F0 m 9 ls []) rfl ?_
  refine lv_iconst (v := 0) C.1 C.2.1 dX12_pair_9 (by decide) ?_
  refine lv_istore_n (lv' := [(3, .int 0), (0, .ref a0), (1, .int x0), (2, .int x1)]) C.1 C.2.1 dX12_pair_10 rfl hl (by decide) rfl (fun ls hl => ?_)
  refine lp_X12_pair_1 a0 a1 a2 a3 a4 a5 a6 a7 a8 a9 a10 a11 a12 a13 a14 a15 a16 a17 x0 x1 x0 x0 (if_neg k0) (if_neg k1) (Or.inr k3) C hml (Nat.le_of_ble_eq_true rfl) (Nat.le_of_ble_eq_true rfl) ⟨Nat.le_of_ble_eq_true rfl, Nat.le_of_ble_eq_true rfl⟩ (w.re rfl) (lv_sub hl [1, 2, 3, 0] rfl) (fun H locs ls w hl => ?_)
  have w : Wd D A s.heap [(a0, .inr (12, [.ref a1, .ref a2, .ref a3, .ref a4, .ref a5, .int 0, .ref a6, .int 0, .int 0, .int 0, .int 0, .int 0, .int 0, .int 0, .int 0, .int 0, .int 0, .int (-1), .ref a7, .ref a8, .int 190, .ref a9, .int 0, .ref a10, .ref a11, .ref a12, .ref a13, .ref a14, .int 0, .ref a15, .ref a16, .ref a17])), (a1, .inl (cy 1, 1868, .inl (upd (upd (upd (fun _ => 0) 1 2) 2 20) 3 120))), (a7, .inl (cy 1, 1830, .inl (lxF (fun _ => 0) 2 20 (PP 20 2 (20 + 1 - 2))))), (a8, .inl (cy 1, 1830, .inl (lyF (fun _ => 0) 2 20 (PP 20 2 (20 + 1 - 2)))))] _ _ := w
  refine lv_iconst (v := (-1)) C.1 C.2.1 dX12_pair_55 (by decide) ?_
  exact r_iret C w hlocks () hr rfl rfl trivial [0, 1, 2, 3] rfl rfl ⟨Nat.le_of_ble_eq_true rfl, Nat.le_of_ble_eq_true rfl⟩ dX12_pair_56
set_option maxRecDepth 100000 in
set_option maxHeartbeats 4000000 in
theorem c_X12_pair_8 (l : Launch) (D : va_G) (cy : Nat → ClassId) (a0 a1 a2 a3 a4 a5 a6 a7 a8 a9 a10 a11 a12 a13 a14 a15 a16 a17 : Nat) (x0 : Int32) (x1 : Int32) (k0 : ¬ x1 < x0) (k1 : ¬ x0 < x1) (k2 : ¬ x0 < 2) (k3 : ¬ 20 < x0) : Ct l D cy yX12_pair cX12_pair 4 (some .int) 1 30 0 0 [(a0, .inr (12, [.ref a1, .ref a2, .ref a3, .ref a4, .ref a5, .int 0, .ref a6, .int 0, .int 0, .int 0, .int 0, .int 0, .int 0, .int 0, .int 0, .int 0, .int 0, .int (-1), .ref a7, .ref a8, .int 0, .ref a9, .int 0, .ref a10, .ref a11, .ref a12, .ref a13, .ref a14, .int 0, .ref a15, .ref a16, .ref a17])), (a1, .inl (cy 1, 1868, .inl (upd (upd (upd (fun _ => 0) 1 2) 2 20) 3 120))), (a7, .inl (cy 1, 1830, .inl (fun _ => 0))), (a8, .inl (cy 1, 1830, .inl (fun _ => 0)))] [.ref a0, .int x0, .int x1] (fun u : Unit => some (.int (nI (PP 20 2 ((x0).toNatClampNeg - 2) + ((x0).toNatClampNeg - (x0).toNatClampNeg))))) (fun _ => True) (fun u : Unit => [(a0, .inr (12, [.ref a1, .ref a2, .ref a3, .ref a4, .ref a5, .int 0, .ref a6, .int 0, .int 0, .int 0, .int 0, .int 0, .int 0, .int 0, .int 0, .int 0, .int 0, .int (-1), .ref a7, .ref a8, .int 190, .ref a9, .int 0, .ref a10, .ref a11, .ref a12, .ref a13, .ref a14, .int 0, .ref a15, .ref a16, .ref a17])), (a1, .inl (cy 1, 1868, .inl (upd (upd (upd (fun _ => 0) 1 2) 2 20) 3 120))), (a7, .inl (cy 1, 1830, .inl (lxF (fun _ => 0) 2 20 (PP 20 2 (20 + 1 - 2))))), (a8, .inl (cy 1, 1830, .inl (lyF (fun _ => 0) 2 20 (PP 20 2 (20 + 1 - 2)))))]) := by
  refine Ct.of (by decide +kernel) (Nat.le_of_ble_eq_true rfl) ?_
  intro p e s m args below meth c A ls C hr hlocks hml hnm w hl
  have hl : lv_has ls 4 [(0, .ref a0), (1, .int x0), (2, .int x1)] := hl
  refine lv_aload_n C.1 C.2.1 dX12_pair_0 rfl (lv_at hl 0 rfl) ?_
  refine lv_iconst (v := 0) C.1 C.2.1 dX12_pair_1 (by decide) ?_
  refine r_put C w 0 rfl rfl 5 (by decide) fl_RX12_71 rfl (ty := .int) (tyX12_ok 5 (by decide)) rfl rfl (Nat.le_of_ble_eq_true rfl) [(a0, .inr (12, [.ref a1, .ref a2, .ref a3, .ref a4, .ref a5, .int 0, .ref a6, .int 0, .int 0, .int 0, .int 0, .int 0, .int 0, .int 0, .int 0, .int 0, .int 0, .int (-1), .ref a7, .ref a8, .int 0, .ref a9, .int 0, .ref a10, .ref a11, .ref a12, .ref a13, .ref a14, .int 0, .ref a15, .ref a16, .ref a17])), (a1, .inl (cy 1, 1868, .inl (upd (upd (upd (fun _ => 0) 1 2) 2 20) 3 120))), (a7, .inl (cy 1, 1830, .inl (fun _ => 0))), (a8, .inl (cy 1, 1830, .inl (fun _ => 0)))] rfl dX12_pair_2 (fun H locs w => ?_)
  refine lv_aload_n C.1 C.2.1 dX12_pair_5 rfl (lv_at hl 0 rfl) ?_
  refine r_callV C w fv_RX12_253 (c_X12_layPairs_0 l D cy a0 a1 a2 a3 a4 a5 a6 a7 a8 a9 a10 a11 a12 a13 a14 a15 a16 a17) (hl.1.trans hml.symm) [0, 1, 2, 3] [] (wr := []) ⟨rfl, rfl, rfl, rfl, by decide⟩ 0 rfl rfl rfl rfl rfl ⟨Nat.le_of_ble_eq_true rfl, Nat.le_of_ble_eq_true rfl, Nat.le_of_ble_eq_true rfl⟩ 0 0 ⟨rfl, rfl, Nat.le_of_ble_eq_true rfl, Nat.le_of_ble_eq_true rfl⟩ dX12_pair_6 (fun u H locs hp w => ?_)
  have w : Wd D A s.heap [(a0, .inr (12, [.ref a1, .ref a2, .ref a3, .ref a4, .ref a5, .int 0, .ref a6, .int 0, .int 0, .int 0, .int 0, .int 0, .int 0, .int 0, .int 0, .int 0, .int 0, .int (-1), .ref a7, .ref a8, .int 190, .ref a9, .int 0, .ref a10, .ref a11, .ref a12, .ref a13, .ref a14, .int 0, .ref a15, .ref a16, .ref a17])), (a1, .inl (cy 1, 1868, .inl (upd (upd (upd (fun _ => 0) 1 2) 2 20) 3 120))), (a7, .inl (cy 1, 1830, .inl (lxF (fun _ => 0) 2 20 (PP 20 2 (20 + 1 - 2))))), (a8, .inl (cy 1, 1830, .inl (lyF (fun _ => 0) 2 20 (PP 20 2 (20 + 1 - 2)))))] _ _ := w
  refine r_top (g2 := F0 m 9 ls []) rfl ?_
  refine lv_iconst (v := 0) C.1 C.2.1 dX12_pair_9 (by decide) ?_
  refine lv_istore_n (lv' := [(3, .int 0), (0, .ref a0), (1, .int x0), (2, .int x1)]) C.1 C.2.1 dX12_pair_10 rfl hl (by decide) rfl (fun ls hl => ?_)
  refine lp_X12_pair_2 a0 a1 a2 a3 a4 a5 a6 a7 a8 a9 a10 a11 a12 a13 a14 a15 a16 a17 x0 x1 x0 x0 (if_neg k0) (if_neg k1) k2 k3 Int32.lt_irrefl C hml (Nat.le_of_ble_eq_true rfl) (Nat.le_of_ble_eq_true rfl) ⟨Nat.le_of_ble_eq_true rfl, Nat.le_of_ble_eq_true rfl⟩ (w.re rfl) (lv_sub hl [1, 2, 3, 0] rfl) (fun H locs ls w hl => ?_)
  have w : Wd D A s.heap [(a0, .inr (12, [.ref a1, .ref a2, .ref a3, .ref a4, .ref a5, .int 0, .ref a6, .int 0, .int 0, .int 0, .int 0, .int 0, .int 0, .int 0, .int 0, .int 0, .int 0, .int (-1), .ref a7, .ref a8, .int 190, .ref a9, .int 0, .ref a10, .ref a11, .ref a12, .ref a13, .ref a14, .int 0, .ref a15, .ref a16, .ref a17])), (a1, .inl (cy 1, 1868, .inl (upd (upd (upd (fun _ => 0) 1 2) 2 20) 3 120))), (a7, .inl (cy 1, 1830, .inl (lxF (fun _ => 0) 2 20 (PP 20 2 (20 + 1 - 2))))), (a8, .inl (cy 1, 1830, .inl (lyF (fun _ => 0) 2 20 (PP 20 2 (20 + 1 - 2)))))] _ _ := w
  refine lv_iload_n C.1 C.2.1 dX12_pair_47 rfl (lv_at hl 0 rfl) ?_
  exact r_iret C w hlocks () hr rfl rfl trivial [0, 1, 2, 3] rfl rfl ⟨Nat.le_of_ble_eq_true rfl, Nat.le_of_ble_eq_true rfl⟩ dX12_pair_48
theorem dX12_upTo_0 : decode cX12_upTo 0 = .ok (.aload_n 0, 1) := by decide +kernel
theorem dX12_upTo_1 : decode cX12_upTo 1 = .ok (.iload_n 1, 1) := by decide +kernel
theorem dX12_upTo_2 : decode cX12_upTo 2 = .ok (.i2l, 1) := by decide +kernel
theorem dX12_upTo_3 : decode cX12_upTo 3 = .ok (.lconst 0, 1) := by decide +kernel
theorem dX12_upTo_4 : decode cX12_upTo 4 = .ok (.lconst 1, 1) := by decide +kernel
theorem dX12_upTo_5 : decode cX12_upTo 5 = .ok (.invokestatic 133, 3) := by decide +kernel
theorem dX12_upTo_8 : decode cX12_upTo 8 = .ok (.ifCond .eq 7, 3) := by decide +kernel
theorem dX12_upTo_15 : decode cX12_upTo 15 = .ok (.iconst 1, 1) := by decide +kernel
theorem dX12_upTo_16 : decode cX12_upTo 16 = .ok (.putfield 71, 3) := by decide +kernel
theorem dX12_upTo_19 : decode cX12_upTo 19 = .ok (.aload_n 0, 1) := by decide +kernel
theorem dX12_upTo_20 : decode cX12_upTo 20 = .ok (.getfield 71, 3) := by decide +kernel
theorem dX12_upTo_23 : decode cX12_upTo 23 = .ok (.ifCond .le 5, 3) := by decide +kernel
theorem dX12_upTo_26 : decode cX12_upTo 26 = .ok (.iconst 0, 1) := by decide +kernel
theorem dX12_upTo_27 : decode cX12_upTo 27 = .ok (.ireturn, 1) := by decide +kernel
set_option maxRecDepth 100000 in
set_option maxHeartbeats 4000000 in
theorem c_X12_upTo_0 (l : Launch) (D : va_G) (cy : Nat → ClassId) (a0 a1 a2 a3 a4 a5 a6 a7 a8 a9 a10 a11 a12 a13 a14 a15 a16 a17 : Nat) (x0 : Int32) (k0 : x0 < 0) : Ct l D cy yX12_upTo cX12_upTo 4 (some .int) 1 25 0 0 [(a0, .inr (12, [.ref a1, .ref a2, .ref a3, .ref a4, .ref a5, .int 0, .ref a6, .int 0, .int 0, .int 0, .int 0, .int 0, .int 0, .int 0, .int 0, .int 0, .int 0, .int (-1), .ref a7, .ref a8, .int 0, .ref a9, .int 0, .ref a10, .ref a11, .ref a12, .ref a13, .ref a14, .int 0, .ref a15, .ref a16, .ref a17]))] [.ref a0, .int x0] (fun u : Unit => some (.int 0)) (fun _ => True) (fun u : Unit => [(a0, .inr (12, [.ref a1, .ref a2, .ref a3, .ref a4, .ref a5, .int 1, .ref a6, .int 0, .int 0, .int 0, .int 0, .int 0, .int 0, .int 0, .int 0, .int 0, .int 0, .int (-1), .ref a7, .ref a8, .int 0, .ref a9, .int 0, .ref a10, .ref a11, .ref a12, .ref a13, .ref a14, .int 0, .ref a15, .ref a16, .ref a17]))]) := by
  refine Ct.of (by decide +kernel) (Nat.le_of_ble_eq_true rfl) ?_
  intro p e s m args below meth c A ls C hr hlocks hml hnm w hl
  have hl : lv_has ls 4 [(0, .ref a0), (1, .int x0)] := hl
  refine lv_aload_n C.1 C.2.1 dX12_upTo_0 rfl (lv_at hl 0 rfl) ?_
  refine lv_iload_n C.1 C.2.1 dX12_upTo_1 rfl (lv_at hl 1 rfl) ?_
  refine lv_i2l (v := (Int32.toInt64 x0)) C.1 C.2.1 dX12_upTo_2 rfl ?_
  refine lv_lconst (v := 0) C.1 C.2.1 dX12_upTo_3 (by decide) ?_
  refine lv_lconst (v := 1) C.1 C.2.1 dX12_upTo_4 (by decide) ?_
  refine r_callS C w fs_RX12_133 (c_X12_within_15 l D cy x0 k0) (hl.1.trans hml.symm) [] [0] (wr := [(a0, .inr (12, [.ref a1, .ref a2, .ref a3, .ref a4, .ref a5, .int 0, .ref a6, .int 0, .int 0, .int 0, .int 0, .int 0, .int 0, .int 0, .int 0, .int 0, .int 0, .int (-1), .ref a7, .ref a8, .int 0, .ref a9, .int 0, .ref a10, .ref a11, .ref a12, .ref a13, .ref a14, .int 0, .ref a15, .ref a16, .ref a17]))]) ⟨rfl, rfl, rfl, rfl, by decide⟩ rfl rfl ⟨Nat.le_of_ble_eq_true rfl, Nat.le_of_ble_eq_true rfl, Nat.le_of_ble_eq_true rfl⟩ 0 0 ⟨rfl, rfl, Nat.le_of_ble_eq_true rfl, Nat.le_of_ble_eq_true rfl⟩ dX12_upTo_5 (fun u H locs hp w => ?_)
  have w : Wd D A s.heap [(a0, .inr (12, [.ref a1, .ref a2, .ref a3, .ref a4, .ref a5, .int 0, .ref a6, .int 0, .int 0, .int 0, .int 0, .int 0, .int 0, .int 0, .int 0, .int 0, .int 0, .int (-1), .ref a7, .ref a8, .int 0, .ref a9, .int 0, .ref a10, .ref a11, .ref a12, .ref a13, .ref a14, .int 0, .ref a15, .ref a16, .ref a17]))] _ _ := w
  refine r_top (g2 := F0 m 8 ls [.int 0, .ref a0]) rfl ?_
  refine b_if_eq_t C (tgt := 15) dX12_upTo_8 (by decide) (by decide) ?_
  refine lv_iconst (v := 1) C.1 C.2.1 dX12_upTo_15 (by decide) ?_
  refine r_put C w 0 rfl rfl 5 (by decide) fl_RX12_71 rfl (ty := .int) (tyX12_ok 5 (by decide)) rfl rfl (Nat.le_of_ble_eq_true rfl) [(a0, .inr (12, [.ref a1, .ref a2, .ref a3, .ref a4, .ref a5, .int 1, .ref a6, .int 0, .int 0, .int 0, .int 0, .int 0, .int 0, .int 0, .int 0, .int 0, .int 0, .int (-1), .ref a7, .ref a8, .int 0, .ref a9, .int 0, .ref a10, .ref a11, .ref a12, .ref a13, .ref a14, .int 0, .ref a15, .ref a16, .ref a17]))] rfl dX12_upTo_16 (fun H locs w => ?_)
  refine lv_aload_n C.1 C.2.1 dX12_upTo_19 rfl (lv_at hl 0 rfl) ?_
  refine r_get C w 0 rfl rfl 5 (by decide) fl_RX12_71 (v := .int 1) rfl dX12_upTo_20 ?_
  refine b_if_le_f C (tgt := 28) dX12_upTo_23 (by decide) (by decide) ?_
  refine lv_iconst (v := 0) C.1 C.2.1 dX12_upTo_26 (by decide) ?_
  exact r_iret C w hlocks () hr rfl rfl trivial [0] rfl rfl ⟨Nat.le_of_ble_eq_true rfl, Nat.le_of_ble_eq_true rfl⟩ dX12_upTo_27
theorem dX12_upTo_11 : decode cX12_upTo 11 = .ok (.iconst 0, 1) := by decide +kernel
theorem dX12_upTo_12 : decode cX12_upTo 12 = .ok (.goto 4, 3) := by decide +kernel
theorem dX12_upTo_28 : decode cX12_upTo 28 = .ok (.iconst (-1), 1) := by decide +kernel
theorem dX12_upTo_29 : decode cX12_upTo 29 = .ok (.istore_n 2, 1) := by decide +kernel
theorem dX12_upTo_30 : decode cX12_upTo 30 = .ok (.aload_n 0, 1) := by decide +kernel
theorem dX12_upTo_31 : decode cX12_upTo 31 = .ok (.getfield 9, 3) := by decide +kernel
theorem dX12_upTo_34 : decode cX12_upTo 34 = .ok (.iconst 1, 1) := by decide +kernel
theorem dX12_upTo_35 : decode cX12_upTo 35 = .ok (.iaload, 1) := by decide +kernel
theorem dX12_upTo_36 : decode cX12_upTo 36 = .ok (.istore_n 3, 1) := by decide +kernel
theorem dX12_upTo_37 : decode cX12_upTo 37 = .ok (.iload_n 3, 1) := by decide +kernel
theorem dX12_upTo_38 : decode cX12_upTo 38 = .ok (.bipush 60, 2) := by decide +kernel
theorem dX12_upTo_40 : decode cX12_upTo 40 = .ok (.if_icmp .gt 35, 3) := by decide +kernel
theorem dX12_upTo_43 : decode cX12_upTo 43 = .ok (.aload_n 0, 1) := by decide +kernel
theorem dX12_upTo_44 : decode cX12_upTo 44 = .ok (.aload_n 0, 1) := by decide +kernel
theorem dX12_upTo_45 : decode cX12_upTo 45 = .ok (.getfield 9, 3) := by decide +kernel
theorem dX12_upTo_48 : decode cX12_upTo 48 = .ok (.iconst 1, 1) := by decide +kernel
theorem dX12_upTo_49 : decode cX12_upTo 49 = .ok (.iaload, 1) := by decide +kernel
theorem dX12_upTo_50 : decode cX12_upTo 50 = .ok (.iload_n 3, 1) := by decide +kernel
theorem dX12_upTo_51 : decode cX12_upTo 51 = .ok (.invokevirtual 353, 3) := by decide +kernel
set_option maxRecDepth 100000 in
set_option maxHeartbeats 4000000 in
theorem c_X12_layPairs_5 (l : Launch) (D : va_G) (cy : Nat → ClassId) (a0 a1 a2 a3 a4 a5 a6 a7 a8 a9 a10 a11 a12 a13 a14 a15 a16 a17 : Nat) : Ct l D cy yX12_layPairs cX12_layPairs 3 none 0 0 0 0 [(a0, .inr (12, [.ref a1, .ref a2, .ref a3, .ref a4, .ref a5, .int 0, .ref a6, .int 0, .int 0, .int 0, .int 0, .int 0, .int 0, .int 0, .int 0, .int 0, .int 0, .int (-1), .ref a7, .ref a8, .int 0, .ref a9, .int 0, .ref a10, .ref a11, .ref a12, .ref a13, .ref a14, .int 0, .ref a15, .ref a16, .ref a17])), (a1, .inl (cy 1, 1868, .inl (upd (upd (upd (fun _ => 0) 1 2) 2 2) 3 120))), (a7, .inl (cy 1, 1830, .inl (fun _ => 0))), (a8, .inl (cy 1, 1830, .inl (fun _ => 0)))] [.ref a0] (fun u : Unit => none) (fun _ => True) (fun u : Unit => [(a0, .inr (12, [.ref a1, .ref a2, .ref a3, .ref a4, .ref a5, .int 0, .ref a6, .int 0, .int 0, .int 0, .int 0, .int 0, .int 0, .int 0, .int 0, .int 0, .int 0, .int (-1), .ref a7, .ref a8, .int 1, .ref a9, .int 0, .ref a10, .ref a11, .ref a12, .ref a13, .ref a14, .int 0, .ref a15, .ref a16, .ref a17])), (a1, .inl (cy 1, 1868, .inl (upd (upd (upd (fun _ => 0) 1 2) 2 2) 3 120))), (a7, .inl (cy 1, 1830, .inl (lxF (fun _ => 0) 2 2 (PP 2 2 (2 + 1 - 2))))), (a8, .inl (cy 1, 1830, .inl (lyF (fun _ => 0) 2 2 (PP 2 2 (2 + 1 - 2)))))]) := by
  refine Ct.of (by decide +kernel) (Nat.le_of_ble_eq_true rfl) ?_
  intro p e s m args below meth c A ls C hr hlocks hml hnm w hl
  have hl : lv_has ls 3 [(0, .ref a0)] := hl
  refine lv_aload_n C.1 C.2.1 dX12_layPairs_0 rfl (lv_at hl 0 rfl) ?_
  refine lv_iconst (v := 0) C.1 C.2.1 dX12_layPairs_1 (by decide) ?_
  refine r_put C w 0 rfl rfl 20 (by decide) fl_RX12_250 rfl (ty := .int) (tyX12_ok 20 (by decide)) rfl rfl (Nat.le_of_ble_eq_true rfl) [(a0, .inr (12, [.ref a1, .ref a2, .ref a3, .ref a4, .ref a5, .int 0, .ref a6, .int 0, .int 0, .int 0, .int 0, .int 0, .int 0, .int 0, .int 0, .int 0, .int 0, .int (-1), .ref a7, .ref a8, .int 0, .ref a9, .int 0, .ref a10, .ref a11, .ref a12, .ref a13, .ref a14, .int 0, .ref a15, .ref a16, .ref a17])), (a1, .inl (cy 1, 1868, .inl (upd (upd (upd (fun _ => 0) 1 2) 2 2) 3 120))), (a7, .inl (cy 1, 1830, .inl (fun _ => 0))), (a8, .inl (cy 1, 1830, .inl (fun _ => 0)))] rfl dX12_layPairs_2 (fun H locs w => ?_)
  refine lv_aload_n C.1 C.2.1 dX12_layPairs_5 rfl (lv_at hl 0 rfl) ?_
  refine r_get C w 0 rfl rfl 0 (by decide) fl_RX12_9 (v := .ref a1) rfl dX12_layPairs_6 ?_
  refine lv_iconst (v := 1) C.1 C.2.1 dX12_layPairs_9 (by decide) ?_
  refine r_iald C w 1 rfl (v := 2) (vinD (by decide)) rfl dX12_layPairs_10 ?_
  refine lv_istore_n (lv' := [(1, .int 2), (0, .ref a0)]) C.1 C.2.1 dX12_layPairs_11 rfl hl (by decide) rfl (fun ls hl => ?_)
  refine lp_X12_layPairs_1 a0 a1 a2 a3 a4 a5 a6 a7 a8 a9 a10 a11 a12 a13 a14 a15 a16 a17 (fun _ => 0) (fun _ => 0) 2 2 2 2 (by decide) rfl rfl C hml (w.re rfl) (lv_sub hl [1, 0] rfl) (fun H locs ls pv em w hl => ?_)
  have em : pv = 1 := by rw [em]; decide +kernel
  subst em
  have w : Wd D A s.heap [(a0, .inr (12, [.ref a1, .ref a2, .ref a3, .ref a4, .ref a5, .int 0, .ref a6, .int 0, .int 0, .int 0, .int 0, .int 0, .int 0, .int 0, .int 0, .int 0, .int 0, .int (-1), .ref a7, .ref a8, .int 1, .ref a9, .int 0, .ref a10, .ref a11, .ref a12, .ref a13, .ref a14, .int 0, .ref a15, .ref a16, .ref a17])), (a1, .inl (cy 1, 1868, .inl (upd (upd (upd (fun _ => 0) 1 2) 2 2) 3 120))), (a7, .inl (cy 1, 1830, .inl (lxF (fun _ => 0) 2 2 (PP 2 2 (2 + 1 - 2))))), (a8, .inl (cy 1, 1830, .inl (lyF (fun _ => 0) 2 2 (PP 2 2 (2 + 1 - 2)))))] _ _ := w
  exact r_vret C w hlocks () hr rfl trivial [0, 1, 2, 3] rfl rfl ⟨Nat.le_of_ble_eq_true rfl, Nat.le_of_ble_eq_true rfl⟩ dX12_layPairs_95
set_option maxRecDepth 100000 in
set_option maxHeartbeats 4000000 in
theorem c_X12_puts_5 (l : Launch) (D : va_G) (cy : Nat → ClassId) (a0 a1 a2 a3 a4 a5 a6 a7 a8 a9 a10 a11 a12 a13 a14 a15 a16 a17 : Nat) (x0 : Int32) (x1 : Int32) (f0 : Nat → Int64) (k0 : ¬ x0 < 0) (k1 : x0 < 1830) : Ct l D cy yX12_puts cX12_puts 7 none 0 0 0 0 [(a0, .inr (12, [.ref a1, .ref a2, .ref a3, .ref a4, .ref a5, .int 0, .ref a6, .int 0, .int 0, .int 0, .int 0, .int 0, .int 0, .int 0, .int 0, .int 0, .int 0, .int (-1), .ref a7, .ref a8, .int x1, .ref a9, .int 0, .ref a10, .ref a11, .ref a12, .ref a13, .ref a14, .int 0, .ref a15, .ref a16, .ref a17])), (a9, .inl (cy 2, 2465, .inr (.inl f0)))] [.ref a0, .int 0, .int x0, .int 1] (fun u : Unit => none) (fun _ => True) (fun u : Unit => [(a0, .inr (12, [.ref a1, .ref a2, .ref a3, .ref a4, .ref a5, .int 0, .ref a6, .int 0, .int 0, .int 0, .int 0, .int 0, .int 0, .int 0, .int 0, .int 0, .int 0, .int (-1), .ref a7, .ref a8, .int x1, .ref a9, .int 0, .ref a10, .ref a11, .ref a12, .ref a13, .ref a14, .int 0, .ref a15, .ref a16, .ref a17])), (a9, .inl (cy 2, 2465, .inr (.inl (orW f0 x0))))]) := by
  refine Ct.of (by decide +kernel) (Nat.le_of_ble_eq_true rfl) ?_
  intro p e s m args below meth c A ls C hr hlocks hml hnm w hl
  have hl : lv_has ls 7 [(0, .ref a0), (1, .int 0), (2, .int x0), (3, .int 1)] := hl
  refine lv_bipush (v := 29) C.1 C.2.1 dX12_puts_0 (by decide) ?_
  refine lv_iload_n C.1 C.2.1 dX12_puts_2 rfl (lv_at hl 1 rfl) ?_
  refine r_imul C (v := 0) dX12_puts_3 (by decide) ?_
  refine lv_iload_n C.1 C.2.1 dX12_puts_4 rfl (lv_at hl 2 rfl) ?_
  refine lv_bipush (v := 6) C.1 C.2.1 dX12_puts_5 (by decide) ?_
  refine r_ishr C (v := (x0 >>> (6 &&& 31))) dX12_puts_7 rfl ?_
  refine r_iadd C (v := ((0 : Int32) + (x0 >>> (6 &&& 31)))) dX12_puts_8 rfl ?_
  refine lv_istore (lv' := [(4, .int ((0 : Int32) + (x0 >>> (6 &&& 31)))), (0, .ref a0), (1, .int 0), (2, .int x0), (3, .int 1)]) C.1 C.2.1 dX12_puts_9 hl (by decide) rfl (fun ls hl => ?_)
  refine lv_lconst (v := 1) C.1 C.2.1 dX12_puts_11 (by decide) ?_
  refine lv_iload_n C.1 C.2.1 dX12_puts_12 rfl (lv_at hl 3 rfl) ?_
  refine lv_bipush (v := 63) C.1 C.2.1 dX12_puts_13 (by decide) ?_
  refine r_iand C (v := (x0 &&& 63)) dX12_puts_15 rfl ?_
  refine lv_lshl (v := (1 <<< (Int32.toInt64 (x0 &&& 63) &&& 63))) C.1 C.2.1 dX12_puts_16 rfl ?_
  refine lv_lstore (lv' := [(5, .long (1 <<< (Int32.toInt64 (x0 &&& 63) &&& 63))), (4, .int ((0 : Int32) + (x0 >>> (6 &&& 31)))), (0, .ref a0), (1, .int 0), (2, .int x0), (3, .int 1)]) C.1 C.2.1 dX12_puts_17 hl (by decide) rfl (fun ls hl => ?_)
  refine lv_aload_n C.1 C.2.1 dX12_puts_19 rfl (lv_at hl 2 rfl) ?_
  refine r_get C w 0 rfl rfl 21 (by decide) fl_RX12_39 (v := .ref a9) rfl dX12_puts_20 ?_
  refine lv_iload C.1 C.2.1 dX12_puts_23 (lv_at hl 1 rfl) ?_
  refine lv_iload_n C.1 C.2.1 dX12_puts_25 rfl (lv_at hl 5 rfl) ?_
  refine b_if_eq_f C (tgt := 42) dX12_puts_26 (by decide) (by decide) ?_
  refine lv_aload_n C.1 C.2.1 dX12_puts_29 rfl (lv_at hl 2 rfl) ?_
  refine r_get C w 0 rfl rfl 21 (by decide) fl_RX12_39 (v := .ref a9) rfl dX12_puts_30 ?_
  refine lv_iload C.1 C.2.1 dX12_puts_33 (lv_at hl 1 rfl) ?_
  refine r_lald C w 1 rfl (v := (f0 ((0 : Int32) + (x0 >>> (6 &&& 31))).toNatClampNeg)) (plW_in k0 k1) rfl dX12_puts_35 ?_
  refine lv_lload C.1 C.2.1 dX12_puts_36 (lv_at hl 0 rfl) ?_
  refine r_lor C (v := ((f0 ((0 : Int32) + (x0 >>> (6 &&& 31))).toNatClampNeg) ||| (1 <<< (Int32.toInt64 (x0 &&& 63) &&& 63)))) dX12_puts_38 rfl ?_
  refine lv_goto (tgt := 56) C.1 C.2.1 dX12_puts_39 (by decide) ?_
  refine r_last C w 1 rfl (plW_in k0 k1) (orW f0 x0) rfl [(a0, .inr (12, [.ref a1, .ref a2, .ref a3, .ref a4, .ref a5, .int 0, .ref a6, .int 0, .int 0, .int 0, .int 0, .int 0, .int 0, .int 0, .int 0, .int 0, .int 0, .int (-1), .ref a7, .ref a8, .int x1, .ref a9, .int 0, .ref a10, .ref a11, .ref a12, .ref a13, .ref a14, .int 0, .ref a15, .ref a16, .ref a17])), (a9, .inl (cy 2, 2465, .inr (.inl (orW f0 x0))))] rfl dX12_puts_56 (fun H locs w => ?_)
  exact r_vret C w hlocks () hr rfl trivial [0, 1] rfl rfl ⟨Nat.le_of_ble_eq_true rfl, Nat.le_of_ble_eq_true rfl⟩ dX12_puts_57
set_option maxRecDepth 100000 in
set_option maxHeartbeats 4000000 in
theorem c_X12_fills_4 (l : Launch) (D : va_G) (cy : Nat → ClassId) (a0 a1 a2 a3 a4 a5 a6 a7 a8 a9 a10 a11 a12 a13 a14 a15 a16 a17 : Nat) : Ct l D cy yX12_fills cX12_fills 4 none 1 26 0 0 [(a0, .inr (12, [.ref a1, .ref a2, .ref a3, .ref a4, .ref a5, .int 0, .ref a6, .int 0, .int 0, .int 0, .int 0, .int 0, .int 0, .int 0, .int 0, .int 0, .int 0, .int (-1), .ref a7, .ref a8, .int 1, .ref a9, .int 0, .ref a10, .ref a11, .ref a12, .ref a13, .ref a14, .int 0, .ref a15, .ref a16, .ref a17])), (a9, .inl (cy 2, 2465, .inr (.inl (fun _ => 0))))] [.ref a0, .int 0, .int 1] (fun u : Unit => none) (fun _ => True) (fun u : Unit => [(a0, .inr (12, [.ref a1, .ref a2, .ref a3, .ref a4, .ref a5, .int 0, .ref a6, .int 0, .int 0, .int 0, .int 0, .int 0, .int 0, .int 0, .int 0, .int 0, .int 0, .int (-1), .ref a7, .ref a8, .int 1, .ref a9, .int 0, .ref a10, .ref a11, .ref a12, .ref a13, .ref a14, .int 0, .ref a15, .ref a16, .ref a17])), (a9, .inl (cy 2, 2465, .inr (.inl (rwF (fun _ => 0) 1))))]) := by
  refine Ct.of (by decide +kernel) (Nat.le_of_ble_eq_true rfl) ?_
  intro p e s m args below meth c A ls C hr hlocks hml hnm w hl
  have hl : lv_has ls 4 [(0, .ref a0), (1, .int 0), (2, .int 1)] := hl
  refine lv_iconst (v := 0) C.1 C.2.1 dX12_fills_0 (by decide) ?_
  refine lv_istore_n (lv' := [(3, .int 0), (0, .ref a0), (1, .int 0), (2, .int 1)]) C.1 C.2.1 dX12_fills_1 rfl hl (by decide) rfl (fun ls hl => ?_)
  refine lp_X12_fills_1 a0 a1 a2 a3 a4 a5 a6 a7 a8 a9 a10 a11 a12 a13 a14 a15 a16 a17 (fun _ => 0) 1 (1) rfl (by decide) C hml (Nat.le_of_ble_eq_true rfl) (Nat.le_of_ble_eq_true rfl) ⟨Nat.le_of_ble_eq_true rfl, Nat.le_of_ble_eq_true rfl⟩ (w.re rfl) (lv_sub hl [1, 2, 3, 0] rfl) (fun H locs ls w hl => ?_)
  have w : Wd D A s.heap [(a0, .inr (12, [.ref a1, .ref a2, .ref a3, .ref a4, .ref a5, .int 0, .ref a6, .int 0, .int 0, .int 0, .int 0, .int 0, .int 0, .int 0, .int 0, .int 0, .int 0, .int (-1), .ref a7, .ref a8, .int 1, .ref a9, .int 0, .ref a10, .ref a11, .ref a12, .ref a13, .ref a14, .int 0, .ref a15, .ref a16, .ref a17])), (a9, .inl (cy 2, 2465, .inr (.inl (rwF (fun _ => 0) 1))))] _ _ := w
  exact r_vret C w hlocks () hr rfl trivial [0, 1] rfl rfl ⟨Nat.le_of_ble_eq_true rfl, Nat.le_of_ble_eq_true rfl⟩ dX12_fills_23
set_option maxRecDepth 100000 in
set_option maxHeartbeats 4000000 in
theorem c_X12_lays_4 (l : Launch) (D : va_G) (cy : Nat → ClassId) (a0 a1 a2 a3 a4 a5 a6 a7 a8 a9 a10 a11 a12 a13 a14 a15 a16 a17 : Nat) : Ct l D cy yX12_lays cX12_lays 4 none 2 49 0 0 [(a0, .inr (12, [.ref a1, .ref a2, .ref a3, .ref a4, .ref a5, .int 0, .ref a6, .int 0, .int 0, .int 0, .int 0, .int 0, .int 0, .int 0, .int 0, .int 0, .int 0, .int (-1), .ref a7, .ref a8, .int 0, .ref a9, .int 0, .ref a10, .ref a11, .ref a12, .ref a13, .ref a14, .int 0, .ref a15, .ref a16, .ref a17])), (a1, .inl (cy 1, 1868, .inl (upd (upd (upd (fun _ => 0) 1 2) 2 2) 3 120))), (a7, .inl (cy 1, 1830, .inl (fun _ => 0))), (a8, .inl (cy 1, 1830, .inl (fun _ => 0))), (a9, .inl (cy 2, 2465, .inr (.inl (fun _ => 0))))] [.ref a0] (fun u : Unit => none) (fun _ => True) (fun u : Unit => [(a1, .inl (cy 1, 1868, .inl (upd (upd (upd (fun _ => 0) 1 2) 2 2) 3 120))), (a7, .inl (cy 1, 1830, .inl (lxF (fun _ => 0) 2 2 (PP 2 2 (2 + 1 - 2))))), (a8, .inl (cy 1, 1830, .inl (lyF (fun _ => 0) 2 2 (PP 2 2 (2 + 1 - 2))))), (a0, .inr (12, [.ref a1, .ref a2, .ref a3, .ref a4, .ref a5, .int 0, .ref a6, .int 0, .int 0, .int 0, .int 0, .int 0, .int 0, .int 0, .int 0, .int 0, .int 0, .int (-1), .ref a7, .ref a8, .int 1, .ref a9, .int 21, .ref a10, .ref a11, .ref a12, .ref a13, .ref a14, .int 0, .ref a15, .ref a16, .ref a17])), (a9, .inl (cy 2, 2465, .inr (.inl (rwF (fun _ => 0) 1))))]) := by
  refine Ct.of (by decide +kernel) (Nat.le_of_ble_eq_true rfl) ?_
  intro p e s m args below meth c A ls C hr hlocks hml hnm w hl
  have hl : lv_has ls 4 [(0, .ref a0)] := hl
  refine lv_aload_n C.1 C.2.1 dX12_lays_0 rfl (lv_at hl 0 rfl) ?_
  refine r_callV C w fv_RX12_253 (c_X12_layPairs_5 l D cy a0 a1 a2 a3 a4 a5 a6 a7 a8 a9 a10 a11 a12 a13 a14 a15 a16 a17) (hl.1.trans hml.symm) [0, 1, 2, 3] [4] (wr := [(a9, .inl (cy 2, 2465, .inr (.inl (fun _ => 0))))]) ⟨rfl, rfl, rfl, rfl, by decide⟩ 0 rfl rfl rfl rfl rfl ⟨Nat.le_of_ble_eq_true rfl, Nat.le_of_ble_eq_true rfl, Nat.le_of_ble_eq_true rfl⟩ 0 0 ⟨rfl, rfl, Nat.le_of_ble_eq_true rfl, Nat.le_of_ble_eq_true rfl⟩ dX12_lays_1 (fun u H locs hp w => ?_)
  have w : Wd D A s.heap [(a9, .inl (cy 2, 2465, .inr (.inl (fun _ => 0)))), (a0, .inr (12, [.ref a1, .ref a2, .ref a3, .ref a4, .ref a5, .int 0, .ref a6, .int 0, .int 0, .int 0, .int 0, .int 0, .int 0, .int 0, .int 0, .int 0, .int 0, .int (-1), .ref a7, .ref a8, .int 1, .ref a9, .int 0, .ref a10, .ref a11, .ref a12, .ref a13, .ref a14, .int 0, .ref a15, .ref a16, .ref a17])), (a1, .inl (cy 1, 1868, .inl (upd (upd (upd (fun _ => 0) 1 2) 2 2) 3 120))), (a7, .inl (cy 1, 1830, .inl (lxF (fun _ => 0) 2 2 (PP 2 2 (2 + 1 - 2))))), (a8, .inl (cy 1, 1830, .inl (lyF (fun _ => 0) 2 2 (PP 2 2 (2 + 1 - 2)))))] _ _ := w
  refine r_top (g2 := F0 m 4 ls []) rfl ?_
  refine lv_aload_n C.1 C.2.1 dX12_lays_4 rfl (lv_at hl 0 rfl) ?_
  refine lv_iconst (v := 0) C.1 C.2.1 dX12_lays_5 (by decide) ?_
  refine lv_iconst (v := 1) C.1 C.2.1 dX12_lays_6 (by decide) ?_
  refine r_callV C w fv_RX12_323 (c_X12_fills_4 l D cy a0 a1 a2 a3 a4 a5 a6 a7 a8 a9 a10 a11 a12 a13 a14 a15 a16 a17) (hl.1.trans hml.symm) [1, 0] [2, 3, 4] (wr := [(a1, .inl (cy 1, 1868, .inl (upd (upd (upd (fun _ => 0) 1 2) 2 2) 3 120))), (a7, .inl (cy 1, 1830, .inl (lxF (fun _ => 0) 2 2 (PP 2 2 (2 + 1 - 2))))), (a8, .inl (cy 1, 1830, .inl (lyF (fun _ => 0) 2 2 (PP 2 2 (2 + 1 - 2)))))]) ⟨rfl, rfl, rfl, rfl, by decide⟩ 0 rfl rfl rfl rfl rfl ⟨Nat.le_of_ble_eq_true rfl, Nat.le_of_ble_eq_true rfl, Nat.le_of_ble_eq_true rfl⟩ 0 0 ⟨rfl, rfl, Nat.le_of_ble_eq_true rfl, Nat.le_of_ble_eq_true rfl⟩ dX12_lays_7 (fun u H locs hp w => ?_)
  have w : Wd D A s.heap [(a1, .inl (cy 1, 1868, .inl (upd (upd (upd (fun _ => 0) 1 2) 2 2) 3 120))), (a7, .inl (cy 1, 1830, .inl (lxF (fun _ => 0) 2 2 (PP 2 2 (2 + 1 - 2))))), (a8, .inl (cy 1, 1830, .inl (lyF (fun _ => 0) 2 2 (PP 2 2 (2 + 1 - 2))))), (a0, .inr (12, [.ref a1, .ref a2, .ref a3, .ref a4, .ref a5, .int 0, .ref a6, .int 0, .int 0, .int 0, .int 0, .int 0, .int 0, .int 0, .int 0, .int 0, .int 0, .int (-1), .ref a7, .ref a8, .int 1, .ref a9, .int 0, .ref a10, .ref a11, .ref a12, .ref a13, .ref a14, .int 0, .ref a15, .ref a16, .ref a17])), (a9, .inl (cy 2, 2465, .inr (.inl (rwF (fun _ => 0) 1))))] _ _ := w
  refine r_top (g2 := F0 m 10 ls []) rfl ?_
  refine lv_iconst (v := 0) C.1 C.2.1 dX12_lays_10 (by decide) ?_
  refine lv_istore_n (lv' := [(1, .int 0), (0, .ref a0)]) C.1 C.2.1 dX12_lays_11 rfl hl (by decide) rfl (fun ls hl => ?_)
  refine lv_iload_n C.1 C.2.1 dX12_lays_12 rfl (lv_at hl 0 rfl) ?_
  refine lv_aload_n C.1 C.2.1 dX12_lays_13 rfl (lv_at hl 1 rfl) ?_
  refine r_get C w 3 rfl rfl 0 (by decide) fl_RX12_9 (v := .ref a1) rfl dX12_lays_14 ?_
  refine lv_bipush (v := 6) C.1 C.2.1 dX12_lays_17 (by decide) ?_
  refine r_iald C w 0 rfl (v := 0) (vinD (by decide)) rfl dX12_lays_19 ?_
  refine b_icmp_ge_t C (tgt := 88) dX12_lays_20 (by decide) (by decide) ?_
  refine lv_aload_n C.1 C.2.1 dX12_lays_88 rfl (lv_at hl 1 rfl) ?_
  refine lv_bipush (v := 21) C.1 C.2.1 dX12_lays_89 (by decide) ?_
  refine r_put C w 3 rfl rfl 22 (by decide) fl_RX12_297 rfl (ty := .int) (tyX12_ok 22 (by decide)) rfl rfl (Nat.le_of_ble_eq_true rfl) [(a1, .inl (cy 1, 1868, .inl (upd (upd (upd (fun _ => 0) 1 2) 2 2) 3 120))), (a7, .inl (cy 1, 1830, .inl (lxF (fun _ => 0) 2 2 (PP 2 2 (2 + 1 - 2))))), (a8, .inl (cy 1, 1830, .inl (lyF (fun _ => 0) 2 2 (PP 2 2 (2 + 1 - 2))))), (a0, .inr (12, [.ref a1, .ref a2, .ref a3, .ref a4, .ref a5, .int 0, .ref a6, .int 0, .int 0, .int 0, .int 0, .int 0, .int 0, .int 0, .int 0, .int 0, .int 0, .int (-1), .ref a7, .ref a8, .int 1, .ref a9, .int 21, .ref a10, .ref a11, .ref a12, .ref a13, .ref a14, .int 0, .ref a15, .ref a16, .ref a17])), (a9, .inl (cy 2, 2465, .inr (.inl (rwF (fun _ => 0) 1))))] rfl dX12_lays_91 (fun H locs w => ?_)
  exact r_vret C w hlocks () hr rfl trivial [0, 1, 2, 3, 4] rfl rfl ⟨Nat.le_of_ble_eq_true rfl, Nat.le_of_ble_eq_true rfl⟩ dX12_lays_94
set_option maxRecDepth 100000 in
set_option maxHeartbeats 4000000 in
theorem c_X12_has_9 (l : Launch) (D : va_G) (cy : Nat → ClassId) (a0 a1 a2 a3 a4 a5 a6 a7 a8 a9 a10 a11 a12 a13 a14 a15 a16 a17 : Nat) (x0 : Int32) (x1 : Int32) (f0 : Nat → Int64) (k0 : ¬ x0 < 0) (k1 : x0 < 1830) (hbit : bitW f0 x0 = 1) : Ct l D cy yX12_has cX12_has 3 (some .boolean) 0 0 0 0 [(a0, .inr (12, [.ref a1, .ref a2, .ref a3, .ref a4, .ref a5, .int 0, .ref a6, .int 0, .int 0, .int 0, .int 0, .int 0, .int 0, .int 0, .int 0, .int 0, .int 0, .int (-1), .ref a7, .ref a8, .int x1, .ref a9, .int 21, .ref a10, .ref a11, .ref a12, .ref a13, .ref a14, .int 0, .ref a15, .ref a16, .ref a17])), (a9, .inl (cy 2, 2465, .inr (.inl f0)))] [.ref a0, .int 0, .int x0] (fun u : Unit => some (.int 1)) (fun _ => True) (fun u : Unit => [(a0, .inr (12, [.ref a1, .ref a2, .ref a3, .ref a4, .ref a5, .int 0, .ref a6, .int 0, .int 0, .int 0, .int 0, .int 0, .int 0, .int 0, .int 0, .int 0, .int 0, .int (-1), .ref a7, .ref a8, .int x1, .ref a9, .int 21, .ref a10, .ref a11, .ref a12, .ref a13, .ref a14, .int 0, .ref a15, .ref a16, .ref a17])), (a9, .inl (cy 2, 2465, .inr (.inl f0)))]) := by
  refine Ct.of (by decide +kernel) (Nat.le_of_ble_eq_true rfl) ?_
  intro p e s m args below meth c A ls C hr hlocks hml hnm w hl
  have hl : lv_has ls 3 [(0, .ref a0), (1, .int 0), (2, .int x0)] := hl
  refine lv_aload_n C.1 C.2.1 dX12_has_0 rfl (lv_at hl 0 rfl) ?_
  refine r_get C w 0 rfl rfl 21 (by decide) fl_RX12_39 (v := .ref a9) rfl dX12_has_1 ?_
  refine lv_bipush (v := 29) C.1 C.2.1 dX12_has_4 (by decide) ?_
  refine lv_iload_n C.1 C.2.1 dX12_has_6 rfl (lv_at hl 1 rfl) ?_
  refine r_imul C (v := 0) dX12_has_7 (by decide) ?_
  refine lv_iload_n C.1 C.2.1 dX12_has_8 rfl (lv_at hl 2 rfl) ?_
  refine lv_bipush (v := 6) C.1 C.2.1 dX12_has_9 (by decide) ?_
  refine r_ishr C (v := (x0 >>> (6 &&& 31))) dX12_has_11 rfl ?_
  refine r_iadd C (v := ((0 : Int32) + (x0 >>> (6 &&& 31)))) dX12_has_12 rfl ?_
  refine r_lald C w 1 rfl (v := (f0 ((0 : Int32) + (x0 >>> (6 &&& 31))).toNatClampNeg)) (plW_in k0 k1) rfl dX12_has_13 ?_
  refine lv_iload_n C.1 C.2.1 dX12_has_14 rfl (lv_at hl 2 rfl) ?_
  refine lv_bipush (v := 63) C.1 C.2.1 dX12_has_15 (by decide) ?_
  refine r_iand C (v := (x0 &&& 63)) dX12_has_17 rfl ?_
  refine lv_lshr (v := ((f0 ((0 : Int32) + (x0 >>> (6 &&& 31))).toNatClampNeg) >>> (Int32.toInt64 (x0 &&& 63) &&& 63))) C.1 C.2.1 dX12_has_18 rfl ?_
  refine lv_lconst (v := 1) C.1 C.2.1 dX12_has_19 (by decide) ?_
  refine r_land C (v := (((f0 ((0 : Int32) + (x0 >>> (6 &&& 31))).toNatClampNeg) >>> (Int32.toInt64 (x0 &&& 63) &&& 63)) &&& 1)) dX12_has_20 rfl ?_
  refine lv_lconst (v := 1) C.1 C.2.1 dX12_has_21 (by decide) ?_
  refine r_lcmp C (v := 0) dX12_has_22 (lgc_1 hbit) ?_
  refine b_if_ne_f C (tgt := 30) dX12_has_23 (by decide) (by decide) ?_
  refine lv_iconst (v := 1) C.1 C.2.1 dX12_has_26 (by decide) ?_
  refine lv_goto (tgt := 31) C.1 C.2.1 dX12_has_27 (by decide) ?_
  exact r_iret C w hlocks () hr rfl rfl trivial [0, 1] rfl rfl ⟨Nat.le_of_ble_eq_true rfl, Nat.le_of_ble_eq_true rfl⟩ dX12_has_31
set_option maxRecDepth 100000 in
set_option maxHeartbeats 4000000 in
theorem c_X12_manyOf_3 (l : Launch) (D : va_G) (cy : Nat → ClassId) (a0 a1 a2 a3 a4 a5 a6 a7 a8 a9 a10 a11 a12 a13 a14 a15 a16 a17 : Nat) : Ct l D cy yX12_manyOf cX12_manyOf 4 (some .int) 1 22 0 0 [(a0, .inr (12, [.ref a1, .ref a2, .ref a3, .ref a4, .ref a5, .int 0, .ref a6, .int 0, .int 0, .int 0, .int 0, .int 0, .int 0, .int 0, .int 0, .int 0, .int 0, .int (-1), .ref a7, .ref a8, .int 1, .ref a9, .int 21, .ref a10, .ref a11, .ref a12, .ref a13, .ref a14, .int 0, .ref a15, .ref a16, .ref a17])), (a9, .inl (cy 2, 2465, .inr (.inl (rwF (fun _ => 0) 1))))] [.ref a0, .int 0] (fun u : Unit => some (.int 1)) (fun _ => True) (fun u : Unit => [(a0, .inr (12, [.ref a1, .ref a2, .ref a3, .ref a4, .ref a5, .int 0, .ref a6, .int 0, .int 0, .int 0, .int 0, .int 0, .int 0, .int 0, .int 0, .int 0, .int 0, .int (-1), .ref a7, .ref a8, .int 1, .ref a9, .int 21, .ref a10, .ref a11, .ref a12, .ref a13, .ref a14, .int 0, .ref a15, .ref a16, .ref a17])), (a9, .inl (cy 2, 2465, .inr (.inl (rwF (fun _ => 0) 1))))]) := by
  refine Ct.of (by decide +kernel) (Nat.le_of_ble_eq_true rfl) ?_
  intro p e s m args below meth c A ls C hr hlocks hml hnm w hl
  have hl : lv_has ls 4 [(0, .ref a0), (1, .int 0)] := hl
  refine lv_iconst (v := 0) C.1 C.2.1 dX12_manyOf_0 (by decide) ?_
  refine lv_istore_n (lv' := [(2, .int 0), (0, .ref a0), (1, .int 0)]) C.1 C.2.1 dX12_manyOf_1 rfl hl (by decide) rfl (fun ls hl => ?_)
  refine lv_iconst (v := 0) C.1 C.2.1 dX12_manyOf_2 (by decide) ?_
  refine lv_istore_n (lv' := [(3, .int 0), (2, .int 0), (0, .ref a0), (1, .int 0)]) C.1 C.2.1 dX12_manyOf_3 rfl hl (by decide) rfl (fun ls hl => ?_)
  refine lp_X12_manyOf_1 a0 a1 a2 a3 a4 a5 a6 a7 a8 a9 a10 a11 a12 a13 a14 a15 a16 a17 (fun _ => 0) 1 (1) rfl (by decide) C hml (Nat.le_of_ble_eq_true rfl) (Nat.le_of_ble_eq_true rfl) ⟨Nat.le_of_ble_eq_true rfl, Nat.le_of_ble_eq_true rfl⟩ (w.re rfl) (lv_sub hl [2, 3, 1, 0] rfl) (fun H locs ls w hl => ?_)
  have w : Wd D A s.heap [(a0, .inr (12, [.ref a1, .ref a2, .ref a3, .ref a4, .ref a5, .int 0, .ref a6, .int 0, .int 0, .int 0, .int 0, .int 0, .int 0, .int 0, .int 0, .int 0, .int 0, .int (-1), .ref a7, .ref a8, .int 1, .ref a9, .int 21, .ref a10, .ref a11, .ref a12, .ref a13, .ref a14, .int 0, .ref a15, .ref a16, .ref a17])), (a9, .inl (cy 2, 2465, .inr (.inl (rwF (fun _ => 0) 1))))] _ _ := w
  refine lv_iload_n C.1 C.2.1 dX12_manyOf_35 rfl (lv_at hl 2 rfl) ?_
  exact r_iret C w hlocks () hr rfl rfl trivial [0, 1] rfl rfl ⟨Nat.le_of_ble_eq_true rfl, Nat.le_of_ble_eq_true rfl⟩ dX12_manyOf_36
set_option maxRecDepth 100000 in
set_option maxHeartbeats 4000000 in
theorem c_X12_leftNow_2 (l : Launch) (D : va_G) (cy : Nat → ClassId) (a0 a1 a2 a3 a4 a5 a6 a7 a8 a9 a10 a11 a12 a13 a14 a15 a16 a17 : Nat) : Ct l D cy yX12_leftNow cX12_leftNow 1 (some .int) 3 72 0 0 [(a0, .inr (12, [.ref a1, .ref a2, .ref a3, .ref a4, .ref a5, .int 0, .ref a6, .int 0, .int 0, .int 0, .int 0, .int 0, .int 0, .int 0, .int 0, .int 0, .int 0, .int (-1), .ref a7, .ref a8, .int 0, .ref a9, .int 0, .ref a10, .ref a11, .ref a12, .ref a13, .ref a14, .int 0, .ref a15, .ref a16, .ref a17])), (a1, .inl (cy 1, 1868, .inl (upd (upd (upd (fun _ => 0) 1 2) 2 2) 3 120))), (a7, .inl (cy 1, 1830, .inl (fun _ => 0))), (a8, .inl (cy 1, 1830, .inl (fun _ => 0))), (a9, .inl (cy 2, 2465, .inr (.inl (fun _ => 0))))] [.ref a0] (fun u : Unit => some (.int 1)) (fun _ => True) (fun u : Unit => [(a1, .inl (cy 1, 1868, .inl (upd (upd (upd (fun _ => 0) 1 2) 2 2) 3 120))), (a7, .inl (cy 1, 1830, .inl (lxF (fun _ => 0) 2 2 (PP 2 2 (2 + 1 - 2))))), (a8, .inl (cy 1, 1830, .inl (lyF (fun _ => 0) 2 2 (PP 2 2 (2 + 1 - 2))))), (a0, .inr (12, [.ref a1, .ref a2, .ref a3, .ref a4, .ref a5, .int 0, .ref a6, .int 0, .int 0, .int 0, .int 0, .int 0, .int 0, .int 0, .int 0, .int 0, .int 0, .int (-1), .ref a7, .ref a8, .int 1, .ref a9, .int 21, .ref a10, .ref a11, .ref a12, .ref a13, .ref a14, .int 0, .ref a15, .ref a16, .ref a17])), (a9, .inl (cy 2, 2465, .inr (.inl (rwF (fun _ => 0) 1))))]) := by
  refine Ct.of (by decide +kernel) (Nat.le_of_ble_eq_true rfl) ?_
  intro p e s m args below meth c A ls C hr hlocks hml hnm w hl
  have hl : lv_has ls 1 [(0, .ref a0)] := hl
  refine lv_aload_n C.1 C.2.1 dX12_leftNow_0 rfl (lv_at hl 0 rfl) ?_
  refine r_callV C w fv_RX12_330 (c_X12_lays_4 l D cy a0 a1 a2 a3 a4 a5 a6 a7 a8 a9 a10 a11 a12 a13 a14 a15 a16 a17) (hl.1.trans hml.symm) [0, 1, 2, 3, 4] [] (wr := []) ⟨rfl, rfl, rfl, rfl, by decide⟩ 0 rfl rfl rfl rfl rfl ⟨Nat.le_of_ble_eq_true rfl, Nat.le_of_ble_eq_true rfl, Nat.le_of_ble_eq_true rfl⟩ 0 0 ⟨rfl, rfl, Nat.le_of_ble_eq_true rfl, Nat.le_of_ble_eq_true rfl⟩ dX12_leftNow_1 (fun u H locs hp w => ?_)
  have w : Wd D A s.heap [(a1, .inl (cy 1, 1868, .inl (upd (upd (upd (fun _ => 0) 1 2) 2 2) 3 120))), (a7, .inl (cy 1, 1830, .inl (lxF (fun _ => 0) 2 2 (PP 2 2 (2 + 1 - 2))))), (a8, .inl (cy 1, 1830, .inl (lyF (fun _ => 0) 2 2 (PP 2 2 (2 + 1 - 2))))), (a0, .inr (12, [.ref a1, .ref a2, .ref a3, .ref a4, .ref a5, .int 0, .ref a6, .int 0, .int 0, .int 0, .int 0, .int 0, .int 0, .int 0, .int 0, .int 0, .int 0, .int (-1), .ref a7, .ref a8, .int 1, .ref a9, .int 21, .ref a10, .ref a11, .ref a12, .ref a13, .ref a14, .int 0, .ref a15, .ref a16, .ref a17])), (a9, .inl (cy 2, 2465, .inr (.inl (rwF (fun _ => 0) 1))))] _ _ := w
  refine r_top (g2 := F0 m 4 ls []) rfl ?_
  refine lv_aload_n C.1 C.2.1 dX12_leftNow_4 rfl (lv_at hl 0 rfl) ?_
  refine lv_aload_n C.1 C.2.1 dX12_leftNow_5 rfl (lv_at hl 0 rfl) ?_
  refine r_get C w 3 rfl rfl 0 (by decide) fl_RX12_9 (v := .ref a1) rfl dX12_leftNow_6 ?_
  refine lv_bipush (v := 6) C.1 C.2.1 dX12_leftNow_9 (by decide) ?_
  refine r_iald C w 0 rfl (v := 0) (vinD (by decide)) rfl dX12_leftNow_11 ?_
  refine r_callV C w fv_RX12_333 (c_X12_manyOf_3 l D cy a0 a1 a2 a3 a4 a5 a6 a7 a8 a9 a10 a11 a12 a13 a14 a15 a16 a17) (hl.1.trans hml.symm) [3, 4] [0, 1, 2] (wr := [(a1, .inl (cy 1, 1868, .inl (upd (upd (upd (fun _ => 0) 1 2) 2 2) 3 120))), (a7, .inl (cy 1, 1830, .inl (lxF (fun _ => 0) 2 2 (PP 2 2 (2 + 1 - 2))))), (a8, .inl (cy 1, 1830, .inl (lyF (fun _ => 0) 2 2 (PP 2 2 (2 + 1 - 2)))))]) ⟨rfl, rfl, rfl, rfl, by decide⟩ 0 rfl rfl rfl rfl rfl ⟨Nat.le_of_ble_eq_true rfl, Nat.le_of_ble_eq_true rfl, Nat.le_of_ble_eq_true rfl⟩ 0 0 ⟨rfl, rfl, Nat.le_of_ble_eq_true rfl, Nat.le_of_ble_eq_true rfl⟩ dX12_leftNow_12 (fun u H locs hp w => ?_)
  have w : Wd D A s.heap [(a1, .inl (cy 1, 1868, .inl (upd (upd (upd (fun _ => 0) 1 2) 2 2) 3 120))), (a7, .inl (cy 1, 1830, .inl (lxF (fun _ => 0) 2 2 (PP 2 2 (2 + 1 - 2))))), (a8, .inl (cy 1, 1830, .inl (lyF (fun _ => 0) 2 2 (PP 2 2 (2 + 1 - 2))))), (a0, .inr (12, [.ref a1, .ref a2, .ref a3, .ref a4, .ref a5, .int 0, .ref a6, .int 0, .int 0, .int 0, .int 0, .int 0, .int 0, .int 0, .int 0, .int 0, .int 0, .int (-1), .ref a7, .ref a8, .int 1, .ref a9, .int 21, .ref a10, .ref a11, .ref a12, .ref a13, .ref a14, .int 0, .ref a15, .ref a16, .ref a17])), (a9, .inl (cy 2, 2465, .inr (.inl (rwF (fun _ => 0) 1))))] _ _ := w
  refine r_top (g2 := F0 m 15 ls [.int 1]) rfl ?_
  exact r_iret C w hlocks () hr rfl rfl trivial [0, 1, 2, 3, 4] rfl rfl ⟨Nat.le_of_ble_eq_true rfl, Nat.le_of_ble_eq_true rfl⟩ dX12_leftNow_15
set_option maxRecDepth 100000 in
set_option maxHeartbeats 4000000 in
theorem c_X12_leftWith_1 (l : Launch) (D : va_G) (cy : Nat → ClassId) (a0 a1 a2 a3 a4 a5 a6 a7 a8 a9 a10 a11 a12 a13 a14 a15 a16 a17 : Nat) : Ct l D cy yX12_leftWith cX12_leftWith 6 (some .int) 4 92 0 0 [(a0, .inr (12, [.ref a1, .ref a2, .ref a3, .ref a4, .ref a5, .int 0, .ref a6, .int 0, .int 0, .int 0, .int 0, .int 0, .int 0, .int 0, .int 0, .int 0, .int 0, .int (-1), .ref a7, .ref a8, .int 0, .ref a9, .int 0, .ref a10, .ref a11, .ref a12, .ref a13, .ref a14, .int 0, .ref a15, .ref a16, .ref a17])), (a1, .inl (cy 1, 1868, .inl (upd (upd (upd (fun _ => 0) 1 2) 2 20) 3 120))), (a7, .inl (cy 1, 1830, .inl (fun _ => 0))), (a8, .inl (cy 1, 1830, .inl (fun _ => 0))), (a9, .inl (cy 2, 2465, .inr (.inl (fun _ => 0))))] [.ref a0, .int 2, .int 2] (fun u : Unit => some (.int 1)) (fun _ => True) (fun u : Unit => [(a1, .inl (cy 1, 1868, .inl (upd (upd (upd (fun _ => 0) 1 2) 2 20) 3 120))), (a7, .inl (cy 1, 1830, .inl (lxF (fun _ => 0) 2 2 (PP 2 2 (2 + 1 - 2))))), (a8, .inl (cy 1, 1830, .inl (lyF (fun _ => 0) 2 2 (PP 2 2 (2 + 1 - 2))))), (a0, .inr (12, [.ref a1, .ref a2, .ref a3, .ref a4, .ref a5, .int 0, .ref a6, .int 0, .int 0, .int 0, .int 0, .int 0, .int 0, .int 0, .int 0, .int 0, .int 0, .int (-1), .ref a7, .ref a8, .int 1, .ref a9, .int 21, .ref a10, .ref a11, .ref a12, .ref a13, .ref a14, .int 0, .ref a15, .ref a16, .ref a17])), (a9, .inl (cy 2, 2465, .inr (.inl (rwF (fun _ => 0) 1))))]) := by
  refine Ct.of (by decide +kernel) (Nat.le_of_ble_eq_true rfl) ?_
  intro p e s m args below meth c A ls C hr hlocks hml hnm w hl
  have hl : lv_has ls 6 [(0, .ref a0), (1, .int 2), (2, .int 2)] := hl
  refine lv_aload_n C.1 C.2.1 dX12_leftWith_0 rfl (lv_at hl 0 rfl) ?_
  refine r_get C w 0 rfl rfl 0 (by decide) fl_RX12_9 (v := .ref a1) rfl dX12_leftWith_1 ?_
  refine lv_iconst (v := 1) C.1 C.2.1 dX12_leftWith_4 (by decide) ?_
  refine r_iald C w 1 rfl (v := 2) (vinD (by decide)) rfl dX12_leftWith_5 ?_
  refine lv_istore_n (lv' := [(3, .int 2), (0, .ref a0), (1, .int 2), (2, .int 2)]) C.1 C.2.1 dX12_leftWith_6 rfl hl (by decide) rfl (fun ls hl => ?_)
  refine lv_aload_n C.1 C.2.1 dX12_leftWith_7 rfl (lv_at hl 1 rfl) ?_
  refine r_get C w 0 rfl rfl 0 (by decide) fl_RX12_9 (v := .ref a1) rfl dX12_leftWith_8 ?_
  refine lv_iconst (v := 2) C.1 C.2.1 dX12_leftWith_11 (by decide) ?_
  refine r_iald C w 1 rfl (v := 20) (vinD (by decide)) rfl dX12_leftWith_12 ?_
  refine lv_istore (lv' := [(4, .int 20), (3, .int 2), (0, .ref a0), (1, .int 2), (2, .int 2)]) C.1 C.2.1 dX12_leftWith_13 hl (by decide) rfl (fun ls hl => ?_)
  refine lv_aload_n C.1 C.2.1 dX12_leftWith_15 rfl (lv_at hl 2 rfl) ?_
  refine r_get C w 0 rfl rfl 0 (by decide) fl_RX12_9 (v := .ref a1) rfl dX12_leftWith_16 ?_
  refine lv_iconst (v := 1) C.1 C.2.1 dX12_leftWith_19 (by decide) ?_
  refine lv_iload_n C.1 C.2.1 dX12_leftWith_20 rfl (lv_at hl 3 rfl) ?_
  refine r_iast C w 1 rfl (vinD (by decide)) (upd (upd (upd (fun _ => 0) 1 2) 2 20) 3 120) (show upd (upd (upd (upd (fun _ => 0) 1 2) 2 20) 3 120) 1 2 = (upd (upd (upd (fun _ => 0) 1 2) 2 20) 3 120) from by funext j; simp only [upd]; (repeat' split) <;> (first | rfl | omega)) [(a0, .inr (12, [.ref a1, .ref a2, .ref a3, .ref a4, .ref a5, .int 0, .ref a6, .int 0, .int 0, .int 0, .int 0, .int 0, .int 0, .int 0, .int 0, .int 0, .int 0, .int (-1), .ref a7, .ref a8, .int 0, .ref a9, .int 0, .ref a10, .ref a11, .ref a12, .ref a13, .ref a14, .int 0, .ref a15, .ref a16, .ref a17])), (a1, .inl (cy 1, 1868, .inl (upd (upd (upd (fun _ => 0) 1 2) 2 20) 3 120))), (a7, .inl (cy 1, 1830, .inl (fun _ => 0))), (a8, .inl (cy 1, 1830, .inl (fun _ => 0))), (a9, .inl (cy 2, 2465, .inr (.inl (fun _ => 0))))] rfl dX12_leftWith_21 (fun H locs w => ?_)
  refine lv_aload_n C.1 C.2.1 dX12_leftWith_22 rfl (lv_at hl 2 rfl) ?_
  refine r_get C w 0 rfl rfl 0 (by decide) fl_RX12_9 (v := .ref a1) rfl dX12_leftWith_23 ?_
  refine lv_iconst (v := 2) C.1 C.2.1 dX12_leftWith_26 (by decide) ?_
  refine lv_iload_n C.1 C.2.1 dX12_leftWith_27 rfl (lv_at hl 4 rfl) ?_
  refine r_iast C w 1 rfl (vinD (by decide)) (upd (upd (upd (fun _ => 0) 1 2) 2 2) 3 120) (show upd (upd (upd (upd (fun _ => 0) 1 2) 2 20) 3 120) 2 2 = (upd (upd (upd (fun _ => 0) 1 2) 2 2) 3 120) from by funext j; simp only [upd]; (repeat' split) <;> (first | rfl | omega)) [(a0, .inr (12, [.ref a1, .ref a2, .ref a3, .ref a4, .ref a5, .int 0, .ref a6, .int 0, .int 0, .int 0, .int 0, .int 0, .int 0, .int 0, .int 0, .int 0, .int 0, .int (-1), .ref a7, .ref a8, .int 0, .ref a9, .int 0, .ref a10, .ref a11, .ref a12, .ref a13, .ref a14, .int 0, .ref a15, .ref a16, .ref a17])), (a1, .inl (cy 1, 1868, .inl (upd (upd (upd (fun _ => 0) 1 2) 2 2) 3 120))), (a7, .inl (cy 1, 1830, .inl (fun _ => 0))), (a8, .inl (cy 1, 1830, .inl (fun _ => 0))), (a9, .inl (cy 2, 2465, .inr (.inl (fun _ => 0))))] rfl dX12_leftWith_28 (fun H locs w => ?_)
  refine lv_aload_n C.1 C.2.1 dX12_leftWith_29 rfl (lv_at hl 2 rfl) ?_
  refine r_callV C w fv_RX12_336 (c_X12_leftNow_2 l D cy a0 a1 a2 a3 a4 a5 a6 a7 a8 a9 a10 a11 a12 a13 a14 a15 a16 a17) (hl.1.trans hml.symm) [0, 1, 2, 3, 4] [] (wr := []) ⟨rfl, rfl, rfl, rfl, by decide⟩ 0 rfl rfl rfl rfl rfl ⟨Nat.le_of_ble_eq_true rfl, Nat.le_of_ble_eq_true rfl, Nat.le_of_ble_eq_true rfl⟩ 0 0 ⟨rfl, rfl, Nat.le_of_ble_eq_true rfl, Nat.le_of_ble_eq_true rfl⟩ dX12_leftWith_30 (fun u H locs hp w => ?_)
  have w : Wd D A s.heap [(a1, .inl (cy 1, 1868, .inl (upd (upd (upd (fun _ => 0) 1 2) 2 2) 3 120))), (a7, .inl (cy 1, 1830, .inl (lxF (fun _ => 0) 2 2 (PP 2 2 (2 + 1 - 2))))), (a8, .inl (cy 1, 1830, .inl (lyF (fun _ => 0) 2 2 (PP 2 2 (2 + 1 - 2))))), (a0, .inr (12, [.ref a1, .ref a2, .ref a3, .ref a4, .ref a5, .int 0, .ref a6, .int 0, .int 0, .int 0, .int 0, .int 0, .int 0, .int 0, .int 0, .int 0, .int 0, .int (-1), .ref a7, .ref a8, .int 1, .ref a9, .int 21, .ref a10, .ref a11, .ref a12, .ref a13, .ref a14, .int 0, .ref a15, .ref a16, .ref a17])), (a9, .inl (cy 2, 2465, .inr (.inl (rwF (fun _ => 0) 1))))] _ _ := w
  refine r_top (g2 := F0 m 33 ls [.int 1]) rfl ?_
  refine lv_istore (lv' := [(5, .int 1), (4, .int 20), (3, .int 2), (0, .ref a0), (1, .int 2), (2, .int 2)]) C.1 C.2.1 dX12_leftWith_33 hl (by decide) rfl (fun ls hl => ?_)
  refine lv_aload_n C.1 C.2.1 dX12_leftWith_35 rfl (lv_at hl 3 rfl) ?_
  refine r_get C w 3 rfl rfl 0 (by decide) fl_RX12_9 (v := .ref a1) rfl dX12_leftWith_36 ?_
  refine lv_iconst (v := 1) C.1 C.2.1 dX12_leftWith_39 (by decide) ?_
  refine lv_iload_n C.1 C.2.1 dX12_leftWith_40 rfl (lv_at hl 2 rfl) ?_
  refine r_iast C w 0 rfl (vinD (by decide)) (upd (upd (upd (fun _ => 0) 1 2) 2 2) 3 120) (show upd (upd (upd (upd (fun _ => 0) 1 2) 2 2) 3 120) 1 2 = (upd (upd (upd (fun _ => 0) 1 2) 2 2) 3 120) from by funext j; simp only [upd]; (repeat' split) <;> (first | rfl | omega)) [(a1, .inl (cy 1, 1868, .inl (upd (upd (upd (fun _ => 0) 1 2) 2 2) 3 120))), (a7, .inl (cy 1, 1830, .inl (lxF (fun _ => 0) 2 2 (PP 2 2 (2 + 1 - 2))))), (a8, .inl (cy 1, 1830, .inl (lyF (fun _ => 0) 2 2 (PP 2 2 (2 + 1 - 2))))), (a0, .inr (12, [.ref a1, .ref a2, .ref a3, .ref a4, .ref a5, .int 0, .ref a6, .int 0, .int 0, .int 0, .int 0, .int 0, .int 0, .int 0, .int 0, .int 0, .int 0, .int (-1), .ref a7, .ref a8, .int 1, .ref a9, .int 21, .ref a10, .ref a11, .ref a12, .ref a13, .ref a14, .int 0, .ref a15, .ref a16, .ref a17])), (a9, .inl (cy 2, 2465, .inr (.inl (rwF (fun _ => 0) 1))))] rfl dX12_leftWith_41 (fun H locs w => ?_)
  refine lv_aload_n C.1 C.2.1 dX12_leftWith_42 rfl (lv_at hl 3 rfl) ?_
  refine r_get C w 3 rfl rfl 0 (by decide) fl_RX12_9 (v := .ref a1) rfl dX12_leftWith_43 ?_
  refine lv_iconst (v := 2) C.1 C.2.1 dX12_leftWith_46 (by decide) ?_
  refine lv_iload C.1 C.2.1 dX12_leftWith_47 (lv_at hl 1 rfl) ?_
  refine r_iast C w 0 rfl (vinD (by decide)) (upd (upd (upd (fun _ => 0) 1 2) 2 20) 3 120) (show upd (upd (upd (upd (fun _ => 0) 1 2) 2 2) 3 120) 2 20 = (upd (upd (upd (fun _ => 0) 1 2) 2 20) 3 120) from by funext j; simp only [upd]; (repeat' split) <;> (first | rfl | omega)) [(a1, .inl (cy 1, 1868, .inl (upd (upd (upd (fun _ => 0) 1 2) 2 20) 3 120))), (a7, .inl (cy 1, 1830, .inl (lxF (fun _ => 0) 2 2 (PP 2 2 (2 + 1 - 2))))), (a8, .inl (cy 1, 1830, .inl (lyF (fun _ => 0) 2 2 (PP 2 2 (2 + 1 - 2))))), (a0, .inr (12, [.ref a1, .ref a2, .ref a3, .ref a4, .ref a5, .int 0, .ref a6, .int 0, .int 0, .int 0, .int 0, .int 0, .int 0, .int 0, .int 0, .int 0, .int 0, .int (-1), .ref a7, .ref a8, .int 1, .ref a9, .int 21, .ref a10, .ref a11, .ref a12, .ref a13, .ref a14, .int 0, .ref a15, .ref a16, .ref a17])), (a9, .inl (cy 2, 2465, .inr (.inl (rwF (fun _ => 0) 1))))] rfl dX12_leftWith_49 (fun H locs w => ?_)
  refine lv_iload C.1 C.2.1 dX12_leftWith_50 (lv_at hl 0 rfl) ?_
  exact r_iret C w hlocks () hr rfl rfl trivial [0, 1, 2, 3, 4] rfl rfl ⟨Nat.le_of_ble_eq_true rfl, Nat.le_of_ble_eq_true rfl⟩ dX12_leftWith_52
theorem dX12_upTo_54 : decode cX12_upTo 54 = .ok (.iconst 1, 1) := by decide +kernel
theorem dX12_upTo_55 : decode cX12_upTo 55 = .ok (.if_icmp .eq 6, 3) := by decide +kernel
theorem dX12_upTo_61 : decode cX12_upTo 61 = .ok (.iload_n 3, 1) := by decide +kernel
theorem dX12_upTo_62 : decode cX12_upTo 62 = .ok (.istore_n 2, 1) := by decide +kernel
theorem dX12_upTo_63 : decode cX12_upTo 63 = .ok (.iload_n 1, 1) := by decide +kernel
theorem dX12_upTo_64 : decode cX12_upTo 64 = .ok (.ifCond .ne 5, 3) := by decide +kernel
theorem dX12_upTo_69 : decode cX12_upTo 69 = .ok (.iinc 3 1, 3) := by decide +kernel
theorem dX12_upTo_72 : decode cX12_upTo 72 = .ok (.goto (-35), 3) := by decide +kernel
set_option maxRecDepth 100000 in
set_option maxHeartbeats 4000000 in
theorem lp_X12_layPairs_3 {p : Program} {l : Launch} {e : Env} {R : Room} {s : State} {m : MethodId} {args : Array Value} {below : List Frame} {meth : Method} {c : Code} {cells slots : Nat} {Q : State → Prop} {D : va_G} {cy : Nat → ClassId} {A : Nat → Prop} {H : Heap} {locs : List Loc} {ls : Array Slot} (a0 a1 a2 a3 a4 a5 a6 a7 a8 a9 a10 a11 a12 a13 a14 a15 a16 a17 : Nat) (f g : Nat → Int32) (a b : Nat) (x2 x3 : Int32) (hab : 1 ≤ a ∧ a ≤ b ∧ b ≤ 60) (e2 : x2 = nI a) (e3 : x3 = nI b) (C : Cx p s m args c cX12_layPairs RX12 D cy A) (hml : c.maxLocals = 3) (w : Wd D A s.heap [(a0, .inr (12, [.ref a1, .ref a2, .ref a3, .ref a4, .ref a5, .int 0, .ref a6, .int 0, .int 0, .int 0, .int 0, .int 0, .int 0, .int 0, .int 0, .int 0, .int 0, .int (-1), .ref a7, .ref a8, .int 0, .ref a9, .int 21, .ref a10, .ref a11, .ref a12, .ref a13, .ref a14, .int 0, .ref a15, .ref a16, .ref a17])), (a1, .inl (cy 1, 1868, .inl (upd (upd (upd (fun _ => 0) 1 x2) 2 x3) 3 120))), (a7, .inl (cy 1, 1830, .inl (f))), (a8, .inl (cy 1, 1830, .inl (g)))] H locs) (hl : lv_has ls 3 [(0, .ref a0), (1, .int x2)])
    (kk : ∀ (H : Heap) (locs : List Loc) (ls : Array Slot) (pv : Int32), pv = nI (PP b a (b + 1 - a)) → Wd D A s.heap [(a0, .inr (12, [.ref a1, .ref a2, .ref a3, .ref a4, .ref a5, .int 0, .ref a6, .int 0, .int 0, .int 0, .int 0, .int 0, .int 0, .int 0, .int 0, .int 0, .int 0, .int (-1), .ref a7, .ref a8, .int pv, .ref a9, .int 21, .ref a10, .ref a11, .ref a12, .ref a13, .ref a14, .int 0, .ref a15, .ref a16, .ref a17])), (a1, .inl (cy 1, 1868, .inl (upd (upd (upd (fun _ => 0) 1 x2) 2 x3) 3 120))), (a7, .inl (cy 1, 1830, .inl (lxF f a b (PP b a (b + 1 - a))))), (a8, .inl (cy 1, 1830, .inl (lyF g a b (PP b a (b + 1 - a)))))] H locs → lv_has ls 3 [(0, .ref a0)] → W p l e R s m args below meth c H locs cells slots Q (F0 m 95 ls [])) : W p l e R s m args below meth c H locs cells slots Q (F0 m 12 ls []) := by
  obtain ⟨ha1, hab1, hb60⟩ := hab
  have inner : ∀ (k xn yn : Nat) (x y pv : Int32) (H : Heap) (locs : List Loc) (ls : Array Slot), a ≤ xn → xn ≤ b → xn ≤ yn → yn + k = b + 1 → x = nI xn → y = nI yn → pv = nI (PP b a (xn - a) + (yn - xn)) → Wd D A s.heap [(a0, .inr (12, [.ref a1, .ref a2, .ref a3, .ref a4, .ref a5, .int 0, .ref a6, .int 0, .int 0, .int 0, .int 0, .int 0, .int 0, .int 0, .int 0, .int 0, .int 0, .int (-1), .ref a7, .ref a8, .int pv, .ref a9, .int 21, .ref a10, .ref a11, .ref a12, .ref a13, .ref a14, .int 0, .ref a15, .ref a16, .ref a17])), (a1, .inl (cy 1, 1868, .inl (upd (upd (upd (fun _ => 0) 1 x2) 2 x3) 3 120))), (a7, .inl (cy 1, 1830, .inl (lxF f a b (PP b a (xn - a) + (yn - xn))))), (a8, .inl (cy 1, 1830, .inl (lyF g a b (PP b a (xn - a) + (yn - xn)))))] H locs → lv_has ls 3 [(0, .ref a0), (1, .int x), (2, .int y)] →
      (∀ (H : Heap) (locs : List Loc) (ls : Array Slot) (pv y1 : Int32), pv = nI (PP b a (xn + 1 - a)) → Wd D A s.heap [(a0, .inr (12, [.ref a1, .ref a2, .ref a3, .ref a4, .ref a5, .int 0, .ref a6, .int 0, .int 0, .int 0, .int 0, .int 0, .int 0, .int 0, .int 0, .int 0, .int 0, .int (-1), .ref a7, .ref a8, .int pv, .ref a9, .int 21, .ref a10, .ref a11, .ref a12, .ref a13, .ref a14, .int 0, .ref a15, .ref a16, .ref a17])), (a1, .inl (cy 1, 1868, .inl (upd (upd (upd (fun _ => 0) 1 x2) 2 x3) 3 120))), (a7, .inl (cy 1, 1830, .inl (lxF f a b (PP b a (xn + 1 - a))))), (a8, .inl (cy 1, 1830, .inl (lyF g a b (PP b a (xn + 1 - a)))))] H locs → lv_has ls 3 [(0, .ref a0), (1, .int x), (2, .int y1)] → W p l e R s m args below meth c H locs cells slots Q (F0 m 89 ls [])) → W p l e R s m args below meth c H locs cells slots Q (F0 m 31 ls []) := by
    intro k
    induction k with
    | zero =>
      intro xn yn x y pv H locs ls h1 h2 h3 h4 ex ey em w hl kk
      have hy : yn = b + 1 := by omega
      have c1 : x3 < y := by rw [e3, ey, hy]; exact nI_lt (by omega) (by omega)
      refine lv_iload_n C.1 C.2.1 dX12_layPairs_31 rfl (lv_at hl 2 rfl) ?_
      refine lv_aload_n C.1 C.2.1 dX12_layPairs_32 rfl (lv_at hl 0 rfl) ?_
      refine r_get C w 0 rfl rfl 0 (by decide) fl_RX12_9 (v := .ref a1) rfl dX12_layPairs_33 ?_
      refine lv_iconst (v := 2) C.1 C.2.1 dX12_layPairs_36 (by decide) ?_
      refine r_iald C w 1 rfl (v := x3) (vinD (by decide)) rfl dX12_layPairs_37 ?_
      refine b_icmp_gt_t C (tgt := 89) dX12_layPairs_38 (by decide) c1 ?_
      have eN : PP b a (xn - a) + (yn - xn) = PP b a (xn + 1 - a) := by
        have := PP_succ b (xn - a) a
        have e1 : xn - a + 1 = xn + 1 - a := by omega
        have e2 : a + (xn - a) = xn := by omega
        rw [e1, e2] at this
        omega
      exact kk _ _ _ pv y (by rw [em, eN]) (by rw [← eN]; exact w) (lv_sub hl [0, 1, 2] rfl)
    | succ k ih =>
      intro xn yn x y pv H locs ls h1 h2 h3 h4 ex ey em w hl kk
      have hb1 := PP_lt (b := b) h1 h3 (by omega)
      have hb2 := PP_le b hb60 a (by omega) ha1 hab1
      have hb : PP b a (xn - a) + (yn - xn) < 1830 := by omega
      have c1 : ¬ x3 < y := by rw [e3, ey]; exact nI_nlt (by omega) (by omega)
      have c2 : ¬ (120 : Int32) < x + y := by rw [ex, ey, nI_add]; exact nI_nlt (a := 120) (by omega) (by omega)
      have hin : vp_in pv 1830 := by rw [em]; exact vp_in_nI hb (by decide)
      have hsx : upd (lxF f a b (PP b a (xn - a) + (yn - xn))) pv.toNatClampNeg x = lxF f a b (PP b a (xn - a) + (yn - xn) + 1) := by
        rw [em]
        refine lxF_step (by omega) ?_
        rw [pxy_at h1 h3 (by omega), ex]
      have hsy : upd (lyF g a b (PP b a (xn - a) + (yn - xn))) pv.toNatClampNeg y = lyF g a b (PP b a (xn - a) + (yn - xn) + 1) := by
        rw [em]
        refine lyF_step (by omega) ?_
        rw [pxy_at h1 h3 (by omega), ey]
      refine lv_iload_n C.1 C.2.1 dX12_layPairs_31 rfl (lv_at hl 2 rfl) ?_
      refine lv_aload_n C.1 C.2.1 dX12_layPairs_32 rfl (lv_at hl 0 rfl) ?_
      refine r_get C w 0 rfl rfl 0 (by decide) fl_RX12_9 (v := .ref a1) rfl dX12_layPairs_33 ?_
      refine lv_iconst (v := 2) C.1 C.2.1 dX12_layPairs_36 (by decide) ?_
      refine r_iald C w 1 rfl (v := x3) (vinD (by decide)) rfl dX12_layPairs_37 ?_
      refine b_icmp_gt_f C (tgt := 89) dX12_layPairs_38 (by decide) c1 ?_
      refine lv_iload_n C.1 C.2.1 dX12_layPairs_41 rfl (lv_at hl 1 rfl) ?_
      refine lv_iload_n C.1 C.2.1 dX12_layPairs_42 rfl (lv_at hl 2 rfl) ?_
      refine r_iadd C (v := (x + y)) dX12_layPairs_43 rfl ?_
      refine lv_aload_n C.1 C.2.1 dX12_layPairs_44 rfl (lv_at hl 0 rfl) ?_
      refine r_get C w 0 rfl rfl 0 (by decide) fl_RX12_9 (v := .ref a1) rfl dX12_layPairs_45 ?_
      refine lv_iconst (v := 3) C.1 C.2.1 dX12_layPairs_48 (by decide) ?_
      refine r_iald C w 1 rfl (v := 120) (vinD (by decide)) rfl dX12_layPairs_49 ?_
      refine b_icmp_gt_f C (tgt := 89) dX12_layPairs_50 (by decide) c2 ?_
      refine lv_aload_n C.1 C.2.1 dX12_layPairs_53 rfl (lv_at hl 0 rfl) ?_
      refine r_get C w 0 rfl rfl 18 (by decide) fl_RX12_33 (v := .ref a7) rfl dX12_layPairs_54 ?_
      refine lv_aload_n C.1 C.2.1 dX12_layPairs_57 rfl (lv_at hl 0 rfl) ?_
      refine r_get C w 0 rfl rfl 20 (by decide) fl_RX12_250 (v := .int pv) rfl dX12_layPairs_58 ?_
      refine lv_iload_n C.1 C.2.1 dX12_layPairs_61 rfl (lv_at hl 1 rfl) ?_
      refine r_iast C w 2 rfl hin (lxF f a b (PP b a (xn - a) + (yn - xn) + 1)) hsx [(a0, .inr (12, [.ref a1, .ref a2, .ref a3, .ref a4, .ref a5, .int 0, .ref a6, .int 0, .int 0, .int 0, .int 0, .int 0, .int 0, .int 0, .int 0, .int 0, .int 0, .int (-1), .ref a7, .ref a8, .int pv, .ref a9, .int 21, .ref a10, .ref a11, .ref a12, .ref a13, .ref a14, .int 0, .ref a15, .ref a16, .ref a17])), (a1, .inl (cy 1, 1868, .inl (upd (upd (upd (fun _ => 0) 1 x2) 2 x3) 3 120))), (a7, .inl (cy 1, 1830, .inl (lxF f a b (PP b a (xn - a) + (yn - xn) + 1)))), (a8, .inl (cy 1, 1830, .inl (lyF g a b (PP b a (xn - a) + (yn - xn)))))] rfl dX12_layPairs_62 (fun H locs w => ?_)
      refine lv_aload_n C.1 C.2.1 dX12_layPairs_63 rfl (lv_at hl 0 rfl) ?_
      refine r_get C w 0 rfl rfl 19 (by decide) fl_RX12_36 (v := .ref a8) rfl dX12_layPairs_64 ?_
      refine lv_aload_n C.1 C.2.1 dX12_layPairs_67 rfl (lv_at hl 0 rfl) ?_
      refine r_get C w 0 rfl rfl 20 (by decide) fl_RX12_250 (v := .int pv) rfl dX12_layPairs_68 ?_
      refine lv_iload_n C.1 C.2.1 dX12_layPairs_71 rfl (lv_at hl 2 rfl) ?_
      refine r_iast C w 3 rfl hin (lyF g a b (PP b a (xn - a) + (yn - xn) + 1)) hsy [(a0, .inr (12, [.ref a1, .ref a2, .ref a3, .ref a4, .ref a5, .int 0, .ref a6, .int 0, .int 0, .int 0, .int 0, .int 0, .int 0, .int 0, .int 0, .int 0, .int 0, .int (-1), .ref a7, .ref a8, .int pv, .ref a9, .int 21, .ref a10, .ref a11, .ref a12, .ref a13, .ref a14, .int 0, .ref a15, .ref a16, .ref a17])), (a1, .inl (cy 1, 1868, .inl (upd (upd (upd (fun _ => 0) 1 x2) 2 x3) 3 120))), (a7, .inl (cy 1, 1830, .inl (lxF f a b (PP b a (xn - a) + (yn - xn) + 1)))), (a8, .inl (cy 1, 1830, .inl (lyF g a b (PP b a (xn - a) + (yn - xn) + 1))))] rfl dX12_layPairs_72 (fun H locs w => ?_)
      refine lv_aload_n C.1 C.2.1 dX12_layPairs_73 rfl (lv_at hl 0 rfl) ?_
      refine lv_dup C.1 C.2.1 dX12_layPairs_74 rfl ?_
      refine r_get C w 0 rfl rfl 20 (by decide) fl_RX12_250 (v := .int pv) rfl dX12_layPairs_75 ?_
      refine lv_iconst (v := 1) C.1 C.2.1 dX12_layPairs_78 (by decide) ?_
      refine r_iadd C (v := (pv + 1)) dX12_layPairs_79 rfl ?_
      refine r_put C w 0 rfl rfl 20 (by decide) fl_RX12_250 rfl (ty := .int) (tyX12_ok 20 (by decide)) rfl rfl (Nat.le_of_ble_eq_true rfl) [(a0, .inr (12, [.ref a1, .ref a2, .ref a3, .ref a4, .ref a5, .int 0, .ref a6, .int 0, .int 0, .int 0, .int 0, .int 0, .int 0, .int 0, .int 0, .int 0, .int 0, .int (-1), .ref a7, .ref a8, .int (pv + 1), .ref a9, .int 21, .ref a10, .ref a11, .ref a12, .ref a13, .ref a14, .int 0, .ref a15, .ref a16, .ref a17])), (a1, .inl (cy 1, 1868, .inl (upd (upd (upd (fun _ => 0) 1 x2) 2 x3) 3 120))), (a7, .inl (cy 1, 1830, .inl (lxF f a b (PP b a (xn - a) + (yn - xn) + 1)))), (a8, .inl (cy 1, 1830, .inl (lyF g a b (PP b a (xn - a) + (yn - xn) + 1))))] rfl dX12_layPairs_80 (fun H locs w => ?_)
      refine lv_iinc (v := (y + 1)) (lv' := [(2, .int (y + 1)), (0, .ref a0), (1, .int x)]) C.1 C.2.1 dX12_layPairs_83 hl (k := 2) rfl rfl (by decide) rfl (fun ls hl => ?_)
      refine lv_goto (tgt := 31) C.1 C.2.1 dX12_layPairs_86 (by decide) ?_
      have eN : PP b a (xn - a) + (yn + 1 - xn) = PP b a (xn - a) + (yn - xn) + 1 := by omega
      exact ih xn (yn + 1) x (y + 1) (pv + 1) _ _ _ h1 h2 (by omega) (by omega) ex (by rw [ey]; exact nI_1 _) (by rw [em, eN]; exact nI_1 _) (by rw [eN]; exact w) (lv_sub hl [1, 2, 0] rfl) kk
  have outer : ∀ (k xn : Nat) (x pv : Int32) (H : Heap) (locs : List Loc) (ls : Array Slot), a ≤ xn → xn + k = b + 1 → x = nI xn → pv = nI (PP b a (xn - a)) → Wd D A s.heap [(a0, .inr (12, [.ref a1, .ref a2, .ref a3, .ref a4, .ref a5, .int 0, .ref a6, .int 0, .int 0, .int 0, .int 0, .int 0, .int 0, .int 0, .int 0, .int 0, .int 0, .int (-1), .ref a7, .ref a8, .int pv, .ref a9, .int 21, .ref a10, .ref a11, .ref a12, .ref a13, .ref a14, .int 0, .ref a15, .ref a16, .ref a17])), (a1, .inl (cy 1, 1868, .inl (upd (upd (upd (fun _ => 0) 1 x2) 2 x3) 3 120))), (a7, .inl (cy 1, 1830, .inl (lxF f a b (PP b a (xn - a))))), (a8, .inl (cy 1, 1830, .inl (lyF g a b (PP b a (xn - a)))))] H locs → lv_has ls 3 [(0, .ref a0), (1, .int x)] → W p l e R s m args below meth c H locs cells slots Q (F0 m 12 ls []) := by
    intro k
    induction k with
    | zero =>
      intro xn x pv H locs ls h1 h4 ex em w hl
      have hx : xn = b + 1 := by omega
      subst hx
      have c1 : x3 < x := by rw [e3, ex]; exact nI_lt (by omega) (by omega)
      refine lv_iload_n C.1 C.2.1 dX12_layPairs_12 rfl (lv_at hl 1 rfl) ?_
      refine lv_aload_n C.1 C.2.1 dX12_layPairs_13 rfl (lv_at hl 0 rfl) ?_
      refine r_get C w 0 rfl rfl 0 (by decide) fl_RX12_9 (v := .ref a1) rfl dX12_layPairs_14 ?_
      refine lv_iconst (v := 2) C.1 C.2.1 dX12_layPairs_17 (by decide) ?_
      refine r_iald C w 1 rfl (v := x3) (vinD (by decide)) rfl dX12_layPairs_18 ?_
      refine b_icmp_gt_t C (tgt := 95) dX12_layPairs_19 (by decide) c1 ?_
      exact kk _ _ _ pv em w (lv_sub hl [0] rfl)
    | succ k ih =>
      intro xn x pv H locs ls h1 h4 ex em w hl
      have c1 : ¬ x3 < x := by rw [e3, ex]; exact nI_nlt (by omega) (by omega)
      refine lv_iload_n C.1 C.2.1 dX12_layPairs_12 rfl (lv_at hl 1 rfl) ?_
      refine lv_aload_n C.1 C.2.1 dX12_layPairs_13 rfl (lv_at hl 0 rfl) ?_
      refine r_get C w 0 rfl rfl 0 (by decide) fl_RX12_9 (v := .ref a1) rfl dX12_layPairs_14 ?_
      refine lv_iconst (v := 2) C.1 C.2.1 dX12_layPairs_17 (by decide) ?_
      refine r_iald C w 1 rfl (v := x3) (vinD (by decide)) rfl dX12_layPairs_18 ?_
      refine b_icmp_gt_f C (tgt := 95) dX12_layPairs_19 (by decide) c1 ?_
      refine lv_iload_n C.1 C.2.1 dX12_layPairs_22 rfl (lv_at hl 1 rfl) ?_
      refine lv_aload_n C.1 C.2.1 dX12_layPairs_23 rfl (lv_at hl 0 rfl) ?_
      refine r_get C w 0 rfl rfl 0 (by decide) fl_RX12_9 (v := .ref a1) rfl dX12_layPairs_24 ?_
      refine lv_iconst (v := 4) C.1 C.2.1 dX12_layPairs_27 (by decide) ?_
      refine r_iald C w 1 rfl (v := 0) (vinD (by decide)) rfl dX12_layPairs_28 ?_
      refine r_iadd C (v := (x + 0)) dX12_layPairs_29 rfl ?_
      refine lv_istore_n (lv' := [(2, .int (x + 0)), (0, .ref a0), (1, .int x)]) C.1 C.2.1 dX12_layPairs_30 rfl hl (by decide) rfl (fun ls hl => ?_)
      have eN : PP b a (xn - a) + (xn - xn) = PP b a (xn - a) := by omega
      have e0 : x + 0 = x := by rw [Int32.add_zero]
      rw [e0] at hl
      refine inner (b + 1 - xn) xn xn x x pv _ _ _ h1 (by omega) (Nat.le_refl _) (by omega) ex ex (by rw [em, eN]) (by rw [eN]; exact w) (lv_sub hl [1, 2, 0] rfl) (fun H locs ls pv y1 em1 w hl => ?_)
      refine lv_iinc (v := (x + 1)) (lv' := [(1, .int (x + 1)), (0, .ref a0), (2, .int y1)]) C.1 C.2.1 dX12_layPairs_89 hl (k := 1) rfl rfl (by decide) rfl (fun ls hl => ?_)
      refine lv_goto (tgt := 12) C.1 C.2.1 dX12_layPairs_92 (by decide) ?_
      exact ih (xn + 1) (x + 1) pv _ _ _ (by omega) (by omega) (by rw [ex]; exact nI_1 _) em1 w (lv_sub hl [1, 0] rfl)
  refine outer (b + 1 - a) a x2 0 _ _ _ (Nat.le_refl _) (by omega) e2 (by rw [Nat.sub_self]; rfl) ?_ hl
  have e0 : lxF f a b (PP b a (a - a)) = f := by rw [Nat.sub_self]; exact lxF_0 f a b
  have e1 : lyF g a b (PP b a (a - a)) = g := by rw [Nat.sub_self]; exact lyF_0 g a b
  rw [e0, e1]
  exact w
set_option maxRecDepth 100000 in
set_option maxHeartbeats 4000000 in
theorem c_X12_layPairs_6 (l : Launch) (D : va_G) (cy : Nat → ClassId) (a0 a1 a2 a3 a4 a5 a6 a7 a8 a9 a10 a11 a12 a13 a14 a15 a16 a17 : Nat) (x0 : Int32) (x1 : Int32) (f0 : Nat → Int32) (f1 : Nat → Int32) (k0 : ¬ x1 < 2) (k1 : ¬ 60 < x1) : Ct l D cy yX12_layPairs cX12_layPairs 3 none 0 0 0 0 [(a0, .inr (12, [.ref a1, .ref a2, .ref a3, .ref a4, .ref a5, .int 0, .ref a6, .int 0, .int 0, .int 0, .int 0, .int 0, .int 0, .int 0, .int 0, .int 0, .int 0, .int (-1), .ref a7, .ref a8, .int x0, .ref a9, .int 21, .ref a10, .ref a11, .ref a12, .ref a13, .ref a14, .int 0, .ref a15, .ref a16, .ref a17])), (a1, .inl (cy 1, 1868, .inl (upd (upd (upd (fun _ => 0) 1 2) 2 x1) 3 120))), (a7, .inl (cy 1, 1830, .inl f0)), (a8, .inl (cy 1, 1830, .inl f1))] [.ref a0] (fun u : Unit => none) (fun _ => True) (fun u : Unit => [(a0, .inr (12, [.ref a1, .ref a2, .ref a3, .ref a4, .ref a5, .int 0, .ref a6, .int 0, .int 0, .int 0, .int 0, .int 0, .int 0, .int 0, .int 0, .int 0, .int 0, .int (-1), .ref a7, .ref a8, .int (nI (PP (x1).toNatClampNeg 2 ((x1).toNatClampNeg + 1 - 2))), .ref a9, .int 21, .ref a10, .ref a11, .ref a12, .ref a13, .ref a14, .int 0, .ref a15, .ref a16, .ref a17])), (a1, .inl (cy 1, 1868, .inl (upd (upd (upd (fun _ => 0) 1 2) 2 x1) 3 120))), (a7, .inl (cy 1, 1830, .inl (lxF f0 2 (x1).toNatClampNeg (PP (x1).toNatClampNeg 2 ((x1).toNatClampNeg + 1 - 2))))), (a8, .inl (cy 1, 1830, .inl (lyF f1 2 (x1).toNatClampNeg (PP (x1).toNatClampNeg 2 ((x1).toNatClampNeg + 1 - 2)))))]) := by
  refine Ct.of (by decide +kernel) (Nat.le_of_ble_eq_true rfl) ?_
  intro p e s m args below meth c A ls C hr hlocks hml hnm w hl
  have hl : lv_has ls 3 [(0, .ref a0)] := hl
  refine lv_aload_n C.1 C.2.1 dX12_layPairs_0 rfl (lv_at hl 0 rfl) ?_
  refine lv_iconst (v := 0) C.1 C.2.1 dX12_layPairs_1 (by decide) ?_
  refine r_put C w 0 rfl rfl 20 (by decide) fl_RX12_250 rfl (ty := .int) (tyX12_ok 20 (by decide)) rfl rfl (Nat.le_of_ble_eq_true rfl) [(a0, .inr (12, [.ref a1, .ref a2, .ref a3, .ref a4, .ref a5, .int 0, .ref a6, .int 0, .int 0, .int 0, .int 0, .int 0, .int 0, .int 0, .int 0, .int 0, .int 0, .int (-1), .ref a7, .ref a8, .int 0, .ref a9, .int 21, .ref a10, .ref a11, .ref a12, .ref a13, .ref a14, .int 0, .ref a15, .ref a16, .ref a17])), (a1, .inl (cy 1, 1868, .inl (upd (upd (upd (fun _ => 0) 1 2) 2 x1) 3 120))), (a7, .inl (cy 1, 1830, .inl f0)), (a8, .inl (cy 1, 1830, .inl f1))] rfl dX12_layPairs_2 (fun H locs w => ?_)
  refine lv_aload_n C.1 C.2.1 dX12_layPairs_5 rfl (lv_at hl 0 rfl) ?_
  refine r_get C w 0 rfl rfl 0 (by decide) fl_RX12_9 (v := .ref a1) rfl dX12_layPairs_6 ?_
  refine lv_iconst (v := 1) C.1 C.2.1 dX12_layPairs_9 (by decide) ?_
  refine r_iald C w 1 rfl (v := 2) (vinD (by decide)) rfl dX12_layPairs_10 ?_
  refine lv_istore_n (lv' := [(1, .int 2), (0, .ref a0)]) C.1 C.2.1 dX12_layPairs_11 rfl hl (by decide) rfl (fun ls hl => ?_)
  refine lp_X12_layPairs_3 a0 a1 a2 a3 a4 a5 a6 a7 a8 a9 a10 a11 a12 a13 a14 a15 a16 a17 f0 f1 2 (x1).toNatClampNeg 2 x1 (fill_rng (by decide) (by decide) k0 k1).1 (fill_rng (by decide) (by decide) k0 k1).2.1 (fill_rng (by decide) (by decide) k0 k1).2.2 C hml (w.re rfl) (lv_sub hl [1, 0] rfl) (fun H locs ls pv em w hl => ?_)
  subst em
  have w : Wd D A s.heap [(a0, .inr (12, [.ref a1, .ref a2, .ref a3, .ref a4, .ref a5, .int 0, .ref a6, .int 0, .int 0, .int 0, .int 0, .int 0, .int 0, .int 0, .int 0, .int 0, .int 0, .int (-1), .ref a7, .ref a8, .int (nI (PP (x1).toNatClampNeg 2 ((x1).toNatClampNeg + 1 - 2))), .ref a9, .int 21, .ref a10, .ref a11, .ref a12, .ref a13, .ref a14, .int 0, .ref a15, .ref a16, .ref a17])), (a1, .inl (cy 1, 1868, .inl (upd (upd (upd (fun _ => 0) 1 2) 2 x1) 3 120))), (a7, .inl (cy 1, 1830, .inl (lxF f0 2 (x1).toNatClampNeg (PP (x1).toNatClampNeg 2 ((x1).toNatClampNeg + 1 - 2))))), (a8, .inl (cy 1, 1830, .inl (lyF f1 2 (x1).toNatClampNeg (PP (x1).toNatClampNeg 2 ((x1).toNatClampNeg + 1 - 2)))))] _ _ := w
  exact r_vret C w hlocks () hr rfl trivial [0, 1, 2, 3] rfl rfl ⟨Nat.le_of_ble_eq_true rfl, Nat.le_of_ble_eq_true rfl⟩ dX12_layPairs_95
set_option maxRecDepth 100000 in
set_option maxHeartbeats 4000000 in
theorem c_X12_puts_6 (l : Launch) (D : va_G) (cy : Nat → ClassId) (a0 a1 a2 a3 a4 a5 a6 a7 a8 a9 a10 a11 a12 a13 a14 a15 a16 a17 : Nat) (x0 : Int32) (x1 : Int32) (f2 : Nat → Int64) (k0 : ¬ x0 < 0) (k1 : x0 < 1830) : Ct l D cy yX12_puts cX12_puts 7 none 0 0 0 0 [(a0, .inr (12, [.ref a1, .ref a2, .ref a3, .ref a4, .ref a5, .int 0, .ref a6, .int 0, .int 0, .int 0, .int 0, .int 0, .int 0, .int 0, .int 0, .int 0, .int 0, .int (-1), .ref a7, .ref a8, .int x1, .ref a9, .int 21, .ref a10, .ref a11, .ref a12, .ref a13, .ref a14, .int 0, .ref a15, .ref a16, .ref a17])), (a9, .inl (cy 2, 2465, .inr (.inl f2)))] [.ref a0, .int 0, .int x0, .int 1] (fun u : Unit => none) (fun _ => True) (fun u : Unit => [(a0, .inr (12, [.ref a1, .ref a2, .ref a3, .ref a4, .ref a5, .int 0, .ref a6, .int 0, .int 0, .int 0, .int 0, .int 0, .int 0, .int 0, .int 0, .int 0, .int 0, .int (-1), .ref a7, .ref a8, .int x1, .ref a9, .int 21, .ref a10, .ref a11, .ref a12, .ref a13, .ref a14, .int 0, .ref a15, .ref a16, .ref a17])), (a9, .inl (cy 2, 2465, .inr (.inl (orW f2 x0))))]) := by
  refine Ct.of (by decide +kernel) (Nat.le_of_ble_eq_true rfl) ?_
  intro p e s m args below meth c A ls C hr hlocks hml hnm w hl
  have hl : lv_has ls 7 [(0, .ref a0), (1, .int 0), (2, .int x0), (3, .int 1)] := hl
  refine lv_bipush (v := 29) C.1 C.2.1 dX12_puts_0 (by decide) ?_
  refine lv_iload_n C.1 C.2.1 dX12_puts_2 rfl (lv_at hl 1 rfl) ?_
  refine r_imul C (v := 0) dX12_puts_3 (by decide) ?_
  refine lv_iload_n C.1 C.2.1 dX12_puts_4 rfl (lv_at hl 2 rfl) ?_
  refine lv_bipush (v := 6) C.1 C.2.1 dX12_puts_5 (by decide) ?_
  refine r_ishr C (v := (x0 >>> (6 &&& 31))) dX12_puts_7 rfl ?_
  refine r_iadd C (v := ((0 : Int32) + (x0 >>> (6 &&& 31)))) dX12_puts_8 rfl ?_
  refine lv_istore (lv' := [(4, .int ((0 : Int32) + (x0 >>> (6 &&& 31)))), (0, .ref a0), (1, .int 0), (2, .int x0), (3, .int 1)]) C.1 C.2.1 dX12_puts_9 hl (by decide) rfl (fun ls hl => ?_)
  refine lv_lconst (v := 1) C.1 C.2.1 dX12_puts_11 (by decide) ?_
  refine lv_iload_n C.1 C.2.1 dX12_puts_12 rfl (lv_at hl 3 rfl) ?_
  refine lv_bipush (v := 63) C.1 C.2.1 dX12_puts_13 (by decide) ?_
  refine r_iand C (v := (x0 &&& 63)) dX12_puts_15 rfl ?_
  refine lv_lshl (v := (1 <<< (Int32.toInt64 (x0 &&& 63) &&& 63))) C.1 C.2.1 dX12_puts_16 rfl ?_
  refine lv_lstore (lv' := [(5, .long (1 <<< (Int32.toInt64 (x0 &&& 63) &&& 63))), (4, .int ((0 : Int32) + (x0 >>> (6 &&& 31)))), (0, .ref a0), (1, .int 0), (2, .int x0), (3, .int 1)]) C.1 C.2.1 dX12_puts_17 hl (by decide) rfl (fun ls hl => ?_)
  refine lv_aload_n C.1 C.2.1 dX12_puts_19 rfl (lv_at hl 2 rfl) ?_
  refine r_get C w 0 rfl rfl 21 (by decide) fl_RX12_39 (v := .ref a9) rfl dX12_puts_20 ?_
  refine lv_iload C.1 C.2.1 dX12_puts_23 (lv_at hl 1 rfl) ?_
  refine lv_iload_n C.1 C.2.1 dX12_puts_25 rfl (lv_at hl 5 rfl) ?_
  refine b_if_eq_f C (tgt := 42) dX12_puts_26 (by decide) (by decide) ?_
  refine lv_aload_n C.1 C.2.1 dX12_puts_29 rfl (lv_at hl 2 rfl) ?_
  refine r_get C w 0 rfl rfl 21 (by decide) fl_RX12_39 (v := .ref a9) rfl dX12_puts_30 ?_
  refine lv_iload C.1 C.2.1 dX12_puts_33 (lv_at hl 1 rfl) ?_
  refine r_lald C w 1 rfl (v := (f2 ((0 : Int32) + (x0 >>> (6 &&& 31))).toNatClampNeg)) (plW_in k0 k1) rfl dX12_puts_35 ?_
  refine lv_lload C.1 C.2.1 dX12_puts_36 (lv_at hl 0 rfl) ?_
  refine r_lor C (v := ((f2 ((0 : Int32) + (x0 >>> (6 &&& 31))).toNatClampNeg) ||| (1 <<< (Int32.toInt64 (x0 &&& 63) &&& 63)))) dX12_puts_38 rfl ?_
  refine lv_goto (tgt := 56) C.1 C.2.1 dX12_puts_39 (by decide) ?_
  refine r_last C w 1 rfl (plW_in k0 k1) (orW f2 x0) rfl [(a0, .inr (12, [.ref a1, .ref a2, .ref a3, .ref a4, .ref a5, .int 0, .ref a6, .int 0, .int 0, .int 0, .int 0, .int 0, .int 0, .int 0, .int 0, .int 0, .int 0, .int (-1), .ref a7, .ref a8, .int x1, .ref a9, .int 21, .ref a10, .ref a11, .ref a12, .ref a13, .ref a14, .int 0, .ref a15, .ref a16, .ref a17])), (a9, .inl (cy 2, 2465, .inr (.inl (orW f2 x0))))] rfl dX12_puts_56 (fun H locs w => ?_)
  exact r_vret C w hlocks () hr rfl trivial [0, 1] rfl rfl ⟨Nat.le_of_ble_eq_true rfl, Nat.le_of_ble_eq_true rfl⟩ dX12_puts_57
set_option maxRecDepth 100000 in
set_option maxHeartbeats 4000000 in
theorem c_X12_puts_7 (l : Launch) (D : va_G) (cy : Nat → ClassId) (a0 a1 a2 a3 a4 a5 a6 a7 a8 a9 a10 a11 a12 a13 a14 a15 a16 a17 : Nat) (x0 : Int32) (x1 : Int32) (f0 : Nat → Int64) (k0 : ¬ x0 < 0) (k1 : x0 < 1830) : Ct l D cy yX12_puts cX12_puts 7 none 0 0 0 0 [(a0, .inr (12, [.ref a1, .ref a2, .ref a3, .ref a4, .ref a5, .int 0, .ref a6, .int 0, .int 0, .int 0, .int 0, .int 0, .int 0, .int 0, .int 0, .int 0, .int 0, .int (-1), .ref a7, .ref a8, .int x1, .ref a9, .int 21, .ref a10, .ref a11, .ref a12, .ref a13, .ref a14, .int 0, .ref a15, .ref a16, .ref a17])), (a9, .inl (cy 2, 2465, .inr (.inl f0)))] [.ref a0, .int 0, .int x0, .int 1] (fun u : Unit => none) (fun _ => True) (fun u : Unit => [(a0, .inr (12, [.ref a1, .ref a2, .ref a3, .ref a4, .ref a5, .int 0, .ref a6, .int 0, .int 0, .int 0, .int 0, .int 0, .int 0, .int 0, .int 0, .int 0, .int 0, .int (-1), .ref a7, .ref a8, .int x1, .ref a9, .int 21, .ref a10, .ref a11, .ref a12, .ref a13, .ref a14, .int 0, .ref a15, .ref a16, .ref a17])), (a9, .inl (cy 2, 2465, .inr (.inl (orW f0 x0))))]) := by
  refine Ct.of (by decide +kernel) (Nat.le_of_ble_eq_true rfl) ?_
  intro p e s m args below meth c A ls C hr hlocks hml hnm w hl
  have hl : lv_has ls 7 [(0, .ref a0), (1, .int 0), (2, .int x0), (3, .int 1)] := hl
  refine lv_bipush (v := 29) C.1 C.2.1 dX12_puts_0 (by decide) ?_
  refine lv_iload_n C.1 C.2.1 dX12_puts_2 rfl (lv_at hl 1 rfl) ?_
  refine r_imul C (v := 0) dX12_puts_3 (by decide) ?_
  refine lv_iload_n C.1 C.2.1 dX12_puts_4 rfl (lv_at hl 2 rfl) ?_
  refine lv_bipush (v := 6) C.1 C.2.1 dX12_puts_5 (by decide) ?_
  refine r_ishr C (v := (x0 >>> (6 &&& 31))) dX12_puts_7 rfl ?_
  refine r_iadd C (v := ((0 : Int32) + (x0 >>> (6 &&& 31)))) dX12_puts_8 rfl ?_
  refine lv_istore (lv' := [(4, .int ((0 : Int32) + (x0 >>> (6 &&& 31)))), (0, .ref a0), (1, .int 0), (2, .int x0), (3, .int 1)]) C.1 C.2.1 dX12_puts_9 hl (by decide) rfl (fun ls hl => ?_)
  refine lv_lconst (v := 1) C.1 C.2.1 dX12_puts_11 (by decide) ?_
  refine lv_iload_n C.1 C.2.1 dX12_puts_12 rfl (lv_at hl 3 rfl) ?_
  refine lv_bipush (v := 63) C.1 C.2.1 dX12_puts_13 (by decide) ?_
  refine r_iand C (v := (x0 &&& 63)) dX12_puts_15 rfl ?_
  refine lv_lshl (v := (1 <<< (Int32.toInt64 (x0 &&& 63) &&& 63))) C.1 C.2.1 dX12_puts_16 rfl ?_
  refine lv_lstore (lv' := [(5, .long (1 <<< (Int32.toInt64 (x0 &&& 63) &&& 63))), (4, .int ((0 : Int32) + (x0 >>> (6 &&& 31)))), (0, .ref a0), (1, .int 0), (2, .int x0), (3, .int 1)]) C.1 C.2.1 dX12_puts_17 hl (by decide) rfl (fun ls hl => ?_)
  refine lv_aload_n C.1 C.2.1 dX12_puts_19 rfl (lv_at hl 2 rfl) ?_
  refine r_get C w 0 rfl rfl 21 (by decide) fl_RX12_39 (v := .ref a9) rfl dX12_puts_20 ?_
  refine lv_iload C.1 C.2.1 dX12_puts_23 (lv_at hl 1 rfl) ?_
  refine lv_iload_n C.1 C.2.1 dX12_puts_25 rfl (lv_at hl 5 rfl) ?_
  refine b_if_eq_f C (tgt := 42) dX12_puts_26 (by decide) (by decide) ?_
  refine lv_aload_n C.1 C.2.1 dX12_puts_29 rfl (lv_at hl 2 rfl) ?_
  refine r_get C w 0 rfl rfl 21 (by decide) fl_RX12_39 (v := .ref a9) rfl dX12_puts_30 ?_
  refine lv_iload C.1 C.2.1 dX12_puts_33 (lv_at hl 1 rfl) ?_
  refine r_lald C w 1 rfl (v := (f0 ((0 : Int32) + (x0 >>> (6 &&& 31))).toNatClampNeg)) (plW_in k0 k1) rfl dX12_puts_35 ?_
  refine lv_lload C.1 C.2.1 dX12_puts_36 (lv_at hl 0 rfl) ?_
  refine r_lor C (v := ((f0 ((0 : Int32) + (x0 >>> (6 &&& 31))).toNatClampNeg) ||| (1 <<< (Int32.toInt64 (x0 &&& 63) &&& 63)))) dX12_puts_38 rfl ?_
  refine lv_goto (tgt := 56) C.1 C.2.1 dX12_puts_39 (by decide) ?_
  refine r_last C w 1 rfl (plW_in k0 k1) (orW f0 x0) rfl [(a0, .inr (12, [.ref a1, .ref a2, .ref a3, .ref a4, .ref a5, .int 0, .ref a6, .int 0, .int 0, .int 0, .int 0, .int 0, .int 0, .int 0, .int 0, .int 0, .int 0, .int (-1), .ref a7, .ref a8, .int x1, .ref a9, .int 21, .ref a10, .ref a11, .ref a12, .ref a13, .ref a14, .int 0, .ref a15, .ref a16, .ref a17])), (a9, .inl (cy 2, 2465, .inr (.inl (orW f0 x0))))] rfl dX12_puts_56 (fun H locs w => ?_)
  exact r_vret C w hlocks () hr rfl trivial [0, 1] rfl rfl ⟨Nat.le_of_ble_eq_true rfl, Nat.le_of_ble_eq_true rfl⟩ dX12_puts_57
set_option maxRecDepth 100000 in
set_option maxHeartbeats 4000000 in
theorem lp_X12_fills_2 {p : Program} {l : Launch} {e : Env} {R : Room} {s : State} {m : MethodId} {args : Array Value} {below : List Frame} {meth : Method} {c : Code} {cells slots : Nat} {Q : State → Prop} {D : va_G} {cy : Nat → ClassId} {A : Nat → Prop} {H : Heap} {locs : List Loc} {ls : Array Slot} (a0 a1 a2 a3 a4 a5 a6 a7 a8 a9 a10 a11 a12 a13 a14 a15 a16 a17 : Nat) (f : Nat → Int64) (pv : Int32) (P : Nat) (ep : pv = nI P) (hP : P ≤ 1830) (C : Cx p s m args c cX12_fills RX12 D cy A) (hml : c.maxLocals = 4) (hfr : 1 ≤ R.frames) (hlo : 26 ≤ R.locals) (hcs : cells ≤ R.cells ∧ slots ≤ R.slots) (w : Wd D A s.heap [(a0, .inr (12, [.ref a1, .ref a2, .ref a3, .ref a4, .ref a5, .int 0, .ref a6, .int 0, .int 0, .int 0, .int 0, .int 0, .int 0, .int 0, .int 0, .int 0, .int 0, .int (-1), .ref a7, .ref a8, .int pv, .ref a9, .int 21, .ref a10, .ref a11, .ref a12, .ref a13, .ref a14, .int 0, .ref a15, .ref a16, .ref a17])), (a9, .inl (cy 2, 2465, .inr (.inl (f))))] H locs) (hl : lv_has ls 4 [(0, .ref a0), (1, .int 0), (2, .int 1), (3, .int 0)])
    (kk : ∀ (H : Heap) (locs : List Loc) (ls : Array Slot), Wd D A s.heap [(a0, .inr (12, [.ref a1, .ref a2, .ref a3, .ref a4, .ref a5, .int 0, .ref a6, .int 0, .int 0, .int 0, .int 0, .int 0, .int 0, .int 0, .int 0, .int 0, .int 0, .int (-1), .ref a7, .ref a8, .int pv, .ref a9, .int 21, .ref a10, .ref a11, .ref a12, .ref a13, .ref a14, .int 0, .ref a15, .ref a16, .ref a17])), (a9, .inl (cy 2, 2465, .inr (.inl (rwF f P))))] H locs → lv_has ls 4 [(0, .ref a0), (1, .int 0), (2, .int 1)] → W p l e R s m args below meth c H locs cells slots Q (F0 m 23 ls [])) : W p l e R s m args below meth c H locs cells slots Q (F0 m 2 ls []) := by
  have lp : ∀ (k n : Nat) (wv : Int32) (H : Heap) (locs : List Loc) (ls : Array Slot), n + k = P → wv = nI n → Wd D A s.heap [(a0, .inr (12, [.ref a1, .ref a2, .ref a3, .ref a4, .ref a5, .int 0, .ref a6, .int 0, .int 0, .int 0, .int 0, .int 0, .int 0, .int 0, .int 0, .int 0, .int 0, .int (-1), .ref a7, .ref a8, .int pv, .ref a9, .int 21, .ref a10, .ref a11, .ref a12, .ref a13, .ref a14, .int 0, .ref a15, .ref a16, .ref a17])), (a9, .inl (cy 2, 2465, .inr (.inl (rwF f n))))] H locs → lv_has ls 4 [(0, .ref a0), (1, .int 0), (2, .int 1), (3, .int wv)] → W p l e R s m args below meth c H locs cells slots Q (F0 m 2 ls []) := by
    intro k
    induction k with
    | zero =>
      intro n wv H locs ls h4 ei w hl
      have hx : n = P := by omega
      subst hx
      have c1 : pv ≤ wv := by rw [ep, ei]; exact Int32.le_refl _
      refine lv_iload_n C.1 C.2.1 dX12_fills_2 rfl (lv_at hl 3 rfl) ?_
      refine lv_aload_n C.1 C.2.1 dX12_fills_3 rfl (lv_at hl 0 rfl) ?_
      refine r_get C w 0 rfl rfl 20 (by decide) fl_RX12_250 (v := .int pv) rfl dX12_fills_4 ?_
      refine b_icmp_ge_t C (tgt := 23) dX12_fills_7 (by decide) c1 ?_
      exact kk _ _ _ w (lv_sub hl [0, 1, 2] rfl)
    | succ k ih =>
      intro n wv H locs ls h4 ei w hl
      have c1 : ¬ pv ≤ wv := by rw [ep, ei]; exact nI_ge (by omega) (by omega)
      have hw0 : ¬ wv < 0 := by rw [ei]; exact nI_pos (by omega)
      have hw1 : wv < 1830 := by rw [ei]; exact nI_lt (b := 1830) (by omega) (by decide)
      refine lv_iload_n C.1 C.2.1 dX12_fills_2 rfl (lv_at hl 3 rfl) ?_
      refine lv_aload_n C.1 C.2.1 dX12_fills_3 rfl (lv_at hl 0 rfl) ?_
      refine r_get C w 0 rfl rfl 20 (by decide) fl_RX12_250 (v := .int pv) rfl dX12_fills_4 ?_
      refine b_icmp_ge_f C (tgt := 23) dX12_fills_7 (by decide) c1 ?_
      refine lv_aload_n C.1 C.2.1 dX12_fills_10 rfl (lv_at hl 0 rfl) ?_
      refine lv_iload_n C.1 C.2.1 dX12_fills_11 rfl (lv_at hl 1 rfl) ?_
      refine lv_iload_n C.1 C.2.1 dX12_fills_12 rfl (lv_at hl 3 rfl) ?_
      refine lv_iload_n C.1 C.2.1 dX12_fills_13 rfl (lv_at hl 2 rfl) ?_
      refine r_callV C w fv_RX12_289 (c_X12_puts_7 l D cy a0 a1 a2 a3 a4 a5 a6 a7 a8 a9 a10 a11 a12 a13 a14 a15 a16 a17 wv pv (rwF f n) hw0 hw1) (hl.1.trans hml.symm) [0, 1] [] (wr := []) ⟨rfl, rfl, rfl, rfl, by decide⟩ 0 rfl rfl rfl rfl rfl ⟨by omega, by omega, Nat.le_of_ble_eq_true rfl⟩ cells slots ⟨rfl, rfl, hcs.1, hcs.2⟩ dX12_fills_14 (fun u H locs hp w => ?_)
      have w : Wd D A s.heap [(a0, .inr (12, [.ref a1, .ref a2, .ref a3, .ref a4, .ref a5, .int 0, .ref a6, .int 0, .int 0, .int 0, .int 0, .int 0, .int 0, .int 0, .int 0, .int 0, .int 0, .int (-1), .ref a7, .ref a8, .int pv, .ref a9, .int 21, .ref a10, .ref a11, .ref a12, .ref a13, .ref a14, .int 0, .ref a15, .ref a16, .ref a17])), (a9, .inl (cy 2, 2465, .inr (.inl (orW (rwF f n) wv))))] _ _ := w
      refine r_top (g2 := F0 m 17 ls []) rfl ?_
      refine lv_iinc (v := (wv + 1)) (lv' := [(3, .int (wv + 1)), (0, .ref a0), (1, .int 0), (2, .int 1)]) C.1 C.2.1 dX12_fills_17 hl (k := 3) rfl rfl (by decide) rfl (fun ls hl => ?_)
      refine lv_goto (tgt := 2) C.1 C.2.1 dX12_fills_20 (by decide) ?_
      exact ih (n + 1) (wv + 1) _ _ _ (by omega) (by rw [ei]; exact nI_1 _) (by subst ei; exact w) (lv_sub hl [1, 2, 3, 0] rfl)
  exact lp P 0 0 _ _ _ (Nat.zero_add _) rfl w hl
set_option maxRecDepth 100000 in
set_option maxHeartbeats 4000000 in
theorem c_X12_fills_5 (l : Launch) (D : va_G) (cy : Nat → ClassId) (a0 a1 a2 a3 a4 a5 a6 a7 a8 a9 a10 a11 a12 a13 a14 a15 a16 a17 : Nat) (x0 : Int32) (f2 : Nat → Int64) (k0 : ¬ x0 < 2) (k1 : ¬ 60 < x0) : Ct l D cy yX12_fills cX12_fills 4 none 1 26 0 0 [(a0, .inr (12, [.ref a1, .ref a2, .ref a3, .ref a4, .ref a5, .int 0, .ref a6, .int 0, .int 0, .int 0, .int 0, .int 0, .int 0, .int 0, .int 0, .int 0, .int 0, .int (-1), .ref a7, .ref a8, .int (nI (PP (x0).toNatClampNeg 2 ((x0).toNatClampNeg + 1 - 2))), .ref a9, .int 21, .ref a10, .ref a11, .ref a12, .ref a13, .ref a14, .int 0, .ref a15, .ref a16, .ref a17])), (a9, .inl (cy 2, 2465, .inr (.inl f2)))] [.ref a0, .int 0, .int 1] (fun u : Unit => none) (fun _ => True) (fun u : Unit => [(a0, .inr (12, [.ref a1, .ref a2, .ref a3, .ref a4, .ref a5, .int 0, .ref a6, .int 0, .int 0, .int 0, .int 0, .int 0, .int 0, .int 0, .int 0, .int 0, .int 0, .int (-1), .ref a7, .ref a8, .int (nI (PP (x0).toNatClampNeg 2 ((x0).toNatClampNeg + 1 - 2))), .ref a9, .int 21, .ref a10, .ref a11, .ref a12, .ref a13, .ref a14, .int 0, .ref a15, .ref a16, .ref a17])), (a9, .inl (cy 2, 2465, .inr (.inl (rwF f2 (PP (x0).toNatClampNeg 2 ((x0).toNatClampNeg + 1 - 2))))))]) := by
  refine Ct.of (by decide +kernel) (Nat.le_of_ble_eq_true rfl) ?_
  intro p e s m args below meth c A ls C hr hlocks hml hnm w hl
  have hl : lv_has ls 4 [(0, .ref a0), (1, .int 0), (2, .int 1)] := hl
  refine lv_iconst (v := 0) C.1 C.2.1 dX12_fills_0 (by decide) ?_
  refine lv_istore_n (lv' := [(3, .int 0), (0, .ref a0), (1, .int 0), (2, .int 1)]) C.1 C.2.1 dX12_fills_1 rfl hl (by decide) rfl (fun ls hl => ?_)
  refine lp_X12_fills_2 a0 a1 a2 a3 a4 a5 a6 a7 a8 a9 a10 a11 a12 a13 a14 a15 a16 a17 f2 (nI (PP (x0).toNatClampNeg 2 ((x0).toNatClampNeg + 1 - 2))) (PP (x0).toNatClampNeg 2 ((x0).toNatClampNeg + 1 - 2)) rfl (cnt_le (by decide) (by decide) k0 k1) C hml (Nat.le_of_ble_eq_true rfl) (Nat.le_of_ble_eq_true rfl) ⟨Nat.le_of_ble_eq_true rfl, Nat.le_of_ble_eq_true rfl⟩ (w.re rfl) (lv_sub hl [1, 2, 3, 0] rfl) (fun H locs ls w hl => ?_)
  have w : Wd D A s.heap [(a0, .inr (12, [.ref a1, .ref a2, .ref a3, .ref a4, .ref a5, .int 0, .ref a6, .int 0, .int 0, .int 0, .int 0, .int 0, .int 0, .int 0, .int 0, .int 0, .int 0, .int (-1), .ref a7, .ref a8, .int (nI (PP (x0).toNatClampNeg 2 ((x0).toNatClampNeg + 1 - 2))), .ref a9, .int 21, .ref a10, .ref a11, .ref a12, .ref a13, .ref a14, .int 0, .ref a15, .ref a16, .ref a17])), (a9, .inl (cy 2, 2465, .inr (.inl (rwF f2 (PP (x0).toNatClampNeg 2 ((x0).toNatClampNeg + 1 - 2))))))] _ _ := w
  exact r_vret C w hlocks () hr rfl trivial [0, 1] rfl rfl ⟨Nat.le_of_ble_eq_true rfl, Nat.le_of_ble_eq_true rfl⟩ dX12_fills_23
set_option maxRecDepth 100000 in
set_option maxHeartbeats 4000000 in
theorem c_X12_lays_5 (l : Launch) (D : va_G) (cy : Nat → ClassId) (a0 a1 a2 a3 a4 a5 a6 a7 a8 a9 a10 a11 a12 a13 a14 a15 a16 a17 : Nat) (x0 : Int32) (x1 : Int32) (f0 : Nat → Int32) (f1 : Nat → Int32) (f2 : Nat → Int64) (k0 : ¬ x1 < 2) (k1 : ¬ 60 < x1) : Ct l D cy yX12_lays cX12_lays 4 none 2 49 0 0 [(a0, .inr (12, [.ref a1, .ref a2, .ref a3, .ref a4, .ref a5, .int 0, .ref a6, .int 0, .int 0, .int 0, .int 0, .int 0, .int 0, .int 0, .int 0, .int 0, .int 0, .int (-1), .ref a7, .ref a8, .int x0, .ref a9, .int 21, .ref a10, .ref a11, .ref a12, .ref a13, .ref a14, .int 0, .ref a15, .ref a16, .ref a17])), (a1, .inl (cy 1, 1868, .inl (upd (upd (upd (fun _ => 0) 1 2) 2 x1) 3 120))), (a7, .inl (cy 1, 1830, .inl f0)), (a8, .inl (cy 1, 1830, .inl f1)), (a9, .inl (cy 2, 2465, .inr (.inl f2)))] [.ref a0] (fun u : Unit => none) (fun _ => True) (fun u : Unit => [(a1, .inl (cy 1, 1868, .inl (upd (upd (upd (fun _ => 0) 1 2) 2 x1) 3 120))), (a7, .inl (cy 1, 1830, .inl (lxF f0 2 (x1).toNatClampNeg (PP (x1).toNatClampNeg 2 ((x1).toNatClampNeg + 1 - 2))))), (a8, .inl (cy 1, 1830, .inl (lyF f1 2 (x1).toNatClampNeg (PP (x1).toNatClampNeg 2 ((x1).toNatClampNeg + 1 - 2))))), (a0, .inr (12, [.ref a1, .ref a2, .ref a3, .ref a4, .ref a5, .int 0, .ref a6, .int 0, .int 0, .int 0, .int 0, .int 0, .int 0, .int 0, .int 0, .int 0, .int 0, .int (-1), .ref a7, .ref a8, .int (nI (PP (x1).toNatClampNeg 2 ((x1).toNatClampNeg + 1 - 2))), .ref a9, .int 21, .ref a10, .ref a11, .ref a12, .ref a13, .ref a14, .int 0, .ref a15, .ref a16, .ref a17])), (a9, .inl (cy 2, 2465, .inr (.inl (rwF f2 (PP (x1).toNatClampNeg 2 ((x1).toNatClampNeg + 1 - 2))))))]) := by
  refine Ct.of (by decide +kernel) (Nat.le_of_ble_eq_true rfl) ?_
  intro p e s m args below meth c A ls C hr hlocks hml hnm w hl
  have hl : lv_has ls 4 [(0, .ref a0)] := hl
  refine lv_aload_n C.1 C.2.1 dX12_lays_0 rfl (lv_at hl 0 rfl) ?_
  refine r_callV C w fv_RX12_253 (c_X12_layPairs_6 l D cy a0 a1 a2 a3 a4 a5 a6 a7 a8 a9 a10 a11 a12 a13 a14 a15 a16 a17 x0 x1 f0 f1 k0 k1) (hl.1.trans hml.symm) [0, 1, 2, 3] [4] (wr := [(a9, .inl (cy 2, 2465, .inr (.inl f2)))]) ⟨rfl, rfl, rfl, rfl, by decide⟩ 0 rfl rfl rfl rfl rfl ⟨Nat.le_of_ble_eq_true rfl, Nat.le_of_ble_eq_true rfl, Nat.le_of_ble_eq_true rfl⟩ 0 0 ⟨rfl, rfl, Nat.le_of_ble_eq_true rfl, Nat.le_of_ble_eq_true rfl⟩ dX12_lays_1 (fun u H locs hp w => ?_)
  have w : Wd D A s.heap [(a9, .inl (cy 2, 2465, .inr (.inl f2))), (a0, .inr (12, [.ref a1, .ref a2, .ref a3, .ref a4, .ref a5, .int 0, .ref a6, .int 0, .int 0, .int 0, .int 0, .int 0, .int 0, .int 0, .int 0, .int 0, .int 0, .int (-1), .ref a7, .ref a8, .int (nI (PP (x1).toNatClampNeg 2 ((x1).toNatClampNeg + 1 - 2))), .ref a9, .int 21, .ref a10, .ref a11, .ref a12, .ref a13, .ref a14, .int 0, .ref a15, .ref a16, .ref a17])), (a1, .inl (cy 1, 1868, .inl (upd (upd (upd (fun _ => 0) 1 2) 2 x1) 3 120))), (a7, .inl (cy 1, 1830, .inl (lxF f0 2 (x1).toNatClampNeg (PP (x1).toNatClampNeg 2 ((x1).toNatClampNeg + 1 - 2))))), (a8, .inl (cy 1, 1830, .inl (lyF f1 2 (x1).toNatClampNeg (PP (x1).toNatClampNeg 2 ((x1).toNatClampNeg + 1 - 2)))))] _ _ := w
  refine r_top (g2 := F0 m 4 ls []) rfl ?_
  refine lv_aload_n C.1 C.2.1 dX12_lays_4 rfl (lv_at hl 0 rfl) ?_
  refine lv_iconst (v := 0) C.1 C.2.1 dX12_lays_5 (by decide) ?_
  refine lv_iconst (v := 1) C.1 C.2.1 dX12_lays_6 (by decide) ?_
  refine r_callV C w fv_RX12_323 (c_X12_fills_5 l D cy a0 a1 a2 a3 a4 a5 a6 a7 a8 a9 a10 a11 a12 a13 a14 a15 a16 a17 x1 f2 k0 k1) (hl.1.trans hml.symm) [1, 0] [2, 3, 4] (wr := [(a1, .inl (cy 1, 1868, .inl (upd (upd (upd (fun _ => 0) 1 2) 2 x1) 3 120))), (a7, .inl (cy 1, 1830, .inl (lxF f0 2 (x1).toNatClampNeg (PP (x1).toNatClampNeg 2 ((x1).toNatClampNeg + 1 - 2))))), (a8, .inl (cy 1, 1830, .inl (lyF f1 2 (x1).toNatClampNeg (PP (x1).toNatClampNeg 2 ((x1).toNatClampNeg + 1 - 2)))))]) ⟨rfl, rfl, rfl, rfl, by decide⟩ 0 rfl rfl rfl rfl rfl ⟨Nat.le_of_ble_eq_true rfl, Nat.le_of_ble_eq_true rfl, Nat.le_of_ble_eq_true rfl⟩ 0 0 ⟨rfl, rfl, Nat.le_of_ble_eq_true rfl, Nat.le_of_ble_eq_true rfl⟩ dX12_lays_7 (fun u H locs hp w => ?_)
  have w : Wd D A s.heap [(a1, .inl (cy 1, 1868, .inl (upd (upd (upd (fun _ => 0) 1 2) 2 x1) 3 120))), (a7, .inl (cy 1, 1830, .inl (lxF f0 2 (x1).toNatClampNeg (PP (x1).toNatClampNeg 2 ((x1).toNatClampNeg + 1 - 2))))), (a8, .inl (cy 1, 1830, .inl (lyF f1 2 (x1).toNatClampNeg (PP (x1).toNatClampNeg 2 ((x1).toNatClampNeg + 1 - 2))))), (a0, .inr (12, [.ref a1, .ref a2, .ref a3, .ref a4, .ref a5, .int 0, .ref a6, .int 0, .int 0, .int 0, .int 0, .int 0, .int 0, .int 0, .int 0, .int 0, .int 0, .int (-1), .ref a7, .ref a8, .int (nI (PP (x1).toNatClampNeg 2 ((x1).toNatClampNeg + 1 - 2))), .ref a9, .int 21, .ref a10, .ref a11, .ref a12, .ref a13, .ref a14, .int 0, .ref a15, .ref a16, .ref a17])), (a9, .inl (cy 2, 2465, .inr (.inl (rwF f2 (PP (x1).toNatClampNeg 2 ((x1).toNatClampNeg + 1 - 2))))))] _ _ := w
  refine r_top (g2 := F0 m 10 ls []) rfl ?_
  refine lv_iconst (v := 0) C.1 C.2.1 dX12_lays_10 (by decide) ?_
  refine lv_istore_n (lv' := [(1, .int 0), (0, .ref a0)]) C.1 C.2.1 dX12_lays_11 rfl hl (by decide) rfl (fun ls hl => ?_)
  refine lv_iload_n C.1 C.2.1 dX12_lays_12 rfl (lv_at hl 0 rfl) ?_
  refine lv_aload_n C.1 C.2.1 dX12_lays_13 rfl (lv_at hl 1 rfl) ?_
  refine r_get C w 3 rfl rfl 0 (by decide) fl_RX12_9 (v := .ref a1) rfl dX12_lays_14 ?_
  refine lv_bipush (v := 6) C.1 C.2.1 dX12_lays_17 (by decide) ?_
  refine r_iald C w 0 rfl (v := 0) (vinD (by decide)) rfl dX12_lays_19 ?_
  refine b_icmp_ge_t C (tgt := 88) dX12_lays_20 (by decide) (by decide) ?_
  refine lv_aload_n C.1 C.2.1 dX12_lays_88 rfl (lv_at hl 1 rfl) ?_
  refine lv_bipush (v := 21) C.1 C.2.1 dX12_lays_89 (by decide) ?_
  refine r_put C w 3 rfl rfl 22 (by decide) fl_RX12_297 rfl (ty := .int) (tyX12_ok 22 (by decide)) rfl rfl (Nat.le_of_ble_eq_true rfl) [(a1, .inl (cy 1, 1868, .inl (upd (upd (upd (fun _ => 0) 1 2) 2 x1) 3 120))), (a7, .inl (cy 1, 1830, .inl (lxF f0 2 (x1).toNatClampNeg (PP (x1).toNatClampNeg 2 ((x1).toNatClampNeg + 1 - 2))))), (a8, .inl (cy 1, 1830, .inl (lyF f1 2 (x1).toNatClampNeg (PP (x1).toNatClampNeg 2 ((x1).toNatClampNeg + 1 - 2))))), (a0, .inr (12, [.ref a1, .ref a2, .ref a3, .ref a4, .ref a5, .int 0, .ref a6, .int 0, .int 0, .int 0, .int 0, .int 0, .int 0, .int 0, .int 0, .int 0, .int 0, .int (-1), .ref a7, .ref a8, .int (nI (PP (x1).toNatClampNeg 2 ((x1).toNatClampNeg + 1 - 2))), .ref a9, .int 21, .ref a10, .ref a11, .ref a12, .ref a13, .ref a14, .int 0, .ref a15, .ref a16, .ref a17])), (a9, .inl (cy 2, 2465, .inr (.inl (rwF f2 (PP (x1).toNatClampNeg 2 ((x1).toNatClampNeg + 1 - 2))))))] rfl dX12_lays_91 (fun H locs w => ?_)
  exact r_vret C w hlocks () hr rfl trivial [0, 1, 2, 3, 4] rfl rfl ⟨Nat.le_of_ble_eq_true rfl, Nat.le_of_ble_eq_true rfl⟩ dX12_lays_94
set_option maxRecDepth 100000 in
set_option maxHeartbeats 4000000 in
theorem c_X12_has_10 (l : Launch) (D : va_G) (cy : Nat → ClassId) (a0 a1 a2 a3 a4 a5 a6 a7 a8 a9 a10 a11 a12 a13 a14 a15 a16 a17 : Nat) (x0 : Int32) (x1 : Int32) (f2 : Nat → Int64) (k0 : ¬ x0 < 0) (k1 : x0 < 1830) (hbit : bitW f2 x0 = 1) : Ct l D cy yX12_has cX12_has 3 (some .boolean) 0 0 0 0 [(a0, .inr (12, [.ref a1, .ref a2, .ref a3, .ref a4, .ref a5, .int 0, .ref a6, .int 0, .int 0, .int 0, .int 0, .int 0, .int 0, .int 0, .int 0, .int 0, .int 0, .int (-1), .ref a7, .ref a8, .int x1, .ref a9, .int 21, .ref a10, .ref a11, .ref a12, .ref a13, .ref a14, .int 0, .ref a15, .ref a16, .ref a17])), (a9, .inl (cy 2, 2465, .inr (.inl f2)))] [.ref a0, .int 0, .int x0] (fun u : Unit => some (.int 1)) (fun _ => True) (fun u : Unit => [(a0, .inr (12, [.ref a1, .ref a2, .ref a3, .ref a4, .ref a5, .int 0, .ref a6, .int 0, .int 0, .int 0, .int 0, .int 0, .int 0, .int 0, .int 0, .int 0, .int 0, .int (-1), .ref a7, .ref a8, .int x1, .ref a9, .int 21, .ref a10, .ref a11, .ref a12, .ref a13, .ref a14, .int 0, .ref a15, .ref a16, .ref a17])), (a9, .inl (cy 2, 2465, .inr (.inl f2)))]) := by
  refine Ct.of (by decide +kernel) (Nat.le_of_ble_eq_true rfl) ?_
  intro p e s m args below meth c A ls C hr hlocks hml hnm w hl
  have hl : lv_has ls 3 [(0, .ref a0), (1, .int 0), (2, .int x0)] := hl
  refine lv_aload_n C.1 C.2.1 dX12_has_0 rfl (lv_at hl 0 rfl) ?_
  refine r_get C w 0 rfl rfl 21 (by decide) fl_RX12_39 (v := .ref a9) rfl dX12_has_1 ?_
  refine lv_bipush (v := 29) C.1 C.2.1 dX12_has_4 (by decide) ?_
  refine lv_iload_n C.1 C.2.1 dX12_has_6 rfl (lv_at hl 1 rfl) ?_
  refine r_imul C (v := 0) dX12_has_7 (by decide) ?_
  refine lv_iload_n C.1 C.2.1 dX12_has_8 rfl (lv_at hl 2 rfl) ?_
  refine lv_bipush (v := 6) C.1 C.2.1 dX12_has_9 (by decide) ?_
  refine r_ishr C (v := (x0 >>> (6 &&& 31))) dX12_has_11 rfl ?_
  refine r_iadd C (v := ((0 : Int32) + (x0 >>> (6 &&& 31)))) dX12_has_12 rfl ?_
  refine r_lald C w 1 rfl (v := (f2 ((0 : Int32) + (x0 >>> (6 &&& 31))).toNatClampNeg)) (plW_in k0 k1) rfl dX12_has_13 ?_
  refine lv_iload_n C.1 C.2.1 dX12_has_14 rfl (lv_at hl 2 rfl) ?_
  refine lv_bipush (v := 63) C.1 C.2.1 dX12_has_15 (by decide) ?_
  refine r_iand C (v := (x0 &&& 63)) dX12_has_17 rfl ?_
  refine lv_lshr (v := ((f2 ((0 : Int32) + (x0 >>> (6 &&& 31))).toNatClampNeg) >>> (Int32.toInt64 (x0 &&& 63) &&& 63))) C.1 C.2.1 dX12_has_18 rfl ?_
  refine lv_lconst (v := 1) C.1 C.2.1 dX12_has_19 (by decide) ?_
  refine r_land C (v := (((f2 ((0 : Int32) + (x0 >>> (6 &&& 31))).toNatClampNeg) >>> (Int32.toInt64 (x0 &&& 63) &&& 63)) &&& 1)) dX12_has_20 rfl ?_
  refine lv_lconst (v := 1) C.1 C.2.1 dX12_has_21 (by decide) ?_
  refine r_lcmp C (v := 0) dX12_has_22 (lgc_1 hbit) ?_
  refine b_if_ne_f C (tgt := 30) dX12_has_23 (by decide) (by decide) ?_
  refine lv_iconst (v := 1) C.1 C.2.1 dX12_has_26 (by decide) ?_
  refine lv_goto (tgt := 31) C.1 C.2.1 dX12_has_27 (by decide) ?_
  exact r_iret C w hlocks () hr rfl rfl trivial [0, 1] rfl rfl ⟨Nat.le_of_ble_eq_true rfl, Nat.le_of_ble_eq_true rfl⟩ dX12_has_31
set_option maxRecDepth 100000 in
set_option maxHeartbeats 4000000 in
theorem c_X12_manyOf_4 (l : Launch) (D : va_G) (cy : Nat → ClassId) (a0 a1 a2 a3 a4 a5 a6 a7 a8 a9 a10 a11 a12 a13 a14 a15 a16 a17 : Nat) (x0 : Int32) (f2 : Nat → Int64) (k0 : ¬ x0 < 2) (k1 : ¬ 60 < x0) : Ct l D cy yX12_manyOf cX12_manyOf 4 (some .int) 1 22 0 0 [(a0, .inr (12, [.ref a1, .ref a2, .ref a3, .ref a4, .ref a5, .int 0, .ref a6, .int 0, .int 0, .int 0, .int 0, .int 0, .int 0, .int 0, .int 0, .int 0, .int 0, .int (-1), .ref a7, .ref a8, .int (nI (PP (x0).toNatClampNeg 2 ((x0).toNatClampNeg + 1 - 2))), .ref a9, .int 21, .ref a10, .ref a11, .ref a12, .ref a13, .ref a14, .int 0, .ref a15, .ref a16, .ref a17])), (a9, .inl (cy 2, 2465, .inr (.inl (rwF f2 (PP (x0).toNatClampNeg 2 ((x0).toNatClampNeg + 1 - 2))))))] [.ref a0, .int 0] (fun u : Unit => some (.int (nI (PP (x0).toNatClampNeg 2 ((x0).toNatClampNeg + 1 - 2))))) (fun _ => True) (fun u : Unit => [(a0, .inr (12, [.ref a1, .ref a2, .ref a3, .ref a4, .ref a5, .int 0, .ref a6, .int 0, .int 0, .int 0, .int 0, .int 0, .int 0, .int 0, .int 0, .int 0, .int 0, .int (-1), .ref a7, .ref a8, .int (nI (PP (x0).toNatClampNeg 2 ((x0).toNatClampNeg + 1 - 2))), .ref a9, .int 21, .ref a10, .ref a11, .ref a12, .ref a13, .ref a14, .int 0, .ref a15, .ref a16, .ref a17])), (a9, .inl (cy 2, 2465, .inr (.inl (rwF f2 (PP (x0).toNatClampNeg 2 ((x0).toNatClampNeg + 1 - 2))))))]) := by
  refine Ct.of (by decide +kernel) (Nat.le_of_ble_eq_true rfl) ?_
  intro p e s m args below meth c A ls C hr hlocks hml hnm w hl
  have hl : lv_has ls 4 [(0, .ref a0), (1, .int 0)] := hl
  refine lv_iconst (v := 0) C.1 C.2.1 dX12_manyOf_0 (by decide) ?_
  refine lv_istore_n (lv' := [(2, .int 0), (0, .ref a0), (1, .int 0)]) C.1 C.2.1 dX12_manyOf_1 rfl hl (by decide) rfl (fun ls hl => ?_)
  refine lv_iconst (v := 0) C.1 C.2.1 dX12_manyOf_2 (by decide) ?_
  refine lv_istore_n (lv' := [(3, .int 0), (2, .int 0), (0, .ref a0), (1, .int 0)]) C.1 C.2.1 dX12_manyOf_3 rfl hl (by decide) rfl (fun ls hl => ?_)
  refine lp_X12_manyOf_1 a0 a1 a2 a3 a4 a5 a6 a7 a8 a9 a10 a11 a12 a13 a14 a15 a16 a17 f2 (nI (PP (x0).toNatClampNeg 2 ((x0).toNatClampNeg + 1 - 2))) (PP (x0).toNatClampNeg 2 ((x0).toNatClampNeg + 1 - 2)) rfl (cnt_le (by decide) (by decide) k0 k1) C hml (Nat.le_of_ble_eq_true rfl) (Nat.le_of_ble_eq_true rfl) ⟨Nat.le_of_ble_eq_true rfl, Nat.le_of_ble_eq_true rfl⟩ (w.re rfl) (lv_sub hl [2, 3, 1, 0] rfl) (fun H locs ls w hl => ?_)
  have w : Wd D A s.heap [(a0, .inr (12, [.ref a1, .ref a2, .ref a3, .ref a4, .ref a5, .int 0, .ref a6, .int 0, .int 0, .int 0, .int 0, .int 0, .int 0, .int 0, .int 0, .int 0, .int 0, .int (-1), .ref a7, .ref a8, .int (nI (PP (x0).toNatClampNeg 2 ((x0).toNatClampNeg + 1 - 2))), .ref a9, .int 21, .ref a10, .ref a11, .ref a12, .ref a13, .ref a14, .int 0, .ref a15, .ref a16, .ref a17])), (a9, .inl (cy 2, 2465, .inr (.inl (rwF f2 (PP (x0).toNatClampNeg 2 ((x0).toNatClampNeg + 1 - 2))))))] _ _ := w
  refine lv_iload_n C.1 C.2.1 dX12_manyOf_35 rfl (lv_at hl 2 rfl) ?_
  exact r_iret C w hlocks () hr rfl rfl trivial [0, 1] rfl rfl ⟨Nat.le_of_ble_eq_true rfl, Nat.le_of_ble_eq_true rfl⟩ dX12_manyOf_36
set_option maxRecDepth 100000 in
set_option maxHeartbeats 4000000 in
theorem c_X12_leftNow_3 (l : Launch) (D : va_G) (cy : Nat → ClassId) (a0 a1 a2 a3 a4 a5 a6 a7 a8 a9 a10 a11 a12 a13 a14 a15 a16 a17 : Nat) (x0 : Int32) (x1 : Int32) (f0 : Nat → Int32) (f1 : Nat → Int32) (f2 : Nat → Int64) (k0 : ¬ x1 < 2) (k1 : ¬ 60 < x1) : Ct l D cy yX12_leftNow cX12_leftNow 1 (some .int) 3 72 0 0 [(a0, .inr (12, [.ref a1, .ref a2, .ref a3, .ref a4, .ref a5, .int 0, .ref a6, .int 0, .int 0, .int 0, .int 0, .int 0, .int 0, .int 0, .int 0, .int 0, .int 0, .int (-1), .ref a7, .ref a8, .int x0, .ref a9, .int 21, .ref a10, .ref a11, .ref a12, .ref a13, .ref a14, .int 0, .ref a15, .ref a16, .ref a17])), (a1, .inl (cy 1, 1868, .inl (upd (upd (upd (fun _ => 0) 1 2) 2 x1) 3 120))), (a7, .inl (cy 1, 1830, .inl f0)), (a8, .inl (cy 1, 1830, .inl f1)), (a9, .inl (cy 2, 2465, .inr (.inl f2)))] [.ref a0] (fun u : Unit => some (.int (nI (PP (x1).toNatClampNeg 2 ((x1).toNatClampNeg + 1 - 2))))) (fun _ => True) (fun u : Unit => [(a1, .inl (cy 1, 1868, .inl (upd (upd (upd (fun _ => 0) 1 2) 2 x1) 3 120))), (a7, .inl (cy 1, 1830, .inl (lxF f0 2 (x1).toNatClampNeg (PP (x1).toNatClampNeg 2 ((x1).toNatClampNeg + 1 - 2))))), (a8, .inl (cy 1, 1830, .inl (lyF f1 2 (x1).toNatClampNeg (PP (x1).toNatClampNeg 2 ((x1).toNatClampNeg + 1 - 2))))), (a0, .inr (12, [.ref a1, .ref a2, .ref a3, .ref a4, .ref a5, .int 0, .ref a6, .int 0, .int 0, .int 0, .int 0, .int 0, .int 0, .int 0, .int 0, .int 0, .int 0, .int (-1), .ref a7, .ref a8, .int (nI (PP (x1).toNatClampNeg 2 ((x1).toNatClampNeg + 1 - 2))), .ref a9, .int 21, .ref a10, .ref a11, .ref a12, .ref a13, .ref a14, .int 0, .ref a15, .ref a16, .ref a17])), (a9, .inl (cy 2, 2465, .inr (.inl (rwF f2 (PP (x1).toNatClampNeg 2 ((x1).toNatClampNeg + 1 - 2))))))]) := by
  refine Ct.of (by decide +kernel) (Nat.le_of_ble_eq_true rfl) ?_
  intro p e s m args below meth c A ls C hr hlocks hml hnm w hl
  have hl : lv_has ls 1 [(0, .ref a0)] := hl
  refine lv_aload_n C.1 C.2.1 dX12_leftNow_0 rfl (lv_at hl 0 rfl) ?_
  refine r_callV C w fv_RX12_330 (c_X12_lays_5 l D cy a0 a1 a2 a3 a4 a5 a6 a7 a8 a9 a10 a11 a12 a13 a14 a15 a16 a17 x0 x1 f0 f1 f2 k0 k1) (hl.1.trans hml.symm) [0, 1, 2, 3, 4] [] (wr := []) ⟨rfl, rfl, rfl, rfl, by decide⟩ 0 rfl rfl rfl rfl rfl ⟨Nat.le_of_ble_eq_true rfl, Nat.le_of_ble_eq_true rfl, Nat.le_of_ble_eq_true rfl⟩ 0 0 ⟨rfl, rfl, Nat.le_of_ble_eq_true rfl, Nat.le_of_ble_eq_true rfl⟩ dX12_leftNow_1 (fun u H locs hp w => ?_)
  have w : Wd D A s.heap [(a1, .inl (cy 1, 1868, .inl (upd (upd (upd (fun _ => 0) 1 2) 2 x1) 3 120))), (a7, .inl (cy 1, 1830, .inl (lxF f0 2 (x1).toNatClampNeg (PP (x1).toNatClampNeg 2 ((x1).toNatClampNeg + 1 - 2))))), (a8, .inl (cy 1, 1830, .inl (lyF f1 2 (x1).toNatClampNeg (PP (x1).toNatClampNeg 2 ((x1).toNatClampNeg + 1 - 2))))), (a0, .inr (12, [.ref a1, .ref a2, .ref a3, .ref a4, .ref a5, .int 0, .ref a6, .int 0, .int 0, .int 0, .int 0, .int 0, .int 0, .int 0, .int 0, .int 0, .int 0, .int (-1), .ref a7, .ref a8, .int (nI (PP (x1).toNatClampNeg 2 ((x1).toNatClampNeg + 1 - 2))), .ref a9, .int 21, .ref a10, .ref a11, .ref a12, .ref a13, .ref a14, .int 0, .ref a15, .ref a16, .ref a17])), (a9, .inl (cy 2, 2465, .inr (.inl (rwF f2 (PP (x1).toNatClampNeg 2 ((x1).toNatClampNeg + 1 - 2))))))] _ _ := w
  refine r_top (g2 := F0 m 4 ls []) rfl ?_
  refine lv_aload_n C.1 C.2.1 dX12_leftNow_4 rfl (lv_at hl 0 rfl) ?_
  refine lv_aload_n C.1 C.2.1 dX12_leftNow_5 rfl (lv_at hl 0 rfl) ?_
  refine r_get C w 3 rfl rfl 0 (by decide) fl_RX12_9 (v := .ref a1) rfl dX12_leftNow_6 ?_
  refine lv_bipush (v := 6) C.1 C.2.1 dX12_leftNow_9 (by decide) ?_
  refine r_iald C w 0 rfl (v := 0) (vinD (by decide)) rfl dX12_leftNow_11 ?_
  refine r_callV C w fv_RX12_333 (c_X12_manyOf_4 l D cy a0 a1 a2 a3 a4 a5 a6 a7 a8 a9 a10 a11 a12 a13 a14 a15 a16 a17 x1 f2 k0 k1) (hl.1.trans hml.symm) [3, 4] [0, 1, 2] (wr := [(a1, .inl (cy 1, 1868, .inl (upd (upd (upd (fun _ => 0) 1 2) 2 x1) 3 120))), (a7, .inl (cy 1, 1830, .inl (lxF f0 2 (x1).toNatClampNeg (PP (x1).toNatClampNeg 2 ((x1).toNatClampNeg + 1 - 2))))), (a8, .inl (cy 1, 1830, .inl (lyF f1 2 (x1).toNatClampNeg (PP (x1).toNatClampNeg 2 ((x1).toNatClampNeg + 1 - 2)))))]) ⟨rfl, rfl, rfl, rfl, by decide⟩ 0 rfl rfl rfl rfl rfl ⟨Nat.le_of_ble_eq_true rfl, Nat.le_of_ble_eq_true rfl, Nat.le_of_ble_eq_true rfl⟩ 0 0 ⟨rfl, rfl, Nat.le_of_ble_eq_true rfl, Nat.le_of_ble_eq_true rfl⟩ dX12_leftNow_12 (fun u H locs hp w => ?_)
  have w : Wd D A s.heap [(a1, .inl (cy 1, 1868, .inl (upd (upd (upd (fun _ => 0) 1 2) 2 x1) 3 120))), (a7, .inl (cy 1, 1830, .inl (lxF f0 2 (x1).toNatClampNeg (PP (x1).toNatClampNeg 2 ((x1).toNatClampNeg + 1 - 2))))), (a8, .inl (cy 1, 1830, .inl (lyF f1 2 (x1).toNatClampNeg (PP (x1).toNatClampNeg 2 ((x1).toNatClampNeg + 1 - 2))))), (a0, .inr (12, [.ref a1, .ref a2, .ref a3, .ref a4, .ref a5, .int 0, .ref a6, .int 0, .int 0, .int 0, .int 0, .int 0, .int 0, .int 0, .int 0, .int 0, .int 0, .int (-1), .ref a7, .ref a8, .int (nI (PP (x1).toNatClampNeg 2 ((x1).toNatClampNeg + 1 - 2))), .ref a9, .int 21, .ref a10, .ref a11, .ref a12, .ref a13, .ref a14, .int 0, .ref a15, .ref a16, .ref a17])), (a9, .inl (cy 2, 2465, .inr (.inl (rwF f2 (PP (x1).toNatClampNeg 2 ((x1).toNatClampNeg + 1 - 2))))))] _ _ := w
  refine r_top (g2 := F0 m 15 ls [.int (nI (PP (x1).toNatClampNeg 2 ((x1).toNatClampNeg + 1 - 2)))]) rfl ?_
  exact r_iret C w hlocks () hr rfl rfl trivial [0, 1, 2, 3, 4] rfl rfl ⟨Nat.le_of_ble_eq_true rfl, Nat.le_of_ble_eq_true rfl⟩ dX12_leftNow_15
set_option maxRecDepth 100000 in
set_option maxHeartbeats 4000000 in
theorem c_X12_leftWith_2 (l : Launch) (D : va_G) (cy : Nat → ClassId) (a0 a1 a2 a3 a4 a5 a6 a7 a8 a9 a10 a11 a12 a13 a14 a15 a16 a17 : Nat) (x0 : Int32) (x1 : Int32) (f0 : Nat → Int32) (f1 : Nat → Int32) (f2 : Nat → Int64) (k0 : ¬ x0 < 2) (k1 : ¬ 60 < x0) : Ct l D cy yX12_leftWith cX12_leftWith 6 (some .int) 4 92 0 0 [(a0, .inr (12, [.ref a1, .ref a2, .ref a3, .ref a4, .ref a5, .int 0, .ref a6, .int 0, .int 0, .int 0, .int 0, .int 0, .int 0, .int 0, .int 0, .int 0, .int 0, .int (-1), .ref a7, .ref a8, .int x1, .ref a9, .int 21, .ref a10, .ref a11, .ref a12, .ref a13, .ref a14, .int 0, .ref a15, .ref a16, .ref a17])), (a1, .inl (cy 1, 1868, .inl (upd (upd (upd (fun _ => 0) 1 2) 2 20) 3 120))), (a7, .inl (cy 1, 1830, .inl f0)), (a8, .inl (cy 1, 1830, .inl f1)), (a9, .inl (cy 2, 2465, .inr (.inl f2)))] [.ref a0, .int 2, .int x0] (fun u : Unit => some (.int (nI (PP (x0).toNatClampNeg 2 ((x0).toNatClampNeg + 1 - 2))))) (fun _ => True) (fun u : Unit => [(a1, .inl (cy 1, 1868, .inl (upd (upd (upd (fun _ => 0) 1 2) 2 20) 3 120))), (a7, .inl (cy 1, 1830, .inl (lxF f0 2 (x0).toNatClampNeg (PP (x0).toNatClampNeg 2 ((x0).toNatClampNeg + 1 - 2))))), (a8, .inl (cy 1, 1830, .inl (lyF f1 2 (x0).toNatClampNeg (PP (x0).toNatClampNeg 2 ((x0).toNatClampNeg + 1 - 2))))), (a0, .inr (12, [.ref a1, .ref a2, .ref a3, .ref a4, .ref a5, .int 0, .ref a6, .int 0, .int 0, .int 0, .int 0, .int 0, .int 0, .int 0, .int 0, .int 0, .int 0, .int (-1), .ref a7, .ref a8, .int (nI (PP (x0).toNatClampNeg 2 ((x0).toNatClampNeg + 1 - 2))), .ref a9, .int 21, .ref a10, .ref a11, .ref a12, .ref a13, .ref a14, .int 0, .ref a15, .ref a16, .ref a17])), (a9, .inl (cy 2, 2465, .inr (.inl (rwF f2 (PP (x0).toNatClampNeg 2 ((x0).toNatClampNeg + 1 - 2))))))]) := by
  refine Ct.of (by decide +kernel) (Nat.le_of_ble_eq_true rfl) ?_
  intro p e s m args below meth c A ls C hr hlocks hml hnm w hl
  have hl : lv_has ls 6 [(0, .ref a0), (1, .int 2), (2, .int x0)] := hl
  refine lv_aload_n C.1 C.2.1 dX12_leftWith_0 rfl (lv_at hl 0 rfl) ?_
  refine r_get C w 0 rfl rfl 0 (by decide) fl_RX12_9 (v := .ref a1) rfl dX12_leftWith_1 ?_
  refine lv_iconst (v := 1) C.1 C.2.1 dX12_leftWith_4 (by decide) ?_
  refine r_iald C w 1 rfl (v := 2) (vinD (by decide)) rfl dX12_leftWith_5 ?_
  refine lv_istore_n (lv' := [(3, .int 2), (0, .ref a0), (1, .int 2), (2, .int x0)]) C.1 C.2.1 dX12_leftWith_6 rfl hl (by decide) rfl (fun ls hl => ?_)
  refine lv_aload_n C.1 C.2.1 dX12_leftWith_7 rfl (lv_at hl 1 rfl) ?_
  refine r_get C w 0 rfl rfl 0 (by decide) fl_RX12_9 (v := .ref a1) rfl dX12_leftWith_8 ?_
  refine lv_iconst (v := 2) C.1 C.2.1 dX12_leftWith_11 (by decide) ?_
  refine r_iald C w 1 rfl (v := 20) (vinD (by decide)) rfl dX12_leftWith_12 ?_
  refine lv_istore (lv' := [(4, .int 20), (3, .int 2), (0, .ref a0), (1, .int 2), (2, .int x0)]) C.1 C.2.1 dX12_leftWith_13 hl (by decide) rfl (fun ls hl => ?_)
  refine lv_aload_n C.1 C.2.1 dX12_leftWith_15 rfl (lv_at hl 2 rfl) ?_
  refine r_get C w 0 rfl rfl 0 (by decide) fl_RX12_9 (v := .ref a1) rfl dX12_leftWith_16 ?_
  refine lv_iconst (v := 1) C.1 C.2.1 dX12_leftWith_19 (by decide) ?_
  refine lv_iload_n C.1 C.2.1 dX12_leftWith_20 rfl (lv_at hl 3 rfl) ?_
  refine r_iast C w 1 rfl (vinD (by decide)) (upd (upd (upd (fun _ => 0) 1 2) 2 20) 3 120) (show upd (upd (upd (upd (fun _ => 0) 1 2) 2 20) 3 120) 1 2 = (upd (upd (upd (fun _ => 0) 1 2) 2 20) 3 120) from by funext j; simp only [upd]; (repeat' split) <;> (first | rfl | omega)) [(a0, .inr (12, [.ref a1, .ref a2, .ref a3, .ref a4, .ref a5, .int 0, .ref a6, .int 0, .int 0, .int 0, .int 0, .int 0, .int 0, .int 0, .int 0, .int 0, .int 0, .int (-1), .ref a7, .ref a8, .int x1, .ref a9, .int 21, .ref a10, .ref a11, .ref a12, .ref a13, .ref a14, .int 0, .ref a15, .ref a16, .ref a17])), (a1, .inl (cy 1, 1868, .inl (upd (upd (upd (fun _ => 0) 1 2) 2 20) 3 120))), (a7, .inl (cy 1, 1830, .inl f0)), (a8, .inl (cy 1, 1830, .inl f1)), (a9, .inl (cy 2, 2465, .inr (.inl f2)))] rfl dX12_leftWith_21 (fun H locs w => ?_)
  refine lv_aload_n C.1 C.2.1 dX12_leftWith_22 rfl (lv_at hl 2 rfl) ?_
  refine r_get C w 0 rfl rfl 0 (by decide) fl_RX12_9 (v := .ref a1) rfl dX12_leftWith_23 ?_
  refine lv_iconst (v := 2) C.1 C.2.1 dX12_leftWith_26 (by decide) ?_
  refine lv_iload_n C.1 C.2.1 dX12_leftWith_27 rfl (lv_at hl 4 rfl) ?_
  refine r_iast C w 1 rfl (vinD (by decide)) (upd (upd (upd (fun _ => 0) 1 2) 2 x0) 3 120) (show upd (upd (upd (upd (fun _ => 0) 1 2) 2 20) 3 120) 2 x0 = (upd (upd (upd (fun _ => 0) 1 2) 2 x0) 3 120) from by funext j; simp only [upd]; (repeat' split) <;> (first | rfl | omega)) [(a0, .inr (12, [.ref a1, .ref a2, .ref a3, .ref a4, .ref a5, .int 0, .ref a6, .int 0, .int 0, .int 0, .int 0, .int 0, .int 0, .int 0, .int 0, .int 0, .int 0, .int (-1), .ref a7, .ref a8, .int x1, .ref a9, .int 21, .ref a10, .ref a11, .ref a12, .ref a13, .ref a14, .int 0, .ref a15, .ref a16, .ref a17])), (a1, .inl (cy 1, 1868, .inl (upd (upd (upd (fun _ => 0) 1 2) 2 x0) 3 120))), (a7, .inl (cy 1, 1830, .inl f0)), (a8, .inl (cy 1, 1830, .inl f1)), (a9, .inl (cy 2, 2465, .inr (.inl f2)))] rfl dX12_leftWith_28 (fun H locs w => ?_)
  refine lv_aload_n C.1 C.2.1 dX12_leftWith_29 rfl (lv_at hl 2 rfl) ?_
  refine r_callV C w fv_RX12_336 (c_X12_leftNow_3 l D cy a0 a1 a2 a3 a4 a5 a6 a7 a8 a9 a10 a11 a12 a13 a14 a15 a16 a17 x1 x0 f0 f1 f2 k0 k1) (hl.1.trans hml.symm) [0, 1, 2, 3, 4] [] (wr := []) ⟨rfl, rfl, rfl, rfl, by decide⟩ 0 rfl rfl rfl rfl rfl ⟨Nat.le_of_ble_eq_true rfl, Nat.le_of_ble_eq_true rfl, Nat.le_of_ble_eq_true rfl⟩ 0 0 ⟨rfl, rfl, Nat.le_of_ble_eq_true rfl, Nat.le_of_ble_eq_true rfl⟩ dX12_leftWith_30 (fun u H locs hp w => ?_)
  have w : Wd D A s.heap [(a1, .inl (cy 1, 1868, .inl (upd (upd (upd (fun _ => 0) 1 2) 2 x0) 3 120))), (a7, .inl (cy 1, 1830, .inl (lxF f0 2 (x0).toNatClampNeg (PP (x0).toNatClampNeg 2 ((x0).toNatClampNeg + 1 - 2))))), (a8, .inl (cy 1, 1830, .inl (lyF f1 2 (x0).toNatClampNeg (PP (x0).toNatClampNeg 2 ((x0).toNatClampNeg + 1 - 2))))), (a0, .inr (12, [.ref a1, .ref a2, .ref a3, .ref a4, .ref a5, .int 0, .ref a6, .int 0, .int 0, .int 0, .int 0, .int 0, .int 0, .int 0, .int 0, .int 0, .int 0, .int (-1), .ref a7, .ref a8, .int (nI (PP (x0).toNatClampNeg 2 ((x0).toNatClampNeg + 1 - 2))), .ref a9, .int 21, .ref a10, .ref a11, .ref a12, .ref a13, .ref a14, .int 0, .ref a15, .ref a16, .ref a17])), (a9, .inl (cy 2, 2465, .inr (.inl (rwF f2 (PP (x0).toNatClampNeg 2 ((x0).toNatClampNeg + 1 - 2))))))] _ _ := w
  refine r_top (g2 := F0 m 33 ls [.int (nI (PP (x0).toNatClampNeg 2 ((x0).toNatClampNeg + 1 - 2)))]) rfl ?_
  refine lv_istore (lv' := [(5, .int (nI (PP (x0).toNatClampNeg 2 ((x0).toNatClampNeg + 1 - 2)))), (4, .int 20), (3, .int 2), (0, .ref a0), (1, .int 2), (2, .int x0)]) C.1 C.2.1 dX12_leftWith_33 hl (by decide) rfl (fun ls hl => ?_)
  refine lv_aload_n C.1 C.2.1 dX12_leftWith_35 rfl (lv_at hl 3 rfl) ?_
  refine r_get C w 3 rfl rfl 0 (by decide) fl_RX12_9 (v := .ref a1) rfl dX12_leftWith_36 ?_
  refine lv_iconst (v := 1) C.1 C.2.1 dX12_leftWith_39 (by decide) ?_
  refine lv_iload_n C.1 C.2.1 dX12_leftWith_40 rfl (lv_at hl 2 rfl) ?_
  refine r_iast C w 0 rfl (vinD (by decide)) (upd (upd (upd (fun _ => 0) 1 2) 2 x0) 3 120) (show upd (upd (upd (upd (fun _ => 0) 1 2) 2 x0) 3 120) 1 2 = (upd (upd (upd (fun _ => 0) 1 2) 2 x0) 3 120) from by funext j; simp only [upd]; (repeat' split) <;> (first | rfl | omega)) [(a1, .inl (cy 1, 1868, .inl (upd (upd (upd (fun _ => 0) 1 2) 2 x0) 3 120))), (a7, .inl (cy 1, 1830, .inl (lxF f0 2 (x0).toNatClampNeg (PP (x0).toNatClampNeg 2 ((x0).toNatClampNeg + 1 - 2))))), (a8, .inl (cy 1, 1830, .inl (lyF f1 2 (x0).toNatClampNeg (PP (x0).toNatClampNeg 2 ((x0).toNatClampNeg + 1 - 2))))), (a0, .inr (12, [.ref a1, .ref a2, .ref a3, .ref a4, .ref a5, .int 0, .ref a6, .int 0, .int 0, .int 0, .int 0, .int 0, .int 0, .int 0, .int 0, .int 0, .int 0, .int (-1), .ref a7, .ref a8, .int (nI (PP (x0).toNatClampNeg 2 ((x0).toNatClampNeg + 1 - 2))), .ref a9, .int 21, .ref a10, .ref a11, .ref a12, .ref a13, .ref a14, .int 0, .ref a15, .ref a16, .ref a17])), (a9, .inl (cy 2, 2465, .inr (.inl (rwF f2 (PP (x0).toNatClampNeg 2 ((x0).toNatClampNeg + 1 - 2))))))] rfl dX12_leftWith_41 (fun H locs w => ?_)
  refine lv_aload_n C.1 C.2.1 dX12_leftWith_42 rfl (lv_at hl 3 rfl) ?_
  refine r_get C w 3 rfl rfl 0 (by decide) fl_RX12_9 (v := .ref a1) rfl dX12_leftWith_43 ?_
  refine lv_iconst (v := 2) C.1 C.2.1 dX12_leftWith_46 (by decide) ?_
  refine lv_iload C.1 C.2.1 dX12_leftWith_47 (lv_at hl 1 rfl) ?_
  refine r_iast C w 0 rfl (vinD (by decide)) (upd (upd (upd (fun _ => 0) 1 2) 2 20) 3 120) (show upd (upd (upd (upd (fun _ => 0) 1 2) 2 x0) 3 120) 2 20 = (upd (upd (upd (fun _ => 0) 1 2) 2 20) 3 120) from by funext j; simp only [upd]; (repeat' split) <;> (first | rfl | omega)) [(a1, .inl (cy 1, 1868, .inl (upd (upd (upd (fun _ => 0) 1 2) 2 20) 3 120))), (a7, .inl (cy 1, 1830, .inl (lxF f0 2 (x0).toNatClampNeg (PP (x0).toNatClampNeg 2 ((x0).toNatClampNeg + 1 - 2))))), (a8, .inl (cy 1, 1830, .inl (lyF f1 2 (x0).toNatClampNeg (PP (x0).toNatClampNeg 2 ((x0).toNatClampNeg + 1 - 2))))), (a0, .inr (12, [.ref a1, .ref a2, .ref a3, .ref a4, .ref a5, .int 0, .ref a6, .int 0, .int 0, .int 0, .int 0, .int 0, .int 0, .int 0, .int 0, .int 0, .int 0, .int (-1), .ref a7, .ref a8, .int (nI (PP (x0).toNatClampNeg 2 ((x0).toNatClampNeg + 1 - 2))), .ref a9, .int 21, .ref a10, .ref a11, .ref a12, .ref a13, .ref a14, .int 0, .ref a15, .ref a16, .ref a17])), (a9, .inl (cy 2, 2465, .inr (.inl (rwF f2 (PP (x0).toNatClampNeg 2 ((x0).toNatClampNeg + 1 - 2))))))] rfl dX12_leftWith_49 (fun H locs w => ?_)
  refine lv_iload C.1 C.2.1 dX12_leftWith_50 (lv_at hl 0 rfl) ?_
  exact r_iret C w hlocks () hr rfl rfl trivial [0, 1, 2, 3, 4] rfl rfl ⟨Nat.le_of_ble_eq_true rfl, Nat.le_of_ble_eq_true rfl⟩ dX12_leftWith_52
theorem dX12_upTo_58 : decode cX12_upTo 58 = .ok (.goto 11, 3) := by decide +kernel
theorem dX12_upTo_75 : decode cX12_upTo 75 = .ok (.iload_n 2, 1) := by decide +kernel
set_option maxRecDepth 100000 in
set_option maxHeartbeats 4000000 in
theorem c_X12_layPairs_7 (l : Launch) (D : va_G) (cy : Nat → ClassId) (a0 a1 a2 a3 a4 a5 a6 a7 a8 a9 a10 a11 a12 a13 a14 a15 a16 a17 : Nat) (x0 : Int32) (x1 : Int32) (f0 : Nat → Int32) (f1 : Nat → Int32) (k0 : ¬ x1 < 2) (k1 : ¬ 60 < x1) : Ct l D cy yX12_layPairs cX12_layPairs 3 none 0 0 0 0 [(a0, .inr (12, [.ref a1, .ref a2, .ref a3, .ref a4, .ref a5, .int 0, .ref a6, .int 0, .int 0, .int 0, .int 0, .int 0, .int 0, .int 0, .int 0, .int 0, .int 0, .int (-1), .ref a7, .ref a8, .int x0, .ref a9, .int 21, .ref a10, .ref a11, .ref a12, .ref a13, .ref a14, .int 0, .ref a15, .ref a16, .ref a17])), (a1, .inl (cy 1, 1868, .inl (upd (upd (upd (fun _ => 0) 1 2) 2 x1) 3 120))), (a7, .inl (cy 1, 1830, .inl f0)), (a8, .inl (cy 1, 1830, .inl f1))] [.ref a0] (fun u : Unit => none) (fun _ => True) (fun u : Unit => [(a0, .inr (12, [.ref a1, .ref a2, .ref a3, .ref a4, .ref a5, .int 0, .ref a6, .int 0, .int 0, .int 0, .int 0, .int 0, .int 0, .int 0, .int 0, .int 0, .int 0, .int (-1), .ref a7, .ref a8, .int (nI (PP (x1).toNatClampNeg 2 ((x1).toNatClampNeg + 1 - 2))), .ref a9, .int 21, .ref a10, .ref a11, .ref a12, .ref a13, .ref a14, .int 0, .ref a15, .ref a16, .ref a17])), (a1, .inl (cy 1, 1868, .inl (upd (upd (upd (fun _ => 0) 1 2) 2 x1) 3 120))), (a7, .inl (cy 1, 1830, .inl (lxF f0 2 (x1).toNatClampNeg (PP (x1).toNatClampNeg 2 ((x1).toNatClampNeg + 1 - 2))))), (a8, .inl (cy 1, 1830, .inl (lyF f1 2 (x1).toNatClampNeg (PP (x1).toNatClampNeg 2 ((x1).toNatClampNeg + 1 - 2)))))]) := by
  refine Ct.of (by decide +kernel) (Nat.le_of_ble_eq_true rfl) ?_
  intro p e s m args below meth c A ls C hr hlocks hml hnm w hl
  have hl : lv_has ls 3 [(0, .ref a0)] := hl
  refine lv_aload_n C.1 C.2.1 dX12_layPairs_0 rfl (lv_at hl 0 rfl) ?_
  refine lv_iconst (v := 0) C.1 C.2.1 dX12_layPairs_1 (by decide) ?_
  refine r_put C w 0 rfl rfl 20 (by decide) fl_RX12_250 rfl (ty := .int) (tyX12_ok 20 (by decide)) rfl rfl (Nat.le_of_ble_eq_true rfl) [(a0, .inr (12, [.ref a1, .ref a2, .ref a3, .ref a4, .ref a5, .int 0, .ref a6, .int 0, .int 0, .int 0, .int 0, .int 0, .int 0, .int 0, .int 0, .int 0, .int 0, .int (-1), .ref a7, .ref a8, .int 0, .ref a9, .int 21, .ref a10, .ref a11, .ref a12, .ref a13, .ref a14, .int 0, .ref a15, .ref a16, .ref a17])), (a1, .inl (cy 1, 1868, .inl (upd (upd (upd (fun _ => 0) 1 2) 2 x1) 3 120))), (a7, .inl (cy 1, 1830, .inl f0)), (a8, .inl (cy 1, 1830, .inl f1))] rfl dX12_layPairs_2 (fun H locs w => ?_)
  refine lv_aload_n C.1 C.2.1 dX12_layPairs_5 rfl (lv_at hl 0 rfl) ?_
  refine r_get C w 0 rfl rfl 0 (by decide) fl_RX12_9 (v := .ref a1) rfl dX12_layPairs_6 ?_
  refine lv_iconst (v := 1) C.1 C.2.1 dX12_layPairs_9 (by decide) ?_
  refine r_iald C w 1 rfl (v := 2) (vinD (by decide)) rfl dX12_layPairs_10 ?_
  refine lv_istore_n (lv' := [(1, .int 2), (0, .ref a0)]) C.1 C.2.1 dX12_layPairs_11 rfl hl (by decide) rfl (fun ls hl => ?_)
  refine lp_X12_layPairs_3 a0 a1 a2 a3 a4 a5 a6 a7 a8 a9 a10 a11 a12 a13 a14 a15 a16 a17 f0 f1 2 (x1).toNatClampNeg 2 x1 (fill_rng (by decide) (by decide) k0 k1).1 (fill_rng (by decide) (by decide) k0 k1).2.1 (fill_rng (by decide) (by decide) k0 k1).2.2 C hml (w.re rfl) (lv_sub hl [1, 0] rfl) (fun H locs ls pv em w hl => ?_)
  subst em
  have w : Wd D A s.heap [(a0, .inr (12, [.ref a1, .ref a2, .ref a3, .ref a4, .ref a5, .int 0, .ref a6, .int 0, .int 0, .int 0, .int 0, .int 0, .int 0, .int 0, .int 0, .int 0, .int 0, .int (-1), .ref a7, .ref a8, .int (nI (PP (x1).toNatClampNeg 2 ((x1).toNatClampNeg + 1 - 2))), .ref a9, .int 21, .ref a10, .ref a11, .ref a12, .ref a13, .ref a14, .int 0, .ref a15, .ref a16, .ref a17])), (a1, .inl (cy 1, 1868, .inl (upd (upd (upd (fun _ => 0) 1 2) 2 x1) 3 120))), (a7, .inl (cy 1, 1830, .inl (lxF f0 2 (x1).toNatClampNeg (PP (x1).toNatClampNeg 2 ((x1).toNatClampNeg + 1 - 2))))), (a8, .inl (cy 1, 1830, .inl (lyF f1 2 (x1).toNatClampNeg (PP (x1).toNatClampNeg 2 ((x1).toNatClampNeg + 1 - 2)))))] _ _ := w
  exact r_vret C w hlocks () hr rfl trivial [0, 1, 2, 3] rfl rfl ⟨Nat.le_of_ble_eq_true rfl, Nat.le_of_ble_eq_true rfl⟩ dX12_layPairs_95
set_option maxRecDepth 100000 in
set_option maxHeartbeats 4000000 in
theorem c_X12_puts_8 (l : Launch) (D : va_G) (cy : Nat → ClassId) (a0 a1 a2 a3 a4 a5 a6 a7 a8 a9 a10 a11 a12 a13 a14 a15 a16 a17 : Nat) (x0 : Int32) (x1 : Int32) (f2 : Nat → Int64) (k0 : ¬ x0 < 0) (k1 : x0 < 1830) : Ct l D cy yX12_puts cX12_puts 7 none 0 0 0 0 [(a0, .inr (12, [.ref a1, .ref a2, .ref a3, .ref a4, .ref a5, .int 0, .ref a6, .int 0, .int 0, .int 0, .int 0, .int 0, .int 0, .int 0, .int 0, .int 0, .int 0, .int (-1), .ref a7, .ref a8, .int x1, .ref a9, .int 21, .ref a10, .ref a11, .ref a12, .ref a13, .ref a14, .int 0, .ref a15, .ref a16, .ref a17])), (a9, .inl (cy 2, 2465, .inr (.inl f2)))] [.ref a0, .int 0, .int x0, .int 1] (fun u : Unit => none) (fun _ => True) (fun u : Unit => [(a0, .inr (12, [.ref a1, .ref a2, .ref a3, .ref a4, .ref a5, .int 0, .ref a6, .int 0, .int 0, .int 0, .int 0, .int 0, .int 0, .int 0, .int 0, .int 0, .int 0, .int (-1), .ref a7, .ref a8, .int x1, .ref a9, .int 21, .ref a10, .ref a11, .ref a12, .ref a13, .ref a14, .int 0, .ref a15, .ref a16, .ref a17])), (a9, .inl (cy 2, 2465, .inr (.inl (orW f2 x0))))]) := by
  refine Ct.of (by decide +kernel) (Nat.le_of_ble_eq_true rfl) ?_
  intro p e s m args below meth c A ls C hr hlocks hml hnm w hl
  have hl : lv_has ls 7 [(0, .ref a0), (1, .int 0), (2, .int x0), (3, .int 1)] := hl
  refine lv_bipush (v := 29) C.1 C.2.1 dX12_puts_0 (by decide) ?_
  refine lv_iload_n C.1 C.2.1 dX12_puts_2 rfl (lv_at hl 1 rfl) ?_
  refine r_imul C (v := 0) dX12_puts_3 (by decide) ?_
  refine lv_iload_n C.1 C.2.1 dX12_puts_4 rfl (lv_at hl 2 rfl) ?_
  refine lv_bipush (v := 6) C.1 C.2.1 dX12_puts_5 (by decide) ?_
  refine r_ishr C (v := (x0 >>> (6 &&& 31))) dX12_puts_7 rfl ?_
  refine r_iadd C (v := ((0 : Int32) + (x0 >>> (6 &&& 31)))) dX12_puts_8 rfl ?_
  refine lv_istore (lv' := [(4, .int ((0 : Int32) + (x0 >>> (6 &&& 31)))), (0, .ref a0), (1, .int 0), (2, .int x0), (3, .int 1)]) C.1 C.2.1 dX12_puts_9 hl (by decide) rfl (fun ls hl => ?_)
  refine lv_lconst (v := 1) C.1 C.2.1 dX12_puts_11 (by decide) ?_
  refine lv_iload_n C.1 C.2.1 dX12_puts_12 rfl (lv_at hl 3 rfl) ?_
  refine lv_bipush (v := 63) C.1 C.2.1 dX12_puts_13 (by decide) ?_
  refine r_iand C (v := (x0 &&& 63)) dX12_puts_15 rfl ?_
  refine lv_lshl (v := (1 <<< (Int32.toInt64 (x0 &&& 63) &&& 63))) C.1 C.2.1 dX12_puts_16 rfl ?_
  refine lv_lstore (lv' := [(5, .long (1 <<< (Int32.toInt64 (x0 &&& 63) &&& 63))), (4, .int ((0 : Int32) + (x0 >>> (6 &&& 31)))), (0, .ref a0), (1, .int 0), (2, .int x0), (3, .int 1)]) C.1 C.2.1 dX12_puts_17 hl (by decide) rfl (fun ls hl => ?_)
  refine lv_aload_n C.1 C.2.1 dX12_puts_19 rfl (lv_at hl 2 rfl) ?_
  refine r_get C w 0 rfl rfl 21 (by decide) fl_RX12_39 (v := .ref a9) rfl dX12_puts_20 ?_
  refine lv_iload C.1 C.2.1 dX12_puts_23 (lv_at hl 1 rfl) ?_
  refine lv_iload_n C.1 C.2.1 dX12_puts_25 rfl (lv_at hl 5 rfl) ?_
  refine b_if_eq_f C (tgt := 42) dX12_puts_26 (by decide) (by decide) ?_
  refine lv_aload_n C.1 C.2.1 dX12_puts_29 rfl (lv_at hl 2 rfl) ?_
  refine r_get C w 0 rfl rfl 21 (by decide) fl_RX12_39 (v := .ref a9) rfl dX12_puts_30 ?_
  refine lv_iload C.1 C.2.1 dX12_puts_33 (lv_at hl 1 rfl) ?_
  refine r_lald C w 1 rfl (v := (f2 ((0 : Int32) + (x0 >>> (6 &&& 31))).toNatClampNeg)) (plW_in k0 k1) rfl dX12_puts_35 ?_
  refine lv_lload C.1 C.2.1 dX12_puts_36 (lv_at hl 0 rfl) ?_
  refine r_lor C (v := ((f2 ((0 : Int32) + (x0 >>> (6 &&& 31))).toNatClampNeg) ||| (1 <<< (Int32.toInt64 (x0 &&& 63) &&& 63)))) dX12_puts_38 rfl ?_
  refine lv_goto (tgt := 56) C.1 C.2.1 dX12_puts_39 (by decide) ?_
  refine r_last C w 1 rfl (plW_in k0 k1) (orW f2 x0) rfl [(a0, .inr (12, [.ref a1, .ref a2, .ref a3, .ref a4, .ref a5, .int 0, .ref a6, .int 0, .int 0, .int 0, .int 0, .int 0, .int 0, .int 0, .int 0, .int 0, .int 0, .int (-1), .ref a7, .ref a8, .int x1, .ref a9, .int 21, .ref a10, .ref a11, .ref a12, .ref a13, .ref a14, .int 0, .ref a15, .ref a16, .ref a17])), (a9, .inl (cy 2, 2465, .inr (.inl (orW f2 x0))))] rfl dX12_puts_56 (fun H locs w => ?_)
  exact r_vret C w hlocks () hr rfl trivial [0, 1] rfl rfl ⟨Nat.le_of_ble_eq_true rfl, Nat.le_of_ble_eq_true rfl⟩ dX12_puts_57
set_option maxRecDepth 100000 in
set_option maxHeartbeats 4000000 in
theorem c_X12_fills_6 (l : Launch) (D : va_G) (cy : Nat → ClassId) (a0 a1 a2 a3 a4 a5 a6 a7 a8 a9 a10 a11 a12 a13 a14 a15 a16 a17 : Nat) (x0 : Int32) (f2 : Nat → Int64) (k0 : ¬ x0 < 2) (k1 : ¬ 60 < x0) : Ct l D cy yX12_fills cX12_fills 4 none 1 26 0 0 [(a0, .inr (12, [.ref a1, .ref a2, .ref a3, .ref a4, .ref a5, .int 0, .ref a6, .int 0, .int 0, .int 0, .int 0, .int 0, .int 0, .int 0, .int 0, .int 0, .int 0, .int (-1), .ref a7, .ref a8, .int (nI (PP (x0).toNatClampNeg 2 ((x0).toNatClampNeg + 1 - 2))), .ref a9, .int 21, .ref a10, .ref a11, .ref a12, .ref a13, .ref a14, .int 0, .ref a15, .ref a16, .ref a17])), (a9, .inl (cy 2, 2465, .inr (.inl f2)))] [.ref a0, .int 0, .int 1] (fun u : Unit => none) (fun _ => True) (fun u : Unit => [(a0, .inr (12, [.ref a1, .ref a2, .ref a3, .ref a4, .ref a5, .int 0, .ref a6, .int 0, .int 0, .int 0, .int 0, .int 0, .int 0, .int 0, .int 0, .int 0, .int 0, .int (-1), .ref a7, .ref a8, .int (nI (PP (x0).toNatClampNeg 2 ((x0).toNatClampNeg + 1 - 2))), .ref a9, .int 21, .ref a10, .ref a11, .ref a12, .ref a13, .ref a14, .int 0, .ref a15, .ref a16, .ref a17])), (a9, .inl (cy 2, 2465, .inr (.inl (rwF f2 (PP (x0).toNatClampNeg 2 ((x0).toNatClampNeg + 1 - 2))))))]) := by
  refine Ct.of (by decide +kernel) (Nat.le_of_ble_eq_true rfl) ?_
  intro p e s m args below meth c A ls C hr hlocks hml hnm w hl
  have hl : lv_has ls 4 [(0, .ref a0), (1, .int 0), (2, .int 1)] := hl
  refine lv_iconst (v := 0) C.1 C.2.1 dX12_fills_0 (by decide) ?_
  refine lv_istore_n (lv' := [(3, .int 0), (0, .ref a0), (1, .int 0), (2, .int 1)]) C.1 C.2.1 dX12_fills_1 rfl hl (by decide) rfl (fun ls hl => ?_)
  refine lp_X12_fills_2 a0 a1 a2 a3 a4 a5 a6 a7 a8 a9 a10 a11 a12 a13 a14 a15 a16 a17 f2 (nI (PP (x0).toNatClampNeg 2 ((x0).toNatClampNeg + 1 - 2))) (PP (x0).toNatClampNeg 2 ((x0).toNatClampNeg + 1 - 2)) rfl (cnt_le (by decide) (by decide) k0 k1) C hml (Nat.le_of_ble_eq_true rfl) (Nat.le_of_ble_eq_true rfl) ⟨Nat.le_of_ble_eq_true rfl, Nat.le_of_ble_eq_true rfl⟩ (w.re rfl) (lv_sub hl [1, 2, 3, 0] rfl) (fun H locs ls w hl => ?_)
  have w : Wd D A s.heap [(a0, .inr (12, [.ref a1, .ref a2, .ref a3, .ref a4, .ref a5, .int 0, .ref a6, .int 0, .int 0, .int 0, .int 0, .int 0, .int 0, .int 0, .int 0, .int 0, .int 0, .int (-1), .ref a7, .ref a8, .int (nI (PP (x0).toNatClampNeg 2 ((x0).toNatClampNeg + 1 - 2))), .ref a9, .int 21, .ref a10, .ref a11, .ref a12, .ref a13, .ref a14, .int 0, .ref a15, .ref a16, .ref a17])), (a9, .inl (cy 2, 2465, .inr (.inl (rwF f2 (PP (x0).toNatClampNeg 2 ((x0).toNatClampNeg + 1 - 2))))))] _ _ := w
  exact r_vret C w hlocks () hr rfl trivial [0, 1] rfl rfl ⟨Nat.le_of_ble_eq_true rfl, Nat.le_of_ble_eq_true rfl⟩ dX12_fills_23
set_option maxRecDepth 100000 in
set_option maxHeartbeats 4000000 in
theorem c_X12_lays_6 (l : Launch) (D : va_G) (cy : Nat → ClassId) (a0 a1 a2 a3 a4 a5 a6 a7 a8 a9 a10 a11 a12 a13 a14 a15 a16 a17 : Nat) (x0 : Int32) (x1 : Int32) (f0 : Nat → Int32) (f1 : Nat → Int32) (f2 : Nat → Int64) (k0 : ¬ x1 < 2) (k1 : ¬ 60 < x1) : Ct l D cy yX12_lays cX12_lays 4 none 2 49 0 0 [(a0, .inr (12, [.ref a1, .ref a2, .ref a3, .ref a4, .ref a5, .int 0, .ref a6, .int 0, .int 0, .int 0, .int 0, .int 0, .int 0, .int 0, .int 0, .int 0, .int 0, .int (-1), .ref a7, .ref a8, .int x0, .ref a9, .int 21, .ref a10, .ref a11, .ref a12, .ref a13, .ref a14, .int 0, .ref a15, .ref a16, .ref a17])), (a1, .inl (cy 1, 1868, .inl (upd (upd (upd (fun _ => 0) 1 2) 2 x1) 3 120))), (a7, .inl (cy 1, 1830, .inl f0)), (a8, .inl (cy 1, 1830, .inl f1)), (a9, .inl (cy 2, 2465, .inr (.inl f2)))] [.ref a0] (fun u : Unit => none) (fun _ => True) (fun u : Unit => [(a1, .inl (cy 1, 1868, .inl (upd (upd (upd (fun _ => 0) 1 2) 2 x1) 3 120))), (a7, .inl (cy 1, 1830, .inl (lxF f0 2 (x1).toNatClampNeg (PP (x1).toNatClampNeg 2 ((x1).toNatClampNeg + 1 - 2))))), (a8, .inl (cy 1, 1830, .inl (lyF f1 2 (x1).toNatClampNeg (PP (x1).toNatClampNeg 2 ((x1).toNatClampNeg + 1 - 2))))), (a0, .inr (12, [.ref a1, .ref a2, .ref a3, .ref a4, .ref a5, .int 0, .ref a6, .int 0, .int 0, .int 0, .int 0, .int 0, .int 0, .int 0, .int 0, .int 0, .int 0, .int (-1), .ref a7, .ref a8, .int (nI (PP (x1).toNatClampNeg 2 ((x1).toNatClampNeg + 1 - 2))), .ref a9, .int 21, .ref a10, .ref a11, .ref a12, .ref a13, .ref a14, .int 0, .ref a15, .ref a16, .ref a17])), (a9, .inl (cy 2, 2465, .inr (.inl (rwF f2 (PP (x1).toNatClampNeg 2 ((x1).toNatClampNeg + 1 - 2))))))]) := by
  refine Ct.of (by decide +kernel) (Nat.le_of_ble_eq_true rfl) ?_
  intro p e s m args below meth c A ls C hr hlocks hml hnm w hl
  have hl : lv_has ls 4 [(0, .ref a0)] := hl
  refine lv_aload_n C.1 C.2.1 dX12_lays_0 rfl (lv_at hl 0 rfl) ?_
  refine r_callV C w fv_RX12_253 (c_X12_layPairs_7 l D cy a0 a1 a2 a3 a4 a5 a6 a7 a8 a9 a10 a11 a12 a13 a14 a15 a16 a17 x0 x1 f0 f1 k0 k1) (hl.1.trans hml.symm) [0, 1, 2, 3] [4] (wr := [(a9, .inl (cy 2, 2465, .inr (.inl f2)))]) ⟨rfl, rfl, rfl, rfl, by decide⟩ 0 rfl rfl rfl rfl rfl ⟨Nat.le_of_ble_eq_true rfl, Nat.le_of_ble_eq_true rfl, Nat.le_of_ble_eq_true rfl⟩ 0 0 ⟨rfl, rfl, Nat.le_of_ble_eq_true rfl, Nat.le_of_ble_eq_true rfl⟩ dX12_lays_1 (fun u H locs hp w => ?_)
  have w : Wd D A s.heap [(a9, .inl (cy 2, 2465, .inr (.inl f2))), (a0, .inr (12, [.ref a1, .ref a2, .ref a3, .ref a4, .ref a5, .int 0, .ref a6, .int 0, .int 0, .int 0, .int 0, .int 0, .int 0, .int 0, .int 0, .int 0, .int 0, .int (-1), .ref a7, .ref a8, .int (nI (PP (x1).toNatClampNeg 2 ((x1).toNatClampNeg + 1 - 2))), .ref a9, .int 21, .ref a10, .ref a11, .ref a12, .ref a13, .ref a14, .int 0, .ref a15, .ref a16, .ref a17])), (a1, .inl (cy 1, 1868, .inl (upd (upd (upd (fun _ => 0) 1 2) 2 x1) 3 120))), (a7, .inl (cy 1, 1830, .inl (lxF f0 2 (x1).toNatClampNeg (PP (x1).toNatClampNeg 2 ((x1).toNatClampNeg + 1 - 2))))), (a8, .inl (cy 1, 1830, .inl (lyF f1 2 (x1).toNatClampNeg (PP (x1).toNatClampNeg 2 ((x1).toNatClampNeg + 1 - 2)))))] _ _ := w
  refine r_top (g2 := F0 m 4 ls []) rfl ?_
  refine lv_aload_n C.1 C.2.1 dX12_lays_4 rfl (lv_at hl 0 rfl) ?_
  refine lv_iconst (v := 0) C.1 C.2.1 dX12_lays_5 (by decide) ?_
  refine lv_iconst (v := 1) C.1 C.2.1 dX12_lays_6 (by decide) ?_
  refine r_callV C w fv_RX12_323 (c_X12_fills_6 l D cy a0 a1 a2 a3 a4 a5 a6 a7 a8 a9 a10 a11 a12 a13 a14 a15 a16 a17 x1 f2 k0 k1) (hl.1.trans hml.symm) [1, 0] [2, 3, 4] (wr := [(a1, .inl (cy 1, 1868, .inl (upd (upd (upd (fun _ => 0) 1 2) 2 x1) 3 120))), (a7, .inl (cy 1, 1830, .inl (lxF f0 2 (x1).toNatClampNeg (PP (x1).toNatClampNeg 2 ((x1).toNatClampNeg + 1 - 2))))), (a8, .inl (cy 1, 1830, .inl (lyF f1 2 (x1).toNatClampNeg (PP (x1).toNatClampNeg 2 ((x1).toNatClampNeg + 1 - 2)))))]) ⟨rfl, rfl, rfl, rfl, by decide⟩ 0 rfl rfl rfl rfl rfl ⟨Nat.le_of_ble_eq_true rfl, Nat.le_of_ble_eq_true rfl, Nat.le_of_ble_eq_true rfl⟩ 0 0 ⟨rfl, rfl, Nat.le_of_ble_eq_true rfl, Nat.le_of_ble_eq_true rfl⟩ dX12_lays_7 (fun u H locs hp w => ?_)
  have w : Wd D A s.heap [(a1, .inl (cy 1, 1868, .inl (upd (upd (upd (fun _ => 0) 1 2) 2 x1) 3 120))), (a7, .inl (cy 1, 1830, .inl (lxF f0 2 (x1).toNatClampNeg (PP (x1).toNatClampNeg 2 ((x1).toNatClampNeg + 1 - 2))))), (a8, .inl (cy 1, 1830, .inl (lyF f1 2 (x1).toNatClampNeg (PP (x1).toNatClampNeg 2 ((x1).toNatClampNeg + 1 - 2))))), (a0, .inr (12, [.ref a1, .ref a2, .ref a3, .ref a4, .ref a5, .int 0, .ref a6, .int 0, .int 0, .int 0, .int 0, .int 0, .int 0, .int 0, .int 0, .int 0, .int 0, .int (-1), .ref a7, .ref a8, .int (nI (PP (x1).toNatClampNeg 2 ((x1).toNatClampNeg + 1 - 2))), .ref a9, .int 21, .ref a10, .ref a11, .ref a12, .ref a13, .ref a14, .int 0, .ref a15, .ref a16, .ref a17])), (a9, .inl (cy 2, 2465, .inr (.inl (rwF f2 (PP (x1).toNatClampNeg 2 ((x1).toNatClampNeg + 1 - 2))))))] _ _ := w
  refine r_top (g2 := F0 m 10 ls []) rfl ?_
  refine lv_iconst (v := 0) C.1 C.2.1 dX12_lays_10 (by decide) ?_
  refine lv_istore_n (lv' := [(1, .int 0), (0, .ref a0)]) C.1 C.2.1 dX12_lays_11 rfl hl (by decide) rfl (fun ls hl => ?_)
  refine lv_iload_n C.1 C.2.1 dX12_lays_12 rfl (lv_at hl 0 rfl) ?_
  refine lv_aload_n C.1 C.2.1 dX12_lays_13 rfl (lv_at hl 1 rfl) ?_
  refine r_get C w 3 rfl rfl 0 (by decide) fl_RX12_9 (v := .ref a1) rfl dX12_lays_14 ?_
  refine lv_bipush (v := 6) C.1 C.2.1 dX12_lays_17 (by decide) ?_
  refine r_iald C w 0 rfl (v := 0) (vinD (by decide)) rfl dX12_lays_19 ?_
  refine b_icmp_ge_t C (tgt := 88) dX12_lays_20 (by decide) (by decide) ?_
  refine lv_aload_n C.1 C.2.1 dX12_lays_88 rfl (lv_at hl 1 rfl) ?_
  refine lv_bipush (v := 21) C.1 C.2.1 dX12_lays_89 (by decide) ?_
  refine r_put C w 3 rfl rfl 22 (by decide) fl_RX12_297 rfl (ty := .int) (tyX12_ok 22 (by decide)) rfl rfl (Nat.le_of_ble_eq_true rfl) [(a1, .inl (cy 1, 1868, .inl (upd (upd (upd (fun _ => 0) 1 2) 2 x1) 3 120))), (a7, .inl (cy 1, 1830, .inl (lxF f0 2 (x1).toNatClampNeg (PP (x1).toNatClampNeg 2 ((x1).toNatClampNeg + 1 - 2))))), (a8, .inl (cy 1, 1830, .inl (lyF f1 2 (x1).toNatClampNeg (PP (x1).toNatClampNeg 2 ((x1).toNatClampNeg + 1 - 2))))), (a0, .inr (12, [.ref a1, .ref a2, .ref a3, .ref a4, .ref a5, .int 0, .ref a6, .int 0, .int 0, .int 0, .int 0, .int 0, .int 0, .int 0, .int 0, .int 0, .int 0, .int (-1), .ref a7, .ref a8, .int (nI (PP (x1).toNatClampNeg 2 ((x1).toNatClampNeg + 1 - 2))), .ref a9, .int 21, .ref a10, .ref a11, .ref a12, .ref a13, .ref a14, .int 0, .ref a15, .ref a16, .ref a17])), (a9, .inl (cy 2, 2465, .inr (.inl (rwF f2 (PP (x1).toNatClampNeg 2 ((x1).toNatClampNeg + 1 - 2))))))] rfl dX12_lays_91 (fun H locs w => ?_)
  exact r_vret C w hlocks () hr rfl trivial [0, 1, 2, 3, 4] rfl rfl ⟨Nat.le_of_ble_eq_true rfl, Nat.le_of_ble_eq_true rfl⟩ dX12_lays_94
set_option maxRecDepth 100000 in
set_option maxHeartbeats 4000000 in
theorem c_X12_has_11 (l : Launch) (D : va_G) (cy : Nat → ClassId) (a0 a1 a2 a3 a4 a5 a6 a7 a8 a9 a10 a11 a12 a13 a14 a15 a16 a17 : Nat) (x0 : Int32) (x1 : Int32) (f2 : Nat → Int64) (k0 : ¬ x0 < 0) (k1 : x0 < 1830) (hbit : bitW f2 x0 = 1) : Ct l D cy yX12_has cX12_has 3 (some .boolean) 0 0 0 0 [(a0, .inr (12, [.ref a1, .ref a2, .ref a3, .ref a4, .ref a5, .int 0, .ref a6, .int 0, .int 0, .int 0, .int 0, .int 0, .int 0, .int 0, .int 0, .int 0, .int 0, .int (-1), .ref a7, .ref a8, .int x1, .ref a9, .int 21, .ref a10, .ref a11, .ref a12, .ref a13, .ref a14, .int 0, .ref a15, .ref a16, .ref a17])), (a9, .inl (cy 2, 2465, .inr (.inl f2)))] [.ref a0, .int 0, .int x0] (fun u : Unit => some (.int 1)) (fun _ => True) (fun u : Unit => [(a0, .inr (12, [.ref a1, .ref a2, .ref a3, .ref a4, .ref a5, .int 0, .ref a6, .int 0, .int 0, .int 0, .int 0, .int 0, .int 0, .int 0, .int 0, .int 0, .int 0, .int (-1), .ref a7, .ref a8, .int x1, .ref a9, .int 21, .ref a10, .ref a11, .ref a12, .ref a13, .ref a14, .int 0, .ref a15, .ref a16, .ref a17])), (a9, .inl (cy 2, 2465, .inr (.inl f2)))]) := by
  refine Ct.of (by decide +kernel) (Nat.le_of_ble_eq_true rfl) ?_
  intro p e s m args below meth c A ls C hr hlocks hml hnm w hl
  have hl : lv_has ls 3 [(0, .ref a0), (1, .int 0), (2, .int x0)] := hl
  refine lv_aload_n C.1 C.2.1 dX12_has_0 rfl (lv_at hl 0 rfl) ?_
  refine r_get C w 0 rfl rfl 21 (by decide) fl_RX12_39 (v := .ref a9) rfl dX12_has_1 ?_
  refine lv_bipush (v := 29) C.1 C.2.1 dX12_has_4 (by decide) ?_
  refine lv_iload_n C.1 C.2.1 dX12_has_6 rfl (lv_at hl 1 rfl) ?_
  refine r_imul C (v := 0) dX12_has_7 (by decide) ?_
  refine lv_iload_n C.1 C.2.1 dX12_has_8 rfl (lv_at hl 2 rfl) ?_
  refine lv_bipush (v := 6) C.1 C.2.1 dX12_has_9 (by decide) ?_
  refine r_ishr C (v := (x0 >>> (6 &&& 31))) dX12_has_11 rfl ?_
  refine r_iadd C (v := ((0 : Int32) + (x0 >>> (6 &&& 31)))) dX12_has_12 rfl ?_
  refine r_lald C w 1 rfl (v := (f2 ((0 : Int32) + (x0 >>> (6 &&& 31))).toNatClampNeg)) (plW_in k0 k1) rfl dX12_has_13 ?_
  refine lv_iload_n C.1 C.2.1 dX12_has_14 rfl (lv_at hl 2 rfl) ?_
  refine lv_bipush (v := 63) C.1 C.2.1 dX12_has_15 (by decide) ?_
  refine r_iand C (v := (x0 &&& 63)) dX12_has_17 rfl ?_
  refine lv_lshr (v := ((f2 ((0 : Int32) + (x0 >>> (6 &&& 31))).toNatClampNeg) >>> (Int32.toInt64 (x0 &&& 63) &&& 63))) C.1 C.2.1 dX12_has_18 rfl ?_
  refine lv_lconst (v := 1) C.1 C.2.1 dX12_has_19 (by decide) ?_
  refine r_land C (v := (((f2 ((0 : Int32) + (x0 >>> (6 &&& 31))).toNatClampNeg) >>> (Int32.toInt64 (x0 &&& 63) &&& 63)) &&& 1)) dX12_has_20 rfl ?_
  refine lv_lconst (v := 1) C.1 C.2.1 dX12_has_21 (by decide) ?_
  refine r_lcmp C (v := 0) dX12_has_22 (lgc_1 hbit) ?_
  refine b_if_ne_f C (tgt := 30) dX12_has_23 (by decide) (by decide) ?_
  refine lv_iconst (v := 1) C.1 C.2.1 dX12_has_26 (by decide) ?_
  refine lv_goto (tgt := 31) C.1 C.2.1 dX12_has_27 (by decide) ?_
  exact r_iret C w hlocks () hr rfl rfl trivial [0, 1] rfl rfl ⟨Nat.le_of_ble_eq_true rfl, Nat.le_of_ble_eq_true rfl⟩ dX12_has_31
set_option maxRecDepth 100000 in
set_option maxHeartbeats 4000000 in
theorem c_X12_manyOf_5 (l : Launch) (D : va_G) (cy : Nat → ClassId) (a0 a1 a2 a3 a4 a5 a6 a7 a8 a9 a10 a11 a12 a13 a14 a15 a16 a17 : Nat) (x0 : Int32) (f2 : Nat → Int64) (k0 : ¬ x0 < 2) (k1 : ¬ 60 < x0) : Ct l D cy yX12_manyOf cX12_manyOf 4 (some .int) 1 22 0 0 [(a0, .inr (12, [.ref a1, .ref a2, .ref a3, .ref a4, .ref a5, .int 0, .ref a6, .int 0, .int 0, .int 0, .int 0, .int 0, .int 0, .int 0, .int 0, .int 0, .int 0, .int (-1), .ref a7, .ref a8, .int (nI (PP (x0).toNatClampNeg 2 ((x0).toNatClampNeg + 1 - 2))), .ref a9, .int 21, .ref a10, .ref a11, .ref a12, .ref a13, .ref a14, .int 0, .ref a15, .ref a16, .ref a17])), (a9, .inl (cy 2, 2465, .inr (.inl (rwF f2 (PP (x0).toNatClampNeg 2 ((x0).toNatClampNeg + 1 - 2))))))] [.ref a0, .int 0] (fun u : Unit => some (.int (nI (PP (x0).toNatClampNeg 2 ((x0).toNatClampNeg + 1 - 2))))) (fun _ => True) (fun u : Unit => [(a0, .inr (12, [.ref a1, .ref a2, .ref a3, .ref a4, .ref a5, .int 0, .ref a6, .int 0, .int 0, .int 0, .int 0, .int 0, .int 0, .int 0, .int 0, .int 0, .int 0, .int (-1), .ref a7, .ref a8, .int (nI (PP (x0).toNatClampNeg 2 ((x0).toNatClampNeg + 1 - 2))), .ref a9, .int 21, .ref a10, .ref a11, .ref a12, .ref a13, .ref a14, .int 0, .ref a15, .ref a16, .ref a17])), (a9, .inl (cy 2, 2465, .inr (.inl (rwF f2 (PP (x0).toNatClampNeg 2 ((x0).toNatClampNeg + 1 - 2))))))]) := by
  refine Ct.of (by decide +kernel) (Nat.le_of_ble_eq_true rfl) ?_
  intro p e s m args below meth c A ls C hr hlocks hml hnm w hl
  have hl : lv_has ls 4 [(0, .ref a0), (1, .int 0)] := hl
  refine lv_iconst (v := 0) C.1 C.2.1 dX12_manyOf_0 (by decide) ?_
  refine lv_istore_n (lv' := [(2, .int 0), (0, .ref a0), (1, .int 0)]) C.1 C.2.1 dX12_manyOf_1 rfl hl (by decide) rfl (fun ls hl => ?_)
  refine lv_iconst (v := 0) C.1 C.2.1 dX12_manyOf_2 (by decide) ?_
  refine lv_istore_n (lv' := [(3, .int 0), (2, .int 0), (0, .ref a0), (1, .int 0)]) C.1 C.2.1 dX12_manyOf_3 rfl hl (by decide) rfl (fun ls hl => ?_)
  refine lp_X12_manyOf_1 a0 a1 a2 a3 a4 a5 a6 a7 a8 a9 a10 a11 a12 a13 a14 a15 a16 a17 f2 (nI (PP (x0).toNatClampNeg 2 ((x0).toNatClampNeg + 1 - 2))) (PP (x0).toNatClampNeg 2 ((x0).toNatClampNeg + 1 - 2)) rfl (cnt_le (by decide) (by decide) k0 k1) C hml (Nat.le_of_ble_eq_true rfl) (Nat.le_of_ble_eq_true rfl) ⟨Nat.le_of_ble_eq_true rfl, Nat.le_of_ble_eq_true rfl⟩ (w.re rfl) (lv_sub hl [2, 3, 1, 0] rfl) (fun H locs ls w hl => ?_)
  have w : Wd D A s.heap [(a0, .inr (12, [.ref a1, .ref a2, .ref a3, .ref a4, .ref a5, .int 0, .ref a6, .int 0, .int 0, .int 0, .int 0, .int 0, .int 0, .int 0, .int 0, .int 0, .int 0, .int (-1), .ref a7, .ref a8, .int (nI (PP (x0).toNatClampNeg 2 ((x0).toNatClampNeg + 1 - 2))), .ref a9, .int 21, .ref a10, .ref a11, .ref a12, .ref a13, .ref a14, .int 0, .ref a15, .ref a16, .ref a17])), (a9, .inl (cy 2, 2465, .inr (.inl (rwF f2 (PP (x0).toNatClampNeg 2 ((x0).toNatClampNeg + 1 - 2))))))] _ _ := w
  refine lv_iload_n C.1 C.2.1 dX12_manyOf_35 rfl (lv_at hl 2 rfl) ?_
  exact r_iret C w hlocks () hr rfl rfl trivial [0, 1] rfl rfl ⟨Nat.le_of_ble_eq_true rfl, Nat.le_of_ble_eq_true rfl⟩ dX12_manyOf_36
set_option maxRecDepth 100000 in
set_option maxHeartbeats 4000000 in
theorem c_X12_leftNow_4 (l : Launch) (D : va_G) (cy : Nat → ClassId) (a0 a1 a2 a3 a4 a5 a6 a7 a8 a9 a10 a11 a12 a13 a14 a15 a16 a17 : Nat) (x0 : Int32) (x1 : Int32) (f0 : Nat → Int32) (f1 : Nat → Int32) (f2 : Nat → Int64) (k0 : ¬ x1 < 2) (k1 : ¬ 60 < x1) : Ct l D cy yX12_leftNow cX12_leftNow 1 (some .int) 3 72 0 0 [(a0, .inr (12, [.ref a1, .ref a2, .ref a3, .ref a4, .ref a5, .int 0, .ref a6, .int 0, .int 0, .int 0, .int 0, .int 0, .int 0, .int 0, .int 0, .int 0, .int 0, .int (-1), .ref a7, .ref a8, .int x0, .ref a9, .int 21, .ref a10, .ref a11, .ref a12, .ref a13, .ref a14, .int 0, .ref a15, .ref a16, .ref a17])), (a1, .inl (cy 1, 1868, .inl (upd (upd (upd (fun _ => 0) 1 2) 2 x1) 3 120))), (a7, .inl (cy 1, 1830, .inl f0)), (a8, .inl (cy 1, 1830, .inl f1)), (a9, .inl (cy 2, 2465, .inr (.inl f2)))] [.ref a0] (fun u : Unit => some (.int (nI (PP (x1).toNatClampNeg 2 ((x1).toNatClampNeg + 1 - 2))))) (fun _ => True) (fun u : Unit => [(a1, .inl (cy 1, 1868, .inl (upd (upd (upd (fun _ => 0) 1 2) 2 x1) 3 120))), (a7, .inl (cy 1, 1830, .inl (lxF f0 2 (x1).toNatClampNeg (PP (x1).toNatClampNeg 2 ((x1).toNatClampNeg + 1 - 2))))), (a8, .inl (cy 1, 1830, .inl (lyF f1 2 (x1).toNatClampNeg (PP (x1).toNatClampNeg 2 ((x1).toNatClampNeg + 1 - 2))))), (a0, .inr (12, [.ref a1, .ref a2, .ref a3, .ref a4, .ref a5, .int 0, .ref a6, .int 0, .int 0, .int 0, .int 0, .int 0, .int 0, .int 0, .int 0, .int 0, .int 0, .int (-1), .ref a7, .ref a8, .int (nI (PP (x1).toNatClampNeg 2 ((x1).toNatClampNeg + 1 - 2))), .ref a9, .int 21, .ref a10, .ref a11, .ref a12, .ref a13, .ref a14, .int 0, .ref a15, .ref a16, .ref a17])), (a9, .inl (cy 2, 2465, .inr (.inl (rwF f2 (PP (x1).toNatClampNeg 2 ((x1).toNatClampNeg + 1 - 2))))))]) := by
  refine Ct.of (by decide +kernel) (Nat.le_of_ble_eq_true rfl) ?_
  intro p e s m args below meth c A ls C hr hlocks hml hnm w hl
  have hl : lv_has ls 1 [(0, .ref a0)] := hl
  refine lv_aload_n C.1 C.2.1 dX12_leftNow_0 rfl (lv_at hl 0 rfl) ?_
  refine r_callV C w fv_RX12_330 (c_X12_lays_6 l D cy a0 a1 a2 a3 a4 a5 a6 a7 a8 a9 a10 a11 a12 a13 a14 a15 a16 a17 x0 x1 f0 f1 f2 k0 k1) (hl.1.trans hml.symm) [0, 1, 2, 3, 4] [] (wr := []) ⟨rfl, rfl, rfl, rfl, by decide⟩ 0 rfl rfl rfl rfl rfl ⟨Nat.le_of_ble_eq_true rfl, Nat.le_of_ble_eq_true rfl, Nat.le_of_ble_eq_true rfl⟩ 0 0 ⟨rfl, rfl, Nat.le_of_ble_eq_true rfl, Nat.le_of_ble_eq_true rfl⟩ dX12_leftNow_1 (fun u H locs hp w => ?_)
  have w : Wd D A s.heap [(a1, .inl (cy 1, 1868, .inl (upd (upd (upd (fun _ => 0) 1 2) 2 x1) 3 120))), (a7, .inl (cy 1, 1830, .inl (lxF f0 2 (x1).toNatClampNeg (PP (x1).toNatClampNeg 2 ((x1).toNatClampNeg + 1 - 2))))), (a8, .inl (cy 1, 1830, .inl (lyF f1 2 (x1).toNatClampNeg (PP (x1).toNatClampNeg 2 ((x1).toNatClampNeg + 1 - 2))))), (a0, .inr (12, [.ref a1, .ref a2, .ref a3, .ref a4, .ref a5, .int 0, .ref a6, .int 0, .int 0, .int 0, .int 0, .int 0, .int 0, .int 0, .int 0, .int 0, .int 0, .int (-1), .ref a7, .ref a8, .int (nI (PP (x1).toNatClampNeg 2 ((x1).toNatClampNeg + 1 - 2))), .ref a9, .int 21, .ref a10, .ref a11, .ref a12, .ref a13, .ref a14, .int 0, .ref a15, .ref a16, .ref a17])), (a9, .inl (cy 2, 2465, .inr (.inl (rwF f2 (PP (x1).toNatClampNeg 2 ((x1).toNatClampNeg + 1 - 2))))))] _ _ := w
  refine r_top (g2 := F0 m 4 ls []) rfl ?_
  refine lv_aload_n C.1 C.2.1 dX12_leftNow_4 rfl (lv_at hl 0 rfl) ?_
  refine lv_aload_n C.1 C.2.1 dX12_leftNow_5 rfl (lv_at hl 0 rfl) ?_
  refine r_get C w 3 rfl rfl 0 (by decide) fl_RX12_9 (v := .ref a1) rfl dX12_leftNow_6 ?_
  refine lv_bipush (v := 6) C.1 C.2.1 dX12_leftNow_9 (by decide) ?_
  refine r_iald C w 0 rfl (v := 0) (vinD (by decide)) rfl dX12_leftNow_11 ?_
  refine r_callV C w fv_RX12_333 (c_X12_manyOf_5 l D cy a0 a1 a2 a3 a4 a5 a6 a7 a8 a9 a10 a11 a12 a13 a14 a15 a16 a17 x1 f2 k0 k1) (hl.1.trans hml.symm) [3, 4] [0, 1, 2] (wr := [(a1, .inl (cy 1, 1868, .inl (upd (upd (upd (fun _ => 0) 1 2) 2 x1) 3 120))), (a7, .inl (cy 1, 1830, .inl (lxF f0 2 (x1).toNatClampNeg (PP (x1).toNatClampNeg 2 ((x1).toNatClampNeg + 1 - 2))))), (a8, .inl (cy 1, 1830, .inl (lyF f1 2 (x1).toNatClampNeg (PP (x1).toNatClampNeg 2 ((x1).toNatClampNeg + 1 - 2)))))]) ⟨rfl, rfl, rfl, rfl, by decide⟩ 0 rfl rfl rfl rfl rfl ⟨Nat.le_of_ble_eq_true rfl, Nat.le_of_ble_eq_true rfl, Nat.le_of_ble_eq_true rfl⟩ 0 0 ⟨rfl, rfl, Nat.le_of_ble_eq_true rfl, Nat.le_of_ble_eq_true rfl⟩ dX12_leftNow_12 (fun u H locs hp w => ?_)
  have w : Wd D A s.heap [(a1, .inl (cy 1, 1868, .inl (upd (upd (upd (fun _ => 0) 1 2) 2 x1) 3 120))), (a7, .inl (cy 1, 1830, .inl (lxF f0 2 (x1).toNatClampNeg (PP (x1).toNatClampNeg 2 ((x1).toNatClampNeg + 1 - 2))))), (a8, .inl (cy 1, 1830, .inl (lyF f1 2 (x1).toNatClampNeg (PP (x1).toNatClampNeg 2 ((x1).toNatClampNeg + 1 - 2))))), (a0, .inr (12, [.ref a1, .ref a2, .ref a3, .ref a4, .ref a5, .int 0, .ref a6, .int 0, .int 0, .int 0, .int 0, .int 0, .int 0, .int 0, .int 0, .int 0, .int 0, .int (-1), .ref a7, .ref a8, .int (nI (PP (x1).toNatClampNeg 2 ((x1).toNatClampNeg + 1 - 2))), .ref a9, .int 21, .ref a10, .ref a11, .ref a12, .ref a13, .ref a14, .int 0, .ref a15, .ref a16, .ref a17])), (a9, .inl (cy 2, 2465, .inr (.inl (rwF f2 (PP (x1).toNatClampNeg 2 ((x1).toNatClampNeg + 1 - 2))))))] _ _ := w
  refine r_top (g2 := F0 m 15 ls [.int (nI (PP (x1).toNatClampNeg 2 ((x1).toNatClampNeg + 1 - 2)))]) rfl ?_
  exact r_iret C w hlocks () hr rfl rfl trivial [0, 1, 2, 3, 4] rfl rfl ⟨Nat.le_of_ble_eq_true rfl, Nat.le_of_ble_eq_true rfl⟩ dX12_leftNow_15
set_option maxRecDepth 100000 in
set_option maxHeartbeats 4000000 in
theorem c_X12_leftWith_3 (l : Launch) (D : va_G) (cy : Nat → ClassId) (a0 a1 a2 a3 a4 a5 a6 a7 a8 a9 a10 a11 a12 a13 a14 a15 a16 a17 : Nat) (x0 : Int32) (x1 : Int32) (f0 : Nat → Int32) (f1 : Nat → Int32) (f2 : Nat → Int64) (k0 : ¬ x0 < 2) (k1 : ¬ 60 < x0) : Ct l D cy yX12_leftWith cX12_leftWith 6 (some .int) 4 92 0 0 [(a0, .inr (12, [.ref a1, .ref a2, .ref a3, .ref a4, .ref a5, .int 0, .ref a6, .int 0, .int 0, .int 0, .int 0, .int 0, .int 0, .int 0, .int 0, .int 0, .int 0, .int (-1), .ref a7, .ref a8, .int x1, .ref a9, .int 21, .ref a10, .ref a11, .ref a12, .ref a13, .ref a14, .int 0, .ref a15, .ref a16, .ref a17])), (a1, .inl (cy 1, 1868, .inl (upd (upd (upd (fun _ => 0) 1 2) 2 20) 3 120))), (a7, .inl (cy 1, 1830, .inl f0)), (a8, .inl (cy 1, 1830, .inl f1)), (a9, .inl (cy 2, 2465, .inr (.inl f2)))] [.ref a0, .int 2, .int x0] (fun u : Unit => some (.int (nI (PP (x0).toNatClampNeg 2 ((x0).toNatClampNeg + 1 - 2))))) (fun _ => True) (fun u : Unit => [(a1, .inl (cy 1, 1868, .inl (upd (upd (upd (fun _ => 0) 1 2) 2 20) 3 120))), (a7, .inl (cy 1, 1830, .inl (lxF f0 2 (x0).toNatClampNeg (PP (x0).toNatClampNeg 2 ((x0).toNatClampNeg + 1 - 2))))), (a8, .inl (cy 1, 1830, .inl (lyF f1 2 (x0).toNatClampNeg (PP (x0).toNatClampNeg 2 ((x0).toNatClampNeg + 1 - 2))))), (a0, .inr (12, [.ref a1, .ref a2, .ref a3, .ref a4, .ref a5, .int 0, .ref a6, .int 0, .int 0, .int 0, .int 0, .int 0, .int 0, .int 0, .int 0, .int 0, .int 0, .int (-1), .ref a7, .ref a8, .int (nI (PP (x0).toNatClampNeg 2 ((x0).toNatClampNeg + 1 - 2))), .ref a9, .int 21, .ref a10, .ref a11, .ref a12, .ref a13, .ref a14, .int 0, .ref a15, .ref a16, .ref a17])), (a9, .inl (cy 2, 2465, .inr (.inl (rwF f2 (PP (x0).toNatClampNeg 2 ((x0).toNatClampNeg + 1 - 2))))))]) := by
  refine Ct.of (by decide +kernel) (Nat.le_of_ble_eq_true rfl) ?_
  intro p e s m args below meth c A ls C hr hlocks hml hnm w hl
  have hl : lv_has ls 6 [(0, .ref a0), (1, .int 2), (2, .int x0)] := hl
  refine lv_aload_n C.1 C.2.1 dX12_leftWith_0 rfl (lv_at hl 0 rfl) ?_
  refine r_get C w 0 rfl rfl 0 (by decide) fl_RX12_9 (v := .ref a1) rfl dX12_leftWith_1 ?_
  refine lv_iconst (v := 1) C.1 C.2.1 dX12_leftWith_4 (by decide) ?_
  refine r_iald C w 1 rfl (v := 2) (vinD (by decide)) rfl dX12_leftWith_5 ?_
  refine lv_istore_n (lv' := [(3, .int 2), (0, .ref a0), (1, .int 2), (2, .int x0)]) C.1 C.2.1 dX12_leftWith_6 rfl hl (by decide) rfl (fun ls hl => ?_)
  refine lv_aload_n C.1 C.2.1 dX12_leftWith_7 rfl (lv_at hl 1 rfl) ?_
  refine r_get C w 0 rfl rfl 0 (by decide) fl_RX12_9 (v := .ref a1) rfl dX12_leftWith_8 ?_
  refine lv_iconst (v := 2) C.1 C.2.1 dX12_leftWith_11 (by decide) ?_
  refine r_iald C w 1 rfl (v := 20) (vinD (by decide)) rfl dX12_leftWith_12 ?_
  refine lv_istore (lv' := [(4, .int 20), (3, .int 2), (0, .ref a0), (1, .int 2), (2, .int x0)]) C.1 C.2.1 dX12_leftWith_13 hl (by decide) rfl (fun ls hl => ?_)
  refine lv_aload_n C.1 C.2.1 dX12_leftWith_15 rfl (lv_at hl 2 rfl) ?_
  refine r_get C w 0 rfl rfl 0 (by decide) fl_RX12_9 (v := .ref a1) rfl dX12_leftWith_16 ?_
  refine lv_iconst (v := 1) C.1 C.2.1 dX12_leftWith_19 (by decide) ?_
  refine lv_iload_n C.1 C.2.1 dX12_leftWith_20 rfl (lv_at hl 3 rfl) ?_
  refine r_iast C w 1 rfl (vinD (by decide)) (upd (upd (upd (fun _ => 0) 1 2) 2 20) 3 120) (show upd (upd (upd (upd (fun _ => 0) 1 2) 2 20) 3 120) 1 2 = (upd (upd (upd (fun _ => 0) 1 2) 2 20) 3 120) from by funext j; simp only [upd]; (repeat' split) <;> (first | rfl | omega)) [(a0, .inr (12, [.ref a1, .ref a2, .ref a3, .ref a4, .ref a5, .int 0, .ref a6, .int 0, .int 0, .int 0, .int 0, .int 0, .int 0, .int 0, .int 0, .int 0, .int 0, .int (-1), .ref a7, .ref a8, .int x1, .ref a9, .int 21, .ref a10, .ref a11, .ref a12, .ref a13, .ref a14, .int 0, .ref a15, .ref a16, .ref a17])), (a1, .inl (cy 1, 1868, .inl (upd (upd (upd (fun _ => 0) 1 2) 2 20) 3 120))), (a7, .inl (cy 1, 1830, .inl f0)), (a8, .inl (cy 1, 1830, .inl f1)), (a9, .inl (cy 2, 2465, .inr (.inl f2)))] rfl dX12_leftWith_21 (fun H locs w => ?_)
  refine lv_aload_n C.1 C.2.1 dX12_leftWith_22 rfl (lv_at hl 2 rfl) ?_
  refine r_get C w 0 rfl rfl 0 (by decide) fl_RX12_9 (v := .ref a1) rfl dX12_leftWith_23 ?_
  refine lv_iconst (v := 2) C.1 C.2.1 dX12_leftWith_26 (by decide) ?_
  refine lv_iload_n C.1 C.2.1 dX12_leftWith_27 rfl (lv_at hl 4 rfl) ?_
  refine r_iast C w 1 rfl (vinD (by decide)) (upd (upd (upd (fun _ => 0) 1 2) 2 x0) 3 120) (show upd (upd (upd (upd (fun _ => 0) 1 2) 2 20) 3 120) 2 x0 = (upd (upd (upd (fun _ => 0) 1 2) 2 x0) 3 120) from by funext j; simp only [upd]; (repeat' split) <;> (first | rfl | omega)) [(a0, .inr (12, [.ref a1, .ref a2, .ref a3, .ref a4, .ref a5, .int 0, .ref a6, .int 0, .int 0, .int 0, .int 0, .int 0, .int 0, .int 0, .int 0, .int 0, .int 0, .int (-1), .ref a7, .ref a8, .int x1, .ref a9, .int 21, .ref a10, .ref a11, .ref a12, .ref a13, .ref a14, .int 0, .ref a15, .ref a16, .ref a17])), (a1, .inl (cy 1, 1868, .inl (upd (upd (upd (fun _ => 0) 1 2) 2 x0) 3 120))), (a7, .inl (cy 1, 1830, .inl f0)), (a8, .inl (cy 1, 1830, .inl f1)), (a9, .inl (cy 2, 2465, .inr (.inl f2)))] rfl dX12_leftWith_28 (fun H locs w => ?_)
  refine lv_aload_n C.1 C.2.1 dX12_leftWith_29 rfl (lv_at hl 2 rfl) ?_
  refine r_callV C w fv_RX12_336 (c_X12_leftNow_4 l D cy a0 a1 a2 a3 a4 a5 a6 a7 a8 a9 a10 a11 a12 a13 a14 a15 a16 a17 x1 x0 f0 f1 f2 k0 k1) (hl.1.trans hml.symm) [0, 1, 2, 3, 4] [] (wr := []) ⟨rfl, rfl, rfl, rfl, by decide⟩ 0 rfl rfl rfl rfl rfl ⟨Nat.le_of_ble_eq_true rfl, Nat.le_of_ble_eq_true rfl, Nat.le_of_ble_eq_true rfl⟩ 0 0 ⟨rfl, rfl, Nat.le_of_ble_eq_true rfl, Nat.le_of_ble_eq_true rfl⟩ dX12_leftWith_30 (fun u H locs hp w => ?_)
  have w : Wd D A s.heap [(a1, .inl (cy 1, 1868, .inl (upd (upd (upd (fun _ => 0) 1 2) 2 x0) 3 120))), (a7, .inl (cy 1, 1830, .inl (lxF f0 2 (x0).toNatClampNeg (PP (x0).toNatClampNeg 2 ((x0).toNatClampNeg + 1 - 2))))), (a8, .inl (cy 1, 1830, .inl (lyF f1 2 (x0).toNatClampNeg (PP (x0).toNatClampNeg 2 ((x0).toNatClampNeg + 1 - 2))))), (a0, .inr (12, [.ref a1, .ref a2, .ref a3, .ref a4, .ref a5, .int 0, .ref a6, .int 0, .int 0, .int 0, .int 0, .int 0, .int 0, .int 0, .int 0, .int 0, .int 0, .int (-1), .ref a7, .ref a8, .int (nI (PP (x0).toNatClampNeg 2 ((x0).toNatClampNeg + 1 - 2))), .ref a9, .int 21, .ref a10, .ref a11, .ref a12, .ref a13, .ref a14, .int 0, .ref a15, .ref a16, .ref a17])), (a9, .inl (cy 2, 2465, .inr (.inl (rwF f2 (PP (x0).toNatClampNeg 2 ((x0).toNatClampNeg + 1 - 2))))))] _ _ := w
  refine r_top (g2 := F0 m 33 ls [.int (nI (PP (x0).toNatClampNeg 2 ((x0).toNatClampNeg + 1 - 2)))]) rfl ?_
  refine lv_istore (lv' := [(5, .int (nI (PP (x0).toNatClampNeg 2 ((x0).toNatClampNeg + 1 - 2)))), (4, .int 20), (3, .int 2), (0, .ref a0), (1, .int 2), (2, .int x0)]) C.1 C.2.1 dX12_leftWith_33 hl (by decide) rfl (fun ls hl => ?_)
  refine lv_aload_n C.1 C.2.1 dX12_leftWith_35 rfl (lv_at hl 3 rfl) ?_
  refine r_get C w 3 rfl rfl 0 (by decide) fl_RX12_9 (v := .ref a1) rfl dX12_leftWith_36 ?_
  refine lv_iconst (v := 1) C.1 C.2.1 dX12_leftWith_39 (by decide) ?_
  refine lv_iload_n C.1 C.2.1 dX12_leftWith_40 rfl (lv_at hl 2 rfl) ?_
  refine r_iast C w 0 rfl (vinD (by decide)) (upd (upd (upd (fun _ => 0) 1 2) 2 x0) 3 120) (show upd (upd (upd (upd (fun _ => 0) 1 2) 2 x0) 3 120) 1 2 = (upd (upd (upd (fun _ => 0) 1 2) 2 x0) 3 120) from by funext j; simp only [upd]; (repeat' split) <;> (first | rfl | omega)) [(a1, .inl (cy 1, 1868, .inl (upd (upd (upd (fun _ => 0) 1 2) 2 x0) 3 120))), (a7, .inl (cy 1, 1830, .inl (lxF f0 2 (x0).toNatClampNeg (PP (x0).toNatClampNeg 2 ((x0).toNatClampNeg + 1 - 2))))), (a8, .inl (cy 1, 1830, .inl (lyF f1 2 (x0).toNatClampNeg (PP (x0).toNatClampNeg 2 ((x0).toNatClampNeg + 1 - 2))))), (a0, .inr (12, [.ref a1, .ref a2, .ref a3, .ref a4, .ref a5, .int 0, .ref a6, .int 0, .int 0, .int 0, .int 0, .int 0, .int 0, .int 0, .int 0, .int 0, .int 0, .int (-1), .ref a7, .ref a8, .int (nI (PP (x0).toNatClampNeg 2 ((x0).toNatClampNeg + 1 - 2))), .ref a9, .int 21, .ref a10, .ref a11, .ref a12, .ref a13, .ref a14, .int 0, .ref a15, .ref a16, .ref a17])), (a9, .inl (cy 2, 2465, .inr (.inl (rwF f2 (PP (x0).toNatClampNeg 2 ((x0).toNatClampNeg + 1 - 2))))))] rfl dX12_leftWith_41 (fun H locs w => ?_)
  refine lv_aload_n C.1 C.2.1 dX12_leftWith_42 rfl (lv_at hl 3 rfl) ?_
  refine r_get C w 3 rfl rfl 0 (by decide) fl_RX12_9 (v := .ref a1) rfl dX12_leftWith_43 ?_
  refine lv_iconst (v := 2) C.1 C.2.1 dX12_leftWith_46 (by decide) ?_
  refine lv_iload C.1 C.2.1 dX12_leftWith_47 (lv_at hl 1 rfl) ?_
  refine r_iast C w 0 rfl (vinD (by decide)) (upd (upd (upd (fun _ => 0) 1 2) 2 20) 3 120) (show upd (upd (upd (upd (fun _ => 0) 1 2) 2 x0) 3 120) 2 20 = (upd (upd (upd (fun _ => 0) 1 2) 2 20) 3 120) from by funext j; simp only [upd]; (repeat' split) <;> (first | rfl | omega)) [(a1, .inl (cy 1, 1868, .inl (upd (upd (upd (fun _ => 0) 1 2) 2 20) 3 120))), (a7, .inl (cy 1, 1830, .inl (lxF f0 2 (x0).toNatClampNeg (PP (x0).toNatClampNeg 2 ((x0).toNatClampNeg + 1 - 2))))), (a8, .inl (cy 1, 1830, .inl (lyF f1 2 (x0).toNatClampNeg (PP (x0).toNatClampNeg 2 ((x0).toNatClampNeg + 1 - 2))))), (a0, .inr (12, [.ref a1, .ref a2, .ref a3, .ref a4, .ref a5, .int 0, .ref a6, .int 0, .int 0, .int 0, .int 0, .int 0, .int 0, .int 0, .int 0, .int 0, .int 0, .int (-1), .ref a7, .ref a8, .int (nI (PP (x0).toNatClampNeg 2 ((x0).toNatClampNeg + 1 - 2))), .ref a9, .int 21, .ref a10, .ref a11, .ref a12, .ref a13, .ref a14, .int 0, .ref a15, .ref a16, .ref a17])), (a9, .inl (cy 2, 2465, .inr (.inl (rwF f2 (PP (x0).toNatClampNeg 2 ((x0).toNatClampNeg + 1 - 2))))))] rfl dX12_leftWith_49 (fun H locs w => ?_)
  refine lv_iload C.1 C.2.1 dX12_leftWith_50 (lv_at hl 0 rfl) ?_
  exact r_iret C w hlocks () hr rfl rfl trivial [0, 1, 2, 3, 4] rfl rfl ⟨Nat.le_of_ble_eq_true rfl, Nat.le_of_ble_eq_true rfl⟩ dX12_leftWith_52
set_option maxRecDepth 100000 in
set_option maxHeartbeats 4000000 in
theorem lp_X12_upTo_1 {p : Program} {l : Launch} {e : Env} {R : Room} {s : State} {m : MethodId} {args : Array Value} {below : List Frame} {meth : Method} {c : Code} {cells slots : Nat} {Q : State → Prop} {D : va_G} {cy : Nat → ClassId} {A : Nat → Prop} {H : Heap} {locs : List Loc} {ls : Array Slot} (a1 a7 a8 a0 a2 a3 a4 a5 a6 a9 a10 a11 a12 a13 a14 a15 a16 a17 : Nat) (f g : Nat → Int32) (h : Nat → Int64) (pv qv : Int32) (C : Cx p s m args c cX12_upTo RX12 D cy A) (hml : c.maxLocals = 4) (hfr : 5 ≤ R.frames) (hlo : 117 ≤ R.locals) (hcs : cells ≤ R.cells ∧ slots ≤ R.slots) (w : Wd D A s.heap [(a1, .inl (cy 1, 1868, .inl (upd (upd (upd (fun _ => 0) 1 2) 2 20) 3 120))), (a7, .inl (cy 1, 1830, .inl f)), (a8, .inl (cy 1, 1830, .inl g)), (a0, .inr (12, [.ref a1, .ref a2, .ref a3, .ref a4, .ref a5, .int 0, .ref a6, .int 0, .int 0, .int 0, .int 0, .int 0, .int 0, .int 0, .int 0, .int 0, .int 0, .int (-1), .ref a7, .ref a8, .int pv, .ref a9, .int 21, .ref a10, .ref a11, .ref a12, .ref a13, .ref a14, .int 0, .ref a15, .ref a16, .ref a17])), (a9, .inl (cy 2, 2465, .inr (.inl h)))] H locs) (hl : lv_has ls 4 [(0, .ref a0), (1, .int qv), (2, .int 2), (3, .int 3)])
    (kk : ∀ (H : Heap) (locs : List Loc) (ls : Array Slot) (f g : Nat → Int32) (h : Nat → Int64) (pv : Int32), Wd D A s.heap [(a1, .inl (cy 1, 1868, .inl (upd (upd (upd (fun _ => 0) 1 2) 2 20) 3 120))), (a7, .inl (cy 1, 1830, .inl f)), (a8, .inl (cy 1, 1830, .inl g)), (a0, .inr (12, [.ref a1, .ref a2, .ref a3, .ref a4, .ref a5, .int 0, .ref a6, .int 0, .int 0, .int 0, .int 0, .int 0, .int 0, .int 0, .int 0, .int 0, .int 0, .int (-1), .ref a7, .ref a8, .int pv, .ref a9, .int 21, .ref a10, .ref a11, .ref a12, .ref a13, .ref a14, .int 0, .ref a15, .ref a16, .ref a17])), (a9, .inl (cy 2, 2465, .inr (.inl h)))] H locs → lv_has ls 4 [(0, .ref a0), (1, .int qv), (2, .int 2)] → W p l e R s m args below meth c H locs cells slots Q (F0 m 75 ls [])) : W p l e R s m args below meth c H locs cells slots Q (F0 m 37 ls []) := by
  have lp : ∀ (k n : Nat) (i pv : Int32) (f g : Nat → Int32) (h : Nat → Int64) (H : Heap) (locs : List Loc) (ls : Array Slot), 3 ≤ n → n + k = 61 → i = nI n → Wd D A s.heap [(a1, .inl (cy 1, 1868, .inl (upd (upd (upd (fun _ => 0) 1 2) 2 20) 3 120))), (a7, .inl (cy 1, 1830, .inl f)), (a8, .inl (cy 1, 1830, .inl g)), (a0, .inr (12, [.ref a1, .ref a2, .ref a3, .ref a4, .ref a5, .int 0, .ref a6, .int 0, .int 0, .int 0, .int 0, .int 0, .int 0, .int 0, .int 0, .int 0, .int 0, .int (-1), .ref a7, .ref a8, .int pv, .ref a9, .int 21, .ref a10, .ref a11, .ref a12, .ref a13, .ref a14, .int 0, .ref a15, .ref a16, .ref a17])), (a9, .inl (cy 2, 2465, .inr (.inl h)))] H locs → lv_has ls 4 [(0, .ref a0), (1, .int qv), (2, .int 2), (3, .int i)] → W p l e R s m args below meth c H locs cells slots Q (F0 m 37 ls []) := by
    intro k
    induction k with
    | zero =>
      intro n i pv f g h H locs ls h3 h4 ei w hl
      have hx : n = 61 := by omega
      subst hx
      have c1 : (60 : Int32) < i := by rw [ei]; decide
      refine lv_iload_n C.1 C.2.1 dX12_upTo_37 rfl (lv_at hl 3 rfl) ?_
      refine lv_bipush (v := 60) C.1 C.2.1 dX12_upTo_38 (by decide) ?_
      refine b_icmp_gt_t C (tgt := 75) dX12_upTo_40 (by decide) c1 ?_
      exact kk _ _ _ f g h pv w (lv_sub hl [0, 1, 2] rfl)
    | succ k ih =>
      intro n i pv f g h H locs ls h3 h4 ei w hl
      have c1 : ¬ (60 : Int32) < i := by rw [ei]; exact nI_nlt (a := 60) (by omega) (by omega)
      have c2 : ¬ i < 2 := by rw [ei]; exact nI_nlt (b := 2) (by omega) (by omega)
      have hc : i.toNatClampNeg = n := by rw [ei, nI_clamp (by omega)]
      have c4 : ¬ (nI (PP (i).toNatClampNeg 2 ((i).toNatClampNeg + 1 - 2))) = 1 := by
        rw [show (i).toNatClampNeg = n from hc, show (1 : Int32) = nI 1 from rfl, nI_eq (by have := PP_le n (by omega) 2 (by decide) (by decide) (by omega); omega) (by decide)]
        exact PP_one n (by omega) (by omega)
      refine lv_iload_n C.1 C.2.1 dX12_upTo_37 rfl (lv_at hl 3 rfl) ?_
      refine lv_bipush (v := 60) C.1 C.2.1 dX12_upTo_38 (by decide) ?_
      refine b_icmp_gt_f C (tgt := 75) dX12_upTo_40 (by decide) c1 ?_
      refine lv_aload_n C.1 C.2.1 dX12_upTo_43 rfl (lv_at hl 0 rfl) ?_
      refine lv_aload_n C.1 C.2.1 dX12_upTo_44 rfl (lv_at hl 0 rfl) ?_
      refine r_get C w 3 rfl rfl 0 (by decide) fl_RX12_9 (v := .ref a1) rfl dX12_upTo_45 ?_
      refine lv_iconst (v := 1) C.1 C.2.1 dX12_upTo_48 (by decide) ?_
      refine r_iald C w 0 rfl (v := 2) (vinD (by decide)) rfl dX12_upTo_49 ?_
      refine lv_iload_n C.1 C.2.1 dX12_upTo_50 rfl (lv_at hl 3 rfl) ?_
      refine r_callV C w fv_RX12_353 (c_X12_leftWith_3 l D cy a0 a1 a2 a3 a4 a5 a6 a7 a8 a9 a10 a11 a12 a13 a14 a15 a16 a17 i pv f g h c2 c1) (hl.1.trans hml.symm) [3, 0, 1, 2, 4] [] (wr := []) ⟨rfl, rfl, rfl, rfl, by decide⟩ 0 rfl rfl rfl rfl rfl ⟨by omega, by omega, Nat.le_of_ble_eq_true rfl⟩ cells slots ⟨rfl, rfl, hcs.1, hcs.2⟩ dX12_upTo_51 (fun u H locs hp w => ?_)
      have w : Wd D A s.heap [(a1, .inl (cy 1, 1868, .inl (upd (upd (upd (fun _ => 0) 1 2) 2 20) 3 120))), (a7, .inl (cy 1, 1830, .inl (lxF f 2 (i).toNatClampNeg (PP (i).toNatClampNeg 2 ((i).toNatClampNeg + 1 - 2))))), (a8, .inl (cy 1, 1830, .inl (lyF g 2 (i).toNatClampNeg (PP (i).toNatClampNeg 2 ((i).toNatClampNeg + 1 - 2))))), (a0, .inr (12, [.ref a1, .ref a2, .ref a3, .ref a4, .ref a5, .int 0, .ref a6, .int 0, .int 0, .int 0, .int 0, .int 0, .int 0, .int 0, .int 0, .int 0, .int 0, .int (-1), .ref a7, .ref a8, .int (nI (PP (i).toNatClampNeg 2 ((i).toNatClampNeg + 1 - 2))), .ref a9, .int 21, .ref a10, .ref a11, .ref a12, .ref a13, .ref a14, .int 0, .ref a15, .ref a16, .ref a17])), (a9, .inl (cy 2, 2465, .inr (.inl (rwF h (PP (i).toNatClampNeg 2 ((i).toNatClampNeg + 1 - 2))))))] _ _ := w
      refine r_top (g2 := F0 m 54 ls [.int (nI (PP (i).toNatClampNeg 2 ((i).toNatClampNeg + 1 - 2)))]) rfl ?_
      refine lv_iconst (v := 1) C.1 C.2.1 dX12_upTo_54 (by decide) ?_
      refine b_icmp_eq_f C (tgt := 61) dX12_upTo_55 (by decide) c4 ?_
      refine lv_goto (tgt := 69) C.1 C.2.1 dX12_upTo_58 (by decide) ?_
      refine lv_iinc (v := (i + 1)) (lv' := [(3, .int (i + 1)), (0, .ref a0), (1, .int qv), (2, .int 2)]) C.1 C.2.1 dX12_upTo_69 hl (k := 3) rfl rfl (by decide) rfl (fun ls hl => ?_)
      refine lv_goto (tgt := 37) C.1 C.2.1 dX12_upTo_72 (by decide) ?_
      exact ih (n + 1) (i + 1) _ _ _ _ _ _ _ (by omega) (by omega) (by rw [ei]; exact nI_1 _) w (lv_sub hl [1, 2, 3, 0] rfl)
  exact lp 58 3 3 pv f g h _ _ _ (Nat.le_refl _) rfl rfl w hl
theorem dX12_upTo_76 : decode cX12_upTo 76 = .ok (.ireturn, 1) := by decide +kernel
set_option maxRecDepth 100000 in
set_option maxHeartbeats 4000000 in
theorem c_X12_upTo_1 (l : Launch) (D : va_G) (cy : Nat → ClassId) (a0 a1 a2 a3 a4 a5 a6 a7 a8 a9 a10 a11 a12 a13 a14 a15 a16 a17 : Nat) (x0 : Int32) (k0 : ¬ x0 < 0) (k1 : ¬ 1 < x0) (k2 : ¬ x0 = 0) : Ct l D cy yX12_upTo cX12_upTo 4 (some .int) 5 117 0 0 [(a0, .inr (12, [.ref a1, .ref a2, .ref a3, .ref a4, .ref a5, .int 0, .ref a6, .int 0, .int 0, .int 0, .int 0, .int 0, .int 0, .int 0, .int 0, .int 0, .int 0, .int (-1), .ref a7, .ref a8, .int 0, .ref a9, .int 0, .ref a10, .ref a11, .ref a12, .ref a13, .ref a14, .int 0, .ref a15, .ref a16, .ref a17])), (a1, .inl (cy 1, 1868, .inl (upd (upd (upd (fun _ => 0) 1 2) 2 20) 3 120))), (a7, .inl (cy 1, 1830, .inl (fun _ => 0))), (a8, .inl (cy 1, 1830, .inl (fun _ => 0))), (a9, .inl (cy 2, 2465, .inr (.inl (fun _ => 0))))] [.ref a0, .int x0] (fun u : Int32 => some (.int 2)) (fun _ => True) (fun u : Int32 => [(a1, .inl (cy 1, 1868, .inl (upd (upd (upd (fun _ => 0) 1 2) 2 20) 3 120))), (a0, .inr (12, [.ref a1, .ref a2, .ref a3, .ref a4, .ref a5, .int 0, .ref a6, .int 0, .int 0, .int 0, .int 0, .int 0, .int 0, .int 0, .int 0, .int 0, .int 0, .int (-1), .ref a7, .ref a8, .int u, .ref a9, .int 21, .ref a10, .ref a11, .ref a12, .ref a13, .ref a14, .int 0, .ref a15, .ref a16, .ref a17]))]) := by
  refine Ct.of (by decide +kernel) (Nat.le_of_ble_eq_true rfl) ?_
  intro p e s m args below meth c A ls C hr hlocks hml hnm w hl
  have hl : lv_has ls 4 [(0, .ref a0), (1, .int x0)] := hl
  refine lv_aload_n C.1 C.2.1 dX12_upTo_0 rfl (lv_at hl 0 rfl) ?_
  refine lv_iload_n C.1 C.2.1 dX12_upTo_1 rfl (lv_at hl 1 rfl) ?_
  refine lv_i2l (v := (Int32.toInt64 x0)) C.1 C.2.1 dX12_upTo_2 rfl ?_
  refine lv_lconst (v := 0) C.1 C.2.1 dX12_upTo_3 (by decide) ?_
  refine lv_lconst (v := 1) C.1 C.2.1 dX12_upTo_4 (by decide) ?_
  refine r_callS C w fs_RX12_133 (c_X12_within_17 l D cy x0 k0 k1) (hl.1.trans hml.symm) [] [0, 1, 2, 3, 4] (wr := [(a0, .inr (12, [.ref a1, .ref a2, .ref a3, .ref a4, .ref a5, .int 0, .ref a6, .int 0, .int 0, .int 0, .int 0, .int 0, .int 0, .int 0, .int 0, .int 0, .int 0, .int (-1), .ref a7, .ref a8, .int 0, .ref a9, .int 0, .ref a10, .ref a11, .ref a12, .ref a13, .ref a14, .int 0, .ref a15, .ref a16, .ref a17])), (a1, .inl (cy 1, 1868, .inl (upd (upd (upd (fun _ => 0) 1 2) 2 20) 3 120))), (a7, .inl (cy 1, 1830, .inl (fun _ => 0))), (a8, .inl (cy 1, 1830, .inl (fun _ => 0))), (a9, .inl (cy 2, 2465, .inr (.inl (fun _ => 0))))]) ⟨rfl, rfl, rfl, rfl, by decide⟩ rfl rfl ⟨Nat.le_of_ble_eq_true rfl, Nat.le_of_ble_eq_true rfl, Nat.le_of_ble_eq_true rfl⟩ 0 0 ⟨rfl, rfl, Nat.le_of_ble_eq_true rfl, Nat.le_of_ble_eq_true rfl⟩ dX12_upTo_5 (fun u H locs hp w => ?_)
  have w : Wd D A s.heap [(a0, .inr (12, [.ref a1, .ref a2, .ref a3, .ref a4, .ref a5, .int 0, .ref a6, .int 0, .int 0, .int 0, .int 0, .int 0, .int 0, .int 0, .int 0, .int 0, .int 0, .int (-1), .ref a7, .ref a8, .int 0, .ref a9, .int 0, .ref a10, .ref a11, .ref a12, .ref a13, .ref a14, .int 0, .ref a15, .ref a16, .ref a17])), (a1, .inl (cy 1, 1868, .inl (upd (upd (upd (fun _ => 0) 1 2) 2 20) 3 120))), (a7, .inl (cy 1, 1830, .inl (fun _ => 0))), (a8, .inl (cy 1, 1830, .inl (fun _ => 0))), (a9, .inl (cy 2, 2465, .inr (.inl (fun _ => 0))))] _ _ := w
  refine r_top (g2 := F0 m 8 ls [.int 1, .ref a0]) rfl ?_
  refine b_if_eq_f C (tgt := 15) dX12_upTo_8 (by decide) (by decide) ?_
  refine lv_iconst (v := 0) C.1 C.2.1 dX12_upTo_11 (by decide) ?_
  refine lv_goto (tgt := 16) C.1 C.2.1 dX12_upTo_12 (by decide) ?_
  refine r_put C w 0 rfl rfl 5 (by decide) fl_RX12_71 rfl (ty := .int) (tyX12_ok 5 (by decide)) rfl rfl (Nat.le_of_ble_eq_true rfl) [(a0, .inr (12, [.ref a1, .ref a2, .ref a3, .ref a4, .ref a5, .int 0, .ref a6, .int 0, .int 0, .int 0, .int 0, .int 0, .int 0, .int 0, .int 0, .int 0, .int 0, .int (-1), .ref a7, .ref a8, .int 0, .ref a9, .int 0, .ref a10, .ref a11, .ref a12, .ref a13, .ref a14, .int 0, .ref a15, .ref a16, .ref a17])), (a1, .inl (cy 1, 1868, .inl (upd (upd (upd (fun _ => 0) 1 2) 2 20) 3 120))), (a7, .inl (cy 1, 1830, .inl (fun _ => 0))), (a8, .inl (cy 1, 1830, .inl (fun _ => 0))), (a9, .inl (cy 2, 2465, .inr (.inl (fun _ => 0))))] rfl dX12_upTo_16 (fun H locs w => ?_)
  refine lv_aload_n C.1 C.2.1 dX12_upTo_19 rfl (lv_at hl 0 rfl) ?_
  refine r_get C w 0 rfl rfl 5 (by decide) fl_RX12_71 (v := .int 0) rfl dX12_upTo_20 ?_
  refine b_if_le_t C (tgt := 28) dX12_upTo_23 (by decide) (by decide) ?_
  refine lv_iconst (v := (-1)) C.1 C.2.1 dX12_upTo_28 (by decide) ?_
  refine lv_istore_n (lv' := [(2, .int (-1)), (0, .ref a0), (1, .int x0)]) C.1 C.2.1 dX12_upTo_29 rfl hl (by decide) rfl (fun ls hl => ?_)
  refine lv_aload_n C.1 C.2.1 dX12_upTo_30 rfl (lv_at hl 1 rfl) ?_
  refine r_get C w 0 rfl rfl 0 (by decide) fl_RX12_9 (v := .ref a1) rfl dX12_upTo_31 ?_
  refine lv_iconst (v := 1) C.1 C.2.1 dX12_upTo_34 (by decide) ?_
  refine r_iald C w 1 rfl (v := 2) (vinD (by decide)) rfl dX12_upTo_35 ?_
  refine lv_istore_n (lv' := [(3, .int 2), (2, .int (-1)), (0, .ref a0), (1, .int x0)]) C.1 C.2.1 dX12_upTo_36 rfl hl (by decide) rfl (fun ls hl => ?_)
  refine lv_iload_n C.1 C.2.1 dX12_upTo_37 rfl (lv_at hl 0 rfl) ?_
  refine lv_bipush (v := 60) C.1 C.2.1 dX12_upTo_38 (by decide) ?_
  refine b_icmp_gt_f C (tgt := 75) dX12_upTo_40 (by decide) (by decide) ?_
  refine lv_aload_n C.1 C.2.1 dX12_upTo_43 rfl (lv_at hl 2 rfl) ?_
  refine lv_aload_n C.1 C.2.1 dX12_upTo_44 rfl (lv_at hl 2 rfl) ?_
  refine r_get C w 0 rfl rfl 0 (by decide) fl_RX12_9 (v := .ref a1) rfl dX12_upTo_45 ?_
  refine lv_iconst (v := 1) C.1 C.2.1 dX12_upTo_48 (by decide) ?_
  refine r_iald C w 1 rfl (v := 2) (vinD (by decide)) rfl dX12_upTo_49 ?_
  refine lv_iload_n C.1 C.2.1 dX12_upTo_50 rfl (lv_at hl 0 rfl) ?_
  refine r_callV C w fv_RX12_353 (c_X12_leftWith_1 l D cy a0 a1 a2 a3 a4 a5 a6 a7 a8 a9 a10 a11 a12 a13 a14 a15 a16 a17) (hl.1.trans hml.symm) [0, 1, 2, 3, 4] [] (wr := []) ⟨rfl, rfl, rfl, rfl, by decide⟩ 0 rfl rfl rfl rfl rfl ⟨Nat.le_of_ble_eq_true rfl, Nat.le_of_ble_eq_true rfl, Nat.le_of_ble_eq_true rfl⟩ 0 0 ⟨rfl, rfl, Nat.le_of_ble_eq_true rfl, Nat.le_of_ble_eq_true rfl⟩ dX12_upTo_51 (fun u H locs hp w => ?_)
  have w : Wd D A s.heap [(a1, .inl (cy 1, 1868, .inl (upd (upd (upd (fun _ => 0) 1 2) 2 20) 3 120))), (a7, .inl (cy 1, 1830, .inl (lxF (fun _ => 0) 2 2 (PP 2 2 (2 + 1 - 2))))), (a8, .inl (cy 1, 1830, .inl (lyF (fun _ => 0) 2 2 (PP 2 2 (2 + 1 - 2))))), (a0, .inr (12, [.ref a1, .ref a2, .ref a3, .ref a4, .ref a5, .int 0, .ref a6, .int 0, .int 0, .int 0, .int 0, .int 0, .int 0, .int 0, .int 0, .int 0, .int 0, .int (-1), .ref a7, .ref a8, .int 1, .ref a9, .int 21, .ref a10, .ref a11, .ref a12, .ref a13, .ref a14, .int 0, .ref a15, .ref a16, .ref a17])), (a9, .inl (cy 2, 2465, .inr (.inl (rwF (fun _ => 0) 1))))] _ _ := w
  refine r_top (g2 := F0 m 54 ls [.int 1]) rfl ?_
  refine lv_iconst (v := 1) C.1 C.2.1 dX12_upTo_54 (by decide) ?_
  refine b_icmp_eq_t C (tgt := 61) dX12_upTo_55 (by decide) (by decide) ?_
  refine lv_iload_n C.1 C.2.1 dX12_upTo_61 rfl (lv_at hl 0 rfl) ?_
  refine lv_istore_n (lv' := [(2, .int 2), (3, .int 2), (0, .ref a0), (1, .int x0)]) C.1 C.2.1 dX12_upTo_62 rfl hl (by decide) rfl (fun ls hl => ?_)
  refine lv_iload_n C.1 C.2.1 dX12_upTo_63 rfl (lv_at hl 3 rfl) ?_
  refine b_if_ne_t C (tgt := 69) dX12_upTo_64 (by decide) k2 ?_
  refine lv_iinc (v := 3) (lv' := [(3, .int 3), (2, .int 2), (0, .ref a0), (1, .int x0)]) C.1 C.2.1 dX12_upTo_69 hl (k := 1) rfl (by decide) (by decide) rfl (fun ls hl => ?_)
  refine lv_goto (tgt := 37) C.1 C.2.1 dX12_upTo_72 (by decide) ?_
  refine lp_X12_upTo_1 a1 a7 a8 a0 a2 a3 a4 a5 a6 a9 a10 a11 a12 a13 a14 a15 a16 a17 (lxF (fun _ => 0) 2 2 (PP 2 2 (2 + 1 - 2))) (lyF (fun _ => 0) 2 2 (PP 2 2 (2 + 1 - 2))) (rwF (fun _ => 0) 1) 1 x0 C hml (Nat.le_of_ble_eq_true rfl) (Nat.le_of_ble_eq_true rfl) ⟨Nat.le_of_ble_eq_true rfl, Nat.le_of_ble_eq_true rfl⟩ (w.re rfl) (lv_sub hl [2, 3, 1, 0] rfl) (fun H locs ls f g h pv w hl => ?_)
  have w : Wd D A s.heap [(a1, .inl (cy 1, 1868, .inl (upd (upd (upd (fun _ => 0) 1 2) 2 20) 3 120))), (a7, .inl (cy 1, 1830, .inl f)), (a8, .inl (cy 1, 1830, .inl g)), (a0, .inr (12, [.ref a1, .ref a2, .ref a3, .ref a4, .ref a5, .int 0, .ref a6, .int 0, .int 0, .int 0, .int 0, .int 0, .int 0, .int 0, .int 0, .int 0, .int 0, .int (-1), .ref a7, .ref a8, .int pv, .ref a9, .int 21, .ref a10, .ref a11, .ref a12, .ref a13, .ref a14, .int 0, .ref a15, .ref a16, .ref a17])), (a9, .inl (cy 2, 2465, .inr (.inl h)))] _ _ := w
  refine lv_iload_n C.1 C.2.1 dX12_upTo_75 rfl (lv_at hl 2 rfl) ?_
  exact r_iret C w hlocks pv hr rfl rfl trivial [0, 3] rfl rfl ⟨Nat.le_of_ble_eq_true rfl, Nat.le_of_ble_eq_true rfl⟩ dX12_upTo_76
theorem dX12_upTo_67 : decode cX12_upTo 67 = .ok (.iload_n 2, 1) := by decide +kernel
theorem dX12_upTo_68 : decode cX12_upTo 68 = .ok (.ireturn, 1) := by decide +kernel
set_option maxRecDepth 100000 in
set_option maxHeartbeats 4000000 in
theorem c_X12_upTo_2 (l : Launch) (D : va_G) (cy : Nat → ClassId) (a0 a1 a2 a3 a4 a5 a6 a7 a8 a9 a10 a11 a12 a13 a14 a15 a16 a17 : Nat) : Ct l D cy yX12_upTo cX12_upTo 4 (some .int) 5 117 0 0 [(a0, .inr (12, [.ref a1, .ref a2, .ref a3, .ref a4, .ref a5, .int 0, .ref a6, .int 0, .int 0, .int 0, .int 0, .int 0, .int 0, .int 0, .int 0, .int 0, .int 0, .int (-1), .ref a7, .ref a8, .int 0, .ref a9, .int 0, .ref a10, .ref a11, .ref a12, .ref a13, .ref a14, .int 0, .ref a15, .ref a16, .ref a17])), (a1, .inl (cy 1, 1868, .inl (upd (upd (upd (fun _ => 0) 1 2) 2 20) 3 120))), (a7, .inl (cy 1, 1830, .inl (fun _ => 0))), (a8, .inl (cy 1, 1830, .inl (fun _ => 0))), (a9, .inl (cy 2, 2465, .inr (.inl (fun _ => 0))))] [.ref a0, .int 0] (fun u : Unit => some (.int 2)) (fun _ => True) (fun u : Unit => [(a1, .inl (cy 1, 1868, .inl (upd (upd (upd (fun _ => 0) 1 2) 2 20) 3 120))), (a7, .inl (cy 1, 1830, .inl (lxF (fun _ => 0) 2 2 (PP 2 2 (2 + 1 - 2))))), (a8, .inl (cy 1, 1830, .inl (lyF (fun _ => 0) 2 2 (PP 2 2 (2 + 1 - 2))))), (a0, .inr (12, [.ref a1, .ref a2, .ref a3, .ref a4, .ref a5, .int 0, .ref a6, .int 0, .int 0, .int 0, .int 0, .int 0, .int 0, .int 0, .int 0, .int 0, .int 0, .int (-1), .ref a7, .ref a8, .int 1, .ref a9, .int 21, .ref a10, .ref a11, .ref a12, .ref a13, .ref a14, .int 0, .ref a15, .ref a16, .ref a17])), (a9, .inl (cy 2, 2465, .inr (.inl (rwF (fun _ => 0) 1))))]) := by
  refine Ct.of (by decide +kernel) (Nat.le_of_ble_eq_true rfl) ?_
  intro p e s m args below meth c A ls C hr hlocks hml hnm w hl
  have hl : lv_has ls 4 [(0, .ref a0), (1, .int 0)] := hl
  refine lv_aload_n C.1 C.2.1 dX12_upTo_0 rfl (lv_at hl 0 rfl) ?_
  refine lv_iload_n C.1 C.2.1 dX12_upTo_1 rfl (lv_at hl 1 rfl) ?_
  refine lv_i2l (v := 0) C.1 C.2.1 dX12_upTo_2 (by decide) ?_
  refine lv_lconst (v := 0) C.1 C.2.1 dX12_upTo_3 (by decide) ?_
  refine lv_lconst (v := 1) C.1 C.2.1 dX12_upTo_4 (by decide) ?_
  refine r_callS C w fs_RX12_133 (c_X12_within_18 l D cy) (hl.1.trans hml.symm) [] [0, 1, 2, 3, 4] (wr := [(a0, .inr (12, [.ref a1, .ref a2, .ref a3, .ref a4, .ref a5, .int 0, .ref a6, .int 0, .int 0, .int 0, .int 0, .int 0, .int 0, .int 0, .int 0, .int 0, .int 0, .int (-1), .ref a7, .ref a8, .int 0, .ref a9, .int 0, .ref a10, .ref a11, .ref a12, .ref a13, .ref a14, .int 0, .ref a15, .ref a16, .ref a17])), (a1, .inl (cy 1, 1868, .inl (upd (upd (upd (fun _ => 0) 1 2) 2 20) 3 120))), (a7, .inl (cy 1, 1830, .inl (fun _ => 0))), (a8, .inl (cy 1, 1830, .inl (fun _ => 0))), (a9, .inl (cy 2, 2465, .inr (.inl (fun _ => 0))))]) ⟨rfl, rfl, rfl, rfl, by decide⟩ rfl rfl ⟨Nat.le_of_ble_eq_true rfl, Nat.le_of_ble_eq_true rfl, Nat.le_of_ble_eq_true rfl⟩ 0 0 ⟨rfl, rfl, Nat.le_of_ble_eq_true rfl, Nat.le_of_ble_eq_true rfl⟩ dX12_upTo_5 (fun u H locs hp w => ?_)
  have w : Wd D A s.heap [(a0, .inr (12, [.ref a1, .ref a2, .ref a3, .ref a4, .ref a5, .int 0, .ref a6, .int 0, .int 0, .int 0, .int 0, .int 0, .int 0, .int 0, .int 0, .int 0, .int 0, .int (-1), .ref a7, .ref a8, .int 0, .ref a9, .int 0, .ref a10, .ref a11, .ref a12, .ref a13, .ref a14, .int 0, .ref a15, .ref a16, .ref a17])), (a1, .inl (cy 1, 1868, .inl (upd (upd (upd (fun _ => 0) 1 2) 2 20) 3 120))), (a7, .inl (cy 1, 1830, .inl (fun _ => 0))), (a8, .inl (cy 1, 1830, .inl (fun _ => 0))), (a9, .inl (cy 2, 2465, .inr (.inl (fun _ => 0))))] _ _ := w
  refine r_top (g2 := F0 m 8 ls [.int 1, .ref a0]) rfl ?_
  refine b_if_eq_f C (tgt := 15) dX12_upTo_8 (by decide) (by decide) ?_
  refine lv_iconst (v := 0) C.1 C.2.1 dX12_upTo_11 (by decide) ?_
  refine lv_goto (tgt := 16) C.1 C.2.1 dX12_upTo_12 (by decide) ?_
  refine r_put C w 0 rfl rfl 5 (by decide) fl_RX12_71 rfl (ty := .int) (tyX12_ok 5 (by decide)) rfl rfl (Nat.le_of_ble_eq_true rfl) [(a0, .inr (12, [.ref a1, .ref a2, .ref a3, .ref a4, .ref a5, .int 0, .ref a6, .int 0, .int 0, .int 0, .int 0, .int 0, .int 0, .int 0, .int 0, .int 0, .int 0, .int (-1), .ref a7, .ref a8, .int 0, .ref a9, .int 0, .ref a10, .ref a11, .ref a12, .ref a13, .ref a14, .int 0, .ref a15, .ref a16, .ref a17])), (a1, .inl (cy 1, 1868, .inl (upd (upd (upd (fun _ => 0) 1 2) 2 20) 3 120))), (a7, .inl (cy 1, 1830, .inl (fun _ => 0))), (a8, .inl (cy 1, 1830, .inl (fun _ => 0))), (a9, .inl (cy 2, 2465, .inr (.inl (fun _ => 0))))] rfl dX12_upTo_16 (fun H locs w => ?_)
  refine lv_aload_n C.1 C.2.1 dX12_upTo_19 rfl (lv_at hl 0 rfl) ?_
  refine r_get C w 0 rfl rfl 5 (by decide) fl_RX12_71 (v := .int 0) rfl dX12_upTo_20 ?_
  refine b_if_le_t C (tgt := 28) dX12_upTo_23 (by decide) (by decide) ?_
  refine lv_iconst (v := (-1)) C.1 C.2.1 dX12_upTo_28 (by decide) ?_
  refine lv_istore_n (lv' := [(2, .int (-1)), (0, .ref a0), (1, .int 0)]) C.1 C.2.1 dX12_upTo_29 rfl hl (by decide) rfl (fun ls hl => ?_)
  refine lv_aload_n C.1 C.2.1 dX12_upTo_30 rfl (lv_at hl 1 rfl) ?_
  refine r_get C w 0 rfl rfl 0 (by decide) fl_RX12_9 (v := .ref a1) rfl dX12_upTo_31 ?_
  refine lv_iconst (v := 1) C.1 C.2.1 dX12_upTo_34 (by decide) ?_
  refine r_iald C w 1 rfl (v := 2) (vinD (by decide)) rfl dX12_upTo_35 ?_
  refine lv_istore_n (lv' := [(3, .int 2), (2, .int (-1)), (0, .ref a0), (1, .int 0)]) C.1 C.2.1 dX12_upTo_36 rfl hl (by decide) rfl (fun ls hl => ?_)
  refine lv_iload_n C.1 C.2.1 dX12_upTo_37 rfl (lv_at hl 0 rfl) ?_
  refine lv_bipush (v := 60) C.1 C.2.1 dX12_upTo_38 (by decide) ?_
  refine b_icmp_gt_f C (tgt := 75) dX12_upTo_40 (by decide) (by decide) ?_
  refine lv_aload_n C.1 C.2.1 dX12_upTo_43 rfl (lv_at hl 2 rfl) ?_
  refine lv_aload_n C.1 C.2.1 dX12_upTo_44 rfl (lv_at hl 2 rfl) ?_
  refine r_get C w 0 rfl rfl 0 (by decide) fl_RX12_9 (v := .ref a1) rfl dX12_upTo_45 ?_
  refine lv_iconst (v := 1) C.1 C.2.1 dX12_upTo_48 (by decide) ?_
  refine r_iald C w 1 rfl (v := 2) (vinD (by decide)) rfl dX12_upTo_49 ?_
  refine lv_iload_n C.1 C.2.1 dX12_upTo_50 rfl (lv_at hl 0 rfl) ?_
  refine r_callV C w fv_RX12_353 (c_X12_leftWith_1 l D cy a0 a1 a2 a3 a4 a5 a6 a7 a8 a9 a10 a11 a12 a13 a14 a15 a16 a17) (hl.1.trans hml.symm) [0, 1, 2, 3, 4] [] (wr := []) ⟨rfl, rfl, rfl, rfl, by decide⟩ 0 rfl rfl rfl rfl rfl ⟨Nat.le_of_ble_eq_true rfl, Nat.le_of_ble_eq_true rfl, Nat.le_of_ble_eq_true rfl⟩ 0 0 ⟨rfl, rfl, Nat.le_of_ble_eq_true rfl, Nat.le_of_ble_eq_true rfl⟩ dX12_upTo_51 (fun u H locs hp w => ?_)
  have w : Wd D A s.heap [(a1, .inl (cy 1, 1868, .inl (upd (upd (upd (fun _ => 0) 1 2) 2 20) 3 120))), (a7, .inl (cy 1, 1830, .inl (lxF (fun _ => 0) 2 2 (PP 2 2 (2 + 1 - 2))))), (a8, .inl (cy 1, 1830, .inl (lyF (fun _ => 0) 2 2 (PP 2 2 (2 + 1 - 2))))), (a0, .inr (12, [.ref a1, .ref a2, .ref a3, .ref a4, .ref a5, .int 0, .ref a6, .int 0, .int 0, .int 0, .int 0, .int 0, .int 0, .int 0, .int 0, .int 0, .int 0, .int (-1), .ref a7, .ref a8, .int 1, .ref a9, .int 21, .ref a10, .ref a11, .ref a12, .ref a13, .ref a14, .int 0, .ref a15, .ref a16, .ref a17])), (a9, .inl (cy 2, 2465, .inr (.inl (rwF (fun _ => 0) 1))))] _ _ := w
  refine r_top (g2 := F0 m 54 ls [.int 1]) rfl ?_
  refine lv_iconst (v := 1) C.1 C.2.1 dX12_upTo_54 (by decide) ?_
  refine b_icmp_eq_t C (tgt := 61) dX12_upTo_55 (by decide) (by decide) ?_
  refine lv_iload_n C.1 C.2.1 dX12_upTo_61 rfl (lv_at hl 0 rfl) ?_
  refine lv_istore_n (lv' := [(2, .int 2), (3, .int 2), (0, .ref a0), (1, .int 0)]) C.1 C.2.1 dX12_upTo_62 rfl hl (by decide) rfl (fun ls hl => ?_)
  refine lv_iload_n C.1 C.2.1 dX12_upTo_63 rfl (lv_at hl 3 rfl) ?_
  refine b_if_ne_f C (tgt := 69) dX12_upTo_64 (by decide) (by decide) ?_
  refine lv_iload_n C.1 C.2.1 dX12_upTo_67 rfl (lv_at hl 0 rfl) ?_
  exact r_iret C w hlocks () hr rfl rfl trivial [0, 1, 2, 3, 4] rfl rfl ⟨Nat.le_of_ble_eq_true rfl, Nat.le_of_ble_eq_true rfl⟩ dX12_upTo_68
set_option maxRecDepth 100000 in
set_option maxHeartbeats 4000000 in
theorem c_X12_upTo_3 (l : Launch) (D : va_G) (cy : Nat → ClassId) (a0 a1 a2 a3 a4 a5 a6 a7 a8 a9 a10 a11 a12 a13 a14 a15 a16 a17 : Nat) (x0 : Int32) (k0 : ¬ x0 < 0) (k1 : 1 < x0) : Ct l D cy yX12_upTo cX12_upTo 4 (some .int) 1 25 0 0 [(a0, .inr (12, [.ref a1, .ref a2, .ref a3, .ref a4, .ref a5, .int 0, .ref a6, .int 0, .int 0, .int 0, .int 0, .int 0, .int 0, .int 0, .int 0, .int 0, .int 0, .int (-1), .ref a7, .ref a8, .int 0, .ref a9, .int 0, .ref a10, .ref a11, .ref a12, .ref a13, .ref a14, .int 0, .ref a15, .ref a16, .ref a17]))] [.ref a0, .int x0] (fun u : Unit => some (.int 0)) (fun _ => True) (fun u : Unit => [(a0, .inr (12, [.ref a1, .ref a2, .ref a3, .ref a4, .ref a5, .int 1, .ref a6, .int 0, .int 0, .int 0, .int 0, .int 0, .int 0, .int 0, .int 0, .int 0, .int 0, .int (-1), .ref a7, .ref a8, .int 0, .ref a9, .int 0, .ref a10, .ref a11, .ref a12, .ref a13, .ref a14, .int 0, .ref a15, .ref a16, .ref a17]))]) := by
  refine Ct.of (by decide +kernel) (Nat.le_of_ble_eq_true rfl) ?_
  intro p e s m args below meth c A ls C hr hlocks hml hnm w hl
  have hl : lv_has ls 4 [(0, .ref a0), (1, .int x0)] := hl
  refine lv_aload_n C.1 C.2.1 dX12_upTo_0 rfl (lv_at hl 0 rfl) ?_
  refine lv_iload_n C.1 C.2.1 dX12_upTo_1 rfl (lv_at hl 1 rfl) ?_
  refine lv_i2l (v := (Int32.toInt64 x0)) C.1 C.2.1 dX12_upTo_2 rfl ?_
  refine lv_lconst (v := 0) C.1 C.2.1 dX12_upTo_3 (by decide) ?_
  refine lv_lconst (v := 1) C.1 C.2.1 dX12_upTo_4 (by decide) ?_
  refine r_callS C w fs_RX12_133 (c_X12_within_16 l D cy x0 k0 k1) (hl.1.trans hml.symm) [] [0] (wr := [(a0, .inr (12, [.ref a1, .ref a2, .ref a3, .ref a4, .ref a5, .int 0, .ref a6, .int 0, .int 0, .int 0, .int 0, .int 0, .int 0, .int 0, .int 0, .int 0, .int 0, .int (-1), .ref a7, .ref a8, .int 0, .ref a9, .int 0, .ref a10, .ref a11, .ref a12, .ref a13, .ref a14, .int 0, .ref a15, .ref a16, .ref a17]))]) ⟨rfl, rfl, rfl, rfl, by decide⟩ rfl rfl ⟨Nat.le_of_ble_eq_true rfl, Nat.le_of_ble_eq_true rfl, Nat.le_of_ble_eq_true rfl⟩ 0 0 ⟨rfl, rfl, Nat.le_of_ble_eq_true rfl, Nat.le_of_ble_eq_true rfl⟩ dX12_upTo_5 (fun u H locs hp w => ?_)
  have w : Wd D A s.heap [(a0, .inr (12, [.ref a1, .ref a2, .ref a3, .ref a4, .ref a5, .int 0, .ref a6, .int 0, .int 0, .int 0, .int 0, .int 0, .int 0, .int 0, .int 0, .int 0, .int 0, .int (-1), .ref a7, .ref a8, .int 0, .ref a9, .int 0, .ref a10, .ref a11, .ref a12, .ref a13, .ref a14, .int 0, .ref a15, .ref a16, .ref a17]))] _ _ := w
  refine r_top (g2 := F0 m 8 ls [.int 0, .ref a0]) rfl ?_
  refine b_if_eq_t C (tgt := 15) dX12_upTo_8 (by decide) (by decide) ?_
  refine lv_iconst (v := 1) C.1 C.2.1 dX12_upTo_15 (by decide) ?_
  refine r_put C w 0 rfl rfl 5 (by decide) fl_RX12_71 rfl (ty := .int) (tyX12_ok 5 (by decide)) rfl rfl (Nat.le_of_ble_eq_true rfl) [(a0, .inr (12, [.ref a1, .ref a2, .ref a3, .ref a4, .ref a5, .int 1, .ref a6, .int 0, .int 0, .int 0, .int 0, .int 0, .int 0, .int 0, .int 0, .int 0, .int 0, .int (-1), .ref a7, .ref a8, .int 0, .ref a9, .int 0, .ref a10, .ref a11, .ref a12, .ref a13, .ref a14, .int 0, .ref a15, .ref a16, .ref a17]))] rfl dX12_upTo_16 (fun H locs w => ?_)
  refine lv_aload_n C.1 C.2.1 dX12_upTo_19 rfl (lv_at hl 0 rfl) ?_
  refine r_get C w 0 rfl rfl 5 (by decide) fl_RX12_71 (v := .int 1) rfl dX12_upTo_20 ?_
  refine b_if_le_f C (tgt := 28) dX12_upTo_23 (by decide) (by decide) ?_
  refine lv_iconst (v := 0) C.1 C.2.1 dX12_upTo_26 (by decide) ?_
  exact r_iret C w hlocks () hr rfl rfl trivial [0] rfl rfl ⟨Nat.le_of_ble_eq_true rfl, Nat.le_of_ble_eq_true rfl⟩ dX12_upTo_27
theorem dX12_image_0 : decode cX12_image 0 = .ok (.aload_n 0, 1) := by decide +kernel
theorem dX12_image_1 : decode cX12_image 1 = .ok (.iload_n 1, 1) := by decide +kernel
theorem dX12_image_2 : decode cX12_image 2 = .ok (.i2l, 1) := by decide +kernel
theorem dX12_image_3 : decode cX12_image 3 = .ok (.lconst 0, 1) := by decide +kernel
theorem dX12_image_4 : decode cX12_image 4 = .ok (.ldc2_w 401, 3) := by decide +kernel
theorem dX12_image_7 : decode cX12_image 7 = .ok (.invokestatic 133, 3) := by decide +kernel
theorem dX12_image_10 : decode cX12_image 10 = .ok (.ifCond .eq 7, 3) := by decide +kernel
theorem dX12_image_17 : decode cX12_image 17 = .ok (.iconst 1, 1) := by decide +kernel
theorem dX12_image_18 : decode cX12_image 18 = .ok (.putfield 71, 3) := by decide +kernel
theorem dX12_image_21 : decode cX12_image 21 = .ok (.aload_n 0, 1) := by decide +kernel
theorem dX12_image_22 : decode cX12_image 22 = .ok (.getfield 71, 3) := by decide +kernel
theorem dX12_image_25 : decode cX12_image 25 = .ok (.ifCond .le 4, 3) := by decide +kernel
theorem dX12_image_28 : decode cX12_image 28 = .ok (.return_, 1) := by decide +kernel
set_option maxRecDepth 100000 in
set_option maxHeartbeats 4000000 in
theorem c_X12_image_0 (l : Launch) (D : va_G) (cy : Nat → ClassId) (a0 a1 a2 a3 a4 a5 a6 a7 a8 a9 a10 a11 a12 a13 a14 a15 a16 a17 : Nat) (x0 : Int32) (k0 : x0 < 0) : Ct l D cy yX12_image cX12_image 3 none 1 25 0 0 [(a0, .inr (12, [.ref a1, .ref a2, .ref a3, .ref a4, .ref a5, .int 0, .ref a6, .int 0, .int 0, .int 0, .int 0, .int 0, .int 0, .int 0, .int 0, .int 0, .int 0, .int (-1), .ref a7, .ref a8, .int 0, .ref a9, .int 0, .ref a10, .ref a11, .ref a12, .ref a13, .ref a14, .int 0, .ref a15, .ref a16, .ref a17]))] [.ref a0, .int x0] (fun u : Unit => none) (fun _ => True) (fun u : Unit => [(a0, .inr (12, [.ref a1, .ref a2, .ref a3, .ref a4, .ref a5, .int 1, .ref a6, .int 0, .int 0, .int 0, .int 0, .int 0, .int 0, .int 0, .int 0, .int 0, .int 0, .int (-1), .ref a7, .ref a8, .int 0, .ref a9, .int 0, .ref a10, .ref a11, .ref a12, .ref a13, .ref a14, .int 0, .ref a15, .ref a16, .ref a17]))]) := by
  refine Ct.of (by decide +kernel) (Nat.le_of_ble_eq_true rfl) ?_
  intro p e s m args below meth c A ls C hr hlocks hml hnm w hl
  have hl : lv_has ls 3 [(0, .ref a0), (1, .int x0)] := hl
  refine lv_aload_n C.1 C.2.1 dX12_image_0 rfl (lv_at hl 0 rfl) ?_
  refine lv_iload_n C.1 C.2.1 dX12_image_1 rfl (lv_at hl 1 rfl) ?_
  refine lv_i2l (v := (Int32.toInt64 x0)) C.1 C.2.1 dX12_image_2 rfl ?_
  refine lv_lconst (v := 0) C.1 C.2.1 dX12_image_3 (by decide) ?_
  refine lv_ldc2 (v := 2) C.1 C.2.1 C.2.2.1 (C.2.2.2.1 _ kl_RX12_401) dX12_image_4 ?_
  refine r_callS C w fs_RX12_133 (c_X12_within_6 l D cy x0 k0) (hl.1.trans hml.symm) [] [0] (wr := [(a0, .inr (12, [.ref a1, .ref a2, .ref a3, .ref a4, .ref a5, .int 0, .ref a6, .int 0, .int 0, .int 0, .int 0, .int 0, .int 0, .int 0, .int 0, .int 0, .int 0, .int (-1), .ref a7, .ref a8, .int 0, .ref a9, .int 0, .ref a10, .ref a11, .ref a12, .ref a13, .ref a14, .int 0, .ref a15, .ref a16, .ref a17]))]) ⟨rfl, rfl, rfl, rfl, by decide⟩ rfl rfl ⟨Nat.le_of_ble_eq_true rfl, Nat.le_of_ble_eq_true rfl, Nat.le_of_ble_eq_true rfl⟩ 0 0 ⟨rfl, rfl, Nat.le_of_ble_eq_true rfl, Nat.le_of_ble_eq_true rfl⟩ dX12_image_7 (fun u H locs hp w => ?_)
  have w : Wd D A s.heap [(a0, .inr (12, [.ref a1, .ref a2, .ref a3, .ref a4, .ref a5, .int 0, .ref a6, .int 0, .int 0, .int 0, .int 0, .int 0, .int 0, .int 0, .int 0, .int 0, .int 0, .int (-1), .ref a7, .ref a8, .int 0, .ref a9, .int 0, .ref a10, .ref a11, .ref a12, .ref a13, .ref a14, .int 0, .ref a15, .ref a16, .ref a17]))] _ _ := w
  refine r_top (g2 := F0 m 10 ls [.int 0, .ref a0]) rfl ?_
  refine b_if_eq_t C (tgt := 17) dX12_image_10 (by decide) (by decide) ?_
  refine lv_iconst (v := 1) C.1 C.2.1 dX12_image_17 (by decide) ?_
  refine r_put C w 0 rfl rfl 5 (by decide) fl_RX12_71 rfl (ty := .int) (tyX12_ok 5 (by decide)) rfl rfl (Nat.le_of_ble_eq_true rfl) [(a0, .inr (12, [.ref a1, .ref a2, .ref a3, .ref a4, .ref a5, .int 1, .ref a6, .int 0, .int 0, .int 0, .int 0, .int 0, .int 0, .int 0, .int 0, .int 0, .int 0, .int (-1), .ref a7, .ref a8, .int 0, .ref a9, .int 0, .ref a10, .ref a11, .ref a12, .ref a13, .ref a14, .int 0, .ref a15, .ref a16, .ref a17]))] rfl dX12_image_18 (fun H locs w => ?_)
  refine lv_aload_n C.1 C.2.1 dX12_image_21 rfl (lv_at hl 0 rfl) ?_
  refine r_get C w 0 rfl rfl 5 (by decide) fl_RX12_71 (v := .int 1) rfl dX12_image_22 ?_
  refine b_if_le_f C (tgt := 29) dX12_image_25 (by decide) (by decide) ?_
  exact r_vret C w hlocks () hr rfl trivial [0] rfl rfl ⟨Nat.le_of_ble_eq_true rfl, Nat.le_of_ble_eq_true rfl⟩ dX12_image_28
theorem dX12_image_13 : decode cX12_image 13 = .ok (.iconst 0, 1) := by decide +kernel
theorem dX12_image_14 : decode cX12_image 14 = .ok (.goto 4, 3) := by decide +kernel
theorem dX12_image_29 : decode cX12_image 29 = .ok (.aload_n 0, 1) := by decide +kernel
theorem dX12_image_30 : decode cX12_image 30 = .ok (.getfield 22, 3) := by decide +kernel
theorem dX12_image_33 : decode cX12_image 33 = .ok (.iload_n 1, 1) := by decide +kernel
theorem dX12_image_34 : decode cX12_image 34 = .ok (.iconst 1, 1) := by decide +kernel
theorem dX12_image_35 : decode cX12_image 35 = .ok (.bastore, 1) := by decide +kernel
theorem dX12_image_36 : decode cX12_image 36 = .ok (.iconst 0, 1) := by decide +kernel
theorem dX12_image_37 : decode cX12_image 37 = .ok (.istore_n 2, 1) := by decide +kernel
theorem dX12_image_38 : decode cX12_image 38 = .ok (.iload_n 2, 1) := by decide +kernel
theorem dX12_image_39 : decode cX12_image 39 = .ok (.sipush 1868, 3) := by decide +kernel
theorem dX12_image_42 : decode cX12_image 42 = .ok (.if_icmp .ge 27, 3) := by decide +kernel
theorem dX12_image_45 : decode cX12_image 45 = .ok (.aload_n 0, 1) := by decide +kernel
theorem dX12_image_46 : decode cX12_image 46 = .ok (.getfield 19, 3) := by decide +kernel
theorem dX12_image_49 : decode cX12_image 49 = .ok (.sipush 1868, 3) := by decide +kernel
theorem dX12_image_52 : decode cX12_image 52 = .ok (.iload_n 1, 1) := by decide +kernel
theorem dX12_image_53 : decode cX12_image 53 = .ok (.imul, 1) := by decide +kernel
theorem dX12_image_54 : decode cX12_image 54 = .ok (.iload_n 2, 1) := by decide +kernel
theorem dX12_image_55 : decode cX12_image 55 = .ok (.iadd, 1) := by decide +kernel
theorem dX12_image_56 : decode cX12_image 56 = .ok (.aload_n 0, 1) := by decide +kernel
theorem dX12_image_57 : decode cX12_image 57 = .ok (.getfield 9, 3) := by decide +kernel
theorem dX12_image_60 : decode cX12_image 60 = .ok (.iload_n 2, 1) := by decide +kernel
theorem dX12_image_61 : decode cX12_image 61 = .ok (.iaload, 1) := by decide +kernel
theorem dX12_image_62 : decode cX12_image 62 = .ok (.iastore, 1) := by decide +kernel
theorem dX12_image_63 : decode cX12_image 63 = .ok (.iinc 2 1, 3) := by decide +kernel
theorem dX12_image_66 : decode cX12_image 66 = .ok (.goto (-28), 3) := by decide +kernel
set_option maxRecDepth 100000 in
set_option maxHeartbeats 4000000 in
theorem lp_X12_image_1 {p : Program} {l : Launch} {e : Env} {R : Room} {s : State} {m : MethodId} {args : Array Value} {below : List Frame} {meth : Method} {c : Code} {cells slots : Nat} {Q : State → Prop} {D : va_G} {cy : Nat → ClassId} {A : Nat → Prop} {H : Heap} {locs : List Loc} {ls : Array Slot} (a0 a1 a2 a3 a4 a5 a6 a7 a8 a9 a10 a11 a12 a13 a14 a15 a16 a17 : Nat) (f : Nat → Int32) (C : Cx p s m args c cX12_image RX12 D cy A) (hml : c.maxLocals = 3) (w : Wd D A s.heap [(a0, .inr (12, [.ref a1, .ref a2, .ref a3, .ref a4, .ref a5, .int 0, .ref a6, .int 0, .int 0, .int 0, .int 0, .int 0, .int 0, .int 0, .int 0, .int 0, .int 0, .int (-1), .ref a7, .ref a8, .int 0, .ref a9, .int 0, .ref a10, .ref a11, .ref a12, .ref a13, .ref a14, .int 0, .ref a15, .ref a16, .ref a17])), (a1, .inl (cy 1, 1868, .inl (upd (upd (upd (fun _ => 0) 1 2) 2 20) 3 120))), (a4, .inl (cy 1, 5604, .inl f)), (a5, .inl (cy 3, 3, .inl (upd (fun _ => 0) 0 1)))] H locs) (hl : lv_has ls 3 [(0, .ref a0), (1, .int 0), (2, .int 0)])
    (kk : ∀ (H : Heap) (locs : List Loc) (ls : Array Slot) (f : Nat → Int32), Wd D A s.heap [(a0, .inr (12, [.ref a1, .ref a2, .ref a3, .ref a4, .ref a5, .int 0, .ref a6, .int 0, .int 0, .int 0, .int 0, .int 0, .int 0, .int 0, .int 0, .int 0, .int 0, .int (-1), .ref a7, .ref a8, .int 0, .ref a9, .int 0, .ref a10, .ref a11, .ref a12, .ref a13, .ref a14, .int 0, .ref a15, .ref a16, .ref a17])), (a1, .inl (cy 1, 1868, .inl (upd (upd (upd (fun _ => 0) 1 2) 2 20) 3 120))), (a4, .inl (cy 1, 5604, .inl f)), (a5, .inl (cy 3, 3, .inl (upd (fun _ => 0) 0 1)))] H locs → lv_has ls 3 [(0, .ref a0), (1, .int 0)] → W p l e R s m args below meth c H locs cells slots Q (F0 m 69 ls [])) : W p l e R s m args below meth c H locs cells slots Q (F0 m 38 ls []) := by
  have lp : ∀ (k n : Nat) (i : Int32) (f : Nat → Int32) (H : Heap) (locs : List Loc) (ls : Array Slot), n + k = 1868 → i = nI n → Wd D A s.heap [(a0, .inr (12, [.ref a1, .ref a2, .ref a3, .ref a4, .ref a5, .int 0, .ref a6, .int 0, .int 0, .int 0, .int 0, .int 0, .int 0, .int 0, .int 0, .int 0, .int 0, .int (-1), .ref a7, .ref a8, .int 0, .ref a9, .int 0, .ref a10, .ref a11, .ref a12, .ref a13, .ref a14, .int 0, .ref a15, .ref a16, .ref a17])), (a1, .inl (cy 1, 1868, .inl (upd (upd (upd (fun _ => 0) 1 2) 2 20) 3 120))), (a4, .inl (cy 1, 5604, .inl f)), (a5, .inl (cy 3, 3, .inl (upd (fun _ => 0) 0 1)))] H locs → lv_has ls 3 [(0, .ref a0), (1, .int 0), (2, .int i)] → W p l e R s m args below meth c H locs cells slots Q (F0 m 38 ls []) := by
    intro k
    induction k with
    | zero =>
      intro n i f H locs ls h4 ei w hl
      have hx : n = 1868 := by omega
      subst hx
      have c1 : (1868 : Int32) ≤ i := by rw [ei]; decide
      refine lv_iload_n C.1 C.2.1 dX12_image_38 rfl (lv_at hl 2 rfl) ?_
      refine lv_sipush (v := 1868) C.1 C.2.1 dX12_image_39 (by decide) ?_
      refine b_icmp_ge_t C (tgt := 69) dX12_image_42 (by decide) c1 ?_
      exact kk _ _ _ f w (lv_sub hl [0, 1] rfl)
    | succ k ih =>
      intro n i f H locs ls h4 ei w hl
      have c1 : ¬ (1868 : Int32) ≤ i := by rw [ei]; exact nI_ge (b := 1868) (by omega) (by decide)
      have hin0 : vp_in i 1868 := by rw [ei]; exact vp_in_nI (by omega) (by decide)
      have hin : vp_in (0 + i) 5604 := by rw [ei, show (0 : Int32) = nI 0 from rfl, nI_add]; exact vp_in_nI (by omega) (by decide)
      refine lv_iload_n C.1 C.2.1 dX12_image_38 rfl (lv_at hl 2 rfl) ?_
      refine lv_sipush (v := 1868) C.1 C.2.1 dX12_image_39 (by decide) ?_
      refine b_icmp_ge_f C (tgt := 69) dX12_image_42 (by decide) c1 ?_
      refine lv_aload_n C.1 C.2.1 dX12_image_45 rfl (lv_at hl 0 rfl) ?_
      refine r_get C w 0 rfl rfl 3 (by decide) fl_RX12_19 (v := .ref a4) rfl dX12_image_46 ?_
      refine lv_sipush (v := 1868) C.1 C.2.1 dX12_image_49 (by decide) ?_
      refine lv_iload_n C.1 C.2.1 dX12_image_52 rfl (lv_at hl 1 rfl) ?_
      refine r_imul C (v := 0) dX12_image_53 (by decide) ?_
      refine lv_iload_n C.1 C.2.1 dX12_image_54 rfl (lv_at hl 2 rfl) ?_
      refine r_iadd C (v := (0 + i)) dX12_image_55 rfl ?_
      refine lv_aload_n C.1 C.2.1 dX12_image_56 rfl (lv_at hl 0 rfl) ?_
      refine r_get C w 0 rfl rfl 0 (by decide) fl_RX12_9 (v := .ref a1) rfl dX12_image_57 ?_
      refine lv_iload_n C.1 C.2.1 dX12_image_60 rfl (lv_at hl 2 rfl) ?_
      refine r_iald C w 1 rfl (v := ((upd (upd (upd (fun _ => 0) 1 2) 2 20) 3 120) i.toNatClampNeg)) hin0 rfl dX12_image_61 ?_
      refine r_iast C w 2 rfl hin (upd f (0 + i).toNatClampNeg ((upd (upd (upd (fun _ => 0) 1 2) 2 20) 3 120) i.toNatClampNeg)) rfl [(a0, .inr (12, [.ref a1, .ref a2, .ref a3, .ref a4, .ref a5, .int 0, .ref a6, .int 0, .int 0, .int 0, .int 0, .int 0, .int 0, .int 0, .int 0, .int 0, .int 0, .int (-1), .ref a7, .ref a8, .int 0, .ref a9, .int 0, .ref a10, .ref a11, .ref a12, .ref a13, .ref a14, .int 0, .ref a15, .ref a16, .ref a17])), (a1, .inl (cy 1, 1868, .inl (upd (upd (upd (fun _ => 0) 1 2) 2 20) 3 120))), (a4, .inl (cy 1, 5604, .inl (upd f (0 + i).toNatClampNeg ((upd (upd (upd (fun _ => 0) 1 2) 2 20) 3 120) i.toNatClampNeg)))), (a5, .inl (cy 3, 3, .inl (upd (fun _ => 0) 0 1)))] rfl dX12_image_62 (fun H locs w => ?_)
      refine lv_iinc (v := (i + 1)) (lv' := [(2, .int (i + 1)), (0, .ref a0), (1, .int 0)]) C.1 C.2.1 dX12_image_63 hl (k := 2) rfl rfl (by decide) rfl (fun ls hl => ?_)
      refine lv_goto (tgt := 38) C.1 C.2.1 dX12_image_66 (by decide) ?_
      exact ih (n + 1) (i + 1) _ _ _ _ (by omega) (by rw [ei]; exact nI_1 _) w (lv_sub hl [1, 2, 0] rfl)
  exact lp 1868 0 0 f _ _ _ rfl rfl w hl
theorem dX12_image_69 : decode cX12_image 69 = .ok (.return_, 1) := by decide +kernel
set_option maxRecDepth 100000 in
set_option maxHeartbeats 4000000 in
theorem c_X12_image_1 (l : Launch) (D : va_G) (cy : Nat → ClassId) (a0 a1 a2 a3 a4 a5 a6 a7 a8 a9 a10 a11 a12 a13 a14 a15 a16 a17 : Nat) : Ct l D cy yX12_image cX12_image 3 none 1 25 0 0 [(a0, .inr (12, [.ref a1, .ref a2, .ref a3, .ref a4, .ref a5, .int 0, .ref a6, .int 0, .int 0, .int 0, .int 0, .int 0, .int 0, .int 0, .int 0, .int 0, .int 0, .int (-1), .ref a7, .ref a8, .int 0, .ref a9, .int 0, .ref a10, .ref a11, .ref a12, .ref a13, .ref a14, .int 0, .ref a15, .ref a16, .ref a17])), (a1, .inl (cy 1, 1868, .inl (upd (upd (upd (fun _ => 0) 1 2) 2 20) 3 120))), (a4, .inl (cy 1, 5604, .inl (fun _ => 0))), (a5, .inl (cy 3, 3, .inl (fun _ => 0)))] [.ref a0, .int 0] (fun u : Unit => none) (fun _ => True) (fun u : Unit => [(a0, .inr (12, [.ref a1, .ref a2, .ref a3, .ref a4, .ref a5, .int 0, .ref a6, .int 0, .int 0, .int 0, .int 0, .int 0, .int 0, .int 0, .int 0, .int 0, .int 0, .int (-1), .ref a7, .ref a8, .int 0, .ref a9, .int 0, .ref a10, .ref a11, .ref a12, .ref a13, .ref a14, .int 0, .ref a15, .ref a16, .ref a17])), (a1, .inl (cy 1, 1868, .inl (upd (upd (upd (fun _ => 0) 1 2) 2 20) 3 120))), (a5, .inl (cy 3, 3, .inl (upd (fun _ => 0) 0 1)))]) := by
  refine Ct.of (by decide +kernel) (Nat.le_of_ble_eq_true rfl) ?_
  intro p e s m args below meth c A ls C hr hlocks hml hnm w hl
  have hl : lv_has ls 3 [(0, .ref a0), (1, .int 0)] := hl
  refine lv_aload_n C.1 C.2.1 dX12_image_0 rfl (lv_at hl 0 rfl) ?_
  refine lv_iload_n C.1 C.2.1 dX12_image_1 rfl (lv_at hl 1 rfl) ?_
  refine lv_i2l (v := 0) C.1 C.2.1 dX12_image_2 (by decide) ?_
  refine lv_lconst (v := 0) C.1 C.2.1 dX12_image_3 (by decide) ?_
  refine lv_ldc2 (v := 2) C.1 C.2.1 C.2.2.1 (C.2.2.2.1 _ kl_RX12_401) dX12_image_4 ?_
  refine r_callS C w fs_RX12_133 (c_X12_within_9 l D cy) (hl.1.trans hml.symm) [] [0, 1, 2, 3] (wr := [(a0, .inr (12, [.ref a1, .ref a2, .ref a3, .ref a4, .ref a5, .int 0, .ref a6, .int 0, .int 0, .int 0, .int 0, .int 0, .int 0, .int 0, .int 0, .int 0, .int 0, .int (-1), .ref a7, .ref a8, .int 0, .ref a9, .int 0, .ref a10, .ref a11, .ref a12, .ref a13, .ref a14, .int 0, .ref a15, .ref a16, .ref a17])), (a1, .inl (cy 1, 1868, .inl (upd (upd (upd (fun _ => 0) 1 2) 2 20) 3 120))), (a4, .inl (cy 1, 5604, .inl (fun _ => 0))), (a5, .inl (cy 3, 3, .inl (fun _ => 0)))]) ⟨rfl, rfl, rfl, rfl, by decide⟩ rfl rfl ⟨Nat.le_of_ble_eq_true rfl, Nat.le_of_ble_eq_true rfl, Nat.le_of_ble_eq_true rfl⟩ 0 0 ⟨rfl, rfl, Nat.le_of_ble_eq_true rfl, Nat.le_of_ble_eq_true rfl⟩ dX12_image_7 (fun u H locs hp w => ?_)
  have w : Wd D A s.heap [(a0, .inr (12, [.ref a1, .ref a2, .ref a3, .ref a4, .ref a5, .int 0, .ref a6, .int 0, .int 0, .int 0, .int 0, .int 0, .int 0, .int 0, .int 0, .int 0, .int 0, .int (-1), .ref a7, .ref a8, .int 0, .ref a9, .int 0, .ref a10, .ref a11, .ref a12, .ref a13, .ref a14, .int 0, .ref a15, .ref a16, .ref a17])), (a1, .inl (cy 1, 1868, .inl (upd (upd (upd (fun _ => 0) 1 2) 2 20) 3 120))), (a4, .inl (cy 1, 5604, .inl (fun _ => 0))), (a5, .inl (cy 3, 3, .inl (fun _ => 0)))] _ _ := w
  refine r_top (g2 := F0 m 10 ls [.int 1, .ref a0]) rfl ?_
  refine b_if_eq_f C (tgt := 17) dX12_image_10 (by decide) (by decide) ?_
  refine lv_iconst (v := 0) C.1 C.2.1 dX12_image_13 (by decide) ?_
  refine lv_goto (tgt := 18) C.1 C.2.1 dX12_image_14 (by decide) ?_
  refine r_put C w 0 rfl rfl 5 (by decide) fl_RX12_71 rfl (ty := .int) (tyX12_ok 5 (by decide)) rfl rfl (Nat.le_of_ble_eq_true rfl) [(a0, .inr (12, [.ref a1, .ref a2, .ref a3, .ref a4, .ref a5, .int 0, .ref a6, .int 0, .int 0, .int 0, .int 0, .int 0, .int 0, .int 0, .int 0, .int 0, .int 0, .int (-1), .ref a7, .ref a8, .int 0, .ref a9, .int 0, .ref a10, .ref a11, .ref a12, .ref a13, .ref a14, .int 0, .ref a15, .ref a16, .ref a17])), (a1, .inl (cy 1, 1868, .inl (upd (upd (upd (fun _ => 0) 1 2) 2 20) 3 120))), (a4, .inl (cy 1, 5604, .inl (fun _ => 0))), (a5, .inl (cy 3, 3, .inl (fun _ => 0)))] rfl dX12_image_18 (fun H locs w => ?_)
  refine lv_aload_n C.1 C.2.1 dX12_image_21 rfl (lv_at hl 0 rfl) ?_
  refine r_get C w 0 rfl rfl 5 (by decide) fl_RX12_71 (v := .int 0) rfl dX12_image_22 ?_
  refine b_if_le_t C (tgt := 29) dX12_image_25 (by decide) (by decide) ?_
  refine lv_aload_n C.1 C.2.1 dX12_image_29 rfl (lv_at hl 0 rfl) ?_
  refine r_get C w 0 rfl rfl 4 (by decide) fl_RX12_22 (v := .ref a5) rfl dX12_image_30 ?_
  refine lv_iload_n C.1 C.2.1 dX12_image_33 rfl (lv_at hl 1 rfl) ?_
  refine lv_iconst (v := 1) C.1 C.2.1 dX12_image_34 (by decide) ?_
  refine r_zast C w 3 rfl (vinD (by decide)) (upd (fun _ => 0) 0 1) rfl [(a0, .inr (12, [.ref a1, .ref a2, .ref a3, .ref a4, .ref a5, .int 0, .ref a6, .int 0, .int 0, .int 0, .int 0, .int 0, .int 0, .int 0, .int 0, .int 0, .int 0, .int (-1), .ref a7, .ref a8, .int 0, .ref a9, .int 0, .ref a10, .ref a11, .ref a12, .ref a13, .ref a14, .int 0, .ref a15, .ref a16, .ref a17])), (a1, .inl (cy 1, 1868, .inl (upd (upd (upd (fun _ => 0) 1 2) 2 20) 3 120))), (a4, .inl (cy 1, 5604, .inl (fun _ => 0))), (a5, .inl (cy 3, 3, .inl (upd (fun _ => 0) 0 1)))] rfl dX12_image_35 (fun H locs w => ?_)
  refine lv_iconst (v := 0) C.1 C.2.1 dX12_image_36 (by decide) ?_
  refine lv_istore_n (lv' := [(2, .int 0), (0, .ref a0), (1, .int 0)]) C.1 C.2.1 dX12_image_37 rfl hl (by decide) rfl (fun ls hl => ?_)
  refine lp_X12_image_1 a0 a1 a2 a3 a4 a5 a6 a7 a8 a9 a10 a11 a12 a13 a14 a15 a16 a17 (fun _ => 0) C hml (w.re rfl) (lv_sub hl [1, 2, 0] rfl) (fun H locs ls f w hl => ?_)
  have w : Wd D A s.heap [(a0, .inr (12, [.ref a1, .ref a2, .ref a3, .ref a4, .ref a5, .int 0, .ref a6, .int 0, .int 0, .int 0, .int 0, .int 0, .int 0, .int 0, .int 0, .int 0, .int 0, .int (-1), .ref a7, .ref a8, .int 0, .ref a9, .int 0, .ref a10, .ref a11, .ref a12, .ref a13, .ref a14, .int 0, .ref a15, .ref a16, .ref a17])), (a1, .inl (cy 1, 1868, .inl (upd (upd (upd (fun _ => 0) 1 2) 2 20) 3 120))), (a4, .inl (cy 1, 5604, .inl f)), (a5, .inl (cy 3, 3, .inl (upd (fun _ => 0) 0 1)))] _ _ := w
  exact r_vret C w hlocks () hr rfl trivial [0, 1, 3] rfl rfl ⟨Nat.le_of_ble_eq_true rfl, Nat.le_of_ble_eq_true rfl⟩ dX12_image_69
set_option maxRecDepth 100000 in
set_option maxHeartbeats 4000000 in
theorem lp_X12_image_2 {p : Program} {l : Launch} {e : Env} {R : Room} {s : State} {m : MethodId} {args : Array Value} {below : List Frame} {meth : Method} {c : Code} {cells slots : Nat} {Q : State → Prop} {D : va_G} {cy : Nat → ClassId} {A : Nat → Prop} {H : Heap} {locs : List Loc} {ls : Array Slot} (a0 a1 a2 a3 a4 a5 a6 a7 a8 a9 a10 a11 a12 a13 a14 a15 a16 a17 : Nat) (f : Nat → Int32) (C : Cx p s m args c cX12_image RX12 D cy A) (hml : c.maxLocals = 3) (w : Wd D A s.heap [(a0, .inr (12, [.ref a1, .ref a2, .ref a3, .ref a4, .ref a5, .int 0, .ref a6, .int 0, .int 0, .int 0, .int 0, .int 0, .int 0, .int 0, .int 0, .int 0, .int 0, .int (-1), .ref a7, .ref a8, .int 0, .ref a9, .int 0, .ref a10, .ref a11, .ref a12, .ref a13, .ref a14, .int 0, .ref a15, .ref a16, .ref a17])), (a1, .inl (cy 1, 1868, .inl (upd (upd (upd (fun _ => 0) 1 2) 2 20) 3 120))), (a4, .inl (cy 1, 5604, .inl f)), (a5, .inl (cy 3, 3, .inl (upd (fun _ => 0) 2 1)))] H locs) (hl : lv_has ls 3 [(0, .ref a0), (1, .int 2), (2, .int 0)])
    (kk : ∀ (H : Heap) (locs : List Loc) (ls : Array Slot) (f : Nat → Int32), Wd D A s.heap [(a0, .inr (12, [.ref a1, .ref a2, .ref a3, .ref a4, .ref a5, .int 0, .ref a6, .int 0, .int 0, .int 0, .int 0, .int 0, .int 0, .int 0, .int 0, .int 0, .int 0, .int (-1), .ref a7, .ref a8, .int 0, .ref a9, .int 0, .ref a10, .ref a11, .ref a12, .ref a13, .ref a14, .int 0, .ref a15, .ref a16, .ref a17])), (a1, .inl (cy 1, 1868, .inl (upd (upd (upd (fun _ => 0) 1 2) 2 20) 3 120))), (a4, .inl (cy 1, 5604, .inl f)), (a5, .inl (cy 3, 3, .inl (upd (fun _ => 0) 2 1)))] H locs → lv_has ls 3 [(0, .ref a0), (1, .int 2)] → W p l e R s m args below meth c H locs cells slots Q (F0 m 69 ls [])) : W p l e R s m args below meth c H locs cells slots Q (F0 m 38 ls []) := by
  have lp : ∀ (k n : Nat) (i : Int32) (f : Nat → Int32) (H : Heap) (locs : List Loc) (ls : Array Slot), n + k = 1868 → i = nI n → Wd D A s.heap [(a0, .inr (12, [.ref a1, .ref a2, .ref a3, .ref a4, .ref a5, .int 0, .ref a6, .int 0, .int 0, .int 0, .int 0, .int 0, .int 0, .int 0, .int 0, .int 0, .int 0, .int (-1), .ref a7, .ref a8, .int 0, .ref a9, .int 0, .ref a10, .ref a11, .ref a12, .ref a13, .ref a14, .int 0, .ref a15, .ref a16, .ref a17])), (a1, .inl (cy 1, 1868, .inl (upd (upd (upd (fun _ => 0) 1 2) 2 20) 3 120))), (a4, .inl (cy 1, 5604, .inl f)), (a5, .inl (cy 3, 3, .inl (upd (fun _ => 0) 2 1)))] H locs → lv_has ls 3 [(0, .ref a0), (1, .int 2), (2, .int i)] → W p l e R s m args below meth c H locs cells slots Q (F0 m 38 ls []) := by
    intro k
    induction k with
    | zero =>
      intro n i f H locs ls h4 ei w hl
      have hx : n = 1868 := by omega
      subst hx
      have c1 : (1868 : Int32) ≤ i := by rw [ei]; decide
      refine lv_iload_n C.1 C.2.1 dX12_image_38 rfl (lv_at hl 2 rfl) ?_
      refine lv_sipush (v := 1868) C.1 C.2.1 dX12_image_39 (by decide) ?_
      refine b_icmp_ge_t C (tgt := 69) dX12_image_42 (by decide) c1 ?_
      exact kk _ _ _ f w (lv_sub hl [0, 1] rfl)
    | succ k ih =>
      intro n i f H locs ls h4 ei w hl
      have c1 : ¬ (1868 : Int32) ≤ i := by rw [ei]; exact nI_ge (b := 1868) (by omega) (by decide)
      have hin0 : vp_in i 1868 := by rw [ei]; exact vp_in_nI (by omega) (by decide)
      have hin : vp_in (3736 + i) 5604 := by rw [ei, show (3736 : Int32) = nI 3736 from rfl, nI_add]; exact vp_in_nI (by omega) (by decide)
      refine lv_iload_n C.1 C.2.1 dX12_image_38 rfl (lv_at hl 2 rfl) ?_
      refine lv_sipush (v := 1868) C.1 C.2.1 dX12_image_39 (by decide) ?_
      refine b_icmp_ge_f C (tgt := 69) dX12_image_42 (by decide) c1 ?_
      refine lv_aload_n C.1 C.2.1 dX12_image_45 rfl (lv_at hl 0 rfl) ?_
      refine r_get C w 0 rfl rfl 3 (by decide) fl_RX12_19 (v := .ref a4) rfl dX12_image_46 ?_
      refine lv_sipush (v := 1868) C.1 C.2.1 dX12_image_49 (by decide) ?_
      refine lv_iload_n C.1 C.2.1 dX12_image_52 rfl (lv_at hl 1 rfl) ?_
      refine r_imul C (v := 3736) dX12_image_53 (by decide) ?_
      refine lv_iload_n C.1 C.2.1 dX12_image_54 rfl (lv_at hl 2 rfl) ?_
      refine r_iadd C (v := (3736 + i)) dX12_image_55 rfl ?_
      refine lv_aload_n C.1 C.2.1 dX12_image_56 rfl (lv_at hl 0 rfl) ?_
      refine r_get C w 0 rfl rfl 0 (by decide) fl_RX12_9 (v := .ref a1) rfl dX12_image_57 ?_
      refine lv_iload_n C.1 C.2.1 dX12_image_60 rfl (lv_at hl 2 rfl) ?_
      refine r_iald C w 1 rfl (v := ((upd (upd (upd (fun _ => 0) 1 2) 2 20) 3 120) i.toNatClampNeg)) hin0 rfl dX12_image_61 ?_
      refine r_iast C w 2 rfl hin (upd f (3736 + i).toNatClampNeg ((upd (upd (upd (fun _ => 0) 1 2) 2 20) 3 120) i.toNatClampNeg)) rfl [(a0, .inr (12, [.ref a1, .ref a2, .ref a3, .ref a4, .ref a5, .int 0, .ref a6, .int 0, .int 0, .int 0, .int 0, .int 0, .int 0, .int 0, .int 0, .int 0, .int 0, .int (-1), .ref a7, .ref a8, .int 0, .ref a9, .int 0, .ref a10, .ref a11, .ref a12, .ref a13, .ref a14, .int 0, .ref a15, .ref a16, .ref a17])), (a1, .inl (cy 1, 1868, .inl (upd (upd (upd (fun _ => 0) 1 2) 2 20) 3 120))), (a4, .inl (cy 1, 5604, .inl (upd f (3736 + i).toNatClampNeg ((upd (upd (upd (fun _ => 0) 1 2) 2 20) 3 120) i.toNatClampNeg)))), (a5, .inl (cy 3, 3, .inl (upd (fun _ => 0) 2 1)))] rfl dX12_image_62 (fun H locs w => ?_)
      refine lv_iinc (v := (i + 1)) (lv' := [(2, .int (i + 1)), (0, .ref a0), (1, .int 2)]) C.1 C.2.1 dX12_image_63 hl (k := 2) rfl rfl (by decide) rfl (fun ls hl => ?_)
      refine lv_goto (tgt := 38) C.1 C.2.1 dX12_image_66 (by decide) ?_
      exact ih (n + 1) (i + 1) _ _ _ _ (by omega) (by rw [ei]; exact nI_1 _) w (lv_sub hl [1, 2, 0] rfl)
  exact lp 1868 0 0 f _ _ _ rfl rfl w hl
set_option maxRecDepth 100000 in
set_option maxHeartbeats 4000000 in
theorem c_X12_image_2 (l : Launch) (D : va_G) (cy : Nat → ClassId) (a0 a1 a2 a3 a4 a5 a6 a7 a8 a9 a10 a11 a12 a13 a14 a15 a16 a17 : Nat) : Ct l D cy yX12_image cX12_image 3 none 1 25 0 0 [(a0, .inr (12, [.ref a1, .ref a2, .ref a3, .ref a4, .ref a5, .int 0, .ref a6, .int 0, .int 0, .int 0, .int 0, .int 0, .int 0, .int 0, .int 0, .int 0, .int 0, .int (-1), .ref a7, .ref a8, .int 0, .ref a9, .int 0, .ref a10, .ref a11, .ref a12, .ref a13, .ref a14, .int 0, .ref a15, .ref a16, .ref a17])), (a1, .inl (cy 1, 1868, .inl (upd (upd (upd (fun _ => 0) 1 2) 2 20) 3 120))), (a4, .inl (cy 1, 5604, .inl (fun _ => 0))), (a5, .inl (cy 3, 3, .inl (fun _ => 0)))] [.ref a0, .int 2] (fun u : Unit => none) (fun _ => True) (fun u : Unit => [(a0, .inr (12, [.ref a1, .ref a2, .ref a3, .ref a4, .ref a5, .int 0, .ref a6, .int 0, .int 0, .int 0, .int 0, .int 0, .int 0, .int 0, .int 0, .int 0, .int 0, .int (-1), .ref a7, .ref a8, .int 0, .ref a9, .int 0, .ref a10, .ref a11, .ref a12, .ref a13, .ref a14, .int 0, .ref a15, .ref a16, .ref a17])), (a1, .inl (cy 1, 1868, .inl (upd (upd (upd (fun _ => 0) 1 2) 2 20) 3 120))), (a5, .inl (cy 3, 3, .inl (upd (fun _ => 0) 2 1)))]) := by
  refine Ct.of (by decide +kernel) (Nat.le_of_ble_eq_true rfl) ?_
  intro p e s m args below meth c A ls C hr hlocks hml hnm w hl
  have hl : lv_has ls 3 [(0, .ref a0), (1, .int 2)] := hl
  refine lv_aload_n C.1 C.2.1 dX12_image_0 rfl (lv_at hl 0 rfl) ?_
  refine lv_iload_n C.1 C.2.1 dX12_image_1 rfl (lv_at hl 1 rfl) ?_
  refine lv_i2l (v := 2) C.1 C.2.1 dX12_image_2 (by decide) ?_
  refine lv_lconst (v := 0) C.1 C.2.1 dX12_image_3 (by decide) ?_
  refine lv_ldc2 (v := 2) C.1 C.2.1 C.2.2.1 (C.2.2.2.1 _ kl_RX12_401) dX12_image_4 ?_
  refine r_callS C w fs_RX12_133 (c_X12_within_10 l D cy) (hl.1.trans hml.symm) [] [0, 1, 2, 3] (wr := [(a0, .inr (12, [.ref a1, .ref a2, .ref a3, .ref a4, .ref a5, .int 0, .ref a6, .int 0, .int 0, .int 0, .int 0, .int 0, .int 0, .int 0, .int 0, .int 0, .int 0, .int (-1), .ref a7, .ref a8, .int 0, .ref a9, .int 0, .ref a10, .ref a11, .ref a12, .ref a13, .ref a14, .int 0, .ref a15, .ref a16, .ref a17])), (a1, .inl (cy 1, 1868, .inl (upd (upd (upd (fun _ => 0) 1 2) 2 20) 3 120))), (a4, .inl (cy 1, 5604, .inl (fun _ => 0))), (a5, .inl (cy 3, 3, .inl (fun _ => 0)))]) ⟨rfl, rfl, rfl, rfl, by decide⟩ rfl rfl ⟨Nat.le_of_ble_eq_true rfl, Nat.le_of_ble_eq_true rfl, Nat.le_of_ble_eq_true rfl⟩ 0 0 ⟨rfl, rfl, Nat.le_of_ble_eq_true rfl, Nat.le_of_ble_eq_true rfl⟩ dX12_image_7 (fun u H locs hp w => ?_)
  have w : Wd D A s.heap [(a0, .inr (12, [.ref a1, .ref a2, .ref a3, .ref a4, .ref a5, .int 0, .ref a6, .int 0, .int 0, .int 0, .int 0, .int 0, .int 0, .int 0, .int 0, .int 0, .int 0, .int (-1), .ref a7, .ref a8, .int 0, .ref a9, .int 0, .ref a10, .ref a11, .ref a12, .ref a13, .ref a14, .int 0, .ref a15, .ref a16, .ref a17])), (a1, .inl (cy 1, 1868, .inl (upd (upd (upd (fun _ => 0) 1 2) 2 20) 3 120))), (a4, .inl (cy 1, 5604, .inl (fun _ => 0))), (a5, .inl (cy 3, 3, .inl (fun _ => 0)))] _ _ := w
  refine r_top (g2 := F0 m 10 ls [.int 1, .ref a0]) rfl ?_
  refine b_if_eq_f C (tgt := 17) dX12_image_10 (by decide) (by decide) ?_
  refine lv_iconst (v := 0) C.1 C.2.1 dX12_image_13 (by decide) ?_
  refine lv_goto (tgt := 18) C.1 C.2.1 dX12_image_14 (by decide) ?_
  refine r_put C w 0 rfl rfl 5 (by decide) fl_RX12_71 rfl (ty := .int) (tyX12_ok 5 (by decide)) rfl rfl (Nat.le_of_ble_eq_true rfl) [(a0, .inr (12, [.ref a1, .ref a2, .ref a3, .ref a4, .ref a5, .int 0, .ref a6, .int 0, .int 0, .int 0, .int 0, .int 0, .int 0, .int 0, .int 0, .int 0, .int 0, .int (-1), .ref a7, .ref a8, .int 0, .ref a9, .int 0, .ref a10, .ref a11, .ref a12, .ref a13, .ref a14, .int 0, .ref a15, .ref a16, .ref a17])), (a1, .inl (cy 1, 1868, .inl (upd (upd (upd (fun _ => 0) 1 2) 2 20) 3 120))), (a4, .inl (cy 1, 5604, .inl (fun _ => 0))), (a5, .inl (cy 3, 3, .inl (fun _ => 0)))] rfl dX12_image_18 (fun H locs w => ?_)
  refine lv_aload_n C.1 C.2.1 dX12_image_21 rfl (lv_at hl 0 rfl) ?_
  refine r_get C w 0 rfl rfl 5 (by decide) fl_RX12_71 (v := .int 0) rfl dX12_image_22 ?_
  refine b_if_le_t C (tgt := 29) dX12_image_25 (by decide) (by decide) ?_
  refine lv_aload_n C.1 C.2.1 dX12_image_29 rfl (lv_at hl 0 rfl) ?_
  refine r_get C w 0 rfl rfl 4 (by decide) fl_RX12_22 (v := .ref a5) rfl dX12_image_30 ?_
  refine lv_iload_n C.1 C.2.1 dX12_image_33 rfl (lv_at hl 1 rfl) ?_
  refine lv_iconst (v := 1) C.1 C.2.1 dX12_image_34 (by decide) ?_
  refine r_zast C w 3 rfl (vinD (by decide)) (upd (fun _ => 0) 2 1) rfl [(a0, .inr (12, [.ref a1, .ref a2, .ref a3, .ref a4, .ref a5, .int 0, .ref a6, .int 0, .int 0, .int 0, .int 0, .int 0, .int 0, .int 0, .int 0, .int 0, .int 0, .int (-1), .ref a7, .ref a8, .int 0, .ref a9, .int 0, .ref a10, .ref a11, .ref a12, .ref a13, .ref a14, .int 0, .ref a15, .ref a16, .ref a17])), (a1, .inl (cy 1, 1868, .inl (upd (upd (upd (fun _ => 0) 1 2) 2 20) 3 120))), (a4, .inl (cy 1, 5604, .inl (fun _ => 0))), (a5, .inl (cy 3, 3, .inl (upd (fun _ => 0) 2 1)))] rfl dX12_image_35 (fun H locs w => ?_)
  refine lv_iconst (v := 0) C.1 C.2.1 dX12_image_36 (by decide) ?_
  refine lv_istore_n (lv' := [(2, .int 0), (0, .ref a0), (1, .int 2)]) C.1 C.2.1 dX12_image_37 rfl hl (by decide) rfl (fun ls hl => ?_)
  refine lp_X12_image_2 a0 a1 a2 a3 a4 a5 a6 a7 a8 a9 a10 a11 a12 a13 a14 a15 a16 a17 (fun _ => 0) C hml (w.re rfl) (lv_sub hl [1, 2, 0] rfl) (fun H locs ls f w hl => ?_)
  have w : Wd D A s.heap [(a0, .inr (12, [.ref a1, .ref a2, .ref a3, .ref a4, .ref a5, .int 0, .ref a6, .int 0, .int 0, .int 0, .int 0, .int 0, .int 0, .int 0, .int 0, .int 0, .int 0, .int (-1), .ref a7, .ref a8, .int 0, .ref a9, .int 0, .ref a10, .ref a11, .ref a12, .ref a13, .ref a14, .int 0, .ref a15, .ref a16, .ref a17])), (a1, .inl (cy 1, 1868, .inl (upd (upd (upd (fun _ => 0) 1 2) 2 20) 3 120))), (a4, .inl (cy 1, 5604, .inl f)), (a5, .inl (cy 3, 3, .inl (upd (fun _ => 0) 2 1)))] _ _ := w
  exact r_vret C w hlocks () hr rfl trivial [0, 1, 3] rfl rfl ⟨Nat.le_of_ble_eq_true rfl, Nat.le_of_ble_eq_true rfl⟩ dX12_image_69
set_option maxRecDepth 100000 in
set_option maxHeartbeats 4000000 in
theorem lp_X12_image_3 {p : Program} {l : Launch} {e : Env} {R : Room} {s : State} {m : MethodId} {args : Array Value} {below : List Frame} {meth : Method} {c : Code} {cells slots : Nat} {Q : State → Prop} {D : va_G} {cy : Nat → ClassId} {A : Nat → Prop} {H : Heap} {locs : List Loc} {ls : Array Slot} (a0 a1 a2 a3 a4 a5 a6 a7 a8 a9 a10 a11 a12 a13 a14 a15 a16 a17 : Nat) (f : Nat → Int32) (C : Cx p s m args c cX12_image RX12 D cy A) (hml : c.maxLocals = 3) (w : Wd D A s.heap [(a0, .inr (12, [.ref a1, .ref a2, .ref a3, .ref a4, .ref a5, .int 0, .ref a6, .int 0, .int 0, .int 0, .int 0, .int 0, .int 0, .int 0, .int 0, .int 0, .int 0, .int (-1), .ref a7, .ref a8, .int 0, .ref a9, .int 0, .ref a10, .ref a11, .ref a12, .ref a13, .ref a14, .int 0, .ref a15, .ref a16, .ref a17])), (a1, .inl (cy 1, 1868, .inl (upd (upd (upd (fun _ => 0) 1 2) 2 20) 3 120))), (a4, .inl (cy 1, 5604, .inl f)), (a5, .inl (cy 3, 3, .inl (upd (fun _ => 0) 1 1)))] H locs) (hl : lv_has ls 3 [(0, .ref a0), (1, .int 1), (2, .int 0)])
    (kk : ∀ (H : Heap) (locs : List Loc) (ls : Array Slot) (f : Nat → Int32), Wd D A s.heap [(a0, .inr (12, [.ref a1, .ref a2, .ref a3, .ref a4, .ref a5, .int 0, .ref a6, .int 0, .int 0, .int 0, .int 0, .int 0, .int 0, .int 0, .int 0, .int 0, .int 0, .int (-1), .ref a7, .ref a8, .int 0, .ref a9, .int 0, .ref a10, .ref a11, .ref a12, .ref a13, .ref a14, .int 0, .ref a15, .ref a16, .ref a17])), (a1, .inl (cy 1, 1868, .inl (upd (upd (upd (fun _ => 0) 1 2) 2 20) 3 120))), (a4, .inl (cy 1, 5604, .inl f)), (a5, .inl (cy 3, 3, .inl (upd (fun _ => 0) 1 1)))] H locs → lv_has ls 3 [(0, .ref a0), (1, .int 1)] → W p l e R s m args below meth c H locs cells slots Q (F0 m 69 ls [])) : W p l e R s m args below meth c H locs cells slots Q (F0 m 38 ls []) := by
  have lp : ∀ (k n : Nat) (i : Int32) (f : Nat → Int32) (H : Heap) (locs : List Loc) (ls : Array Slot), n + k = 1868 → i = nI n → Wd D A s.heap [(a0, .inr (12, [.ref a1, .ref a2, .ref a3, .ref a4, .ref a5, .int 0, .ref a6, .int 0, .int 0, .int 0, .int 0, .int 0, .int 0, .int 0, .int 0, .int 0, .int 0, .int (-1), .ref a7, .ref a8, .int 0, .ref a9, .int 0, .ref a10, .ref a11, .ref a12, .ref a13, .ref a14, .int 0, .ref a15, .ref a16, .ref a17])), (a1, .inl (cy 1, 1868, .inl (upd (upd (upd (fun _ => 0) 1 2) 2 20) 3 120))), (a4, .inl (cy 1, 5604, .inl f)), (a5, .inl (cy 3, 3, .inl (upd (fun _ => 0) 1 1)))] H locs → lv_has ls 3 [(0, .ref a0), (1, .int 1), (2, .int i)] → W p l e R s m args below meth c H locs cells slots Q (F0 m 38 ls []) := by
    intro k
    induction k with
    | zero =>
      intro n i f H locs ls h4 ei w hl
      have hx : n = 1868 := by omega
      subst hx
      have c1 : (1868 : Int32) ≤ i := by rw [ei]; decide
      refine lv_iload_n C.1 C.2.1 dX12_image_38 rfl (lv_at hl 2 rfl) ?_
      refine lv_sipush (v := 1868) C.1 C.2.1 dX12_image_39 (by decide) ?_
      refine b_icmp_ge_t C (tgt := 69) dX12_image_42 (by decide) c1 ?_
      exact kk _ _ _ f w (lv_sub hl [0, 1] rfl)
    | succ k ih =>
      intro n i f H locs ls h4 ei w hl
      have c1 : ¬ (1868 : Int32) ≤ i := by rw [ei]; exact nI_ge (b := 1868) (by omega) (by decide)
      have hin0 : vp_in i 1868 := by rw [ei]; exact vp_in_nI (by omega) (by decide)
      have hin : vp_in (1868 + i) 5604 := by rw [ei, show (1868 : Int32) = nI 1868 from rfl, nI_add]; exact vp_in_nI (by omega) (by decide)
      refine lv_iload_n C.1 C.2.1 dX12_image_38 rfl (lv_at hl 2 rfl) ?_
      refine lv_sipush (v := 1868) C.1 C.2.1 dX12_image_39 (by decide) ?_
      refine b_icmp_ge_f C (tgt := 69) dX12_image_42 (by decide) c1 ?_
      refine lv_aload_n C.1 C.2.1 dX12_image_45 rfl (lv_at hl 0 rfl) ?_
      refine r_get C w 0 rfl rfl 3 (by decide) fl_RX12_19 (v := .ref a4) rfl dX12_image_46 ?_
      refine lv_sipush (v := 1868) C.1 C.2.1 dX12_image_49 (by decide) ?_
      refine lv_iload_n C.1 C.2.1 dX12_image_52 rfl (lv_at hl 1 rfl) ?_
      refine r_imul C (v := 1868) dX12_image_53 (by decide) ?_
      refine lv_iload_n C.1 C.2.1 dX12_image_54 rfl (lv_at hl 2 rfl) ?_
      refine r_iadd C (v := (1868 + i)) dX12_image_55 rfl ?_
      refine lv_aload_n C.1 C.2.1 dX12_image_56 rfl (lv_at hl 0 rfl) ?_
      refine r_get C w 0 rfl rfl 0 (by decide) fl_RX12_9 (v := .ref a1) rfl dX12_image_57 ?_
      refine lv_iload_n C.1 C.2.1 dX12_image_60 rfl (lv_at hl 2 rfl) ?_
      refine r_iald C w 1 rfl (v := ((upd (upd (upd (fun _ => 0) 1 2) 2 20) 3 120) i.toNatClampNeg)) hin0 rfl dX12_image_61 ?_
      refine r_iast C w 2 rfl hin (upd f (1868 + i).toNatClampNeg ((upd (upd (upd (fun _ => 0) 1 2) 2 20) 3 120) i.toNatClampNeg)) rfl [(a0, .inr (12, [.ref a1, .ref a2, .ref a3, .ref a4, .ref a5, .int 0, .ref a6, .int 0, .int 0, .int 0, .int 0, .int 0, .int 0, .int 0, .int 0, .int 0, .int 0, .int (-1), .ref a7, .ref a8, .int 0, .ref a9, .int 0, .ref a10, .ref a11, .ref a12, .ref a13, .ref a14, .int 0, .ref a15, .ref a16, .ref a17])), (a1, .inl (cy 1, 1868, .inl (upd (upd (upd (fun _ => 0) 1 2) 2 20) 3 120))), (a4, .inl (cy 1, 5604, .inl (upd f (1868 + i).toNatClampNeg ((upd (upd (upd (fun _ => 0) 1 2) 2 20) 3 120) i.toNatClampNeg)))), (a5, .inl (cy 3, 3, .inl (upd (fun _ => 0) 1 1)))] rfl dX12_image_62 (fun H locs w => ?_)
      refine lv_iinc (v := (i + 1)) (lv' := [(2, .int (i + 1)), (0, .ref a0), (1, .int 1)]) C.1 C.2.1 dX12_image_63 hl (k := 2) rfl rfl (by decide) rfl (fun ls hl => ?_)
      refine lv_goto (tgt := 38) C.1 C.2.1 dX12_image_66 (by decide) ?_
      exact ih (n + 1) (i + 1) _ _ _ _ (by omega) (by rw [ei]; exact nI_1 _) w (lv_sub hl [1, 2, 0] rfl)
  exact lp 1868 0 0 f _ _ _ rfl rfl w hl
set_option maxRecDepth 100000 in
set_option maxHeartbeats 4000000 in
theorem c_X12_image_3 (l : Launch) (D : va_G) (cy : Nat → ClassId) (a0 a1 a2 a3 a4 a5 a6 a7 a8 a9 a10 a11 a12 a13 a14 a15 a16 a17 : Nat) : Ct l D cy yX12_image cX12_image 3 none 1 25 0 0 [(a0, .inr (12, [.ref a1, .ref a2, .ref a3, .ref a4, .ref a5, .int 0, .ref a6, .int 0, .int 0, .int 0, .int 0, .int 0, .int 0, .int 0, .int 0, .int 0, .int 0, .int (-1), .ref a7, .ref a8, .int 0, .ref a9, .int 0, .ref a10, .ref a11, .ref a12, .ref a13, .ref a14, .int 0, .ref a15, .ref a16, .ref a17])), (a1, .inl (cy 1, 1868, .inl (upd (upd (upd (fun _ => 0) 1 2) 2 20) 3 120))), (a4, .inl (cy 1, 5604, .inl (fun _ => 0))), (a5, .inl (cy 3, 3, .inl (fun _ => 0)))] [.ref a0, .int 1] (fun u : Unit => none) (fun _ => True) (fun u : Unit => [(a0, .inr (12, [.ref a1, .ref a2, .ref a3, .ref a4, .ref a5, .int 0, .ref a6, .int 0, .int 0, .int 0, .int 0, .int 0, .int 0, .int 0, .int 0, .int 0, .int 0, .int (-1), .ref a7, .ref a8, .int 0, .ref a9, .int 0, .ref a10, .ref a11, .ref a12, .ref a13, .ref a14, .int 0, .ref a15, .ref a16, .ref a17])), (a1, .inl (cy 1, 1868, .inl (upd (upd (upd (fun _ => 0) 1 2) 2 20) 3 120))), (a5, .inl (cy 3, 3, .inl (upd (fun _ => 0) 1 1)))]) := by
  refine Ct.of (by decide +kernel) (Nat.le_of_ble_eq_true rfl) ?_
  intro p e s m args below meth c A ls C hr hlocks hml hnm w hl
  have hl : lv_has ls 3 [(0, .ref a0), (1, .int 1)] := hl
  refine lv_aload_n C.1 C.2.1 dX12_image_0 rfl (lv_at hl 0 rfl) ?_
  refine lv_iload_n C.1 C.2.1 dX12_image_1 rfl (lv_at hl 1 rfl) ?_
  refine lv_i2l (v := 1) C.1 C.2.1 dX12_image_2 (by decide) ?_
  refine lv_lconst (v := 0) C.1 C.2.1 dX12_image_3 (by decide) ?_
  refine lv_ldc2 (v := 2) C.1 C.2.1 C.2.2.1 (C.2.2.2.1 _ kl_RX12_401) dX12_image_4 ?_
  refine r_callS C w fs_RX12_133 (c_X12_within_11 l D cy) (hl.1.trans hml.symm) [] [0, 1, 2, 3] (wr := [(a0, .inr (12, [.ref a1, .ref a2, .ref a3, .ref a4, .ref a5, .int 0, .ref a6, .int 0, .int 0, .int 0, .int 0, .int 0, .int 0, .int 0, .int 0, .int 0, .int 0, .int (-1), .ref a7, .ref a8, .int 0, .ref a9, .int 0, .ref a10, .ref a11, .ref a12, .ref a13, .ref a14, .int 0, .ref a15, .ref a16, .ref a17])), (a1, .inl (cy 1, 1868, .inl (upd (upd (upd (fun _ => 0) 1 2) 2 20) 3 120))), (a4, .inl (cy 1, 5604, .inl (fun _ => 0))), (a5, .inl (cy 3, 3, .inl (fun _ => 0)))]) ⟨rfl, rfl, rfl, rfl, by decide⟩ rfl rfl ⟨Nat.le_of_ble_eq_true rfl, Nat.le_of_ble_eq_true rfl, Nat.le_of_ble_eq_true rfl⟩ 0 0 ⟨rfl, rfl, Nat.le_of_ble_eq_true rfl, Nat.le_of_ble_eq_true rfl⟩ dX12_image_7 (fun u H locs hp w => ?_)
  have w : Wd D A s.heap [(a0, .inr (12, [.ref a1, .ref a2, .ref a3, .ref a4, .ref a5, .int 0, .ref a6, .int 0, .int 0, .int 0, .int 0, .int 0, .int 0, .int 0, .int 0, .int 0, .int 0, .int (-1), .ref a7, .ref a8, .int 0, .ref a9, .int 0, .ref a10, .ref a11, .ref a12, .ref a13, .ref a14, .int 0, .ref a15, .ref a16, .ref a17])), (a1, .inl (cy 1, 1868, .inl (upd (upd (upd (fun _ => 0) 1 2) 2 20) 3 120))), (a4, .inl (cy 1, 5604, .inl (fun _ => 0))), (a5, .inl (cy 3, 3, .inl (fun _ => 0)))] _ _ := w
  refine r_top (g2 := F0 m 10 ls [.int 1, .ref a0]) rfl ?_
  refine b_if_eq_f C (tgt := 17) dX12_image_10 (by decide) (by decide) ?_
  refine lv_iconst (v := 0) C.1 C.2.1 dX12_image_13 (by decide) ?_
  refine lv_goto (tgt := 18) C.1 C.2.1 dX12_image_14 (by decide) ?_
  refine r_put C w 0 rfl rfl 5 (by decide) fl_RX12_71 rfl (ty := .int) (tyX12_ok 5 (by decide)) rfl rfl (Nat.le_of_ble_eq_true rfl) [(a0, .inr (12, [.ref a1, .ref a2, .ref a3, .ref a4, .ref a5, .int 0, .ref a6, .int 0, .int 0, .int 0, .int 0, .int 0, .int 0, .int 0, .int 0, .int 0, .int 0, .int (-1), .ref a7, .ref a8, .int 0, .ref a9, .int 0, .ref a10, .ref a11, .ref a12, .ref a13, .ref a14, .int 0, .ref a15, .ref a16, .ref a17])), (a1, .inl (cy 1, 1868, .inl (upd (upd (upd (fun _ => 0) 1 2) 2 20) 3 120))), (a4, .inl (cy 1, 5604, .inl (fun _ => 0))), (a5, .inl (cy 3, 3, .inl (fun _ => 0)))] rfl dX12_image_18 (fun H locs w => ?_)
  refine lv_aload_n C.1 C.2.1 dX12_image_21 rfl (lv_at hl 0 rfl) ?_
  refine r_get C w 0 rfl rfl 5 (by decide) fl_RX12_71 (v := .int 0) rfl dX12_image_22 ?_
  refine b_if_le_t C (tgt := 29) dX12_image_25 (by decide) (by decide) ?_
  refine lv_aload_n C.1 C.2.1 dX12_image_29 rfl (lv_at hl 0 rfl) ?_
  refine r_get C w 0 rfl rfl 4 (by decide) fl_RX12_22 (v := .ref a5) rfl dX12_image_30 ?_
  refine lv_iload_n C.1 C.2.1 dX12_image_33 rfl (lv_at hl 1 rfl) ?_
  refine lv_iconst (v := 1) C.1 C.2.1 dX12_image_34 (by decide) ?_
  refine r_zast C w 3 rfl (vinD (by decide)) (upd (fun _ => 0) 1 1) rfl [(a0, .inr (12, [.ref a1, .ref a2, .ref a3, .ref a4, .ref a5, .int 0, .ref a6, .int 0, .int 0, .int 0, .int 0, .int 0, .int 0, .int 0, .int 0, .int 0, .int 0, .int (-1), .ref a7, .ref a8, .int 0, .ref a9, .int 0, .ref a10, .ref a11, .ref a12, .ref a13, .ref a14, .int 0, .ref a15, .ref a16, .ref a17])), (a1, .inl (cy 1, 1868, .inl (upd (upd (upd (fun _ => 0) 1 2) 2 20) 3 120))), (a4, .inl (cy 1, 5604, .inl (fun _ => 0))), (a5, .inl (cy 3, 3, .inl (upd (fun _ => 0) 1 1)))] rfl dX12_image_35 (fun H locs w => ?_)
  refine lv_iconst (v := 0) C.1 C.2.1 dX12_image_36 (by decide) ?_
  refine lv_istore_n (lv' := [(2, .int 0), (0, .ref a0), (1, .int 1)]) C.1 C.2.1 dX12_image_37 rfl hl (by decide) rfl (fun ls hl => ?_)
  refine lp_X12_image_3 a0 a1 a2 a3 a4 a5 a6 a7 a8 a9 a10 a11 a12 a13 a14 a15 a16 a17 (fun _ => 0) C hml (w.re rfl) (lv_sub hl [1, 2, 0] rfl) (fun H locs ls f w hl => ?_)
  have w : Wd D A s.heap [(a0, .inr (12, [.ref a1, .ref a2, .ref a3, .ref a4, .ref a5, .int 0, .ref a6, .int 0, .int 0, .int 0, .int 0, .int 0, .int 0, .int 0, .int 0, .int 0, .int 0, .int (-1), .ref a7, .ref a8, .int 0, .ref a9, .int 0, .ref a10, .ref a11, .ref a12, .ref a13, .ref a14, .int 0, .ref a15, .ref a16, .ref a17])), (a1, .inl (cy 1, 1868, .inl (upd (upd (upd (fun _ => 0) 1 2) 2 20) 3 120))), (a4, .inl (cy 1, 5604, .inl f)), (a5, .inl (cy 3, 3, .inl (upd (fun _ => 0) 1 1)))] _ _ := w
  exact r_vret C w hlocks () hr rfl trivial [0, 1, 3] rfl rfl ⟨Nat.le_of_ble_eq_true rfl, Nat.le_of_ble_eq_true rfl⟩ dX12_image_69
set_option maxRecDepth 100000 in
set_option maxHeartbeats 4000000 in
theorem c_X12_image_4 (l : Launch) (D : va_G) (cy : Nat → ClassId) (a0 a1 a2 a3 a4 a5 a6 a7 a8 a9 a10 a11 a12 a13 a14 a15 a16 a17 : Nat) (x0 : Int32) (k0 : ¬ x0 < 0) (k1 : 2 < x0) : Ct l D cy yX12_image cX12_image 3 none 1 25 0 0 [(a0, .inr (12, [.ref a1, .ref a2, .ref a3, .ref a4, .ref a5, .int 0, .ref a6, .int 0, .int 0, .int 0, .int 0, .int 0, .int 0, .int 0, .int 0, .int 0, .int 0, .int (-1), .ref a7, .ref a8, .int 0, .ref a9, .int 0, .ref a10, .ref a11, .ref a12, .ref a13, .ref a14, .int 0, .ref a15, .ref a16, .ref a17]))] [.ref a0, .int x0] (fun u : Unit => none) (fun _ => True) (fun u : Unit => [(a0, .inr (12, [.ref a1, .ref a2, .ref a3, .ref a4, .ref a5, .int 1, .ref a6, .int 0, .int 0, .int 0, .int 0, .int 0, .int 0, .int 0, .int 0, .int 0, .int 0, .int (-1), .ref a7, .ref a8, .int 0, .ref a9, .int 0, .ref a10, .ref a11, .ref a12, .ref a13, .ref a14, .int 0, .ref a15, .ref a16, .ref a17]))]) := by
  refine Ct.of (by decide +kernel) (Nat.le_of_ble_eq_true rfl) ?_
  intro p e s m args below meth c A ls C hr hlocks hml hnm w hl
  have hl : lv_has ls 3 [(0, .ref a0), (1, .int x0)] := hl
  refine lv_aload_n C.1 C.2.1 dX12_image_0 rfl (lv_at hl 0 rfl) ?_
  refine lv_iload_n C.1 C.2.1 dX12_image_1 rfl (lv_at hl 1 rfl) ?_
  refine lv_i2l (v := (Int32.toInt64 x0)) C.1 C.2.1 dX12_image_2 rfl ?_
  refine lv_lconst (v := 0) C.1 C.2.1 dX12_image_3 (by decide) ?_
  refine lv_ldc2 (v := 2) C.1 C.2.1 C.2.2.1 (C.2.2.2.1 _ kl_RX12_401) dX12_image_4 ?_
  refine r_callS C w fs_RX12_133 (c_X12_within_7 l D cy x0 k0 k1) (hl.1.trans hml.symm) [] [0] (wr := [(a0, .inr (12, [.ref a1, .ref a2, .ref a3, .ref a4, .ref a5, .int 0, .ref a6, .int 0, .int 0, .int 0, .int 0, .int 0, .int 0, .int 0, .int 0, .int 0, .int 0, .int (-1), .ref a7, .ref a8, .int 0, .ref a9, .int 0, .ref a10, .ref a11, .ref a12, .ref a13, .ref a14, .int 0, .ref a15, .ref a16, .ref a17]))]) ⟨rfl, rfl, rfl, rfl, by decide⟩ rfl rfl ⟨Nat.le_of_ble_eq_true rfl, Nat.le_of_ble_eq_true rfl, Nat.le_of_ble_eq_true rfl⟩ 0 0 ⟨rfl, rfl, Nat.le_of_ble_eq_true rfl, Nat.le_of_ble_eq_true rfl⟩ dX12_image_7 (fun u H locs hp w => ?_)
  have w : Wd D A s.heap [(a0, .inr (12, [.ref a1, .ref a2, .ref a3, .ref a4, .ref a5, .int 0, .ref a6, .int 0, .int 0, .int 0, .int 0, .int 0, .int 0, .int 0, .int 0, .int 0, .int 0, .int (-1), .ref a7, .ref a8, .int 0, .ref a9, .int 0, .ref a10, .ref a11, .ref a12, .ref a13, .ref a14, .int 0, .ref a15, .ref a16, .ref a17]))] _ _ := w
  refine r_top (g2 := F0 m 10 ls [.int 0, .ref a0]) rfl ?_
  refine b_if_eq_t C (tgt := 17) dX12_image_10 (by decide) (by decide) ?_
  refine lv_iconst (v := 1) C.1 C.2.1 dX12_image_17 (by decide) ?_
  refine r_put C w 0 rfl rfl 5 (by decide) fl_RX12_71 rfl (ty := .int) (tyX12_ok 5 (by decide)) rfl rfl (Nat.le_of_ble_eq_true rfl) [(a0, .inr (12, [.ref a1, .ref a2, .ref a3, .ref a4, .ref a5, .int 1, .ref a6, .int 0, .int 0, .int 0, .int 0, .int 0, .int 0, .int 0, .int 0, .int 0, .int 0, .int (-1), .ref a7, .ref a8, .int 0, .ref a9, .int 0, .ref a10, .ref a11, .ref a12, .ref a13, .ref a14, .int 0, .ref a15, .ref a16, .ref a17]))] rfl dX12_image_18 (fun H locs w => ?_)
  refine lv_aload_n C.1 C.2.1 dX12_image_21 rfl (lv_at hl 0 rfl) ?_
  refine r_get C w 0 rfl rfl 5 (by decide) fl_RX12_71 (v := .int 1) rfl dX12_image_22 ?_
  refine b_if_le_f C (tgt := 29) dX12_image_25 (by decide) (by decide) ?_
  exact r_vret C w hlocks () hr rfl trivial [0] rfl rfl ⟨Nat.le_of_ble_eq_true rfl, Nat.le_of_ble_eq_true rfl⟩ dX12_image_28
