theorem dX12_soonest_0 : decode cX12_soonest 0 = .ok (.aload_n 0, 1) := by decide +kernel
theorem dX12_soonest_1 : decode cX12_soonest 1 = .ok (.aload_n 0, 1) := by decide +kernel
theorem dX12_soonest_2 : decode cX12_soonest 2 = .ok (.iload_n 1, 1) := by decide +kernel
theorem dX12_soonest_3 : decode cX12_soonest 3 = .ok (.invokevirtual 256, 3) := by decide +kernel
theorem dX12_soonest_6 : decode cX12_soonest 6 = .ok (.ifCond .ne 7, 3) := by decide +kernel
theorem dX12_soonest_9 : decode cX12_soonest 9 = .ok (.iconst 1, 1) := by decide +kernel
theorem dX12_soonest_10 : decode cX12_soonest 10 = .ok (.goto 24, 3) := by decide +kernel
theorem dX12_soonest_34 : decode cX12_soonest 34 = .ok (.putfield 71, 3) := by decide +kernel
theorem dX12_soonest_37 : decode cX12_soonest 37 = .ok (.aload_n 0, 1) := by decide +kernel
theorem dX12_soonest_38 : decode cX12_soonest 38 = .ok (.getfield 71, 3) := by decide +kernel
theorem dX12_soonest_41 : decode cX12_soonest 41 = .ok (.ifCond .le 5, 3) := by decide +kernel
theorem dX12_soonest_44 : decode cX12_soonest 44 = .ok (.iconst 0, 1) := by decide +kernel
theorem dX12_soonest_45 : decode cX12_soonest 45 = .ok (.ireturn, 1) := by decide +kernel
set_option maxRecDepth 100000 in
set_option maxHeartbeats 4000000 in
theorem c_X12_soonest_0 (l : Launch) (D : va_G) (cy : Nat → ClassId) (a0 a1 a2 a3 a4 a5 a6 a7 a8 a9 a10 a11 a12 a13 a14 a15 a16 a17 : Nat) (x0 : Int32) (x1 : Int32) (x2 : Int32) (x3 : Int32) (k0 : x0 < 0) : Ct l D cy yX12_soonest cX12_soonest 6 (some .int) 2 46 0 0 [(a0, .inr (12, [.ref a1, .ref a2, .ref a3, .ref a4, .ref a5, .int 0, .ref a6, .int 0, .int 0, .int 0, .int 0, .int 0, .int 0, .int 0, .int 0, .int 0, .int 0, .int (-1), .ref a7, .ref a8, .int 0, .ref a9, .int 0, .ref a10, .ref a11, .ref a12, .ref a13, .ref a14, .int 0, .ref a15, .ref a16, .ref a17])), (a1, .inl (cy 1, 1868, .inl (upd (upd (upd (fun _ => 0) 1 2) 2 20) 3 120))), (a7, .inl (cy 1, 1830, .inl (fun _ => 0))), (a8, .inl (cy 1, 1830, .inl (fun _ => 0)))] [.ref a0, .int x0, .int x1, .int x2, .int x3] (fun u : Unit => some (.int 0)) (fun _ => True) (fun u : Unit => [(a0, .inr (12, [.ref a1, .ref a2, .ref a3, .ref a4, .ref a5, .int 1, .ref a6, .int 0, .int 0, .int 0, .int 0, .int 0, .int 0, .int 0, .int 0, .int 0, .int 0, .int (-1), .ref a7, .ref a8, .int 190, .ref a9, .int 0, .ref a10, .ref a11, .ref a12, .ref a13, .ref a14, .int 0, .ref a15, .ref a16, .ref a17])), (a1, .inl (cy 1, 1868, .inl (upd (upd (upd (fun _ => 0) 1 2) 2 20) 3 120))), (a7, .inl (cy 1, 1830, .inl (lxF (fun _ => 0) 2 20 (PP 20 2 (20 + 1 - 2))))), (a8, .inl (cy 1, 1830, .inl (lyF (fun _ => 0) 2 20 (PP 20 2 (20 + 1 - 2)))))]) := by
  refine Ct.of (by decide +kernel) (Nat.le_of_ble_eq_true rfl) ?_
  intro p e s m args below meth c A ls C hr hlocks hml hnm w hl
  have hl : lv_has ls 6 [(0, .ref a0), (1, .int x0), (2, .int x1), (3, .int x2), (4, .int x3)] := hl
  refine lv_aload_n C.1 C.2.1 dX12_soonest_0 rfl (lv_at hl 0 rfl) ?_
  refine lv_aload_n C.1 C.2.1 dX12_soonest_1 rfl (lv_at hl 0 rfl) ?_
  refine lv_iload_n C.1 C.2.1 dX12_soonest_2 rfl (lv_at hl 1 rfl) ?_
  refine r_callV C w fv_RX12_256 (c_X12_isWorld_0 l D cy a0 a1 a2 a3 a4 a5 a6 a7 a8 a9 a10 a11 a12 a13 a14 a15 a16 a17 x0 k0) (hl.1.trans hml.symm) [0, 1, 2, 3] [] (wr := []) ⟨rfl, rfl, rfl, rfl, by decide⟩ 0 rfl rfl rfl rfl rfl ⟨Nat.le_of_ble_eq_true rfl, Nat.le_of_ble_eq_true rfl, Nat.le_of_ble_eq_true rfl⟩ 0 0 ⟨rfl, rfl, Nat.le_of_ble_eq_true rfl, Nat.le_of_ble_eq_true rfl⟩ dX12_soonest_3 (fun u H locs hp w => ?_)
  have w : Wd D A s.heap [(a0, .inr (12, [.ref a1, .ref a2, .ref a3, .ref a4, .ref a5, .int 0, .ref a6, .int 0, .int 0, .int 0, .int 0, .int 0, .int 0, .int 0, .int 0, .int 0, .int 0, .int (-1), .ref a7, .ref a8, .int 190, .ref a9, .int 0, .ref a10, .ref a11, .ref a12, .ref a13, .ref a14, .int 0, .ref a15, .ref a16, .ref a17])), (a1, .inl (cy 1, 1868, .inl (upd (upd (upd (fun _ => 0) 1 2) 2 20) 3 120))), (a7, .inl (cy 1, 1830, .inl (lxF (fun _ => 0) 2 20 (PP 20 2 (20 + 1 - 2))))), (a8, .inl (cy 1, 1830, .inl (lyF (fun _ => 0) 2 20 (PP 20 2 (20 + 1 - 2)))))] _ _ := w
  refine r_top (g2 := F0 m 6 ls [.int 0, .ref a0]) rfl ?_
  refine b_if_ne_f C (tgt := 13) dX12_soonest_6 (by decide) (by decide) ?_
  refine lv_iconst (v := 1) C.1 C.2.1 dX12_soonest_9 (by decide) ?_
  refine lv_goto (tgt := 34) C.1 C.2.1 dX12_soonest_10 (by decide) ?_
  refine r_put C w 0 rfl rfl 5 (by decide) fl_RX12_71 rfl (ty := .int) (tyX12_ok 5 (by decide)) rfl rfl (Nat.le_of_ble_eq_true rfl) [(a0, .inr (12, [.ref a1, .ref a2, .ref a3, .ref a4, .ref a5, .int 1, .ref a6, .int 0, .int 0, .int 0, .int 0, .int 0, .int 0, .int 0, .int 0, .int 0, .int 0, .int (-1), .ref a7, .ref a8, .int 190, .ref a9, .int 0, .ref a10, .ref a11, .ref a12, .ref a13, .ref a14, .int 0, .ref a15, .ref a16, .ref a17])), (a1, .inl (cy 1, 1868, .inl (upd (upd (upd (fun _ => 0) 1 2) 2 20) 3 120))), (a7, .inl (cy 1, 1830, .inl (lxF (fun _ => 0) 2 20 (PP 20 2 (20 + 1 - 2))))), (a8, .inl (cy 1, 1830, .inl (lyF (fun _ => 0) 2 20 (PP 20 2 (20 + 1 - 2)))))] rfl dX12_soonest_34 (fun H locs w => ?_)
  refine lv_aload_n C.1 C.2.1 dX12_soonest_37 rfl (lv_at hl 0 rfl) ?_
  refine r_get C w 0 rfl rfl 5 (by decide) fl_RX12_71 (v := .int 1) rfl dX12_soonest_38 ?_
  refine b_if_le_f C (tgt := 46) dX12_soonest_41 (by decide) (by decide) ?_
  refine lv_iconst (v := 0) C.1 C.2.1 dX12_soonest_44 (by decide) ?_
  exact r_iret C w hlocks () hr rfl rfl trivial [0, 1, 2, 3] rfl rfl ⟨Nat.le_of_ble_eq_true rfl, Nat.le_of_ble_eq_true rfl⟩ dX12_soonest_45
set_option maxRecDepth 100000 in
set_option maxHeartbeats 4000000 in
theorem c_X12_soonest_1 (l : Launch) (D : va_G) (cy : Nat → ClassId) (a0 a1 a2 a3 a4 a5 a6 a7 a8 a9 a10 a11 a12 a13 a14 a15 a16 a17 : Nat) (x0 : Int32) (x1 : Int32) (x2 : Int32) (x3 : Int32) (k0 : ¬ x0 < 0) (k1 : 189 < x0) : Ct l D cy yX12_soonest cX12_soonest 6 (some .int) 2 46 0 0 [(a0, .inr (12, [.ref a1, .ref a2, .ref a3, .ref a4, .ref a5, .int 0, .ref a6, .int 0, .int 0, .int 0, .int 0, .int 0, .int 0, .int 0, .int 0, .int 0, .int 0, .int (-1), .ref a7, .ref a8, .int 0, .ref a9, .int 0, .ref a10, .ref a11, .ref a12, .ref a13, .ref a14, .int 0, .ref a15, .ref a16, .ref a17])), (a1, .inl (cy 1, 1868, .inl (upd (upd (upd (fun _ => 0) 1 2) 2 20) 3 120))), (a7, .inl (cy 1, 1830, .inl (fun _ => 0))), (a8, .inl (cy 1, 1830, .inl (fun _ => 0)))] [.ref a0, .int x0, .int x1, .int x2, .int x3] (fun u : Unit => some (.int 0)) (fun _ => True) (fun u : Unit => [(a0, .inr (12, [.ref a1, .ref a2, .ref a3, .ref a4, .ref a5, .int 1, .ref a6, .int 0, .int 0, .int 0, .int 0, .int 0, .int 0, .int 0, .int 0, .int 0, .int 0, .int (-1), .ref a7, .ref a8, .int 190, .ref a9, .int 0, .ref a10, .ref a11, .ref a12, .ref a13, .ref a14, .int 0, .ref a15, .ref a16, .ref a17])), (a1, .inl (cy 1, 1868, .inl (upd (upd (upd (fun _ => 0) 1 2) 2 20) 3 120))), (a7, .inl (cy 1, 1830, .inl (lxF (fun _ => 0) 2 20 (PP 20 2 (20 + 1 - 2))))), (a8, .inl (cy 1, 1830, .inl (lyF (fun _ => 0) 2 20 (PP 20 2 (20 + 1 - 2)))))]) := by
  refine Ct.of (by decide +kernel) (Nat.le_of_ble_eq_true rfl) ?_
  intro p e s m args below meth c A ls C hr hlocks hml hnm w hl
  have hl : lv_has ls 6 [(0, .ref a0), (1, .int x0), (2, .int x1), (3, .int x2), (4, .int x3)] := hl
  refine lv_aload_n C.1 C.2.1 dX12_soonest_0 rfl (lv_at hl 0 rfl) ?_
  refine lv_aload_n C.1 C.2.1 dX12_soonest_1 rfl (lv_at hl 0 rfl) ?_
  refine lv_iload_n C.1 C.2.1 dX12_soonest_2 rfl (lv_at hl 1 rfl) ?_
  refine r_callV C w fv_RX12_256 (c_X12_isWorld_2 l D cy a0 a1 a2 a3 a4 a5 a6 a7 a8 a9 a10 a11 a12 a13 a14 a15 a16 a17 x0 k0 k1) (hl.1.trans hml.symm) [0, 1, 2, 3] [] (wr := []) ⟨rfl, rfl, rfl, rfl, by decide⟩ 0 rfl rfl rfl rfl rfl ⟨Nat.le_of_ble_eq_true rfl, Nat.le_of_ble_eq_true rfl, Nat.le_of_ble_eq_true rfl⟩ 0 0 ⟨rfl, rfl, Nat.le_of_ble_eq_true rfl, Nat.le_of_ble_eq_true rfl⟩ dX12_soonest_3 (fun u H locs hp w => ?_)
  have w : Wd D A s.heap [(a0, .inr (12, [.ref a1, .ref a2, .ref a3, .ref a4, .ref a5, .int 0, .ref a6, .int 0, .int 0, .int 0, .int 0, .int 0, .int 0, .int 0, .int 0, .int 0, .int 0, .int (-1), .ref a7, .ref a8, .int 190, .ref a9, .int 0, .ref a10, .ref a11, .ref a12, .ref a13, .ref a14, .int 0, .ref a15, .ref a16, .ref a17])), (a1, .inl (cy 1, 1868, .inl (upd (upd (upd (fun _ => 0) 1 2) 2 20) 3 120))), (a7, .inl (cy 1, 1830, .inl (lxF (fun _ => 0) 2 20 (PP 20 2 (20 + 1 - 2))))), (a8, .inl (cy 1, 1830, .inl (lyF (fun _ => 0) 2 20 (PP 20 2 (20 + 1 - 2)))))] _ _ := w
  refine r_top (g2 := F0 m 6 ls [.int 0, .ref a0]) rfl ?_
  refine b_if_ne_f C (tgt := 13) dX12_soonest_6 (by decide) (by decide) ?_
  refine lv_iconst (v := 1) C.1 C.2.1 dX12_soonest_9 (by decide) ?_
  refine lv_goto (tgt := 34) C.1 C.2.1 dX12_soonest_10 (by decide) ?_
  refine r_put C w 0 rfl rfl 5 (by decide) fl_RX12_71 rfl (ty := .int) (tyX12_ok 5 (by decide)) rfl rfl (Nat.le_of_ble_eq_true rfl) [(a0, .inr (12, [.ref a1, .ref a2, .ref a3, .ref a4, .ref a5, .int 1, .ref a6, .int 0, .int 0, .int 0, .int 0, .int 0, .int 0, .int 0, .int 0, .int 0, .int 0, .int (-1), .ref a7, .ref a8, .int 190, .ref a9, .int 0, .ref a10, .ref a11, .ref a12, .ref a13, .ref a14, .int 0, .ref a15, .ref a16, .ref a17])), (a1, .inl (cy 1, 1868, .inl (upd (upd (upd (fun _ => 0) 1 2) 2 20) 3 120))), (a7, .inl (cy 1, 1830, .inl (lxF (fun _ => 0) 2 20 (PP 20 2 (20 + 1 - 2))))), (a8, .inl (cy 1, 1830, .inl (lyF (fun _ => 0) 2 20 (PP 20 2 (20 + 1 - 2)))))] rfl dX12_soonest_34 (fun H locs w => ?_)
  refine lv_aload_n C.1 C.2.1 dX12_soonest_37 rfl (lv_at hl 0 rfl) ?_
  refine r_get C w 0 rfl rfl 5 (by decide) fl_RX12_71 (v := .int 1) rfl dX12_soonest_38 ?_
  refine b_if_le_f C (tgt := 46) dX12_soonest_41 (by decide) (by decide) ?_
  refine lv_iconst (v := 0) C.1 C.2.1 dX12_soonest_44 (by decide) ?_
  exact r_iret C w hlocks () hr rfl rfl trivial [0, 1, 2, 3] rfl rfl ⟨Nat.le_of_ble_eq_true rfl, Nat.le_of_ble_eq_true rfl⟩ dX12_soonest_45
theorem dX12_soonest_13 : decode cX12_soonest 13 = .ok (.aload_n 0, 1) := by decide +kernel
theorem dX12_soonest_14 : decode cX12_soonest 14 = .ok (.iload_n 2, 1) := by decide +kernel
theorem dX12_soonest_15 : decode cX12_soonest 15 = .ok (.invokevirtual 380, 3) := by decide +kernel
theorem dX12_areSpeakers_0 : decode cX12_areSpeakers 0 = .ok (.iload_n 1, 1) := by decide +kernel
theorem dX12_areSpeakers_1 : decode cX12_areSpeakers 1 = .ok (.i2l, 1) := by decide +kernel
theorem dX12_areSpeakers_2 : decode cX12_areSpeakers 2 = .ok (.lconst 0, 1) := by decide +kernel
theorem dX12_areSpeakers_3 : decode cX12_areSpeakers 3 = .ok (.iconst 1, 1) := by decide +kernel
theorem dX12_areSpeakers_4 : decode cX12_areSpeakers 4 = .ok (.aload_n 0, 1) := by decide +kernel
theorem dX12_areSpeakers_5 : decode cX12_areSpeakers 5 = .ok (.getfield 9, 3) := by decide +kernel
theorem dX12_areSpeakers_8 : decode cX12_areSpeakers 8 = .ok (.iconst 5, 1) := by decide +kernel
theorem dX12_areSpeakers_9 : decode cX12_areSpeakers 9 = .ok (.iaload, 1) := by decide +kernel
theorem dX12_areSpeakers_10 : decode cX12_areSpeakers 10 = .ok (.ishl, 1) := by decide +kernel
theorem dX12_areSpeakers_11 : decode cX12_areSpeakers 11 = .ok (.iconst 1, 1) := by decide +kernel
theorem dX12_areSpeakers_12 : decode cX12_areSpeakers 12 = .ok (.isub, 1) := by decide +kernel
theorem dX12_areSpeakers_13 : decode cX12_areSpeakers 13 = .ok (.i2l, 1) := by decide +kernel
theorem dX12_areSpeakers_14 : decode cX12_areSpeakers 14 = .ok (.invokestatic 133, 3) := by decide +kernel
theorem dX12_areSpeakers_17 : decode cX12_areSpeakers 17 = .ok (.ireturn, 1) := by decide +kernel
set_option maxRecDepth 100000 in
set_option maxHeartbeats 4000000 in
theorem c_X12_areSpeakers_0 (l : Launch) (D : va_G) (cy : Nat → ClassId) (a0 a1 a2 a3 a4 a5 a6 a7 a8 a9 a10 a11 a12 a13 a14 a15 a16 a17 : Nat) (x0 : Int32) (k0 : x0 < 0) : Ct l D cy yX12_areSpeakers cX12_areSpeakers 2 (some .boolean) 1 25 0 0 [(a0, .inr (12, [.ref a1, .ref a2, .ref a3, .ref a4, .ref a5, .int 0, .ref a6, .int 0, .int 0, .int 0, .int 0, .int 0, .int 0, .int 0, .int 0, .int 0, .int 0, .int (-1), .ref a7, .ref a8, .int 190, .ref a9, .int 0, .ref a10, .ref a11, .ref a12, .ref a13, .ref a14, .int 0, .ref a15, .ref a16, .ref a17])), (a1, .inl (cy 1, 1868, .inl (upd (upd (upd (fun _ => 0) 1 2) 2 20) 3 120)))] [.ref a0, .int x0] (fun u : Unit => some (.int 0)) (fun _ => True) (fun u : Unit => [(a0, .inr (12, [.ref a1, .ref a2, .ref a3, .ref a4, .ref a5, .int 0, .ref a6, .int 0, .int 0, .int 0, .int 0, .int 0, .int 0, .int 0, .int 0, .int 0, .int 0, .int (-1), .ref a7, .ref a8, .int 190, .ref a9, .int 0, .ref a10, .ref a11, .ref a12, .ref a13, .ref a14, .int 0, .ref a15, .ref a16, .ref a17])), (a1, .inl (cy 1, 1868, .inl (upd (upd (upd (fun _ => 0) 1 2) 2 20) 3 120)))]) := by
  refine Ct.of (by decide +kernel) (Nat.le_of_ble_eq_true rfl) ?_
  intro p e s m args below meth c A ls C hr hlocks hml hnm w hl
  have hl : lv_has ls 2 [(0, .ref a0), (1, .int x0)] := hl
  refine lv_iload_n C.1 C.2.1 dX12_areSpeakers_0 rfl (lv_at hl 1 rfl) ?_
  refine lv_i2l (v := (Int32.toInt64 x0)) C.1 C.2.1 dX12_areSpeakers_1 rfl ?_
  refine lv_lconst (v := 0) C.1 C.2.1 dX12_areSpeakers_2 (by decide) ?_
  refine lv_iconst (v := 1) C.1 C.2.1 dX12_areSpeakers_3 (by decide) ?_
  refine lv_aload_n C.1 C.2.1 dX12_areSpeakers_4 rfl (lv_at hl 0 rfl) ?_
  refine r_get C w 0 rfl rfl 0 (by decide) fl_RX12_9 (v := .ref a1) rfl dX12_areSpeakers_5 ?_
  refine lv_iconst (v := 5) C.1 C.2.1 dX12_areSpeakers_8 (by decide) ?_
  refine r_iald C w 1 rfl (v := 0) (vinD (by decide)) rfl dX12_areSpeakers_9 ?_
  refine r_ishl C (v := 1) dX12_areSpeakers_10 (by decide) ?_
  refine lv_iconst (v := 1) C.1 C.2.1 dX12_areSpeakers_11 (by decide) ?_
  refine r_isub C (v := 0) dX12_areSpeakers_12 (by decide) ?_
  refine lv_i2l (v := 0) C.1 C.2.1 dX12_areSpeakers_13 (by decide) ?_
  refine r_callS C w fs_RX12_133 (c_X12_within_0 l D cy x0 k0) (hl.1.trans hml.symm) [] [0, 1] (wr := [(a0, .inr (12, [.ref a1, .ref a2, .ref a3, .ref a4, .ref a5, .int 0, .ref a6, .int 0, .int 0, .int 0, .int 0, .int 0, .int 0, .int 0, .int 0, .int 0, .int 0, .int (-1), .ref a7, .ref a8, .int 190, .ref a9, .int 0, .ref a10, .ref a11, .ref a12, .ref a13, .ref a14, .int 0, .ref a15, .ref a16, .ref a17])), (a1, .inl (cy 1, 1868, .inl (upd (upd (upd (fun _ => 0) 1 2) 2 20) 3 120)))]) ⟨rfl, rfl, rfl, rfl, by decide⟩ rfl rfl ⟨Nat.le_of_ble_eq_true rfl, Nat.le_of_ble_eq_true rfl, Nat.le_of_ble_eq_true rfl⟩ 0 0 ⟨rfl, rfl, Nat.le_of_ble_eq_true rfl, Nat.le_of_ble_eq_true rfl⟩ dX12_areSpeakers_14 (fun u H locs hp w => ?_)
  have w : Wd D A s.heap [(a0, .inr (12, [.ref a1, .ref a2, .ref a3, .ref a4, .ref a5, .int 0, .ref a6, .int 0, .int 0, .int 0, .int 0, .int 0, .int 0, .int 0, .int 0, .int 0, .int 0, .int (-1), .ref a7, .ref a8, .int 190, .ref a9, .int 0, .ref a10, .ref a11, .ref a12, .ref a13, .ref a14, .int 0, .ref a15, .ref a16, .ref a17])), (a1, .inl (cy 1, 1868, .inl (upd (upd (upd (fun _ => 0) 1 2) 2 20) 3 120)))] _ _ := w
  refine r_top (g2 := F0 m 17 ls [.int 0]) rfl ?_
  exact r_iret C w hlocks () hr rfl rfl trivial [0, 1] rfl rfl ⟨Nat.le_of_ble_eq_true rfl, Nat.le_of_ble_eq_true rfl⟩ dX12_areSpeakers_17
set_option maxRecDepth 100000 in
set_option maxHeartbeats 4000000 in
theorem c_X12_areSpeakers_1 (l : Launch) (D : va_G) (cy : Nat → ClassId) (a0 a1 a2 a3 a4 a5 a6 a7 a8 a9 a10 a11 a12 a13 a14 a15 a16 a17 : Nat) : Ct l D cy yX12_areSpeakers cX12_areSpeakers 2 (some .boolean) 1 25 0 0 [(a0, .inr (12, [.ref a1, .ref a2, .ref a3, .ref a4, .ref a5, .int 0, .ref a6, .int 0, .int 0, .int 0, .int 0, .int 0, .int 0, .int 0, .int 0, .int 0, .int 0, .int (-1), .ref a7, .ref a8, .int 190, .ref a9, .int 0, .ref a10, .ref a11, .ref a12, .ref a13, .ref a14, .int 0, .ref a15, .ref a16, .ref a17])), (a1, .inl (cy 1, 1868, .inl (upd (upd (upd (fun _ => 0) 1 2) 2 20) 3 120)))] [.ref a0, .int 0] (fun u : Unit => some (.int 1)) (fun _ => True) (fun u : Unit => [(a0, .inr (12, [.ref a1, .ref a2, .ref a3, .ref a4, .ref a5, .int 0, .ref a6, .int 0, .int 0, .int 0, .int 0, .int 0, .int 0, .int 0, .int 0, .int 0, .int 0, .int (-1), .ref a7, .ref a8, .int 190, .ref a9, .int 0, .ref a10, .ref a11, .ref a12, .ref a13, .ref a14, .int 0, .ref a15, .ref a16, .ref a17])), (a1, .inl (cy 1, 1868, .inl (upd (upd (upd (fun _ => 0) 1 2) 2 20) 3 120)))]) := by
  refine Ct.of (by decide +kernel) (Nat.le_of_ble_eq_true rfl) ?_
  intro p e s m args below meth c A ls C hr hlocks hml hnm w hl
  have hl : lv_has ls 2 [(0, .ref a0), (1, .int 0)] := hl
  refine lv_iload_n C.1 C.2.1 dX12_areSpeakers_0 rfl (lv_at hl 1 rfl) ?_
  refine lv_i2l (v := 0) C.1 C.2.1 dX12_areSpeakers_1 (by decide) ?_
  refine lv_lconst (v := 0) C.1 C.2.1 dX12_areSpeakers_2 (by decide) ?_
  refine lv_iconst (v := 1) C.1 C.2.1 dX12_areSpeakers_3 (by decide) ?_
  refine lv_aload_n C.1 C.2.1 dX12_areSpeakers_4 rfl (lv_at hl 0 rfl) ?_
  refine r_get C w 0 rfl rfl 0 (by decide) fl_RX12_9 (v := .ref a1) rfl dX12_areSpeakers_5 ?_
  refine lv_iconst (v := 5) C.1 C.2.1 dX12_areSpeakers_8 (by decide) ?_
  refine r_iald C w 1 rfl (v := 0) (vinD (by decide)) rfl dX12_areSpeakers_9 ?_
  refine r_ishl C (v := 1) dX12_areSpeakers_10 (by decide) ?_
  refine lv_iconst (v := 1) C.1 C.2.1 dX12_areSpeakers_11 (by decide) ?_
  refine r_isub C (v := 0) dX12_areSpeakers_12 (by decide) ?_
  refine lv_i2l (v := 0) C.1 C.2.1 dX12_areSpeakers_13 (by decide) ?_
  refine r_callS C w fs_RX12_133 (c_X12_within_3 l D cy) (hl.1.trans hml.symm) [] [0, 1] (wr := [(a0, .inr (12, [.ref a1, .ref a2, .ref a3, .ref a4, .ref a5, .int 0, .ref a6, .int 0, .int 0, .int 0, .int 0, .int 0, .int 0, .int 0, .int 0, .int 0, .int 0, .int (-1), .ref a7, .ref a8, .int 190, .ref a9, .int 0, .ref a10, .ref a11, .ref a12, .ref a13, .ref a14, .int 0, .ref a15, .ref a16, .ref a17])), (a1, .inl (cy 1, 1868, .inl (upd (upd (upd (fun _ => 0) 1 2) 2 20) 3 120)))]) ⟨rfl, rfl, rfl, rfl, by decide⟩ rfl rfl ⟨Nat.le_of_ble_eq_true rfl, Nat.le_of_ble_eq_true rfl, Nat.le_of_ble_eq_true rfl⟩ 0 0 ⟨rfl, rfl, Nat.le_of_ble_eq_true rfl, Nat.le_of_ble_eq_true rfl⟩ dX12_areSpeakers_14 (fun u H locs hp w => ?_)
  have w : Wd D A s.heap [(a0, .inr (12, [.ref a1, .ref a2, .ref a3, .ref a4, .ref a5, .int 0, .ref a6, .int 0, .int 0, .int 0, .int 0, .int 0, .int 0, .int 0, .int 0, .int 0, .int 0, .int (-1), .ref a7, .ref a8, .int 190, .ref a9, .int 0, .ref a10, .ref a11, .ref a12, .ref a13, .ref a14, .int 0, .ref a15, .ref a16, .ref a17])), (a1, .inl (cy 1, 1868, .inl (upd (upd (upd (fun _ => 0) 1 2) 2 20) 3 120)))] _ _ := w
  refine r_top (g2 := F0 m 17 ls [.int 1]) rfl ?_
  exact r_iret C w hlocks () hr rfl rfl trivial [0, 1] rfl rfl ⟨Nat.le_of_ble_eq_true rfl, Nat.le_of_ble_eq_true rfl⟩ dX12_areSpeakers_17
set_option maxRecDepth 100000 in
set_option maxHeartbeats 4000000 in
theorem c_X12_areSpeakers_2 (l : Launch) (D : va_G) (cy : Nat → ClassId) (a0 a1 a2 a3 a4 a5 a6 a7 a8 a9 a10 a11 a12 a13 a14 a15 a16 a17 : Nat) (x0 : Int32) (k0 : ¬ x0 < 0) (k1 : 0 < x0) : Ct l D cy yX12_areSpeakers cX12_areSpeakers 2 (some .boolean) 1 25 0 0 [(a0, .inr (12, [.ref a1, .ref a2, .ref a3, .ref a4, .ref a5, .int 0, .ref a6, .int 0, .int 0, .int 0, .int 0, .int 0, .int 0, .int 0, .int 0, .int 0, .int 0, .int (-1), .ref a7, .ref a8, .int 190, .ref a9, .int 0, .ref a10, .ref a11, .ref a12, .ref a13, .ref a14, .int 0, .ref a15, .ref a16, .ref a17])), (a1, .inl (cy 1, 1868, .inl (upd (upd (upd (fun _ => 0) 1 2) 2 20) 3 120)))] [.ref a0, .int x0] (fun u : Unit => some (.int 0)) (fun _ => True) (fun u : Unit => [(a0, .inr (12, [.ref a1, .ref a2, .ref a3, .ref a4, .ref a5, .int 0, .ref a6, .int 0, .int 0, .int 0, .int 0, .int 0, .int 0, .int 0, .int 0, .int 0, .int 0, .int (-1), .ref a7, .ref a8, .int 190, .ref a9, .int 0, .ref a10, .ref a11, .ref a12, .ref a13, .ref a14, .int 0, .ref a15, .ref a16, .ref a17])), (a1, .inl (cy 1, 1868, .inl (upd (upd (upd (fun _ => 0) 1 2) 2 20) 3 120)))]) := by
  refine Ct.of (by decide +kernel) (Nat.le_of_ble_eq_true rfl) ?_
  intro p e s m args below meth c A ls C hr hlocks hml hnm w hl
  have hl : lv_has ls 2 [(0, .ref a0), (1, .int x0)] := hl
  refine lv_iload_n C.1 C.2.1 dX12_areSpeakers_0 rfl (lv_at hl 1 rfl) ?_
  refine lv_i2l (v := (Int32.toInt64 x0)) C.1 C.2.1 dX12_areSpeakers_1 rfl ?_
  refine lv_lconst (v := 0) C.1 C.2.1 dX12_areSpeakers_2 (by decide) ?_
  refine lv_iconst (v := 1) C.1 C.2.1 dX12_areSpeakers_3 (by decide) ?_
  refine lv_aload_n C.1 C.2.1 dX12_areSpeakers_4 rfl (lv_at hl 0 rfl) ?_
  refine r_get C w 0 rfl rfl 0 (by decide) fl_RX12_9 (v := .ref a1) rfl dX12_areSpeakers_5 ?_
  refine lv_iconst (v := 5) C.1 C.2.1 dX12_areSpeakers_8 (by decide) ?_
  refine r_iald C w 1 rfl (v := 0) (vinD (by decide)) rfl dX12_areSpeakers_9 ?_
  refine r_ishl C (v := 1) dX12_areSpeakers_10 (by decide) ?_
  refine lv_iconst (v := 1) C.1 C.2.1 dX12_areSpeakers_11 (by decide) ?_
  refine r_isub C (v := 0) dX12_areSpeakers_12 (by decide) ?_
  refine lv_i2l (v := 0) C.1 C.2.1 dX12_areSpeakers_13 (by decide) ?_
  refine r_callS C w fs_RX12_133 (c_X12_within_1 l D cy x0 k0 k1) (hl.1.trans hml.symm) [] [0, 1] (wr := [(a0, .inr (12, [.ref a1, .ref a2, .ref a3, .ref a4, .ref a5, .int 0, .ref a6, .int 0, .int 0, .int 0, .int 0, .int 0, .int 0, .int 0, .int 0, .int 0, .int 0, .int (-1), .ref a7, .ref a8, .int 190, .ref a9, .int 0, .ref a10, .ref a11, .ref a12, .ref a13, .ref a14, .int 0, .ref a15, .ref a16, .ref a17])), (a1, .inl (cy 1, 1868, .inl (upd (upd (upd (fun _ => 0) 1 2) 2 20) 3 120)))]) ⟨rfl, rfl, rfl, rfl, by decide⟩ rfl rfl ⟨Nat.le_of_ble_eq_true rfl, Nat.le_of_ble_eq_true rfl, Nat.le_of_ble_eq_true rfl⟩ 0 0 ⟨rfl, rfl, Nat.le_of_ble_eq_true rfl, Nat.le_of_ble_eq_true rfl⟩ dX12_areSpeakers_14 (fun u H locs hp w => ?_)
  have w : Wd D A s.heap [(a0, .inr (12, [.ref a1, .ref a2, .ref a3, .ref a4, .ref a5, .int 0, .ref a6, .int 0, .int 0, .int 0, .int 0, .int 0, .int 0, .int 0, .int 0, .int 0, .int 0, .int (-1), .ref a7, .ref a8, .int 190, .ref a9, .int 0, .ref a10, .ref a11, .ref a12, .ref a13, .ref a14, .int 0, .ref a15, .ref a16, .ref a17])), (a1, .inl (cy 1, 1868, .inl (upd (upd (upd (fun _ => 0) 1 2) 2 20) 3 120)))] _ _ := w
  refine r_top (g2 := F0 m 17 ls [.int 0]) rfl ?_
  exact r_iret C w hlocks () hr rfl rfl trivial [0, 1] rfl rfl ⟨Nat.le_of_ble_eq_true rfl, Nat.le_of_ble_eq_true rfl⟩ dX12_areSpeakers_17
theorem fv_RX12_380 : FV RX12 380 yX12_areSpeakers cX12_areSpeakers 2 (some .boolean) 1 := ⟨⟨gw_mem (by decide +kernel) (by decide +kernel), gw_mem (by decide +kernel) (by decide +kernel), gw_mem (by decide +kernel) (by decide +kernel), gw_mem (by decide +kernel) (by decide +kernel), gw_mem (by decide +kernel) (by decide +kernel)⟩, ⟨by decide +kernel, by decide +kernel, by decide +kernel⟩⟩
theorem dX12_soonest_18 : decode cX12_soonest 18 = .ok (.ifCond .eq 15, 3) := by decide +kernel
theorem dX12_soonest_33 : decode cX12_soonest 33 = .ok (.iconst 2, 1) := by decide +kernel
set_option maxRecDepth 100000 in
set_option maxHeartbeats 4000000 in
theorem c_X12_soonest_2 (l : Launch) (D : va_G) (cy : Nat → ClassId) (a0 a1 a2 a3 a4 a5 a6 a7 a8 a9 a10 a11 a12 a13 a14 a15 a16 a17 : Nat) (x0 : Int32) (x1 : Int32) (x2 : Int32) (x3 : Int32) (k0 : ¬ x0 < 0) (k1 : ¬ 189 < x0) (k2 : x1 < 0) : Ct l D cy yX12_soonest cX12_soonest 6 (some .int) 2 46 0 0 [(a0, .inr (12, [.ref a1, .ref a2, .ref a3, .ref a4, .ref a5, .int 0, .ref a6, .int 0, .int 0, .int 0, .int 0, .int 0, .int 0, .int 0, .int 0, .int 0, .int 0, .int (-1), .ref a7, .ref a8, .int 0, .ref a9, .int 0, .ref a10, .ref a11, .ref a12, .ref a13, .ref a14, .int 0, .ref a15, .ref a16, .ref a17])), (a1, .inl (cy 1, 1868, .inl (upd (upd (upd (fun _ => 0) 1 2) 2 20) 3 120))), (a7, .inl (cy 1, 1830, .inl (fun _ => 0))), (a8, .inl (cy 1, 1830, .inl (fun _ => 0)))] [.ref a0, .int x0, .int x1, .int x2, .int x3] (fun u : Unit => some (.int 0)) (fun _ => True) (fun u : Unit => [(a7, .inl (cy 1, 1830, .inl (lxF (fun _ => 0) 2 20 (PP 20 2 (20 + 1 - 2))))), (a8, .inl (cy 1, 1830, .inl (lyF (fun _ => 0) 2 20 (PP 20 2 (20 + 1 - 2))))), (a0, .inr (12, [.ref a1, .ref a2, .ref a3, .ref a4, .ref a5, .int 2, .ref a6, .int 0, .int 0, .int 0, .int 0, .int 0, .int 0, .int 0, .int 0, .int 0, .int 0, .int (-1), .ref a7, .ref a8, .int 190, .ref a9, .int 0, .ref a10, .ref a11, .ref a12, .ref a13, .ref a14, .int 0, .ref a15, .ref a16, .ref a17])), (a1, .inl (cy 1, 1868, .inl (upd (upd (upd (fun _ => 0) 1 2) 2 20) 3 120)))]) := by
  refine Ct.of (by decide +kernel) (Nat.le_of_ble_eq_true rfl) ?_
  intro p e s m args below meth c A ls C hr hlocks hml hnm w hl
  have hl : lv_has ls 6 [(0, .ref a0), (1, .int x0), (2, .int x1), (3, .int x2), (4, .int x3)] := hl
  refine lv_aload_n C.1 C.2.1 dX12_soonest_0 rfl (lv_at hl 0 rfl) ?_
  refine lv_aload_n C.1 C.2.1 dX12_soonest_1 rfl (lv_at hl 0 rfl) ?_
  refine lv_iload_n C.1 C.2.1 dX12_soonest_2 rfl (lv_at hl 1 rfl) ?_
  refine r_callV C w fv_RX12_256 (c_X12_isWorld_1 l D cy a0 a1 a2 a3 a4 a5 a6 a7 a8 a9 a10 a11 a12 a13 a14 a15 a16 a17 x0 k0 k1) (hl.1.trans hml.symm) [0, 1, 2, 3] [] (wr := []) ⟨rfl, rfl, rfl, rfl, by decide⟩ 0 rfl rfl rfl rfl rfl ⟨Nat.le_of_ble_eq_true rfl, Nat.le_of_ble_eq_true rfl, Nat.le_of_ble_eq_true rfl⟩ 0 0 ⟨rfl, rfl, Nat.le_of_ble_eq_true rfl, Nat.le_of_ble_eq_true rfl⟩ dX12_soonest_3 (fun u H locs hp w => ?_)
  have w : Wd D A s.heap [(a0, .inr (12, [.ref a1, .ref a2, .ref a3, .ref a4, .ref a5, .int 0, .ref a6, .int 0, .int 0, .int 0, .int 0, .int 0, .int 0, .int 0, .int 0, .int 0, .int 0, .int (-1), .ref a7, .ref a8, .int 190, .ref a9, .int 0, .ref a10, .ref a11, .ref a12, .ref a13, .ref a14, .int 0, .ref a15, .ref a16, .ref a17])), (a1, .inl (cy 1, 1868, .inl (upd (upd (upd (fun _ => 0) 1 2) 2 20) 3 120))), (a7, .inl (cy 1, 1830, .inl (lxF (fun _ => 0) 2 20 (PP 20 2 (20 + 1 - 2))))), (a8, .inl (cy 1, 1830, .inl (lyF (fun _ => 0) 2 20 (PP 20 2 (20 + 1 - 2)))))] _ _ := w
  refine r_top (g2 := F0 m 6 ls [.int 1, .ref a0]) rfl ?_
  refine b_if_ne_t C (tgt := 13) dX12_soonest_6 (by decide) (by decide) ?_
  refine lv_aload_n C.1 C.2.1 dX12_soonest_13 rfl (lv_at hl 0 rfl) ?_
  refine lv_iload_n C.1 C.2.1 dX12_soonest_14 rfl (lv_at hl 2 rfl) ?_
  refine r_callV C w fv_RX12_380 (c_X12_areSpeakers_0 l D cy a0 a1 a2 a3 a4 a5 a6 a7 a8 a9 a10 a11 a12 a13 a14 a15 a16 a17 x1 k2) (hl.1.trans hml.symm) [0, 1] [2, 3] (wr := [(a7, .inl (cy 1, 1830, .inl (lxF (fun _ => 0) 2 20 (PP 20 2 (20 + 1 - 2))))), (a8, .inl (cy 1, 1830, .inl (lyF (fun _ => 0) 2 20 (PP 20 2 (20 + 1 - 2)))))]) ⟨rfl, rfl, rfl, rfl, by decide⟩ 0 rfl rfl rfl rfl rfl ⟨Nat.le_of_ble_eq_true rfl, Nat.le_of_ble_eq_true rfl, Nat.le_of_ble_eq_true rfl⟩ 0 0 ⟨rfl, rfl, Nat.le_of_ble_eq_true rfl, Nat.le_of_ble_eq_true rfl⟩ dX12_soonest_15 (fun u H locs hp w => ?_)
  have w : Wd D A s.heap [(a7, .inl (cy 1, 1830, .inl (lxF (fun _ => 0) 2 20 (PP 20 2 (20 + 1 - 2))))), (a8, .inl (cy 1, 1830, .inl (lyF (fun _ => 0) 2 20 (PP 20 2 (20 + 1 - 2))))), (a0, .inr (12, [.ref a1, .ref a2, .ref a3, .ref a4, .ref a5, .int 0, .ref a6, .int 0, .int 0, .int 0, .int 0, .int 0, .int 0, .int 0, .int 0, .int 0, .int 0, .int (-1), .ref a7, .ref a8, .int 190, .ref a9, .int 0, .ref a10, .ref a11, .ref a12, .ref a13, .ref a14, .int 0, .ref a15, .ref a16, .ref a17])), (a1, .inl (cy 1, 1868, .inl (upd (upd (upd (fun _ => 0) 1 2) 2 20) 3 120)))] _ _ := w
  refine r_top (g2 := F0 m 18 ls [.int 0, .ref a0]) rfl ?_
  refine b_if_eq_t C (tgt := 33) dX12_soonest_18 (by decide) (by decide) ?_
  refine lv_iconst (v := 2) C.1 C.2.1 dX12_soonest_33 (by decide) ?_
  refine r_put C w 2 rfl rfl 5 (by decide) fl_RX12_71 rfl (ty := .int) (tyX12_ok 5 (by decide)) rfl rfl (Nat.le_of_ble_eq_true rfl) [(a7, .inl (cy 1, 1830, .inl (lxF (fun _ => 0) 2 20 (PP 20 2 (20 + 1 - 2))))), (a8, .inl (cy 1, 1830, .inl (lyF (fun _ => 0) 2 20 (PP 20 2 (20 + 1 - 2))))), (a0, .inr (12, [.ref a1, .ref a2, .ref a3, .ref a4, .ref a5, .int 2, .ref a6, .int 0, .int 0, .int 0, .int 0, .int 0, .int 0, .int 0, .int 0, .int 0, .int 0, .int (-1), .ref a7, .ref a8, .int 190, .ref a9, .int 0, .ref a10, .ref a11, .ref a12, .ref a13, .ref a14, .int 0, .ref a15, .ref a16, .ref a17])), (a1, .inl (cy 1, 1868, .inl (upd (upd (upd (fun _ => 0) 1 2) 2 20) 3 120)))] rfl dX12_soonest_34 (fun H locs w => ?_)
  refine lv_aload_n C.1 C.2.1 dX12_soonest_37 rfl (lv_at hl 0 rfl) ?_
  refine r_get C w 2 rfl rfl 5 (by decide) fl_RX12_71 (v := .int 2) rfl dX12_soonest_38 ?_
  refine b_if_le_f C (tgt := 46) dX12_soonest_41 (by decide) (by decide) ?_
  refine lv_iconst (v := 0) C.1 C.2.1 dX12_soonest_44 (by decide) ?_
  exact r_iret C w hlocks () hr rfl rfl trivial [0, 1, 2, 3] rfl rfl ⟨Nat.le_of_ble_eq_true rfl, Nat.le_of_ble_eq_true rfl⟩ dX12_soonest_45
set_option maxRecDepth 100000 in
set_option maxHeartbeats 4000000 in
theorem c_X12_soonest_3 (l : Launch) (D : va_G) (cy : Nat → ClassId) (a0 a1 a2 a3 a4 a5 a6 a7 a8 a9 a10 a11 a12 a13 a14 a15 a16 a17 : Nat) (x0 : Int32) (x1 : Int32) (x2 : Int32) (x3 : Int32) (k0 : ¬ x0 < 0) (k1 : ¬ 189 < x0) (k2 : ¬ x1 < 0) (k3 : 0 < x1) : Ct l D cy yX12_soonest cX12_soonest 6 (some .int) 2 46 0 0 [(a0, .inr (12, [.ref a1, .ref a2, .ref a3, .ref a4, .ref a5, .int 0, .ref a6, .int 0, .int 0, .int 0, .int 0, .int 0, .int 0, .int 0, .int 0, .int 0, .int 0, .int (-1), .ref a7, .ref a8, .int 0, .ref a9, .int 0, .ref a10, .ref a11, .ref a12, .ref a13, .ref a14, .int 0, .ref a15, .ref a16, .ref a17])), (a1, .inl (cy 1, 1868, .inl (upd (upd (upd (fun _ => 0) 1 2) 2 20) 3 120))), (a7, .inl (cy 1, 1830, .inl (fun _ => 0))), (a8, .inl (cy 1, 1830, .inl (fun _ => 0)))] [.ref a0, .int x0, .int x1, .int x2, .int x3] (fun u : Unit => some (.int 0)) (fun _ => True) (fun u : Unit => [(a7, .inl (cy 1, 1830, .inl (lxF (fun _ => 0) 2 20 (PP 20 2 (20 + 1 - 2))))), (a8, .inl (cy 1, 1830, .inl (lyF (fun _ => 0) 2 20 (PP 20 2 (20 + 1 - 2))))), (a0, .inr (12, [.ref a1, .ref a2, .ref a3, .ref a4, .ref a5, .int 2, .ref a6, .int 0, .int 0, .int 0, .int 0, .int 0, .int 0, .int 0, .int 0, .int 0, .int 0, .int (-1), .ref a7, .ref a8, .int 190, .ref a9, .int 0, .ref a10, .ref a11, .ref a12, .ref a13, .ref a14, .int 0, .ref a15, .ref a16, .ref a17])), (a1, .inl (cy 1, 1868, .inl (upd (upd (upd (fun _ => 0) 1 2) 2 20) 3 120)))]) := by
  refine Ct.of (by decide +kernel) (Nat.le_of_ble_eq_true rfl) ?_
  intro p e s m args below meth c A ls C hr hlocks hml hnm w hl
  have hl : lv_has ls 6 [(0, .ref a0), (1, .int x0), (2, .int x1), (3, .int x2), (4, .int x3)] := hl
  refine lv_aload_n C.1 C.2.1 dX12_soonest_0 rfl (lv_at hl 0 rfl) ?_
  refine lv_aload_n C.1 C.2.1 dX12_soonest_1 rfl (lv_at hl 0 rfl) ?_
  refine lv_iload_n C.1 C.2.1 dX12_soonest_2 rfl (lv_at hl 1 rfl) ?_
  refine r_callV C w fv_RX12_256 (c_X12_isWorld_1 l D cy a0 a1 a2 a3 a4 a5 a6 a7 a8 a9 a10 a11 a12 a13 a14 a15 a16 a17 x0 k0 k1) (hl.1.trans hml.symm) [0, 1, 2, 3] [] (wr := []) ⟨rfl, rfl, rfl, rfl, by decide⟩ 0 rfl rfl rfl rfl rfl ⟨Nat.le_of_ble_eq_true rfl, Nat.le_of_ble_eq_true rfl, Nat.le_of_ble_eq_true rfl⟩ 0 0 ⟨rfl, rfl, Nat.le_of_ble_eq_true rfl, Nat.le_of_ble_eq_true rfl⟩ dX12_soonest_3 (fun u H locs hp w => ?_)
  have w : Wd D A s.heap [(a0, .inr (12, [.ref a1, .ref a2, .ref a3, .ref a4, .ref a5, .int 0, .ref a6, .int 0, .int 0, .int 0, .int 0, .int 0, .int 0, .int 0, .int 0, .int 0, .int 0, .int (-1), .ref a7, .ref a8, .int 190, .ref a9, .int 0, .ref a10, .ref a11, .ref a12, .ref a13, .ref a14, .int 0, .ref a15, .ref a16, .ref a17])), (a1, .inl (cy 1, 1868, .inl (upd (upd (upd (fun _ => 0) 1 2) 2 20) 3 120))), (a7, .inl (cy 1, 1830, .inl (lxF (fun _ => 0) 2 20 (PP 20 2 (20 + 1 - 2))))), (a8, .inl (cy 1, 1830, .inl (lyF (fun _ => 0) 2 20 (PP 20 2 (20 + 1 - 2)))))] _ _ := w
  refine r_top (g2 := F0 m 6 ls [.int 1, .ref a0]) rfl ?_
  refine b_if_ne_t C (tgt := 13) dX12_soonest_6 (by decide) (by decide) ?_
  refine lv_aload_n C.1 C.2.1 dX12_soonest_13 rfl (lv_at hl 0 rfl) ?_
  refine lv_iload_n C.1 C.2.1 dX12_soonest_14 rfl (lv_at hl 2 rfl) ?_
  refine r_callV C w fv_RX12_380 (c_X12_areSpeakers_2 l D cy a0 a1 a2 a3 a4 a5 a6 a7 a8 a9 a10 a11 a12 a13 a14 a15 a16 a17 x1 k2 k3) (hl.1.trans hml.symm) [0, 1] [2, 3] (wr := [(a7, .inl (cy 1, 1830, .inl (lxF (fun _ => 0) 2 20 (PP 20 2 (20 + 1 - 2))))), (a8, .inl (cy 1, 1830, .inl (lyF (fun _ => 0) 2 20 (PP 20 2 (20 + 1 - 2)))))]) ⟨rfl, rfl, rfl, rfl, by decide⟩ 0 rfl rfl rfl rfl rfl ⟨Nat.le_of_ble_eq_true rfl, Nat.le_of_ble_eq_true rfl, Nat.le_of_ble_eq_true rfl⟩ 0 0 ⟨rfl, rfl, Nat.le_of_ble_eq_true rfl, Nat.le_of_ble_eq_true rfl⟩ dX12_soonest_15 (fun u H locs hp w => ?_)
  have w : Wd D A s.heap [(a7, .inl (cy 1, 1830, .inl (lxF (fun _ => 0) 2 20 (PP 20 2 (20 + 1 - 2))))), (a8, .inl (cy 1, 1830, .inl (lyF (fun _ => 0) 2 20 (PP 20 2 (20 + 1 - 2))))), (a0, .inr (12, [.ref a1, .ref a2, .ref a3, .ref a4, .ref a5, .int 0, .ref a6, .int 0, .int 0, .int 0, .int 0, .int 0, .int 0, .int 0, .int 0, .int 0, .int 0, .int (-1), .ref a7, .ref a8, .int 190, .ref a9, .int 0, .ref a10, .ref a11, .ref a12, .ref a13, .ref a14, .int 0, .ref a15, .ref a16, .ref a17])), (a1, .inl (cy 1, 1868, .inl (upd (upd (upd (fun _ => 0) 1 2) 2 20) 3 120)))] _ _ := w
  refine r_top (g2 := F0 m 18 ls [.int 0, .ref a0]) rfl ?_
  refine b_if_eq_t C (tgt := 33) dX12_soonest_18 (by decide) (by decide) ?_
  refine lv_iconst (v := 2) C.1 C.2.1 dX12_soonest_33 (by decide) ?_
  refine r_put C w 2 rfl rfl 5 (by decide) fl_RX12_71 rfl (ty := .int) (tyX12_ok 5 (by decide)) rfl rfl (Nat.le_of_ble_eq_true rfl) [(a7, .inl (cy 1, 1830, .inl (lxF (fun _ => 0) 2 20 (PP 20 2 (20 + 1 - 2))))), (a8, .inl (cy 1, 1830, .inl (lyF (fun _ => 0) 2 20 (PP 20 2 (20 + 1 - 2))))), (a0, .inr (12, [.ref a1, .ref a2, .ref a3, .ref a4, .ref a5, .int 2, .ref a6, .int 0, .int 0, .int 0, .int 0, .int 0, .int 0, .int 0, .int 0, .int 0, .int 0, .int (-1), .ref a7, .ref a8, .int 190, .ref a9, .int 0, .ref a10, .ref a11, .ref a12, .ref a13, .ref a14, .int 0, .ref a15, .ref a16, .ref a17])), (a1, .inl (cy 1, 1868, .inl (upd (upd (upd (fun _ => 0) 1 2) 2 20) 3 120)))] rfl dX12_soonest_34 (fun H locs w => ?_)
  refine lv_aload_n C.1 C.2.1 dX12_soonest_37 rfl (lv_at hl 0 rfl) ?_
  refine r_get C w 2 rfl rfl 5 (by decide) fl_RX12_71 (v := .int 2) rfl dX12_soonest_38 ?_
  refine b_if_le_f C (tgt := 46) dX12_soonest_41 (by decide) (by decide) ?_
  refine lv_iconst (v := 0) C.1 C.2.1 dX12_soonest_44 (by decide) ?_
  exact r_iret C w hlocks () hr rfl rfl trivial [0, 1, 2, 3] rfl rfl ⟨Nat.le_of_ble_eq_true rfl, Nat.le_of_ble_eq_true rfl⟩ dX12_soonest_45
set_option maxRecDepth 100000 in
set_option maxHeartbeats 4000000 in
theorem c_X12_areSpeakers_3 (l : Launch) (D : va_G) (cy : Nat → ClassId) (a0 a1 a2 a3 a4 a5 a6 a7 a8 a9 a10 a11 a12 a13 a14 a15 a16 a17 : Nat) : Ct l D cy yX12_areSpeakers cX12_areSpeakers 2 (some .boolean) 1 25 0 0 [(a0, .inr (12, [.ref a1, .ref a2, .ref a3, .ref a4, .ref a5, .int 0, .ref a6, .int 0, .int 0, .int 0, .int 0, .int 0, .int 0, .int 0, .int 0, .int 0, .int 0, .int (-1), .ref a7, .ref a8, .int 190, .ref a9, .int 0, .ref a10, .ref a11, .ref a12, .ref a13, .ref a14, .int 0, .ref a15, .ref a16, .ref a17])), (a1, .inl (cy 1, 1868, .inl (upd (upd (upd (fun _ => 0) 1 2) 2 20) 3 120)))] [.ref a0, .int 0] (fun u : Unit => some (.int 1)) (fun _ => True) (fun u : Unit => [(a0, .inr (12, [.ref a1, .ref a2, .ref a3, .ref a4, .ref a5, .int 0, .ref a6, .int 0, .int 0, .int 0, .int 0, .int 0, .int 0, .int 0, .int 0, .int 0, .int 0, .int (-1), .ref a7, .ref a8, .int 190, .ref a9, .int 0, .ref a10, .ref a11, .ref a12, .ref a13, .ref a14, .int 0, .ref a15, .ref a16, .ref a17])), (a1, .inl (cy 1, 1868, .inl (upd (upd (upd (fun _ => 0) 1 2) 2 20) 3 120)))]) := by
  refine Ct.of (by decide +kernel) (Nat.le_of_ble_eq_true rfl) ?_
  intro p e s m args below meth c A ls C hr hlocks hml hnm w hl
  have hl : lv_has ls 2 [(0, .ref a0), (1, .int 0)] := hl
  refine lv_iload_n C.1 C.2.1 dX12_areSpeakers_0 rfl (lv_at hl 1 rfl) ?_
  refine lv_i2l (v := 0) C.1 C.2.1 dX12_areSpeakers_1 (by decide) ?_
  refine lv_lconst (v := 0) C.1 C.2.1 dX12_areSpeakers_2 (by decide) ?_
  refine lv_iconst (v := 1) C.1 C.2.1 dX12_areSpeakers_3 (by decide) ?_
  refine lv_aload_n C.1 C.2.1 dX12_areSpeakers_4 rfl (lv_at hl 0 rfl) ?_
  refine r_get C w 0 rfl rfl 0 (by decide) fl_RX12_9 (v := .ref a1) rfl dX12_areSpeakers_5 ?_
  refine lv_iconst (v := 5) C.1 C.2.1 dX12_areSpeakers_8 (by decide) ?_
  refine r_iald C w 1 rfl (v := 0) (vinD (by decide)) rfl dX12_areSpeakers_9 ?_
  refine r_ishl C (v := 1) dX12_areSpeakers_10 (by decide) ?_
  refine lv_iconst (v := 1) C.1 C.2.1 dX12_areSpeakers_11 (by decide) ?_
  refine r_isub C (v := 0) dX12_areSpeakers_12 (by decide) ?_
  refine lv_i2l (v := 0) C.1 C.2.1 dX12_areSpeakers_13 (by decide) ?_
  refine r_callS C w fs_RX12_133 (c_X12_within_3 l D cy) (hl.1.trans hml.symm) [] [0, 1] (wr := [(a0, .inr (12, [.ref a1, .ref a2, .ref a3, .ref a4, .ref a5, .int 0, .ref a6, .int 0, .int 0, .int 0, .int 0, .int 0, .int 0, .int 0, .int 0, .int 0, .int 0, .int (-1), .ref a7, .ref a8, .int 190, .ref a9, .int 0, .ref a10, .ref a11, .ref a12, .ref a13, .ref a14, .int 0, .ref a15, .ref a16, .ref a17])), (a1, .inl (cy 1, 1868, .inl (upd (upd (upd (fun _ => 0) 1 2) 2 20) 3 120)))]) ⟨rfl, rfl, rfl, rfl, by decide⟩ rfl rfl ⟨Nat.le_of_ble_eq_true rfl, Nat.le_of_ble_eq_true rfl, Nat.le_of_ble_eq_true rfl⟩ 0 0 ⟨rfl, rfl, Nat.le_of_ble_eq_true rfl, Nat.le_of_ble_eq_true rfl⟩ dX12_areSpeakers_14 (fun u H locs hp w => ?_)
  have w : Wd D A s.heap [(a0, .inr (12, [.ref a1, .ref a2, .ref a3, .ref a4, .ref a5, .int 0, .ref a6, .int 0, .int 0, .int 0, .int 0, .int 0, .int 0, .int 0, .int 0, .int 0, .int 0, .int (-1), .ref a7, .ref a8, .int 190, .ref a9, .int 0, .ref a10, .ref a11, .ref a12, .ref a13, .ref a14, .int 0, .ref a15, .ref a16, .ref a17])), (a1, .inl (cy 1, 1868, .inl (upd (upd (upd (fun _ => 0) 1 2) 2 20) 3 120)))] _ _ := w
  refine r_top (g2 := F0 m 17 ls [.int 1]) rfl ?_
  exact r_iret C w hlocks () hr rfl rfl trivial [0, 1] rfl rfl ⟨Nat.le_of_ble_eq_true rfl, Nat.le_of_ble_eq_true rfl⟩ dX12_areSpeakers_17
theorem dX12_soonest_21 : decode cX12_soonest 21 = .ok (.aload_n 0, 1) := by decide +kernel
theorem dX12_soonest_22 : decode cX12_soonest 22 = .ok (.iload_n 3, 1) := by decide +kernel
theorem dX12_soonest_23 : decode cX12_soonest 23 = .ok (.invokevirtual 380, 3) := by decide +kernel
theorem dX12_soonest_26 : decode cX12_soonest 26 = .ok (.ifCond .eq 7, 3) := by decide +kernel
set_option maxRecDepth 100000 in
set_option maxHeartbeats 4000000 in
theorem c_X12_soonest_4 (l : Launch) (D : va_G) (cy : Nat → ClassId) (a0 a1 a2 a3 a4 a5 a6 a7 a8 a9 a10 a11 a12 a13 a14 a15 a16 a17 : Nat) (x0 : Int32) (x2 : Int32) (x3 : Int32) (k0 : ¬ x0 < 0) (k1 : ¬ 189 < x0) (k2 : x2 < 0) : Ct l D cy yX12_soonest cX12_soonest 6 (some .int) 2 46 0 0 [(a0, .inr (12, [.ref a1, .ref a2, .ref a3, .ref a4, .ref a5, .int 0, .ref a6, .int 0, .int 0, .int 0, .int 0, .int 0, .int 0, .int 0, .int 0, .int 0, .int 0, .int (-1), .ref a7, .ref a8, .int 0, .ref a9, .int 0, .ref a10, .ref a11, .ref a12, .ref a13, .ref a14, .int 0, .ref a15, .ref a16, .ref a17])), (a1, .inl (cy 1, 1868, .inl (upd (upd (upd (fun _ => 0) 1 2) 2 20) 3 120))), (a7, .inl (cy 1, 1830, .inl (fun _ => 0))), (a8, .inl (cy 1, 1830, .inl (fun _ => 0)))] [.ref a0, .int x0, .int 0, .int x2, .int x3] (fun u : Unit => some (.int 0)) (fun _ => True) (fun u : Unit => [(a7, .inl (cy 1, 1830, .inl (lxF (fun _ => 0) 2 20 (PP 20 2 (20 + 1 - 2))))), (a8, .inl (cy 1, 1830, .inl (lyF (fun _ => 0) 2 20 (PP 20 2 (20 + 1 - 2))))), (a0, .inr (12, [.ref a1, .ref a2, .ref a3, .ref a4, .ref a5, .int 2, .ref a6, .int 0, .int 0, .int 0, .int 0, .int 0, .int 0, .int 0, .int 0, .int 0, .int 0, .int (-1), .ref a7, .ref a8, .int 190, .ref a9, .int 0, .ref a10, .ref a11, .ref a12, .ref a13, .ref a14, .int 0, .ref a15, .ref a16, .ref a17])), (a1, .inl (cy 1, 1868, .inl (upd (upd (upd (fun _ => 0) 1 2) 2 20) 3 120)))]) := by
  refine Ct.of (by decide +kernel) (Nat.le_of_ble_eq_true rfl) ?_
  intro p e s m args below meth c A ls C hr hlocks hml hnm w hl
  have hl : lv_has ls 6 [(0, .ref a0), (1, .int x0), (2, .int 0), (3, .int x2), (4, .int x3)] := hl
  refine lv_aload_n C.1 C.2.1 dX12_soonest_0 rfl (lv_at hl 0 rfl) ?_
  refine lv_aload_n C.1 C.2.1 dX12_soonest_1 rfl (lv_at hl 0 rfl) ?_
  refine lv_iload_n C.1 C.2.1 dX12_soonest_2 rfl (lv_at hl 1 rfl) ?_
  refine r_callV C w fv_RX12_256 (c_X12_isWorld_1 l D cy a0 a1 a2 a3 a4 a5 a6 a7 a8 a9 a10 a11 a12 a13 a14 a15 a16 a17 x0 k0 k1) (hl.1.trans hml.symm) [0, 1, 2, 3] [] (wr := []) ⟨rfl, rfl, rfl, rfl, by decide⟩ 0 rfl rfl rfl rfl rfl ⟨Nat.le_of_ble_eq_true rfl, Nat.le_of_ble_eq_true rfl, Nat.le_of_ble_eq_true rfl⟩ 0 0 ⟨rfl, rfl, Nat.le_of_ble_eq_true rfl, Nat.le_of_ble_eq_true rfl⟩ dX12_soonest_3 (fun u H locs hp w => ?_)
  have w : Wd D A s.heap [(a0, .inr (12, [.ref a1, .ref a2, .ref a3, .ref a4, .ref a5, .int 0, .ref a6, .int 0, .int 0, .int 0, .int 0, .int 0, .int 0, .int 0, .int 0, .int 0, .int 0, .int (-1), .ref a7, .ref a8, .int 190, .ref a9, .int 0, .ref a10, .ref a11, .ref a12, .ref a13, .ref a14, .int 0, .ref a15, .ref a16, .ref a17])), (a1, .inl (cy 1, 1868, .inl (upd (upd (upd (fun _ => 0) 1 2) 2 20) 3 120))), (a7, .inl (cy 1, 1830, .inl (lxF (fun _ => 0) 2 20 (PP 20 2 (20 + 1 - 2))))), (a8, .inl (cy 1, 1830, .inl (lyF (fun _ => 0) 2 20 (PP 20 2 (20 + 1 - 2)))))] _ _ := w
  refine r_top (g2 := F0 m 6 ls [.int 1, .ref a0]) rfl ?_
  refine b_if_ne_t C (tgt := 13) dX12_soonest_6 (by decide) (by decide) ?_
  refine lv_aload_n C.1 C.2.1 dX12_soonest_13 rfl (lv_at hl 0 rfl) ?_
  refine lv_iload_n C.1 C.2.1 dX12_soonest_14 rfl (lv_at hl 2 rfl) ?_
  refine r_callV C w fv_RX12_380 (c_X12_areSpeakers_3 l D cy a0 a1 a2 a3 a4 a5 a6 a7 a8 a9 a10 a11 a12 a13 a14 a15 a16 a17) (hl.1.trans hml.symm) [0, 1] [2, 3] (wr := [(a7, .inl (cy 1, 1830, .inl (lxF (fun _ => 0) 2 20 (PP 20 2 (20 + 1 - 2))))), (a8, .inl (cy 1, 1830, .inl (lyF (fun _ => 0) 2 20 (PP 20 2 (20 + 1 - 2)))))]) ⟨rfl, rfl, rfl, rfl, by decide⟩ 0 rfl rfl rfl rfl rfl ⟨Nat.le_of_ble_eq_true rfl, Nat.le_of_ble_eq_true rfl, Nat.le_of_ble_eq_true rfl⟩ 0 0 ⟨rfl, rfl, Nat.le_of_ble_eq_true rfl, Nat.le_of_ble_eq_true rfl⟩ dX12_soonest_15 (fun u H locs hp w => ?_)
  have w : Wd D A s.heap [(a7, .inl (cy 1, 1830, .inl (lxF (fun _ => 0) 2 20 (PP 20 2 (20 + 1 - 2))))), (a8, .inl (cy 1, 1830, .inl (lyF (fun _ => 0) 2 20 (PP 20 2 (20 + 1 - 2))))), (a0, .inr (12, [.ref a1, .ref a2, .ref a3, .ref a4, .ref a5, .int 0, .ref a6, .int 0, .int 0, .int 0, .int 0, .int 0, .int 0, .int 0, .int 0, .int 0, .int 0, .int (-1), .ref a7, .ref a8, .int 190, .ref a9, .int 0, .ref a10, .ref a11, .ref a12, .ref a13, .ref a14, .int 0, .ref a15, .ref a16, .ref a17])), (a1, .inl (cy 1, 1868, .inl (upd (upd (upd (fun _ => 0) 1 2) 2 20) 3 120)))] _ _ := w
  refine r_top (g2 := F0 m 18 ls [.int 1, .ref a0]) rfl ?_
  refine b_if_eq_f C (tgt := 33) dX12_soonest_18 (by decide) (by decide) ?_
  refine lv_aload_n C.1 C.2.1 dX12_soonest_21 rfl (lv_at hl 0 rfl) ?_
  refine lv_iload_n C.1 C.2.1 dX12_soonest_22 rfl (lv_at hl 3 rfl) ?_
  refine r_callV C w fv_RX12_380 (c_X12_areSpeakers_0 l D cy a0 a1 a2 a3 a4 a5 a6 a7 a8 a9 a10 a11 a12 a13 a14 a15 a16 a17 x2 k2) (hl.1.trans hml.symm) [2, 3] [0, 1] (wr := [(a7, .inl (cy 1, 1830, .inl (lxF (fun _ => 0) 2 20 (PP 20 2 (20 + 1 - 2))))), (a8, .inl (cy 1, 1830, .inl (lyF (fun _ => 0) 2 20 (PP 20 2 (20 + 1 - 2)))))]) ⟨rfl, rfl, rfl, rfl, by decide⟩ 0 rfl rfl rfl rfl rfl ⟨Nat.le_of_ble_eq_true rfl, Nat.le_of_ble_eq_true rfl, Nat.le_of_ble_eq_true rfl⟩ 0 0 ⟨rfl, rfl, Nat.le_of_ble_eq_true rfl, Nat.le_of_ble_eq_true rfl⟩ dX12_soonest_23 (fun u H locs hp w => ?_)
  have w : Wd D A s.heap [(a7, .inl (cy 1, 1830, .inl (lxF (fun _ => 0) 2 20 (PP 20 2 (20 + 1 - 2))))), (a8, .inl (cy 1, 1830, .inl (lyF (fun _ => 0) 2 20 (PP 20 2 (20 + 1 - 2))))), (a0, .inr (12, [.ref a1, .ref a2, .ref a3, .ref a4, .ref a5, .int 0, .ref a6, .int 0, .int 0, .int 0, .int 0, .int 0, .int 0, .int 0, .int 0, .int 0, .int 0, .int (-1), .ref a7, .ref a8, .int 190, .ref a9, .int 0, .ref a10, .ref a11, .ref a12, .ref a13, .ref a14, .int 0, .ref a15, .ref a16, .ref a17])), (a1, .inl (cy 1, 1868, .inl (upd (upd (upd (fun _ => 0) 1 2) 2 20) 3 120)))] _ _ := w
  refine r_top (g2 := F0 m 26 ls [.int 0, .ref a0]) rfl ?_
  refine b_if_eq_t C (tgt := 33) dX12_soonest_26 (by decide) (by decide) ?_
  refine lv_iconst (v := 2) C.1 C.2.1 dX12_soonest_33 (by decide) ?_
  refine r_put C w 2 rfl rfl 5 (by decide) fl_RX12_71 rfl (ty := .int) (tyX12_ok 5 (by decide)) rfl rfl (Nat.le_of_ble_eq_true rfl) [(a7, .inl (cy 1, 1830, .inl (lxF (fun _ => 0) 2 20 (PP 20 2 (20 + 1 - 2))))), (a8, .inl (cy 1, 1830, .inl (lyF (fun _ => 0) 2 20 (PP 20 2 (20 + 1 - 2))))), (a0, .inr (12, [.ref a1, .ref a2, .ref a3, .ref a4, .ref a5, .int 2, .ref a6, .int 0, .int 0, .int 0, .int 0, .int 0, .int 0, .int 0, .int 0, .int 0, .int 0, .int (-1), .ref a7, .ref a8, .int 190, .ref a9, .int 0, .ref a10, .ref a11, .ref a12, .ref a13, .ref a14, .int 0, .ref a15, .ref a16, .ref a17])), (a1, .inl (cy 1, 1868, .inl (upd (upd (upd (fun _ => 0) 1 2) 2 20) 3 120)))] rfl dX12_soonest_34 (fun H locs w => ?_)
  refine lv_aload_n C.1 C.2.1 dX12_soonest_37 rfl (lv_at hl 0 rfl) ?_
  refine r_get C w 2 rfl rfl 5 (by decide) fl_RX12_71 (v := .int 2) rfl dX12_soonest_38 ?_
  refine b_if_le_f C (tgt := 46) dX12_soonest_41 (by decide) (by decide) ?_
  refine lv_iconst (v := 0) C.1 C.2.1 dX12_soonest_44 (by decide) ?_
  exact r_iret C w hlocks () hr rfl rfl trivial [0, 1, 2, 3] rfl rfl ⟨Nat.le_of_ble_eq_true rfl, Nat.le_of_ble_eq_true rfl⟩ dX12_soonest_45
set_option maxRecDepth 100000 in
set_option maxHeartbeats 4000000 in
theorem c_X12_soonest_5 (l : Launch) (D : va_G) (cy : Nat → ClassId) (a0 a1 a2 a3 a4 a5 a6 a7 a8 a9 a10 a11 a12 a13 a14 a15 a16 a17 : Nat) (x0 : Int32) (x2 : Int32) (x3 : Int32) (k0 : ¬ x0 < 0) (k1 : ¬ 189 < x0) (k2 : ¬ x2 < 0) (k3 : 0 < x2) : Ct l D cy yX12_soonest cX12_soonest 6 (some .int) 2 46 0 0 [(a0, .inr (12, [.ref a1, .ref a2, .ref a3, .ref a4, .ref a5, .int 0, .ref a6, .int 0, .int 0, .int 0, .int 0, .int 0, .int 0, .int 0, .int 0, .int 0, .int 0, .int (-1), .ref a7, .ref a8, .int 0, .ref a9, .int 0, .ref a10, .ref a11, .ref a12, .ref a13, .ref a14, .int 0, .ref a15, .ref a16, .ref a17])), (a1, .inl (cy 1, 1868, .inl (upd (upd (upd (fun _ => 0) 1 2) 2 20) 3 120))), (a7, .inl (cy 1, 1830, .inl (fun _ => 0))), (a8, .inl (cy 1, 1830, .inl (fun _ => 0)))] [.ref a0, .int x0, .int 0, .int x2, .int x3] (fun u : Unit => some (.int 0)) (fun _ => True) (fun u : Unit => [(a7, .inl (cy 1, 1830, .inl (lxF (fun _ => 0) 2 20 (PP 20 2 (20 + 1 - 2))))), (a8, .inl (cy 1, 1830, .inl (lyF (fun _ => 0) 2 20 (PP 20 2 (20 + 1 - 2))))), (a0, .inr (12, [.ref a1, .ref a2, .ref a3, .ref a4, .ref a5, .int 2, .ref a6, .int 0, .int 0, .int 0, .int 0, .int 0, .int 0, .int 0, .int 0, .int 0, .int 0, .int (-1), .ref a7, .ref a8, .int 190, .ref a9, .int 0, .ref a10, .ref a11, .ref a12, .ref a13, .ref a14, .int 0, .ref a15, .ref a16, .ref a17])), (a1, .inl (cy 1, 1868, .inl (upd (upd (upd (fun _ => 0) 1 2) 2 20) 3 120)))]) := by
  refine Ct.of (by decide +kernel) (Nat.le_of_ble_eq_true rfl) ?_
  intro p e s m args below meth c A ls C hr hlocks hml hnm w hl
  have hl : lv_has ls 6 [(0, .ref a0), (1, .int x0), (2, .int 0), (3, .int x2), (4, .int x3)] := hl
  refine lv_aload_n C.1 C.2.1 dX12_soonest_0 rfl (lv_at hl 0 rfl) ?_
  refine lv_aload_n C.1 C.2.1 dX12_soonest_1 rfl (lv_at hl 0 rfl) ?_
  refine lv_iload_n C.1 C.2.1 dX12_soonest_2 rfl (lv_at hl 1 rfl) ?_
  refine r_callV C w fv_RX12_256 (c_X12_isWorld_1 l D cy a0 a1 a2 a3 a4 a5 a6 a7 a8 a9 a10 a11 a12 a13 a14 a15 a16 a17 x0 k0 k1) (hl.1.trans hml.symm) [0, 1, 2, 3] [] (wr := []) ⟨rfl, rfl, rfl, rfl, by decide⟩ 0 rfl rfl rfl rfl rfl ⟨Nat.le_of_ble_eq_true rfl, Nat.le_of_ble_eq_true rfl, Nat.le_of_ble_eq_true rfl⟩ 0 0 ⟨rfl, rfl, Nat.le_of_ble_eq_true rfl, Nat.le_of_ble_eq_true rfl⟩ dX12_soonest_3 (fun u H locs hp w => ?_)
  have w : Wd D A s.heap [(a0, .inr (12, [.ref a1, .ref a2, .ref a3, .ref a4, .ref a5, .int 0, .ref a6, .int 0, .int 0, .int 0, .int 0, .int 0, .int 0, .int 0, .int 0, .int 0, .int 0, .int (-1), .ref a7, .ref a8, .int 190, .ref a9, .int 0, .ref a10, .ref a11, .ref a12, .ref a13, .ref a14, .int 0, .ref a15, .ref a16, .ref a17])), (a1, .inl (cy 1, 1868, .inl (upd (upd (upd (fun _ => 0) 1 2) 2 20) 3 120))), (a7, .inl (cy 1, 1830, .inl (lxF (fun _ => 0) 2 20 (PP 20 2 (20 + 1 - 2))))), (a8, .inl (cy 1, 1830, .inl (lyF (fun _ => 0) 2 20 (PP 20 2 (20 + 1 - 2)))))] _ _ := w
  refine r_top (g2 := F0 m 6 ls [.int 1, .ref a0]) rfl ?_
  refine b_if_ne_t C (tgt := 13) dX12_soonest_6 (by decide) (by decide) ?_
  refine lv_aload_n C.1 C.2.1 dX12_soonest_13 rfl (lv_at hl 0 rfl) ?_
  refine lv_iload_n C.1 C.2.1 dX12_soonest_14 rfl (lv_at hl 2 rfl) ?_
  refine r_callV C w fv_RX12_380 (c_X12_areSpeakers_3 l D cy a0 a1 a2 a3 a4 a5 a6 a7 a8 a9 a10 a11 a12 a13 a14 a15 a16 a17) (hl.1.trans hml.symm) [0, 1] [2, 3] (wr := [(a7, .inl (cy 1, 1830, .inl (lxF (fun _ => 0) 2 20 (PP 20 2 (20 + 1 - 2))))), (a8, .inl (cy 1, 1830, .inl (lyF (fun _ => 0) 2 20 (PP 20 2 (20 + 1 - 2)))))]) ⟨rfl, rfl, rfl, rfl, by decide⟩ 0 rfl rfl rfl rfl rfl ⟨Nat.le_of_ble_eq_true rfl, Nat.le_of_ble_eq_true rfl, Nat.le_of_ble_eq_true rfl⟩ 0 0 ⟨rfl, rfl, Nat.le_of_ble_eq_true rfl, Nat.le_of_ble_eq_true rfl⟩ dX12_soonest_15 (fun u H locs hp w => ?_)
  have w : Wd D A s.heap [(a7, .inl (cy 1, 1830, .inl (lxF (fun _ => 0) 2 20 (PP 20 2 (20 + 1 - 2))))), (a8, .inl (cy 1, 1830, .inl (lyF (fun _ => 0) 2 20 (PP 20 2 (20 + 1 - 2))))), (a0, .inr (12, [.ref a1, .ref a2, .ref a3, .ref a4, .ref a5, .int 0, .ref a6, .int 0, .int 0, .int 0, .int 0, .int 0, .int 0, .int 0, .int 0, .int 0, .int 0, .int (-1), .ref a7, .ref a8, .int 190, .ref a9, .int 0, .ref a10, .ref a11, .ref a12, .ref a13, .ref a14, .int 0, .ref a15, .ref a16, .ref a17])), (a1, .inl (cy 1, 1868, .inl (upd (upd (upd (fun _ => 0) 1 2) 2 20) 3 120)))] _ _ := w
  refine r_top (g2 := F0 m 18 ls [.int 1, .ref a0]) rfl ?_
  refine b_if_eq_f C (tgt := 33) dX12_soonest_18 (by decide) (by decide) ?_
  refine lv_aload_n C.1 C.2.1 dX12_soonest_21 rfl (lv_at hl 0 rfl) ?_
  refine lv_iload_n C.1 C.2.1 dX12_soonest_22 rfl (lv_at hl 3 rfl) ?_
  refine r_callV C w fv_RX12_380 (c_X12_areSpeakers_2 l D cy a0 a1 a2 a3 a4 a5 a6 a7 a8 a9 a10 a11 a12 a13 a14 a15 a16 a17 x2 k2 k3) (hl.1.trans hml.symm) [2, 3] [0, 1] (wr := [(a7, .inl (cy 1, 1830, .inl (lxF (fun _ => 0) 2 20 (PP 20 2 (20 + 1 - 2))))), (a8, .inl (cy 1, 1830, .inl (lyF (fun _ => 0) 2 20 (PP 20 2 (20 + 1 - 2)))))]) ⟨rfl, rfl, rfl, rfl, by decide⟩ 0 rfl rfl rfl rfl rfl ⟨Nat.le_of_ble_eq_true rfl, Nat.le_of_ble_eq_true rfl, Nat.le_of_ble_eq_true rfl⟩ 0 0 ⟨rfl, rfl, Nat.le_of_ble_eq_true rfl, Nat.le_of_ble_eq_true rfl⟩ dX12_soonest_23 (fun u H locs hp w => ?_)
  have w : Wd D A s.heap [(a7, .inl (cy 1, 1830, .inl (lxF (fun _ => 0) 2 20 (PP 20 2 (20 + 1 - 2))))), (a8, .inl (cy 1, 1830, .inl (lyF (fun _ => 0) 2 20 (PP 20 2 (20 + 1 - 2))))), (a0, .inr (12, [.ref a1, .ref a2, .ref a3, .ref a4, .ref a5, .int 0, .ref a6, .int 0, .int 0, .int 0, .int 0, .int 0, .int 0, .int 0, .int 0, .int 0, .int 0, .int (-1), .ref a7, .ref a8, .int 190, .ref a9, .int 0, .ref a10, .ref a11, .ref a12, .ref a13, .ref a14, .int 0, .ref a15, .ref a16, .ref a17])), (a1, .inl (cy 1, 1868, .inl (upd (upd (upd (fun _ => 0) 1 2) 2 20) 3 120)))] _ _ := w
  refine r_top (g2 := F0 m 26 ls [.int 0, .ref a0]) rfl ?_
  refine b_if_eq_t C (tgt := 33) dX12_soonest_26 (by decide) (by decide) ?_
  refine lv_iconst (v := 2) C.1 C.2.1 dX12_soonest_33 (by decide) ?_
  refine r_put C w 2 rfl rfl 5 (by decide) fl_RX12_71 rfl (ty := .int) (tyX12_ok 5 (by decide)) rfl rfl (Nat.le_of_ble_eq_true rfl) [(a7, .inl (cy 1, 1830, .inl (lxF (fun _ => 0) 2 20 (PP 20 2 (20 + 1 - 2))))), (a8, .inl (cy 1, 1830, .inl (lyF (fun _ => 0) 2 20 (PP 20 2 (20 + 1 - 2))))), (a0, .inr (12, [.ref a1, .ref a2, .ref a3, .ref a4, .ref a5, .int 2, .ref a6, .int 0, .int 0, .int 0, .int 0, .int 0, .int 0, .int 0, .int 0, .int 0, .int 0, .int (-1), .ref a7, .ref a8, .int 190, .ref a9, .int 0, .ref a10, .ref a11, .ref a12, .ref a13, .ref a14, .int 0, .ref a15, .ref a16, .ref a17])), (a1, .inl (cy 1, 1868, .inl (upd (upd (upd (fun _ => 0) 1 2) 2 20) 3 120)))] rfl dX12_soonest_34 (fun H locs w => ?_)
  refine lv_aload_n C.1 C.2.1 dX12_soonest_37 rfl (lv_at hl 0 rfl) ?_
  refine r_get C w 2 rfl rfl 5 (by decide) fl_RX12_71 (v := .int 2) rfl dX12_soonest_38 ?_
  refine b_if_le_f C (tgt := 46) dX12_soonest_41 (by decide) (by decide) ?_
  refine lv_iconst (v := 0) C.1 C.2.1 dX12_soonest_44 (by decide) ?_
  exact r_iret C w hlocks () hr rfl rfl trivial [0, 1, 2, 3] rfl rfl ⟨Nat.le_of_ble_eq_true rfl, Nat.le_of_ble_eq_true rfl⟩ dX12_soonest_45
theorem dX12_soonest_29 : decode cX12_soonest 29 = .ok (.iconst 0, 1) := by decide +kernel
theorem dX12_soonest_30 : decode cX12_soonest 30 = .ok (.goto 4, 3) := by decide +kernel
theorem dX12_soonest_46 : decode cX12_soonest 46 = .ok (.aload_n 0, 1) := by decide +kernel
theorem dX12_soonest_47 : decode cX12_soonest 47 = .ok (.iconst 0, 1) := by decide +kernel
theorem dX12_soonest_48 : decode cX12_soonest 48 = .ok (.iconst 1, 1) := by decide +kernel
theorem dX12_soonest_49 : decode cX12_soonest 49 = .ok (.invokevirtual 323, 3) := by decide +kernel
theorem dX12_soonest_52 : decode cX12_soonest 52 = .ok (.iconst 0, 1) := by decide +kernel
theorem dX12_soonest_53 : decode cX12_soonest 53 = .ok (.istore 5, 2) := by decide +kernel
theorem dX12_soonest_55 : decode cX12_soonest 55 = .ok (.iload 5, 2) := by decide +kernel
theorem dX12_soonest_57 : decode cX12_soonest 57 = .ok (.iconst 5, 1) := by decide +kernel
theorem dX12_soonest_58 : decode cX12_soonest 58 = .ok (.if_icmp .gt 60, 3) := by decide +kernel
theorem dX12_soonest_61 : decode cX12_soonest 61 = .ok (.aload_n 0, 1) := by decide +kernel
theorem dX12_soonest_62 : decode cX12_soonest 62 = .ok (.iload_n 1, 1) := by decide +kernel
theorem dX12_soonest_63 : decode cX12_soonest 63 = .ok (.iload_n 2, 1) := by decide +kernel
theorem dX12_soonest_64 : decode cX12_soonest 64 = .ok (.iload_n 3, 1) := by decide +kernel
theorem dX12_soonest_65 : decode cX12_soonest 65 = .ok (.iconst 0, 1) := by decide +kernel
theorem dX12_soonest_66 : decode cX12_soonest 66 = .ok (.iload 5, 2) := by decide +kernel
theorem dX12_soonest_68 : decode cX12_soonest 68 = .ok (.invokevirtual 376, 3) := by decide +kernel
theorem dX12_soon_0 : decode cX12_soon 0 = .ok (.aload_n 0, 1) := by decide +kernel
theorem dX12_soon_1 : decode cX12_soon 1 = .ok (.iload_n 3, 1) := by decide +kernel
theorem dX12_soon_2 : decode cX12_soon 2 = .ok (.iload 4, 2) := by decide +kernel
theorem dX12_soon_4 : decode cX12_soon 4 = .ok (.iload_n 1, 1) := by decide +kernel
theorem dX12_soon_5 : decode cX12_soon 5 = .ok (.invokevirtual 370, 3) := by decide +kernel
theorem dX12_none_0 : decode cX12_none 0 = .ok (.iconst 0, 1) := by decide +kernel
theorem dX12_none_1 : decode cX12_none 1 = .ok (.istore 4, 2) := by decide +kernel
theorem dX12_none_3 : decode cX12_none 3 = .ok (.iload 4, 2) := by decide +kernel
theorem dX12_none_5 : decode cX12_none 5 = .ok (.aload_n 0, 1) := by decide +kernel
theorem dX12_none_6 : decode cX12_none 6 = .ok (.getfield 9, 3) := by decide +kernel
theorem dX12_none_9 : decode cX12_none 9 = .ok (.iconst 5, 1) := by decide +kernel
theorem dX12_none_10 : decode cX12_none 10 = .ok (.iaload, 1) := by decide +kernel
theorem dX12_none_11 : decode cX12_none 11 = .ok (.if_icmp .ge 32, 3) := by decide +kernel
theorem dX12_none_43 : decode cX12_none 43 = .ok (.iconst 1, 1) := by decide +kernel
theorem dX12_none_44 : decode cX12_none 44 = .ok (.ireturn, 1) := by decide +kernel
set_option maxRecDepth 100000 in
set_option maxHeartbeats 4000000 in
theorem c_X12_none_0 (l : Launch) (D : va_G) (cy : Nat → ClassId) (a0 a1 a2 a3 a4 a5 a6 a7 a8 a9 a10 a11 a12 a13 a14 a15 a16 a17 : Nat) (x0 : Int32) : Ct l D cy yX12_none cX12_none 5 (some .boolean) 0 0 0 0 [(a0, .inr (12, [.ref a1, .ref a2, .ref a3, .ref a4, .ref a5, .int 0, .ref a6, .int 0, .int 0, .int 0, .int 0, .int 0, .int 0, .int 0, .int 0, .int 0, .int 0, .int (-1), .ref a7, .ref a8, .int 190, .ref a9, .int 0, .ref a10, .ref a11, .ref a12, .ref a13, .ref a14, .int 0, .ref a15, .ref a16, .ref a17])), (a1, .inl (cy 1, 1868, .inl (upd (upd (upd (fun _ => 0) 1 2) 2 20) 3 120)))] [.ref a0, .int 0, .int 0, .int x0] (fun u : Unit => some (.int 1)) (fun _ => True) (fun u : Unit => [(a0, .inr (12, [.ref a1, .ref a2, .ref a3, .ref a4, .ref a5, .int 0, .ref a6, .int 0, .int 0, .int 0, .int 0, .int 0, .int 0, .int 0, .int 0, .int 0, .int 0, .int (-1), .ref a7, .ref a8, .int 190, .ref a9, .int 0, .ref a10, .ref a11, .ref a12, .ref a13, .ref a14, .int 0, .ref a15, .ref a16, .ref a17])), (a1, .inl (cy 1, 1868, .inl (upd (upd (upd (fun _ => 0) 1 2) 2 20) 3 120)))]) := by
  refine Ct.of (by decide +kernel) (Nat.le_of_ble_eq_true rfl) ?_
  intro p e s m args below meth c A ls C hr hlocks hml hnm w hl
  have hl : lv_has ls 5 [(0, .ref a0), (1, .int 0), (2, .int 0), (3, .int x0)] := hl
  refine lv_iconst (v := 0) C.1 C.2.1 dX12_none_0 (by decide) ?_
  refine lv_istore (lv' := [(4, .int 0), (0, .ref a0), (1, .int 0), (2, .int 0), (3, .int x0)]) C.1 C.2.1 dX12_none_1 hl (by decide) rfl (fun ls hl => ?_)
  refine lv_iload C.1 C.2.1 dX12_none_3 (lv_at hl 0 rfl) ?_
  refine lv_aload_n C.1 C.2.1 dX12_none_5 rfl (lv_at hl 1 rfl) ?_
  refine r_get C w 0 rfl rfl 0 (by decide) fl_RX12_9 (v := .ref a1) rfl dX12_none_6 ?_
  refine lv_iconst (v := 5) C.1 C.2.1 dX12_none_9 (by decide) ?_
  refine r_iald C w 1 rfl (v := 0) (vinD (by decide)) rfl dX12_none_10 ?_
  refine b_icmp_ge_t C (tgt := 43) dX12_none_11 (by decide) (by decide) ?_
  refine lv_iconst (v := 1) C.1 C.2.1 dX12_none_43 (by decide) ?_
  exact r_iret C w hlocks () hr rfl rfl trivial [0, 1] rfl rfl ⟨Nat.le_of_ble_eq_true rfl, Nat.le_of_ble_eq_true rfl⟩ dX12_none_44
theorem fv_RX12_370 : FV RX12 370 yX12_none cX12_none 5 (some .boolean) 3 := ⟨⟨gw_mem (by decide +kernel) (by decide +kernel), gw_mem (by decide +kernel) (by decide +kernel), gw_mem (by decide +kernel) (by decide +kernel), gw_mem (by decide +kernel) (by decide +kernel), gw_mem (by decide +kernel) (by decide +kernel)⟩, ⟨by decide +kernel, by decide +kernel, by decide +kernel⟩⟩
theorem dX12_soon_8 : decode cX12_soon 8 = .ok (.ifCond .ne 5, 3) := by decide +kernel
theorem dX12_soon_13 : decode cX12_soon 13 = .ok (.iload 5, 2) := by decide +kernel
theorem dX12_soon_15 : decode cX12_soon 15 = .ok (.ifCond .ne 12, 3) := by decide +kernel
theorem dX12_soon_18 : decode cX12_soon 18 = .ok (.aload_n 0, 1) := by decide +kernel
theorem dX12_soon_19 : decode cX12_soon 19 = .ok (.iload_n 2, 1) := by decide +kernel
theorem dX12_soon_20 : decode cX12_soon 20 = .ok (.iload 4, 2) := by decide +kernel
theorem dX12_soon_22 : decode cX12_soon 22 = .ok (.iload_n 1, 1) := by decide +kernel
theorem dX12_soon_23 : decode cX12_soon 23 = .ok (.invokevirtual 373, 3) := by decide +kernel
theorem dX12_all_0 : decode cX12_all 0 = .ok (.iconst 0, 1) := by decide +kernel
theorem dX12_all_1 : decode cX12_all 1 = .ok (.istore 4, 2) := by decide +kernel
theorem dX12_all_3 : decode cX12_all 3 = .ok (.iload 4, 2) := by decide +kernel
theorem dX12_all_5 : decode cX12_all 5 = .ok (.aload_n 0, 1) := by decide +kernel
theorem dX12_all_6 : decode cX12_all 6 = .ok (.getfield 9, 3) := by decide +kernel
theorem dX12_all_9 : decode cX12_all 9 = .ok (.iconst 5, 1) := by decide +kernel
theorem dX12_all_10 : decode cX12_all 10 = .ok (.iaload, 1) := by decide +kernel
theorem dX12_all_11 : decode cX12_all 11 = .ok (.if_icmp .ge 32, 3) := by decide +kernel
theorem dX12_all_43 : decode cX12_all 43 = .ok (.iconst 1, 1) := by decide +kernel
theorem dX12_all_44 : decode cX12_all 44 = .ok (.ireturn, 1) := by decide +kernel
set_option maxRecDepth 100000 in
set_option maxHeartbeats 4000000 in
theorem c_X12_all_0 (l : Launch) (D : va_G) (cy : Nat → ClassId) (a0 a1 a2 a3 a4 a5 a6 a7 a8 a9 a10 a11 a12 a13 a14 a15 a16 a17 : Nat) (x0 : Int32) : Ct l D cy yX12_all cX12_all 5 (some .boolean) 0 0 0 0 [(a0, .inr (12, [.ref a1, .ref a2, .ref a3, .ref a4, .ref a5, .int 0, .ref a6, .int 0, .int 0, .int 0, .int 0, .int 0, .int 0, .int 0, .int 0, .int 0, .int 0, .int (-1), .ref a7, .ref a8, .int 190, .ref a9, .int 0, .ref a10, .ref a11, .ref a12, .ref a13, .ref a14, .int 0, .ref a15, .ref a16, .ref a17])), (a1, .inl (cy 1, 1868, .inl (upd (upd (upd (fun _ => 0) 1 2) 2 20) 3 120)))] [.ref a0, .int 0, .int 0, .int x0] (fun u : Unit => some (.int 1)) (fun _ => True) (fun u : Unit => [(a0, .inr (12, [.ref a1, .ref a2, .ref a3, .ref a4, .ref a5, .int 0, .ref a6, .int 0, .int 0, .int 0, .int 0, .int 0, .int 0, .int 0, .int 0, .int 0, .int 0, .int (-1), .ref a7, .ref a8, .int 190, .ref a9, .int 0, .ref a10, .ref a11, .ref a12, .ref a13, .ref a14, .int 0, .ref a15, .ref a16, .ref a17])), (a1, .inl (cy 1, 1868, .inl (upd (upd (upd (fun _ => 0) 1 2) 2 20) 3 120)))]) := by
  refine Ct.of (by decide +kernel) (Nat.le_of_ble_eq_true rfl) ?_
  intro p e s m args below meth c A ls C hr hlocks hml hnm w hl
  have hl : lv_has ls 5 [(0, .ref a0), (1, .int 0), (2, .int 0), (3, .int x0)] := hl
  refine lv_iconst (v := 0) C.1 C.2.1 dX12_all_0 (by decide) ?_
  refine lv_istore (lv' := [(4, .int 0), (0, .ref a0), (1, .int 0), (2, .int 0), (3, .int x0)]) C.1 C.2.1 dX12_all_1 hl (by decide) rfl (fun ls hl => ?_)
  refine lv_iload C.1 C.2.1 dX12_all_3 (lv_at hl 0 rfl) ?_
  refine lv_aload_n C.1 C.2.1 dX12_all_5 rfl (lv_at hl 1 rfl) ?_
  refine r_get C w 0 rfl rfl 0 (by decide) fl_RX12_9 (v := .ref a1) rfl dX12_all_6 ?_
  refine lv_iconst (v := 5) C.1 C.2.1 dX12_all_9 (by decide) ?_
  refine r_iald C w 1 rfl (v := 0) (vinD (by decide)) rfl dX12_all_10 ?_
  refine b_icmp_ge_t C (tgt := 43) dX12_all_11 (by decide) (by decide) ?_
  refine lv_iconst (v := 1) C.1 C.2.1 dX12_all_43 (by decide) ?_
  exact r_iret C w hlocks () hr rfl rfl trivial [0, 1] rfl rfl ⟨Nat.le_of_ble_eq_true rfl, Nat.le_of_ble_eq_true rfl⟩ dX12_all_44
theorem fv_RX12_373 : FV RX12 373 yX12_all cX12_all 5 (some .boolean) 3 := ⟨⟨gw_mem (by decide +kernel) (by decide +kernel), gw_mem (by decide +kernel) (by decide +kernel), gw_mem (by decide +kernel) (by decide +kernel), gw_mem (by decide +kernel) (by decide +kernel), gw_mem (by decide +kernel) (by decide +kernel)⟩, ⟨by decide +kernel, by decide +kernel, by decide +kernel⟩⟩
theorem dX12_soon_26 : decode cX12_soon 26 = .ok (.ireturn, 1) := by decide +kernel
set_option maxRecDepth 100000 in
set_option maxHeartbeats 4000000 in
theorem c_X12_soon_0 (l : Launch) (D : va_G) (cy : Nat → ClassId) (a0 a1 a2 a3 a4 a5 a6 a7 a8 a9 a10 a11 a12 a13 a14 a15 a16 a17 : Nat) (x0 : Int32) : Ct l D cy yX12_soon cX12_soon 7 (some .boolean) 1 24 0 0 [(a0, .inr (12, [.ref a1, .ref a2, .ref a3, .ref a4, .ref a5, .int 0, .ref a6, .int 0, .int 0, .int 0, .int 0, .int 0, .int 0, .int 0, .int 0, .int 0, .int 0, .int (-1), .ref a7, .ref a8, .int 190, .ref a9, .int 0, .ref a10, .ref a11, .ref a12, .ref a13, .ref a14, .int 0, .ref a15, .ref a16, .ref a17])), (a1, .inl (cy 1, 1868, .inl (upd (upd (upd (fun _ => 0) 1 2) 2 20) 3 120)))] [.ref a0, .int x0, .int 0, .int 0, .int 0, .int 0] (fun u : Unit => some (.int 1)) (fun _ => True) (fun u : Unit => [(a0, .inr (12, [.ref a1, .ref a2, .ref a3, .ref a4, .ref a5, .int 0, .ref a6, .int 0, .int 0, .int 0, .int 0, .int 0, .int 0, .int 0, .int 0, .int 0, .int 0, .int (-1), .ref a7, .ref a8, .int 190, .ref a9, .int 0, .ref a10, .ref a11, .ref a12, .ref a13, .ref a14, .int 0, .ref a15, .ref a16, .ref a17])), (a1, .inl (cy 1, 1868, .inl (upd (upd (upd (fun _ => 0) 1 2) 2 20) 3 120)))]) := by
  refine Ct.of (by decide +kernel) (Nat.le_of_ble_eq_true rfl) ?_
  intro p e s m args below meth c A ls C hr hlocks hml hnm w hl
  have hl : lv_has ls 7 [(0, .ref a0), (1, .int x0), (2, .int 0), (3, .int 0), (4, .int 0), (5, .int 0)] := hl
  refine lv_aload_n C.1 C.2.1 dX12_soon_0 rfl (lv_at hl 0 rfl) ?_
  refine lv_iload_n C.1 C.2.1 dX12_soon_1 rfl (lv_at hl 3 rfl) ?_
  refine lv_iload C.1 C.2.1 dX12_soon_2 (lv_at hl 4 rfl) ?_
  refine lv_iload_n C.1 C.2.1 dX12_soon_4 rfl (lv_at hl 1 rfl) ?_
  refine r_callV C w fv_RX12_370 (c_X12_none_0 l D cy a0 a1 a2 a3 a4 a5 a6 a7 a8 a9 a10 a11 a12 a13 a14 a15 a16 a17 x0) (hl.1.trans hml.symm) [0, 1] [] (wr := []) ⟨rfl, rfl, rfl, rfl, by decide⟩ 0 rfl rfl rfl rfl rfl ⟨Nat.le_of_ble_eq_true rfl, Nat.le_of_ble_eq_true rfl, Nat.le_of_ble_eq_true rfl⟩ 0 0 ⟨rfl, rfl, Nat.le_of_ble_eq_true rfl, Nat.le_of_ble_eq_true rfl⟩ dX12_soon_5 (fun u H locs hp w => ?_)
  have w : Wd D A s.heap [(a0, .inr (12, [.ref a1, .ref a2, .ref a3, .ref a4, .ref a5, .int 0, .ref a6, .int 0, .int 0, .int 0, .int 0, .int 0, .int 0, .int 0, .int 0, .int 0, .int 0, .int (-1), .ref a7, .ref a8, .int 190, .ref a9, .int 0, .ref a10, .ref a11, .ref a12, .ref a13, .ref a14, .int 0, .ref a15, .ref a16, .ref a17])), (a1, .inl (cy 1, 1868, .inl (upd (upd (upd (fun _ => 0) 1 2) 2 20) 3 120)))] _ _ := w
  refine r_top (g2 := F0 m 8 ls [.int 1]) rfl ?_
  refine b_if_ne_t C (tgt := 13) dX12_soon_8 (by decide) (by decide) ?_
  refine lv_iload C.1 C.2.1 dX12_soon_13 (lv_at hl 5 rfl) ?_
  refine b_if_ne_f C (tgt := 27) dX12_soon_15 (by decide) (by decide) ?_
  refine lv_aload_n C.1 C.2.1 dX12_soon_18 rfl (lv_at hl 0 rfl) ?_
  refine lv_iload_n C.1 C.2.1 dX12_soon_19 rfl (lv_at hl 2 rfl) ?_
  refine lv_iload C.1 C.2.1 dX12_soon_20 (lv_at hl 4 rfl) ?_
  refine lv_iload_n C.1 C.2.1 dX12_soon_22 rfl (lv_at hl 1 rfl) ?_
  refine r_callV C w fv_RX12_373 (c_X12_all_0 l D cy a0 a1 a2 a3 a4 a5 a6 a7 a8 a9 a10 a11 a12 a13 a14 a15 a16 a17 x0) (hl.1.trans hml.symm) [0, 1] [] (wr := []) ⟨rfl, rfl, rfl, rfl, by decide⟩ 0 rfl rfl rfl rfl rfl ⟨Nat.le_of_ble_eq_true rfl, Nat.le_of_ble_eq_true rfl, Nat.le_of_ble_eq_true rfl⟩ 0 0 ⟨rfl, rfl, Nat.le_of_ble_eq_true rfl, Nat.le_of_ble_eq_true rfl⟩ dX12_soon_23 (fun u H locs hp w => ?_)
  have w : Wd D A s.heap [(a0, .inr (12, [.ref a1, .ref a2, .ref a3, .ref a4, .ref a5, .int 0, .ref a6, .int 0, .int 0, .int 0, .int 0, .int 0, .int 0, .int 0, .int 0, .int 0, .int 0, .int (-1), .ref a7, .ref a8, .int 190, .ref a9, .int 0, .ref a10, .ref a11, .ref a12, .ref a13, .ref a14, .int 0, .ref a15, .ref a16, .ref a17])), (a1, .inl (cy 1, 1868, .inl (upd (upd (upd (fun _ => 0) 1 2) 2 20) 3 120)))] _ _ := w
  refine r_top (g2 := F0 m 26 ls [.int 1]) rfl ?_
  exact r_iret C w hlocks () hr rfl rfl trivial [0, 1] rfl rfl ⟨Nat.le_of_ble_eq_true rfl, Nat.le_of_ble_eq_true rfl⟩ dX12_soon_26
theorem fv_RX12_376 : FV RX12 376 yX12_soon cX12_soon 7 (some .boolean) 5 := ⟨⟨gw_mem (by decide +kernel) (by decide +kernel), gw_mem (by decide +kernel) (by decide +kernel), gw_mem (by decide +kernel) (by decide +kernel), gw_mem (by decide +kernel) (by decide +kernel), gw_mem (by decide +kernel) (by decide +kernel)⟩, ⟨by decide +kernel, by decide +kernel, by decide +kernel⟩⟩
theorem dX12_soonest_71 : decode cX12_soonest 71 = .ok (.ifCond .eq 41, 3) := by decide +kernel
theorem dX12_soonest_74 : decode cX12_soonest 74 = .ok (.iload 4, 2) := by decide +kernel
theorem dX12_soonest_76 : decode cX12_soonest 76 = .ok (.iconst (-1), 1) := by decide +kernel
theorem dX12_soonest_77 : decode cX12_soonest 77 = .ok (.if_icmp .ne 8, 3) := by decide +kernel
theorem dX12_soonest_85 : decode cX12_soonest 85 = .ok (.iload 4, 2) := by decide +kernel
theorem dX12_soonest_87 : decode cX12_soonest 87 = .ok (.i2l, 1) := by decide +kernel
theorem dX12_soonest_88 : decode cX12_soonest 88 = .ok (.lconst 0, 1) := by decide +kernel
theorem dX12_soonest_89 : decode cX12_soonest 89 = .ok (.iload 5, 2) := by decide +kernel
theorem dX12_soonest_91 : decode cX12_soonest 91 = .ok (.iconst 1, 1) := by decide +kernel
theorem dX12_soonest_92 : decode cX12_soonest 92 = .ok (.isub, 1) := by decide +kernel
theorem dX12_soonest_93 : decode cX12_soonest 93 = .ok (.i2l, 1) := by decide +kernel
theorem dX12_soonest_94 : decode cX12_soonest 94 = .ok (.invokestatic 133, 3) := by decide +kernel
theorem dX12_soonest_97 : decode cX12_soonest 97 = .ok (.ifCond .eq 13, 3) := by decide +kernel
theorem dX12_soonest_110 : decode cX12_soonest 110 = .ok (.iconst (-1), 1) := by decide +kernel
theorem dX12_soonest_111 : decode cX12_soonest 111 = .ok (.ireturn, 1) := by decide +kernel
set_option maxRecDepth 100000 in
set_option maxHeartbeats 4000000 in
theorem c_X12_soonest_6 (l : Launch) (D : va_G) (cy : Nat → ClassId) (a0 a1 a2 a3 a4 a5 a6 a7 a8 a9 a10 a11 a12 a13 a14 a15 a16 a17 : Nat) (x0 : Int32) (x3 : Int32) (k0 : ¬ x0 < 0) (k1 : ¬ 189 < x0) (k2 : ¬ x3 = (-1)) (k3 : x3 < 0) : Ct l D cy yX12_soonest cX12_soonest 6 (some .int) 2 50 0 0 [(a0, .inr (12, [.ref a1, .ref a2, .ref a3, .ref a4, .ref a5, .int 0, .ref a6, .int 0, .int 0, .int 0, .int 0, .int 0, .int 0, .int 0, .int 0, .int 0, .int 0, .int (-1), .ref a7, .ref a8, .int 0, .ref a9, .int 0, .ref a10, .ref a11, .ref a12, .ref a13, .ref a14, .int 0, .ref a15, .ref a16, .ref a17])), (a1, .inl (cy 1, 1868, .inl (upd (upd (upd (fun _ => 0) 1 2) 2 20) 3 120))), (a7, .inl (cy 1, 1830, .inl (fun _ => 0))), (a8, .inl (cy 1, 1830, .inl (fun _ => 0))), (a9, .inl (cy 2, 2465, .inr (.inl (fun _ => 0))))] [.ref a0, .int x0, .int 0, .int 0, .int x3] (fun u : Unit => some (.int (-1))) (fun _ => True) (fun u : Unit => [(a7, .inl (cy 1, 1830, .inl (lxF (fun _ => 0) 2 20 (PP 20 2 (20 + 1 - 2))))), (a8, .inl (cy 1, 1830, .inl (lyF (fun _ => 0) 2 20 (PP 20 2 (20 + 1 - 2))))), (a9, .inl (cy 2, 2465, .inr (.inl (rwF (fun _ => 0) (PP 20 2 (20 + 1 - 2)))))), (a0, .inr (12, [.ref a1, .ref a2, .ref a3, .ref a4, .ref a5, .int 0, .ref a6, .int 0, .int 0, .int 0, .int 0, .int 0, .int 0, .int 0, .int 0, .int 0, .int 0, .int (-1), .ref a7, .ref a8, .int 190, .ref a9, .int 0, .ref a10, .ref a11, .ref a12, .ref a13, .ref a14, .int 0, .ref a15, .ref a16, .ref a17])), (a1, .inl (cy 1, 1868, .inl (upd (upd (upd (fun _ => 0) 1 2) 2 20) 3 120)))]) := by
  refine Ct.of (by decide +kernel) (Nat.le_of_ble_eq_true rfl) ?_
  intro p e s m args below meth c A ls C hr hlocks hml hnm w hl
  have hl : lv_has ls 6 [(0, .ref a0), (1, .int x0), (2, .int 0), (3, .int 0), (4, .int x3)] := hl
  refine lv_aload_n C.1 C.2.1 dX12_soonest_0 rfl (lv_at hl 0 rfl) ?_
  refine lv_aload_n C.1 C.2.1 dX12_soonest_1 rfl (lv_at hl 0 rfl) ?_
  refine lv_iload_n C.1 C.2.1 dX12_soonest_2 rfl (lv_at hl 1 rfl) ?_
  refine r_callV C w fv_RX12_256 (c_X12_isWorld_1 l D cy a0 a1 a2 a3 a4 a5 a6 a7 a8 a9 a10 a11 a12 a13 a14 a15 a16 a17 x0 k0 k1) (hl.1.trans hml.symm) [0, 1, 2, 3] [4] (wr := [(a9, .inl (cy 2, 2465, .inr (.inl (fun _ => 0))))]) ⟨rfl, rfl, rfl, rfl, by decide⟩ 0 rfl rfl rfl rfl rfl ⟨Nat.le_of_ble_eq_true rfl, Nat.le_of_ble_eq_true rfl, Nat.le_of_ble_eq_true rfl⟩ 0 0 ⟨rfl, rfl, Nat.le_of_ble_eq_true rfl, Nat.le_of_ble_eq_true rfl⟩ dX12_soonest_3 (fun u H locs hp w => ?_)
  have w : Wd D A s.heap [(a9, .inl (cy 2, 2465, .inr (.inl (fun _ => 0)))), (a0, .inr (12, [.ref a1, .ref a2, .ref a3, .ref a4, .ref a5, .int 0, .ref a6, .int 0, .int 0, .int 0, .int 0, .int 0, .int 0, .int 0, .int 0, .int 0, .int 0, .int (-1), .ref a7, .ref a8, .int 190, .ref a9, .int 0, .ref a10, .ref a11, .ref a12, .ref a13, .ref a14, .int 0, .ref a15, .ref a16, .ref a17])), (a1, .inl (cy 1, 1868, .inl (upd (upd (upd (fun _ => 0) 1 2) 2 20) 3 120))), (a7, .inl (cy 1, 1830, .inl (lxF (fun _ => 0) 2 20 (PP 20 2 (20 + 1 - 2))))), (a8, .inl (cy 1, 1830, .inl (lyF (fun _ => 0) 2 20 (PP 20 2 (20 + 1 - 2)))))] _ _ := w
  refine r_top (g2 := F0 m 6 ls [.int 1, .ref a0]) rfl ?_
  refine b_if_ne_t C (tgt := 13) dX12_soonest_6 (by decide) (by decide) ?_
  refine lv_aload_n C.1 C.2.1 dX12_soonest_13 rfl (lv_at hl 0 rfl) ?_
  refine lv_iload_n C.1 C.2.1 dX12_soonest_14 rfl (lv_at hl 2 rfl) ?_
  refine r_callV C w fv_RX12_380 (c_X12_areSpeakers_3 l D cy a0 a1 a2 a3 a4 a5 a6 a7 a8 a9 a10 a11 a12 a13 a14 a15 a16 a17) (hl.1.trans hml.symm) [1, 2] [0, 3, 4] (wr := [(a9, .inl (cy 2, 2465, .inr (.inl (fun _ => 0)))), (a7, .inl (cy 1, 1830, .inl (lxF (fun _ => 0) 2 20 (PP 20 2 (20 + 1 - 2))))), (a8, .inl (cy 1, 1830, .inl (lyF (fun _ => 0) 2 20 (PP 20 2 (20 + 1 - 2)))))]) ⟨rfl, rfl, rfl, rfl, by decide⟩ 0 rfl rfl rfl rfl rfl ⟨Nat.le_of_ble_eq_true rfl, Nat.le_of_ble_eq_true rfl, Nat.le_of_ble_eq_true rfl⟩ 0 0 ⟨rfl, rfl, Nat.le_of_ble_eq_true rfl, Nat.le_of_ble_eq_true rfl⟩ dX12_soonest_15 (fun u H locs hp w => ?_)
  have w : Wd D A s.heap [(a9, .inl (cy 2, 2465, .inr (.inl (fun _ => 0)))), (a7, .inl (cy 1, 1830, .inl (lxF (fun _ => 0) 2 20 (PP 20 2 (20 + 1 - 2))))), (a8, .inl (cy 1, 1830, .inl (lyF (fun _ => 0) 2 20 (PP 20 2 (20 + 1 - 2))))), (a0, .inr (12, [.ref a1, .ref a2, .ref a3, .ref a4, .ref a5, .int 0, .ref a6, .int 0, .int 0, .int 0, .int 0, .int 0, .int 0, .int 0, .int 0, .int 0, .int 0, .int (-1), .ref a7, .ref a8, .int 190, .ref a9, .int 0, .ref a10, .ref a11, .ref a12, .ref a13, .ref a14, .int 0, .ref a15, .ref a16, .ref a17])), (a1, .inl (cy 1, 1868, .inl (upd (upd (upd (fun _ => 0) 1 2) 2 20) 3 120)))] _ _ := w
  refine r_top (g2 := F0 m 18 ls [.int 1, .ref a0]) rfl ?_
  refine b_if_eq_f C (tgt := 33) dX12_soonest_18 (by decide) (by decide) ?_
  refine lv_aload_n C.1 C.2.1 dX12_soonest_21 rfl (lv_at hl 0 rfl) ?_
  refine lv_iload_n C.1 C.2.1 dX12_soonest_22 rfl (lv_at hl 3 rfl) ?_
  refine r_callV C w fv_RX12_380 (c_X12_areSpeakers_3 l D cy a0 a1 a2 a3 a4 a5 a6 a7 a8 a9 a10 a11 a12 a13 a14 a15 a16 a17) (hl.1.trans hml.symm) [3, 4] [0, 1, 2] (wr := [(a9, .inl (cy 2, 2465, .inr (.inl (fun _ => 0)))), (a7, .inl (cy 1, 1830, .inl (lxF (fun _ => 0) 2 20 (PP 20 2 (20 + 1 - 2))))), (a8, .inl (cy 1, 1830, .inl (lyF (fun _ => 0) 2 20 (PP 20 2 (20 + 1 - 2)))))]) ⟨rfl, rfl, rfl, rfl, by decide⟩ 0 rfl rfl rfl rfl rfl ⟨Nat.le_of_ble_eq_true rfl, Nat.le_of_ble_eq_true rfl, Nat.le_of_ble_eq_true rfl⟩ 0 0 ⟨rfl, rfl, Nat.le_of_ble_eq_true rfl, Nat.le_of_ble_eq_true rfl⟩ dX12_soonest_23 (fun u H locs hp w => ?_)
  have w : Wd D A s.heap [(a9, .inl (cy 2, 2465, .inr (.inl (fun _ => 0)))), (a7, .inl (cy 1, 1830, .inl (lxF (fun _ => 0) 2 20 (PP 20 2 (20 + 1 - 2))))), (a8, .inl (cy 1, 1830, .inl (lyF (fun _ => 0) 2 20 (PP 20 2 (20 + 1 - 2))))), (a0, .inr (12, [.ref a1, .ref a2, .ref a3, .ref a4, .ref a5, .int 0, .ref a6, .int 0, .int 0, .int 0, .int 0, .int 0, .int 0, .int 0, .int 0, .int 0, .int 0, .int (-1), .ref a7, .ref a8, .int 190, .ref a9, .int 0, .ref a10, .ref a11, .ref a12, .ref a13, .ref a14, .int 0, .ref a15, .ref a16, .ref a17])), (a1, .inl (cy 1, 1868, .inl (upd (upd (upd (fun _ => 0) 1 2) 2 20) 3 120)))] _ _ := w
  refine r_top (g2 := F0 m 26 ls [.int 1, .ref a0]) rfl ?_
  refine b_if_eq_f C (tgt := 33) dX12_soonest_26 (by decide) (by decide) ?_
  refine lv_iconst (v := 0) C.1 C.2.1 dX12_soonest_29 (by decide) ?_
  refine lv_goto (tgt := 34) C.1 C.2.1 dX12_soonest_30 (by decide) ?_
  refine r_put C w 3 rfl rfl 5 (by decide) fl_RX12_71 rfl (ty := .int) (tyX12_ok 5 (by decide)) rfl rfl (Nat.le_of_ble_eq_true rfl) [(a9, .inl (cy 2, 2465, .inr (.inl (fun _ => 0)))), (a7, .inl (cy 1, 1830, .inl (lxF (fun _ => 0) 2 20 (PP 20 2 (20 + 1 - 2))))), (a8, .inl (cy 1, 1830, .inl (lyF (fun _ => 0) 2 20 (PP 20 2 (20 + 1 - 2))))), (a0, .inr (12, [.ref a1, .ref a2, .ref a3, .ref a4, .ref a5, .int 0, .ref a6, .int 0, .int 0, .int 0, .int 0, .int 0, .int 0, .int 0, .int 0, .int 0, .int 0, .int (-1), .ref a7, .ref a8, .int 190, .ref a9, .int 0, .ref a10, .ref a11, .ref a12, .ref a13, .ref a14, .int 0, .ref a15, .ref a16, .ref a17])), (a1, .inl (cy 1, 1868, .inl (upd (upd (upd (fun _ => 0) 1 2) 2 20) 3 120)))] rfl dX12_soonest_34 (fun H locs w => ?_)
  refine lv_aload_n C.1 C.2.1 dX12_soonest_37 rfl (lv_at hl 0 rfl) ?_
  refine r_get C w 3 rfl rfl 5 (by decide) fl_RX12_71 (v := .int 0) rfl dX12_soonest_38 ?_
  refine b_if_le_t C (tgt := 46) dX12_soonest_41 (by decide) (by decide) ?_
  refine lv_aload_n C.1 C.2.1 dX12_soonest_46 rfl (lv_at hl 0 rfl) ?_
  refine lv_iconst (v := 0) C.1 C.2.1 dX12_soonest_47 (by decide) ?_
  refine lv_iconst (v := 1) C.1 C.2.1 dX12_soonest_48 (by decide) ?_
  refine r_callV C w fv_RX12_323 (c_X12_fills_2 l D cy a0 a1 a2 a3 a4 a5 a6 a7 a8 a9 a10 a11 a12 a13 a14 a15 a16 a17) (hl.1.trans hml.symm) [3, 0] [1, 2, 4] (wr := [(a7, .inl (cy 1, 1830, .inl (lxF (fun _ => 0) 2 20 (PP 20 2 (20 + 1 - 2))))), (a8, .inl (cy 1, 1830, .inl (lyF (fun _ => 0) 2 20 (PP 20 2 (20 + 1 - 2))))), (a1, .inl (cy 1, 1868, .inl (upd (upd (upd (fun _ => 0) 1 2) 2 20) 3 120)))]) ⟨rfl, rfl, rfl, rfl, by decide⟩ 0 rfl rfl rfl rfl rfl ⟨Nat.le_of_ble_eq_true rfl, Nat.le_of_ble_eq_true rfl, Nat.le_of_ble_eq_true rfl⟩ 0 0 ⟨rfl, rfl, Nat.le_of_ble_eq_true rfl, Nat.le_of_ble_eq_true rfl⟩ dX12_soonest_49 (fun u H locs hp w => ?_)
  have w : Wd D A s.heap [(a7, .inl (cy 1, 1830, .inl (lxF (fun _ => 0) 2 20 (PP 20 2 (20 + 1 - 2))))), (a8, .inl (cy 1, 1830, .inl (lyF (fun _ => 0) 2 20 (PP 20 2 (20 + 1 - 2))))), (a1, .inl (cy 1, 1868, .inl (upd (upd (upd (fun _ => 0) 1 2) 2 20) 3 120))), (a0, .inr (12, [.ref a1, .ref a2, .ref a3, .ref a4, .ref a5, .int 0, .ref a6, .int 0, .int 0, .int 0, .int 0, .int 0, .int 0, .int 0, .int 0, .int 0, .int 0, .int (-1), .ref a7, .ref a8, .int 190, .ref a9, .int 0, .ref a10, .ref a11, .ref a12, .ref a13, .ref a14, .int 0, .ref a15, .ref a16, .ref a17])), (a9, .inl (cy 2, 2465, .inr (.inl (rwF (fun _ => 0) (PP 20 2 (20 + 1 - 2))))))] _ _ := w
  refine r_top (g2 := F0 m 52 ls []) rfl ?_
  refine lv_iconst (v := 0) C.1 C.2.1 dX12_soonest_52 (by decide) ?_
  refine lv_istore (lv' := [(5, .int 0), (0, .ref a0), (1, .int x0), (2, .int 0), (3, .int 0), (4, .int x3)]) C.1 C.2.1 dX12_soonest_53 hl (by decide) rfl (fun ls hl => ?_)
  refine lv_iload C.1 C.2.1 dX12_soonest_55 (lv_at hl 0 rfl) ?_
  refine lv_iconst (v := 5) C.1 C.2.1 dX12_soonest_57 (by decide) ?_
  refine b_icmp_gt_f C (tgt := 118) dX12_soonest_58 (by decide) (by decide) ?_
  refine lv_aload_n C.1 C.2.1 dX12_soonest_61 rfl (lv_at hl 1 rfl) ?_
  refine lv_iload_n C.1 C.2.1 dX12_soonest_62 rfl (lv_at hl 2 rfl) ?_
  refine lv_iload_n C.1 C.2.1 dX12_soonest_63 rfl (lv_at hl 3 rfl) ?_
  refine lv_iload_n C.1 C.2.1 dX12_soonest_64 rfl (lv_at hl 4 rfl) ?_
  refine lv_iconst (v := 0) C.1 C.2.1 dX12_soonest_65 (by decide) ?_
  refine lv_iload C.1 C.2.1 dX12_soonest_66 (lv_at hl 0 rfl) ?_
  refine r_callV C w fv_RX12_376 (c_X12_soon_0 l D cy a0 a1 a2 a3 a4 a5 a6 a7 a8 a9 a10 a11 a12 a13 a14 a15 a16 a17 x0) (hl.1.trans hml.symm) [3, 2] [0, 1, 4] (wr := [(a7, .inl (cy 1, 1830, .inl (lxF (fun _ => 0) 2 20 (PP 20 2 (20 + 1 - 2))))), (a8, .inl (cy 1, 1830, .inl (lyF (fun _ => 0) 2 20 (PP 20 2 (20 + 1 - 2))))), (a9, .inl (cy 2, 2465, .inr (.inl (rwF (fun _ => 0) (PP 20 2 (20 + 1 - 2))))))]) ⟨rfl, rfl, rfl, rfl, by decide⟩ 0 rfl rfl rfl rfl rfl ⟨Nat.le_of_ble_eq_true rfl, Nat.le_of_ble_eq_true rfl, Nat.le_of_ble_eq_true rfl⟩ 0 0 ⟨rfl, rfl, Nat.le_of_ble_eq_true rfl, Nat.le_of_ble_eq_true rfl⟩ dX12_soonest_68 (fun u H locs hp w => ?_)
  have w : Wd D A s.heap [(a7, .inl (cy 1, 1830, .inl (lxF (fun _ => 0) 2 20 (PP 20 2 (20 + 1 - 2))))), (a8, .inl (cy 1, 1830, .inl (lyF (fun _ => 0) 2 20 (PP 20 2 (20 + 1 - 2))))), (a9, .inl (cy 2, 2465, .inr (.inl (rwF (fun _ => 0) (PP 20 2 (20 + 1 - 2)))))), (a0, .inr (12, [.ref a1, .ref a2, .ref a3, .ref a4, .ref a5, .int 0, .ref a6, .int 0, .int 0, .int 0, .int 0, .int 0, .int 0, .int 0, .int 0, .int 0, .int 0, .int (-1), .ref a7, .ref a8, .int 190, .ref a9, .int 0, .ref a10, .ref a11, .ref a12, .ref a13, .ref a14, .int 0, .ref a15, .ref a16, .ref a17])), (a1, .inl (cy 1, 1868, .inl (upd (upd (upd (fun _ => 0) 1 2) 2 20) 3 120)))] _ _ := w
  refine r_top (g2 := F0 m 71 ls [.int 1]) rfl ?_
  refine b_if_eq_f C (tgt := 112) dX12_soonest_71 (by decide) (by decide) ?_
  refine lv_iload C.1 C.2.1 dX12_soonest_74 (lv_at hl 5 rfl) ?_
  refine lv_iconst (v := (-1)) C.1 C.2.1 dX12_soonest_76 (by decide) ?_
  refine b_icmp_ne_t C (tgt := 85) dX12_soonest_77 (by decide) k2 ?_
  refine lv_iload C.1 C.2.1 dX12_soonest_85 (lv_at hl 5 rfl) ?_
  refine lv_i2l (v := (Int32.toInt64 x3)) C.1 C.2.1 dX12_soonest_87 rfl ?_
  refine lv_lconst (v := 0) C.1 C.2.1 dX12_soonest_88 (by decide) ?_
  refine lv_iload C.1 C.2.1 dX12_soonest_89 (lv_at hl 0 rfl) ?_
  refine lv_iconst (v := 1) C.1 C.2.1 dX12_soonest_91 (by decide) ?_
  refine r_isub C (v := (-1)) dX12_soonest_92 (by decide) ?_
  refine lv_i2l (v := (-1)) C.1 C.2.1 dX12_soonest_93 (by decide) ?_
  refine r_callS C w fs_RX12_133 (c_X12_within_4 l D cy x3 k3) (hl.1.trans hml.symm) [] [0, 1, 2, 3, 4] (wr := [(a7, .inl (cy 1, 1830, .inl (lxF (fun _ => 0) 2 20 (PP 20 2 (20 + 1 - 2))))), (a8, .inl (cy 1, 1830, .inl (lyF (fun _ => 0) 2 20 (PP 20 2 (20 + 1 - 2))))), (a9, .inl (cy 2, 2465, .inr (.inl (rwF (fun _ => 0) (PP 20 2 (20 + 1 - 2)))))), (a0, .inr (12, [.ref a1, .ref a2, .ref a3, .ref a4, .ref a5, .int 0, .ref a6, .int 0, .int 0, .int 0, .int 0, .int 0, .int 0, .int 0, .int 0, .int 0, .int 0, .int (-1), .ref a7, .ref a8, .int 190, .ref a9, .int 0, .ref a10, .ref a11, .ref a12, .ref a13, .ref a14, .int 0, .ref a15, .ref a16, .ref a17])), (a1, .inl (cy 1, 1868, .inl (upd (upd (upd (fun _ => 0) 1 2) 2 20) 3 120)))]) ⟨rfl, rfl, rfl, rfl, by decide⟩ rfl rfl ⟨Nat.le_of_ble_eq_true rfl, Nat.le_of_ble_eq_true rfl, Nat.le_of_ble_eq_true rfl⟩ 0 0 ⟨rfl, rfl, Nat.le_of_ble_eq_true rfl, Nat.le_of_ble_eq_true rfl⟩ dX12_soonest_94 (fun u H locs hp w => ?_)
  have w : Wd D A s.heap [(a7, .inl (cy 1, 1830, .inl (lxF (fun _ => 0) 2 20 (PP 20 2 (20 + 1 - 2))))), (a8, .inl (cy 1, 1830, .inl (lyF (fun _ => 0) 2 20 (PP 20 2 (20 + 1 - 2))))), (a9, .inl (cy 2, 2465, .inr (.inl (rwF (fun _ => 0) (PP 20 2 (20 + 1 - 2)))))), (a0, .inr (12, [.ref a1, .ref a2, .ref a3, .ref a4, .ref a5, .int 0, .ref a6, .int 0, .int 0, .int 0, .int 0, .int 0, .int 0, .int 0, .int 0, .int 0, .int 0, .int (-1), .ref a7, .ref a8, .int 190, .ref a9, .int 0, .ref a10, .ref a11, .ref a12, .ref a13, .ref a14, .int 0, .ref a15, .ref a16, .ref a17])), (a1, .inl (cy 1, 1868, .inl (upd (upd (upd (fun _ => 0) 1 2) 2 20) 3 120)))] _ _ := w
  refine r_top (g2 := F0 m 97 ls [.int 0]) rfl ?_
  refine b_if_eq_t C (tgt := 110) dX12_soonest_97 (by decide) (by decide) ?_
  refine lv_iconst (v := (-1)) C.1 C.2.1 dX12_soonest_110 (by decide) ?_
  exact r_iret C w hlocks () hr rfl rfl trivial [0, 1, 2, 3, 4] rfl rfl ⟨Nat.le_of_ble_eq_true rfl, Nat.le_of_ble_eq_true rfl⟩ dX12_soonest_111
set_option maxRecDepth 100000 in
set_option maxHeartbeats 4000000 in
theorem c_X12_soonest_7 (l : Launch) (D : va_G) (cy : Nat → ClassId) (a0 a1 a2 a3 a4 a5 a6 a7 a8 a9 a10 a11 a12 a13 a14 a15 a16 a17 : Nat) (x0 : Int32) (x3 : Int32) (k0 : ¬ x0 < 0) (k1 : ¬ 189 < x0) (k2 : ¬ x3 = (-1)) (k3 : ¬ x3 < 0) : Ct l D cy yX12_soonest cX12_soonest 6 (some .int) 2 50 0 0 [(a0, .inr (12, [.ref a1, .ref a2, .ref a3, .ref a4, .ref a5, .int 0, .ref a6, .int 0, .int 0, .int 0, .int 0, .int 0, .int 0, .int 0, .int 0, .int 0, .int 0, .int (-1), .ref a7, .ref a8, .int 0, .ref a9, .int 0, .ref a10, .ref a11, .ref a12, .ref a13, .ref a14, .int 0, .ref a15, .ref a16, .ref a17])), (a1, .inl (cy 1, 1868, .inl (upd (upd (upd (fun _ => 0) 1 2) 2 20) 3 120))), (a7, .inl (cy 1, 1830, .inl (fun _ => 0))), (a8, .inl (cy 1, 1830, .inl (fun _ => 0))), (a9, .inl (cy 2, 2465, .inr (.inl (fun _ => 0))))] [.ref a0, .int x0, .int 0, .int 0, .int x3] (fun u : Unit => some (.int (-1))) (fun _ => True) (fun u : Unit => [(a7, .inl (cy 1, 1830, .inl (lxF (fun _ => 0) 2 20 (PP 20 2 (20 + 1 - 2))))), (a8, .inl (cy 1, 1830, .inl (lyF (fun _ => 0) 2 20 (PP 20 2 (20 + 1 - 2))))), (a9, .inl (cy 2, 2465, .inr (.inl (rwF (fun _ => 0) (PP 20 2 (20 + 1 - 2)))))), (a0, .inr (12, [.ref a1, .ref a2, .ref a3, .ref a4, .ref a5, .int 0, .ref a6, .int 0, .int 0, .int 0, .int 0, .int 0, .int 0, .int 0, .int 0, .int 0, .int 0, .int (-1), .ref a7, .ref a8, .int 190, .ref a9, .int 0, .ref a10, .ref a11, .ref a12, .ref a13, .ref a14, .int 0, .ref a15, .ref a16, .ref a17])), (a1, .inl (cy 1, 1868, .inl (upd (upd (upd (fun _ => 0) 1 2) 2 20) 3 120)))]) := by
  refine Ct.of (by decide +kernel) (Nat.le_of_ble_eq_true rfl) ?_
  intro p e s m args below meth c A ls C hr hlocks hml hnm w hl
  have hl : lv_has ls 6 [(0, .ref a0), (1, .int x0), (2, .int 0), (3, .int 0), (4, .int x3)] := hl
  refine lv_aload_n C.1 C.2.1 dX12_soonest_0 rfl (lv_at hl 0 rfl) ?_
  refine lv_aload_n C.1 C.2.1 dX12_soonest_1 rfl (lv_at hl 0 rfl) ?_
  refine lv_iload_n C.1 C.2.1 dX12_soonest_2 rfl (lv_at hl 1 rfl) ?_
  refine r_callV C w fv_RX12_256 (c_X12_isWorld_1 l D cy a0 a1 a2 a3 a4 a5 a6 a7 a8 a9 a10 a11 a12 a13 a14 a15 a16 a17 x0 k0 k1) (hl.1.trans hml.symm) [0, 1, 2, 3] [4] (wr := [(a9, .inl (cy 2, 2465, .inr (.inl (fun _ => 0))))]) ⟨rfl, rfl, rfl, rfl, by decide⟩ 0 rfl rfl rfl rfl rfl ⟨Nat.le_of_ble_eq_true rfl, Nat.le_of_ble_eq_true rfl, Nat.le_of_ble_eq_true rfl⟩ 0 0 ⟨rfl, rfl, Nat.le_of_ble_eq_true rfl, Nat.le_of_ble_eq_true rfl⟩ dX12_soonest_3 (fun u H locs hp w => ?_)
  have w : Wd D A s.heap [(a9, .inl (cy 2, 2465, .inr (.inl (fun _ => 0)))), (a0, .inr (12, [.ref a1, .ref a2, .ref a3, .ref a4, .ref a5, .int 0, .ref a6, .int 0, .int 0, .int 0, .int 0, .int 0, .int 0, .int 0, .int 0, .int 0, .int 0, .int (-1), .ref a7, .ref a8, .int 190, .ref a9, .int 0, .ref a10, .ref a11, .ref a12, .ref a13, .ref a14, .int 0, .ref a15, .ref a16, .ref a17])), (a1, .inl (cy 1, 1868, .inl (upd (upd (upd (fun _ => 0) 1 2) 2 20) 3 120))), (a7, .inl (cy 1, 1830, .inl (lxF (fun _ => 0) 2 20 (PP 20 2 (20 + 1 - 2))))), (a8, .inl (cy 1, 1830, .inl (lyF (fun _ => 0) 2 20 (PP 20 2 (20 + 1 - 2)))))] _ _ := w
  refine r_top (g2 := F0 m 6 ls [.int 1, .ref a0]) rfl ?_
  refine b_if_ne_t C (tgt := 13) dX12_soonest_6 (by decide) (by decide) ?_
  refine lv_aload_n C.1 C.2.1 dX12_soonest_13 rfl (lv_at hl 0 rfl) ?_
  refine lv_iload_n C.1 C.2.1 dX12_soonest_14 rfl (lv_at hl 2 rfl) ?_
  refine r_callV C w fv_RX12_380 (c_X12_areSpeakers_3 l D cy a0 a1 a2 a3 a4 a5 a6 a7 a8 a9 a10 a11 a12 a13 a14 a15 a16 a17) (hl.1.trans hml.symm) [1, 2] [0, 3, 4] (wr := [(a9, .inl (cy 2, 2465, .inr (.inl (fun _ => 0)))), (a7, .inl (cy 1, 1830, .inl (lxF (fun _ => 0) 2 20 (PP 20 2 (20 + 1 - 2))))), (a8, .inl (cy 1, 1830, .inl (lyF (fun _ => 0) 2 20 (PP 20 2 (20 + 1 - 2)))))]) ⟨rfl, rfl, rfl, rfl, by decide⟩ 0 rfl rfl rfl rfl rfl ⟨Nat.le_of_ble_eq_true rfl, Nat.le_of_ble_eq_true rfl, Nat.le_of_ble_eq_true rfl⟩ 0 0 ⟨rfl, rfl, Nat.le_of_ble_eq_true rfl, Nat.le_of_ble_eq_true rfl⟩ dX12_soonest_15 (fun u H locs hp w => ?_)
  have w : Wd D A s.heap [(a9, .inl (cy 2, 2465, .inr (.inl (fun _ => 0)))), (a7, .inl (cy 1, 1830, .inl (lxF (fun _ => 0) 2 20 (PP 20 2 (20 + 1 - 2))))), (a8, .inl (cy 1, 1830, .inl (lyF (fun _ => 0) 2 20 (PP 20 2 (20 + 1 - 2))))), (a0, .inr (12, [.ref a1, .ref a2, .ref a3, .ref a4, .ref a5, .int 0, .ref a6, .int 0, .int 0, .int 0, .int 0, .int 0, .int 0, .int 0, .int 0, .int 0, .int 0, .int (-1), .ref a7, .ref a8, .int 190, .ref a9, .int 0, .ref a10, .ref a11, .ref a12, .ref a13, .ref a14, .int 0, .ref a15, .ref a16, .ref a17])), (a1, .inl (cy 1, 1868, .inl (upd (upd (upd (fun _ => 0) 1 2) 2 20) 3 120)))] _ _ := w
  refine r_top (g2 := F0 m 18 ls [.int 1, .ref a0]) rfl ?_
  refine b_if_eq_f C (tgt := 33) dX12_soonest_18 (by decide) (by decide) ?_
  refine lv_aload_n C.1 C.2.1 dX12_soonest_21 rfl (lv_at hl 0 rfl) ?_
  refine lv_iload_n C.1 C.2.1 dX12_soonest_22 rfl (lv_at hl 3 rfl) ?_
  refine r_callV C w fv_RX12_380 (c_X12_areSpeakers_3 l D cy a0 a1 a2 a3 a4 a5 a6 a7 a8 a9 a10 a11 a12 a13 a14 a15 a16 a17) (hl.1.trans hml.symm) [3, 4] [0, 1, 2] (wr := [(a9, .inl (cy 2, 2465, .inr (.inl (fun _ => 0)))), (a7, .inl (cy 1, 1830, .inl (lxF (fun _ => 0) 2 20 (PP 20 2 (20 + 1 - 2))))), (a8, .inl (cy 1, 1830, .inl (lyF (fun _ => 0) 2 20 (PP 20 2 (20 + 1 - 2)))))]) ⟨rfl, rfl, rfl, rfl, by decide⟩ 0 rfl rfl rfl rfl rfl ⟨Nat.le_of_ble_eq_true rfl, Nat.le_of_ble_eq_true rfl, Nat.le_of_ble_eq_true rfl⟩ 0 0 ⟨rfl, rfl, Nat.le_of_ble_eq_true rfl, Nat.le_of_ble_eq_true rfl⟩ dX12_soonest_23 (fun u H locs hp w => ?_)
  have w : Wd D A s.heap [(a9, .inl (cy 2, 2465, .inr (.inl (fun _ => 0)))), (a7, .inl (cy 1, 1830, .inl (lxF (fun _ => 0) 2 20 (PP 20 2 (20 + 1 - 2))))), (a8, .inl (cy 1, 1830, .inl (lyF (fun _ => 0) 2 20 (PP 20 2 (20 + 1 - 2))))), (a0, .inr (12, [.ref a1, .ref a2, .ref a3, .ref a4, .ref a5, .int 0, .ref a6, .int 0, .int 0, .int 0, .int 0, .int 0, .int 0, .int 0, .int 0, .int 0, .int 0, .int (-1), .ref a7, .ref a8, .int 190, .ref a9, .int 0, .ref a10, .ref a11, .ref a12, .ref a13, .ref a14, .int 0, .ref a15, .ref a16, .ref a17])), (a1, .inl (cy 1, 1868, .inl (upd (upd (upd (fun _ => 0) 1 2) 2 20) 3 120)))] _ _ := w
  refine r_top (g2 := F0 m 26 ls [.int 1, .ref a0]) rfl ?_
  refine b_if_eq_f C (tgt := 33) dX12_soonest_26 (by decide) (by decide) ?_
  refine lv_iconst (v := 0) C.1 C.2.1 dX12_soonest_29 (by decide) ?_
  refine lv_goto (tgt := 34) C.1 C.2.1 dX12_soonest_30 (by decide) ?_
  refine r_put C w 3 rfl rfl 5 (by decide) fl_RX12_71 rfl (ty := .int) (tyX12_ok 5 (by decide)) rfl rfl (Nat.le_of_ble_eq_true rfl) [(a9, .inl (cy 2, 2465, .inr (.inl (fun _ => 0)))), (a7, .inl (cy 1, 1830, .inl (lxF (fun _ => 0) 2 20 (PP 20 2 (20 + 1 - 2))))), (a8, .inl (cy 1, 1830, .inl (lyF (fun _ => 0) 2 20 (PP 20 2 (20 + 1 - 2))))), (a0, .inr (12, [.ref a1, .ref a2, .ref a3, .ref a4, .ref a5, .int 0, .ref a6, .int 0, .int 0, .int 0, .int 0, .int 0, .int 0, .int 0, .int 0, .int 0, .int 0, .int (-1), .ref a7, .ref a8, .int 190, .ref a9, .int 0, .ref a10, .ref a11, .ref a12, .ref a13, .ref a14, .int 0, .ref a15, .ref a16, .ref a17])), (a1, .inl (cy 1, 1868, .inl (upd (upd (upd (fun _ => 0) 1 2) 2 20) 3 120)))] rfl dX12_soonest_34 (fun H locs w => ?_)
  refine lv_aload_n C.1 C.2.1 dX12_soonest_37 rfl (lv_at hl 0 rfl) ?_
  refine r_get C w 3 rfl rfl 5 (by decide) fl_RX12_71 (v := .int 0) rfl dX12_soonest_38 ?_
  refine b_if_le_t C (tgt := 46) dX12_soonest_41 (by decide) (by decide) ?_
  refine lv_aload_n C.1 C.2.1 dX12_soonest_46 rfl (lv_at hl 0 rfl) ?_
  refine lv_iconst (v := 0) C.1 C.2.1 dX12_soonest_47 (by decide) ?_
  refine lv_iconst (v := 1) C.1 C.2.1 dX12_soonest_48 (by decide) ?_
  refine r_callV C w fv_RX12_323 (c_X12_fills_2 l D cy a0 a1 a2 a3 a4 a5 a6 a7 a8 a9 a10 a11 a12 a13 a14 a15 a16 a17) (hl.1.trans hml.symm) [3, 0] [1, 2, 4] (wr := [(a7, .inl (cy 1, 1830, .inl (lxF (fun _ => 0) 2 20 (PP 20 2 (20 + 1 - 2))))), (a8, .inl (cy 1, 1830, .inl (lyF (fun _ => 0) 2 20 (PP 20 2 (20 + 1 - 2))))), (a1, .inl (cy 1, 1868, .inl (upd (upd (upd (fun _ => 0) 1 2) 2 20) 3 120)))]) ⟨rfl, rfl, rfl, rfl, by decide⟩ 0 rfl rfl rfl rfl rfl ⟨Nat.le_of_ble_eq_true rfl, Nat.le_of_ble_eq_true rfl, Nat.le_of_ble_eq_true rfl⟩ 0 0 ⟨rfl, rfl, Nat.le_of_ble_eq_true rfl, Nat.le_of_ble_eq_true rfl⟩ dX12_soonest_49 (fun u H locs hp w => ?_)
  have w : Wd D A s.heap [(a7, .inl (cy 1, 1830, .inl (lxF (fun _ => 0) 2 20 (PP 20 2 (20 + 1 - 2))))), (a8, .inl (cy 1, 1830, .inl (lyF (fun _ => 0) 2 20 (PP 20 2 (20 + 1 - 2))))), (a1, .inl (cy 1, 1868, .inl (upd (upd (upd (fun _ => 0) 1 2) 2 20) 3 120))), (a0, .inr (12, [.ref a1, .ref a2, .ref a3, .ref a4, .ref a5, .int 0, .ref a6, .int 0, .int 0, .int 0, .int 0, .int 0, .int 0, .int 0, .int 0, .int 0, .int 0, .int (-1), .ref a7, .ref a8, .int 190, .ref a9, .int 0, .ref a10, .ref a11, .ref a12, .ref a13, .ref a14, .int 0, .ref a15, .ref a16, .ref a17])), (a9, .inl (cy 2, 2465, .inr (.inl (rwF (fun _ => 0) (PP 20 2 (20 + 1 - 2))))))] _ _ := w
  refine r_top (g2 := F0 m 52 ls []) rfl ?_
  refine lv_iconst (v := 0) C.1 C.2.1 dX12_soonest_52 (by decide) ?_
  refine lv_istore (lv' := [(5, .int 0), (0, .ref a0), (1, .int x0), (2, .int 0), (3, .int 0), (4, .int x3)]) C.1 C.2.1 dX12_soonest_53 hl (by decide) rfl (fun ls hl => ?_)
  refine lv_iload C.1 C.2.1 dX12_soonest_55 (lv_at hl 0 rfl) ?_
  refine lv_iconst (v := 5) C.1 C.2.1 dX12_soonest_57 (by decide) ?_
  refine b_icmp_gt_f C (tgt := 118) dX12_soonest_58 (by decide) (by decide) ?_
  refine lv_aload_n C.1 C.2.1 dX12_soonest_61 rfl (lv_at hl 1 rfl) ?_
  refine lv_iload_n C.1 C.2.1 dX12_soonest_62 rfl (lv_at hl 2 rfl) ?_
  refine lv_iload_n C.1 C.2.1 dX12_soonest_63 rfl (lv_at hl 3 rfl) ?_
  refine lv_iload_n C.1 C.2.1 dX12_soonest_64 rfl (lv_at hl 4 rfl) ?_
  refine lv_iconst (v := 0) C.1 C.2.1 dX12_soonest_65 (by decide) ?_
  refine lv_iload C.1 C.2.1 dX12_soonest_66 (lv_at hl 0 rfl) ?_
  refine r_callV C w fv_RX12_376 (c_X12_soon_0 l D cy a0 a1 a2 a3 a4 a5 a6 a7 a8 a9 a10 a11 a12 a13 a14 a15 a16 a17 x0) (hl.1.trans hml.symm) [3, 2] [0, 1, 4] (wr := [(a7, .inl (cy 1, 1830, .inl (lxF (fun _ => 0) 2 20 (PP 20 2 (20 + 1 - 2))))), (a8, .inl (cy 1, 1830, .inl (lyF (fun _ => 0) 2 20 (PP 20 2 (20 + 1 - 2))))), (a9, .inl (cy 2, 2465, .inr (.inl (rwF (fun _ => 0) (PP 20 2 (20 + 1 - 2))))))]) ⟨rfl, rfl, rfl, rfl, by decide⟩ 0 rfl rfl rfl rfl rfl ⟨Nat.le_of_ble_eq_true rfl, Nat.le_of_ble_eq_true rfl, Nat.le_of_ble_eq_true rfl⟩ 0 0 ⟨rfl, rfl, Nat.le_of_ble_eq_true rfl, Nat.le_of_ble_eq_true rfl⟩ dX12_soonest_68 (fun u H locs hp w => ?_)
  have w : Wd D A s.heap [(a7, .inl (cy 1, 1830, .inl (lxF (fun _ => 0) 2 20 (PP 20 2 (20 + 1 - 2))))), (a8, .inl (cy 1, 1830, .inl (lyF (fun _ => 0) 2 20 (PP 20 2 (20 + 1 - 2))))), (a9, .inl (cy 2, 2465, .inr (.inl (rwF (fun _ => 0) (PP 20 2 (20 + 1 - 2)))))), (a0, .inr (12, [.ref a1, .ref a2, .ref a3, .ref a4, .ref a5, .int 0, .ref a6, .int 0, .int 0, .int 0, .int 0, .int 0, .int 0, .int 0, .int 0, .int 0, .int 0, .int (-1), .ref a7, .ref a8, .int 190, .ref a9, .int 0, .ref a10, .ref a11, .ref a12, .ref a13, .ref a14, .int 0, .ref a15, .ref a16, .ref a17])), (a1, .inl (cy 1, 1868, .inl (upd (upd (upd (fun _ => 0) 1 2) 2 20) 3 120)))] _ _ := w
  refine r_top (g2 := F0 m 71 ls [.int 1]) rfl ?_
  refine b_if_eq_f C (tgt := 112) dX12_soonest_71 (by decide) (by decide) ?_
  refine lv_iload C.1 C.2.1 dX12_soonest_74 (lv_at hl 5 rfl) ?_
  refine lv_iconst (v := (-1)) C.1 C.2.1 dX12_soonest_76 (by decide) ?_
  refine b_icmp_ne_t C (tgt := 85) dX12_soonest_77 (by decide) k2 ?_
  refine lv_iload C.1 C.2.1 dX12_soonest_85 (lv_at hl 5 rfl) ?_
  refine lv_i2l (v := (Int32.toInt64 x3)) C.1 C.2.1 dX12_soonest_87 rfl ?_
  refine lv_lconst (v := 0) C.1 C.2.1 dX12_soonest_88 (by decide) ?_
  refine lv_iload C.1 C.2.1 dX12_soonest_89 (lv_at hl 0 rfl) ?_
  refine lv_iconst (v := 1) C.1 C.2.1 dX12_soonest_91 (by decide) ?_
  refine r_isub C (v := (-1)) dX12_soonest_92 (by decide) ?_
  refine lv_i2l (v := (-1)) C.1 C.2.1 dX12_soonest_93 (by decide) ?_
  refine r_callS C w fs_RX12_133 (c_X12_within_5 l D cy x3 k3) (hl.1.trans hml.symm) [] [0, 1, 2, 3, 4] (wr := [(a7, .inl (cy 1, 1830, .inl (lxF (fun _ => 0) 2 20 (PP 20 2 (20 + 1 - 2))))), (a8, .inl (cy 1, 1830, .inl (lyF (fun _ => 0) 2 20 (PP 20 2 (20 + 1 - 2))))), (a9, .inl (cy 2, 2465, .inr (.inl (rwF (fun _ => 0) (PP 20 2 (20 + 1 - 2)))))), (a0, .inr (12, [.ref a1, .ref a2, .ref a3, .ref a4, .ref a5, .int 0, .ref a6, .int 0, .int 0, .int 0, .int 0, .int 0, .int 0, .int 0, .int 0, .int 0, .int 0, .int (-1), .ref a7, .ref a8, .int 190, .ref a9, .int 0, .ref a10, .ref a11, .ref a12, .ref a13, .ref a14, .int 0, .ref a15, .ref a16, .ref a17])), (a1, .inl (cy 1, 1868, .inl (upd (upd (upd (fun _ => 0) 1 2) 2 20) 3 120)))]) ⟨rfl, rfl, rfl, rfl, by decide⟩ rfl rfl ⟨Nat.le_of_ble_eq_true rfl, Nat.le_of_ble_eq_true rfl, Nat.le_of_ble_eq_true rfl⟩ 0 0 ⟨rfl, rfl, Nat.le_of_ble_eq_true rfl, Nat.le_of_ble_eq_true rfl⟩ dX12_soonest_94 (fun u H locs hp w => ?_)
  have w : Wd D A s.heap [(a7, .inl (cy 1, 1830, .inl (lxF (fun _ => 0) 2 20 (PP 20 2 (20 + 1 - 2))))), (a8, .inl (cy 1, 1830, .inl (lyF (fun _ => 0) 2 20 (PP 20 2 (20 + 1 - 2))))), (a9, .inl (cy 2, 2465, .inr (.inl (rwF (fun _ => 0) (PP 20 2 (20 + 1 - 2)))))), (a0, .inr (12, [.ref a1, .ref a2, .ref a3, .ref a4, .ref a5, .int 0, .ref a6, .int 0, .int 0, .int 0, .int 0, .int 0, .int 0, .int 0, .int 0, .int 0, .int 0, .int (-1), .ref a7, .ref a8, .int 190, .ref a9, .int 0, .ref a10, .ref a11, .ref a12, .ref a13, .ref a14, .int 0, .ref a15, .ref a16, .ref a17])), (a1, .inl (cy 1, 1868, .inl (upd (upd (upd (fun _ => 0) 1 2) 2 20) 3 120)))] _ _ := w
  refine r_top (g2 := F0 m 97 ls [.int 0]) rfl ?_
  refine b_if_eq_t C (tgt := 110) dX12_soonest_97 (by decide) (by decide) ?_
  refine lv_iconst (v := (-1)) C.1 C.2.1 dX12_soonest_110 (by decide) ?_
  exact r_iret C w hlocks () hr rfl rfl trivial [0, 1, 2, 3, 4] rfl rfl ⟨Nat.le_of_ble_eq_true rfl, Nat.le_of_ble_eq_true rfl⟩ dX12_soonest_111
theorem dX12_soonest_80 : decode cX12_soonest 80 = .ok (.iload 5, 2) := by decide +kernel
theorem dX12_soonest_82 : decode cX12_soonest 82 = .ok (.goto 29, 3) := by decide +kernel
set_option maxRecDepth 100000 in
set_option maxHeartbeats 4000000 in
theorem c_X12_soonest_8 (l : Launch) (D : va_G) (cy : Nat → ClassId) (a0 a1 a2 a3 a4 a5 a6 a7 a8 a9 a10 a11 a12 a13 a14 a15 a16 a17 : Nat) (x0 : Int32) (k0 : ¬ x0 < 0) (k1 : ¬ 189 < x0) : Ct l D cy yX12_soonest cX12_soonest 6 (some .int) 2 50 0 0 [(a0, .inr (12, [.ref a1, .ref a2, .ref a3, .ref a4, .ref a5, .int 0, .ref a6, .int 0, .int 0, .int 0, .int 0, .int 0, .int 0, .int 0, .int 0, .int 0, .int 0, .int (-1), .ref a7, .ref a8, .int 0, .ref a9, .int 0, .ref a10, .ref a11, .ref a12, .ref a13, .ref a14, .int 0, .ref a15, .ref a16, .ref a17])), (a1, .inl (cy 1, 1868, .inl (upd (upd (upd (fun _ => 0) 1 2) 2 20) 3 120))), (a7, .inl (cy 1, 1830, .inl (fun _ => 0))), (a8, .inl (cy 1, 1830, .inl (fun _ => 0))), (a9, .inl (cy 2, 2465, .inr (.inl (fun _ => 0))))] [.ref a0, .int x0, .int 0, .int 0, .int (-1)] (fun u : Unit => some (.int 0)) (fun _ => True) (fun u : Unit => [(a7, .inl (cy 1, 1830, .inl (lxF (fun _ => 0) 2 20 (PP 20 2 (20 + 1 - 2))))), (a8, .inl (cy 1, 1830, .inl (lyF (fun _ => 0) 2 20 (PP 20 2 (20 + 1 - 2))))), (a9, .inl (cy 2, 2465, .inr (.inl (rwF (fun _ => 0) (PP 20 2 (20 + 1 - 2)))))), (a0, .inr (12, [.ref a1, .ref a2, .ref a3, .ref a4, .ref a5, .int 0, .ref a6, .int 0, .int 0, .int 0, .int 0, .int 0, .int 0, .int 0, .int 0, .int 0, .int 0, .int (-1), .ref a7, .ref a8, .int 190, .ref a9, .int 0, .ref a10, .ref a11, .ref a12, .ref a13, .ref a14, .int 0, .ref a15, .ref a16, .ref a17])), (a1, .inl (cy 1, 1868, .inl (upd (upd (upd (fun _ => 0) 1 2) 2 20) 3 120)))]) := by
  refine Ct.of (by decide +kernel) (Nat.le_of_ble_eq_true rfl) ?_
  intro p e s m args below meth c A ls C hr hlocks hml hnm w hl
  have hl : lv_has ls 6 [(0, .ref a0), (1, .int x0), (2, .int 0), (3, .int 0), (4, .int (-1))] := hl
  refine lv_aload_n C.1 C.2.1 dX12_soonest_0 rfl (lv_at hl 0 rfl) ?_
  refine lv_aload_n C.1 C.2.1 dX12_soonest_1 rfl (lv_at hl 0 rfl) ?_
  refine lv_iload_n C.1 C.2.1 dX12_soonest_2 rfl (lv_at hl 1 rfl) ?_
  refine r_callV C w fv_RX12_256 (c_X12_isWorld_1 l D cy a0 a1 a2 a3 a4 a5 a6 a7 a8 a9 a10 a11 a12 a13 a14 a15 a16 a17 x0 k0 k1) (hl.1.trans hml.symm) [0, 1, 2, 3] [4] (wr := [(a9, .inl (cy 2, 2465, .inr (.inl (fun _ => 0))))]) ⟨rfl, rfl, rfl, rfl, by decide⟩ 0 rfl rfl rfl rfl rfl ⟨Nat.le_of_ble_eq_true rfl, Nat.le_of_ble_eq_true rfl, Nat.le_of_ble_eq_true rfl⟩ 0 0 ⟨rfl, rfl, Nat.le_of_ble_eq_true rfl, Nat.le_of_ble_eq_true rfl⟩ dX12_soonest_3 (fun u H locs hp w => ?_)
  have w : Wd D A s.heap [(a9, .inl (cy 2, 2465, .inr (.inl (fun _ => 0)))), (a0, .inr (12, [.ref a1, .ref a2, .ref a3, .ref a4, .ref a5, .int 0, .ref a6, .int 0, .int 0, .int 0, .int 0, .int 0, .int 0, .int 0, .int 0, .int 0, .int 0, .int (-1), .ref a7, .ref a8, .int 190, .ref a9, .int 0, .ref a10, .ref a11, .ref a12, .ref a13, .ref a14, .int 0, .ref a15, .ref a16, .ref a17])), (a1, .inl (cy 1, 1868, .inl (upd (upd (upd (fun _ => 0) 1 2) 2 20) 3 120))), (a7, .inl (cy 1, 1830, .inl (lxF (fun _ => 0) 2 20 (PP 20 2 (20 + 1 - 2))))), (a8, .inl (cy 1, 1830, .inl (lyF (fun _ => 0) 2 20 (PP 20 2 (20 + 1 - 2)))))] _ _ := w
  refine r_top (g2 := F0 m 6 ls [.int 1, .ref a0]) rfl ?_
  refine b_if_ne_t C (tgt := 13) dX12_soonest_6 (by decide) (by decide) ?_
  refine lv_aload_n C.1 C.2.1 dX12_soonest_13 rfl (lv_at hl 0 rfl) ?_
  refine lv_iload_n C.1 C.2.1 dX12_soonest_14 rfl (lv_at hl 2 rfl) ?_
  refine r_callV C w fv_RX12_380 (c_X12_areSpeakers_3 l D cy a0 a1 a2 a3 a4 a5 a6 a7 a8 a9 a10 a11 a12 a13 a14 a15 a16 a17) (hl.1.trans hml.symm) [1, 2] [0, 3, 4] (wr := [(a9, .inl (cy 2, 2465, .inr (.inl (fun _ => 0)))), (a7, .inl (cy 1, 1830, .inl (lxF (fun _ => 0) 2 20 (PP 20 2 (20 + 1 - 2))))), (a8, .inl (cy 1, 1830, .inl (lyF (fun _ => 0) 2 20 (PP 20 2 (20 + 1 - 2)))))]) ⟨rfl, rfl, rfl, rfl, by decide⟩ 0 rfl rfl rfl rfl rfl ⟨Nat.le_of_ble_eq_true rfl, Nat.le_of_ble_eq_true rfl, Nat.le_of_ble_eq_true rfl⟩ 0 0 ⟨rfl, rfl, Nat.le_of_ble_eq_true rfl, Nat.le_of_ble_eq_true rfl⟩ dX12_soonest_15 (fun u H locs hp w => ?_)
  have w : Wd D A s.heap [(a9, .inl (cy 2, 2465, .inr (.inl (fun _ => 0)))), (a7, .inl (cy 1, 1830, .inl (lxF (fun _ => 0) 2 20 (PP 20 2 (20 + 1 - 2))))), (a8, .inl (cy 1, 1830, .inl (lyF (fun _ => 0) 2 20 (PP 20 2 (20 + 1 - 2))))), (a0, .inr (12, [.ref a1, .ref a2, .ref a3, .ref a4, .ref a5, .int 0, .ref a6, .int 0, .int 0, .int 0, .int 0, .int 0, .int 0, .int 0, .int 0, .int 0, .int 0, .int (-1), .ref a7, .ref a8, .int 190, .ref a9, .int 0, .ref a10, .ref a11, .ref a12, .ref a13, .ref a14, .int 0, .ref a15, .ref a16, .ref a17])), (a1, .inl (cy 1, 1868, .inl (upd (upd (upd (fun _ => 0) 1 2) 2 20) 3 120)))] _ _ := w
  refine r_top (g2 := F0 m 18 ls [.int 1, .ref a0]) rfl ?_
  refine b_if_eq_f C (tgt := 33) dX12_soonest_18 (by decide) (by decide) ?_
  refine lv_aload_n C.1 C.2.1 dX12_soonest_21 rfl (lv_at hl 0 rfl) ?_
  refine lv_iload_n C.1 C.2.1 dX12_soonest_22 rfl (lv_at hl 3 rfl) ?_
  refine r_callV C w fv_RX12_380 (c_X12_areSpeakers_3 l D cy a0 a1 a2 a3 a4 a5 a6 a7 a8 a9 a10 a11 a12 a13 a14 a15 a16 a17) (hl.1.trans hml.symm) [3, 4] [0, 1, 2] (wr := [(a9, .inl (cy 2, 2465, .inr (.inl (fun _ => 0)))), (a7, .inl (cy 1, 1830, .inl (lxF (fun _ => 0) 2 20 (PP 20 2 (20 + 1 - 2))))), (a8, .inl (cy 1, 1830, .inl (lyF (fun _ => 0) 2 20 (PP 20 2 (20 + 1 - 2)))))]) ⟨rfl, rfl, rfl, rfl, by decide⟩ 0 rfl rfl rfl rfl rfl ⟨Nat.le_of_ble_eq_true rfl, Nat.le_of_ble_eq_true rfl, Nat.le_of_ble_eq_true rfl⟩ 0 0 ⟨rfl, rfl, Nat.le_of_ble_eq_true rfl, Nat.le_of_ble_eq_true rfl⟩ dX12_soonest_23 (fun u H locs hp w => ?_)
  have w : Wd D A s.heap [(a9, .inl (cy 2, 2465, .inr (.inl (fun _ => 0)))), (a7, .inl (cy 1, 1830, .inl (lxF (fun _ => 0) 2 20 (PP 20 2 (20 + 1 - 2))))), (a8, .inl (cy 1, 1830, .inl (lyF (fun _ => 0) 2 20 (PP 20 2 (20 + 1 - 2))))), (a0, .inr (12, [.ref a1, .ref a2, .ref a3, .ref a4, .ref a5, .int 0, .ref a6, .int 0, .int 0, .int 0, .int 0, .int 0, .int 0, .int 0, .int 0, .int 0, .int 0, .int (-1), .ref a7, .ref a8, .int 190, .ref a9, .int 0, .ref a10, .ref a11, .ref a12, .ref a13, .ref a14, .int 0, .ref a15, .ref a16, .ref a17])), (a1, .inl (cy 1, 1868, .inl (upd (upd (upd (fun _ => 0) 1 2) 2 20) 3 120)))] _ _ := w
  refine r_top (g2 := F0 m 26 ls [.int 1, .ref a0]) rfl ?_
  refine b_if_eq_f C (tgt := 33) dX12_soonest_26 (by decide) (by decide) ?_
  refine lv_iconst (v := 0) C.1 C.2.1 dX12_soonest_29 (by decide) ?_
  refine lv_goto (tgt := 34) C.1 C.2.1 dX12_soonest_30 (by decide) ?_
  refine r_put C w 3 rfl rfl 5 (by decide) fl_RX12_71 rfl (ty := .int) (tyX12_ok 5 (by decide)) rfl rfl (Nat.le_of_ble_eq_true rfl) [(a9, .inl (cy 2, 2465, .inr (.inl (fun _ => 0)))), (a7, .inl (cy 1, 1830, .inl (lxF (fun _ => 0) 2 20 (PP 20 2 (20 + 1 - 2))))), (a8, .inl (cy 1, 1830, .inl (lyF (fun _ => 0) 2 20 (PP 20 2 (20 + 1 - 2))))), (a0, .inr (12, [.ref a1, .ref a2, .ref a3, .ref a4, .ref a5, .int 0, .ref a6, .int 0, .int 0, .int 0, .int 0, .int 0, .int 0, .int 0, .int 0, .int 0, .int 0, .int (-1), .ref a7, .ref a8, .int 190, .ref a9, .int 0, .ref a10, .ref a11, .ref a12, .ref a13, .ref a14, .int 0, .ref a15, .ref a16, .ref a17])), (a1, .inl (cy 1, 1868, .inl (upd (upd (upd (fun _ => 0) 1 2) 2 20) 3 120)))] rfl dX12_soonest_34 (fun H locs w => ?_)
  refine lv_aload_n C.1 C.2.1 dX12_soonest_37 rfl (lv_at hl 0 rfl) ?_
  refine r_get C w 3 rfl rfl 5 (by decide) fl_RX12_71 (v := .int 0) rfl dX12_soonest_38 ?_
  refine b_if_le_t C (tgt := 46) dX12_soonest_41 (by decide) (by decide) ?_
  refine lv_aload_n C.1 C.2.1 dX12_soonest_46 rfl (lv_at hl 0 rfl) ?_
  refine lv_iconst (v := 0) C.1 C.2.1 dX12_soonest_47 (by decide) ?_
  refine lv_iconst (v := 1) C.1 C.2.1 dX12_soonest_48 (by decide) ?_
  refine r_callV C w fv_RX12_323 (c_X12_fills_2 l D cy a0 a1 a2 a3 a4 a5 a6 a7 a8 a9 a10 a11 a12 a13 a14 a15 a16 a17) (hl.1.trans hml.symm) [3, 0] [1, 2, 4] (wr := [(a7, .inl (cy 1, 1830, .inl (lxF (fun _ => 0) 2 20 (PP 20 2 (20 + 1 - 2))))), (a8, .inl (cy 1, 1830, .inl (lyF (fun _ => 0) 2 20 (PP 20 2 (20 + 1 - 2))))), (a1, .inl (cy 1, 1868, .inl (upd (upd (upd (fun _ => 0) 1 2) 2 20) 3 120)))]) ⟨rfl, rfl, rfl, rfl, by decide⟩ 0 rfl rfl rfl rfl rfl ⟨Nat.le_of_ble_eq_true rfl, Nat.le_of_ble_eq_true rfl, Nat.le_of_ble_eq_true rfl⟩ 0 0 ⟨rfl, rfl, Nat.le_of_ble_eq_true rfl, Nat.le_of_ble_eq_true rfl⟩ dX12_soonest_49 (fun u H locs hp w => ?_)
  have w : Wd D A s.heap [(a7, .inl (cy 1, 1830, .inl (lxF (fun _ => 0) 2 20 (PP 20 2 (20 + 1 - 2))))), (a8, .inl (cy 1, 1830, .inl (lyF (fun _ => 0) 2 20 (PP 20 2 (20 + 1 - 2))))), (a1, .inl (cy 1, 1868, .inl (upd (upd (upd (fun _ => 0) 1 2) 2 20) 3 120))), (a0, .inr (12, [.ref a1, .ref a2, .ref a3, .ref a4, .ref a5, .int 0, .ref a6, .int 0, .int 0, .int 0, .int 0, .int 0, .int 0, .int 0, .int 0, .int 0, .int 0, .int (-1), .ref a7, .ref a8, .int 190, .ref a9, .int 0, .ref a10, .ref a11, .ref a12, .ref a13, .ref a14, .int 0, .ref a15, .ref a16, .ref a17])), (a9, .inl (cy 2, 2465, .inr (.inl (rwF (fun _ => 0) (PP 20 2 (20 + 1 - 2))))))] _ _ := w
  refine r_top (g2 := F0 m 52 ls []) rfl ?_
  refine lv_iconst (v := 0) C.1 C.2.1 dX12_soonest_52 (by decide) ?_
  refine lv_istore (lv' := [(5, .int 0), (0, .ref a0), (1, .int x0), (2, .int 0), (3, .int 0), (4, .int (-1))]) C.1 C.2.1 dX12_soonest_53 hl (by decide) rfl (fun ls hl => ?_)
  refine lv_iload C.1 C.2.1 dX12_soonest_55 (lv_at hl 0 rfl) ?_
  refine lv_iconst (v := 5) C.1 C.2.1 dX12_soonest_57 (by decide) ?_
  refine b_icmp_gt_f C (tgt := 118) dX12_soonest_58 (by decide) (by decide) ?_
  refine lv_aload_n C.1 C.2.1 dX12_soonest_61 rfl (lv_at hl 1 rfl) ?_
  refine lv_iload_n C.1 C.2.1 dX12_soonest_62 rfl (lv_at hl 2 rfl) ?_
  refine lv_iload_n C.1 C.2.1 dX12_soonest_63 rfl (lv_at hl 3 rfl) ?_
  refine lv_iload_n C.1 C.2.1 dX12_soonest_64 rfl (lv_at hl 4 rfl) ?_
  refine lv_iconst (v := 0) C.1 C.2.1 dX12_soonest_65 (by decide) ?_
  refine lv_iload C.1 C.2.1 dX12_soonest_66 (lv_at hl 0 rfl) ?_
  refine r_callV C w fv_RX12_376 (c_X12_soon_0 l D cy a0 a1 a2 a3 a4 a5 a6 a7 a8 a9 a10 a11 a12 a13 a14 a15 a16 a17 x0) (hl.1.trans hml.symm) [3, 2] [0, 1, 4] (wr := [(a7, .inl (cy 1, 1830, .inl (lxF (fun _ => 0) 2 20 (PP 20 2 (20 + 1 - 2))))), (a8, .inl (cy 1, 1830, .inl (lyF (fun _ => 0) 2 20 (PP 20 2 (20 + 1 - 2))))), (a9, .inl (cy 2, 2465, .inr (.inl (rwF (fun _ => 0) (PP 20 2 (20 + 1 - 2))))))]) ⟨rfl, rfl, rfl, rfl, by decide⟩ 0 rfl rfl rfl rfl rfl ⟨Nat.le_of_ble_eq_true rfl, Nat.le_of_ble_eq_true rfl, Nat.le_of_ble_eq_true rfl⟩ 0 0 ⟨rfl, rfl, Nat.le_of_ble_eq_true rfl, Nat.le_of_ble_eq_true rfl⟩ dX12_soonest_68 (fun u H locs hp w => ?_)
  have w : Wd D A s.heap [(a7, .inl (cy 1, 1830, .inl (lxF (fun _ => 0) 2 20 (PP 20 2 (20 + 1 - 2))))), (a8, .inl (cy 1, 1830, .inl (lyF (fun _ => 0) 2 20 (PP 20 2 (20 + 1 - 2))))), (a9, .inl (cy 2, 2465, .inr (.inl (rwF (fun _ => 0) (PP 20 2 (20 + 1 - 2)))))), (a0, .inr (12, [.ref a1, .ref a2, .ref a3, .ref a4, .ref a5, .int 0, .ref a6, .int 0, .int 0, .int 0, .int 0, .int 0, .int 0, .int 0, .int 0, .int 0, .int 0, .int (-1), .ref a7, .ref a8, .int 190, .ref a9, .int 0, .ref a10, .ref a11, .ref a12, .ref a13, .ref a14, .int 0, .ref a15, .ref a16, .ref a17])), (a1, .inl (cy 1, 1868, .inl (upd (upd (upd (fun _ => 0) 1 2) 2 20) 3 120)))] _ _ := w
  refine r_top (g2 := F0 m 71 ls [.int 1]) rfl ?_
  refine b_if_eq_f C (tgt := 112) dX12_soonest_71 (by decide) (by decide) ?_
  refine lv_iload C.1 C.2.1 dX12_soonest_74 (lv_at hl 5 rfl) ?_
  refine lv_iconst (v := (-1)) C.1 C.2.1 dX12_soonest_76 (by decide) ?_
  refine b_icmp_ne_f C (tgt := 85) dX12_soonest_77 (by decide) (by decide) ?_
  refine lv_iload C.1 C.2.1 dX12_soonest_80 (lv_at hl 0 rfl) ?_
  refine lv_goto (tgt := 111) C.1 C.2.1 dX12_soonest_82 (by decide) ?_
  exact r_iret C w hlocks () hr rfl rfl trivial [0, 1, 2, 3, 4] rfl rfl ⟨Nat.le_of_ble_eq_true rfl, Nat.le_of_ble_eq_true rfl⟩ dX12_soonest_111
theorem dX12_orders_0 : decode cX12_orders 0 = .ok (.aload_n 0, 1) := by decide +kernel
theorem dX12_orders_1 : decode cX12_orders 1 = .ok (.iconst 0, 1) := by decide +kernel
theorem dX12_orders_2 : decode cX12_orders 2 = .ok (.putfield 71, 3) := by decide +kernel
theorem dX12_orders_5 : decode cX12_orders 5 = .ok (.aload_n 0, 1) := by decide +kernel
theorem dX12_orders_6 : decode cX12_orders 6 = .ok (.iload_n 1, 1) := by decide +kernel
theorem dX12_orders_7 : decode cX12_orders 7 = .ok (.invokevirtual 256, 3) := by decide +kernel
theorem dX12_orders_10 : decode cX12_orders 10 = .ok (.ifCond .ne 9, 3) := by decide +kernel
theorem dX12_orders_13 : decode cX12_orders 13 = .ok (.aload_n 0, 1) := by decide +kernel
theorem dX12_orders_14 : decode cX12_orders 14 = .ok (.iconst 1, 1) := by decide +kernel
theorem dX12_orders_15 : decode cX12_orders 15 = .ok (.invokevirtual 237, 3) := by decide +kernel
theorem dX12_orders_18 : decode cX12_orders 18 = .ok (.ireturn, 1) := by decide +kernel
set_option maxRecDepth 100000 in
set_option maxHeartbeats 4000000 in
theorem c_X12_orders_0 (l : Launch) (D : va_G) (cy : Nat → ClassId) (a0 a1 a2 a3 a4 a5 a6 a7 a8 a9 a10 a11 a12 a13 a14 a15 a16 a17 : Nat) (x0 : Int32) (x1 : Int32) (k0 : x0 < 0) : Ct l D cy yX12_orders cX12_orders 3 (some .int) 2 46 0 0 [(a0, .inr (12, [.ref a1, .ref a2, .ref a3, .ref a4, .ref a5, .int 0, .ref a6, .int 0, .int 0, .int 0, .int 0, .int 0, .int 0, .int 0, .int 0, .int 0, .int 0, .int (-1), .ref a7, .ref a8, .int 0, .ref a9, .int 0, .ref a10, .ref a11, .ref a12, .ref a13, .ref a14, .int 0, .ref a15, .ref a16, .ref a17])), (a1, .inl (cy 1, 1868, .inl (upd (upd (upd (fun _ => 0) 1 2) 2 20) 3 120))), (a7, .inl (cy 1, 1830, .inl (fun _ => 0))), (a8, .inl (cy 1, 1830, .inl (fun _ => 0)))] [.ref a0, .int x0, .int x1] (fun u : Unit => some (.int 0)) (fun _ => True) (fun u : Unit => [(a1, .inl (cy 1, 1868, .inl (upd (upd (upd (fun _ => 0) 1 2) 2 20) 3 120))), (a7, .inl (cy 1, 1830, .inl (lxF (fun _ => 0) 2 20 (PP 20 2 (20 + 1 - 2))))), (a8, .inl (cy 1, 1830, .inl (lyF (fun _ => 0) 2 20 (PP 20 2 (20 + 1 - 2))))), (a0, .inr (12, [.ref a1, .ref a2, .ref a3, .ref a4, .ref a5, .int 1, .ref a6, .int 0, .int 0, .int 0, .int 0, .int 0, .int 0, .int 0, .int 0, .int 0, .int 0, .int (-1), .ref a7, .ref a8, .int 190, .ref a9, .int 0, .ref a10, .ref a11, .ref a12, .ref a13, .ref a14, .int 0, .ref a15, .ref a16, .ref a17]))]) := by
  refine Ct.of (by decide +kernel) (Nat.le_of_ble_eq_true rfl) ?_
  intro p e s m args below meth c A ls C hr hlocks hml hnm w hl
  have hl : lv_has ls 3 [(0, .ref a0), (1, .int x0), (2, .int x1)] := hl
  refine lv_aload_n C.1 C.2.1 dX12_orders_0 rfl (lv_at hl 0 rfl) ?_
  refine lv_iconst (v := 0) C.1 C.2.1 dX12_orders_1 (by decide) ?_
  refine r_put C w 0 rfl rfl 5 (by decide) fl_RX12_71 rfl (ty := .int) (tyX12_ok 5 (by decide)) rfl rfl (Nat.le_of_ble_eq_true rfl) [(a0, .inr (12, [.ref a1, .ref a2, .ref a3, .ref a4, .ref a5, .int 0, .ref a6, .int 0, .int 0, .int 0, .int 0, .int 0, .int 0, .int 0, .int 0, .int 0, .int 0, .int (-1), .ref a7, .ref a8, .int 0, .ref a9, .int 0, .ref a10, .ref a11, .ref a12, .ref a13, .ref a14, .int 0, .ref a15, .ref a16, .ref a17])), (a1, .inl (cy 1, 1868, .inl (upd (upd (upd (fun _ => 0) 1 2) 2 20) 3 120))), (a7, .inl (cy 1, 1830, .inl (fun _ => 0))), (a8, .inl (cy 1, 1830, .inl (fun _ => 0)))] rfl dX12_orders_2 (fun H locs w => ?_)
  refine lv_aload_n C.1 C.2.1 dX12_orders_5 rfl (lv_at hl 0 rfl) ?_
  refine lv_iload_n C.1 C.2.1 dX12_orders_6 rfl (lv_at hl 1 rfl) ?_
  refine r_callV C w fv_RX12_256 (c_X12_isWorld_0 l D cy a0 a1 a2 a3 a4 a5 a6 a7 a8 a9 a10 a11 a12 a13 a14 a15 a16 a17 x0 k0) (hl.1.trans hml.symm) [0, 1, 2, 3] [] (wr := []) ⟨rfl, rfl, rfl, rfl, by decide⟩ 0 rfl rfl rfl rfl rfl ⟨Nat.le_of_ble_eq_true rfl, Nat.le_of_ble_eq_true rfl, Nat.le_of_ble_eq_true rfl⟩ 0 0 ⟨rfl, rfl, Nat.le_of_ble_eq_true rfl, Nat.le_of_ble_eq_true rfl⟩ dX12_orders_7 (fun u H locs hp w => ?_)
  have w : Wd D A s.heap [(a0, .inr (12, [.ref a1, .ref a2, .ref a3, .ref a4, .ref a5, .int 0, .ref a6, .int 0, .int 0, .int 0, .int 0, .int 0, .int 0, .int 0, .int 0, .int 0, .int 0, .int (-1), .ref a7, .ref a8, .int 190, .ref a9, .int 0, .ref a10, .ref a11, .ref a12, .ref a13, .ref a14, .int 0, .ref a15, .ref a16, .ref a17])), (a1, .inl (cy 1, 1868, .inl (upd (upd (upd (fun _ => 0) 1 2) 2 20) 3 120))), (a7, .inl (cy 1, 1830, .inl (lxF (fun _ => 0) 2 20 (PP 20 2 (20 + 1 - 2))))), (a8, .inl (cy 1, 1830, .inl (lyF (fun _ => 0) 2 20 (PP 20 2 (20 + 1 - 2)))))] _ _ := w
  refine r_top (g2 := F0 m 10 ls [.int 0]) rfl ?_
  refine b_if_ne_f C (tgt := 19) dX12_orders_10 (by decide) (by decide) ?_
  refine lv_aload_n C.1 C.2.1 dX12_orders_13 rfl (lv_at hl 0 rfl) ?_
  refine lv_iconst (v := 1) C.1 C.2.1 dX12_orders_14 (by decide) ?_
  refine r_callV C w fv_RX12_237 (c_X12_fails_1 l D cy a0 a1 a2 a3 a4 a5 a6 a7 a8 a9 a10 a11 a12 a13 a14 a15 a16 a17) (hl.1.trans hml.symm) [0] [1, 2, 3] (wr := [(a1, .inl (cy 1, 1868, .inl (upd (upd (upd (fun _ => 0) 1 2) 2 20) 3 120))), (a7, .inl (cy 1, 1830, .inl (lxF (fun _ => 0) 2 20 (PP 20 2 (20 + 1 - 2))))), (a8, .inl (cy 1, 1830, .inl (lyF (fun _ => 0) 2 20 (PP 20 2 (20 + 1 - 2)))))]) ⟨rfl, rfl, rfl, rfl, by decide⟩ 0 rfl rfl rfl rfl rfl ⟨Nat.le_of_ble_eq_true rfl, Nat.le_of_ble_eq_true rfl, Nat.le_of_ble_eq_true rfl⟩ 0 0 ⟨rfl, rfl, Nat.le_of_ble_eq_true rfl, Nat.le_of_ble_eq_true rfl⟩ dX12_orders_15 (fun u H locs hp w => ?_)
  have w : Wd D A s.heap [(a1, .inl (cy 1, 1868, .inl (upd (upd (upd (fun _ => 0) 1 2) 2 20) 3 120))), (a7, .inl (cy 1, 1830, .inl (lxF (fun _ => 0) 2 20 (PP 20 2 (20 + 1 - 2))))), (a8, .inl (cy 1, 1830, .inl (lyF (fun _ => 0) 2 20 (PP 20 2 (20 + 1 - 2))))), (a0, .inr (12, [.ref a1, .ref a2, .ref a3, .ref a4, .ref a5, .int 1, .ref a6, .int 0, .int 0, .int 0, .int 0, .int 0, .int 0, .int 0, .int 0, .int 0, .int 0, .int (-1), .ref a7, .ref a8, .int 190, .ref a9, .int 0, .ref a10, .ref a11, .ref a12, .ref a13, .ref a14, .int 0, .ref a15, .ref a16, .ref a17]))] _ _ := w
  refine r_top (g2 := F0 m 18 ls [.int 0]) rfl ?_
  exact r_iret C w hlocks () hr rfl rfl trivial [0, 1, 2, 3] rfl rfl ⟨Nat.le_of_ble_eq_true rfl, Nat.le_of_ble_eq_true rfl⟩ dX12_orders_18
set_option maxRecDepth 100000 in
set_option maxHeartbeats 4000000 in
theorem c_X12_orders_1 (l : Launch) (D : va_G) (cy : Nat → ClassId) (a0 a1 a2 a3 a4 a5 a6 a7 a8 a9 a10 a11 a12 a13 a14 a15 a16 a17 : Nat) (x0 : Int32) (x1 : Int32) (k0 : ¬ x0 < 0) (k1 : 189 < x0) : Ct l D cy yX12_orders cX12_orders 3 (some .int) 2 46 0 0 [(a0, .inr (12, [.ref a1, .ref a2, .ref a3, .ref a4, .ref a5, .int 0, .ref a6, .int 0, .int 0, .int 0, .int 0, .int 0, .int 0, .int 0, .int 0, .int 0, .int 0, .int (-1), .ref a7, .ref a8, .int 0, .ref a9, .int 0, .ref a10, .ref a11, .ref a12, .ref a13, .ref a14, .int 0, .ref a15, .ref a16, .ref a17])), (a1, .inl (cy 1, 1868, .inl (upd (upd (upd (fun _ => 0) 1 2) 2 20) 3 120))), (a7, .inl (cy 1, 1830, .inl (fun _ => 0))), (a8, .inl (cy 1, 1830, .inl (fun _ => 0)))] [.ref a0, .int x0, .int x1] (fun u : Unit => some (.int 0)) (fun _ => True) (fun u : Unit => [(a1, .inl (cy 1, 1868, .inl (upd (upd (upd (fun _ => 0) 1 2) 2 20) 3 120))), (a7, .inl (cy 1, 1830, .inl (lxF (fun _ => 0) 2 20 (PP 20 2 (20 + 1 - 2))))), (a8, .inl (cy 1, 1830, .inl (lyF (fun _ => 0) 2 20 (PP 20 2 (20 + 1 - 2))))), (a0, .inr (12, [.ref a1, .ref a2, .ref a3, .ref a4, .ref a5, .int 1, .ref a6, .int 0, .int 0, .int 0, .int 0, .int 0, .int 0, .int 0, .int 0, .int 0, .int 0, .int (-1), .ref a7, .ref a8, .int 190, .ref a9, .int 0, .ref a10, .ref a11, .ref a12, .ref a13, .ref a14, .int 0, .ref a15, .ref a16, .ref a17]))]) := by
  refine Ct.of (by decide +kernel) (Nat.le_of_ble_eq_true rfl) ?_
  intro p e s m args below meth c A ls C hr hlocks hml hnm w hl
  have hl : lv_has ls 3 [(0, .ref a0), (1, .int x0), (2, .int x1)] := hl
  refine lv_aload_n C.1 C.2.1 dX12_orders_0 rfl (lv_at hl 0 rfl) ?_
  refine lv_iconst (v := 0) C.1 C.2.1 dX12_orders_1 (by decide) ?_
  refine r_put C w 0 rfl rfl 5 (by decide) fl_RX12_71 rfl (ty := .int) (tyX12_ok 5 (by decide)) rfl rfl (Nat.le_of_ble_eq_true rfl) [(a0, .inr (12, [.ref a1, .ref a2, .ref a3, .ref a4, .ref a5, .int 0, .ref a6, .int 0, .int 0, .int 0, .int 0, .int 0, .int 0, .int 0, .int 0, .int 0, .int 0, .int (-1), .ref a7, .ref a8, .int 0, .ref a9, .int 0, .ref a10, .ref a11, .ref a12, .ref a13, .ref a14, .int 0, .ref a15, .ref a16, .ref a17])), (a1, .inl (cy 1, 1868, .inl (upd (upd (upd (fun _ => 0) 1 2) 2 20) 3 120))), (a7, .inl (cy 1, 1830, .inl (fun _ => 0))), (a8, .inl (cy 1, 1830, .inl (fun _ => 0)))] rfl dX12_orders_2 (fun H locs w => ?_)
  refine lv_aload_n C.1 C.2.1 dX12_orders_5 rfl (lv_at hl 0 rfl) ?_
  refine lv_iload_n C.1 C.2.1 dX12_orders_6 rfl (lv_at hl 1 rfl) ?_
  refine r_callV C w fv_RX12_256 (c_X12_isWorld_2 l D cy a0 a1 a2 a3 a4 a5 a6 a7 a8 a9 a10 a11 a12 a13 a14 a15 a16 a17 x0 k0 k1) (hl.1.trans hml.symm) [0, 1, 2, 3] [] (wr := []) ⟨rfl, rfl, rfl, rfl, by decide⟩ 0 rfl rfl rfl rfl rfl ⟨Nat.le_of_ble_eq_true rfl, Nat.le_of_ble_eq_true rfl, Nat.le_of_ble_eq_true rfl⟩ 0 0 ⟨rfl, rfl, Nat.le_of_ble_eq_true rfl, Nat.le_of_ble_eq_true rfl⟩ dX12_orders_7 (fun u H locs hp w => ?_)
  have w : Wd D A s.heap [(a0, .inr (12, [.ref a1, .ref a2, .ref a3, .ref a4, .ref a5, .int 0, .ref a6, .int 0, .int 0, .int 0, .int 0, .int 0, .int 0, .int 0, .int 0, .int 0, .int 0, .int (-1), .ref a7, .ref a8, .int 190, .ref a9, .int 0, .ref a10, .ref a11, .ref a12, .ref a13, .ref a14, .int 0, .ref a15, .ref a16, .ref a17])), (a1, .inl (cy 1, 1868, .inl (upd (upd (upd (fun _ => 0) 1 2) 2 20) 3 120))), (a7, .inl (cy 1, 1830, .inl (lxF (fun _ => 0) 2 20 (PP 20 2 (20 + 1 - 2))))), (a8, .inl (cy 1, 1830, .inl (lyF (fun _ => 0) 2 20 (PP 20 2 (20 + 1 - 2)))))] _ _ := w
  refine r_top (g2 := F0 m 10 ls [.int 0]) rfl ?_
  refine b_if_ne_f C (tgt := 19) dX12_orders_10 (by decide) (by decide) ?_
  refine lv_aload_n C.1 C.2.1 dX12_orders_13 rfl (lv_at hl 0 rfl) ?_
  refine lv_iconst (v := 1) C.1 C.2.1 dX12_orders_14 (by decide) ?_
  refine r_callV C w fv_RX12_237 (c_X12_fails_1 l D cy a0 a1 a2 a3 a4 a5 a6 a7 a8 a9 a10 a11 a12 a13 a14 a15 a16 a17) (hl.1.trans hml.symm) [0] [1, 2, 3] (wr := [(a1, .inl (cy 1, 1868, .inl (upd (upd (upd (fun _ => 0) 1 2) 2 20) 3 120))), (a7, .inl (cy 1, 1830, .inl (lxF (fun _ => 0) 2 20 (PP 20 2 (20 + 1 - 2))))), (a8, .inl (cy 1, 1830, .inl (lyF (fun _ => 0) 2 20 (PP 20 2 (20 + 1 - 2)))))]) ⟨rfl, rfl, rfl, rfl, by decide⟩ 0 rfl rfl rfl rfl rfl ⟨Nat.le_of_ble_eq_true rfl, Nat.le_of_ble_eq_true rfl, Nat.le_of_ble_eq_true rfl⟩ 0 0 ⟨rfl, rfl, Nat.le_of_ble_eq_true rfl, Nat.le_of_ble_eq_true rfl⟩ dX12_orders_15 (fun u H locs hp w => ?_)
  have w : Wd D A s.heap [(a1, .inl (cy 1, 1868, .inl (upd (upd (upd (fun _ => 0) 1 2) 2 20) 3 120))), (a7, .inl (cy 1, 1830, .inl (lxF (fun _ => 0) 2 20 (PP 20 2 (20 + 1 - 2))))), (a8, .inl (cy 1, 1830, .inl (lyF (fun _ => 0) 2 20 (PP 20 2 (20 + 1 - 2))))), (a0, .inr (12, [.ref a1, .ref a2, .ref a3, .ref a4, .ref a5, .int 1, .ref a6, .int 0, .int 0, .int 0, .int 0, .int 0, .int 0, .int 0, .int 0, .int 0, .int 0, .int (-1), .ref a7, .ref a8, .int 190, .ref a9, .int 0, .ref a10, .ref a11, .ref a12, .ref a13, .ref a14, .int 0, .ref a15, .ref a16, .ref a17]))] _ _ := w
  refine r_top (g2 := F0 m 18 ls [.int 0]) rfl ?_
  exact r_iret C w hlocks () hr rfl rfl trivial [0, 1, 2, 3] rfl rfl ⟨Nat.le_of_ble_eq_true rfl, Nat.le_of_ble_eq_true rfl⟩ dX12_orders_18
theorem dX12_orders_19 : decode cX12_orders 19 = .ok (.aload_n 0, 1) := by decide +kernel
theorem dX12_orders_20 : decode cX12_orders 20 = .ok (.getfield 9, 3) := by decide +kernel
theorem dX12_orders_23 : decode cX12_orders 23 = .ok (.bipush 6, 2) := by decide +kernel
theorem dX12_orders_25 : decode cX12_orders 25 = .ok (.iaload, 1) := by decide +kernel
theorem dX12_orders_26 : decode cX12_orders 26 = .ok (.bipush 6, 2) := by decide +kernel
theorem dX12_orders_28 : decode cX12_orders 28 = .ok (.if_icmp .le 5, 3) := by decide +kernel
theorem dX12_orders_33 : decode cX12_orders 33 = .ok (.aload_n 0, 1) := by decide +kernel
theorem dX12_orders_34 : decode cX12_orders 34 = .ok (.getfield 9, 3) := by decide +kernel
theorem dX12_orders_37 : decode cX12_orders 37 = .ok (.aload_n 0, 1) := by decide +kernel
theorem dX12_orders_38 : decode cX12_orders 38 = .ok (.getfield 16, 3) := by decide +kernel
theorem dX12_orders_41 : decode cX12_orders 41 = .ok (.invokestatic 246, 3) := by decide +kernel
set_option maxRecDepth 100000 in
set_option maxHeartbeats 4000000 in
theorem c_X12_copies_1 (l : Launch) (D : va_G) (cy : Nat → ClassId) (a0 a1 : Nat) : Ct l D cy yX12_copies cX12_copies 3 none 0 0 0 0 [(a0, .inl (cy 1, 1868, .inl (upd (upd (upd (fun _ => 0) 1 2) 2 20) 3 120))), (a1, .inl (cy 1, 1868, .inl (fun _ => 0)))] [.ref a0, .ref a1] (fun u : Unit => none) (fun _ => True) (fun u : Unit => [(a0, .inl (cy 1, 1868, .inl (upd (upd (upd (fun _ => 0) 1 2) 2 20) 3 120))), (a1, .inl (cy 1, 1868, .inl (upd (upd (upd (fun _ => 0) 1 2) 2 20) 3 120)))]) := by
  refine Ct.of (by decide +kernel) (Nat.le_of_ble_eq_true rfl) ?_
  intro p e s m args below meth c A ls C hr hlocks hml hnm w hl
  have hl : lv_has ls 3 [(0, .ref a0), (1, .ref a1)] := hl
  refine lv_iconst (v := 0) C.1 C.2.1 dX12_copies_0 (by decide) ?_
  refine lv_istore_n (lv' := [(2, .int 0), (0, .ref a0), (1, .ref a1)]) C.1 C.2.1 dX12_copies_1 rfl hl (by decide) rfl (fun ls hl => ?_)
  refine lp_X12_copies_1 a0 a1 (upd (upd (upd (fun _ => 0) 1 2) 2 20) 3 120) (fun _ => 0) (by intro j hj; simp only [upd]; (repeat' split) <;> (first | rfl | omega)) C hml (w.re rfl) (lv_sub hl [1, 2, 0] rfl) (fun H locs ls w hl => ?_)
  have w : Wd D A s.heap [(a0, .inl (cy 1, 1868, .inl (upd (upd (upd (fun _ => 0) 1 2) 2 20) 3 120))), (a1, .inl (cy 1, 1868, .inl (upd (upd (upd (fun _ => 0) 1 2) 2 20) 3 120)))] _ _ := w
  exact r_vret C w hlocks () hr rfl trivial [0, 1] rfl rfl ⟨Nat.le_of_ble_eq_true rfl, Nat.le_of_ble_eq_true rfl⟩ dX12_copies_21
theorem dX12_orders_44 : decode cX12_orders 44 = .ok (.aload_n 0, 1) := by decide +kernel
theorem dX12_orders_45 : decode cX12_orders 45 = .ok (.iconst 0, 1) := by decide +kernel
theorem dX12_orders_46 : decode cX12_orders 46 = .ok (.putfield 395, 3) := by decide +kernel
theorem fl_RX12_395 : Cond.fieldLink RX12 395 "TwoSlipsModel" "ordersMany" "I" ∈ gw := gw_mem (by decide +kernel) (by decide +kernel)
theorem dX12_orders_49 : decode cX12_orders 49 = .ok (.aload_n 0, 1) := by decide +kernel
theorem dX12_orders_50 : decode cX12_orders 50 = .ok (.iconst 0, 1) := by decide +kernel
theorem dX12_orders_51 : decode cX12_orders 51 = .ok (.iconst 0, 1) := by decide +kernel
theorem dX12_orders_52 : decode cX12_orders 52 = .ok (.iload_n 1, 1) := by decide +kernel
theorem dX12_orders_53 : decode cX12_orders 53 = .ok (.invokevirtual 398, 3) := by decide +kernel
theorem dX12_triesOrders_0 : decode cX12_triesOrders 0 = .ok (.aload_n 0, 1) := by decide +kernel
theorem dX12_triesOrders_1 : decode cX12_triesOrders 1 = .ok (.getfield 16, 3) := by decide +kernel
theorem dX12_triesOrders_4 : decode cX12_triesOrders 4 = .ok (.bipush 6, 2) := by decide +kernel
theorem dX12_triesOrders_6 : decode cX12_triesOrders 6 = .ok (.iaload, 1) := by decide +kernel
theorem dX12_triesOrders_7 : decode cX12_triesOrders 7 = .ok (.istore 4, 2) := by decide +kernel
theorem dX12_triesOrders_9 : decode cX12_triesOrders 9 = .ok (.iload_n 2, 1) := by decide +kernel
theorem dX12_triesOrders_10 : decode cX12_triesOrders 10 = .ok (.iload 4, 2) := by decide +kernel
theorem dX12_triesOrders_12 : decode cX12_triesOrders 12 = .ok (.if_icmp .ne 66, 3) := by decide +kernel
theorem dX12_triesOrders_15 : decode cX12_triesOrders 15 = .ok (.aload_n 0, 1) := by decide +kernel
theorem dX12_triesOrders_16 : decode cX12_triesOrders 16 = .ok (.invokevirtual 330, 3) := by decide +kernel
set_option maxRecDepth 100000 in
set_option maxHeartbeats 4000000 in
theorem c_X12_layPairs_4 (l : Launch) (D : va_G) (cy : Nat → ClassId) (a0 a1 a2 a3 a4 a5 a6 a7 a8 a9 a10 a11 a12 a13 a14 a15 a16 a17 : Nat) : Ct l D cy yX12_layPairs cX12_layPairs 3 none 0 0 0 0 [(a0, .inr (12, [.ref a1, .ref a2, .ref a3, .ref a4, .ref a5, .int 0, .ref a6, .int 0, .int 0, .int 0, .int 0, .int 0, .int 0, .int 0, .int 0, .int 0, .int 0, .int (-1), .ref a7, .ref a8, .int 190, .ref a9, .int 0, .ref a10, .ref a11, .ref a12, .ref a13, .ref a14, .int 0, .ref a15, .ref a16, .ref a17])), (a1, .inl (cy 1, 1868, .inl (upd (upd (upd (fun _ => 0) 1 2) 2 20) 3 120))), (a7, .inl (cy 1, 1830, .inl (lxF (fun _ => 0) 2 20 (PP 20 2 (20 + 1 - 2))))), (a8, .inl (cy 1, 1830, .inl (lyF (fun _ => 0) 2 20 (PP 20 2 (20 + 1 - 2)))))] [.ref a0] (fun u : Unit => none) (fun _ => True) (fun u : Unit => [(a0, .inr (12, [.ref a1, .ref a2, .ref a3, .ref a4, .ref a5, .int 0, .ref a6, .int 0, .int 0, .int 0, .int 0, .int 0, .int 0, .int 0, .int 0, .int 0, .int 0, .int (-1), .ref a7, .ref a8, .int 190, .ref a9, .int 0, .ref a10, .ref a11, .ref a12, .ref a13, .ref a14, .int 0, .ref a15, .ref a16, .ref a17])), (a1, .inl (cy 1, 1868, .inl (upd (upd (upd (fun _ => 0) 1 2) 2 20) 3 120))), (a7, .inl (cy 1, 1830, .inl (lxF (lxF (fun _ => 0) 2 20 (PP 20 2 (20 + 1 - 2))) 2 20 (PP 20 2 (20 + 1 - 2))))), (a8, .inl (cy 1, 1830, .inl (lyF (lyF (fun _ => 0) 2 20 (PP 20 2 (20 + 1 - 2))) 2 20 (PP 20 2 (20 + 1 - 2)))))]) := by
  refine Ct.of (by decide +kernel) (Nat.le_of_ble_eq_true rfl) ?_
  intro p e s m args below meth c A ls C hr hlocks hml hnm w hl
  have hl : lv_has ls 3 [(0, .ref a0)] := hl
  refine lv_aload_n C.1 C.2.1 dX12_layPairs_0 rfl (lv_at hl 0 rfl) ?_
  refine lv_iconst (v := 0) C.1 C.2.1 dX12_layPairs_1 (by decide) ?_
  refine r_put C w 0 rfl rfl 20 (by decide) fl_RX12_250 rfl (ty := .int) (tyX12_ok 20 (by decide)) rfl rfl (Nat.le_of_ble_eq_true rfl) [(a0, .inr (12, [.ref a1, .ref a2, .ref a3, .ref a4, .ref a5, .int 0, .ref a6, .int 0, .int 0, .int 0, .int 0, .int 0, .int 0, .int 0, .int 0, .int 0, .int 0, .int (-1), .ref a7, .ref a8, .int 0, .ref a9, .int 0, .ref a10, .ref a11, .ref a12, .ref a13, .ref a14, .int 0, .ref a15, .ref a16, .ref a17])), (a1, .inl (cy 1, 1868, .inl (upd (upd (upd (fun _ => 0) 1 2) 2 20) 3 120))), (a7, .inl (cy 1, 1830, .inl (lxF (fun _ => 0) 2 20 (PP 20 2 (20 + 1 - 2))))), (a8, .inl (cy 1, 1830, .inl (lyF (fun _ => 0) 2 20 (PP 20 2 (20 + 1 - 2)))))] rfl dX12_layPairs_2 (fun H locs w => ?_)
  refine lv_aload_n C.1 C.2.1 dX12_layPairs_5 rfl (lv_at hl 0 rfl) ?_
  refine r_get C w 0 rfl rfl 0 (by decide) fl_RX12_9 (v := .ref a1) rfl dX12_layPairs_6 ?_
  refine lv_iconst (v := 1) C.1 C.2.1 dX12_layPairs_9 (by decide) ?_
  refine r_iald C w 1 rfl (v := 2) (vinD (by decide)) rfl dX12_layPairs_10 ?_
  refine lv_istore_n (lv' := [(1, .int 2), (0, .ref a0)]) C.1 C.2.1 dX12_layPairs_11 rfl hl (by decide) rfl (fun ls hl => ?_)
  refine lp_X12_layPairs_1 a0 a1 a2 a3 a4 a5 a6 a7 a8 a9 a10 a11 a12 a13 a14 a15 a16 a17 (lxF (fun _ => 0) 2 20 (PP 20 2 (20 + 1 - 2))) (lyF (fun _ => 0) 2 20 (PP 20 2 (20 + 1 - 2))) 2 20 2 20 (by decide) rfl rfl C hml (w.re rfl) (lv_sub hl [1, 0] rfl) (fun H locs ls pv em w hl => ?_)
  have em : pv = 190 := by rw [em]; decide +kernel
  subst em
  have w : Wd D A s.heap [(a0, .inr (12, [.ref a1, .ref a2, .ref a3, .ref a4, .ref a5, .int 0, .ref a6, .int 0, .int 0, .int 0, .int 0, .int 0, .int 0, .int 0, .int 0, .int 0, .int 0, .int (-1), .ref a7, .ref a8, .int 190, .ref a9, .int 0, .ref a10, .ref a11, .ref a12, .ref a13, .ref a14, .int 0, .ref a15, .ref a16, .ref a17])), (a1, .inl (cy 1, 1868, .inl (upd (upd (upd (fun _ => 0) 1 2) 2 20) 3 120))), (a7, .inl (cy 1, 1830, .inl (lxF (lxF (fun _ => 0) 2 20 (PP 20 2 (20 + 1 - 2))) 2 20 (PP 20 2 (20 + 1 - 2))))), (a8, .inl (cy 1, 1830, .inl (lyF (lyF (fun _ => 0) 2 20 (PP 20 2 (20 + 1 - 2))) 2 20 (PP 20 2 (20 + 1 - 2)))))] _ _ := w
  exact r_vret C w hlocks () hr rfl trivial [0, 1, 2, 3] rfl rfl ⟨Nat.le_of_ble_eq_true rfl, Nat.le_of_ble_eq_true rfl⟩ dX12_layPairs_95
set_option maxRecDepth 100000 in
set_option maxHeartbeats 4000000 in
theorem c_X12_puts_4 (l : Launch) (D : va_G) (cy : Nat → ClassId) (a0 a1 a2 a3 a4 a5 a6 a7 a8 a9 a10 a11 a12 a13 a14 a15 a16 a17 : Nat) (x0 : Int32) (x1 : Int32) (f0 : Nat → Int64) (k0 : ¬ x0 < 0) (k1 : x0 < 1830) : Ct l D cy yX12_puts cX12_puts 7 none 0 0 0 0 [(a0, .inr (12, [.ref a1, .ref a2, .ref a3, .ref a4, .ref a5, .int 0, .ref a6, .int 0, .int 0, .int 0, .int 0, .int 0, .int 0, .int 0, .int 0, .int 0, .int 0, .int (-1), .ref a7, .ref a8, .int x1, .ref a9, .int 0, .ref a10, .ref a11, .ref a12, .ref a13, .ref a14, .int 0, .ref a15, .ref a16, .ref a17])), (a9, .inl (cy 2, 2465, .inr (.inl f0)))] [.ref a0, .int 0, .int x0, .int 1] (fun u : Unit => none) (fun _ => True) (fun u : Unit => [(a0, .inr (12, [.ref a1, .ref a2, .ref a3, .ref a4, .ref a5, .int 0, .ref a6, .int 0, .int 0, .int 0, .int 0, .int 0, .int 0, .int 0, .int 0, .int 0, .int 0, .int (-1), .ref a7, .ref a8, .int x1, .ref a9, .int 0, .ref a10, .ref a11, .ref a12, .ref a13, .ref a14, .int 0, .ref a15, .ref a16, .ref a17])), (a9, .inl (cy 2, 2465, .inr (.inl (orW f0 x0))))]) := by
  refine Ct.of (by decide +kernel) (Nat.le_of_ble_eq_true rfl) ?_
  intro p e s m args below meth c A ls C hr hlocks hml hnm w hl
  have hl : lv_has ls 7 [(0, .ref a0), (1, .int 0), (2, .int x0), (3, .int 1)] := hl
  refine lv_bipush (v := 29) C.1 C.2.1 dX12_puts_0 (by decide) ?_
  refine lv_iload_n C.1 C.2.1 dX12_puts_2 rfl (lv_at hl 1 rfl) ?_
  refine r_imul C (v := 0) dX12_puts_3 (by decide) ?_
  refine lv_iload_n C.1 C.2.1 dX12_puts_4 rfl (lv_at hl 2 rfl) ?_
  refine lv_bipush (v := 6) C.1 C.2.1 dX12_puts_5 (by decide) ?_
  refine r_ishr C (v := (x0 >>> (6 &&& 31))) dX12_puts_7 rfl ?_
  refine r_iadd C (v := ((0 : Int32) + (x0 >>> (6 &&& 31)))) dX12_puts_8 rfl ?_
  refine lv_istore (lv' := [(4, .int ((0 : Int32) + (x0 >>> (6 &&& 31)))), (0, .ref a0), (1, .int 0), (2, .int x0), (3, .int 1)]) C.1 C.2.1 dX12_puts_9 hl (by decide) rfl (fun ls hl => ?_)
  refine lv_lconst (v := 1) C.1 C.2.1 dX12_puts_11 (by decide) ?_
  refine lv_iload_n C.1 C.2.1 dX12_puts_12 rfl (lv_at hl 3 rfl) ?_
  refine lv_bipush (v := 63) C.1 C.2.1 dX12_puts_13 (by decide) ?_
  refine r_iand C (v := (x0 &&& 63)) dX12_puts_15 rfl ?_
  refine lv_lshl (v := (1 <<< (Int32.toInt64 (x0 &&& 63) &&& 63))) C.1 C.2.1 dX12_puts_16 rfl ?_
  refine lv_lstore (lv' := [(5, .long (1 <<< (Int32.toInt64 (x0 &&& 63) &&& 63))), (4, .int ((0 : Int32) + (x0 >>> (6 &&& 31)))), (0, .ref a0), (1, .int 0), (2, .int x0), (3, .int 1)]) C.1 C.2.1 dX12_puts_17 hl (by decide) rfl (fun ls hl => ?_)
  refine lv_aload_n C.1 C.2.1 dX12_puts_19 rfl (lv_at hl 2 rfl) ?_
  refine r_get C w 0 rfl rfl 21 (by decide) fl_RX12_39 (v := .ref a9) rfl dX12_puts_20 ?_
  refine lv_iload C.1 C.2.1 dX12_puts_23 (lv_at hl 1 rfl) ?_
  refine lv_iload_n C.1 C.2.1 dX12_puts_25 rfl (lv_at hl 5 rfl) ?_
  refine b_if_eq_f C (tgt := 42) dX12_puts_26 (by decide) (by decide) ?_
  refine lv_aload_n C.1 C.2.1 dX12_puts_29 rfl (lv_at hl 2 rfl) ?_
  refine r_get C w 0 rfl rfl 21 (by decide) fl_RX12_39 (v := .ref a9) rfl dX12_puts_30 ?_
  refine lv_iload C.1 C.2.1 dX12_puts_33 (lv_at hl 1 rfl) ?_
  refine r_lald C w 1 rfl (v := (f0 ((0 : Int32) + (x0 >>> (6 &&& 31))).toNatClampNeg)) (plW_in k0 k1) rfl dX12_puts_35 ?_
  refine lv_lload C.1 C.2.1 dX12_puts_36 (lv_at hl 0 rfl) ?_
  refine r_lor C (v := ((f0 ((0 : Int32) + (x0 >>> (6 &&& 31))).toNatClampNeg) ||| (1 <<< (Int32.toInt64 (x0 &&& 63) &&& 63)))) dX12_puts_38 rfl ?_
  refine lv_goto (tgt := 56) C.1 C.2.1 dX12_puts_39 (by decide) ?_
  refine r_last C w 1 rfl (plW_in k0 k1) (orW f0 x0) rfl [(a0, .inr (12, [.ref a1, .ref a2, .ref a3, .ref a4, .ref a5, .int 0, .ref a6, .int 0, .int 0, .int 0, .int 0, .int 0, .int 0, .int 0, .int 0, .int 0, .int 0, .int (-1), .ref a7, .ref a8, .int x1, .ref a9, .int 0, .ref a10, .ref a11, .ref a12, .ref a13, .ref a14, .int 0, .ref a15, .ref a16, .ref a17])), (a9, .inl (cy 2, 2465, .inr (.inl (orW f0 x0))))] rfl dX12_puts_56 (fun H locs w => ?_)
  exact r_vret C w hlocks () hr rfl trivial [0, 1] rfl rfl ⟨Nat.le_of_ble_eq_true rfl, Nat.le_of_ble_eq_true rfl⟩ dX12_puts_57
set_option maxRecDepth 100000 in
set_option maxHeartbeats 4000000 in
theorem c_X12_fills_3 (l : Launch) (D : va_G) (cy : Nat → ClassId) (a0 a1 a2 a3 a4 a5 a6 a7 a8 a9 a10 a11 a12 a13 a14 a15 a16 a17 : Nat) : Ct l D cy yX12_fills cX12_fills 4 none 1 26 0 0 [(a0, .inr (12, [.ref a1, .ref a2, .ref a3, .ref a4, .ref a5, .int 0, .ref a6, .int 0, .int 0, .int 0, .int 0, .int 0, .int 0, .int 0, .int 0, .int 0, .int 0, .int (-1), .ref a7, .ref a8, .int 190, .ref a9, .int 0, .ref a10, .ref a11, .ref a12, .ref a13, .ref a14, .int 0, .ref a15, .ref a16, .ref a17])), (a9, .inl (cy 2, 2465, .inr (.inl (fun _ => 0))))] [.ref a0, .int 0, .int 1] (fun u : Unit => none) (fun _ => True) (fun u : Unit => [(a0, .inr (12, [.ref a1, .ref a2, .ref a3, .ref a4, .ref a5, .int 0, .ref a6, .int 0, .int 0, .int 0, .int 0, .int 0, .int 0, .int 0, .int 0, .int 0, .int 0, .int (-1), .ref a7, .ref a8, .int 190, .ref a9, .int 0, .ref a10, .ref a11, .ref a12, .ref a13, .ref a14, .int 0, .ref a15, .ref a16, .ref a17])), (a9, .inl (cy 2, 2465, .inr (.inl (rwF (fun _ => 0) (PP 20 2 (20 + 1 - 2))))))]) := by
  refine Ct.of (by decide +kernel) (Nat.le_of_ble_eq_true rfl) ?_
  intro p e s m args below meth c A ls C hr hlocks hml hnm w hl
  have hl : lv_has ls 4 [(0, .ref a0), (1, .int 0), (2, .int 1)] := hl
  refine lv_iconst (v := 0) C.1 C.2.1 dX12_fills_0 (by decide) ?_
  refine lv_istore_n (lv' := [(3, .int 0), (0, .ref a0), (1, .int 0), (2, .int 1)]) C.1 C.2.1 dX12_fills_1 rfl hl (by decide) rfl (fun ls hl => ?_)
  refine lp_X12_fills_1 a0 a1 a2 a3 a4 a5 a6 a7 a8 a9 a10 a11 a12 a13 a14 a15 a16 a17 (fun _ => 0) 190 (190) rfl (by decide) C hml (Nat.le_of_ble_eq_true rfl) (Nat.le_of_ble_eq_true rfl) ⟨Nat.le_of_ble_eq_true rfl, Nat.le_of_ble_eq_true rfl⟩ (w.re rfl) (lv_sub hl [1, 2, 3, 0] rfl) (fun H locs ls w hl => ?_)
  rw [show (190 : Nat) = PP 20 2 (20 + 1 - 2) from by decide +kernel] at w
  have w : Wd D A s.heap [(a0, .inr (12, [.ref a1, .ref a2, .ref a3, .ref a4, .ref a5, .int 0, .ref a6, .int 0, .int 0, .int 0, .int 0, .int 0, .int 0, .int 0, .int 0, .int 0, .int 0, .int (-1), .ref a7, .ref a8, .int 190, .ref a9, .int 0, .ref a10, .ref a11, .ref a12, .ref a13, .ref a14, .int 0, .ref a15, .ref a16, .ref a17])), (a9, .inl (cy 2, 2465, .inr (.inl (rwF (fun _ => 0) (PP 20 2 (20 + 1 - 2))))))] _ _ := w
  exact r_vret C w hlocks () hr rfl trivial [0, 1] rfl rfl ⟨Nat.le_of_ble_eq_true rfl, Nat.le_of_ble_eq_true rfl⟩ dX12_fills_23
set_option maxRecDepth 100000 in
set_option maxHeartbeats 4000000 in
theorem c_X12_lays_3 (l : Launch) (D : va_G) (cy : Nat → ClassId) (a0 a1 a2 a3 a4 a5 a6 a7 a8 a9 a10 a11 a12 a13 a14 a15 a16 a17 : Nat) : Ct l D cy yX12_lays cX12_lays 4 none 2 49 0 0 [(a0, .inr (12, [.ref a1, .ref a2, .ref a3, .ref a4, .ref a5, .int 0, .ref a6, .int 0, .int 0, .int 0, .int 0, .int 0, .int 0, .int 0, .int 0, .int 0, .int 0, .int (-1), .ref a7, .ref a8, .int 190, .ref a9, .int 0, .ref a10, .ref a11, .ref a12, .ref a13, .ref a14, .int 0, .ref a15, .ref a16, .ref a17])), (a1, .inl (cy 1, 1868, .inl (upd (upd (upd (fun _ => 0) 1 2) 2 20) 3 120))), (a7, .inl (cy 1, 1830, .inl (lxF (fun _ => 0) 2 20 (PP 20 2 (20 + 1 - 2))))), (a8, .inl (cy 1, 1830, .inl (lyF (fun _ => 0) 2 20 (PP 20 2 (20 + 1 - 2))))), (a9, .inl (cy 2, 2465, .inr (.inl (fun _ => 0))))] [.ref a0] (fun u : Unit => none) (fun _ => True) (fun u : Unit => [(a1, .inl (cy 1, 1868, .inl (upd (upd (upd (fun _ => 0) 1 2) 2 20) 3 120))), (a7, .inl (cy 1, 1830, .inl (lxF (lxF (fun _ => 0) 2 20 (PP 20 2 (20 + 1 - 2))) 2 20 (PP 20 2 (20 + 1 - 2))))), (a8, .inl (cy 1, 1830, .inl (lyF (lyF (fun _ => 0) 2 20 (PP 20 2 (20 + 1 - 2))) 2 20 (PP 20 2 (20 + 1 - 2))))), (a0, .inr (12, [.ref a1, .ref a2, .ref a3, .ref a4, .ref a5, .int 0, .ref a6, .int 0, .int 0, .int 0, .int 0, .int 0, .int 0, .int 0, .int 0, .int 0, .int 0, .int (-1), .ref a7, .ref a8, .int 190, .ref a9, .int 21, .ref a10, .ref a11, .ref a12, .ref a13, .ref a14, .int 0, .ref a15, .ref a16, .ref a17])), (a9, .inl (cy 2, 2465, .inr (.inl (rwF (fun _ => 0) (PP 20 2 (20 + 1 - 2))))))]) := by
  refine Ct.of (by decide +kernel) (Nat.le_of_ble_eq_true rfl) ?_
  intro p e s m args below meth c A ls C hr hlocks hml hnm w hl
  have hl : lv_has ls 4 [(0, .ref a0)] := hl
  refine lv_aload_n C.1 C.2.1 dX12_lays_0 rfl (lv_at hl 0 rfl) ?_
  refine r_callV C w fv_RX12_253 (c_X12_layPairs_4 l D cy a0 a1 a2 a3 a4 a5 a6 a7 a8 a9 a10 a11 a12 a13 a14 a15 a16 a17) (hl.1.trans hml.symm) [0, 1, 2, 3] [4] (wr := [(a9, .inl (cy 2, 2465, .inr (.inl (fun _ => 0))))]) ⟨rfl, rfl, rfl, rfl, by decide⟩ 0 rfl rfl rfl rfl rfl ⟨Nat.le_of_ble_eq_true rfl, Nat.le_of_ble_eq_true rfl, Nat.le_of_ble_eq_true rfl⟩ 0 0 ⟨rfl, rfl, Nat.le_of_ble_eq_true rfl, Nat.le_of_ble_eq_true rfl⟩ dX12_lays_1 (fun u H locs hp w => ?_)
  have w : Wd D A s.heap [(a9, .inl (cy 2, 2465, .inr (.inl (fun _ => 0)))), (a0, .inr (12, [.ref a1, .ref a2, .ref a3, .ref a4, .ref a5, .int 0, .ref a6, .int 0, .int 0, .int 0, .int 0, .int 0, .int 0, .int 0, .int 0, .int 0, .int 0, .int (-1), .ref a7, .ref a8, .int 190, .ref a9, .int 0, .ref a10, .ref a11, .ref a12, .ref a13, .ref a14, .int 0, .ref a15, .ref a16, .ref a17])), (a1, .inl (cy 1, 1868, .inl (upd (upd (upd (fun _ => 0) 1 2) 2 20) 3 120))), (a7, .inl (cy 1, 1830, .inl (lxF (lxF (fun _ => 0) 2 20 (PP 20 2 (20 + 1 - 2))) 2 20 (PP 20 2 (20 + 1 - 2))))), (a8, .inl (cy 1, 1830, .inl (lyF (lyF (fun _ => 0) 2 20 (PP 20 2 (20 + 1 - 2))) 2 20 (PP 20 2 (20 + 1 - 2)))))] _ _ := w
  refine r_top (g2 := F0 m 4 ls []) rfl ?_
  refine lv_aload_n C.1 C.2.1 dX12_lays_4 rfl (lv_at hl 0 rfl) ?_
  refine lv_iconst (v := 0) C.1 C.2.1 dX12_lays_5 (by decide) ?_
  refine lv_iconst (v := 1) C.1 C.2.1 dX12_lays_6 (by decide) ?_
  refine r_callV C w fv_RX12_323 (c_X12_fills_3 l D cy a0 a1 a2 a3 a4 a5 a6 a7 a8 a9 a10 a11 a12 a13 a14 a15 a16 a17) (hl.1.trans hml.symm) [1, 0] [2, 3, 4] (wr := [(a1, .inl (cy 1, 1868, .inl (upd (upd (upd (fun _ => 0) 1 2) 2 20) 3 120))), (a7, .inl (cy 1, 1830, .inl (lxF (lxF (fun _ => 0) 2 20 (PP 20 2 (20 + 1 - 2))) 2 20 (PP 20 2 (20 + 1 - 2))))), (a8, .inl (cy 1, 1830, .inl (lyF (lyF (fun _ => 0) 2 20 (PP 20 2 (20 + 1 - 2))) 2 20 (PP 20 2 (20 + 1 - 2)))))]) ⟨rfl, rfl, rfl, rfl, by decide⟩ 0 rfl rfl rfl rfl rfl ⟨Nat.le_of_ble_eq_true rfl, Nat.le_of_ble_eq_true rfl, Nat.le_of_ble_eq_true rfl⟩ 0 0 ⟨rfl, rfl, Nat.le_of_ble_eq_true rfl, Nat.le_of_ble_eq_true rfl⟩ dX12_lays_7 (fun u H locs hp w => ?_)
  have w : Wd D A s.heap [(a1, .inl (cy 1, 1868, .inl (upd (upd (upd (fun _ => 0) 1 2) 2 20) 3 120))), (a7, .inl (cy 1, 1830, .inl (lxF (lxF (fun _ => 0) 2 20 (PP 20 2 (20 + 1 - 2))) 2 20 (PP 20 2 (20 + 1 - 2))))), (a8, .inl (cy 1, 1830, .inl (lyF (lyF (fun _ => 0) 2 20 (PP 20 2 (20 + 1 - 2))) 2 20 (PP 20 2 (20 + 1 - 2))))), (a0, .inr (12, [.ref a1, .ref a2, .ref a3, .ref a4, .ref a5, .int 0, .ref a6, .int 0, .int 0, .int 0, .int 0, .int 0, .int 0, .int 0, .int 0, .int 0, .int 0, .int (-1), .ref a7, .ref a8, .int 190, .ref a9, .int 0, .ref a10, .ref a11, .ref a12, .ref a13, .ref a14, .int 0, .ref a15, .ref a16, .ref a17])), (a9, .inl (cy 2, 2465, .inr (.inl (rwF (fun _ => 0) (PP 20 2 (20 + 1 - 2))))))] _ _ := w
  refine r_top (g2 := F0 m 10 ls []) rfl ?_
  refine lv_iconst (v := 0) C.1 C.2.1 dX12_lays_10 (by decide) ?_
  refine lv_istore_n (lv' := [(1, .int 0), (0, .ref a0)]) C.1 C.2.1 dX12_lays_11 rfl hl (by decide) rfl (fun ls hl => ?_)
  refine lv_iload_n C.1 C.2.1 dX12_lays_12 rfl (lv_at hl 0 rfl) ?_
  refine lv_aload_n C.1 C.2.1 dX12_lays_13 rfl (lv_at hl 1 rfl) ?_
  refine r_get C w 3 rfl rfl 0 (by decide) fl_RX12_9 (v := .ref a1) rfl dX12_lays_14 ?_
  refine lv_bipush (v := 6) C.1 C.2.1 dX12_lays_17 (by decide) ?_
  refine r_iald C w 0 rfl (v := 0) (vinD (by decide)) rfl dX12_lays_19 ?_
  refine b_icmp_ge_t C (tgt := 88) dX12_lays_20 (by decide) (by decide) ?_
  refine lv_aload_n C.1 C.2.1 dX12_lays_88 rfl (lv_at hl 1 rfl) ?_
  refine lv_bipush (v := 21) C.1 C.2.1 dX12_lays_89 (by decide) ?_
  refine r_put C w 3 rfl rfl 22 (by decide) fl_RX12_297 rfl (ty := .int) (tyX12_ok 22 (by decide)) rfl rfl (Nat.le_of_ble_eq_true rfl) [(a1, .inl (cy 1, 1868, .inl (upd (upd (upd (fun _ => 0) 1 2) 2 20) 3 120))), (a7, .inl (cy 1, 1830, .inl (lxF (lxF (fun _ => 0) 2 20 (PP 20 2 (20 + 1 - 2))) 2 20 (PP 20 2 (20 + 1 - 2))))), (a8, .inl (cy 1, 1830, .inl (lyF (lyF (fun _ => 0) 2 20 (PP 20 2 (20 + 1 - 2))) 2 20 (PP 20 2 (20 + 1 - 2))))), (a0, .inr (12, [.ref a1, .ref a2, .ref a3, .ref a4, .ref a5, .int 0, .ref a6, .int 0, .int 0, .int 0, .int 0, .int 0, .int 0, .int 0, .int 0, .int 0, .int 0, .int (-1), .ref a7, .ref a8, .int 190, .ref a9, .int 21, .ref a10, .ref a11, .ref a12, .ref a13, .ref a14, .int 0, .ref a15, .ref a16, .ref a17])), (a9, .inl (cy 2, 2465, .inr (.inl (rwF (fun _ => 0) (PP 20 2 (20 + 1 - 2))))))] rfl dX12_lays_91 (fun H locs w => ?_)
  exact r_vret C w hlocks () hr rfl trivial [0, 1, 2, 3, 4] rfl rfl ⟨Nat.le_of_ble_eq_true rfl, Nat.le_of_ble_eq_true rfl⟩ dX12_lays_94
theorem dX12_triesOrders_19 : decode cX12_triesOrders 19 = .ok (.aload_n 0, 1) := by decide +kernel
theorem dX12_triesOrders_20 : decode cX12_triesOrders 20 = .ok (.iload 4, 2) := by decide +kernel
theorem dX12_triesOrders_22 : decode cX12_triesOrders 22 = .ok (.iload_n 3, 1) := by decide +kernel
theorem dX12_triesOrders_23 : decode cX12_triesOrders 23 = .ok (.invokevirtual 293, 3) := by decide +kernel
set_option maxRecDepth 100000 in
set_option maxHeartbeats 4000000 in
theorem c_X12_has_4 (l : Launch) (D : va_G) (cy : Nat → ClassId) (a0 a1 a2 a3 a4 a5 a6 a7 a8 a9 a10 a11 a12 a13 a14 a15 a16 a17 : Nat) (x0 : Int32) (f0 : Nat → Int64) (k0 : ¬ x0 < 0) (k1 : x0 < 1830) (hbit : bitW f0 x0 = 1) : Ct l D cy yX12_has cX12_has 3 (some .boolean) 0 0 0 0 [(a0, .inr (12, [.ref a1, .ref a2, .ref a3, .ref a4, .ref a5, .int 0, .ref a6, .int 0, .int 0, .int 0, .int 0, .int 0, .int 0, .int 0, .int 0, .int 0, .int 0, .int (-1), .ref a7, .ref a8, .int 190, .ref a9, .int 21, .ref a10, .ref a11, .ref a12, .ref a13, .ref a14, .int 0, .ref a15, .ref a16, .ref a17])), (a9, .inl (cy 2, 2465, .inr (.inl f0)))] [.ref a0, .int 0, .int x0] (fun u : Unit => some (.int 1)) (fun _ => True) (fun u : Unit => [(a0, .inr (12, [.ref a1, .ref a2, .ref a3, .ref a4, .ref a5, .int 0, .ref a6, .int 0, .int 0, .int 0, .int 0, .int 0, .int 0, .int 0, .int 0, .int 0, .int 0, .int (-1), .ref a7, .ref a8, .int 190, .ref a9, .int 21, .ref a10, .ref a11, .ref a12, .ref a13, .ref a14, .int 0, .ref a15, .ref a16, .ref a17])), (a9, .inl (cy 2, 2465, .inr (.inl f0)))]) := by
  refine Ct.of (by decide +kernel) (Nat.le_of_ble_eq_true rfl) ?_
  intro p e s m args below meth c A ls C hr hlocks hml hnm w hl
  have hl : lv_has ls 3 [(0, .ref a0), (1, .int 0), (2, .int x0)] := hl
  refine lv_aload_n C.1 C.2.1 dX12_has_0 rfl (lv_at hl 0 rfl) ?_
  refine r_get C w 0 rfl rfl 21 (by decide) fl_RX12_39 (v := .ref a9) rfl dX12_has_1 ?_
  refine lv_bipush (v := 29) C.1 C.2.1 dX12_has_4 (by decide) ?_
  refine lv_iload_n C.1 C.2.1 dX12_has_6 rfl (lv_at hl 1 rfl) ?_
  refine r_imul C (v := 0) dX12_has_7 (by decide) ?_
  refine lv_iload_n C.1 C.2.1 dX12_has_8 rfl (lv_at hl 2 rfl) ?_
  refine lv_bipush (v := 6) C.1 C.2.1 dX12_has_9 (by decide) ?_
  refine r_ishr C (v := (x0 >>> (6 &&& 31))) dX12_has_11 rfl ?_
  refine r_iadd C (v := ((0 : Int32) + (x0 >>> (6 &&& 31)))) dX12_has_12 rfl ?_
  refine r_lald C w 1 rfl (v := (f0 ((0 : Int32) + (x0 >>> (6 &&& 31))).toNatClampNeg)) (plW_in k0 k1) rfl dX12_has_13 ?_
  refine lv_iload_n C.1 C.2.1 dX12_has_14 rfl (lv_at hl 2 rfl) ?_
  refine lv_bipush (v := 63) C.1 C.2.1 dX12_has_15 (by decide) ?_
  refine r_iand C (v := (x0 &&& 63)) dX12_has_17 rfl ?_
  refine lv_lshr (v := ((f0 ((0 : Int32) + (x0 >>> (6 &&& 31))).toNatClampNeg) >>> (Int32.toInt64 (x0 &&& 63) &&& 63))) C.1 C.2.1 dX12_has_18 rfl ?_
  refine lv_lconst (v := 1) C.1 C.2.1 dX12_has_19 (by decide) ?_
  refine r_land C (v := (((f0 ((0 : Int32) + (x0 >>> (6 &&& 31))).toNatClampNeg) >>> (Int32.toInt64 (x0 &&& 63) &&& 63)) &&& 1)) dX12_has_20 rfl ?_
  refine lv_lconst (v := 1) C.1 C.2.1 dX12_has_21 (by decide) ?_
  refine r_lcmp C (v := 0) dX12_has_22 (lgc_1 hbit) ?_
  refine b_if_ne_f C (tgt := 30) dX12_has_23 (by decide) (by decide) ?_
  refine lv_iconst (v := 1) C.1 C.2.1 dX12_has_26 (by decide) ?_
  refine lv_goto (tgt := 31) C.1 C.2.1 dX12_has_27 (by decide) ?_
  exact r_iret C w hlocks () hr rfl rfl trivial [0, 1] rfl rfl ⟨Nat.le_of_ble_eq_true rfl, Nat.le_of_ble_eq_true rfl⟩ dX12_has_31
theorem dX12_triesOrders_26 : decode cX12_triesOrders 26 = .ok (.ifCond .ne 4, 3) := by decide +kernel
theorem dX12_triesOrders_30 : decode cX12_triesOrders 30 = .ok (.iconst 0, 1) := by decide +kernel
theorem dX12_triesOrders_31 : decode cX12_triesOrders 31 = .ok (.istore 5, 2) := by decide +kernel
theorem dX12_triesOrders_33 : decode cX12_triesOrders 33 = .ok (.iload 5, 2) := by decide +kernel
theorem dX12_triesOrders_35 : decode cX12_triesOrders 35 = .ok (.iload 4, 2) := by decide +kernel
theorem dX12_triesOrders_37 : decode cX12_triesOrders 37 = .ok (.if_icmp .ge 30, 3) := by decide +kernel
theorem dX12_triesOrders_67 : decode cX12_triesOrders 67 = .ok (.aload_n 0, 1) := by decide +kernel
theorem dX12_triesOrders_68 : decode cX12_triesOrders 68 = .ok (.dup, 1) := by decide +kernel
theorem dX12_triesOrders_69 : decode cX12_triesOrders 69 = .ok (.getfield 395, 3) := by decide +kernel
theorem dX12_triesOrders_72 : decode cX12_triesOrders 72 = .ok (.iconst 1, 1) := by decide +kernel
theorem dX12_triesOrders_73 : decode cX12_triesOrders 73 = .ok (.iadd, 1) := by decide +kernel
theorem dX12_triesOrders_74 : decode cX12_triesOrders 74 = .ok (.putfield 395, 3) := by decide +kernel
theorem dX12_triesOrders_77 : decode cX12_triesOrders 77 = .ok (.return_, 1) := by decide +kernel
set_option maxRecDepth 100000 in
set_option maxHeartbeats 4000000 in
theorem c_X12_triesOrders_0 (l : Launch) (D : va_G) (cy : Nat → ClassId) (a0 a1 a2 a3 a4 a5 a6 a7 a8 a9 a10 a11 a12 a13 a14 a15 a16 a17 : Nat) (x0 : Int32) (k0 : ¬ x0 < 0) (k1 : x0 < 1830) (k2 : x0 < 190) : Ct l D cy yX12_triesOrders cX12_triesOrders 6 none 3 72 0 0 [(a0, .inr (12, [.ref a1, .ref a2, .ref a3, .ref a4, .ref a5, .int 0, .ref a6, .int 0, .int 0, .int 0, .int 0, .int 0, .int 0, .int 0, .int 0, .int 0, .int 0, .int (-1), .ref a7, .ref a8, .int 190, .ref a9, .int 0, .ref a10, .ref a11, .ref a12, .ref a13, .ref a14, .int 0, .ref a15, .ref a16, .ref a17])), (a1, .inl (cy 1, 1868, .inl (upd (upd (upd (fun _ => 0) 1 2) 2 20) 3 120))), (a3, .inl (cy 1, 1868, .inl (upd (upd (upd (fun _ => 0) 1 2) 2 20) 3 120))), (a7, .inl (cy 1, 1830, .inl (lxF (fun _ => 0) 2 20 (PP 20 2 (20 + 1 - 2))))), (a8, .inl (cy 1, 1830, .inl (lyF (fun _ => 0) 2 20 (PP 20 2 (20 + 1 - 2))))), (a9, .inl (cy 2, 2465, .inr (.inl (fun _ => 0))))] [.ref a0, .int 0, .int 0, .int x0] (fun u : Unit => none) (fun _ => True) (fun u : Unit => [(a3, .inl (cy 1, 1868, .inl (upd (upd (upd (fun _ => 0) 1 2) 2 20) 3 120))), (a1, .inl (cy 1, 1868, .inl (upd (upd (upd (fun _ => 0) 1 2) 2 20) 3 120))), (a7, .inl (cy 1, 1830, .inl (lxF (lxF (fun _ => 0) 2 20 (PP 20 2 (20 + 1 - 2))) 2 20 (PP 20 2 (20 + 1 - 2))))), (a8, .inl (cy 1, 1830, .inl (lyF (lyF (fun _ => 0) 2 20 (PP 20 2 (20 + 1 - 2))) 2 20 (PP 20 2 (20 + 1 - 2))))), (a0, .inr (12, [.ref a1, .ref a2, .ref a3, .ref a4, .ref a5, .int 0, .ref a6, .int 0, .int 0, .int 0, .int 0, .int 0, .int 0, .int 0, .int 0, .int 0, .int 0, .int (-1), .ref a7, .ref a8, .int 190, .ref a9, .int 21, .ref a10, .ref a11, .ref a12, .ref a13, .ref a14, .int 1, .ref a15, .ref a16, .ref a17])), (a9, .inl (cy 2, 2465, .inr (.inl (rwF (fun _ => 0) (PP 20 2 (20 + 1 - 2))))))]) := by
  refine Ct.of (by decide +kernel) (Nat.le_of_ble_eq_true rfl) ?_
  intro p e s m args below meth c A ls C hr hlocks hml hnm w hl
  have hl : lv_has ls 6 [(0, .ref a0), (1, .int 0), (2, .int 0), (3, .int x0)] := hl
  refine lv_aload_n C.1 C.2.1 dX12_triesOrders_0 rfl (lv_at hl 0 rfl) ?_
  refine r_get C w 0 rfl rfl 2 (by decide) fl_RX12_16 (v := .ref a3) rfl dX12_triesOrders_1 ?_
  refine lv_bipush (v := 6) C.1 C.2.1 dX12_triesOrders_4 (by decide) ?_
  refine r_iald C w 2 rfl (v := 0) (vinD (by decide)) rfl dX12_triesOrders_6 ?_
  refine lv_istore (lv' := [(4, .int 0), (0, .ref a0), (1, .int 0), (2, .int 0), (3, .int x0)]) C.1 C.2.1 dX12_triesOrders_7 hl (by decide) rfl (fun ls hl => ?_)
  refine lv_iload_n C.1 C.2.1 dX12_triesOrders_9 rfl (lv_at hl 3 rfl) ?_
  refine lv_iload C.1 C.2.1 dX12_triesOrders_10 (lv_at hl 0 rfl) ?_
  refine b_icmp_ne_f C (tgt := 78) dX12_triesOrders_12 (by decide) (by decide) ?_
  refine lv_aload_n C.1 C.2.1 dX12_triesOrders_15 rfl (lv_at hl 1 rfl) ?_
  refine r_callV C w fv_RX12_330 (c_X12_lays_3 l D cy a0 a1 a2 a3 a4 a5 a6 a7 a8 a9 a10 a11 a12 a13 a14 a15 a16 a17) (hl.1.trans hml.symm) [0, 1, 3, 4, 5] [2] (wr := [(a3, .inl (cy 1, 1868, .inl (upd (upd (upd (fun _ => 0) 1 2) 2 20) 3 120)))]) ⟨rfl, rfl, rfl, rfl, by decide⟩ 0 rfl rfl rfl rfl rfl ⟨Nat.le_of_ble_eq_true rfl, Nat.le_of_ble_eq_true rfl, Nat.le_of_ble_eq_true rfl⟩ 0 0 ⟨rfl, rfl, Nat.le_of_ble_eq_true rfl, Nat.le_of_ble_eq_true rfl⟩ dX12_triesOrders_16 (fun u H locs hp w => ?_)
  have w : Wd D A s.heap [(a3, .inl (cy 1, 1868, .inl (upd (upd (upd (fun _ => 0) 1 2) 2 20) 3 120))), (a1, .inl (cy 1, 1868, .inl (upd (upd (upd (fun _ => 0) 1 2) 2 20) 3 120))), (a7, .inl (cy 1, 1830, .inl (lxF (lxF (fun _ => 0) 2 20 (PP 20 2 (20 + 1 - 2))) 2 20 (PP 20 2 (20 + 1 - 2))))), (a8, .inl (cy 1, 1830, .inl (lyF (lyF (fun _ => 0) 2 20 (PP 20 2 (20 + 1 - 2))) 2 20 (PP 20 2 (20 + 1 - 2))))), (a0, .inr (12, [.ref a1, .ref a2, .ref a3, .ref a4, .ref a5, .int 0, .ref a6, .int 0, .int 0, .int 0, .int 0, .int 0, .int 0, .int 0, .int 0, .int 0, .int 0, .int (-1), .ref a7, .ref a8, .int 190, .ref a9, .int 21, .ref a10, .ref a11, .ref a12, .ref a13, .ref a14, .int 0, .ref a15, .ref a16, .ref a17])), (a9, .inl (cy 2, 2465, .inr (.inl (rwF (fun _ => 0) (PP 20 2 (20 + 1 - 2))))))] _ _ := w
  refine r_top (g2 := F0 m 19 ls []) rfl ?_
  refine lv_aload_n C.1 C.2.1 dX12_triesOrders_19 rfl (lv_at hl 1 rfl) ?_
  refine lv_iload C.1 C.2.1 dX12_triesOrders_20 (lv_at hl 0 rfl) ?_
  refine lv_iload_n C.1 C.2.1 dX12_triesOrders_22 rfl (lv_at hl 4 rfl) ?_
  refine r_callV C w fv_RX12_293 (c_X12_has_4 l D cy a0 a1 a2 a3 a4 a5 a6 a7 a8 a9 a10 a11 a12 a13 a14 a15 a16 a17 x0 (rwF (fun _ => 0) (PP 20 2 (20 + 1 - 2))) k0 k1 (bitW_w _ k0 k2)) (hl.1.trans hml.symm) [4, 5] [0, 1, 2, 3] (wr := [(a3, .inl (cy 1, 1868, .inl (upd (upd (upd (fun _ => 0) 1 2) 2 20) 3 120))), (a1, .inl (cy 1, 1868, .inl (upd (upd (upd (fun _ => 0) 1 2) 2 20) 3 120))), (a7, .inl (cy 1, 1830, .inl (lxF (lxF (fun _ => 0) 2 20 (PP 20 2 (20 + 1 - 2))) 2 20 (PP 20 2 (20 + 1 - 2))))), (a8, .inl (cy 1, 1830, .inl (lyF (lyF (fun _ => 0) 2 20 (PP 20 2 (20 + 1 - 2))) 2 20 (PP 20 2 (20 + 1 - 2)))))]) ⟨rfl, rfl, rfl, rfl, by decide⟩ 0 rfl rfl rfl rfl rfl ⟨Nat.le_of_ble_eq_true rfl, Nat.le_of_ble_eq_true rfl, Nat.le_of_ble_eq_true rfl⟩ 0 0 ⟨rfl, rfl, Nat.le_of_ble_eq_true rfl, Nat.le_of_ble_eq_true rfl⟩ dX12_triesOrders_23 (fun u H locs hp w => ?_)
  have w : Wd D A s.heap [(a3, .inl (cy 1, 1868, .inl (upd (upd (upd (fun _ => 0) 1 2) 2 20) 3 120))), (a1, .inl (cy 1, 1868, .inl (upd (upd (upd (fun _ => 0) 1 2) 2 20) 3 120))), (a7, .inl (cy 1, 1830, .inl (lxF (lxF (fun _ => 0) 2 20 (PP 20 2 (20 + 1 - 2))) 2 20 (PP 20 2 (20 + 1 - 2))))), (a8, .inl (cy 1, 1830, .inl (lyF (lyF (fun _ => 0) 2 20 (PP 20 2 (20 + 1 - 2))) 2 20 (PP 20 2 (20 + 1 - 2))))), (a0, .inr (12, [.ref a1, .ref a2, .ref a3, .ref a4, .ref a5, .int 0, .ref a6, .int 0, .int 0, .int 0, .int 0, .int 0, .int 0, .int 0, .int 0, .int 0, .int 0, .int (-1), .ref a7, .ref a8, .int 190, .ref a9, .int 21, .ref a10, .ref a11, .ref a12, .ref a13, .ref a14, .int 0, .ref a15, .ref a16, .ref a17])), (a9, .inl (cy 2, 2465, .inr (.inl (rwF (fun _ => 0) (PP 20 2 (20 + 1 - 2))))))] _ _ := w
  refine r_top (g2 := F0 m 26 ls [.int 1]) rfl ?_
  refine b_if_ne_t C (tgt := 30) dX12_triesOrders_26 (by decide) (by decide) ?_
  refine lv_iconst (v := 0) C.1 C.2.1 dX12_triesOrders_30 (by decide) ?_
  refine lv_istore (lv' := [(5, .int 0), (4, .int 0), (0, .ref a0), (1, .int 0), (2, .int 0), (3, .int x0)]) C.1 C.2.1 dX12_triesOrders_31 hl (by decide) rfl (fun ls hl => ?_)
  refine lv_iload C.1 C.2.1 dX12_triesOrders_33 (lv_at hl 0 rfl) ?_
  refine lv_iload C.1 C.2.1 dX12_triesOrders_35 (lv_at hl 1 rfl) ?_
  refine b_icmp_ge_t C (tgt := 67) dX12_triesOrders_37 (by decide) (by decide) ?_
  refine lv_aload_n C.1 C.2.1 dX12_triesOrders_67 rfl (lv_at hl 2 rfl) ?_
  refine lv_dup C.1 C.2.1 dX12_triesOrders_68 rfl ?_
  refine r_get C w 4 rfl rfl 28 (by decide) fl_RX12_395 (v := .int 0) rfl dX12_triesOrders_69 ?_
  refine lv_iconst (v := 1) C.1 C.2.1 dX12_triesOrders_72 (by decide) ?_
  refine r_iadd C (v := 1) dX12_triesOrders_73 (by decide) ?_
  refine r_put C w 4 rfl rfl 28 (by decide) fl_RX12_395 rfl (ty := .int) (tyX12_ok 28 (by decide)) rfl rfl (Nat.le_of_ble_eq_true rfl) [(a3, .inl (cy 1, 1868, .inl (upd (upd (upd (fun _ => 0) 1 2) 2 20) 3 120))), (a1, .inl (cy 1, 1868, .inl (upd (upd (upd (fun _ => 0) 1 2) 2 20) 3 120))), (a7, .inl (cy 1, 1830, .inl (lxF (lxF (fun _ => 0) 2 20 (PP 20 2 (20 + 1 - 2))) 2 20 (PP 20 2 (20 + 1 - 2))))), (a8, .inl (cy 1, 1830, .inl (lyF (lyF (fun _ => 0) 2 20 (PP 20 2 (20 + 1 - 2))) 2 20 (PP 20 2 (20 + 1 - 2))))), (a0, .inr (12, [.ref a1, .ref a2, .ref a3, .ref a4, .ref a5, .int 0, .ref a6, .int 0, .int 0, .int 0, .int 0, .int 0, .int 0, .int 0, .int 0, .int 0, .int 0, .int (-1), .ref a7, .ref a8, .int 190, .ref a9, .int 21, .ref a10, .ref a11, .ref a12, .ref a13, .ref a14, .int 1, .ref a15, .ref a16, .ref a17])), (a9, .inl (cy 2, 2465, .inr (.inl (rwF (fun _ => 0) (PP 20 2 (20 + 1 - 2))))))] rfl dX12_triesOrders_74 (fun H locs w => ?_)
  exact r_vret C w hlocks () hr rfl trivial [0, 1, 2, 3, 4, 5] rfl rfl ⟨Nat.le_of_ble_eq_true rfl, Nat.le_of_ble_eq_true rfl⟩ dX12_triesOrders_77
theorem fv_RX12_398 : FV RX12 398 yX12_triesOrders cX12_triesOrders 6 none 3 := ⟨⟨gw_mem (by decide +kernel) (by decide +kernel), gw_mem (by decide +kernel) (by decide +kernel), gw_mem (by decide +kernel) (by decide +kernel), gw_mem (by decide +kernel) (by decide +kernel), gw_mem (by decide +kernel) (by decide +kernel)⟩, ⟨by decide +kernel, by decide +kernel, by decide +kernel⟩⟩
theorem dX12_orders_56 : decode cX12_orders 56 = .ok (.aload_n 0, 1) := by decide +kernel
theorem dX12_orders_57 : decode cX12_orders 57 = .ok (.getfield 16, 3) := by decide +kernel
theorem dX12_orders_60 : decode cX12_orders 60 = .ok (.aload_n 0, 1) := by decide +kernel
theorem dX12_orders_61 : decode cX12_orders 61 = .ok (.getfield 9, 3) := by decide +kernel
theorem dX12_orders_64 : decode cX12_orders 64 = .ok (.invokestatic 246, 3) := by decide +kernel
theorem dX12_orders_67 : decode cX12_orders 67 = .ok (.iload_n 2, 1) := by decide +kernel
theorem dX12_orders_68 : decode cX12_orders 68 = .ok (.iconst (-1), 1) := by decide +kernel
theorem dX12_orders_69 : decode cX12_orders 69 = .ok (.if_icmp .ne 10, 3) := by decide +kernel
theorem dX12_orders_79 : decode cX12_orders 79 = .ok (.aload_n 0, 1) := by decide +kernel
theorem dX12_orders_80 : decode cX12_orders 80 = .ok (.getfield 395, 3) := by decide +kernel
theorem dX12_orders_83 : decode cX12_orders 83 = .ok (.ifCond .le 31, 3) := by decide +kernel
theorem dX12_orders_86 : decode cX12_orders 86 = .ok (.iload_n 2, 1) := by decide +kernel
theorem dX12_orders_87 : decode cX12_orders 87 = .ok (.i2l, 1) := by decide +kernel
theorem dX12_orders_88 : decode cX12_orders 88 = .ok (.lconst 0, 1) := by decide +kernel
theorem dX12_orders_89 : decode cX12_orders 89 = .ok (.aload_n 0, 1) := by decide +kernel
theorem dX12_orders_90 : decode cX12_orders 90 = .ok (.getfield 9, 3) := by decide +kernel
theorem dX12_orders_93 : decode cX12_orders 93 = .ok (.bipush 6, 2) := by decide +kernel
theorem dX12_orders_95 : decode cX12_orders 95 = .ok (.iaload, 1) := by decide +kernel
theorem dX12_orders_96 : decode cX12_orders 96 = .ok (.iconst 1, 1) := by decide +kernel
theorem dX12_orders_97 : decode cX12_orders 97 = .ok (.isub, 1) := by decide +kernel
theorem dX12_orders_98 : decode cX12_orders 98 = .ok (.i2l, 1) := by decide +kernel
theorem dX12_orders_99 : decode cX12_orders 99 = .ok (.invokestatic 133, 3) := by decide +kernel
theorem dX12_orders_102 : decode cX12_orders 102 = .ok (.ifCond .eq 12, 3) := by decide +kernel
theorem dX12_orders_114 : decode cX12_orders 114 = .ok (.iconst (-1), 1) := by decide +kernel
theorem dX12_orders_115 : decode cX12_orders 115 = .ok (.ireturn, 1) := by decide +kernel
set_option maxRecDepth 100000 in
set_option maxHeartbeats 4000000 in
theorem c_X12_orders_2 (l : Launch) (D : va_G) (cy : Nat → ClassId) (a0 a1 a2 a3 a4 a5 a6 a7 a8 a9 a10 a11 a12 a13 a14 a15 a16 a17 : Nat) (x0 : Int32) (x1 : Int32) (k0 : ¬ x0 < 0) (k1 : ¬ 189 < x0) (k2 : ¬ x1 = (-1)) (k3 : x1 < 0) : Ct l D cy yX12_orders cX12_orders 3 (some .int) 4 97 0 0 [(a0, .inr (12, [.ref a1, .ref a2, .ref a3, .ref a4, .ref a5, .int 0, .ref a6, .int 0, .int 0, .int 0, .int 0, .int 0, .int 0, .int 0, .int 0, .int 0, .int 0, .int (-1), .ref a7, .ref a8, .int 0, .ref a9, .int 0, .ref a10, .ref a11, .ref a12, .ref a13, .ref a14, .int 0, .ref a15, .ref a16, .ref a17])), (a1, .inl (cy 1, 1868, .inl (upd (upd (upd (fun _ => 0) 1 2) 2 20) 3 120))), (a3, .inl (cy 1, 1868, .inl (fun _ => 0))), (a7, .inl (cy 1, 1830, .inl (fun _ => 0))), (a8, .inl (cy 1, 1830, .inl (fun _ => 0))), (a9, .inl (cy 2, 2465, .inr (.inl (fun _ => 0))))] [.ref a0, .int x0, .int x1] (fun u : Unit => some (.int (-1))) (fun _ => True) (fun u : Unit => [(a7, .inl (cy 1, 1830, .inl (lxF (lxF (fun _ => 0) 2 20 (PP 20 2 (20 + 1 - 2))) 2 20 (PP 20 2 (20 + 1 - 2))))), (a8, .inl (cy 1, 1830, .inl (lyF (lyF (fun _ => 0) 2 20 (PP 20 2 (20 + 1 - 2))) 2 20 (PP 20 2 (20 + 1 - 2))))), (a0, .inr (12, [.ref a1, .ref a2, .ref a3, .ref a4, .ref a5, .int 0, .ref a6, .int 0, .int 0, .int 0, .int 0, .int 0, .int 0, .int 0, .int 0, .int 0, .int 0, .int (-1), .ref a7, .ref a8, .int 190, .ref a9, .int 21, .ref a10, .ref a11, .ref a12, .ref a13, .ref a14, .int 1, .ref a15, .ref a16, .ref a17])), (a9, .inl (cy 2, 2465, .inr (.inl (rwF (fun _ => 0) (PP 20 2 (20 + 1 - 2)))))), (a3, .inl (cy 1, 1868, .inl (upd (upd (upd (fun _ => 0) 1 2) 2 20) 3 120))), (a1, .inl (cy 1, 1868, .inl (upd (upd (upd (fun _ => 0) 1 2) 2 20) 3 120)))]) := by
  refine Ct.of (by decide +kernel) (Nat.le_of_ble_eq_true rfl) ?_
  intro p e s m args below meth c A ls C hr hlocks hml hnm w hl
  have hl : lv_has ls 3 [(0, .ref a0), (1, .int x0), (2, .int x1)] := hl
  refine lv_aload_n C.1 C.2.1 dX12_orders_0 rfl (lv_at hl 0 rfl) ?_
  refine lv_iconst (v := 0) C.1 C.2.1 dX12_orders_1 (by decide) ?_
  refine r_put C w 0 rfl rfl 5 (by decide) fl_RX12_71 rfl (ty := .int) (tyX12_ok 5 (by decide)) rfl rfl (Nat.le_of_ble_eq_true rfl) [(a0, .inr (12, [.ref a1, .ref a2, .ref a3, .ref a4, .ref a5, .int 0, .ref a6, .int 0, .int 0, .int 0, .int 0, .int 0, .int 0, .int 0, .int 0, .int 0, .int 0, .int (-1), .ref a7, .ref a8, .int 0, .ref a9, .int 0, .ref a10, .ref a11, .ref a12, .ref a13, .ref a14, .int 0, .ref a15, .ref a16, .ref a17])), (a1, .inl (cy 1, 1868, .inl (upd (upd (upd (fun _ => 0) 1 2) 2 20) 3 120))), (a3, .inl (cy 1, 1868, .inl (fun _ => 0))), (a7, .inl (cy 1, 1830, .inl (fun _ => 0))), (a8, .inl (cy 1, 1830, .inl (fun _ => 0))), (a9, .inl (cy 2, 2465, .inr (.inl (fun _ => 0))))] rfl dX12_orders_2 (fun H locs w => ?_)
  refine lv_aload_n C.1 C.2.1 dX12_orders_5 rfl (lv_at hl 0 rfl) ?_
  refine lv_iload_n C.1 C.2.1 dX12_orders_6 rfl (lv_at hl 1 rfl) ?_
  refine r_callV C w fv_RX12_256 (c_X12_isWorld_1 l D cy a0 a1 a2 a3 a4 a5 a6 a7 a8 a9 a10 a11 a12 a13 a14 a15 a16 a17 x0 k0 k1) (hl.1.trans hml.symm) [0, 1, 3, 4] [2, 5] (wr := [(a3, .inl (cy 1, 1868, .inl (fun _ => 0))), (a9, .inl (cy 2, 2465, .inr (.inl (fun _ => 0))))]) ⟨rfl, rfl, rfl, rfl, by decide⟩ 0 rfl rfl rfl rfl rfl ⟨Nat.le_of_ble_eq_true rfl, Nat.le_of_ble_eq_true rfl, Nat.le_of_ble_eq_true rfl⟩ 0 0 ⟨rfl, rfl, Nat.le_of_ble_eq_true rfl, Nat.le_of_ble_eq_true rfl⟩ dX12_orders_7 (fun u H locs hp w => ?_)
  have w : Wd D A s.heap [(a3, .inl (cy 1, 1868, .inl (fun _ => 0))), (a9, .inl (cy 2, 2465, .inr (.inl (fun _ => 0)))), (a0, .inr (12, [.ref a1, .ref a2, .ref a3, .ref a4, .ref a5, .int 0, .ref a6, .int 0, .int 0, .int 0, .int 0, .int 0, .int 0, .int 0, .int 0, .int 0, .int 0, .int (-1), .ref a7, .ref a8, .int 190, .ref a9, .int 0, .ref a10, .ref a11, .ref a12, .ref a13, .ref a14, .int 0, .ref a15, .ref a16, .ref a17])), (a1, .inl (cy 1, 1868, .inl (upd (upd (upd (fun _ => 0) 1 2) 2 20) 3 120))), (a7, .inl (cy 1, 1830, .inl (lxF (fun _ => 0) 2 20 (PP 20 2 (20 + 1 - 2))))), (a8, .inl (cy 1, 1830, .inl (lyF (fun _ => 0) 2 20 (PP 20 2 (20 + 1 - 2)))))] _ _ := w
  refine r_top (g2 := F0 m 10 ls [.int 1]) rfl ?_
  refine b_if_ne_t C (tgt := 19) dX12_orders_10 (by decide) (by decide) ?_
  refine lv_aload_n C.1 C.2.1 dX12_orders_19 rfl (lv_at hl 0 rfl) ?_
  refine r_get C w 2 rfl rfl 0 (by decide) fl_RX12_9 (v := .ref a1) rfl dX12_orders_20 ?_
  refine lv_bipush (v := 6) C.1 C.2.1 dX12_orders_23 (by decide) ?_
  refine r_iald C w 3 rfl (v := 0) (vinD (by decide)) rfl dX12_orders_25 ?_
  refine lv_bipush (v := 6) C.1 C.2.1 dX12_orders_26 (by decide) ?_
  refine b_icmp_le_t C (tgt := 33) dX12_orders_28 (by decide) (by decide) ?_
  refine lv_aload_n C.1 C.2.1 dX12_orders_33 rfl (lv_at hl 0 rfl) ?_
  refine r_get C w 2 rfl rfl 0 (by decide) fl_RX12_9 (v := .ref a1) rfl dX12_orders_34 ?_
  refine lv_aload_n C.1 C.2.1 dX12_orders_37 rfl (lv_at hl 0 rfl) ?_
  refine r_get C w 2 rfl rfl 2 (by decide) fl_RX12_16 (v := .ref a3) rfl dX12_orders_38 ?_
  refine r_callS C w fs_RX12_246 (c_X12_copies_1 l D cy a1 a3) (hl.1.trans hml.symm) [3, 0] [1, 2, 4, 5] (wr := [(a9, .inl (cy 2, 2465, .inr (.inl (fun _ => 0)))), (a0, .inr (12, [.ref a1, .ref a2, .ref a3, .ref a4, .ref a5, .int 0, .ref a6, .int 0, .int 0, .int 0, .int 0, .int 0, .int 0, .int 0, .int 0, .int 0, .int 0, .int (-1), .ref a7, .ref a8, .int 190, .ref a9, .int 0, .ref a10, .ref a11, .ref a12, .ref a13, .ref a14, .int 0, .ref a15, .ref a16, .ref a17])), (a7, .inl (cy 1, 1830, .inl (lxF (fun _ => 0) 2 20 (PP 20 2 (20 + 1 - 2))))), (a8, .inl (cy 1, 1830, .inl (lyF (fun _ => 0) 2 20 (PP 20 2 (20 + 1 - 2)))))]) ⟨rfl, rfl, rfl, rfl, by decide⟩ rfl rfl ⟨Nat.le_of_ble_eq_true rfl, Nat.le_of_ble_eq_true rfl, Nat.le_of_ble_eq_true rfl⟩ 0 0 ⟨rfl, rfl, Nat.le_of_ble_eq_true rfl, Nat.le_of_ble_eq_true rfl⟩ dX12_orders_41 (fun u H locs hp w => ?_)
  have w : Wd D A s.heap [(a9, .inl (cy 2, 2465, .inr (.inl (fun _ => 0)))), (a0, .inr (12, [.ref a1, .ref a2, .ref a3, .ref a4, .ref a5, .int 0, .ref a6, .int 0, .int 0, .int 0, .int 0, .int 0, .int 0, .int 0, .int 0, .int 0, .int 0, .int (-1), .ref a7, .ref a8, .int 190, .ref a9, .int 0, .ref a10, .ref a11, .ref a12, .ref a13, .ref a14, .int 0, .ref a15, .ref a16, .ref a17])), (a7, .inl (cy 1, 1830, .inl (lxF (fun _ => 0) 2 20 (PP 20 2 (20 + 1 - 2))))), (a8, .inl (cy 1, 1830, .inl (lyF (fun _ => 0) 2 20 (PP 20 2 (20 + 1 - 2))))), (a1, .inl (cy 1, 1868, .inl (upd (upd (upd (fun _ => 0) 1 2) 2 20) 3 120))), (a3, .inl (cy 1, 1868, .inl (upd (upd (upd (fun _ => 0) 1 2) 2 20) 3 120)))] _ _ := w
  refine r_top (g2 := F0 m 44 ls []) rfl ?_
  refine lv_aload_n C.1 C.2.1 dX12_orders_44 rfl (lv_at hl 0 rfl) ?_
  refine lv_iconst (v := 0) C.1 C.2.1 dX12_orders_45 (by decide) ?_
  refine r_put C w 1 rfl rfl 28 (by decide) fl_RX12_395 rfl (ty := .int) (tyX12_ok 28 (by decide)) rfl rfl (Nat.le_of_ble_eq_true rfl) [(a9, .inl (cy 2, 2465, .inr (.inl (fun _ => 0)))), (a0, .inr (12, [.ref a1, .ref a2, .ref a3, .ref a4, .ref a5, .int 0, .ref a6, .int 0, .int 0, .int 0, .int 0, .int 0, .int 0, .int 0, .int 0, .int 0, .int 0, .int (-1), .ref a7, .ref a8, .int 190, .ref a9, .int 0, .ref a10, .ref a11, .ref a12, .ref a13, .ref a14, .int 0, .ref a15, .ref a16, .ref a17])), (a7, .inl (cy 1, 1830, .inl (lxF (fun _ => 0) 2 20 (PP 20 2 (20 + 1 - 2))))), (a8, .inl (cy 1, 1830, .inl (lyF (fun _ => 0) 2 20 (PP 20 2 (20 + 1 - 2))))), (a1, .inl (cy 1, 1868, .inl (upd (upd (upd (fun _ => 0) 1 2) 2 20) 3 120))), (a3, .inl (cy 1, 1868, .inl (upd (upd (upd (fun _ => 0) 1 2) 2 20) 3 120)))] rfl dX12_orders_46 (fun H locs w => ?_)
  refine lv_aload_n C.1 C.2.1 dX12_orders_49 rfl (lv_at hl 0 rfl) ?_
  refine lv_iconst (v := 0) C.1 C.2.1 dX12_orders_50 (by decide) ?_
  refine lv_iconst (v := 0) C.1 C.2.1 dX12_orders_51 (by decide) ?_
  refine lv_iload_n C.1 C.2.1 dX12_orders_52 rfl (lv_at hl 1 rfl) ?_
  refine r_callV C w fv_RX12_398 (c_X12_triesOrders_0 l D cy a0 a1 a2 a3 a4 a5 a6 a7 a8 a9 a10 a11 a12 a13 a14 a15 a16 a17 x0 k0 (by have h0 := (i_nlt k0); have h1 := (i_nlt k1); have e0 : (0 : Int32).toInt = 0 := (by decide); have e1 : (189 : Int32).toInt = 189 := (by decide); have e2 : (1830 : Int32).toInt = 1830 := (by decide); rw [fa_lt]; omega) (by have h0 := (i_nlt k0); have h1 := (i_nlt k1); have e0 : (0 : Int32).toInt = 0 := (by decide); have e1 : (189 : Int32).toInt = 189 := (by decide); have e2 : (190 : Int32).toInt = 190 := (by decide); rw [fa_lt]; omega)) (hl.1.trans hml.symm) [1, 4, 5, 2, 3, 0] [] (wr := []) ⟨rfl, rfl, rfl, rfl, by decide⟩ 0 rfl rfl rfl rfl rfl ⟨Nat.le_of_ble_eq_true rfl, Nat.le_of_ble_eq_true rfl, Nat.le_of_ble_eq_true rfl⟩ 0 0 ⟨rfl, rfl, Nat.le_of_ble_eq_true rfl, Nat.le_of_ble_eq_true rfl⟩ dX12_orders_53 (fun u H locs hp w => ?_)
  have w : Wd D A s.heap [(a3, .inl (cy 1, 1868, .inl (upd (upd (upd (fun _ => 0) 1 2) 2 20) 3 120))), (a1, .inl (cy 1, 1868, .inl (upd (upd (upd (fun _ => 0) 1 2) 2 20) 3 120))), (a7, .inl (cy 1, 1830, .inl (lxF (lxF (fun _ => 0) 2 20 (PP 20 2 (20 + 1 - 2))) 2 20 (PP 20 2 (20 + 1 - 2))))), (a8, .inl (cy 1, 1830, .inl (lyF (lyF (fun _ => 0) 2 20 (PP 20 2 (20 + 1 - 2))) 2 20 (PP 20 2 (20 + 1 - 2))))), (a0, .inr (12, [.ref a1, .ref a2, .ref a3, .ref a4, .ref a5, .int 0, .ref a6, .int 0, .int 0, .int 0, .int 0, .int 0, .int 0, .int 0, .int 0, .int 0, .int 0, .int (-1), .ref a7, .ref a8, .int 190, .ref a9, .int 21, .ref a10, .ref a11, .ref a12, .ref a13, .ref a14, .int 1, .ref a15, .ref a16, .ref a17])), (a9, .inl (cy 2, 2465, .inr (.inl (rwF (fun _ => 0) (PP 20 2 (20 + 1 - 2))))))] _ _ := w
  refine r_top (g2 := F0 m 56 ls []) rfl ?_
  refine lv_aload_n C.1 C.2.1 dX12_orders_56 rfl (lv_at hl 0 rfl) ?_
  refine r_get C w 4 rfl rfl 2 (by decide) fl_RX12_16 (v := .ref a3) rfl dX12_orders_57 ?_
  refine lv_aload_n C.1 C.2.1 dX12_orders_60 rfl (lv_at hl 0 rfl) ?_
  refine r_get C w 4 rfl rfl 0 (by decide) fl_RX12_9 (v := .ref a1) rfl dX12_orders_61 ?_
  refine r_callS C w fs_RX12_246 (c_X12_copies_0 l D cy a3 a1) (hl.1.trans hml.symm) [0, 1] [2, 3, 4, 5] (wr := [(a7, .inl (cy 1, 1830, .inl (lxF (lxF (fun _ => 0) 2 20 (PP 20 2 (20 + 1 - 2))) 2 20 (PP 20 2 (20 + 1 - 2))))), (a8, .inl (cy 1, 1830, .inl (lyF (lyF (fun _ => 0) 2 20 (PP 20 2 (20 + 1 - 2))) 2 20 (PP 20 2 (20 + 1 - 2))))), (a0, .inr (12, [.ref a1, .ref a2, .ref a3, .ref a4, .ref a5, .int 0, .ref a6, .int 0, .int 0, .int 0, .int 0, .int 0, .int 0, .int 0, .int 0, .int 0, .int 0, .int (-1), .ref a7, .ref a8, .int 190, .ref a9, .int 21, .ref a10, .ref a11, .ref a12, .ref a13, .ref a14, .int 1, .ref a15, .ref a16, .ref a17])), (a9, .inl (cy 2, 2465, .inr (.inl (rwF (fun _ => 0) (PP 20 2 (20 + 1 - 2))))))]) ⟨rfl, rfl, rfl, rfl, by decide⟩ rfl rfl ⟨Nat.le_of_ble_eq_true rfl, Nat.le_of_ble_eq_true rfl, Nat.le_of_ble_eq_true rfl⟩ 0 0 ⟨rfl, rfl, Nat.le_of_ble_eq_true rfl, Nat.le_of_ble_eq_true rfl⟩ dX12_orders_64 (fun u H locs hp w => ?_)
  have w : Wd D A s.heap [(a7, .inl (cy 1, 1830, .inl (lxF (lxF (fun _ => 0) 2 20 (PP 20 2 (20 + 1 - 2))) 2 20 (PP 20 2 (20 + 1 - 2))))), (a8, .inl (cy 1, 1830, .inl (lyF (lyF (fun _ => 0) 2 20 (PP 20 2 (20 + 1 - 2))) 2 20 (PP 20 2 (20 + 1 - 2))))), (a0, .inr (12, [.ref a1, .ref a2, .ref a3, .ref a4, .ref a5, .int 0, .ref a6, .int 0, .int 0, .int 0, .int 0, .int 0, .int 0, .int 0, .int 0, .int 0, .int 0, .int (-1), .ref a7, .ref a8, .int 190, .ref a9, .int 21, .ref a10, .ref a11, .ref a12, .ref a13, .ref a14, .int 1, .ref a15, .ref a16, .ref a17])), (a9, .inl (cy 2, 2465, .inr (.inl (rwF (fun _ => 0) (PP 20 2 (20 + 1 - 2)))))), (a3, .inl (cy 1, 1868, .inl (upd (upd (upd (fun _ => 0) 1 2) 2 20) 3 120))), (a1, .inl (cy 1, 1868, .inl (upd (upd (upd (fun _ => 0) 1 2) 2 20) 3 120)))] _ _ := w
  refine r_top (g2 := F0 m 67 ls []) rfl ?_
  refine lv_iload_n C.1 C.2.1 dX12_orders_67 rfl (lv_at hl 2 rfl) ?_
  refine lv_iconst (v := (-1)) C.1 C.2.1 dX12_orders_68 (by decide) ?_
  refine b_icmp_ne_t C (tgt := 79) dX12_orders_69 (by decide) k2 ?_
  refine lv_aload_n C.1 C.2.1 dX12_orders_79 rfl (lv_at hl 0 rfl) ?_
  refine r_get C w 2 rfl rfl 28 (by decide) fl_RX12_395 (v := .int 1) rfl dX12_orders_80 ?_
  refine b_if_le_f C (tgt := 114) dX12_orders_83 (by decide) (by decide) ?_
  refine lv_iload_n C.1 C.2.1 dX12_orders_86 rfl (lv_at hl 2 rfl) ?_
  refine lv_i2l (v := (Int32.toInt64 x1)) C.1 C.2.1 dX12_orders_87 rfl ?_
  refine lv_lconst (v := 0) C.1 C.2.1 dX12_orders_88 (by decide) ?_
  refine lv_aload_n C.1 C.2.1 dX12_orders_89 rfl (lv_at hl 0 rfl) ?_
  refine r_get C w 2 rfl rfl 0 (by decide) fl_RX12_9 (v := .ref a1) rfl dX12_orders_90 ?_
  refine lv_bipush (v := 6) C.1 C.2.1 dX12_orders_93 (by decide) ?_
  refine r_iald C w 5 rfl (v := 0) (vinD (by decide)) rfl dX12_orders_95 ?_
  refine lv_iconst (v := 1) C.1 C.2.1 dX12_orders_96 (by decide) ?_
  refine r_isub C (v := (-1)) dX12_orders_97 (by decide) ?_
  refine lv_i2l (v := (-1)) C.1 C.2.1 dX12_orders_98 (by decide) ?_
  refine r_callS C w fs_RX12_133 (c_X12_within_4 l D cy x1 k3) (hl.1.trans hml.symm) [] [0, 1, 2, 3, 4, 5] (wr := [(a7, .inl (cy 1, 1830, .inl (lxF (lxF (fun _ => 0) 2 20 (PP 20 2 (20 + 1 - 2))) 2 20 (PP 20 2 (20 + 1 - 2))))), (a8, .inl (cy 1, 1830, .inl (lyF (lyF (fun _ => 0) 2 20 (PP 20 2 (20 + 1 - 2))) 2 20 (PP 20 2 (20 + 1 - 2))))), (a0, .inr (12, [.ref a1, .ref a2, .ref a3, .ref a4, .ref a5, .int 0, .ref a6, .int 0, .int 0, .int 0, .int 0, .int 0, .int 0, .int 0, .int 0, .int 0, .int 0, .int (-1), .ref a7, .ref a8, .int 190, .ref a9, .int 21, .ref a10, .ref a11, .ref a12, .ref a13, .ref a14, .int 1, .ref a15, .ref a16, .ref a17])), (a9, .inl (cy 2, 2465, .inr (.inl (rwF (fun _ => 0) (PP 20 2 (20 + 1 - 2)))))), (a3, .inl (cy 1, 1868, .inl (upd (upd (upd (fun _ => 0) 1 2) 2 20) 3 120))), (a1, .inl (cy 1, 1868, .inl (upd (upd (upd (fun _ => 0) 1 2) 2 20) 3 120)))]) ⟨rfl, rfl, rfl, rfl, by decide⟩ rfl rfl ⟨Nat.le_of_ble_eq_true rfl, Nat.le_of_ble_eq_true rfl, Nat.le_of_ble_eq_true rfl⟩ 0 0 ⟨rfl, rfl, Nat.le_of_ble_eq_true rfl, Nat.le_of_ble_eq_true rfl⟩ dX12_orders_99 (fun u H locs hp w => ?_)
  have w : Wd D A s.heap [(a7, .inl (cy 1, 1830, .inl (lxF (lxF (fun _ => 0) 2 20 (PP 20 2 (20 + 1 - 2))) 2 20 (PP 20 2 (20 + 1 - 2))))), (a8, .inl (cy 1, 1830, .inl (lyF (lyF (fun _ => 0) 2 20 (PP 20 2 (20 + 1 - 2))) 2 20 (PP 20 2 (20 + 1 - 2))))), (a0, .inr (12, [.ref a1, .ref a2, .ref a3, .ref a4, .ref a5, .int 0, .ref a6, .int 0, .int 0, .int 0, .int 0, .int 0, .int 0, .int 0, .int 0, .int 0, .int 0, .int (-1), .ref a7, .ref a8, .int 190, .ref a9, .int 21, .ref a10, .ref a11, .ref a12, .ref a13, .ref a14, .int 1, .ref a15, .ref a16, .ref a17])), (a9, .inl (cy 2, 2465, .inr (.inl (rwF (fun _ => 0) (PP 20 2 (20 + 1 - 2)))))), (a3, .inl (cy 1, 1868, .inl (upd (upd (upd (fun _ => 0) 1 2) 2 20) 3 120))), (a1, .inl (cy 1, 1868, .inl (upd (upd (upd (fun _ => 0) 1 2) 2 20) 3 120)))] _ _ := w
  refine r_top (g2 := F0 m 102 ls [.int 0]) rfl ?_
  refine b_if_eq_t C (tgt := 114) dX12_orders_102 (by decide) (by decide) ?_
  refine lv_iconst (v := (-1)) C.1 C.2.1 dX12_orders_114 (by decide) ?_
  exact r_iret C w hlocks () hr rfl rfl trivial [0, 1, 2, 3, 4, 5] rfl rfl ⟨Nat.le_of_ble_eq_true rfl, Nat.le_of_ble_eq_true rfl⟩ dX12_orders_115
set_option maxRecDepth 100000 in
set_option maxHeartbeats 4000000 in
theorem c_X12_orders_3 (l : Launch) (D : va_G) (cy : Nat → ClassId) (a0 a1 a2 a3 a4 a5 a6 a7 a8 a9 a10 a11 a12 a13 a14 a15 a16 a17 : Nat) (x0 : Int32) (x1 : Int32) (k0 : ¬ x0 < 0) (k1 : ¬ 189 < x0) (k2 : ¬ x1 = (-1)) (k3 : ¬ x1 < 0) : Ct l D cy yX12_orders cX12_orders 3 (some .int) 4 97 0 0 [(a0, .inr (12, [.ref a1, .ref a2, .ref a3, .ref a4, .ref a5, .int 0, .ref a6, .int 0, .int 0, .int 0, .int 0, .int 0, .int 0, .int 0, .int 0, .int 0, .int 0, .int (-1), .ref a7, .ref a8, .int 0, .ref a9, .int 0, .ref a10, .ref a11, .ref a12, .ref a13, .ref a14, .int 0, .ref a15, .ref a16, .ref a17])), (a1, .inl (cy 1, 1868, .inl (upd (upd (upd (fun _ => 0) 1 2) 2 20) 3 120))), (a3, .inl (cy 1, 1868, .inl (fun _ => 0))), (a7, .inl (cy 1, 1830, .inl (fun _ => 0))), (a8, .inl (cy 1, 1830, .inl (fun _ => 0))), (a9, .inl (cy 2, 2465, .inr (.inl (fun _ => 0))))] [.ref a0, .int x0, .int x1] (fun u : Unit => some (.int (-1))) (fun _ => True) (fun u : Unit => [(a7, .inl (cy 1, 1830, .inl (lxF (lxF (fun _ => 0) 2 20 (PP 20 2 (20 + 1 - 2))) 2 20 (PP 20 2 (20 + 1 - 2))))), (a8, .inl (cy 1, 1830, .inl (lyF (lyF (fun _ => 0) 2 20 (PP 20 2 (20 + 1 - 2))) 2 20 (PP 20 2 (20 + 1 - 2))))), (a0, .inr (12, [.ref a1, .ref a2, .ref a3, .ref a4, .ref a5, .int 0, .ref a6, .int 0, .int 0, .int 0, .int 0, .int 0, .int 0, .int 0, .int 0, .int 0, .int 0, .int (-1), .ref a7, .ref a8, .int 190, .ref a9, .int 21, .ref a10, .ref a11, .ref a12, .ref a13, .ref a14, .int 1, .ref a15, .ref a16, .ref a17])), (a9, .inl (cy 2, 2465, .inr (.inl (rwF (fun _ => 0) (PP 20 2 (20 + 1 - 2)))))), (a3, .inl (cy 1, 1868, .inl (upd (upd (upd (fun _ => 0) 1 2) 2 20) 3 120))), (a1, .inl (cy 1, 1868, .inl (upd (upd (upd (fun _ => 0) 1 2) 2 20) 3 120)))]) := by
  refine Ct.of (by decide +kernel) (Nat.le_of_ble_eq_true rfl) ?_
  intro p e s m args below meth c A ls C hr hlocks hml hnm w hl
  have hl : lv_has ls 3 [(0, .ref a0), (1, .int x0), (2, .int x1)] := hl
  refine lv_aload_n C.1 C.2.1 dX12_orders_0 rfl (lv_at hl 0 rfl) ?_
  refine lv_iconst (v := 0) C.1 C.2.1 dX12_orders_1 (by decide) ?_
  refine r_put C w 0 rfl rfl 5 (by decide) fl_RX12_71 rfl (ty := .int) (tyX12_ok 5 (by decide)) rfl rfl (Nat.le_of_ble_eq_true rfl) [(a0, .inr (12, [.ref a1, .ref a2, .ref a3, .ref a4, .ref a5, .int 0, .ref a6, .int 0, .int 0, .int 0, .int 0, .int 0, .int 0, .int 0, .int 0, .int 0, .int 0, .int (-1), .ref a7, .ref a8, .int 0, .ref a9, .int 0, .ref a10, .ref a11, .ref a12, .ref a13, .ref a14, .int 0, .ref a15, .ref a16, .ref a17])), (a1, .inl (cy 1, 1868, .inl (upd (upd (upd (fun _ => 0) 1 2) 2 20) 3 120))), (a3, .inl (cy 1, 1868, .inl (fun _ => 0))), (a7, .inl (cy 1, 1830, .inl (fun _ => 0))), (a8, .inl (cy 1, 1830, .inl (fun _ => 0))), (a9, .inl (cy 2, 2465, .inr (.inl (fun _ => 0))))] rfl dX12_orders_2 (fun H locs w => ?_)
  refine lv_aload_n C.1 C.2.1 dX12_orders_5 rfl (lv_at hl 0 rfl) ?_
  refine lv_iload_n C.1 C.2.1 dX12_orders_6 rfl (lv_at hl 1 rfl) ?_
  refine r_callV C w fv_RX12_256 (c_X12_isWorld_1 l D cy a0 a1 a2 a3 a4 a5 a6 a7 a8 a9 a10 a11 a12 a13 a14 a15 a16 a17 x0 k0 k1) (hl.1.trans hml.symm) [0, 1, 3, 4] [2, 5] (wr := [(a3, .inl (cy 1, 1868, .inl (fun _ => 0))), (a9, .inl (cy 2, 2465, .inr (.inl (fun _ => 0))))]) ⟨rfl, rfl, rfl, rfl, by decide⟩ 0 rfl rfl rfl rfl rfl ⟨Nat.le_of_ble_eq_true rfl, Nat.le_of_ble_eq_true rfl, Nat.le_of_ble_eq_true rfl⟩ 0 0 ⟨rfl, rfl, Nat.le_of_ble_eq_true rfl, Nat.le_of_ble_eq_true rfl⟩ dX12_orders_7 (fun u H locs hp w => ?_)
  have w : Wd D A s.heap [(a3, .inl (cy 1, 1868, .inl (fun _ => 0))), (a9, .inl (cy 2, 2465, .inr (.inl (fun _ => 0)))), (a0, .inr (12, [.ref a1, .ref a2, .ref a3, .ref a4, .ref a5, .int 0, .ref a6, .int 0, .int 0, .int 0, .int 0, .int 0, .int 0, .int 0, .int 0, .int 0, .int 0, .int (-1), .ref a7, .ref a8, .int 190, .ref a9, .int 0, .ref a10, .ref a11, .ref a12, .ref a13, .ref a14, .int 0, .ref a15, .ref a16, .ref a17])), (a1, .inl (cy 1, 1868, .inl (upd (upd (upd (fun _ => 0) 1 2) 2 20) 3 120))), (a7, .inl (cy 1, 1830, .inl (lxF (fun _ => 0) 2 20 (PP 20 2 (20 + 1 - 2))))), (a8, .inl (cy 1, 1830, .inl (lyF (fun _ => 0) 2 20 (PP 20 2 (20 + 1 - 2)))))] _ _ := w
  refine r_top (g2 := F0 m 10 ls [.int 1]) rfl ?_
  refine b_if_ne_t C (tgt := 19) dX12_orders_10 (by decide) (by decide) ?_
  refine lv_aload_n C.1 C.2.1 dX12_orders_19 rfl (lv_at hl 0 rfl) ?_
  refine r_get C w 2 rfl rfl 0 (by decide) fl_RX12_9 (v := .ref a1) rfl dX12_orders_20 ?_
  refine lv_bipush (v := 6) C.1 C.2.1 dX12_orders_23 (by decide) ?_
  refine r_iald C w 3 rfl (v := 0) (vinD (by decide)) rfl dX12_orders_25 ?_
  refine lv_bipush (v := 6) C.1 C.2.1 dX12_orders_26 (by decide) ?_
  refine b_icmp_le_t C (tgt := 33) dX12_orders_28 (by decide) (by decide) ?_
  refine lv_aload_n C.1 C.2.1 dX12_orders_33 rfl (lv_at hl 0 rfl) ?_
  refine r_get C w 2 rfl rfl 0 (by decide) fl_RX12_9 (v := .ref a1) rfl dX12_orders_34 ?_
  refine lv_aload_n C.1 C.2.1 dX12_orders_37 rfl (lv_at hl 0 rfl) ?_
  refine r_get C w 2 rfl rfl 2 (by decide) fl_RX12_16 (v := .ref a3) rfl dX12_orders_38 ?_
  refine r_callS C w fs_RX12_246 (c_X12_copies_1 l D cy a1 a3) (hl.1.trans hml.symm) [3, 0] [1, 2, 4, 5] (wr := [(a9, .inl (cy 2, 2465, .inr (.inl (fun _ => 0)))), (a0, .inr (12, [.ref a1, .ref a2, .ref a3, .ref a4, .ref a5, .int 0, .ref a6, .int 0, .int 0, .int 0, .int 0, .int 0, .int 0, .int 0, .int 0, .int 0, .int 0, .int (-1), .ref a7, .ref a8, .int 190, .ref a9, .int 0, .ref a10, .ref a11, .ref a12, .ref a13, .ref a14, .int 0, .ref a15, .ref a16, .ref a17])), (a7, .inl (cy 1, 1830, .inl (lxF (fun _ => 0) 2 20 (PP 20 2 (20 + 1 - 2))))), (a8, .inl (cy 1, 1830, .inl (lyF (fun _ => 0) 2 20 (PP 20 2 (20 + 1 - 2)))))]) ⟨rfl, rfl, rfl, rfl, by decide⟩ rfl rfl ⟨Nat.le_of_ble_eq_true rfl, Nat.le_of_ble_eq_true rfl, Nat.le_of_ble_eq_true rfl⟩ 0 0 ⟨rfl, rfl, Nat.le_of_ble_eq_true rfl, Nat.le_of_ble_eq_true rfl⟩ dX12_orders_41 (fun u H locs hp w => ?_)
  have w : Wd D A s.heap [(a9, .inl (cy 2, 2465, .inr (.inl (fun _ => 0)))), (a0, .inr (12, [.ref a1, .ref a2, .ref a3, .ref a4, .ref a5, .int 0, .ref a6, .int 0, .int 0, .int 0, .int 0, .int 0, .int 0, .int 0, .int 0, .int 0, .int 0, .int (-1), .ref a7, .ref a8, .int 190, .ref a9, .int 0, .ref a10, .ref a11, .ref a12, .ref a13, .ref a14, .int 0, .ref a15, .ref a16, .ref a17])), (a7, .inl (cy 1, 1830, .inl (lxF (fun _ => 0) 2 20 (PP 20 2 (20 + 1 - 2))))), (a8, .inl (cy 1, 1830, .inl (lyF (fun _ => 0) 2 20 (PP 20 2 (20 + 1 - 2))))), (a1, .inl (cy 1, 1868, .inl (upd (upd (upd (fun _ => 0) 1 2) 2 20) 3 120))), (a3, .inl (cy 1, 1868, .inl (upd (upd (upd (fun _ => 0) 1 2) 2 20) 3 120)))] _ _ := w
  refine r_top (g2 := F0 m 44 ls []) rfl ?_
  refine lv_aload_n C.1 C.2.1 dX12_orders_44 rfl (lv_at hl 0 rfl) ?_
  refine lv_iconst (v := 0) C.1 C.2.1 dX12_orders_45 (by decide) ?_
  refine r_put C w 1 rfl rfl 28 (by decide) fl_RX12_395 rfl (ty := .int) (tyX12_ok 28 (by decide)) rfl rfl (Nat.le_of_ble_eq_true rfl) [(a9, .inl (cy 2, 2465, .inr (.inl (fun _ => 0)))), (a0, .inr (12, [.ref a1, .ref a2, .ref a3, .ref a4, .ref a5, .int 0, .ref a6, .int 0, .int 0, .int 0, .int 0, .int 0, .int 0, .int 0, .int 0, .int 0, .int 0, .int (-1), .ref a7, .ref a8, .int 190, .ref a9, .int 0, .ref a10, .ref a11, .ref a12, .ref a13, .ref a14, .int 0, .ref a15, .ref a16, .ref a17])), (a7, .inl (cy 1, 1830, .inl (lxF (fun _ => 0) 2 20 (PP 20 2 (20 + 1 - 2))))), (a8, .inl (cy 1, 1830, .inl (lyF (fun _ => 0) 2 20 (PP 20 2 (20 + 1 - 2))))), (a1, .inl (cy 1, 1868, .inl (upd (upd (upd (fun _ => 0) 1 2) 2 20) 3 120))), (a3, .inl (cy 1, 1868, .inl (upd (upd (upd (fun _ => 0) 1 2) 2 20) 3 120)))] rfl dX12_orders_46 (fun H locs w => ?_)
  refine lv_aload_n C.1 C.2.1 dX12_orders_49 rfl (lv_at hl 0 rfl) ?_
  refine lv_iconst (v := 0) C.1 C.2.1 dX12_orders_50 (by decide) ?_
  refine lv_iconst (v := 0) C.1 C.2.1 dX12_orders_51 (by decide) ?_
  refine lv_iload_n C.1 C.2.1 dX12_orders_52 rfl (lv_at hl 1 rfl) ?_
  refine r_callV C w fv_RX12_398 (c_X12_triesOrders_0 l D cy a0 a1 a2 a3 a4 a5 a6 a7 a8 a9 a10 a11 a12 a13 a14 a15 a16 a17 x0 k0 (by have h0 := (i_nlt k0); have h1 := (i_nlt k1); have e0 : (0 : Int32).toInt = 0 := (by decide); have e1 : (189 : Int32).toInt = 189 := (by decide); have e2 : (1830 : Int32).toInt = 1830 := (by decide); rw [fa_lt]; omega) (by have h0 := (i_nlt k0); have h1 := (i_nlt k1); have e0 : (0 : Int32).toInt = 0 := (by decide); have e1 : (189 : Int32).toInt = 189 := (by decide); have e2 : (190 : Int32).toInt = 190 := (by decide); rw [fa_lt]; omega)) (hl.1.trans hml.symm) [1, 4, 5, 2, 3, 0] [] (wr := []) ⟨rfl, rfl, rfl, rfl, by decide⟩ 0 rfl rfl rfl rfl rfl ⟨Nat.le_of_ble_eq_true rfl, Nat.le_of_ble_eq_true rfl, Nat.le_of_ble_eq_true rfl⟩ 0 0 ⟨rfl, rfl, Nat.le_of_ble_eq_true rfl, Nat.le_of_ble_eq_true rfl⟩ dX12_orders_53 (fun u H locs hp w => ?_)
  have w : Wd D A s.heap [(a3, .inl (cy 1, 1868, .inl (upd (upd (upd (fun _ => 0) 1 2) 2 20) 3 120))), (a1, .inl (cy 1, 1868, .inl (upd (upd (upd (fun _ => 0) 1 2) 2 20) 3 120))), (a7, .inl (cy 1, 1830, .inl (lxF (lxF (fun _ => 0) 2 20 (PP 20 2 (20 + 1 - 2))) 2 20 (PP 20 2 (20 + 1 - 2))))), (a8, .inl (cy 1, 1830, .inl (lyF (lyF (fun _ => 0) 2 20 (PP 20 2 (20 + 1 - 2))) 2 20 (PP 20 2 (20 + 1 - 2))))), (a0, .inr (12, [.ref a1, .ref a2, .ref a3, .ref a4, .ref a5, .int 0, .ref a6, .int 0, .int 0, .int 0, .int 0, .int 0, .int 0, .int 0, .int 0, .int 0, .int 0, .int (-1), .ref a7, .ref a8, .int 190, .ref a9, .int 21, .ref a10, .ref a11, .ref a12, .ref a13, .ref a14, .int 1, .ref a15, .ref a16, .ref a17])), (a9, .inl (cy 2, 2465, .inr (.inl (rwF (fun _ => 0) (PP 20 2 (20 + 1 - 2))))))] _ _ := w
  refine r_top (g2 := F0 m 56 ls []) rfl ?_
  refine lv_aload_n C.1 C.2.1 dX12_orders_56 rfl (lv_at hl 0 rfl) ?_
  refine r_get C w 4 rfl rfl 2 (by decide) fl_RX12_16 (v := .ref a3) rfl dX12_orders_57 ?_
  refine lv_aload_n C.1 C.2.1 dX12_orders_60 rfl (lv_at hl 0 rfl) ?_
  refine r_get C w 4 rfl rfl 0 (by decide) fl_RX12_9 (v := .ref a1) rfl dX12_orders_61 ?_
  refine r_callS C w fs_RX12_246 (c_X12_copies_0 l D cy a3 a1) (hl.1.trans hml.symm) [0, 1] [2, 3, 4, 5] (wr := [(a7, .inl (cy 1, 1830, .inl (lxF (lxF (fun _ => 0) 2 20 (PP 20 2 (20 + 1 - 2))) 2 20 (PP 20 2 (20 + 1 - 2))))), (a8, .inl (cy 1, 1830, .inl (lyF (lyF (fun _ => 0) 2 20 (PP 20 2 (20 + 1 - 2))) 2 20 (PP 20 2 (20 + 1 - 2))))), (a0, .inr (12, [.ref a1, .ref a2, .ref a3, .ref a4, .ref a5, .int 0, .ref a6, .int 0, .int 0, .int 0, .int 0, .int 0, .int 0, .int 0, .int 0, .int 0, .int 0, .int (-1), .ref a7, .ref a8, .int 190, .ref a9, .int 21, .ref a10, .ref a11, .ref a12, .ref a13, .ref a14, .int 1, .ref a15, .ref a16, .ref a17])), (a9, .inl (cy 2, 2465, .inr (.inl (rwF (fun _ => 0) (PP 20 2 (20 + 1 - 2))))))]) ⟨rfl, rfl, rfl, rfl, by decide⟩ rfl rfl ⟨Nat.le_of_ble_eq_true rfl, Nat.le_of_ble_eq_true rfl, Nat.le_of_ble_eq_true rfl⟩ 0 0 ⟨rfl, rfl, Nat.le_of_ble_eq_true rfl, Nat.le_of_ble_eq_true rfl⟩ dX12_orders_64 (fun u H locs hp w => ?_)
  have w : Wd D A s.heap [(a7, .inl (cy 1, 1830, .inl (lxF (lxF (fun _ => 0) 2 20 (PP 20 2 (20 + 1 - 2))) 2 20 (PP 20 2 (20 + 1 - 2))))), (a8, .inl (cy 1, 1830, .inl (lyF (lyF (fun _ => 0) 2 20 (PP 20 2 (20 + 1 - 2))) 2 20 (PP 20 2 (20 + 1 - 2))))), (a0, .inr (12, [.ref a1, .ref a2, .ref a3, .ref a4, .ref a5, .int 0, .ref a6, .int 0, .int 0, .int 0, .int 0, .int 0, .int 0, .int 0, .int 0, .int 0, .int 0, .int (-1), .ref a7, .ref a8, .int 190, .ref a9, .int 21, .ref a10, .ref a11, .ref a12, .ref a13, .ref a14, .int 1, .ref a15, .ref a16, .ref a17])), (a9, .inl (cy 2, 2465, .inr (.inl (rwF (fun _ => 0) (PP 20 2 (20 + 1 - 2)))))), (a3, .inl (cy 1, 1868, .inl (upd (upd (upd (fun _ => 0) 1 2) 2 20) 3 120))), (a1, .inl (cy 1, 1868, .inl (upd (upd (upd (fun _ => 0) 1 2) 2 20) 3 120)))] _ _ := w
  refine r_top (g2 := F0 m 67 ls []) rfl ?_
  refine lv_iload_n C.1 C.2.1 dX12_orders_67 rfl (lv_at hl 2 rfl) ?_
  refine lv_iconst (v := (-1)) C.1 C.2.1 dX12_orders_68 (by decide) ?_
  refine b_icmp_ne_t C (tgt := 79) dX12_orders_69 (by decide) k2 ?_
  refine lv_aload_n C.1 C.2.1 dX12_orders_79 rfl (lv_at hl 0 rfl) ?_
  refine r_get C w 2 rfl rfl 28 (by decide) fl_RX12_395 (v := .int 1) rfl dX12_orders_80 ?_
  refine b_if_le_f C (tgt := 114) dX12_orders_83 (by decide) (by decide) ?_
  refine lv_iload_n C.1 C.2.1 dX12_orders_86 rfl (lv_at hl 2 rfl) ?_
  refine lv_i2l (v := (Int32.toInt64 x1)) C.1 C.2.1 dX12_orders_87 rfl ?_
  refine lv_lconst (v := 0) C.1 C.2.1 dX12_orders_88 (by decide) ?_
  refine lv_aload_n C.1 C.2.1 dX12_orders_89 rfl (lv_at hl 0 rfl) ?_
  refine r_get C w 2 rfl rfl 0 (by decide) fl_RX12_9 (v := .ref a1) rfl dX12_orders_90 ?_
  refine lv_bipush (v := 6) C.1 C.2.1 dX12_orders_93 (by decide) ?_
  refine r_iald C w 5 rfl (v := 0) (vinD (by decide)) rfl dX12_orders_95 ?_
  refine lv_iconst (v := 1) C.1 C.2.1 dX12_orders_96 (by decide) ?_
  refine r_isub C (v := (-1)) dX12_orders_97 (by decide) ?_
  refine lv_i2l (v := (-1)) C.1 C.2.1 dX12_orders_98 (by decide) ?_
  refine r_callS C w fs_RX12_133 (c_X12_within_5 l D cy x1 k3) (hl.1.trans hml.symm) [] [0, 1, 2, 3, 4, 5] (wr := [(a7, .inl (cy 1, 1830, .inl (lxF (lxF (fun _ => 0) 2 20 (PP 20 2 (20 + 1 - 2))) 2 20 (PP 20 2 (20 + 1 - 2))))), (a8, .inl (cy 1, 1830, .inl (lyF (lyF (fun _ => 0) 2 20 (PP 20 2 (20 + 1 - 2))) 2 20 (PP 20 2 (20 + 1 - 2))))), (a0, .inr (12, [.ref a1, .ref a2, .ref a3, .ref a4, .ref a5, .int 0, .ref a6, .int 0, .int 0, .int 0, .int 0, .int 0, .int 0, .int 0, .int 0, .int 0, .int 0, .int (-1), .ref a7, .ref a8, .int 190, .ref a9, .int 21, .ref a10, .ref a11, .ref a12, .ref a13, .ref a14, .int 1, .ref a15, .ref a16, .ref a17])), (a9, .inl (cy 2, 2465, .inr (.inl (rwF (fun _ => 0) (PP 20 2 (20 + 1 - 2)))))), (a3, .inl (cy 1, 1868, .inl (upd (upd (upd (fun _ => 0) 1 2) 2 20) 3 120))), (a1, .inl (cy 1, 1868, .inl (upd (upd (upd (fun _ => 0) 1 2) 2 20) 3 120)))]) ⟨rfl, rfl, rfl, rfl, by decide⟩ rfl rfl ⟨Nat.le_of_ble_eq_true rfl, Nat.le_of_ble_eq_true rfl, Nat.le_of_ble_eq_true rfl⟩ 0 0 ⟨rfl, rfl, Nat.le_of_ble_eq_true rfl, Nat.le_of_ble_eq_true rfl⟩ dX12_orders_99 (fun u H locs hp w => ?_)
  have w : Wd D A s.heap [(a7, .inl (cy 1, 1830, .inl (lxF (lxF (fun _ => 0) 2 20 (PP 20 2 (20 + 1 - 2))) 2 20 (PP 20 2 (20 + 1 - 2))))), (a8, .inl (cy 1, 1830, .inl (lyF (lyF (fun _ => 0) 2 20 (PP 20 2 (20 + 1 - 2))) 2 20 (PP 20 2 (20 + 1 - 2))))), (a0, .inr (12, [.ref a1, .ref a2, .ref a3, .ref a4, .ref a5, .int 0, .ref a6, .int 0, .int 0, .int 0, .int 0, .int 0, .int 0, .int 0, .int 0, .int 0, .int 0, .int (-1), .ref a7, .ref a8, .int 190, .ref a9, .int 21, .ref a10, .ref a11, .ref a12, .ref a13, .ref a14, .int 1, .ref a15, .ref a16, .ref a17])), (a9, .inl (cy 2, 2465, .inr (.inl (rwF (fun _ => 0) (PP 20 2 (20 + 1 - 2)))))), (a3, .inl (cy 1, 1868, .inl (upd (upd (upd (fun _ => 0) 1 2) 2 20) 3 120))), (a1, .inl (cy 1, 1868, .inl (upd (upd (upd (fun _ => 0) 1 2) 2 20) 3 120)))] _ _ := w
  refine r_top (g2 := F0 m 102 ls [.int 0]) rfl ?_
  refine b_if_eq_t C (tgt := 114) dX12_orders_102 (by decide) (by decide) ?_
  refine lv_iconst (v := (-1)) C.1 C.2.1 dX12_orders_114 (by decide) ?_
  exact r_iret C w hlocks () hr rfl rfl trivial [0, 1, 2, 3, 4, 5] rfl rfl ⟨Nat.le_of_ble_eq_true rfl, Nat.le_of_ble_eq_true rfl⟩ dX12_orders_115
theorem dX12_orders_72 : decode cX12_orders 72 = .ok (.aload_n 0, 1) := by decide +kernel
theorem dX12_orders_73 : decode cX12_orders 73 = .ok (.getfield 395, 3) := by decide +kernel
theorem dX12_orders_76 : decode cX12_orders 76 = .ok (.goto 39, 3) := by decide +kernel
set_option maxRecDepth 100000 in
set_option maxHeartbeats 4000000 in
theorem c_X12_orders_4 (l : Launch) (D : va_G) (cy : Nat → ClassId) (a0 a1 a2 a3 a4 a5 a6 a7 a8 a9 a10 a11 a12 a13 a14 a15 a16 a17 : Nat) (x0 : Int32) (k0 : ¬ x0 < 0) (k1 : ¬ 189 < x0) : Ct l D cy yX12_orders cX12_orders 3 (some .int) 4 97 0 0 [(a0, .inr (12, [.ref a1, .ref a2, .ref a3, .ref a4, .ref a5, .int 0, .ref a6, .int 0, .int 0, .int 0, .int 0, .int 0, .int 0, .int 0, .int 0, .int 0, .int 0, .int (-1), .ref a7, .ref a8, .int 0, .ref a9, .int 0, .ref a10, .ref a11, .ref a12, .ref a13, .ref a14, .int 0, .ref a15, .ref a16, .ref a17])), (a1, .inl (cy 1, 1868, .inl (upd (upd (upd (fun _ => 0) 1 2) 2 20) 3 120))), (a3, .inl (cy 1, 1868, .inl (fun _ => 0))), (a7, .inl (cy 1, 1830, .inl (fun _ => 0))), (a8, .inl (cy 1, 1830, .inl (fun _ => 0))), (a9, .inl (cy 2, 2465, .inr (.inl (fun _ => 0))))] [.ref a0, .int x0, .int (-1)] (fun u : Unit => some (.int 1)) (fun _ => True) (fun u : Unit => [(a7, .inl (cy 1, 1830, .inl (lxF (lxF (fun _ => 0) 2 20 (PP 20 2 (20 + 1 - 2))) 2 20 (PP 20 2 (20 + 1 - 2))))), (a8, .inl (cy 1, 1830, .inl (lyF (lyF (fun _ => 0) 2 20 (PP 20 2 (20 + 1 - 2))) 2 20 (PP 20 2 (20 + 1 - 2))))), (a0, .inr (12, [.ref a1, .ref a2, .ref a3, .ref a4, .ref a5, .int 0, .ref a6, .int 0, .int 0, .int 0, .int 0, .int 0, .int 0, .int 0, .int 0, .int 0, .int 0, .int (-1), .ref a7, .ref a8, .int 190, .ref a9, .int 21, .ref a10, .ref a11, .ref a12, .ref a13, .ref a14, .int 1, .ref a15, .ref a16, .ref a17])), (a9, .inl (cy 2, 2465, .inr (.inl (rwF (fun _ => 0) (PP 20 2 (20 + 1 - 2)))))), (a3, .inl (cy 1, 1868, .inl (upd (upd (upd (fun _ => 0) 1 2) 2 20) 3 120))), (a1, .inl (cy 1, 1868, .inl (upd (upd (upd (fun _ => 0) 1 2) 2 20) 3 120)))]) := by
  refine Ct.of (by decide +kernel) (Nat.le_of_ble_eq_true rfl) ?_
  intro p e s m args below meth c A ls C hr hlocks hml hnm w hl
  have hl : lv_has ls 3 [(0, .ref a0), (1, .int x0), (2, .int (-1))] := hl
  refine lv_aload_n C.1 C.2.1 dX12_orders_0 rfl (lv_at hl 0 rfl) ?_
  refine lv_iconst (v := 0) C.1 C.2.1 dX12_orders_1 (by decide) ?_
  refine r_put C w 0 rfl rfl 5 (by decide) fl_RX12_71 rfl (ty := .int) (tyX12_ok 5 (by decide)) rfl rfl (Nat.le_of_ble_eq_true rfl) [(a0, .inr (12, [.ref a1, .ref a2, .ref a3, .ref a4, .ref a5, .int 0, .ref a6, .int 0, .int 0, .int 0, .int 0, .int 0, .int 0, .int 0, .int 0, .int 0, .int 0, .int (-1), .ref a7, .ref a8, .int 0, .ref a9, .int 0, .ref a10, .ref a11, .ref a12, .ref a13, .ref a14, .int 0, .ref a15, .ref a16, .ref a17])), (a1, .inl (cy 1, 1868, .inl (upd (upd (upd (fun _ => 0) 1 2) 2 20) 3 120))), (a3, .inl (cy 1, 1868, .inl (fun _ => 0))), (a7, .inl (cy 1, 1830, .inl (fun _ => 0))), (a8, .inl (cy 1, 1830, .inl (fun _ => 0))), (a9, .inl (cy 2, 2465, .inr (.inl (fun _ => 0))))] rfl dX12_orders_2 (fun H locs w => ?_)
  refine lv_aload_n C.1 C.2.1 dX12_orders_5 rfl (lv_at hl 0 rfl) ?_
  refine lv_iload_n C.1 C.2.1 dX12_orders_6 rfl (lv_at hl 1 rfl) ?_
  refine r_callV C w fv_RX12_256 (c_X12_isWorld_1 l D cy a0 a1 a2 a3 a4 a5 a6 a7 a8 a9 a10 a11 a12 a13 a14 a15 a16 a17 x0 k0 k1) (hl.1.trans hml.symm) [0, 1, 3, 4] [2, 5] (wr := [(a3, .inl (cy 1, 1868, .inl (fun _ => 0))), (a9, .inl (cy 2, 2465, .inr (.inl (fun _ => 0))))]) ⟨rfl, rfl, rfl, rfl, by decide⟩ 0 rfl rfl rfl rfl rfl ⟨Nat.le_of_ble_eq_true rfl, Nat.le_of_ble_eq_true rfl, Nat.le_of_ble_eq_true rfl⟩ 0 0 ⟨rfl, rfl, Nat.le_of_ble_eq_true rfl, Nat.le_of_ble_eq_true rfl⟩ dX12_orders_7 (fun u H locs hp w => ?_)
  have w : Wd D A s.heap [(a3, .inl (cy 1, 1868, .inl (fun _ => 0))), (a9, .inl (cy 2, 2465, .inr (.inl (fun _ => 0)))), (a0, .inr (12, [.ref a1, .ref a2, .ref a3, .ref a4, .ref a5, .int 0, .ref a6, .int 0, .int 0, .int 0, .int 0, .int 0, .int 0, .int 0, .int 0, .int 0, .int 0, .int (-1), .ref a7, .ref a8, .int 190, .ref a9, .int 0, .ref a10, .ref a11, .ref a12, .ref a13, .ref a14, .int 0, .ref a15, .ref a16, .ref a17])), (a1, .inl (cy 1, 1868, .inl (upd (upd (upd (fun _ => 0) 1 2) 2 20) 3 120))), (a7, .inl (cy 1, 1830, .inl (lxF (fun _ => 0) 2 20 (PP 20 2 (20 + 1 - 2))))), (a8, .inl (cy 1, 1830, .inl (lyF (fun _ => 0) 2 20 (PP 20 2 (20 + 1 - 2)))))] _ _ := w
  refine r_top (g2 := F0 m 10 ls [.int 1]) rfl ?_
  refine b_if_ne_t C (tgt := 19) dX12_orders_10 (by decide) (by decide) ?_
  refine lv_aload_n C.1 C.2.1 dX12_orders_19 rfl (lv_at hl 0 rfl) ?_
  refine r_get C w 2 rfl rfl 0 (by decide) fl_RX12_9 (v := .ref a1) rfl dX12_orders_20 ?_
  refine lv_bipush (v := 6) C.1 C.2.1 dX12_orders_23 (by decide) ?_
  refine r_iald C w 3 rfl (v := 0) (vinD (by decide)) rfl dX12_orders_25 ?_
  refine lv_bipush (v := 6) C.1 C.2.1 dX12_orders_26 (by decide) ?_
  refine b_icmp_le_t C (tgt := 33) dX12_orders_28 (by decide) (by decide) ?_
  refine lv_aload_n C.1 C.2.1 dX12_orders_33 rfl (lv_at hl 0 rfl) ?_
  refine r_get C w 2 rfl rfl 0 (by decide) fl_RX12_9 (v := .ref a1) rfl dX12_orders_34 ?_
  refine lv_aload_n C.1 C.2.1 dX12_orders_37 rfl (lv_at hl 0 rfl) ?_
  refine r_get C w 2 rfl rfl 2 (by decide) fl_RX12_16 (v := .ref a3) rfl dX12_orders_38 ?_
  refine r_callS C w fs_RX12_246 (c_X12_copies_1 l D cy a1 a3) (hl.1.trans hml.symm) [3, 0] [1, 2, 4, 5] (wr := [(a9, .inl (cy 2, 2465, .inr (.inl (fun _ => 0)))), (a0, .inr (12, [.ref a1, .ref a2, .ref a3, .ref a4, .ref a5, .int 0, .ref a6, .int 0, .int 0, .int 0, .int 0, .int 0, .int 0, .int 0, .int 0, .int 0, .int 0, .int (-1), .ref a7, .ref a8, .int 190, .ref a9, .int 0, .ref a10, .ref a11, .ref a12, .ref a13, .ref a14, .int 0, .ref a15, .ref a16, .ref a17])), (a7, .inl (cy 1, 1830, .inl (lxF (fun _ => 0) 2 20 (PP 20 2 (20 + 1 - 2))))), (a8, .inl (cy 1, 1830, .inl (lyF (fun _ => 0) 2 20 (PP 20 2 (20 + 1 - 2)))))]) ⟨rfl, rfl, rfl, rfl, by decide⟩ rfl rfl ⟨Nat.le_of_ble_eq_true rfl, Nat.le_of_ble_eq_true rfl, Nat.le_of_ble_eq_true rfl⟩ 0 0 ⟨rfl, rfl, Nat.le_of_ble_eq_true rfl, Nat.le_of_ble_eq_true rfl⟩ dX12_orders_41 (fun u H locs hp w => ?_)
  have w : Wd D A s.heap [(a9, .inl (cy 2, 2465, .inr (.inl (fun _ => 0)))), (a0, .inr (12, [.ref a1, .ref a2, .ref a3, .ref a4, .ref a5, .int 0, .ref a6, .int 0, .int 0, .int 0, .int 0, .int 0, .int 0, .int 0, .int 0, .int 0, .int 0, .int (-1), .ref a7, .ref a8, .int 190, .ref a9, .int 0, .ref a10, .ref a11, .ref a12, .ref a13, .ref a14, .int 0, .ref a15, .ref a16, .ref a17])), (a7, .inl (cy 1, 1830, .inl (lxF (fun _ => 0) 2 20 (PP 20 2 (20 + 1 - 2))))), (a8, .inl (cy 1, 1830, .inl (lyF (fun _ => 0) 2 20 (PP 20 2 (20 + 1 - 2))))), (a1, .inl (cy 1, 1868, .inl (upd (upd (upd (fun _ => 0) 1 2) 2 20) 3 120))), (a3, .inl (cy 1, 1868, .inl (upd (upd (upd (fun _ => 0) 1 2) 2 20) 3 120)))] _ _ := w
  refine r_top (g2 := F0 m 44 ls []) rfl ?_
  refine lv_aload_n C.1 C.2.1 dX12_orders_44 rfl (lv_at hl 0 rfl) ?_
  refine lv_iconst (v := 0) C.1 C.2.1 dX12_orders_45 (by decide) ?_
  refine r_put C w 1 rfl rfl 28 (by decide) fl_RX12_395 rfl (ty := .int) (tyX12_ok 28 (by decide)) rfl rfl (Nat.le_of_ble_eq_true rfl) [(a9, .inl (cy 2, 2465, .inr (.inl (fun _ => 0)))), (a0, .inr (12, [.ref a1, .ref a2, .ref a3, .ref a4, .ref a5, .int 0, .ref a6, .int 0, .int 0, .int 0, .int 0, .int 0, .int 0, .int 0, .int 0, .int 0, .int 0, .int (-1), .ref a7, .ref a8, .int 190, .ref a9, .int 0, .ref a10, .ref a11, .ref a12, .ref a13, .ref a14, .int 0, .ref a15, .ref a16, .ref a17])), (a7, .inl (cy 1, 1830, .inl (lxF (fun _ => 0) 2 20 (PP 20 2 (20 + 1 - 2))))), (a8, .inl (cy 1, 1830, .inl (lyF (fun _ => 0) 2 20 (PP 20 2 (20 + 1 - 2))))), (a1, .inl (cy 1, 1868, .inl (upd (upd (upd (fun _ => 0) 1 2) 2 20) 3 120))), (a3, .inl (cy 1, 1868, .inl (upd (upd (upd (fun _ => 0) 1 2) 2 20) 3 120)))] rfl dX12_orders_46 (fun H locs w => ?_)
  refine lv_aload_n C.1 C.2.1 dX12_orders_49 rfl (lv_at hl 0 rfl) ?_
  refine lv_iconst (v := 0) C.1 C.2.1 dX12_orders_50 (by decide) ?_
  refine lv_iconst (v := 0) C.1 C.2.1 dX12_orders_51 (by decide) ?_
  refine lv_iload_n C.1 C.2.1 dX12_orders_52 rfl (lv_at hl 1 rfl) ?_
  refine r_callV C w fv_RX12_398 (c_X12_triesOrders_0 l D cy a0 a1 a2 a3 a4 a5 a6 a7 a8 a9 a10 a11 a12 a13 a14 a15 a16 a17 x0 k0 (by have h0 := (i_nlt k0); have h1 := (i_nlt k1); have e0 : (0 : Int32).toInt = 0 := (by decide); have e1 : (189 : Int32).toInt = 189 := (by decide); have e2 : (1830 : Int32).toInt = 1830 := (by decide); rw [fa_lt]; omega) (by have h0 := (i_nlt k0); have h1 := (i_nlt k1); have e0 : (0 : Int32).toInt = 0 := (by decide); have e1 : (189 : Int32).toInt = 189 := (by decide); have e2 : (190 : Int32).toInt = 190 := (by decide); rw [fa_lt]; omega)) (hl.1.trans hml.symm) [1, 4, 5, 2, 3, 0] [] (wr := []) ⟨rfl, rfl, rfl, rfl, by decide⟩ 0 rfl rfl rfl rfl rfl ⟨Nat.le_of_ble_eq_true rfl, Nat.le_of_ble_eq_true rfl, Nat.le_of_ble_eq_true rfl⟩ 0 0 ⟨rfl, rfl, Nat.le_of_ble_eq_true rfl, Nat.le_of_ble_eq_true rfl⟩ dX12_orders_53 (fun u H locs hp w => ?_)
  have w : Wd D A s.heap [(a3, .inl (cy 1, 1868, .inl (upd (upd (upd (fun _ => 0) 1 2) 2 20) 3 120))), (a1, .inl (cy 1, 1868, .inl (upd (upd (upd (fun _ => 0) 1 2) 2 20) 3 120))), (a7, .inl (cy 1, 1830, .inl (lxF (lxF (fun _ => 0) 2 20 (PP 20 2 (20 + 1 - 2))) 2 20 (PP 20 2 (20 + 1 - 2))))), (a8, .inl (cy 1, 1830, .inl (lyF (lyF (fun _ => 0) 2 20 (PP 20 2 (20 + 1 - 2))) 2 20 (PP 20 2 (20 + 1 - 2))))), (a0, .inr (12, [.ref a1, .ref a2, .ref a3, .ref a4, .ref a5, .int 0, .ref a6, .int 0, .int 0, .int 0, .int 0, .int 0, .int 0, .int 0, .int 0, .int 0, .int 0, .int (-1), .ref a7, .ref a8, .int 190, .ref a9, .int 21, .ref a10, .ref a11, .ref a12, .ref a13, .ref a14, .int 1, .ref a15, .ref a16, .ref a17])), (a9, .inl (cy 2, 2465, .inr (.inl (rwF (fun _ => 0) (PP 20 2 (20 + 1 - 2))))))] _ _ := w
  refine r_top (g2 := F0 m 56 ls []) rfl ?_
  refine lv_aload_n C.1 C.2.1 dX12_orders_56 rfl (lv_at hl 0 rfl) ?_
  refine r_get C w 4 rfl rfl 2 (by decide) fl_RX12_16 (v := .ref a3) rfl dX12_orders_57 ?_
  refine lv_aload_n C.1 C.2.1 dX12_orders_60 rfl (lv_at hl 0 rfl) ?_
  refine r_get C w 4 rfl rfl 0 (by decide) fl_RX12_9 (v := .ref a1) rfl dX12_orders_61 ?_
  refine r_callS C w fs_RX12_246 (c_X12_copies_0 l D cy a3 a1) (hl.1.trans hml.symm) [0, 1] [2, 3, 4, 5] (wr := [(a7, .inl (cy 1, 1830, .inl (lxF (lxF (fun _ => 0) 2 20 (PP 20 2 (20 + 1 - 2))) 2 20 (PP 20 2 (20 + 1 - 2))))), (a8, .inl (cy 1, 1830, .inl (lyF (lyF (fun _ => 0) 2 20 (PP 20 2 (20 + 1 - 2))) 2 20 (PP 20 2 (20 + 1 - 2))))), (a0, .inr (12, [.ref a1, .ref a2, .ref a3, .ref a4, .ref a5, .int 0, .ref a6, .int 0, .int 0, .int 0, .int 0, .int 0, .int 0, .int 0, .int 0, .int 0, .int 0, .int (-1), .ref a7, .ref a8, .int 190, .ref a9, .int 21, .ref a10, .ref a11, .ref a12, .ref a13, .ref a14, .int 1, .ref a15, .ref a16, .ref a17])), (a9, .inl (cy 2, 2465, .inr (.inl (rwF (fun _ => 0) (PP 20 2 (20 + 1 - 2))))))]) ⟨rfl, rfl, rfl, rfl, by decide⟩ rfl rfl ⟨Nat.le_of_ble_eq_true rfl, Nat.le_of_ble_eq_true rfl, Nat.le_of_ble_eq_true rfl⟩ 0 0 ⟨rfl, rfl, Nat.le_of_ble_eq_true rfl, Nat.le_of_ble_eq_true rfl⟩ dX12_orders_64 (fun u H locs hp w => ?_)
  have w : Wd D A s.heap [(a7, .inl (cy 1, 1830, .inl (lxF (lxF (fun _ => 0) 2 20 (PP 20 2 (20 + 1 - 2))) 2 20 (PP 20 2 (20 + 1 - 2))))), (a8, .inl (cy 1, 1830, .inl (lyF (lyF (fun _ => 0) 2 20 (PP 20 2 (20 + 1 - 2))) 2 20 (PP 20 2 (20 + 1 - 2))))), (a0, .inr (12, [.ref a1, .ref a2, .ref a3, .ref a4, .ref a5, .int 0, .ref a6, .int 0, .int 0, .int 0, .int 0, .int 0, .int 0, .int 0, .int 0, .int 0, .int 0, .int (-1), .ref a7, .ref a8, .int 190, .ref a9, .int 21, .ref a10, .ref a11, .ref a12, .ref a13, .ref a14, .int 1, .ref a15, .ref a16, .ref a17])), (a9, .inl (cy 2, 2465, .inr (.inl (rwF (fun _ => 0) (PP 20 2 (20 + 1 - 2)))))), (a3, .inl (cy 1, 1868, .inl (upd (upd (upd (fun _ => 0) 1 2) 2 20) 3 120))), (a1, .inl (cy 1, 1868, .inl (upd (upd (upd (fun _ => 0) 1 2) 2 20) 3 120)))] _ _ := w
  refine r_top (g2 := F0 m 67 ls []) rfl ?_
  refine lv_iload_n C.1 C.2.1 dX12_orders_67 rfl (lv_at hl 2 rfl) ?_
  refine lv_iconst (v := (-1)) C.1 C.2.1 dX12_orders_68 (by decide) ?_
  refine b_icmp_ne_f C (tgt := 79) dX12_orders_69 (by decide) (by decide) ?_
  refine lv_aload_n C.1 C.2.1 dX12_orders_72 rfl (lv_at hl 0 rfl) ?_
  refine r_get C w 2 rfl rfl 28 (by decide) fl_RX12_395 (v := .int 1) rfl dX12_orders_73 ?_
  refine lv_goto (tgt := 115) C.1 C.2.1 dX12_orders_76 (by decide) ?_
  exact r_iret C w hlocks () hr rfl rfl trivial [0, 1, 2, 3, 4, 5] rfl rfl ⟨Nat.le_of_ble_eq_true rfl, Nat.le_of_ble_eq_true rfl⟩ dX12_orders_115
theorem dX12_answers_0 : decode cX12_answers 0 = .ok (.aload_n 0, 1) := by decide +kernel
theorem dX12_answers_1 : decode cX12_answers 1 = .ok (.aload_n 0, 1) := by decide +kernel
theorem dX12_answers_2 : decode cX12_answers 2 = .ok (.iload_n 1, 1) := by decide +kernel
theorem dX12_answers_3 : decode cX12_answers 3 = .ok (.invokevirtual 406, 3) := by decide +kernel
theorem dX12_trayFault_0 : decode cX12_trayFault 0 = .ok (.iload_n 1, 1) := by decide +kernel
theorem dX12_trayFault_1 : decode cX12_trayFault 1 = .ok (.invokestatic 403, 3) := by decide +kernel
theorem dX12_isTray_0 : decode cX12_isTray 0 = .ok (.iload_n 0, 1) := by decide +kernel
theorem dX12_isTray_1 : decode cX12_isTray 1 = .ok (.i2l, 1) := by decide +kernel
theorem dX12_isTray_2 : decode cX12_isTray 2 = .ok (.lconst 0, 1) := by decide +kernel
theorem kl_RX12_279 : Cond.constantLong RX12 279 3 ∈ gw := gw_mem (by decide +kernel) (by decide +kernel)
theorem dX12_isTray_3 : decode cX12_isTray 3 = .ok (.ldc2_w 279, 3) := by decide +kernel
theorem dX12_isTray_6 : decode cX12_isTray 6 = .ok (.invokestatic 133, 3) := by decide +kernel
set_option maxRecDepth 100000 in
set_option maxHeartbeats 4000000 in
theorem c_X12_within_25 (l : Launch) (D : va_G) (cy : Nat → ClassId) (x0 : Int32) (k0 : x0 < 0) : Ct l D cy yX12_within cX12_within 6 (some .boolean) 0 0 0 0 [] [.long (Int32.toInt64 x0), .long 0, .long 3] (fun u : Unit => some (.int 0)) (fun _ => True) (fun u : Unit => []) := by
  refine Ct.of (by decide +kernel) (Nat.le_of_ble_eq_true rfl) ?_
  intro p e s m args below meth c A ls C hr hlocks hml hnm w hl
  have hl : lv_has ls 6 [(0, .long (Int32.toInt64 x0)), (2, .long 0), (4, .long 3)] := hl
  refine lv_lload_n C.1 C.2.1 dX12_within_0 rfl (lv_at hl 0 rfl) ?_
  refine lv_lload_n C.1 C.2.1 dX12_within_1 rfl (lv_at hl 1 rfl) ?_
  refine r_lcmp C (v := (lg_cmp (Int32.toInt64 x0) 0)) dX12_within_2 rfl ?_
  refine b_if_lt_t C (tgt := 17) dX12_within_3 (by decide) (cmp_lt (x := x0) (y := 0) k0) ?_
  refine lv_iconst (v := 0) C.1 C.2.1 dX12_within_17 (by decide) ?_
  exact r_iret C w hlocks () hr rfl rfl trivial [] rfl rfl ⟨Nat.le_of_ble_eq_true rfl, Nat.le_of_ble_eq_true rfl⟩ dX12_within_18
set_option maxRecDepth 100000 in
set_option maxHeartbeats 4000000 in
theorem c_X12_within_26 (l : Launch) (D : va_G) (cy : Nat → ClassId) (x0 : Int32) (k0 : ¬ x0 < 0) (k1 : 3 < x0) : Ct l D cy yX12_within cX12_within 6 (some .boolean) 0 0 0 0 [] [.long (Int32.toInt64 x0), .long 0, .long 3] (fun u : Unit => some (.int 0)) (fun _ => True) (fun u : Unit => []) := by
  refine Ct.of (by decide +kernel) (Nat.le_of_ble_eq_true rfl) ?_
  intro p e s m args below meth c A ls C hr hlocks hml hnm w hl
  have hl : lv_has ls 6 [(0, .long (Int32.toInt64 x0)), (2, .long 0), (4, .long 3)] := hl
  refine lv_lload_n C.1 C.2.1 dX12_within_0 rfl (lv_at hl 0 rfl) ?_
  refine lv_lload_n C.1 C.2.1 dX12_within_1 rfl (lv_at hl 1 rfl) ?_
  refine r_lcmp C (v := (lg_cmp (Int32.toInt64 x0) 0)) dX12_within_2 rfl ?_
  refine b_if_lt_f C (tgt := 17) dX12_within_3 (by decide) (cmp_nlt (x := x0) (y := 0) k0) ?_
  refine lv_lload_n C.1 C.2.1 dX12_within_6 rfl (lv_at hl 0 rfl) ?_
  refine lv_lload C.1 C.2.1 dX12_within_7 (lv_at hl 2 rfl) ?_
  refine r_lcmp C (v := (lg_cmp (Int32.toInt64 x0) 3)) dX12_within_9 rfl ?_
  refine b_if_gt_t C (tgt := 17) dX12_within_10 (by decide) (cmp_gt (x := x0) (y := 3) k1) ?_
  refine lv_iconst (v := 0) C.1 C.2.1 dX12_within_17 (by decide) ?_
  exact r_iret C w hlocks () hr rfl rfl trivial [] rfl rfl ⟨Nat.le_of_ble_eq_true rfl, Nat.le_of_ble_eq_true rfl⟩ dX12_within_18
set_option maxRecDepth 100000 in
set_option maxHeartbeats 4000000 in
theorem c_X12_within_27 (l : Launch) (D : va_G) (cy : Nat → ClassId) (x0 : Int32) (k0 : ¬ x0 < 0) (k1 : ¬ 3 < x0) : Ct l D cy yX12_within cX12_within 6 (some .boolean) 0 0 0 0 [] [.long (Int32.toInt64 x0), .long 0, .long 3] (fun u : Unit => some (.int 1)) (fun _ => True) (fun u : Unit => []) := by
  refine Ct.of (by decide +kernel) (Nat.le_of_ble_eq_true rfl) ?_
  intro p e s m args below meth c A ls C hr hlocks hml hnm w hl
  have hl : lv_has ls 6 [(0, .long (Int32.toInt64 x0)), (2, .long 0), (4, .long 3)] := hl
  refine lv_lload_n C.1 C.2.1 dX12_within_0 rfl (lv_at hl 0 rfl) ?_
  refine lv_lload_n C.1 C.2.1 dX12_within_1 rfl (lv_at hl 1 rfl) ?_
  refine r_lcmp C (v := (lg_cmp (Int32.toInt64 x0) 0)) dX12_within_2 rfl ?_
  refine b_if_lt_f C (tgt := 17) dX12_within_3 (by decide) (cmp_nlt (x := x0) (y := 0) k0) ?_
  refine lv_lload_n C.1 C.2.1 dX12_within_6 rfl (lv_at hl 0 rfl) ?_
  refine lv_lload C.1 C.2.1 dX12_within_7 (lv_at hl 2 rfl) ?_
  refine r_lcmp C (v := (lg_cmp (Int32.toInt64 x0) 3)) dX12_within_9 rfl ?_
  refine b_if_gt_f C (tgt := 17) dX12_within_10 (by decide) (cmp_ngt (x := x0) (y := 3) k1) ?_
  refine lv_iconst (v := 1) C.1 C.2.1 dX12_within_13 (by decide) ?_
  refine lv_goto (tgt := 18) C.1 C.2.1 dX12_within_14 (by decide) ?_
  exact r_iret C w hlocks () hr rfl rfl trivial [] rfl rfl ⟨Nat.le_of_ble_eq_true rfl, Nat.le_of_ble_eq_true rfl⟩ dX12_within_18
theorem dX12_isTray_9 : decode cX12_isTray 9 = .ok (.ireturn, 1) := by decide +kernel
set_option maxRecDepth 100000 in
set_option maxHeartbeats 4000000 in
theorem c_X12_isTray_0 (l : Launch) (D : va_G) (cy : Nat → ClassId) (x0 : Int32) (k0 : x0 < 0) : Ct l D cy yX12_isTray cX12_isTray 1 (some .boolean) 1 25 0 0 [] [.int x0] (fun u : Unit => some (.int 0)) (fun _ => True) (fun u : Unit => []) := by
  refine Ct.of (by decide +kernel) (Nat.le_of_ble_eq_true rfl) ?_
  intro p e s m args below meth c A ls C hr hlocks hml hnm w hl
  have hl : lv_has ls 1 [(0, .int x0)] := hl
  refine lv_iload_n C.1 C.2.1 dX12_isTray_0 rfl (lv_at hl 0 rfl) ?_
  refine lv_i2l (v := (Int32.toInt64 x0)) C.1 C.2.1 dX12_isTray_1 rfl ?_
  refine lv_lconst (v := 0) C.1 C.2.1 dX12_isTray_2 (by decide) ?_
  refine lv_ldc2 (v := 3) C.1 C.2.1 C.2.2.1 (C.2.2.2.1 _ kl_RX12_279) dX12_isTray_3 ?_
  refine r_callS C w fs_RX12_133 (c_X12_within_25 l D cy x0 k0) (hl.1.trans hml.symm) [] [] (wr := []) ⟨rfl, rfl, rfl, rfl, by decide⟩ rfl rfl ⟨Nat.le_of_ble_eq_true rfl, Nat.le_of_ble_eq_true rfl, Nat.le_of_ble_eq_true rfl⟩ 0 0 ⟨rfl, rfl, Nat.le_of_ble_eq_true rfl, Nat.le_of_ble_eq_true rfl⟩ dX12_isTray_6 (fun u H locs hp w => ?_)
  have w : Wd D A s.heap [] _ _ := w
  refine r_top (g2 := F0 m 9 ls [.int 0]) rfl ?_
  exact r_iret C w hlocks () hr rfl rfl trivial [] rfl rfl ⟨Nat.le_of_ble_eq_true rfl, Nat.le_of_ble_eq_true rfl⟩ dX12_isTray_9
set_option maxRecDepth 100000 in
set_option maxHeartbeats 4000000 in
theorem c_X12_isTray_1 (l : Launch) (D : va_G) (cy : Nat → ClassId) (x0 : Int32) (k0 : ¬ x0 < 0) (k1 : ¬ 3 < x0) : Ct l D cy yX12_isTray cX12_isTray 1 (some .boolean) 1 25 0 0 [] [.int x0] (fun u : Unit => some (.int 1)) (fun _ => True) (fun u : Unit => []) := by
  refine Ct.of (by decide +kernel) (Nat.le_of_ble_eq_true rfl) ?_
  intro p e s m args below meth c A ls C hr hlocks hml hnm w hl
  have hl : lv_has ls 1 [(0, .int x0)] := hl
  refine lv_iload_n C.1 C.2.1 dX12_isTray_0 rfl (lv_at hl 0 rfl) ?_
  refine lv_i2l (v := (Int32.toInt64 x0)) C.1 C.2.1 dX12_isTray_1 rfl ?_
  refine lv_lconst (v := 0) C.1 C.2.1 dX12_isTray_2 (by decide) ?_
  refine lv_ldc2 (v := 3) C.1 C.2.1 C.2.2.1 (C.2.2.2.1 _ kl_RX12_279) dX12_isTray_3 ?_
  refine r_callS C w fs_RX12_133 (c_X12_within_27 l D cy x0 k0 k1) (hl.1.trans hml.symm) [] [] (wr := []) ⟨rfl, rfl, rfl, rfl, by decide⟩ rfl rfl ⟨Nat.le_of_ble_eq_true rfl, Nat.le_of_ble_eq_true rfl, Nat.le_of_ble_eq_true rfl⟩ 0 0 ⟨rfl, rfl, Nat.le_of_ble_eq_true rfl, Nat.le_of_ble_eq_true rfl⟩ dX12_isTray_6 (fun u H locs hp w => ?_)
  have w : Wd D A s.heap [] _ _ := w
  refine r_top (g2 := F0 m 9 ls [.int 1]) rfl ?_
  exact r_iret C w hlocks () hr rfl rfl trivial [] rfl rfl ⟨Nat.le_of_ble_eq_true rfl, Nat.le_of_ble_eq_true rfl⟩ dX12_isTray_9
set_option maxRecDepth 100000 in
set_option maxHeartbeats 4000000 in
theorem c_X12_isTray_2 (l : Launch) (D : va_G) (cy : Nat → ClassId) (x0 : Int32) (k0 : ¬ x0 < 0) (k1 : 3 < x0) : Ct l D cy yX12_isTray cX12_isTray 1 (some .boolean) 1 25 0 0 [] [.int x0] (fun u : Unit => some (.int 0)) (fun _ => True) (fun u : Unit => []) := by
  refine Ct.of (by decide +kernel) (Nat.le_of_ble_eq_true rfl) ?_
  intro p e s m args below meth c A ls C hr hlocks hml hnm w hl
  have hl : lv_has ls 1 [(0, .int x0)] := hl
  refine lv_iload_n C.1 C.2.1 dX12_isTray_0 rfl (lv_at hl 0 rfl) ?_
  refine lv_i2l (v := (Int32.toInt64 x0)) C.1 C.2.1 dX12_isTray_1 rfl ?_
  refine lv_lconst (v := 0) C.1 C.2.1 dX12_isTray_2 (by decide) ?_
  refine lv_ldc2 (v := 3) C.1 C.2.1 C.2.2.1 (C.2.2.2.1 _ kl_RX12_279) dX12_isTray_3 ?_
  refine r_callS C w fs_RX12_133 (c_X12_within_26 l D cy x0 k0 k1) (hl.1.trans hml.symm) [] [] (wr := []) ⟨rfl, rfl, rfl, rfl, by decide⟩ rfl rfl ⟨Nat.le_of_ble_eq_true rfl, Nat.le_of_ble_eq_true rfl, Nat.le_of_ble_eq_true rfl⟩ 0 0 ⟨rfl, rfl, Nat.le_of_ble_eq_true rfl, Nat.le_of_ble_eq_true rfl⟩ dX12_isTray_6 (fun u H locs hp w => ?_)
  have w : Wd D A s.heap [] _ _ := w
  refine r_top (g2 := F0 m 9 ls [.int 0]) rfl ?_
  exact r_iret C w hlocks () hr rfl rfl trivial [] rfl rfl ⟨Nat.le_of_ble_eq_true rfl, Nat.le_of_ble_eq_true rfl⟩ dX12_isTray_9
theorem fs_RX12_403 : FS RX12 403 yX12_isTray cX12_isTray 1 (some .boolean) 1 := ⟨⟨gw_mem (by decide +kernel) (by decide +kernel), gw_mem (by decide +kernel) (by decide +kernel), gw_mem (by decide +kernel) (by decide +kernel), gw_mem (by decide +kernel) (by decide +kernel)⟩, ⟨by decide +kernel, by decide +kernel, by decide +kernel⟩⟩
theorem dX12_trayFault_4 : decode cX12_trayFault 4 = .ok (.ifCond .ne 7, 3) := by decide +kernel
theorem dX12_trayFault_7 : decode cX12_trayFault 7 = .ok (.iconst 1, 1) := by decide +kernel
theorem dX12_trayFault_8 : decode cX12_trayFault 8 = .ok (.goto 18, 3) := by decide +kernel
theorem dX12_trayFault_26 : decode cX12_trayFault 26 = .ok (.ireturn, 1) := by decide +kernel
set_option maxRecDepth 100000 in
set_option maxHeartbeats 4000000 in
theorem c_X12_trayFault_0 (l : Launch) (D : va_G) (cy : Nat → ClassId) (a0 a1 a2 a3 a4 a5 a6 a7 a8 a9 a10 a11 a12 a13 a14 a15 a16 a17 : Nat) (x0 : Int32) (k0 : x0 < 0) : Ct l D cy yX12_trayFault cX12_trayFault 2 (some .int) 2 45 0 0 [(a0, .inr (12, [.ref a1, .ref a2, .ref a3, .ref a4, .ref a5, .int 0, .ref a6, .int 0, .int 0, .int 0, .int 0, .int 0, .int 0, .int 0, .int 0, .int 0, .int 0, .int (-1), .ref a7, .ref a8, .int 0, .ref a9, .int 0, .ref a10, .ref a11, .ref a12, .ref a13, .ref a14, .int 0, .ref a15, .ref a16, .ref a17]))] [.ref a0, .int x0] (fun u : Unit => some (.int 1)) (fun _ => True) (fun u : Unit => [(a0, .inr (12, [.ref a1, .ref a2, .ref a3, .ref a4, .ref a5, .int 0, .ref a6, .int 0, .int 0, .int 0, .int 0, .int 0, .int 0, .int 0, .int 0, .int 0, .int 0, .int (-1), .ref a7, .ref a8, .int 0, .ref a9, .int 0, .ref a10, .ref a11, .ref a12, .ref a13, .ref a14, .int 0, .ref a15, .ref a16, .ref a17]))]) := by
  refine Ct.of (by decide +kernel) (Nat.le_of_ble_eq_true rfl) ?_
  intro p e s m args below meth c A ls C hr hlocks hml hnm w hl
  have hl : lv_has ls 2 [(0, .ref a0), (1, .int x0)] := hl
  refine lv_iload_n C.1 C.2.1 dX12_trayFault_0 rfl (lv_at hl 1 rfl) ?_
  refine r_callS C w fs_RX12_403 (c_X12_isTray_0 l D cy x0 k0) (hl.1.trans hml.symm) [] [0] (wr := [(a0, .inr (12, [.ref a1, .ref a2, .ref a3, .ref a4, .ref a5, .int 0, .ref a6, .int 0, .int 0, .int 0, .int 0, .int 0, .int 0, .int 0, .int 0, .int 0, .int 0, .int (-1), .ref a7, .ref a8, .int 0, .ref a9, .int 0, .ref a10, .ref a11, .ref a12, .ref a13, .ref a14, .int 0, .ref a15, .ref a16, .ref a17]))]) ⟨rfl, rfl, rfl, rfl, by decide⟩ rfl rfl ⟨Nat.le_of_ble_eq_true rfl, Nat.le_of_ble_eq_true rfl, Nat.le_of_ble_eq_true rfl⟩ 0 0 ⟨rfl, rfl, Nat.le_of_ble_eq_true rfl, Nat.le_of_ble_eq_true rfl⟩ dX12_trayFault_1 (fun u H locs hp w => ?_)
  have w : Wd D A s.heap [(a0, .inr (12, [.ref a1, .ref a2, .ref a3, .ref a4, .ref a5, .int 0, .ref a6, .int 0, .int 0, .int 0, .int 0, .int 0, .int 0, .int 0, .int 0, .int 0, .int 0, .int (-1), .ref a7, .ref a8, .int 0, .ref a9, .int 0, .ref a10, .ref a11, .ref a12, .ref a13, .ref a14, .int 0, .ref a15, .ref a16, .ref a17]))] _ _ := w
  refine r_top (g2 := F0 m 4 ls [.int 0]) rfl ?_
  refine b_if_ne_f C (tgt := 11) dX12_trayFault_4 (by decide) (by decide) ?_
  refine lv_iconst (v := 1) C.1 C.2.1 dX12_trayFault_7 (by decide) ?_
  refine lv_goto (tgt := 26) C.1 C.2.1 dX12_trayFault_8 (by decide) ?_
  exact r_iret C w hlocks () hr rfl rfl trivial [0] rfl rfl ⟨Nat.le_of_ble_eq_true rfl, Nat.le_of_ble_eq_true rfl⟩ dX12_trayFault_26
set_option maxRecDepth 100000 in
set_option maxHeartbeats 4000000 in
theorem c_X12_trayFault_1 (l : Launch) (D : va_G) (cy : Nat → ClassId) (a0 a1 a2 a3 a4 a5 a6 a7 a8 a9 a10 a11 a12 a13 a14 a15 a16 a17 : Nat) (x0 : Int32) (k0 : ¬ x0 < 0) (k1 : 3 < x0) : Ct l D cy yX12_trayFault cX12_trayFault 2 (some .int) 2 45 0 0 [(a0, .inr (12, [.ref a1, .ref a2, .ref a3, .ref a4, .ref a5, .int 0, .ref a6, .int 0, .int 0, .int 0, .int 0, .int 0, .int 0, .int 0, .int 0, .int 0, .int 0, .int (-1), .ref a7, .ref a8, .int 0, .ref a9, .int 0, .ref a10, .ref a11, .ref a12, .ref a13, .ref a14, .int 0, .ref a15, .ref a16, .ref a17]))] [.ref a0, .int x0] (fun u : Unit => some (.int 1)) (fun _ => True) (fun u : Unit => [(a0, .inr (12, [.ref a1, .ref a2, .ref a3, .ref a4, .ref a5, .int 0, .ref a6, .int 0, .int 0, .int 0, .int 0, .int 0, .int 0, .int 0, .int 0, .int 0, .int 0, .int (-1), .ref a7, .ref a8, .int 0, .ref a9, .int 0, .ref a10, .ref a11, .ref a12, .ref a13, .ref a14, .int 0, .ref a15, .ref a16, .ref a17]))]) := by
  refine Ct.of (by decide +kernel) (Nat.le_of_ble_eq_true rfl) ?_
  intro p e s m args below meth c A ls C hr hlocks hml hnm w hl
  have hl : lv_has ls 2 [(0, .ref a0), (1, .int x0)] := hl
  refine lv_iload_n C.1 C.2.1 dX12_trayFault_0 rfl (lv_at hl 1 rfl) ?_
  refine r_callS C w fs_RX12_403 (c_X12_isTray_2 l D cy x0 k0 k1) (hl.1.trans hml.symm) [] [0] (wr := [(a0, .inr (12, [.ref a1, .ref a2, .ref a3, .ref a4, .ref a5, .int 0, .ref a6, .int 0, .int 0, .int 0, .int 0, .int 0, .int 0, .int 0, .int 0, .int 0, .int 0, .int (-1), .ref a7, .ref a8, .int 0, .ref a9, .int 0, .ref a10, .ref a11, .ref a12, .ref a13, .ref a14, .int 0, .ref a15, .ref a16, .ref a17]))]) ⟨rfl, rfl, rfl, rfl, by decide⟩ rfl rfl ⟨Nat.le_of_ble_eq_true rfl, Nat.le_of_ble_eq_true rfl, Nat.le_of_ble_eq_true rfl⟩ 0 0 ⟨rfl, rfl, Nat.le_of_ble_eq_true rfl, Nat.le_of_ble_eq_true rfl⟩ dX12_trayFault_1 (fun u H locs hp w => ?_)
  have w : Wd D A s.heap [(a0, .inr (12, [.ref a1, .ref a2, .ref a3, .ref a4, .ref a5, .int 0, .ref a6, .int 0, .int 0, .int 0, .int 0, .int 0, .int 0, .int 0, .int 0, .int 0, .int 0, .int (-1), .ref a7, .ref a8, .int 0, .ref a9, .int 0, .ref a10, .ref a11, .ref a12, .ref a13, .ref a14, .int 0, .ref a15, .ref a16, .ref a17]))] _ _ := w
  refine r_top (g2 := F0 m 4 ls [.int 0]) rfl ?_
  refine b_if_ne_f C (tgt := 11) dX12_trayFault_4 (by decide) (by decide) ?_
  refine lv_iconst (v := 1) C.1 C.2.1 dX12_trayFault_7 (by decide) ?_
  refine lv_goto (tgt := 26) C.1 C.2.1 dX12_trayFault_8 (by decide) ?_
  exact r_iret C w hlocks () hr rfl rfl trivial [0] rfl rfl ⟨Nat.le_of_ble_eq_true rfl, Nat.le_of_ble_eq_true rfl⟩ dX12_trayFault_26
theorem dX12_trayFault_11 : decode cX12_trayFault 11 = .ok (.aload_n 0, 1) := by decide +kernel
theorem dX12_trayFault_12 : decode cX12_trayFault 12 = .ok (.getfield 58, 3) := by decide +kernel
theorem dX12_trayFault_15 : decode cX12_trayFault 15 = .ok (.iload_n 1, 1) := by decide +kernel
set_option maxRecDepth 100000 in
set_option maxHeartbeats 4000000 in
theorem c_X12_within_28 (l : Launch) (D : va_G) (cy : Nat → ClassId) : Ct l D cy yX12_within cX12_within 6 (some .boolean) 0 0 0 0 [] [.long 0, .long 0, .long 3] (fun u : Unit => some (.int 1)) (fun _ => True) (fun u : Unit => []) := by
  refine Ct.of (by decide +kernel) (Nat.le_of_ble_eq_true rfl) ?_
  intro p e s m args below meth c A ls C hr hlocks hml hnm w hl
  have hl : lv_has ls 6 [(0, .long 0), (2, .long 0), (4, .long 3)] := hl
  refine lv_lload_n C.1 C.2.1 dX12_within_0 rfl (lv_at hl 0 rfl) ?_
  refine lv_lload_n C.1 C.2.1 dX12_within_1 rfl (lv_at hl 1 rfl) ?_
  refine r_lcmp C (v := 0) dX12_within_2 (by decide) ?_
  refine b_if_lt_f C (tgt := 17) dX12_within_3 (by decide) (by decide) ?_
  refine lv_lload_n C.1 C.2.1 dX12_within_6 rfl (lv_at hl 0 rfl) ?_
  refine lv_lload C.1 C.2.1 dX12_within_7 (lv_at hl 2 rfl) ?_
  refine r_lcmp C (v := (-1)) dX12_within_9 (by decide) ?_
  refine b_if_gt_f C (tgt := 17) dX12_within_10 (by decide) (by decide) ?_
  refine lv_iconst (v := 1) C.1 C.2.1 dX12_within_13 (by decide) ?_
  refine lv_goto (tgt := 18) C.1 C.2.1 dX12_within_14 (by decide) ?_
  exact r_iret C w hlocks () hr rfl rfl trivial [] rfl rfl ⟨Nat.le_of_ble_eq_true rfl, Nat.le_of_ble_eq_true rfl⟩ dX12_within_18
set_option maxRecDepth 100000 in
set_option maxHeartbeats 4000000 in
theorem c_X12_isTray_3 (l : Launch) (D : va_G) (cy : Nat → ClassId) : Ct l D cy yX12_isTray cX12_isTray 1 (some .boolean) 1 25 0 0 [] [.int 0] (fun u : Unit => some (.int 1)) (fun _ => True) (fun u : Unit => []) := by
  refine Ct.of (by decide +kernel) (Nat.le_of_ble_eq_true rfl) ?_
  intro p e s m args below meth c A ls C hr hlocks hml hnm w hl
  have hl : lv_has ls 1 [(0, .int 0)] := hl
  refine lv_iload_n C.1 C.2.1 dX12_isTray_0 rfl (lv_at hl 0 rfl) ?_
  refine lv_i2l (v := 0) C.1 C.2.1 dX12_isTray_1 (by decide) ?_
  refine lv_lconst (v := 0) C.1 C.2.1 dX12_isTray_2 (by decide) ?_
  refine lv_ldc2 (v := 3) C.1 C.2.1 C.2.2.1 (C.2.2.2.1 _ kl_RX12_279) dX12_isTray_3 ?_
  refine r_callS C w fs_RX12_133 (c_X12_within_28 l D cy) (hl.1.trans hml.symm) [] [] (wr := []) ⟨rfl, rfl, rfl, rfl, by decide⟩ rfl rfl ⟨Nat.le_of_ble_eq_true rfl, Nat.le_of_ble_eq_true rfl, Nat.le_of_ble_eq_true rfl⟩ 0 0 ⟨rfl, rfl, Nat.le_of_ble_eq_true rfl, Nat.le_of_ble_eq_true rfl⟩ dX12_isTray_6 (fun u H locs hp w => ?_)
  have w : Wd D A s.heap [] _ _ := w
  refine r_top (g2 := F0 m 9 ls [.int 1]) rfl ?_
  exact r_iret C w hlocks () hr rfl rfl trivial [] rfl rfl ⟨Nat.le_of_ble_eq_true rfl, Nat.le_of_ble_eq_true rfl⟩ dX12_isTray_9
theorem dX12_trayFault_16 : decode cX12_trayFault 16 = .ok (.iaload, 1) := by decide +kernel
theorem dX12_trayFault_17 : decode cX12_trayFault 17 = .ok (.iconst (-1), 1) := by decide +kernel
theorem dX12_trayFault_18 : decode cX12_trayFault 18 = .ok (.if_icmp .ne 7, 3) := by decide +kernel
theorem dX12_trayFault_21 : decode cX12_trayFault 21 = .ok (.iconst 2, 1) := by decide +kernel
theorem dX12_trayFault_22 : decode cX12_trayFault 22 = .ok (.goto 4, 3) := by decide +kernel
set_option maxRecDepth 100000 in
set_option maxHeartbeats 4000000 in
theorem c_X12_trayFault_2 (l : Launch) (D : va_G) (cy : Nat → ClassId) (a0 a1 a2 a3 a4 a5 a6 a7 a8 a9 a10 a11 a12 a13 a14 a15 a16 a17 : Nat) : Ct l D cy yX12_trayFault cX12_trayFault 2 (some .int) 2 45 0 0 [(a0, .inr (12, [.ref a1, .ref a2, .ref a3, .ref a4, .ref a5, .int 0, .ref a6, .int 0, .int 0, .int 0, .int 0, .int 0, .int 0, .int 0, .int 0, .int 0, .int 0, .int (-1), .ref a7, .ref a8, .int 0, .ref a9, .int 0, .ref a10, .ref a11, .ref a12, .ref a13, .ref a14, .int 0, .ref a15, .ref a16, .ref a17])), (a15, .inl (cy 1, 4, .inl (upd (upd (upd (upd (fun _ => 0) 0 (-1)) 1 (-1)) 2 (-1)) 3 (-1))))] [.ref a0, .int 0] (fun u : Unit => some (.int 2)) (fun _ => True) (fun u : Unit => [(a0, .inr (12, [.ref a1, .ref a2, .ref a3, .ref a4, .ref a5, .int 0, .ref a6, .int 0, .int 0, .int 0, .int 0, .int 0, .int 0, .int 0, .int 0, .int 0, .int 0, .int (-1), .ref a7, .ref a8, .int 0, .ref a9, .int 0, .ref a10, .ref a11, .ref a12, .ref a13, .ref a14, .int 0, .ref a15, .ref a16, .ref a17])), (a15, .inl (cy 1, 4, .inl (upd (upd (upd (upd (fun _ => 0) 0 (-1)) 1 (-1)) 2 (-1)) 3 (-1))))]) := by
  refine Ct.of (by decide +kernel) (Nat.le_of_ble_eq_true rfl) ?_
  intro p e s m args below meth c A ls C hr hlocks hml hnm w hl
  have hl : lv_has ls 2 [(0, .ref a0), (1, .int 0)] := hl
  refine lv_iload_n C.1 C.2.1 dX12_trayFault_0 rfl (lv_at hl 1 rfl) ?_
  refine r_callS C w fs_RX12_403 (c_X12_isTray_3 l D cy) (hl.1.trans hml.symm) [] [0, 1] (wr := [(a0, .inr (12, [.ref a1, .ref a2, .ref a3, .ref a4, .ref a5, .int 0, .ref a6, .int 0, .int 0, .int 0, .int 0, .int 0, .int 0, .int 0, .int 0, .int 0, .int 0, .int (-1), .ref a7, .ref a8, .int 0, .ref a9, .int 0, .ref a10, .ref a11, .ref a12, .ref a13, .ref a14, .int 0, .ref a15, .ref a16, .ref a17])), (a15, .inl (cy 1, 4, .inl (upd (upd (upd (upd (fun _ => 0) 0 (-1)) 1 (-1)) 2 (-1)) 3 (-1))))]) ⟨rfl, rfl, rfl, rfl, by decide⟩ rfl rfl ⟨Nat.le_of_ble_eq_true rfl, Nat.le_of_ble_eq_true rfl, Nat.le_of_ble_eq_true rfl⟩ 0 0 ⟨rfl, rfl, Nat.le_of_ble_eq_true rfl, Nat.le_of_ble_eq_true rfl⟩ dX12_trayFault_1 (fun u H locs hp w => ?_)
  have w : Wd D A s.heap [(a0, .inr (12, [.ref a1, .ref a2, .ref a3, .ref a4, .ref a5, .int 0, .ref a6, .int 0, .int 0, .int 0, .int 0, .int 0, .int 0, .int 0, .int 0, .int 0, .int 0, .int (-1), .ref a7, .ref a8, .int 0, .ref a9, .int 0, .ref a10, .ref a11, .ref a12, .ref a13, .ref a14, .int 0, .ref a15, .ref a16, .ref a17])), (a15, .inl (cy 1, 4, .inl (upd (upd (upd (upd (fun _ => 0) 0 (-1)) 1 (-1)) 2 (-1)) 3 (-1))))] _ _ := w
  refine r_top (g2 := F0 m 4 ls [.int 1]) rfl ?_
  refine b_if_ne_t C (tgt := 11) dX12_trayFault_4 (by decide) (by decide) ?_
  refine lv_aload_n C.1 C.2.1 dX12_trayFault_11 rfl (lv_at hl 0 rfl) ?_
  refine r_get C w 0 rfl rfl 29 (by decide) fl_RX12_58 (v := .ref a15) rfl dX12_trayFault_12 ?_
  refine lv_iload_n C.1 C.2.1 dX12_trayFault_15 rfl (lv_at hl 1 rfl) ?_
  refine r_iald C w 1 rfl (v := (-1)) (vinD (by decide)) rfl dX12_trayFault_16 ?_
  refine lv_iconst (v := (-1)) C.1 C.2.1 dX12_trayFault_17 (by decide) ?_
  refine b_icmp_ne_f C (tgt := 25) dX12_trayFault_18 (by decide) (by decide) ?_
  refine lv_iconst (v := 2) C.1 C.2.1 dX12_trayFault_21 (by decide) ?_
  refine lv_goto (tgt := 26) C.1 C.2.1 dX12_trayFault_22 (by decide) ?_
  exact r_iret C w hlocks () hr rfl rfl trivial [0, 1] rfl rfl ⟨Nat.le_of_ble_eq_true rfl, Nat.le_of_ble_eq_true rfl⟩ dX12_trayFault_26
set_option maxRecDepth 100000 in
set_option maxHeartbeats 4000000 in
theorem c_X12_within_29 (l : Launch) (D : va_G) (cy : Nat → ClassId) : Ct l D cy yX12_within cX12_within 6 (some .boolean) 0 0 0 0 [] [.long 3, .long 0, .long 3] (fun u : Unit => some (.int 1)) (fun _ => True) (fun u : Unit => []) := by
  refine Ct.of (by decide +kernel) (Nat.le_of_ble_eq_true rfl) ?_
  intro p e s m args below meth c A ls C hr hlocks hml hnm w hl
  have hl : lv_has ls 6 [(0, .long 3), (2, .long 0), (4, .long 3)] := hl
  refine lv_lload_n C.1 C.2.1 dX12_within_0 rfl (lv_at hl 0 rfl) ?_
  refine lv_lload_n C.1 C.2.1 dX12_within_1 rfl (lv_at hl 1 rfl) ?_
  refine r_lcmp C (v := 1) dX12_within_2 (by decide) ?_
  refine b_if_lt_f C (tgt := 17) dX12_within_3 (by decide) (by decide) ?_
  refine lv_lload_n C.1 C.2.1 dX12_within_6 rfl (lv_at hl 0 rfl) ?_
  refine lv_lload C.1 C.2.1 dX12_within_7 (lv_at hl 2 rfl) ?_
  refine r_lcmp C (v := 0) dX12_within_9 (by decide) ?_
  refine b_if_gt_f C (tgt := 17) dX12_within_10 (by decide) (by decide) ?_
  refine lv_iconst (v := 1) C.1 C.2.1 dX12_within_13 (by decide) ?_
  refine lv_goto (tgt := 18) C.1 C.2.1 dX12_within_14 (by decide) ?_
  exact r_iret C w hlocks () hr rfl rfl trivial [] rfl rfl ⟨Nat.le_of_ble_eq_true rfl, Nat.le_of_ble_eq_true rfl⟩ dX12_within_18
set_option maxRecDepth 100000 in
set_option maxHeartbeats 4000000 in
theorem c_X12_isTray_4 (l : Launch) (D : va_G) (cy : Nat → ClassId) : Ct l D cy yX12_isTray cX12_isTray 1 (some .boolean) 1 25 0 0 [] [.int 3] (fun u : Unit => some (.int 1)) (fun _ => True) (fun u : Unit => []) := by
  refine Ct.of (by decide +kernel) (Nat.le_of_ble_eq_true rfl) ?_
  intro p e s m args below meth c A ls C hr hlocks hml hnm w hl
  have hl : lv_has ls 1 [(0, .int 3)] := hl
  refine lv_iload_n C.1 C.2.1 dX12_isTray_0 rfl (lv_at hl 0 rfl) ?_
  refine lv_i2l (v := 3) C.1 C.2.1 dX12_isTray_1 (by decide) ?_
  refine lv_lconst (v := 0) C.1 C.2.1 dX12_isTray_2 (by decide) ?_
  refine lv_ldc2 (v := 3) C.1 C.2.1 C.2.2.1 (C.2.2.2.1 _ kl_RX12_279) dX12_isTray_3 ?_
  refine r_callS C w fs_RX12_133 (c_X12_within_29 l D cy) (hl.1.trans hml.symm) [] [] (wr := []) ⟨rfl, rfl, rfl, rfl, by decide⟩ rfl rfl ⟨Nat.le_of_ble_eq_true rfl, Nat.le_of_ble_eq_true rfl, Nat.le_of_ble_eq_true rfl⟩ 0 0 ⟨rfl, rfl, Nat.le_of_ble_eq_true rfl, Nat.le_of_ble_eq_true rfl⟩ dX12_isTray_6 (fun u H locs hp w => ?_)
  have w : Wd D A s.heap [] _ _ := w
  refine r_top (g2 := F0 m 9 ls [.int 1]) rfl ?_
  exact r_iret C w hlocks () hr rfl rfl trivial [] rfl rfl ⟨Nat.le_of_ble_eq_true rfl, Nat.le_of_ble_eq_true rfl⟩ dX12_isTray_9
set_option maxRecDepth 100000 in
set_option maxHeartbeats 4000000 in
theorem c_X12_trayFault_3 (l : Launch) (D : va_G) (cy : Nat → ClassId) (a0 a1 a2 a3 a4 a5 a6 a7 a8 a9 a10 a11 a12 a13 a14 a15 a16 a17 : Nat) : Ct l D cy yX12_trayFault cX12_trayFault 2 (some .int) 2 45 0 0 [(a0, .inr (12, [.ref a1, .ref a2, .ref a3, .ref a4, .ref a5, .int 0, .ref a6, .int 0, .int 0, .int 0, .int 0, .int 0, .int 0, .int 0, .int 0, .int 0, .int 0, .int (-1), .ref a7, .ref a8, .int 0, .ref a9, .int 0, .ref a10, .ref a11, .ref a12, .ref a13, .ref a14, .int 0, .ref a15, .ref a16, .ref a17])), (a15, .inl (cy 1, 4, .inl (upd (upd (upd (upd (fun _ => 0) 0 (-1)) 1 (-1)) 2 (-1)) 3 (-1))))] [.ref a0, .int 3] (fun u : Unit => some (.int 2)) (fun _ => True) (fun u : Unit => [(a0, .inr (12, [.ref a1, .ref a2, .ref a3, .ref a4, .ref a5, .int 0, .ref a6, .int 0, .int 0, .int 0, .int 0, .int 0, .int 0, .int 0, .int 0, .int 0, .int 0, .int (-1), .ref a7, .ref a8, .int 0, .ref a9, .int 0, .ref a10, .ref a11, .ref a12, .ref a13, .ref a14, .int 0, .ref a15, .ref a16, .ref a17])), (a15, .inl (cy 1, 4, .inl (upd (upd (upd (upd (fun _ => 0) 0 (-1)) 1 (-1)) 2 (-1)) 3 (-1))))]) := by
  refine Ct.of (by decide +kernel) (Nat.le_of_ble_eq_true rfl) ?_
  intro p e s m args below meth c A ls C hr hlocks hml hnm w hl
  have hl : lv_has ls 2 [(0, .ref a0), (1, .int 3)] := hl
  refine lv_iload_n C.1 C.2.1 dX12_trayFault_0 rfl (lv_at hl 1 rfl) ?_
  refine r_callS C w fs_RX12_403 (c_X12_isTray_4 l D cy) (hl.1.trans hml.symm) [] [0, 1] (wr := [(a0, .inr (12, [.ref a1, .ref a2, .ref a3, .ref a4, .ref a5, .int 0, .ref a6, .int 0, .int 0, .int 0, .int 0, .int 0, .int 0, .int 0, .int 0, .int 0, .int 0, .int (-1), .ref a7, .ref a8, .int 0, .ref a9, .int 0, .ref a10, .ref a11, .ref a12, .ref a13, .ref a14, .int 0, .ref a15, .ref a16, .ref a17])), (a15, .inl (cy 1, 4, .inl (upd (upd (upd (upd (fun _ => 0) 0 (-1)) 1 (-1)) 2 (-1)) 3 (-1))))]) ⟨rfl, rfl, rfl, rfl, by decide⟩ rfl rfl ⟨Nat.le_of_ble_eq_true rfl, Nat.le_of_ble_eq_true rfl, Nat.le_of_ble_eq_true rfl⟩ 0 0 ⟨rfl, rfl, Nat.le_of_ble_eq_true rfl, Nat.le_of_ble_eq_true rfl⟩ dX12_trayFault_1 (fun u H locs hp w => ?_)
  have w : Wd D A s.heap [(a0, .inr (12, [.ref a1, .ref a2, .ref a3, .ref a4, .ref a5, .int 0, .ref a6, .int 0, .int 0, .int 0, .int 0, .int 0, .int 0, .int 0, .int 0, .int 0, .int 0, .int (-1), .ref a7, .ref a8, .int 0, .ref a9, .int 0, .ref a10, .ref a11, .ref a12, .ref a13, .ref a14, .int 0, .ref a15, .ref a16, .ref a17])), (a15, .inl (cy 1, 4, .inl (upd (upd (upd (upd (fun _ => 0) 0 (-1)) 1 (-1)) 2 (-1)) 3 (-1))))] _ _ := w
  refine r_top (g2 := F0 m 4 ls [.int 1]) rfl ?_
  refine b_if_ne_t C (tgt := 11) dX12_trayFault_4 (by decide) (by decide) ?_
  refine lv_aload_n C.1 C.2.1 dX12_trayFault_11 rfl (lv_at hl 0 rfl) ?_
  refine r_get C w 0 rfl rfl 29 (by decide) fl_RX12_58 (v := .ref a15) rfl dX12_trayFault_12 ?_
  refine lv_iload_n C.1 C.2.1 dX12_trayFault_15 rfl (lv_at hl 1 rfl) ?_
  refine r_iald C w 1 rfl (v := (-1)) (vinD (by decide)) rfl dX12_trayFault_16 ?_
  refine lv_iconst (v := (-1)) C.1 C.2.1 dX12_trayFault_17 (by decide) ?_
  refine b_icmp_ne_f C (tgt := 25) dX12_trayFault_18 (by decide) (by decide) ?_
  refine lv_iconst (v := 2) C.1 C.2.1 dX12_trayFault_21 (by decide) ?_
  refine lv_goto (tgt := 26) C.1 C.2.1 dX12_trayFault_22 (by decide) ?_
  exact r_iret C w hlocks () hr rfl rfl trivial [0, 1] rfl rfl ⟨Nat.le_of_ble_eq_true rfl, Nat.le_of_ble_eq_true rfl⟩ dX12_trayFault_26
set_option maxRecDepth 100000 in
set_option maxHeartbeats 4000000 in
theorem c_X12_within_30 (l : Launch) (D : va_G) (cy : Nat → ClassId) : Ct l D cy yX12_within cX12_within 6 (some .boolean) 0 0 0 0 [] [.long 2, .long 0, .long 3] (fun u : Unit => some (.int 1)) (fun _ => True) (fun u : Unit => []) := by
  refine Ct.of (by decide +kernel) (Nat.le_of_ble_eq_true rfl) ?_
  intro p e s m args below meth c A ls C hr hlocks hml hnm w hl
  have hl : lv_has ls 6 [(0, .long 2), (2, .long 0), (4, .long 3)] := hl
  refine lv_lload_n C.1 C.2.1 dX12_within_0 rfl (lv_at hl 0 rfl) ?_
  refine lv_lload_n C.1 C.2.1 dX12_within_1 rfl (lv_at hl 1 rfl) ?_
  refine r_lcmp C (v := 1) dX12_within_2 (by decide) ?_
  refine b_if_lt_f C (tgt := 17) dX12_within_3 (by decide) (by decide) ?_
  refine lv_lload_n C.1 C.2.1 dX12_within_6 rfl (lv_at hl 0 rfl) ?_
  refine lv_lload C.1 C.2.1 dX12_within_7 (lv_at hl 2 rfl) ?_
  refine r_lcmp C (v := (-1)) dX12_within_9 (by decide) ?_
  refine b_if_gt_f C (tgt := 17) dX12_within_10 (by decide) (by decide) ?_
  refine lv_iconst (v := 1) C.1 C.2.1 dX12_within_13 (by decide) ?_
  refine lv_goto (tgt := 18) C.1 C.2.1 dX12_within_14 (by decide) ?_
  exact r_iret C w hlocks () hr rfl rfl trivial [] rfl rfl ⟨Nat.le_of_ble_eq_true rfl, Nat.le_of_ble_eq_true rfl⟩ dX12_within_18
set_option maxRecDepth 100000 in
set_option maxHeartbeats 4000000 in
theorem c_X12_isTray_5 (l : Launch) (D : va_G) (cy : Nat → ClassId) : Ct l D cy yX12_isTray cX12_isTray 1 (some .boolean) 1 25 0 0 [] [.int 2] (fun u : Unit => some (.int 1)) (fun _ => True) (fun u : Unit => []) := by
  refine Ct.of (by decide +kernel) (Nat.le_of_ble_eq_true rfl) ?_
  intro p e s m args below meth c A ls C hr hlocks hml hnm w hl
  have hl : lv_has ls 1 [(0, .int 2)] := hl
  refine lv_iload_n C.1 C.2.1 dX12_isTray_0 rfl (lv_at hl 0 rfl) ?_
  refine lv_i2l (v := 2) C.1 C.2.1 dX12_isTray_1 (by decide) ?_
  refine lv_lconst (v := 0) C.1 C.2.1 dX12_isTray_2 (by decide) ?_
  refine lv_ldc2 (v := 3) C.1 C.2.1 C.2.2.1 (C.2.2.2.1 _ kl_RX12_279) dX12_isTray_3 ?_
  refine r_callS C w fs_RX12_133 (c_X12_within_30 l D cy) (hl.1.trans hml.symm) [] [] (wr := []) ⟨rfl, rfl, rfl, rfl, by decide⟩ rfl rfl ⟨Nat.le_of_ble_eq_true rfl, Nat.le_of_ble_eq_true rfl, Nat.le_of_ble_eq_true rfl⟩ 0 0 ⟨rfl, rfl, Nat.le_of_ble_eq_true rfl, Nat.le_of_ble_eq_true rfl⟩ dX12_isTray_6 (fun u H locs hp w => ?_)
  have w : Wd D A s.heap [] _ _ := w
  refine r_top (g2 := F0 m 9 ls [.int 1]) rfl ?_
  exact r_iret C w hlocks () hr rfl rfl trivial [] rfl rfl ⟨Nat.le_of_ble_eq_true rfl, Nat.le_of_ble_eq_true rfl⟩ dX12_isTray_9
set_option maxRecDepth 100000 in
set_option maxHeartbeats 4000000 in
theorem c_X12_trayFault_4 (l : Launch) (D : va_G) (cy : Nat → ClassId) (a0 a1 a2 a3 a4 a5 a6 a7 a8 a9 a10 a11 a12 a13 a14 a15 a16 a17 : Nat) : Ct l D cy yX12_trayFault cX12_trayFault 2 (some .int) 2 45 0 0 [(a0, .inr (12, [.ref a1, .ref a2, .ref a3, .ref a4, .ref a5, .int 0, .ref a6, .int 0, .int 0, .int 0, .int 0, .int 0, .int 0, .int 0, .int 0, .int 0, .int 0, .int (-1), .ref a7, .ref a8, .int 0, .ref a9, .int 0, .ref a10, .ref a11, .ref a12, .ref a13, .ref a14, .int 0, .ref a15, .ref a16, .ref a17])), (a15, .inl (cy 1, 4, .inl (upd (upd (upd (upd (fun _ => 0) 0 (-1)) 1 (-1)) 2 (-1)) 3 (-1))))] [.ref a0, .int 2] (fun u : Unit => some (.int 2)) (fun _ => True) (fun u : Unit => [(a0, .inr (12, [.ref a1, .ref a2, .ref a3, .ref a4, .ref a5, .int 0, .ref a6, .int 0, .int 0, .int 0, .int 0, .int 0, .int 0, .int 0, .int 0, .int 0, .int 0, .int (-1), .ref a7, .ref a8, .int 0, .ref a9, .int 0, .ref a10, .ref a11, .ref a12, .ref a13, .ref a14, .int 0, .ref a15, .ref a16, .ref a17])), (a15, .inl (cy 1, 4, .inl (upd (upd (upd (upd (fun _ => 0) 0 (-1)) 1 (-1)) 2 (-1)) 3 (-1))))]) := by
  refine Ct.of (by decide +kernel) (Nat.le_of_ble_eq_true rfl) ?_
  intro p e s m args below meth c A ls C hr hlocks hml hnm w hl
  have hl : lv_has ls 2 [(0, .ref a0), (1, .int 2)] := hl
  refine lv_iload_n C.1 C.2.1 dX12_trayFault_0 rfl (lv_at hl 1 rfl) ?_
  refine r_callS C w fs_RX12_403 (c_X12_isTray_5 l D cy) (hl.1.trans hml.symm) [] [0, 1] (wr := [(a0, .inr (12, [.ref a1, .ref a2, .ref a3, .ref a4, .ref a5, .int 0, .ref a6, .int 0, .int 0, .int 0, .int 0, .int 0, .int 0, .int 0, .int 0, .int 0, .int 0, .int (-1), .ref a7, .ref a8, .int 0, .ref a9, .int 0, .ref a10, .ref a11, .ref a12, .ref a13, .ref a14, .int 0, .ref a15, .ref a16, .ref a17])), (a15, .inl (cy 1, 4, .inl (upd (upd (upd (upd (fun _ => 0) 0 (-1)) 1 (-1)) 2 (-1)) 3 (-1))))]) ⟨rfl, rfl, rfl, rfl, by decide⟩ rfl rfl ⟨Nat.le_of_ble_eq_true rfl, Nat.le_of_ble_eq_true rfl, Nat.le_of_ble_eq_true rfl⟩ 0 0 ⟨rfl, rfl, Nat.le_of_ble_eq_true rfl, Nat.le_of_ble_eq_true rfl⟩ dX12_trayFault_1 (fun u H locs hp w => ?_)
  have w : Wd D A s.heap [(a0, .inr (12, [.ref a1, .ref a2, .ref a3, .ref a4, .ref a5, .int 0, .ref a6, .int 0, .int 0, .int 0, .int 0, .int 0, .int 0, .int 0, .int 0, .int 0, .int 0, .int (-1), .ref a7, .ref a8, .int 0, .ref a9, .int 0, .ref a10, .ref a11, .ref a12, .ref a13, .ref a14, .int 0, .ref a15, .ref a16, .ref a17])), (a15, .inl (cy 1, 4, .inl (upd (upd (upd (upd (fun _ => 0) 0 (-1)) 1 (-1)) 2 (-1)) 3 (-1))))] _ _ := w
  refine r_top (g2 := F0 m 4 ls [.int 1]) rfl ?_
  refine b_if_ne_t C (tgt := 11) dX12_trayFault_4 (by decide) (by decide) ?_
  refine lv_aload_n C.1 C.2.1 dX12_trayFault_11 rfl (lv_at hl 0 rfl) ?_
  refine r_get C w 0 rfl rfl 29 (by decide) fl_RX12_58 (v := .ref a15) rfl dX12_trayFault_12 ?_
  refine lv_iload_n C.1 C.2.1 dX12_trayFault_15 rfl (lv_at hl 1 rfl) ?_
  refine r_iald C w 1 rfl (v := (-1)) (vinD (by decide)) rfl dX12_trayFault_16 ?_
  refine lv_iconst (v := (-1)) C.1 C.2.1 dX12_trayFault_17 (by decide) ?_
  refine b_icmp_ne_f C (tgt := 25) dX12_trayFault_18 (by decide) (by decide) ?_
  refine lv_iconst (v := 2) C.1 C.2.1 dX12_trayFault_21 (by decide) ?_
  refine lv_goto (tgt := 26) C.1 C.2.1 dX12_trayFault_22 (by decide) ?_
  exact r_iret C w hlocks () hr rfl rfl trivial [0, 1] rfl rfl ⟨Nat.le_of_ble_eq_true rfl, Nat.le_of_ble_eq_true rfl⟩ dX12_trayFault_26
set_option maxRecDepth 100000 in
set_option maxHeartbeats 4000000 in
theorem c_X12_within_31 (l : Launch) (D : va_G) (cy : Nat → ClassId) : Ct l D cy yX12_within cX12_within 6 (some .boolean) 0 0 0 0 [] [.long 1, .long 0, .long 3] (fun u : Unit => some (.int 1)) (fun _ => True) (fun u : Unit => []) := by
  refine Ct.of (by decide +kernel) (Nat.le_of_ble_eq_true rfl) ?_
  intro p e s m args below meth c A ls C hr hlocks hml hnm w hl
  have hl : lv_has ls 6 [(0, .long 1), (2, .long 0), (4, .long 3)] := hl
  refine lv_lload_n C.1 C.2.1 dX12_within_0 rfl (lv_at hl 0 rfl) ?_
  refine lv_lload_n C.1 C.2.1 dX12_within_1 rfl (lv_at hl 1 rfl) ?_
  refine r_lcmp C (v := 1) dX12_within_2 (by decide) ?_
  refine b_if_lt_f C (tgt := 17) dX12_within_3 (by decide) (by decide) ?_
  refine lv_lload_n C.1 C.2.1 dX12_within_6 rfl (lv_at hl 0 rfl) ?_
  refine lv_lload C.1 C.2.1 dX12_within_7 (lv_at hl 2 rfl) ?_
  refine r_lcmp C (v := (-1)) dX12_within_9 (by decide) ?_
  refine b_if_gt_f C (tgt := 17) dX12_within_10 (by decide) (by decide) ?_
  refine lv_iconst (v := 1) C.1 C.2.1 dX12_within_13 (by decide) ?_
  refine lv_goto (tgt := 18) C.1 C.2.1 dX12_within_14 (by decide) ?_
  exact r_iret C w hlocks () hr rfl rfl trivial [] rfl rfl ⟨Nat.le_of_ble_eq_true rfl, Nat.le_of_ble_eq_true rfl⟩ dX12_within_18
set_option maxRecDepth 100000 in
set_option maxHeartbeats 4000000 in
theorem c_X12_isTray_6 (l : Launch) (D : va_G) (cy : Nat → ClassId) : Ct l D cy yX12_isTray cX12_isTray 1 (some .boolean) 1 25 0 0 [] [.int 1] (fun u : Unit => some (.int 1)) (fun _ => True) (fun u : Unit => []) := by
  refine Ct.of (by decide +kernel) (Nat.le_of_ble_eq_true rfl) ?_
  intro p e s m args below meth c A ls C hr hlocks hml hnm w hl
  have hl : lv_has ls 1 [(0, .int 1)] := hl
  refine lv_iload_n C.1 C.2.1 dX12_isTray_0 rfl (lv_at hl 0 rfl) ?_
  refine lv_i2l (v := 1) C.1 C.2.1 dX12_isTray_1 (by decide) ?_
  refine lv_lconst (v := 0) C.1 C.2.1 dX12_isTray_2 (by decide) ?_
  refine lv_ldc2 (v := 3) C.1 C.2.1 C.2.2.1 (C.2.2.2.1 _ kl_RX12_279) dX12_isTray_3 ?_
  refine r_callS C w fs_RX12_133 (c_X12_within_31 l D cy) (hl.1.trans hml.symm) [] [] (wr := []) ⟨rfl, rfl, rfl, rfl, by decide⟩ rfl rfl ⟨Nat.le_of_ble_eq_true rfl, Nat.le_of_ble_eq_true rfl, Nat.le_of_ble_eq_true rfl⟩ 0 0 ⟨rfl, rfl, Nat.le_of_ble_eq_true rfl, Nat.le_of_ble_eq_true rfl⟩ dX12_isTray_6 (fun u H locs hp w => ?_)
  have w : Wd D A s.heap [] _ _ := w
  refine r_top (g2 := F0 m 9 ls [.int 1]) rfl ?_
  exact r_iret C w hlocks () hr rfl rfl trivial [] rfl rfl ⟨Nat.le_of_ble_eq_true rfl, Nat.le_of_ble_eq_true rfl⟩ dX12_isTray_9
set_option maxRecDepth 100000 in
set_option maxHeartbeats 4000000 in
theorem c_X12_trayFault_5 (l : Launch) (D : va_G) (cy : Nat → ClassId) (a0 a1 a2 a3 a4 a5 a6 a7 a8 a9 a10 a11 a12 a13 a14 a15 a16 a17 : Nat) : Ct l D cy yX12_trayFault cX12_trayFault 2 (some .int) 2 45 0 0 [(a0, .inr (12, [.ref a1, .ref a2, .ref a3, .ref a4, .ref a5, .int 0, .ref a6, .int 0, .int 0, .int 0, .int 0, .int 0, .int 0, .int 0, .int 0, .int 0, .int 0, .int (-1), .ref a7, .ref a8, .int 0, .ref a9, .int 0, .ref a10, .ref a11, .ref a12, .ref a13, .ref a14, .int 0, .ref a15, .ref a16, .ref a17])), (a15, .inl (cy 1, 4, .inl (upd (upd (upd (upd (fun _ => 0) 0 (-1)) 1 (-1)) 2 (-1)) 3 (-1))))] [.ref a0, .int 1] (fun u : Unit => some (.int 2)) (fun _ => True) (fun u : Unit => [(a0, .inr (12, [.ref a1, .ref a2, .ref a3, .ref a4, .ref a5, .int 0, .ref a6, .int 0, .int 0, .int 0, .int 0, .int 0, .int 0, .int 0, .int 0, .int 0, .int 0, .int (-1), .ref a7, .ref a8, .int 0, .ref a9, .int 0, .ref a10, .ref a11, .ref a12, .ref a13, .ref a14, .int 0, .ref a15, .ref a16, .ref a17])), (a15, .inl (cy 1, 4, .inl (upd (upd (upd (upd (fun _ => 0) 0 (-1)) 1 (-1)) 2 (-1)) 3 (-1))))]) := by
  refine Ct.of (by decide +kernel) (Nat.le_of_ble_eq_true rfl) ?_
  intro p e s m args below meth c A ls C hr hlocks hml hnm w hl
  have hl : lv_has ls 2 [(0, .ref a0), (1, .int 1)] := hl
  refine lv_iload_n C.1 C.2.1 dX12_trayFault_0 rfl (lv_at hl 1 rfl) ?_
  refine r_callS C w fs_RX12_403 (c_X12_isTray_6 l D cy) (hl.1.trans hml.symm) [] [0, 1] (wr := [(a0, .inr (12, [.ref a1, .ref a2, .ref a3, .ref a4, .ref a5, .int 0, .ref a6, .int 0, .int 0, .int 0, .int 0, .int 0, .int 0, .int 0, .int 0, .int 0, .int 0, .int (-1), .ref a7, .ref a8, .int 0, .ref a9, .int 0, .ref a10, .ref a11, .ref a12, .ref a13, .ref a14, .int 0, .ref a15, .ref a16, .ref a17])), (a15, .inl (cy 1, 4, .inl (upd (upd (upd (upd (fun _ => 0) 0 (-1)) 1 (-1)) 2 (-1)) 3 (-1))))]) ⟨rfl, rfl, rfl, rfl, by decide⟩ rfl rfl ⟨Nat.le_of_ble_eq_true rfl, Nat.le_of_ble_eq_true rfl, Nat.le_of_ble_eq_true rfl⟩ 0 0 ⟨rfl, rfl, Nat.le_of_ble_eq_true rfl, Nat.le_of_ble_eq_true rfl⟩ dX12_trayFault_1 (fun u H locs hp w => ?_)
  have w : Wd D A s.heap [(a0, .inr (12, [.ref a1, .ref a2, .ref a3, .ref a4, .ref a5, .int 0, .ref a6, .int 0, .int 0, .int 0, .int 0, .int 0, .int 0, .int 0, .int 0, .int 0, .int 0, .int (-1), .ref a7, .ref a8, .int 0, .ref a9, .int 0, .ref a10, .ref a11, .ref a12, .ref a13, .ref a14, .int 0, .ref a15, .ref a16, .ref a17])), (a15, .inl (cy 1, 4, .inl (upd (upd (upd (upd (fun _ => 0) 0 (-1)) 1 (-1)) 2 (-1)) 3 (-1))))] _ _ := w
  refine r_top (g2 := F0 m 4 ls [.int 1]) rfl ?_
  refine b_if_ne_t C (tgt := 11) dX12_trayFault_4 (by decide) (by decide) ?_
  refine lv_aload_n C.1 C.2.1 dX12_trayFault_11 rfl (lv_at hl 0 rfl) ?_
  refine r_get C w 0 rfl rfl 29 (by decide) fl_RX12_58 (v := .ref a15) rfl dX12_trayFault_12 ?_
  refine lv_iload_n C.1 C.2.1 dX12_trayFault_15 rfl (lv_at hl 1 rfl) ?_
  refine r_iald C w 1 rfl (v := (-1)) (vinD (by decide)) rfl dX12_trayFault_16 ?_
  refine lv_iconst (v := (-1)) C.1 C.2.1 dX12_trayFault_17 (by decide) ?_
  refine b_icmp_ne_f C (tgt := 25) dX12_trayFault_18 (by decide) (by decide) ?_
  refine lv_iconst (v := 2) C.1 C.2.1 dX12_trayFault_21 (by decide) ?_
  refine lv_goto (tgt := 26) C.1 C.2.1 dX12_trayFault_22 (by decide) ?_
  exact r_iret C w hlocks () hr rfl rfl trivial [0, 1] rfl rfl ⟨Nat.le_of_ble_eq_true rfl, Nat.le_of_ble_eq_true rfl⟩ dX12_trayFault_26
theorem fv_RX12_406 : FV RX12 406 yX12_trayFault cX12_trayFault 2 (some .int) 1 := ⟨⟨gw_mem (by decide +kernel) (by decide +kernel), gw_mem (by decide +kernel) (by decide +kernel), gw_mem (by decide +kernel) (by decide +kernel), gw_mem (by decide +kernel) (by decide +kernel), gw_mem (by decide +kernel) (by decide +kernel)⟩, ⟨by decide +kernel, by decide +kernel, by decide +kernel⟩⟩
theorem dX12_answers_6 : decode cX12_answers 6 = .ok (.putfield 71, 3) := by decide +kernel
theorem dX12_answers_9 : decode cX12_answers 9 = .ok (.aload_n 0, 1) := by decide +kernel
theorem dX12_answers_10 : decode cX12_answers 10 = .ok (.getfield 71, 3) := by decide +kernel
theorem dX12_answers_13 : decode cX12_answers 13 = .ok (.ifCond .ne 20, 3) := by decide +kernel
theorem dX12_answers_33 : decode cX12_answers 33 = .ok (.aload_n 0, 1) := by decide +kernel
theorem dX12_answers_34 : decode cX12_answers 34 = .ok (.getfield 71, 3) := by decide +kernel
theorem dX12_answers_37 : decode cX12_answers 37 = .ok (.ifCond .le 5, 3) := by decide +kernel
theorem dX12_answers_40 : decode cX12_answers 40 = .ok (.iconst 0, 1) := by decide +kernel
theorem dX12_answers_41 : decode cX12_answers 41 = .ok (.ireturn, 1) := by decide +kernel
set_option maxRecDepth 100000 in
set_option maxHeartbeats 4000000 in
theorem c_X12_answers_0 (l : Launch) (D : va_G) (cy : Nat → ClassId) (a0 a1 a2 a3 a4 a5 a6 a7 a8 a9 a10 a11 a12 a13 a14 a15 a16 a17 : Nat) (x0 : Int32) (x1 : Int32) (k0 : x0 < 0) : Ct l D cy yX12_answers cX12_answers 8 (some .int) 3 66 0 0 [(a0, .inr (12, [.ref a1, .ref a2, .ref a3, .ref a4, .ref a5, .int 0, .ref a6, .int 0, .int 0, .int 0, .int 0, .int 0, .int 0, .int 0, .int 0, .int 0, .int 0, .int (-1), .ref a7, .ref a8, .int 0, .ref a9, .int 0, .ref a10, .ref a11, .ref a12, .ref a13, .ref a14, .int 0, .ref a15, .ref a16, .ref a17]))] [.ref a0, .int x0, .int x1] (fun u : Unit => some (.int 0)) (fun _ => True) (fun u : Unit => [(a0, .inr (12, [.ref a1, .ref a2, .ref a3, .ref a4, .ref a5, .int 1, .ref a6, .int 0, .int 0, .int 0, .int 0, .int 0, .int 0, .int 0, .int 0, .int 0, .int 0, .int (-1), .ref a7, .ref a8, .int 0, .ref a9, .int 0, .ref a10, .ref a11, .ref a12, .ref a13, .ref a14, .int 0, .ref a15, .ref a16, .ref a17]))]) := by
  refine Ct.of (by decide +kernel) (Nat.le_of_ble_eq_true rfl) ?_
  intro p e s m args below meth c A ls C hr hlocks hml hnm w hl
  have hl : lv_has ls 8 [(0, .ref a0), (1, .int x0), (2, .int x1)] := hl
  refine lv_aload_n C.1 C.2.1 dX12_answers_0 rfl (lv_at hl 0 rfl) ?_
  refine lv_aload_n C.1 C.2.1 dX12_answers_1 rfl (lv_at hl 0 rfl) ?_
  refine lv_iload_n C.1 C.2.1 dX12_answers_2 rfl (lv_at hl 1 rfl) ?_
  refine r_callV C w fv_RX12_406 (c_X12_trayFault_0 l D cy a0 a1 a2 a3 a4 a5 a6 a7 a8 a9 a10 a11 a12 a13 a14 a15 a16 a17 x0 k0) (hl.1.trans hml.symm) [0] [] (wr := []) ⟨rfl, rfl, rfl, rfl, by decide⟩ 0 rfl rfl rfl rfl rfl ⟨Nat.le_of_ble_eq_true rfl, Nat.le_of_ble_eq_true rfl, Nat.le_of_ble_eq_true rfl⟩ 0 0 ⟨rfl, rfl, Nat.le_of_ble_eq_true rfl, Nat.le_of_ble_eq_true rfl⟩ dX12_answers_3 (fun u H locs hp w => ?_)
  have w : Wd D A s.heap [(a0, .inr (12, [.ref a1, .ref a2, .ref a3, .ref a4, .ref a5, .int 0, .ref a6, .int 0, .int 0, .int 0, .int 0, .int 0, .int 0, .int 0, .int 0, .int 0, .int 0, .int (-1), .ref a7, .ref a8, .int 0, .ref a9, .int 0, .ref a10, .ref a11, .ref a12, .ref a13, .ref a14, .int 0, .ref a15, .ref a16, .ref a17]))] _ _ := w
  refine r_top (g2 := F0 m 6 ls [.int 1, .ref a0]) rfl ?_
  refine r_put C w 0 rfl rfl 5 (by decide) fl_RX12_71 rfl (ty := .int) (tyX12_ok 5 (by decide)) rfl rfl (Nat.le_of_ble_eq_true rfl) [(a0, .inr (12, [.ref a1, .ref a2, .ref a3, .ref a4, .ref a5, .int 1, .ref a6, .int 0, .int 0, .int 0, .int 0, .int 0, .int 0, .int 0, .int 0, .int 0, .int 0, .int (-1), .ref a7, .ref a8, .int 0, .ref a9, .int 0, .ref a10, .ref a11, .ref a12, .ref a13, .ref a14, .int 0, .ref a15, .ref a16, .ref a17]))] rfl dX12_answers_6 (fun H locs w => ?_)
  refine lv_aload_n C.1 C.2.1 dX12_answers_9 rfl (lv_at hl 0 rfl) ?_
  refine r_get C w 0 rfl rfl 5 (by decide) fl_RX12_71 (v := .int 1) rfl dX12_answers_10 ?_
  refine b_if_ne_t C (tgt := 33) dX12_answers_13 (by decide) (by decide) ?_
  refine lv_aload_n C.1 C.2.1 dX12_answers_33 rfl (lv_at hl 0 rfl) ?_
  refine r_get C w 0 rfl rfl 5 (by decide) fl_RX12_71 (v := .int 1) rfl dX12_answers_34 ?_
  refine b_if_le_f C (tgt := 42) dX12_answers_37 (by decide) (by decide) ?_
  refine lv_iconst (v := 0) C.1 C.2.1 dX12_answers_40 (by decide) ?_
  exact r_iret C w hlocks () hr rfl rfl trivial [0] rfl rfl ⟨Nat.le_of_ble_eq_true rfl, Nat.le_of_ble_eq_true rfl⟩ dX12_answers_41
set_option maxRecDepth 100000 in
set_option maxHeartbeats 4000000 in
theorem c_X12_trayFault_6 (l : Launch) (D : va_G) (cy : Nat → ClassId) (a0 a1 a2 a3 a4 a5 a6 a7 a8 a9 a10 a11 a12 a13 a14 a15 a16 a17 : Nat) : Ct l D cy yX12_trayFault cX12_trayFault 2 (some .int) 2 45 0 0 [(a0, .inr (12, [.ref a1, .ref a2, .ref a3, .ref a4, .ref a5, .int 0, .ref a6, .int 0, .int 0, .int 0, .int 0, .int 0, .int 0, .int 0, .int 0, .int 0, .int 0, .int (-1), .ref a7, .ref a8, .int 0, .ref a9, .int 0, .ref a10, .ref a11, .ref a12, .ref a13, .ref a14, .int 0, .ref a15, .ref a16, .ref a17])), (a15, .inl (cy 1, 4, .inl (upd (upd (upd (upd (fun _ => 0) 0 (-1)) 1 (-1)) 2 (-1)) 3 (-1))))] [.ref a0, .int 1] (fun u : Unit => some (.int 2)) (fun _ => True) (fun u : Unit => [(a0, .inr (12, [.ref a1, .ref a2, .ref a3, .ref a4, .ref a5, .int 0, .ref a6, .int 0, .int 0, .int 0, .int 0, .int 0, .int 0, .int 0, .int 0, .int 0, .int 0, .int (-1), .ref a7, .ref a8, .int 0, .ref a9, .int 0, .ref a10, .ref a11, .ref a12, .ref a13, .ref a14, .int 0, .ref a15, .ref a16, .ref a17])), (a15, .inl (cy 1, 4, .inl (upd (upd (upd (upd (fun _ => 0) 0 (-1)) 1 (-1)) 2 (-1)) 3 (-1))))]) := by
  refine Ct.of (by decide +kernel) (Nat.le_of_ble_eq_true rfl) ?_
  intro p e s m args below meth c A ls C hr hlocks hml hnm w hl
  have hl : lv_has ls 2 [(0, .ref a0), (1, .int 1)] := hl
  refine lv_iload_n C.1 C.2.1 dX12_trayFault_0 rfl (lv_at hl 1 rfl) ?_
  refine r_callS C w fs_RX12_403 (c_X12_isTray_6 l D cy) (hl.1.trans hml.symm) [] [0, 1] (wr := [(a0, .inr (12, [.ref a1, .ref a2, .ref a3, .ref a4, .ref a5, .int 0, .ref a6, .int 0, .int 0, .int 0, .int 0, .int 0, .int 0, .int 0, .int 0, .int 0, .int 0, .int (-1), .ref a7, .ref a8, .int 0, .ref a9, .int 0, .ref a10, .ref a11, .ref a12, .ref a13, .ref a14, .int 0, .ref a15, .ref a16, .ref a17])), (a15, .inl (cy 1, 4, .inl (upd (upd (upd (upd (fun _ => 0) 0 (-1)) 1 (-1)) 2 (-1)) 3 (-1))))]) ⟨rfl, rfl, rfl, rfl, by decide⟩ rfl rfl ⟨Nat.le_of_ble_eq_true rfl, Nat.le_of_ble_eq_true rfl, Nat.le_of_ble_eq_true rfl⟩ 0 0 ⟨rfl, rfl, Nat.le_of_ble_eq_true rfl, Nat.le_of_ble_eq_true rfl⟩ dX12_trayFault_1 (fun u H locs hp w => ?_)
  have w : Wd D A s.heap [(a0, .inr (12, [.ref a1, .ref a2, .ref a3, .ref a4, .ref a5, .int 0, .ref a6, .int 0, .int 0, .int 0, .int 0, .int 0, .int 0, .int 0, .int 0, .int 0, .int 0, .int (-1), .ref a7, .ref a8, .int 0, .ref a9, .int 0, .ref a10, .ref a11, .ref a12, .ref a13, .ref a14, .int 0, .ref a15, .ref a16, .ref a17])), (a15, .inl (cy 1, 4, .inl (upd (upd (upd (upd (fun _ => 0) 0 (-1)) 1 (-1)) 2 (-1)) 3 (-1))))] _ _ := w
  refine r_top (g2 := F0 m 4 ls [.int 1]) rfl ?_
  refine b_if_ne_t C (tgt := 11) dX12_trayFault_4 (by decide) (by decide) ?_
  refine lv_aload_n C.1 C.2.1 dX12_trayFault_11 rfl (lv_at hl 0 rfl) ?_
  refine r_get C w 0 rfl rfl 29 (by decide) fl_RX12_58 (v := .ref a15) rfl dX12_trayFault_12 ?_
  refine lv_iload_n C.1 C.2.1 dX12_trayFault_15 rfl (lv_at hl 1 rfl) ?_
  refine r_iald C w 1 rfl (v := (-1)) (vinD (by decide)) rfl dX12_trayFault_16 ?_
  refine lv_iconst (v := (-1)) C.1 C.2.1 dX12_trayFault_17 (by decide) ?_
  refine b_icmp_ne_f C (tgt := 25) dX12_trayFault_18 (by decide) (by decide) ?_
  refine lv_iconst (v := 2) C.1 C.2.1 dX12_trayFault_21 (by decide) ?_
  refine lv_goto (tgt := 26) C.1 C.2.1 dX12_trayFault_22 (by decide) ?_
  exact r_iret C w hlocks () hr rfl rfl trivial [0, 1] rfl rfl ⟨Nat.le_of_ble_eq_true rfl, Nat.le_of_ble_eq_true rfl⟩ dX12_trayFault_26
set_option maxRecDepth 100000 in
set_option maxHeartbeats 4000000 in
theorem c_X12_answers_1 (l : Launch) (D : va_G) (cy : Nat → ClassId) (a0 a1 a2 a3 a4 a5 a6 a7 a8 a9 a10 a11 a12 a13 a14 a15 a16 a17 : Nat) (x1 : Int32) : Ct l D cy yX12_answers cX12_answers 8 (some .int) 3 66 0 0 [(a0, .inr (12, [.ref a1, .ref a2, .ref a3, .ref a4, .ref a5, .int 0, .ref a6, .int 0, .int 0, .int 0, .int 0, .int 0, .int 0, .int 0, .int 0, .int 0, .int 0, .int (-1), .ref a7, .ref a8, .int 0, .ref a9, .int 0, .ref a10, .ref a11, .ref a12, .ref a13, .ref a14, .int 0, .ref a15, .ref a16, .ref a17])), (a15, .inl (cy 1, 4, .inl (upd (upd (upd (upd (fun _ => 0) 0 (-1)) 1 (-1)) 2 (-1)) 3 (-1))))] [.ref a0, .int 1, .int x1] (fun u : Unit => some (.int 0)) (fun _ => True) (fun u : Unit => [(a0, .inr (12, [.ref a1, .ref a2, .ref a3, .ref a4, .ref a5, .int 2, .ref a6, .int 0, .int 0, .int 0, .int 0, .int 0, .int 0, .int 0, .int 0, .int 0, .int 0, .int (-1), .ref a7, .ref a8, .int 0, .ref a9, .int 0, .ref a10, .ref a11, .ref a12, .ref a13, .ref a14, .int 0, .ref a15, .ref a16, .ref a17])), (a15, .inl (cy 1, 4, .inl (upd (upd (upd (upd (fun _ => 0) 0 (-1)) 1 (-1)) 2 (-1)) 3 (-1))))]) := by
  refine Ct.of (by decide +kernel) (Nat.le_of_ble_eq_true rfl) ?_
  intro p e s m args below meth c A ls C hr hlocks hml hnm w hl
  have hl : lv_has ls 8 [(0, .ref a0), (1, .int 1), (2, .int x1)] := hl
  refine lv_aload_n C.1 C.2.1 dX12_answers_0 rfl (lv_at hl 0 rfl) ?_
  refine lv_aload_n C.1 C.2.1 dX12_answers_1 rfl (lv_at hl 0 rfl) ?_
  refine lv_iload_n C.1 C.2.1 dX12_answers_2 rfl (lv_at hl 1 rfl) ?_
  refine r_callV C w fv_RX12_406 (c_X12_trayFault_6 l D cy a0 a1 a2 a3 a4 a5 a6 a7 a8 a9 a10 a11 a12 a13 a14 a15 a16 a17) (hl.1.trans hml.symm) [0, 1] [] (wr := []) ⟨rfl, rfl, rfl, rfl, by decide⟩ 0 rfl rfl rfl rfl rfl ⟨Nat.le_of_ble_eq_true rfl, Nat.le_of_ble_eq_true rfl, Nat.le_of_ble_eq_true rfl⟩ 0 0 ⟨rfl, rfl, Nat.le_of_ble_eq_true rfl, Nat.le_of_ble_eq_true rfl⟩ dX12_answers_3 (fun u H locs hp w => ?_)
  have w : Wd D A s.heap [(a0, .inr (12, [.ref a1, .ref a2, .ref a3, .ref a4, .ref a5, .int 0, .ref a6, .int 0, .int 0, .int 0, .int 0, .int 0, .int 0, .int 0, .int 0, .int 0, .int 0, .int (-1), .ref a7, .ref a8, .int 0, .ref a9, .int 0, .ref a10, .ref a11, .ref a12, .ref a13, .ref a14, .int 0, .ref a15, .ref a16, .ref a17])), (a15, .inl (cy 1, 4, .inl (upd (upd (upd (upd (fun _ => 0) 0 (-1)) 1 (-1)) 2 (-1)) 3 (-1))))] _ _ := w
  refine r_top (g2 := F0 m 6 ls [.int 2, .ref a0]) rfl ?_
  refine r_put C w 0 rfl rfl 5 (by decide) fl_RX12_71 rfl (ty := .int) (tyX12_ok 5 (by decide)) rfl rfl (Nat.le_of_ble_eq_true rfl) [(a0, .inr (12, [.ref a1, .ref a2, .ref a3, .ref a4, .ref a5, .int 2, .ref a6, .int 0, .int 0, .int 0, .int 0, .int 0, .int 0, .int 0, .int 0, .int 0, .int 0, .int (-1), .ref a7, .ref a8, .int 0, .ref a9, .int 0, .ref a10, .ref a11, .ref a12, .ref a13, .ref a14, .int 0, .ref a15, .ref a16, .ref a17])), (a15, .inl (cy 1, 4, .inl (upd (upd (upd (upd (fun _ => 0) 0 (-1)) 1 (-1)) 2 (-1)) 3 (-1))))] rfl dX12_answers_6 (fun H locs w => ?_)
  refine lv_aload_n C.1 C.2.1 dX12_answers_9 rfl (lv_at hl 0 rfl) ?_
  refine r_get C w 0 rfl rfl 5 (by decide) fl_RX12_71 (v := .int 2) rfl dX12_answers_10 ?_
  refine b_if_ne_t C (tgt := 33) dX12_answers_13 (by decide) (by decide) ?_
  refine lv_aload_n C.1 C.2.1 dX12_answers_33 rfl (lv_at hl 0 rfl) ?_
  refine r_get C w 0 rfl rfl 5 (by decide) fl_RX12_71 (v := .int 2) rfl dX12_answers_34 ?_
  refine b_if_le_f C (tgt := 42) dX12_answers_37 (by decide) (by decide) ?_
  refine lv_iconst (v := 0) C.1 C.2.1 dX12_answers_40 (by decide) ?_
  exact r_iret C w hlocks () hr rfl rfl trivial [0, 1] rfl rfl ⟨Nat.le_of_ble_eq_true rfl, Nat.le_of_ble_eq_true rfl⟩ dX12_answers_41
set_option maxRecDepth 100000 in
set_option maxHeartbeats 4000000 in
theorem c_X12_trayFault_7 (l : Launch) (D : va_G) (cy : Nat → ClassId) (a0 a1 a2 a3 a4 a5 a6 a7 a8 a9 a10 a11 a12 a13 a14 a15 a16 a17 : Nat) : Ct l D cy yX12_trayFault cX12_trayFault 2 (some .int) 2 45 0 0 [(a0, .inr (12, [.ref a1, .ref a2, .ref a3, .ref a4, .ref a5, .int 0, .ref a6, .int 0, .int 0, .int 0, .int 0, .int 0, .int 0, .int 0, .int 0, .int 0, .int 0, .int (-1), .ref a7, .ref a8, .int 0, .ref a9, .int 0, .ref a10, .ref a11, .ref a12, .ref a13, .ref a14, .int 0, .ref a15, .ref a16, .ref a17])), (a15, .inl (cy 1, 4, .inl (upd (upd (upd (upd (fun _ => 0) 0 (-1)) 1 (-1)) 2 (-1)) 3 (-1))))] [.ref a0, .int 2] (fun u : Unit => some (.int 2)) (fun _ => True) (fun u : Unit => [(a0, .inr (12, [.ref a1, .ref a2, .ref a3, .ref a4, .ref a5, .int 0, .ref a6, .int 0, .int 0, .int 0, .int 0, .int 0, .int 0, .int 0, .int 0, .int 0, .int 0, .int (-1), .ref a7, .ref a8, .int 0, .ref a9, .int 0, .ref a10, .ref a11, .ref a12, .ref a13, .ref a14, .int 0, .ref a15, .ref a16, .ref a17])), (a15, .inl (cy 1, 4, .inl (upd (upd (upd (upd (fun _ => 0) 0 (-1)) 1 (-1)) 2 (-1)) 3 (-1))))]) := by
  refine Ct.of (by decide +kernel) (Nat.le_of_ble_eq_true rfl) ?_
  intro p e s m args below meth c A ls C hr hlocks hml hnm w hl
  have hl : lv_has ls 2 [(0, .ref a0), (1, .int 2)] := hl
  refine lv_iload_n C.1 C.2.1 dX12_trayFault_0 rfl (lv_at hl 1 rfl) ?_
  refine r_callS C w fs_RX12_403 (c_X12_isTray_5 l D cy) (hl.1.trans hml.symm) [] [0, 1] (wr := [(a0, .inr (12, [.ref a1, .ref a2, .ref a3, .ref a4, .ref a5, .int 0, .ref a6, .int 0, .int 0, .int 0, .int 0, .int 0, .int 0, .int 0, .int 0, .int 0, .int 0, .int (-1), .ref a7, .ref a8, .int 0, .ref a9, .int 0, .ref a10, .ref a11, .ref a12, .ref a13, .ref a14, .int 0, .ref a15, .ref a16, .ref a17])), (a15, .inl (cy 1, 4, .inl (upd (upd (upd (upd (fun _ => 0) 0 (-1)) 1 (-1)) 2 (-1)) 3 (-1))))]) ⟨rfl, rfl, rfl, rfl, by decide⟩ rfl rfl ⟨Nat.le_of_ble_eq_true rfl, Nat.le_of_ble_eq_true rfl, Nat.le_of_ble_eq_true rfl⟩ 0 0 ⟨rfl, rfl, Nat.le_of_ble_eq_true rfl, Nat.le_of_ble_eq_true rfl⟩ dX12_trayFault_1 (fun u H locs hp w => ?_)
  have w : Wd D A s.heap [(a0, .inr (12, [.ref a1, .ref a2, .ref a3, .ref a4, .ref a5, .int 0, .ref a6, .int 0, .int 0, .int 0, .int 0, .int 0, .int 0, .int 0, .int 0, .int 0, .int 0, .int (-1), .ref a7, .ref a8, .int 0, .ref a9, .int 0, .ref a10, .ref a11, .ref a12, .ref a13, .ref a14, .int 0, .ref a15, .ref a16, .ref a17])), (a15, .inl (cy 1, 4, .inl (upd (upd (upd (upd (fun _ => 0) 0 (-1)) 1 (-1)) 2 (-1)) 3 (-1))))] _ _ := w
  refine r_top (g2 := F0 m 4 ls [.int 1]) rfl ?_
  refine b_if_ne_t C (tgt := 11) dX12_trayFault_4 (by decide) (by decide) ?_
  refine lv_aload_n C.1 C.2.1 dX12_trayFault_11 rfl (lv_at hl 0 rfl) ?_
  refine r_get C w 0 rfl rfl 29 (by decide) fl_RX12_58 (v := .ref a15) rfl dX12_trayFault_12 ?_
  refine lv_iload_n C.1 C.2.1 dX12_trayFault_15 rfl (lv_at hl 1 rfl) ?_
  refine r_iald C w 1 rfl (v := (-1)) (vinD (by decide)) rfl dX12_trayFault_16 ?_
  refine lv_iconst (v := (-1)) C.1 C.2.1 dX12_trayFault_17 (by decide) ?_
  refine b_icmp_ne_f C (tgt := 25) dX12_trayFault_18 (by decide) (by decide) ?_
  refine lv_iconst (v := 2) C.1 C.2.1 dX12_trayFault_21 (by decide) ?_
  refine lv_goto (tgt := 26) C.1 C.2.1 dX12_trayFault_22 (by decide) ?_
  exact r_iret C w hlocks () hr rfl rfl trivial [0, 1] rfl rfl ⟨Nat.le_of_ble_eq_true rfl, Nat.le_of_ble_eq_true rfl⟩ dX12_trayFault_26
set_option maxRecDepth 100000 in
set_option maxHeartbeats 4000000 in
theorem c_X12_answers_2 (l : Launch) (D : va_G) (cy : Nat → ClassId) (a0 a1 a2 a3 a4 a5 a6 a7 a8 a9 a10 a11 a12 a13 a14 a15 a16 a17 : Nat) (x1 : Int32) : Ct l D cy yX12_answers cX12_answers 8 (some .int) 3 66 0 0 [(a0, .inr (12, [.ref a1, .ref a2, .ref a3, .ref a4, .ref a5, .int 0, .ref a6, .int 0, .int 0, .int 0, .int 0, .int 0, .int 0, .int 0, .int 0, .int 0, .int 0, .int (-1), .ref a7, .ref a8, .int 0, .ref a9, .int 0, .ref a10, .ref a11, .ref a12, .ref a13, .ref a14, .int 0, .ref a15, .ref a16, .ref a17])), (a15, .inl (cy 1, 4, .inl (upd (upd (upd (upd (fun _ => 0) 0 (-1)) 1 (-1)) 2 (-1)) 3 (-1))))] [.ref a0, .int 2, .int x1] (fun u : Unit => some (.int 0)) (fun _ => True) (fun u : Unit => [(a0, .inr (12, [.ref a1, .ref a2, .ref a3, .ref a4, .ref a5, .int 2, .ref a6, .int 0, .int 0, .int 0, .int 0, .int 0, .int 0, .int 0, .int 0, .int 0, .int 0, .int (-1), .ref a7, .ref a8, .int 0, .ref a9, .int 0, .ref a10, .ref a11, .ref a12, .ref a13, .ref a14, .int 0, .ref a15, .ref a16, .ref a17])), (a15, .inl (cy 1, 4, .inl (upd (upd (upd (upd (fun _ => 0) 0 (-1)) 1 (-1)) 2 (-1)) 3 (-1))))]) := by
  refine Ct.of (by decide +kernel) (Nat.le_of_ble_eq_true rfl) ?_
  intro p e s m args below meth c A ls C hr hlocks hml hnm w hl
  have hl : lv_has ls 8 [(0, .ref a0), (1, .int 2), (2, .int x1)] := hl
  refine lv_aload_n C.1 C.2.1 dX12_answers_0 rfl (lv_at hl 0 rfl) ?_
  refine lv_aload_n C.1 C.2.1 dX12_answers_1 rfl (lv_at hl 0 rfl) ?_
  refine lv_iload_n C.1 C.2.1 dX12_answers_2 rfl (lv_at hl 1 rfl) ?_
  refine r_callV C w fv_RX12_406 (c_X12_trayFault_7 l D cy a0 a1 a2 a3 a4 a5 a6 a7 a8 a9 a10 a11 a12 a13 a14 a15 a16 a17) (hl.1.trans hml.symm) [0, 1] [] (wr := []) ⟨rfl, rfl, rfl, rfl, by decide⟩ 0 rfl rfl rfl rfl rfl ⟨Nat.le_of_ble_eq_true rfl, Nat.le_of_ble_eq_true rfl, Nat.le_of_ble_eq_true rfl⟩ 0 0 ⟨rfl, rfl, Nat.le_of_ble_eq_true rfl, Nat.le_of_ble_eq_true rfl⟩ dX12_answers_3 (fun u H locs hp w => ?_)
  have w : Wd D A s.heap [(a0, .inr (12, [.ref a1, .ref a2, .ref a3, .ref a4, .ref a5, .int 0, .ref a6, .int 0, .int 0, .int 0, .int 0, .int 0, .int 0, .int 0, .int 0, .int 0, .int 0, .int (-1), .ref a7, .ref a8, .int 0, .ref a9, .int 0, .ref a10, .ref a11, .ref a12, .ref a13, .ref a14, .int 0, .ref a15, .ref a16, .ref a17])), (a15, .inl (cy 1, 4, .inl (upd (upd (upd (upd (fun _ => 0) 0 (-1)) 1 (-1)) 2 (-1)) 3 (-1))))] _ _ := w
  refine r_top (g2 := F0 m 6 ls [.int 2, .ref a0]) rfl ?_
  refine r_put C w 0 rfl rfl 5 (by decide) fl_RX12_71 rfl (ty := .int) (tyX12_ok 5 (by decide)) rfl rfl (Nat.le_of_ble_eq_true rfl) [(a0, .inr (12, [.ref a1, .ref a2, .ref a3, .ref a4, .ref a5, .int 2, .ref a6, .int 0, .int 0, .int 0, .int 0, .int 0, .int 0, .int 0, .int 0, .int 0, .int 0, .int (-1), .ref a7, .ref a8, .int 0, .ref a9, .int 0, .ref a10, .ref a11, .ref a12, .ref a13, .ref a14, .int 0, .ref a15, .ref a16, .ref a17])), (a15, .inl (cy 1, 4, .inl (upd (upd (upd (upd (fun _ => 0) 0 (-1)) 1 (-1)) 2 (-1)) 3 (-1))))] rfl dX12_answers_6 (fun H locs w => ?_)
  refine lv_aload_n C.1 C.2.1 dX12_answers_9 rfl (lv_at hl 0 rfl) ?_
  refine r_get C w 0 rfl rfl 5 (by decide) fl_RX12_71 (v := .int 2) rfl dX12_answers_10 ?_
  refine b_if_ne_t C (tgt := 33) dX12_answers_13 (by decide) (by decide) ?_
  refine lv_aload_n C.1 C.2.1 dX12_answers_33 rfl (lv_at hl 0 rfl) ?_
  refine r_get C w 0 rfl rfl 5 (by decide) fl_RX12_71 (v := .int 2) rfl dX12_answers_34 ?_
  refine b_if_le_f C (tgt := 42) dX12_answers_37 (by decide) (by decide) ?_
  refine lv_iconst (v := 0) C.1 C.2.1 dX12_answers_40 (by decide) ?_
  exact r_iret C w hlocks () hr rfl rfl trivial [0, 1] rfl rfl ⟨Nat.le_of_ble_eq_true rfl, Nat.le_of_ble_eq_true rfl⟩ dX12_answers_41
set_option maxRecDepth 100000 in
set_option maxHeartbeats 4000000 in
theorem c_X12_trayFault_8 (l : Launch) (D : va_G) (cy : Nat → ClassId) (a0 a1 a2 a3 a4 a5 a6 a7 a8 a9 a10 a11 a12 a13 a14 a15 a16 a17 : Nat) : Ct l D cy yX12_trayFault cX12_trayFault 2 (some .int) 2 45 0 0 [(a0, .inr (12, [.ref a1, .ref a2, .ref a3, .ref a4, .ref a5, .int 0, .ref a6, .int 0, .int 0, .int 0, .int 0, .int 0, .int 0, .int 0, .int 0, .int 0, .int 0, .int (-1), .ref a7, .ref a8, .int 0, .ref a9, .int 0, .ref a10, .ref a11, .ref a12, .ref a13, .ref a14, .int 0, .ref a15, .ref a16, .ref a17])), (a15, .inl (cy 1, 4, .inl (upd (upd (upd (upd (fun _ => 0) 0 (-1)) 1 (-1)) 2 (-1)) 3 (-1))))] [.ref a0, .int 3] (fun u : Unit => some (.int 2)) (fun _ => True) (fun u : Unit => [(a0, .inr (12, [.ref a1, .ref a2, .ref a3, .ref a4, .ref a5, .int 0, .ref a6, .int 0, .int 0, .int 0, .int 0, .int 0, .int 0, .int 0, .int 0, .int 0, .int 0, .int (-1), .ref a7, .ref a8, .int 0, .ref a9, .int 0, .ref a10, .ref a11, .ref a12, .ref a13, .ref a14, .int 0, .ref a15, .ref a16, .ref a17])), (a15, .inl (cy 1, 4, .inl (upd (upd (upd (upd (fun _ => 0) 0 (-1)) 1 (-1)) 2 (-1)) 3 (-1))))]) := by
  refine Ct.of (by decide +kernel) (Nat.le_of_ble_eq_true rfl) ?_
  intro p e s m args below meth c A ls C hr hlocks hml hnm w hl
  have hl : lv_has ls 2 [(0, .ref a0), (1, .int 3)] := hl
  refine lv_iload_n C.1 C.2.1 dX12_trayFault_0 rfl (lv_at hl 1 rfl) ?_
  refine r_callS C w fs_RX12_403 (c_X12_isTray_4 l D cy) (hl.1.trans hml.symm) [] [0, 1] (wr := [(a0, .inr (12, [.ref a1, .ref a2, .ref a3, .ref a4, .ref a5, .int 0, .ref a6, .int 0, .int 0, .int 0, .int 0, .int 0, .int 0, .int 0, .int 0, .int 0, .int 0, .int (-1), .ref a7, .ref a8, .int 0, .ref a9, .int 0, .ref a10, .ref a11, .ref a12, .ref a13, .ref a14, .int 0, .ref a15, .ref a16, .ref a17])), (a15, .inl (cy 1, 4, .inl (upd (upd (upd (upd (fun _ => 0) 0 (-1)) 1 (-1)) 2 (-1)) 3 (-1))))]) ⟨rfl, rfl, rfl, rfl, by decide⟩ rfl rfl ⟨Nat.le_of_ble_eq_true rfl, Nat.le_of_ble_eq_true rfl, Nat.le_of_ble_eq_true rfl⟩ 0 0 ⟨rfl, rfl, Nat.le_of_ble_eq_true rfl, Nat.le_of_ble_eq_true rfl⟩ dX12_trayFault_1 (fun u H locs hp w => ?_)
  have w : Wd D A s.heap [(a0, .inr (12, [.ref a1, .ref a2, .ref a3, .ref a4, .ref a5, .int 0, .ref a6, .int 0, .int 0, .int 0, .int 0, .int 0, .int 0, .int 0, .int 0, .int 0, .int 0, .int (-1), .ref a7, .ref a8, .int 0, .ref a9, .int 0, .ref a10, .ref a11, .ref a12, .ref a13, .ref a14, .int 0, .ref a15, .ref a16, .ref a17])), (a15, .inl (cy 1, 4, .inl (upd (upd (upd (upd (fun _ => 0) 0 (-1)) 1 (-1)) 2 (-1)) 3 (-1))))] _ _ := w
  refine r_top (g2 := F0 m 4 ls [.int 1]) rfl ?_
  refine b_if_ne_t C (tgt := 11) dX12_trayFault_4 (by decide) (by decide) ?_
  refine lv_aload_n C.1 C.2.1 dX12_trayFault_11 rfl (lv_at hl 0 rfl) ?_
  refine r_get C w 0 rfl rfl 29 (by decide) fl_RX12_58 (v := .ref a15) rfl dX12_trayFault_12 ?_
  refine lv_iload_n C.1 C.2.1 dX12_trayFault_15 rfl (lv_at hl 1 rfl) ?_
  refine r_iald C w 1 rfl (v := (-1)) (vinD (by decide)) rfl dX12_trayFault_16 ?_
  refine lv_iconst (v := (-1)) C.1 C.2.1 dX12_trayFault_17 (by decide) ?_
  refine b_icmp_ne_f C (tgt := 25) dX12_trayFault_18 (by decide) (by decide) ?_
  refine lv_iconst (v := 2) C.1 C.2.1 dX12_trayFault_21 (by decide) ?_
  refine lv_goto (tgt := 26) C.1 C.2.1 dX12_trayFault_22 (by decide) ?_
  exact r_iret C w hlocks () hr rfl rfl trivial [0, 1] rfl rfl ⟨Nat.le_of_ble_eq_true rfl, Nat.le_of_ble_eq_true rfl⟩ dX12_trayFault_26
set_option maxRecDepth 100000 in
set_option maxHeartbeats 4000000 in
theorem c_X12_answers_3 (l : Launch) (D : va_G) (cy : Nat → ClassId) (a0 a1 a2 a3 a4 a5 a6 a7 a8 a9 a10 a11 a12 a13 a14 a15 a16 a17 : Nat) (x1 : Int32) : Ct l D cy yX12_answers cX12_answers 8 (some .int) 3 66 0 0 [(a0, .inr (12, [.ref a1, .ref a2, .ref a3, .ref a4, .ref a5, .int 0, .ref a6, .int 0, .int 0, .int 0, .int 0, .int 0, .int 0, .int 0, .int 0, .int 0, .int 0, .int (-1), .ref a7, .ref a8, .int 0, .ref a9, .int 0, .ref a10, .ref a11, .ref a12, .ref a13, .ref a14, .int 0, .ref a15, .ref a16, .ref a17])), (a15, .inl (cy 1, 4, .inl (upd (upd (upd (upd (fun _ => 0) 0 (-1)) 1 (-1)) 2 (-1)) 3 (-1))))] [.ref a0, .int 3, .int x1] (fun u : Unit => some (.int 0)) (fun _ => True) (fun u : Unit => [(a0, .inr (12, [.ref a1, .ref a2, .ref a3, .ref a4, .ref a5, .int 2, .ref a6, .int 0, .int 0, .int 0, .int 0, .int 0, .int 0, .int 0, .int 0, .int 0, .int 0, .int (-1), .ref a7, .ref a8, .int 0, .ref a9, .int 0, .ref a10, .ref a11, .ref a12, .ref a13, .ref a14, .int 0, .ref a15, .ref a16, .ref a17])), (a15, .inl (cy 1, 4, .inl (upd (upd (upd (upd (fun _ => 0) 0 (-1)) 1 (-1)) 2 (-1)) 3 (-1))))]) := by
  refine Ct.of (by decide +kernel) (Nat.le_of_ble_eq_true rfl) ?_
  intro p e s m args below meth c A ls C hr hlocks hml hnm w hl
  have hl : lv_has ls 8 [(0, .ref a0), (1, .int 3), (2, .int x1)] := hl
  refine lv_aload_n C.1 C.2.1 dX12_answers_0 rfl (lv_at hl 0 rfl) ?_
  refine lv_aload_n C.1 C.2.1 dX12_answers_1 rfl (lv_at hl 0 rfl) ?_
  refine lv_iload_n C.1 C.2.1 dX12_answers_2 rfl (lv_at hl 1 rfl) ?_
  refine r_callV C w fv_RX12_406 (c_X12_trayFault_8 l D cy a0 a1 a2 a3 a4 a5 a6 a7 a8 a9 a10 a11 a12 a13 a14 a15 a16 a17) (hl.1.trans hml.symm) [0, 1] [] (wr := []) ⟨rfl, rfl, rfl, rfl, by decide⟩ 0 rfl rfl rfl rfl rfl ⟨Nat.le_of_ble_eq_true rfl, Nat.le_of_ble_eq_true rfl, Nat.le_of_ble_eq_true rfl⟩ 0 0 ⟨rfl, rfl, Nat.le_of_ble_eq_true rfl, Nat.le_of_ble_eq_true rfl⟩ dX12_answers_3 (fun u H locs hp w => ?_)
  have w : Wd D A s.heap [(a0, .inr (12, [.ref a1, .ref a2, .ref a3, .ref a4, .ref a5, .int 0, .ref a6, .int 0, .int 0, .int 0, .int 0, .int 0, .int 0, .int 0, .int 0, .int 0, .int 0, .int (-1), .ref a7, .ref a8, .int 0, .ref a9, .int 0, .ref a10, .ref a11, .ref a12, .ref a13, .ref a14, .int 0, .ref a15, .ref a16, .ref a17])), (a15, .inl (cy 1, 4, .inl (upd (upd (upd (upd (fun _ => 0) 0 (-1)) 1 (-1)) 2 (-1)) 3 (-1))))] _ _ := w
  refine r_top (g2 := F0 m 6 ls [.int 2, .ref a0]) rfl ?_
  refine r_put C w 0 rfl rfl 5 (by decide) fl_RX12_71 rfl (ty := .int) (tyX12_ok 5 (by decide)) rfl rfl (Nat.le_of_ble_eq_true rfl) [(a0, .inr (12, [.ref a1, .ref a2, .ref a3, .ref a4, .ref a5, .int 2, .ref a6, .int 0, .int 0, .int 0, .int 0, .int 0, .int 0, .int 0, .int 0, .int 0, .int 0, .int (-1), .ref a7, .ref a8, .int 0, .ref a9, .int 0, .ref a10, .ref a11, .ref a12, .ref a13, .ref a14, .int 0, .ref a15, .ref a16, .ref a17])), (a15, .inl (cy 1, 4, .inl (upd (upd (upd (upd (fun _ => 0) 0 (-1)) 1 (-1)) 2 (-1)) 3 (-1))))] rfl dX12_answers_6 (fun H locs w => ?_)
  refine lv_aload_n C.1 C.2.1 dX12_answers_9 rfl (lv_at hl 0 rfl) ?_
  refine r_get C w 0 rfl rfl 5 (by decide) fl_RX12_71 (v := .int 2) rfl dX12_answers_10 ?_
  refine b_if_ne_t C (tgt := 33) dX12_answers_13 (by decide) (by decide) ?_
  refine lv_aload_n C.1 C.2.1 dX12_answers_33 rfl (lv_at hl 0 rfl) ?_
  refine r_get C w 0 rfl rfl 5 (by decide) fl_RX12_71 (v := .int 2) rfl dX12_answers_34 ?_
  refine b_if_le_f C (tgt := 42) dX12_answers_37 (by decide) (by decide) ?_
  refine lv_iconst (v := 0) C.1 C.2.1 dX12_answers_40 (by decide) ?_
  exact r_iret C w hlocks () hr rfl rfl trivial [0, 1] rfl rfl ⟨Nat.le_of_ble_eq_true rfl, Nat.le_of_ble_eq_true rfl⟩ dX12_answers_41
set_option maxRecDepth 100000 in
set_option maxHeartbeats 4000000 in
theorem c_X12_trayFault_9 (l : Launch) (D : va_G) (cy : Nat → ClassId) (a0 a1 a2 a3 a4 a5 a6 a7 a8 a9 a10 a11 a12 a13 a14 a15 a16 a17 : Nat) : Ct l D cy yX12_trayFault cX12_trayFault 2 (some .int) 2 45 0 0 [(a0, .inr (12, [.ref a1, .ref a2, .ref a3, .ref a4, .ref a5, .int 0, .ref a6, .int 0, .int 0, .int 0, .int 0, .int 0, .int 0, .int 0, .int 0, .int 0, .int 0, .int (-1), .ref a7, .ref a8, .int 0, .ref a9, .int 0, .ref a10, .ref a11, .ref a12, .ref a13, .ref a14, .int 0, .ref a15, .ref a16, .ref a17])), (a15, .inl (cy 1, 4, .inl (upd (upd (upd (upd (fun _ => 0) 0 (-1)) 1 (-1)) 2 (-1)) 3 (-1))))] [.ref a0, .int 0] (fun u : Unit => some (.int 2)) (fun _ => True) (fun u : Unit => [(a0, .inr (12, [.ref a1, .ref a2, .ref a3, .ref a4, .ref a5, .int 0, .ref a6, .int 0, .int 0, .int 0, .int 0, .int 0, .int 0, .int 0, .int 0, .int 0, .int 0, .int (-1), .ref a7, .ref a8, .int 0, .ref a9, .int 0, .ref a10, .ref a11, .ref a12, .ref a13, .ref a14, .int 0, .ref a15, .ref a16, .ref a17])), (a15, .inl (cy 1, 4, .inl (upd (upd (upd (upd (fun _ => 0) 0 (-1)) 1 (-1)) 2 (-1)) 3 (-1))))]) := by
  refine Ct.of (by decide +kernel) (Nat.le_of_ble_eq_true rfl) ?_
  intro p e s m args below meth c A ls C hr hlocks hml hnm w hl
  have hl : lv_has ls 2 [(0, .ref a0), (1, .int 0)] := hl
  refine lv_iload_n C.1 C.2.1 dX12_trayFault_0 rfl (lv_at hl 1 rfl) ?_
  refine r_callS C w fs_RX12_403 (c_X12_isTray_3 l D cy) (hl.1.trans hml.symm) [] [0, 1] (wr := [(a0, .inr (12, [.ref a1, .ref a2, .ref a3, .ref a4, .ref a5, .int 0, .ref a6, .int 0, .int 0, .int 0, .int 0, .int 0, .int 0, .int 0, .int 0, .int 0, .int 0, .int (-1), .ref a7, .ref a8, .int 0, .ref a9, .int 0, .ref a10, .ref a11, .ref a12, .ref a13, .ref a14, .int 0, .ref a15, .ref a16, .ref a17])), (a15, .inl (cy 1, 4, .inl (upd (upd (upd (upd (fun _ => 0) 0 (-1)) 1 (-1)) 2 (-1)) 3 (-1))))]) ⟨rfl, rfl, rfl, rfl, by decide⟩ rfl rfl ⟨Nat.le_of_ble_eq_true rfl, Nat.le_of_ble_eq_true rfl, Nat.le_of_ble_eq_true rfl⟩ 0 0 ⟨rfl, rfl, Nat.le_of_ble_eq_true rfl, Nat.le_of_ble_eq_true rfl⟩ dX12_trayFault_1 (fun u H locs hp w => ?_)
  have w : Wd D A s.heap [(a0, .inr (12, [.ref a1, .ref a2, .ref a3, .ref a4, .ref a5, .int 0, .ref a6, .int 0, .int 0, .int 0, .int 0, .int 0, .int 0, .int 0, .int 0, .int 0, .int 0, .int (-1), .ref a7, .ref a8, .int 0, .ref a9, .int 0, .ref a10, .ref a11, .ref a12, .ref a13, .ref a14, .int 0, .ref a15, .ref a16, .ref a17])), (a15, .inl (cy 1, 4, .inl (upd (upd (upd (upd (fun _ => 0) 0 (-1)) 1 (-1)) 2 (-1)) 3 (-1))))] _ _ := w
  refine r_top (g2 := F0 m 4 ls [.int 1]) rfl ?_
  refine b_if_ne_t C (tgt := 11) dX12_trayFault_4 (by decide) (by decide) ?_
  refine lv_aload_n C.1 C.2.1 dX12_trayFault_11 rfl (lv_at hl 0 rfl) ?_
  refine r_get C w 0 rfl rfl 29 (by decide) fl_RX12_58 (v := .ref a15) rfl dX12_trayFault_12 ?_
  refine lv_iload_n C.1 C.2.1 dX12_trayFault_15 rfl (lv_at hl 1 rfl) ?_
  refine r_iald C w 1 rfl (v := (-1)) (vinD (by decide)) rfl dX12_trayFault_16 ?_
  refine lv_iconst (v := (-1)) C.1 C.2.1 dX12_trayFault_17 (by decide) ?_
  refine b_icmp_ne_f C (tgt := 25) dX12_trayFault_18 (by decide) (by decide) ?_
  refine lv_iconst (v := 2) C.1 C.2.1 dX12_trayFault_21 (by decide) ?_
  refine lv_goto (tgt := 26) C.1 C.2.1 dX12_trayFault_22 (by decide) ?_
  exact r_iret C w hlocks () hr rfl rfl trivial [0, 1] rfl rfl ⟨Nat.le_of_ble_eq_true rfl, Nat.le_of_ble_eq_true rfl⟩ dX12_trayFault_26
set_option maxRecDepth 100000 in
set_option maxHeartbeats 4000000 in
theorem c_X12_answers_4 (l : Launch) (D : va_G) (cy : Nat → ClassId) (a0 a1 a2 a3 a4 a5 a6 a7 a8 a9 a10 a11 a12 a13 a14 a15 a16 a17 : Nat) (x1 : Int32) : Ct l D cy yX12_answers cX12_answers 8 (some .int) 3 66 0 0 [(a0, .inr (12, [.ref a1, .ref a2, .ref a3, .ref a4, .ref a5, .int 0, .ref a6, .int 0, .int 0, .int 0, .int 0, .int 0, .int 0, .int 0, .int 0, .int 0, .int 0, .int (-1), .ref a7, .ref a8, .int 0, .ref a9, .int 0, .ref a10, .ref a11, .ref a12, .ref a13, .ref a14, .int 0, .ref a15, .ref a16, .ref a17])), (a15, .inl (cy 1, 4, .inl (upd (upd (upd (upd (fun _ => 0) 0 (-1)) 1 (-1)) 2 (-1)) 3 (-1))))] [.ref a0, .int 0, .int x1] (fun u : Unit => some (.int 0)) (fun _ => True) (fun u : Unit => [(a0, .inr (12, [.ref a1, .ref a2, .ref a3, .ref a4, .ref a5, .int 2, .ref a6, .int 0, .int 0, .int 0, .int 0, .int 0, .int 0, .int 0, .int 0, .int 0, .int 0, .int (-1), .ref a7, .ref a8, .int 0, .ref a9, .int 0, .ref a10, .ref a11, .ref a12, .ref a13, .ref a14, .int 0, .ref a15, .ref a16, .ref a17])), (a15, .inl (cy 1, 4, .inl (upd (upd (upd (upd (fun _ => 0) 0 (-1)) 1 (-1)) 2 (-1)) 3 (-1))))]) := by
  refine Ct.of (by decide +kernel) (Nat.le_of_ble_eq_true rfl) ?_
  intro p e s m args below meth c A ls C hr hlocks hml hnm w hl
  have hl : lv_has ls 8 [(0, .ref a0), (1, .int 0), (2, .int x1)] := hl
  refine lv_aload_n C.1 C.2.1 dX12_answers_0 rfl (lv_at hl 0 rfl) ?_
  refine lv_aload_n C.1 C.2.1 dX12_answers_1 rfl (lv_at hl 0 rfl) ?_
  refine lv_iload_n C.1 C.2.1 dX12_answers_2 rfl (lv_at hl 1 rfl) ?_
  refine r_callV C w fv_RX12_406 (c_X12_trayFault_9 l D cy a0 a1 a2 a3 a4 a5 a6 a7 a8 a9 a10 a11 a12 a13 a14 a15 a16 a17) (hl.1.trans hml.symm) [0, 1] [] (wr := []) ⟨rfl, rfl, rfl, rfl, by decide⟩ 0 rfl rfl rfl rfl rfl ⟨Nat.le_of_ble_eq_true rfl, Nat.le_of_ble_eq_true rfl, Nat.le_of_ble_eq_true rfl⟩ 0 0 ⟨rfl, rfl, Nat.le_of_ble_eq_true rfl, Nat.le_of_ble_eq_true rfl⟩ dX12_answers_3 (fun u H locs hp w => ?_)
  have w : Wd D A s.heap [(a0, .inr (12, [.ref a1, .ref a2, .ref a3, .ref a4, .ref a5, .int 0, .ref a6, .int 0, .int 0, .int 0, .int 0, .int 0, .int 0, .int 0, .int 0, .int 0, .int 0, .int (-1), .ref a7, .ref a8, .int 0, .ref a9, .int 0, .ref a10, .ref a11, .ref a12, .ref a13, .ref a14, .int 0, .ref a15, .ref a16, .ref a17])), (a15, .inl (cy 1, 4, .inl (upd (upd (upd (upd (fun _ => 0) 0 (-1)) 1 (-1)) 2 (-1)) 3 (-1))))] _ _ := w
  refine r_top (g2 := F0 m 6 ls [.int 2, .ref a0]) rfl ?_
  refine r_put C w 0 rfl rfl 5 (by decide) fl_RX12_71 rfl (ty := .int) (tyX12_ok 5 (by decide)) rfl rfl (Nat.le_of_ble_eq_true rfl) [(a0, .inr (12, [.ref a1, .ref a2, .ref a3, .ref a4, .ref a5, .int 2, .ref a6, .int 0, .int 0, .int 0, .int 0, .int 0, .int 0, .int 0, .int 0, .int 0, .int 0, .int (-1), .ref a7, .ref a8, .int 0, .ref a9, .int 0, .ref a10, .ref a11, .ref a12, .ref a13, .ref a14, .int 0, .ref a15, .ref a16, .ref a17])), (a15, .inl (cy 1, 4, .inl (upd (upd (upd (upd (fun _ => 0) 0 (-1)) 1 (-1)) 2 (-1)) 3 (-1))))] rfl dX12_answers_6 (fun H locs w => ?_)
  refine lv_aload_n C.1 C.2.1 dX12_answers_9 rfl (lv_at hl 0 rfl) ?_
  refine r_get C w 0 rfl rfl 5 (by decide) fl_RX12_71 (v := .int 2) rfl dX12_answers_10 ?_
  refine b_if_ne_t C (tgt := 33) dX12_answers_13 (by decide) (by decide) ?_
  refine lv_aload_n C.1 C.2.1 dX12_answers_33 rfl (lv_at hl 0 rfl) ?_
  refine r_get C w 0 rfl rfl 5 (by decide) fl_RX12_71 (v := .int 2) rfl dX12_answers_34 ?_
  refine b_if_le_f C (tgt := 42) dX12_answers_37 (by decide) (by decide) ?_
  refine lv_iconst (v := 0) C.1 C.2.1 dX12_answers_40 (by decide) ?_
  exact r_iret C w hlocks () hr rfl rfl trivial [0, 1] rfl rfl ⟨Nat.le_of_ble_eq_true rfl, Nat.le_of_ble_eq_true rfl⟩ dX12_answers_41
set_option maxRecDepth 100000 in
set_option maxHeartbeats 4000000 in
theorem c_X12_answers_5 (l : Launch) (D : va_G) (cy : Nat → ClassId) (a0 a1 a2 a3 a4 a5 a6 a7 a8 a9 a10 a11 a12 a13 a14 a15 a16 a17 : Nat) (x0 : Int32) (x1 : Int32) (k0 : ¬ x0 < 0) (k1 : 3 < x0) : Ct l D cy yX12_answers cX12_answers 8 (some .int) 3 66 0 0 [(a0, .inr (12, [.ref a1, .ref a2, .ref a3, .ref a4, .ref a5, .int 0, .ref a6, .int 0, .int 0, .int 0, .int 0, .int 0, .int 0, .int 0, .int 0, .int 0, .int 0, .int (-1), .ref a7, .ref a8, .int 0, .ref a9, .int 0, .ref a10, .ref a11, .ref a12, .ref a13, .ref a14, .int 0, .ref a15, .ref a16, .ref a17]))] [.ref a0, .int x0, .int x1] (fun u : Unit => some (.int 0)) (fun _ => True) (fun u : Unit => [(a0, .inr (12, [.ref a1, .ref a2, .ref a3, .ref a4, .ref a5, .int 1, .ref a6, .int 0, .int 0, .int 0, .int 0, .int 0, .int 0, .int 0, .int 0, .int 0, .int 0, .int (-1), .ref a7, .ref a8, .int 0, .ref a9, .int 0, .ref a10, .ref a11, .ref a12, .ref a13, .ref a14, .int 0, .ref a15, .ref a16, .ref a17]))]) := by
  refine Ct.of (by decide +kernel) (Nat.le_of_ble_eq_true rfl) ?_
  intro p e s m args below meth c A ls C hr hlocks hml hnm w hl
  have hl : lv_has ls 8 [(0, .ref a0), (1, .int x0), (2, .int x1)] := hl
  refine lv_aload_n C.1 C.2.1 dX12_answers_0 rfl (lv_at hl 0 rfl) ?_
  refine lv_aload_n C.1 C.2.1 dX12_answers_1 rfl (lv_at hl 0 rfl) ?_
  refine lv_iload_n C.1 C.2.1 dX12_answers_2 rfl (lv_at hl 1 rfl) ?_
  refine r_callV C w fv_RX12_406 (c_X12_trayFault_1 l D cy a0 a1 a2 a3 a4 a5 a6 a7 a8 a9 a10 a11 a12 a13 a14 a15 a16 a17 x0 k0 k1) (hl.1.trans hml.symm) [0] [] (wr := []) ⟨rfl, rfl, rfl, rfl, by decide⟩ 0 rfl rfl rfl rfl rfl ⟨Nat.le_of_ble_eq_true rfl, Nat.le_of_ble_eq_true rfl, Nat.le_of_ble_eq_true rfl⟩ 0 0 ⟨rfl, rfl, Nat.le_of_ble_eq_true rfl, Nat.le_of_ble_eq_true rfl⟩ dX12_answers_3 (fun u H locs hp w => ?_)
  have w : Wd D A s.heap [(a0, .inr (12, [.ref a1, .ref a2, .ref a3, .ref a4, .ref a5, .int 0, .ref a6, .int 0, .int 0, .int 0, .int 0, .int 0, .int 0, .int 0, .int 0, .int 0, .int 0, .int (-1), .ref a7, .ref a8, .int 0, .ref a9, .int 0, .ref a10, .ref a11, .ref a12, .ref a13, .ref a14, .int 0, .ref a15, .ref a16, .ref a17]))] _ _ := w
  refine r_top (g2 := F0 m 6 ls [.int 1, .ref a0]) rfl ?_
  refine r_put C w 0 rfl rfl 5 (by decide) fl_RX12_71 rfl (ty := .int) (tyX12_ok 5 (by decide)) rfl rfl (Nat.le_of_ble_eq_true rfl) [(a0, .inr (12, [.ref a1, .ref a2, .ref a3, .ref a4, .ref a5, .int 1, .ref a6, .int 0, .int 0, .int 0, .int 0, .int 0, .int 0, .int 0, .int 0, .int 0, .int 0, .int (-1), .ref a7, .ref a8, .int 0, .ref a9, .int 0, .ref a10, .ref a11, .ref a12, .ref a13, .ref a14, .int 0, .ref a15, .ref a16, .ref a17]))] rfl dX12_answers_6 (fun H locs w => ?_)
  refine lv_aload_n C.1 C.2.1 dX12_answers_9 rfl (lv_at hl 0 rfl) ?_
  refine r_get C w 0 rfl rfl 5 (by decide) fl_RX12_71 (v := .int 1) rfl dX12_answers_10 ?_
  refine b_if_ne_t C (tgt := 33) dX12_answers_13 (by decide) (by decide) ?_
  refine lv_aload_n C.1 C.2.1 dX12_answers_33 rfl (lv_at hl 0 rfl) ?_
  refine r_get C w 0 rfl rfl 5 (by decide) fl_RX12_71 (v := .int 1) rfl dX12_answers_34 ?_
  refine b_if_le_f C (tgt := 42) dX12_answers_37 (by decide) (by decide) ?_
  refine lv_iconst (v := 0) C.1 C.2.1 dX12_answers_40 (by decide) ?_
  exact r_iret C w hlocks () hr rfl rfl trivial [0] rfl rfl ⟨Nat.le_of_ble_eq_true rfl, Nat.le_of_ble_eq_true rfl⟩ dX12_answers_41
theorem dX12_tray_0 : decode cX12_tray 0 = .ok (.aload_n 0, 1) := by decide +kernel
theorem dX12_tray_1 : decode cX12_tray 1 = .ok (.iload_n 1, 1) := by decide +kernel
theorem dX12_tray_2 : decode cX12_tray 2 = .ok (.invokestatic 403, 3) := by decide +kernel
theorem dX12_tray_5 : decode cX12_tray 5 = .ok (.ifCond .ne 7, 3) := by decide +kernel
theorem dX12_tray_8 : decode cX12_tray 8 = .ok (.iconst 1, 1) := by decide +kernel
theorem dX12_tray_9 : decode cX12_tray 9 = .ok (.goto 32, 3) := by decide +kernel
theorem dX12_tray_41 : decode cX12_tray 41 = .ok (.putfield 71, 3) := by decide +kernel
theorem dX12_tray_44 : decode cX12_tray 44 = .ok (.aload_n 0, 1) := by decide +kernel
theorem dX12_tray_45 : decode cX12_tray 45 = .ok (.getfield 71, 3) := by decide +kernel
theorem dX12_tray_48 : decode cX12_tray 48 = .ok (.ifCond .le 4, 3) := by decide +kernel
theorem dX12_tray_51 : decode cX12_tray 51 = .ok (.return_, 1) := by decide +kernel
set_option maxRecDepth 100000 in
set_option maxHeartbeats 4000000 in
theorem c_X12_tray_0 (l : Launch) (D : va_G) (cy : Nat → ClassId) (a0 a1 a2 a3 a4 a5 a6 a7 a8 a9 a10 a11 a12 a13 a14 a15 a16 a17 : Nat) (x0 : Int32) (x1 : Int32) (x2 : Int32) (k0 : x0 < 0) : Ct l D cy yX12_tray cX12_tray 5 none 2 45 0 0 [(a0, .inr (12, [.ref a1, .ref a2, .ref a3, .ref a4, .ref a5, .int 0, .ref a6, .int 0, .int 0, .int 0, .int 0, .int 0, .int 0, .int 0, .int 0, .int 0, .int 0, .int (-1), .ref a7, .ref a8, .int 0, .ref a9, .int 0, .ref a10, .ref a11, .ref a12, .ref a13, .ref a14, .int 0, .ref a15, .ref a16, .ref a17]))] [.ref a0, .int x0, .int x1, .int x2] (fun u : Unit => none) (fun _ => True) (fun u : Unit => [(a0, .inr (12, [.ref a1, .ref a2, .ref a3, .ref a4, .ref a5, .int 1, .ref a6, .int 0, .int 0, .int 0, .int 0, .int 0, .int 0, .int 0, .int 0, .int 0, .int 0, .int (-1), .ref a7, .ref a8, .int 0, .ref a9, .int 0, .ref a10, .ref a11, .ref a12, .ref a13, .ref a14, .int 0, .ref a15, .ref a16, .ref a17]))]) := by
  refine Ct.of (by decide +kernel) (Nat.le_of_ble_eq_true rfl) ?_
  intro p e s m args below meth c A ls C hr hlocks hml hnm w hl
  have hl : lv_has ls 5 [(0, .ref a0), (1, .int x0), (2, .int x1), (3, .int x2)] := hl
  refine lv_aload_n C.1 C.2.1 dX12_tray_0 rfl (lv_at hl 0 rfl) ?_
  refine lv_iload_n C.1 C.2.1 dX12_tray_1 rfl (lv_at hl 1 rfl) ?_
  refine r_callS C w fs_RX12_403 (c_X12_isTray_0 l D cy x0 k0) (hl.1.trans hml.symm) [] [0] (wr := [(a0, .inr (12, [.ref a1, .ref a2, .ref a3, .ref a4, .ref a5, .int 0, .ref a6, .int 0, .int 0, .int 0, .int 0, .int 0, .int 0, .int 0, .int 0, .int 0, .int 0, .int (-1), .ref a7, .ref a8, .int 0, .ref a9, .int 0, .ref a10, .ref a11, .ref a12, .ref a13, .ref a14, .int 0, .ref a15, .ref a16, .ref a17]))]) ⟨rfl, rfl, rfl, rfl, by decide⟩ rfl rfl ⟨Nat.le_of_ble_eq_true rfl, Nat.le_of_ble_eq_true rfl, Nat.le_of_ble_eq_true rfl⟩ 0 0 ⟨rfl, rfl, Nat.le_of_ble_eq_true rfl, Nat.le_of_ble_eq_true rfl⟩ dX12_tray_2 (fun u H locs hp w => ?_)
  have w : Wd D A s.heap [(a0, .inr (12, [.ref a1, .ref a2, .ref a3, .ref a4, .ref a5, .int 0, .ref a6, .int 0, .int 0, .int 0, .int 0, .int 0, .int 0, .int 0, .int 0, .int 0, .int 0, .int (-1), .ref a7, .ref a8, .int 0, .ref a9, .int 0, .ref a10, .ref a11, .ref a12, .ref a13, .ref a14, .int 0, .ref a15, .ref a16, .ref a17]))] _ _ := w
  refine r_top (g2 := F0 m 5 ls [.int 0, .ref a0]) rfl ?_
  refine b_if_ne_f C (tgt := 12) dX12_tray_5 (by decide) (by decide) ?_
  refine lv_iconst (v := 1) C.1 C.2.1 dX12_tray_8 (by decide) ?_
  refine lv_goto (tgt := 41) C.1 C.2.1 dX12_tray_9 (by decide) ?_
  refine r_put C w 0 rfl rfl 5 (by decide) fl_RX12_71 rfl (ty := .int) (tyX12_ok 5 (by decide)) rfl rfl (Nat.le_of_ble_eq_true rfl) [(a0, .inr (12, [.ref a1, .ref a2, .ref a3, .ref a4, .ref a5, .int 1, .ref a6, .int 0, .int 0, .int 0, .int 0, .int 0, .int 0, .int 0, .int 0, .int 0, .int 0, .int (-1), .ref a7, .ref a8, .int 0, .ref a9, .int 0, .ref a10, .ref a11, .ref a12, .ref a13, .ref a14, .int 0, .ref a15, .ref a16, .ref a17]))] rfl dX12_tray_41 (fun H locs w => ?_)
  refine lv_aload_n C.1 C.2.1 dX12_tray_44 rfl (lv_at hl 0 rfl) ?_
  refine r_get C w 0 rfl rfl 5 (by decide) fl_RX12_71 (v := .int 1) rfl dX12_tray_45 ?_
  refine b_if_le_f C (tgt := 52) dX12_tray_48 (by decide) (by decide) ?_
  exact r_vret C w hlocks () hr rfl trivial [0] rfl rfl ⟨Nat.le_of_ble_eq_true rfl, Nat.le_of_ble_eq_true rfl⟩ dX12_tray_51
set_option maxRecDepth 100000 in
set_option maxHeartbeats 4000000 in
theorem c_X12_tray_1 (l : Launch) (D : va_G) (cy : Nat → ClassId) (a0 a1 a2 a3 a4 a5 a6 a7 a8 a9 a10 a11 a12 a13 a14 a15 a16 a17 : Nat) (x0 : Int32) (x1 : Int32) (x2 : Int32) (k0 : ¬ x0 < 0) (k1 : 3 < x0) : Ct l D cy yX12_tray cX12_tray 5 none 2 45 0 0 [(a0, .inr (12, [.ref a1, .ref a2, .ref a3, .ref a4, .ref a5, .int 0, .ref a6, .int 0, .int 0, .int 0, .int 0, .int 0, .int 0, .int 0, .int 0, .int 0, .int 0, .int (-1), .ref a7, .ref a8, .int 0, .ref a9, .int 0, .ref a10, .ref a11, .ref a12, .ref a13, .ref a14, .int 0, .ref a15, .ref a16, .ref a17]))] [.ref a0, .int x0, .int x1, .int x2] (fun u : Unit => none) (fun _ => True) (fun u : Unit => [(a0, .inr (12, [.ref a1, .ref a2, .ref a3, .ref a4, .ref a5, .int 1, .ref a6, .int 0, .int 0, .int 0, .int 0, .int 0, .int 0, .int 0, .int 0, .int 0, .int 0, .int (-1), .ref a7, .ref a8, .int 0, .ref a9, .int 0, .ref a10, .ref a11, .ref a12, .ref a13, .ref a14, .int 0, .ref a15, .ref a16, .ref a17]))]) := by
  refine Ct.of (by decide +kernel) (Nat.le_of_ble_eq_true rfl) ?_
  intro p e s m args below meth c A ls C hr hlocks hml hnm w hl
  have hl : lv_has ls 5 [(0, .ref a0), (1, .int x0), (2, .int x1), (3, .int x2)] := hl
  refine lv_aload_n C.1 C.2.1 dX12_tray_0 rfl (lv_at hl 0 rfl) ?_
  refine lv_iload_n C.1 C.2.1 dX12_tray_1 rfl (lv_at hl 1 rfl) ?_
  refine r_callS C w fs_RX12_403 (c_X12_isTray_2 l D cy x0 k0 k1) (hl.1.trans hml.symm) [] [0] (wr := [(a0, .inr (12, [.ref a1, .ref a2, .ref a3, .ref a4, .ref a5, .int 0, .ref a6, .int 0, .int 0, .int 0, .int 0, .int 0, .int 0, .int 0, .int 0, .int 0, .int 0, .int (-1), .ref a7, .ref a8, .int 0, .ref a9, .int 0, .ref a10, .ref a11, .ref a12, .ref a13, .ref a14, .int 0, .ref a15, .ref a16, .ref a17]))]) ⟨rfl, rfl, rfl, rfl, by decide⟩ rfl rfl ⟨Nat.le_of_ble_eq_true rfl, Nat.le_of_ble_eq_true rfl, Nat.le_of_ble_eq_true rfl⟩ 0 0 ⟨rfl, rfl, Nat.le_of_ble_eq_true rfl, Nat.le_of_ble_eq_true rfl⟩ dX12_tray_2 (fun u H locs hp w => ?_)
  have w : Wd D A s.heap [(a0, .inr (12, [.ref a1, .ref a2, .ref a3, .ref a4, .ref a5, .int 0, .ref a6, .int 0, .int 0, .int 0, .int 0, .int 0, .int 0, .int 0, .int 0, .int 0, .int 0, .int (-1), .ref a7, .ref a8, .int 0, .ref a9, .int 0, .ref a10, .ref a11, .ref a12, .ref a13, .ref a14, .int 0, .ref a15, .ref a16, .ref a17]))] _ _ := w
  refine r_top (g2 := F0 m 5 ls [.int 0, .ref a0]) rfl ?_
  refine b_if_ne_f C (tgt := 12) dX12_tray_5 (by decide) (by decide) ?_
  refine lv_iconst (v := 1) C.1 C.2.1 dX12_tray_8 (by decide) ?_
  refine lv_goto (tgt := 41) C.1 C.2.1 dX12_tray_9 (by decide) ?_
  refine r_put C w 0 rfl rfl 5 (by decide) fl_RX12_71 rfl (ty := .int) (tyX12_ok 5 (by decide)) rfl rfl (Nat.le_of_ble_eq_true rfl) [(a0, .inr (12, [.ref a1, .ref a2, .ref a3, .ref a4, .ref a5, .int 1, .ref a6, .int 0, .int 0, .int 0, .int 0, .int 0, .int 0, .int 0, .int 0, .int 0, .int 0, .int (-1), .ref a7, .ref a8, .int 0, .ref a9, .int 0, .ref a10, .ref a11, .ref a12, .ref a13, .ref a14, .int 0, .ref a15, .ref a16, .ref a17]))] rfl dX12_tray_41 (fun H locs w => ?_)
  refine lv_aload_n C.1 C.2.1 dX12_tray_44 rfl (lv_at hl 0 rfl) ?_
  refine r_get C w 0 rfl rfl 5 (by decide) fl_RX12_71 (v := .int 1) rfl dX12_tray_45 ?_
  refine b_if_le_f C (tgt := 52) dX12_tray_48 (by decide) (by decide) ?_
  exact r_vret C w hlocks () hr rfl trivial [0] rfl rfl ⟨Nat.le_of_ble_eq_true rfl, Nat.le_of_ble_eq_true rfl⟩ dX12_tray_51
theorem dX12_tray_12 : decode cX12_tray 12 = .ok (.iload_n 2, 1) := by decide +kernel
theorem dX12_tray_13 : decode cX12_tray 13 = .ok (.i2l, 1) := by decide +kernel
theorem dX12_tray_14 : decode cX12_tray 14 = .ok (.lconst 0, 1) := by decide +kernel
theorem dX12_tray_15 : decode cX12_tray 15 = .ok (.ldc2_w 279, 3) := by decide +kernel
theorem dX12_tray_18 : decode cX12_tray 18 = .ok (.invokestatic 133, 3) := by decide +kernel
theorem dX12_tray_21 : decode cX12_tray 21 = .ok (.ifCond .eq 15, 3) := by decide +kernel
theorem dX12_tray_36 : decode cX12_tray 36 = .ok (.iconst 2, 1) := by decide +kernel
theorem dX12_tray_37 : decode cX12_tray 37 = .ok (.goto 4, 3) := by decide +kernel
set_option maxRecDepth 100000 in
set_option maxHeartbeats 4000000 in
theorem c_X12_tray_2 (l : Launch) (D : va_G) (cy : Nat → ClassId) (a0 a1 a2 a3 a4 a5 a6 a7 a8 a9 a10 a11 a12 a13 a14 a15 a16 a17 : Nat) (x0 : Int32) (x1 : Int32) (x2 : Int32) (k0 : ¬ x0 < 0) (k1 : ¬ 3 < x0) (k2 : x1 < 0) : Ct l D cy yX12_tray cX12_tray 5 none 2 45 0 0 [(a0, .inr (12, [.ref a1, .ref a2, .ref a3, .ref a4, .ref a5, .int 0, .ref a6, .int 0, .int 0, .int 0, .int 0, .int 0, .int 0, .int 0, .int 0, .int 0, .int 0, .int (-1), .ref a7, .ref a8, .int 0, .ref a9, .int 0, .ref a10, .ref a11, .ref a12, .ref a13, .ref a14, .int 0, .ref a15, .ref a16, .ref a17]))] [.ref a0, .int x0, .int x1, .int x2] (fun u : Unit => none) (fun _ => True) (fun u : Unit => [(a0, .inr (12, [.ref a1, .ref a2, .ref a3, .ref a4, .ref a5, .int 2, .ref a6, .int 0, .int 0, .int 0, .int 0, .int 0, .int 0, .int 0, .int 0, .int 0, .int 0, .int (-1), .ref a7, .ref a8, .int 0, .ref a9, .int 0, .ref a10, .ref a11, .ref a12, .ref a13, .ref a14, .int 0, .ref a15, .ref a16, .ref a17]))]) := by
  refine Ct.of (by decide +kernel) (Nat.le_of_ble_eq_true rfl) ?_
  intro p e s m args below meth c A ls C hr hlocks hml hnm w hl
  have hl : lv_has ls 5 [(0, .ref a0), (1, .int x0), (2, .int x1), (3, .int x2)] := hl
  refine lv_aload_n C.1 C.2.1 dX12_tray_0 rfl (lv_at hl 0 rfl) ?_
  refine lv_iload_n C.1 C.2.1 dX12_tray_1 rfl (lv_at hl 1 rfl) ?_
  refine r_callS C w fs_RX12_403 (c_X12_isTray_1 l D cy x0 k0 k1) (hl.1.trans hml.symm) [] [0] (wr := [(a0, .inr (12, [.ref a1, .ref a2, .ref a3, .ref a4, .ref a5, .int 0, .ref a6, .int 0, .int 0, .int 0, .int 0, .int 0, .int 0, .int 0, .int 0, .int 0, .int 0, .int (-1), .ref a7, .ref a8, .int 0, .ref a9, .int 0, .ref a10, .ref a11, .ref a12, .ref a13, .ref a14, .int 0, .ref a15, .ref a16, .ref a17]))]) ⟨rfl, rfl, rfl, rfl, by decide⟩ rfl rfl ⟨Nat.le_of_ble_eq_true rfl, Nat.le_of_ble_eq_true rfl, Nat.le_of_ble_eq_true rfl⟩ 0 0 ⟨rfl, rfl, Nat.le_of_ble_eq_true rfl, Nat.le_of_ble_eq_true rfl⟩ dX12_tray_2 (fun u H locs hp w => ?_)
  have w : Wd D A s.heap [(a0, .inr (12, [.ref a1, .ref a2, .ref a3, .ref a4, .ref a5, .int 0, .ref a6, .int 0, .int 0, .int 0, .int 0, .int 0, .int 0, .int 0, .int 0, .int 0, .int 0, .int (-1), .ref a7, .ref a8, .int 0, .ref a9, .int 0, .ref a10, .ref a11, .ref a12, .ref a13, .ref a14, .int 0, .ref a15, .ref a16, .ref a17]))] _ _ := w
  refine r_top (g2 := F0 m 5 ls [.int 1, .ref a0]) rfl ?_
  refine b_if_ne_t C (tgt := 12) dX12_tray_5 (by decide) (by decide) ?_
  refine lv_iload_n C.1 C.2.1 dX12_tray_12 rfl (lv_at hl 2 rfl) ?_
  refine lv_i2l (v := (Int32.toInt64 x1)) C.1 C.2.1 dX12_tray_13 rfl ?_
  refine lv_lconst (v := 0) C.1 C.2.1 dX12_tray_14 (by decide) ?_
  refine lv_ldc2 (v := 3) C.1 C.2.1 C.2.2.1 (C.2.2.2.1 _ kl_RX12_279) dX12_tray_15 ?_
  refine r_callS C w fs_RX12_133 (c_X12_within_25 l D cy x1 k2) (hl.1.trans hml.symm) [] [0] (wr := [(a0, .inr (12, [.ref a1, .ref a2, .ref a3, .ref a4, .ref a5, .int 0, .ref a6, .int 0, .int 0, .int 0, .int 0, .int 0, .int 0, .int 0, .int 0, .int 0, .int 0, .int (-1), .ref a7, .ref a8, .int 0, .ref a9, .int 0, .ref a10, .ref a11, .ref a12, .ref a13, .ref a14, .int 0, .ref a15, .ref a16, .ref a17]))]) ⟨rfl, rfl, rfl, rfl, by decide⟩ rfl rfl ⟨Nat.le_of_ble_eq_true rfl, Nat.le_of_ble_eq_true rfl, Nat.le_of_ble_eq_true rfl⟩ 0 0 ⟨rfl, rfl, Nat.le_of_ble_eq_true rfl, Nat.le_of_ble_eq_true rfl⟩ dX12_tray_18 (fun u H locs hp w => ?_)
  have w : Wd D A s.heap [(a0, .inr (12, [.ref a1, .ref a2, .ref a3, .ref a4, .ref a5, .int 0, .ref a6, .int 0, .int 0, .int 0, .int 0, .int 0, .int 0, .int 0, .int 0, .int 0, .int 0, .int (-1), .ref a7, .ref a8, .int 0, .ref a9, .int 0, .ref a10, .ref a11, .ref a12, .ref a13, .ref a14, .int 0, .ref a15, .ref a16, .ref a17]))] _ _ := w
  refine r_top (g2 := F0 m 21 ls [.int 0, .ref a0]) rfl ?_
  refine b_if_eq_t C (tgt := 36) dX12_tray_21 (by decide) (by decide) ?_
  refine lv_iconst (v := 2) C.1 C.2.1 dX12_tray_36 (by decide) ?_
  refine lv_goto (tgt := 41) C.1 C.2.1 dX12_tray_37 (by decide) ?_
  refine r_put C w 0 rfl rfl 5 (by decide) fl_RX12_71 rfl (ty := .int) (tyX12_ok 5 (by decide)) rfl rfl (Nat.le_of_ble_eq_true rfl) [(a0, .inr (12, [.ref a1, .ref a2, .ref a3, .ref a4, .ref a5, .int 2, .ref a6, .int 0, .int 0, .int 0, .int 0, .int 0, .int 0, .int 0, .int 0, .int 0, .int 0, .int (-1), .ref a7, .ref a8, .int 0, .ref a9, .int 0, .ref a10, .ref a11, .ref a12, .ref a13, .ref a14, .int 0, .ref a15, .ref a16, .ref a17]))] rfl dX12_tray_41 (fun H locs w => ?_)
  refine lv_aload_n C.1 C.2.1 dX12_tray_44 rfl (lv_at hl 0 rfl) ?_
  refine r_get C w 0 rfl rfl 5 (by decide) fl_RX12_71 (v := .int 2) rfl dX12_tray_45 ?_
  refine b_if_le_f C (tgt := 52) dX12_tray_48 (by decide) (by decide) ?_
  exact r_vret C w hlocks () hr rfl trivial [0] rfl rfl ⟨Nat.le_of_ble_eq_true rfl, Nat.le_of_ble_eq_true rfl⟩ dX12_tray_51
theorem dX12_tray_24 : decode cX12_tray 24 = .ok (.iload_n 3, 1) := by decide +kernel
theorem dX12_tray_25 : decode cX12_tray 25 = .ok (.i2l, 1) := by decide +kernel
theorem dX12_tray_26 : decode cX12_tray 26 = .ok (.lconst 0, 1) := by decide +kernel
theorem kl_RX12_409 : Cond.constantLong RX12 409 40 ∈ gw := gw_mem (by decide +kernel) (by decide +kernel)
theorem dX12_tray_27 : decode cX12_tray 27 = .ok (.ldc2_w 409, 3) := by decide +kernel
theorem dX12_tray_30 : decode cX12_tray 30 = .ok (.invokestatic 133, 3) := by decide +kernel
set_option maxRecDepth 100000 in
set_option maxHeartbeats 4000000 in
theorem c_X12_within_32 (l : Launch) (D : va_G) (cy : Nat → ClassId) (x0 : Int32) (k0 : x0 < 0) : Ct l D cy yX12_within cX12_within 6 (some .boolean) 0 0 0 0 [] [.long (Int32.toInt64 x0), .long 0, .long 40] (fun u : Unit => some (.int 0)) (fun _ => True) (fun u : Unit => []) := by
  refine Ct.of (by decide +kernel) (Nat.le_of_ble_eq_true rfl) ?_
  intro p e s m args below meth c A ls C hr hlocks hml hnm w hl
  have hl : lv_has ls 6 [(0, .long (Int32.toInt64 x0)), (2, .long 0), (4, .long 40)] := hl
  refine lv_lload_n C.1 C.2.1 dX12_within_0 rfl (lv_at hl 0 rfl) ?_
  refine lv_lload_n C.1 C.2.1 dX12_within_1 rfl (lv_at hl 1 rfl) ?_
  refine r_lcmp C (v := (lg_cmp (Int32.toInt64 x0) 0)) dX12_within_2 rfl ?_
  refine b_if_lt_t C (tgt := 17) dX12_within_3 (by decide) (cmp_lt (x := x0) (y := 0) k0) ?_
  refine lv_iconst (v := 0) C.1 C.2.1 dX12_within_17 (by decide) ?_
  exact r_iret C w hlocks () hr rfl rfl trivial [] rfl rfl ⟨Nat.le_of_ble_eq_true rfl, Nat.le_of_ble_eq_true rfl⟩ dX12_within_18
set_option maxRecDepth 100000 in
set_option maxHeartbeats 4000000 in
theorem c_X12_within_33 (l : Launch) (D : va_G) (cy : Nat → ClassId) (x0 : Int32) (k0 : ¬ x0 < 0) (k1 : 40 < x0) : Ct l D cy yX12_within cX12_within 6 (some .boolean) 0 0 0 0 [] [.long (Int32.toInt64 x0), .long 0, .long 40] (fun u : Unit => some (.int 0)) (fun _ => True) (fun u : Unit => []) := by
  refine Ct.of (by decide +kernel) (Nat.le_of_ble_eq_true rfl) ?_
  intro p e s m args below meth c A ls C hr hlocks hml hnm w hl
  have hl : lv_has ls 6 [(0, .long (Int32.toInt64 x0)), (2, .long 0), (4, .long 40)] := hl
  refine lv_lload_n C.1 C.2.1 dX12_within_0 rfl (lv_at hl 0 rfl) ?_
  refine lv_lload_n C.1 C.2.1 dX12_within_1 rfl (lv_at hl 1 rfl) ?_
  refine r_lcmp C (v := (lg_cmp (Int32.toInt64 x0) 0)) dX12_within_2 rfl ?_
  refine b_if_lt_f C (tgt := 17) dX12_within_3 (by decide) (cmp_nlt (x := x0) (y := 0) k0) ?_
  refine lv_lload_n C.1 C.2.1 dX12_within_6 rfl (lv_at hl 0 rfl) ?_
  refine lv_lload C.1 C.2.1 dX12_within_7 (lv_at hl 2 rfl) ?_
  refine r_lcmp C (v := (lg_cmp (Int32.toInt64 x0) 40)) dX12_within_9 rfl ?_
  refine b_if_gt_t C (tgt := 17) dX12_within_10 (by decide) (cmp_gt (x := x0) (y := 40) k1) ?_
  refine lv_iconst (v := 0) C.1 C.2.1 dX12_within_17 (by decide) ?_
  exact r_iret C w hlocks () hr rfl rfl trivial [] rfl rfl ⟨Nat.le_of_ble_eq_true rfl, Nat.le_of_ble_eq_true rfl⟩ dX12_within_18
set_option maxRecDepth 100000 in
set_option maxHeartbeats 4000000 in
theorem c_X12_within_34 (l : Launch) (D : va_G) (cy : Nat → ClassId) (x0 : Int32) (k0 : ¬ x0 < 0) (k1 : ¬ 40 < x0) : Ct l D cy yX12_within cX12_within 6 (some .boolean) 0 0 0 0 [] [.long (Int32.toInt64 x0), .long 0, .long 40] (fun u : Unit => some (.int 1)) (fun _ => True) (fun u : Unit => []) := by
  refine Ct.of (by decide +kernel) (Nat.le_of_ble_eq_true rfl) ?_
  intro p e s m args below meth c A ls C hr hlocks hml hnm w hl
  have hl : lv_has ls 6 [(0, .long (Int32.toInt64 x0)), (2, .long 0), (4, .long 40)] := hl
  refine lv_lload_n C.1 C.2.1 dX12_within_0 rfl (lv_at hl 0 rfl) ?_
  refine lv_lload_n C.1 C.2.1 dX12_within_1 rfl (lv_at hl 1 rfl) ?_
  refine r_lcmp C (v := (lg_cmp (Int32.toInt64 x0) 0)) dX12_within_2 rfl ?_
  refine b_if_lt_f C (tgt := 17) dX12_within_3 (by decide) (cmp_nlt (x := x0) (y := 0) k0) ?_
  refine lv_lload_n C.1 C.2.1 dX12_within_6 rfl (lv_at hl 0 rfl) ?_
  refine lv_lload C.1 C.2.1 dX12_within_7 (lv_at hl 2 rfl) ?_
  refine r_lcmp C (v := (lg_cmp (Int32.toInt64 x0) 40)) dX12_within_9 rfl ?_
  refine b_if_gt_f C (tgt := 17) dX12_within_10 (by decide) (cmp_ngt (x := x0) (y := 40) k1) ?_
  refine lv_iconst (v := 1) C.1 C.2.1 dX12_within_13 (by decide) ?_
  refine lv_goto (tgt := 18) C.1 C.2.1 dX12_within_14 (by decide) ?_
  exact r_iret C w hlocks () hr rfl rfl trivial [] rfl rfl ⟨Nat.le_of_ble_eq_true rfl, Nat.le_of_ble_eq_true rfl⟩ dX12_within_18
theorem dX12_tray_33 : decode cX12_tray 33 = .ok (.ifCond .ne 7, 3) := by decide +kernel
set_option maxRecDepth 100000 in
set_option maxHeartbeats 4000000 in
theorem c_X12_tray_3 (l : Launch) (D : va_G) (cy : Nat → ClassId) (a0 a1 a2 a3 a4 a5 a6 a7 a8 a9 a10 a11 a12 a13 a14 a15 a16 a17 : Nat) (x0 : Int32) (x1 : Int32) (x2 : Int32) (k0 : ¬ x0 < 0) (k1 : ¬ 3 < x0) (k2 : ¬ x1 < 0) (k3 : ¬ 3 < x1) (k4 : x2 < 0) : Ct l D cy yX12_tray cX12_tray 5 none 2 45 0 0 [(a0, .inr (12, [.ref a1, .ref a2, .ref a3, .ref a4, .ref a5, .int 0, .ref a6, .int 0, .int 0, .int 0, .int 0, .int 0, .int 0, .int 0, .int 0, .int 0, .int 0, .int (-1), .ref a7, .ref a8, .int 0, .ref a9, .int 0, .ref a10, .ref a11, .ref a12, .ref a13, .ref a14, .int 0, .ref a15, .ref a16, .ref a17]))] [.ref a0, .int x0, .int x1, .int x2] (fun u : Unit => none) (fun _ => True) (fun u : Unit => [(a0, .inr (12, [.ref a1, .ref a2, .ref a3, .ref a4, .ref a5, .int 2, .ref a6, .int 0, .int 0, .int 0, .int 0, .int 0, .int 0, .int 0, .int 0, .int 0, .int 0, .int (-1), .ref a7, .ref a8, .int 0, .ref a9, .int 0, .ref a10, .ref a11, .ref a12, .ref a13, .ref a14, .int 0, .ref a15, .ref a16, .ref a17]))]) := by
  refine Ct.of (by decide +kernel) (Nat.le_of_ble_eq_true rfl) ?_
  intro p e s m args below meth c A ls C hr hlocks hml hnm w hl
  have hl : lv_has ls 5 [(0, .ref a0), (1, .int x0), (2, .int x1), (3, .int x2)] := hl
  refine lv_aload_n C.1 C.2.1 dX12_tray_0 rfl (lv_at hl 0 rfl) ?_
  refine lv_iload_n C.1 C.2.1 dX12_tray_1 rfl (lv_at hl 1 rfl) ?_
  refine r_callS C w fs_RX12_403 (c_X12_isTray_1 l D cy x0 k0 k1) (hl.1.trans hml.symm) [] [0] (wr := [(a0, .inr (12, [.ref a1, .ref a2, .ref a3, .ref a4, .ref a5, .int 0, .ref a6, .int 0, .int 0, .int 0, .int 0, .int 0, .int 0, .int 0, .int 0, .int 0, .int 0, .int (-1), .ref a7, .ref a8, .int 0, .ref a9, .int 0, .ref a10, .ref a11, .ref a12, .ref a13, .ref a14, .int 0, .ref a15, .ref a16, .ref a17]))]) ⟨rfl, rfl, rfl, rfl, by decide⟩ rfl rfl ⟨Nat.le_of_ble_eq_true rfl, Nat.le_of_ble_eq_true rfl, Nat.le_of_ble_eq_true rfl⟩ 0 0 ⟨rfl, rfl, Nat.le_of_ble_eq_true rfl, Nat.le_of_ble_eq_true rfl⟩ dX12_tray_2 (fun u H locs hp w => ?_)
  have w : Wd D A s.heap [(a0, .inr (12, [.ref a1, .ref a2, .ref a3, .ref a4, .ref a5, .int 0, .ref a6, .int 0, .int 0, .int 0, .int 0, .int 0, .int 0, .int 0, .int 0, .int 0, .int 0, .int (-1), .ref a7, .ref a8, .int 0, .ref a9, .int 0, .ref a10, .ref a11, .ref a12, .ref a13, .ref a14, .int 0, .ref a15, .ref a16, .ref a17]))] _ _ := w
  refine r_top (g2 := F0 m 5 ls [.int 1, .ref a0]) rfl ?_
  refine b_if_ne_t C (tgt := 12) dX12_tray_5 (by decide) (by decide) ?_
  refine lv_iload_n C.1 C.2.1 dX12_tray_12 rfl (lv_at hl 2 rfl) ?_
  refine lv_i2l (v := (Int32.toInt64 x1)) C.1 C.2.1 dX12_tray_13 rfl ?_
  refine lv_lconst (v := 0) C.1 C.2.1 dX12_tray_14 (by decide) ?_
  refine lv_ldc2 (v := 3) C.1 C.2.1 C.2.2.1 (C.2.2.2.1 _ kl_RX12_279) dX12_tray_15 ?_
  refine r_callS C w fs_RX12_133 (c_X12_within_27 l D cy x1 k2 k3) (hl.1.trans hml.symm) [] [0] (wr := [(a0, .inr (12, [.ref a1, .ref a2, .ref a3, .ref a4, .ref a5, .int 0, .ref a6, .int 0, .int 0, .int 0, .int 0, .int 0, .int 0, .int 0, .int 0, .int 0, .int 0, .int (-1), .ref a7, .ref a8, .int 0, .ref a9, .int 0, .ref a10, .ref a11, .ref a12, .ref a13, .ref a14, .int 0, .ref a15, .ref a16, .ref a17]))]) ⟨rfl, rfl, rfl, rfl, by decide⟩ rfl rfl ⟨Nat.le_of_ble_eq_true rfl, Nat.le_of_ble_eq_true rfl, Nat.le_of_ble_eq_true rfl⟩ 0 0 ⟨rfl, rfl, Nat.le_of_ble_eq_true rfl, Nat.le_of_ble_eq_true rfl⟩ dX12_tray_18 (fun u H locs hp w => ?_)
  have w : Wd D A s.heap [(a0, .inr (12, [.ref a1, .ref a2, .ref a3, .ref a4, .ref a5, .int 0, .ref a6, .int 0, .int 0, .int 0, .int 0, .int 0, .int 0, .int 0, .int 0, .int 0, .int 0, .int (-1), .ref a7, .ref a8, .int 0, .ref a9, .int 0, .ref a10, .ref a11, .ref a12, .ref a13, .ref a14, .int 0, .ref a15, .ref a16, .ref a17]))] _ _ := w
  refine r_top (g2 := F0 m 21 ls [.int 1, .ref a0]) rfl ?_
  refine b_if_eq_f C (tgt := 36) dX12_tray_21 (by decide) (by decide) ?_
  refine lv_iload_n C.1 C.2.1 dX12_tray_24 rfl (lv_at hl 3 rfl) ?_
  refine lv_i2l (v := (Int32.toInt64 x2)) C.1 C.2.1 dX12_tray_25 rfl ?_
  refine lv_lconst (v := 0) C.1 C.2.1 dX12_tray_26 (by decide) ?_
  refine lv_ldc2 (v := 40) C.1 C.2.1 C.2.2.1 (C.2.2.2.1 _ kl_RX12_409) dX12_tray_27 ?_
  refine r_callS C w fs_RX12_133 (c_X12_within_32 l D cy x2 k4) (hl.1.trans hml.symm) [] [0] (wr := [(a0, .inr (12, [.ref a1, .ref a2, .ref a3, .ref a4, .ref a5, .int 0, .ref a6, .int 0, .int 0, .int 0, .int 0, .int 0, .int 0, .int 0, .int 0, .int 0, .int 0, .int (-1), .ref a7, .ref a8, .int 0, .ref a9, .int 0, .ref a10, .ref a11, .ref a12, .ref a13, .ref a14, .int 0, .ref a15, .ref a16, .ref a17]))]) ⟨rfl, rfl, rfl, rfl, by decide⟩ rfl rfl ⟨Nat.le_of_ble_eq_true rfl, Nat.le_of_ble_eq_true rfl, Nat.le_of_ble_eq_true rfl⟩ 0 0 ⟨rfl, rfl, Nat.le_of_ble_eq_true rfl, Nat.le_of_ble_eq_true rfl⟩ dX12_tray_30 (fun u H locs hp w => ?_)
  have w : Wd D A s.heap [(a0, .inr (12, [.ref a1, .ref a2, .ref a3, .ref a4, .ref a5, .int 0, .ref a6, .int 0, .int 0, .int 0, .int 0, .int 0, .int 0, .int 0, .int 0, .int 0, .int 0, .int (-1), .ref a7, .ref a8, .int 0, .ref a9, .int 0, .ref a10, .ref a11, .ref a12, .ref a13, .ref a14, .int 0, .ref a15, .ref a16, .ref a17]))] _ _ := w
  refine r_top (g2 := F0 m 33 ls [.int 0, .ref a0]) rfl ?_
  refine b_if_ne_f C (tgt := 40) dX12_tray_33 (by decide) (by decide) ?_
  refine lv_iconst (v := 2) C.1 C.2.1 dX12_tray_36 (by decide) ?_
  refine lv_goto (tgt := 41) C.1 C.2.1 dX12_tray_37 (by decide) ?_
  refine r_put C w 0 rfl rfl 5 (by decide) fl_RX12_71 rfl (ty := .int) (tyX12_ok 5 (by decide)) rfl rfl (Nat.le_of_ble_eq_true rfl) [(a0, .inr (12, [.ref a1, .ref a2, .ref a3, .ref a4, .ref a5, .int 2, .ref a6, .int 0, .int 0, .int 0, .int 0, .int 0, .int 0, .int 0, .int 0, .int 0, .int 0, .int (-1), .ref a7, .ref a8, .int 0, .ref a9, .int 0, .ref a10, .ref a11, .ref a12, .ref a13, .ref a14, .int 0, .ref a15, .ref a16, .ref a17]))] rfl dX12_tray_41 (fun H locs w => ?_)
  refine lv_aload_n C.1 C.2.1 dX12_tray_44 rfl (lv_at hl 0 rfl) ?_
  refine r_get C w 0 rfl rfl 5 (by decide) fl_RX12_71 (v := .int 2) rfl dX12_tray_45 ?_
  refine b_if_le_f C (tgt := 52) dX12_tray_48 (by decide) (by decide) ?_
  exact r_vret C w hlocks () hr rfl trivial [0] rfl rfl ⟨Nat.le_of_ble_eq_true rfl, Nat.le_of_ble_eq_true rfl⟩ dX12_tray_51
theorem dX12_tray_40 : decode cX12_tray 40 = .ok (.iconst 0, 1) := by decide +kernel
theorem dX12_tray_52 : decode cX12_tray 52 = .ok (.aload_n 0, 1) := by decide +kernel
theorem dX12_tray_53 : decode cX12_tray 53 = .ok (.getfield 58, 3) := by decide +kernel
theorem dX12_tray_56 : decode cX12_tray 56 = .ok (.iload_n 1, 1) := by decide +kernel
theorem dX12_tray_57 : decode cX12_tray 57 = .ok (.iload_n 2, 1) := by decide +kernel
theorem dX12_tray_58 : decode cX12_tray 58 = .ok (.iastore, 1) := by decide +kernel
theorem dX12_tray_59 : decode cX12_tray 59 = .ok (.aload_n 0, 1) := by decide +kernel
theorem dX12_tray_60 : decode cX12_tray 60 = .ok (.getfield 61, 3) := by decide +kernel
theorem dX12_tray_63 : decode cX12_tray 63 = .ok (.iload_n 1, 1) := by decide +kernel
theorem dX12_tray_64 : decode cX12_tray 64 = .ok (.iload_n 3, 1) := by decide +kernel
theorem dX12_tray_65 : decode cX12_tray 65 = .ok (.iastore, 1) := by decide +kernel
theorem dX12_tray_66 : decode cX12_tray 66 = .ok (.iconst 0, 1) := by decide +kernel
theorem dX12_tray_67 : decode cX12_tray 67 = .ok (.istore 4, 2) := by decide +kernel
theorem dX12_tray_69 : decode cX12_tray 69 = .ok (.iload 4, 2) := by decide +kernel
theorem dX12_tray_71 : decode cX12_tray 71 = .ok (.bipush 40, 2) := by decide +kernel
theorem dX12_tray_73 : decode cX12_tray 73 = .ok (.if_icmp .ge 22, 3) := by decide +kernel
theorem dX12_tray_76 : decode cX12_tray 76 = .ok (.aload_n 0, 1) := by decide +kernel
theorem dX12_tray_77 : decode cX12_tray 77 = .ok (.getfield 64, 3) := by decide +kernel
theorem dX12_tray_80 : decode cX12_tray 80 = .ok (.bipush 40, 2) := by decide +kernel
theorem dX12_tray_82 : decode cX12_tray 82 = .ok (.iload_n 1, 1) := by decide +kernel
theorem dX12_tray_83 : decode cX12_tray 83 = .ok (.imul, 1) := by decide +kernel
theorem dX12_tray_84 : decode cX12_tray 84 = .ok (.iload 4, 2) := by decide +kernel
theorem dX12_tray_86 : decode cX12_tray 86 = .ok (.iadd, 1) := by decide +kernel
theorem dX12_tray_87 : decode cX12_tray 87 = .ok (.lconst 0, 1) := by decide +kernel
theorem dX12_tray_88 : decode cX12_tray 88 = .ok (.lastore, 1) := by decide +kernel
theorem dX12_tray_89 : decode cX12_tray 89 = .ok (.iinc 4 1, 3) := by decide +kernel
theorem dX12_tray_92 : decode cX12_tray 92 = .ok (.goto (-23), 3) := by decide +kernel
theorem dX12_tray_95 : decode cX12_tray 95 = .ok (.return_, 1) := by decide +kernel
set_option maxRecDepth 100000 in
set_option maxHeartbeats 4000000 in
theorem c_X12_tray_4 (l : Launch) (D : va_G) (cy : Nat → ClassId) (a0 a1 a2 a3 a4 a5 a6 a7 a8 a9 a10 a11 a12 a13 a14 a15 a16 a17 : Nat) (x1 : Int32) (x2 : Int32) (k0 : ¬ x1 < 0) (k1 : ¬ 3 < x1) (k2 : ¬ x2 < 0) (k3 : ¬ 40 < x2) : Ct l D cy yX12_tray cX12_tray 5 none 2 45 0 0 [(a0, .inr (12, [.ref a1, .ref a2, .ref a3, .ref a4, .ref a5, .int 0, .ref a6, .int 0, .int 0, .int 0, .int 0, .int 0, .int 0, .int 0, .int 0, .int 0, .int 0, .int (-1), .ref a7, .ref a8, .int 0, .ref a9, .int 0, .ref a10, .ref a11, .ref a12, .ref a13, .ref a14, .int 0, .ref a15, .ref a16, .ref a17])), (a15, .inl (cy 1, 4, .inl (upd (upd (upd (upd (fun _ => 0) 0 (-1)) 1 (-1)) 2 (-1)) 3 (-1)))), (a16, .inl (cy 1, 4, .inl (fun _ => 0))), (a17, .inl (cy 2, 160, .inr (.inl (fun _ => 0))))] [.ref a0, .int 0, .int x1, .int x2] (fun u : Unit => none) (fun _ => True) (fun u : Unit => [(a0, .inr (12, [.ref a1, .ref a2, .ref a3, .ref a4, .ref a5, .int 0, .ref a6, .int 0, .int 0, .int 0, .int 0, .int 0, .int 0, .int 0, .int 0, .int 0, .int 0, .int (-1), .ref a7, .ref a8, .int 0, .ref a9, .int 0, .ref a10, .ref a11, .ref a12, .ref a13, .ref a14, .int 0, .ref a15, .ref a16, .ref a17])), (a15, .inl (cy 1, 4, .inl (upd (upd (upd (upd (upd (fun _ => 0) 0 (-1)) 1 (-1)) 2 (-1)) 3 (-1)) 0 x1))), (a16, .inl (cy 1, 4, .inl (upd (fun _ => 0) 0 x2))), (a17, .inl (cy 2, 160, .inr (.inl (vp_updL (vp_updL (vp_updL (vp_updL (vp_updL (vp_updL (vp_updL (vp_updL (vp_updL (vp_updL (vp_updL (vp_updL (vp_updL (vp_updL (vp_updL (vp_updL (vp_updL (vp_updL (vp_updL (vp_updL (vp_updL (vp_updL (vp_updL (vp_updL (vp_updL (vp_updL (vp_updL (vp_updL (vp_updL (vp_updL (vp_updL (vp_updL (vp_updL (vp_updL (vp_updL (vp_updL (vp_updL (vp_updL (vp_updL (vp_updL (fun _ => 0) 0 0) 1 0) 2 0) 3 0) 4 0) 5 0) 6 0) 7 0) 8 0) 9 0) 10 0) 11 0) 12 0) 13 0) 14 0) 15 0) 16 0) 17 0) 18 0) 19 0) 20 0) 21 0) 22 0) 23 0) 24 0) 25 0) 26 0) 27 0) 28 0) 29 0) 30 0) 31 0) 32 0) 33 0) 34 0) 35 0) 36 0) 37 0) 38 0) 39 0))))]) := by
  refine Ct.of (by decide +kernel) (Nat.le_of_ble_eq_true rfl) ?_
  intro p e s m args below meth c A ls C hr hlocks hml hnm w hl
  have hl : lv_has ls 5 [(0, .ref a0), (1, .int 0), (2, .int x1), (3, .int x2)] := hl
  refine lv_aload_n C.1 C.2.1 dX12_tray_0 rfl (lv_at hl 0 rfl) ?_
  refine lv_iload_n C.1 C.2.1 dX12_tray_1 rfl (lv_at hl 1 rfl) ?_
  refine r_callS C w fs_RX12_403 (c_X12_isTray_3 l D cy) (hl.1.trans hml.symm) [] [0, 1, 2, 3] (wr := [(a0, .inr (12, [.ref a1, .ref a2, .ref a3, .ref a4, .ref a5, .int 0, .ref a6, .int 0, .int 0, .int 0, .int 0, .int 0, .int 0, .int 0, .int 0, .int 0, .int 0, .int (-1), .ref a7, .ref a8, .int 0, .ref a9, .int 0, .ref a10, .ref a11, .ref a12, .ref a13, .ref a14, .int 0, .ref a15, .ref a16, .ref a17])), (a15, .inl (cy 1, 4, .inl (upd (upd (upd (upd (fun _ => 0) 0 (-1)) 1 (-1)) 2 (-1)) 3 (-1)))), (a16, .inl (cy 1, 4, .inl (fun _ => 0))), (a17, .inl (cy 2, 160, .inr (.inl (fun _ => 0))))]) ⟨rfl, rfl, rfl, rfl, by decide⟩ rfl rfl ⟨Nat.le_of_ble_eq_true rfl, Nat.le_of_ble_eq_true rfl, Nat.le_of_ble_eq_true rfl⟩ 0 0 ⟨rfl, rfl, Nat.le_of_ble_eq_true rfl, Nat.le_of_ble_eq_true rfl⟩ dX12_tray_2 (fun u H locs hp w => ?_)
  have w : Wd D A s.heap [(a0, .inr (12, [.ref a1, .ref a2, .ref a3, .ref a4, .ref a5, .int 0, .ref a6, .int 0, .int 0, .int 0, .int 0, .int 0, .int 0, .int 0, .int 0, .int 0, .int 0, .int (-1), .ref a7, .ref a8, .int 0, .ref a9, .int 0, .ref a10, .ref a11, .ref a12, .ref a13, .ref a14, .int 0, .ref a15, .ref a16, .ref a17])), (a15, .inl (cy 1, 4, .inl (upd (upd (upd (upd (fun _ => 0) 0 (-1)) 1 (-1)) 2 (-1)) 3 (-1)))), (a16, .inl (cy 1, 4, .inl (fun _ => 0))), (a17, .inl (cy 2, 160, .inr (.inl (fun _ => 0))))] _ _ := w
  refine r_top (g2 := F0 m 5 ls [.int 1, .ref a0]) rfl ?_
  refine b_if_ne_t C (tgt := 12) dX12_tray_5 (by decide) (by decide) ?_
  refine lv_iload_n C.1 C.2.1 dX12_tray_12 rfl (lv_at hl 2 rfl) ?_
  refine lv_i2l (v := (Int32.toInt64 x1)) C.1 C.2.1 dX12_tray_13 rfl ?_
  refine lv_lconst (v := 0) C.1 C.2.1 dX12_tray_14 (by decide) ?_
  refine lv_ldc2 (v := 3) C.1 C.2.1 C.2.2.1 (C.2.2.2.1 _ kl_RX12_279) dX12_tray_15 ?_
  refine r_callS C w fs_RX12_133 (c_X12_within_27 l D cy x1 k0 k1) (hl.1.trans hml.symm) [] [0, 1, 2, 3] (wr := [(a0, .inr (12, [.ref a1, .ref a2, .ref a3, .ref a4, .ref a5, .int 0, .ref a6, .int 0, .int 0, .int 0, .int 0, .int 0, .int 0, .int 0, .int 0, .int 0, .int 0, .int (-1), .ref a7, .ref a8, .int 0, .ref a9, .int 0, .ref a10, .ref a11, .ref a12, .ref a13, .ref a14, .int 0, .ref a15, .ref a16, .ref a17])), (a15, .inl (cy 1, 4, .inl (upd (upd (upd (upd (fun _ => 0) 0 (-1)) 1 (-1)) 2 (-1)) 3 (-1)))), (a16, .inl (cy 1, 4, .inl (fun _ => 0))), (a17, .inl (cy 2, 160, .inr (.inl (fun _ => 0))))]) ⟨rfl, rfl, rfl, rfl, by decide⟩ rfl rfl ⟨Nat.le_of_ble_eq_true rfl, Nat.le_of_ble_eq_true rfl, Nat.le_of_ble_eq_true rfl⟩ 0 0 ⟨rfl, rfl, Nat.le_of_ble_eq_true rfl, Nat.le_of_ble_eq_true rfl⟩ dX12_tray_18 (fun u H locs hp w => ?_)
  have w : Wd D A s.heap [(a0, .inr (12, [.ref a1, .ref a2, .ref a3, .ref a4, .ref a5, .int 0, .ref a6, .int 0, .int 0, .int 0, .int 0, .int 0, .int 0, .int 0, .int 0, .int 0, .int 0, .int (-1), .ref a7, .ref a8, .int 0, .ref a9, .int 0, .ref a10, .ref a11, .ref a12, .ref a13, .ref a14, .int 0, .ref a15, .ref a16, .ref a17])), (a15, .inl (cy 1, 4, .inl (upd (upd (upd (upd (fun _ => 0) 0 (-1)) 1 (-1)) 2 (-1)) 3 (-1)))), (a16, .inl (cy 1, 4, .inl (fun _ => 0))), (a17, .inl (cy 2, 160, .inr (.inl (fun _ => 0))))] _ _ := w
  refine r_top (g2 := F0 m 21 ls [.int 1, .ref a0]) rfl ?_
  refine b_if_eq_f C (tgt := 36) dX12_tray_21 (by decide) (by decide) ?_
  refine lv_iload_n C.1 C.2.1 dX12_tray_24 rfl (lv_at hl 3 rfl) ?_
  refine lv_i2l (v := (Int32.toInt64 x2)) C.1 C.2.1 dX12_tray_25 rfl ?_
  refine lv_lconst (v := 0) C.1 C.2.1 dX12_tray_26 (by decide) ?_
  refine lv_ldc2 (v := 40) C.1 C.2.1 C.2.2.1 (C.2.2.2.1 _ kl_RX12_409) dX12_tray_27 ?_
  refine r_callS C w fs_RX12_133 (c_X12_within_34 l D cy x2 k2 k3) (hl.1.trans hml.symm) [] [0, 1, 2, 3] (wr := [(a0, .inr (12, [.ref a1, .ref a2, .ref a3, .ref a4, .ref a5, .int 0, .ref a6, .int 0, .int 0, .int 0, .int 0, .int 0, .int 0, .int 0, .int 0, .int 0, .int 0, .int (-1), .ref a7, .ref a8, .int 0, .ref a9, .int 0, .ref a10, .ref a11, .ref a12, .ref a13, .ref a14, .int 0, .ref a15, .ref a16, .ref a17])), (a15, .inl (cy 1, 4, .inl (upd (upd (upd (upd (fun _ => 0) 0 (-1)) 1 (-1)) 2 (-1)) 3 (-1)))), (a16, .inl (cy 1, 4, .inl (fun _ => 0))), (a17, .inl (cy 2, 160, .inr (.inl (fun _ => 0))))]) ⟨rfl, rfl, rfl, rfl, by decide⟩ rfl rfl ⟨Nat.le_of_ble_eq_true rfl, Nat.le_of_ble_eq_true rfl, Nat.le_of_ble_eq_true rfl⟩ 0 0 ⟨rfl, rfl, Nat.le_of_ble_eq_true rfl, Nat.le_of_ble_eq_true rfl⟩ dX12_tray_30 (fun u H locs hp w => ?_)
  have w : Wd D A s.heap [(a0, .inr (12, [.ref a1, .ref a2, .ref a3, .ref a4, .ref a5, .int 0, .ref a6, .int 0, .int 0, .int 0, .int 0, .int 0, .int 0, .int 0, .int 0, .int 0, .int 0, .int (-1), .ref a7, .ref a8, .int 0, .ref a9, .int 0, .ref a10, .ref a11, .ref a12, .ref a13, .ref a14, .int 0, .ref a15, .ref a16, .ref a17])), (a15, .inl (cy 1, 4, .inl (upd (upd (upd (upd (fun _ => 0) 0 (-1)) 1 (-1)) 2 (-1)) 3 (-1)))), (a16, .inl (cy 1, 4, .inl (fun _ => 0))), (a17, .inl (cy 2, 160, .inr (.inl (fun _ => 0))))] _ _ := w
  refine r_top (g2 := F0 m 33 ls [.int 1, .ref a0]) rfl ?_
  refine b_if_ne_t C (tgt := 40) dX12_tray_33 (by decide) (by decide) ?_
  refine lv_iconst (v := 0) C.1 C.2.1 dX12_tray_40 (by decide) ?_
  refine r_put C w 0 rfl rfl 5 (by decide) fl_RX12_71 rfl (ty := .int) (tyX12_ok 5 (by decide)) rfl rfl (Nat.le_of_ble_eq_true rfl) [(a0, .inr (12, [.ref a1, .ref a2, .ref a3, .ref a4, .ref a5, .int 0, .ref a6, .int 0, .int 0, .int 0, .int 0, .int 0, .int 0, .int 0, .int 0, .int 0, .int 0, .int (-1), .ref a7, .ref a8, .int 0, .ref a9, .int 0, .ref a10, .ref a11, .ref a12, .ref a13, .ref a14, .int 0, .ref a15, .ref a16, .ref a17])), (a15, .inl (cy 1, 4, .inl (upd (upd (upd (upd (fun _ => 0) 0 (-1)) 1 (-1)) 2 (-1)) 3 (-1)))), (a16, .inl (cy 1, 4, .inl (fun _ => 0))), (a17, .inl (cy 2, 160, .inr (.inl (fun _ => 0))))] rfl dX12_tray_41 (fun H locs w => ?_)
  refine lv_aload_n C.1 C.2.1 dX12_tray_44 rfl (lv_at hl 0 rfl) ?_
  refine r_get C w 0 rfl rfl 5 (by decide) fl_RX12_71 (v := .int 0) rfl dX12_tray_45 ?_
  refine b_if_le_t C (tgt := 52) dX12_tray_48 (by decide) (by decide) ?_
  refine lv_aload_n C.1 C.2.1 dX12_tray_52 rfl (lv_at hl 0 rfl) ?_
  refine r_get C w 0 rfl rfl 29 (by decide) fl_RX12_58 (v := .ref a15) rfl dX12_tray_53 ?_
  refine lv_iload_n C.1 C.2.1 dX12_tray_56 rfl (lv_at hl 1 rfl) ?_
  refine lv_iload_n C.1 C.2.1 dX12_tray_57 rfl (lv_at hl 2 rfl) ?_
  refine r_iast C w 1 rfl (vinD (by decide)) (upd (upd (upd (upd (upd (fun _ => 0) 0 (-1)) 1 (-1)) 2 (-1)) 3 (-1)) 0 x1) rfl [(a0, .inr (12, [.ref a1, .ref a2, .ref a3, .ref a4, .ref a5, .int 0, .ref a6, .int 0, .int 0, .int 0, .int 0, .int 0, .int 0, .int 0, .int 0, .int 0, .int 0, .int (-1), .ref a7, .ref a8, .int 0, .ref a9, .int 0, .ref a10, .ref a11, .ref a12, .ref a13, .ref a14, .int 0, .ref a15, .ref a16, .ref a17])), (a15, .inl (cy 1, 4, .inl (upd (upd (upd (upd (upd (fun _ => 0) 0 (-1)) 1 (-1)) 2 (-1)) 3 (-1)) 0 x1))), (a16, .inl (cy 1, 4, .inl (fun _ => 0))), (a17, .inl (cy 2, 160, .inr (.inl (fun _ => 0))))] rfl dX12_tray_58 (fun H locs w => ?_)
  refine lv_aload_n C.1 C.2.1 dX12_tray_59 rfl (lv_at hl 0 rfl) ?_
  refine r_get C w 0 rfl rfl 30 (by decide) fl_RX12_61 (v := .ref a16) rfl dX12_tray_60 ?_
  refine lv_iload_n C.1 C.2.1 dX12_tray_63 rfl (lv_at hl 1 rfl) ?_
  refine lv_iload_n C.1 C.2.1 dX12_tray_64 rfl (lv_at hl 3 rfl) ?_
  refine r_iast C w 2 rfl (vinD (by decide)) (upd (fun _ => 0) 0 x2) rfl [(a0, .inr (12, [.ref a1, .ref a2, .ref a3, .ref a4, .ref a5, .int 0, .ref a6, .int 0, .int 0, .int 0, .int 0, .int 0, .int 0, .int 0, .int 0, .int 0, .int 0, .int (-1), .ref a7, .ref a8, .int 0, .ref a9, .int 0, .ref a10, .ref a11, .ref a12, .ref a13, .ref a14, .int 0, .ref a15, .ref a16, .ref a17])), (a15, .inl (cy 1, 4, .inl (upd (upd (upd (upd (upd (fun _ => 0) 0 (-1)) 1 (-1)) 2 (-1)) 3 (-1)) 0 x1))), (a16, .inl (cy 1, 4, .inl (upd (fun _ => 0) 0 x2))), (a17, .inl (cy 2, 160, .inr (.inl (fun _ => 0))))] rfl dX12_tray_65 (fun H locs w => ?_)
  refine lv_iconst (v := 0) C.1 C.2.1 dX12_tray_66 (by decide) ?_
  refine lv_istore (lv' := [(4, .int 0), (0, .ref a0), (1, .int 0), (2, .int x1), (3, .int x2)]) C.1 C.2.1 dX12_tray_67 hl (by decide) rfl (fun ls hl => ?_)
  refine lv_iload C.1 C.2.1 dX12_tray_69 (lv_at hl 0 rfl) ?_
  refine lv_bipush (v := 40) C.1 C.2.1 dX12_tray_71 (by decide) ?_
  refine b_icmp_ge_f C (tgt := 95) dX12_tray_73 (by decide) (by decide) ?_
  refine lv_aload_n C.1 C.2.1 dX12_tray_76 rfl (lv_at hl 1 rfl) ?_
  refine r_get C w 0 rfl rfl 31 (by decide) fl_RX12_64 (v := .ref a17) rfl dX12_tray_77 ?_
  refine lv_bipush (v := 40) C.1 C.2.1 dX12_tray_80 (by decide) ?_
  refine lv_iload_n C.1 C.2.1 dX12_tray_82 rfl (lv_at hl 2 rfl) ?_
  refine r_imul C (v := 0) dX12_tray_83 (by decide) ?_
  refine lv_iload C.1 C.2.1 dX12_tray_84 (lv_at hl 0 rfl) ?_
  refine r_iadd C (v := 0) dX12_tray_86 (by decide) ?_
  refine lv_lconst (v := 0) C.1 C.2.1 dX12_tray_87 (by decide) ?_
  refine r_last C w 3 rfl (vinD (by decide)) (vp_updL (fun _ => 0) 0 0) rfl [(a0, .inr (12, [.ref a1, .ref a2, .ref a3, .ref a4, .ref a5, .int 0, .ref a6, .int 0, .int 0, .int 0, .int 0, .int 0, .int 0, .int 0, .int 0, .int 0, .int 0, .int (-1), .ref a7, .ref a8, .int 0, .ref a9, .int 0, .ref a10, .ref a11, .ref a12, .ref a13, .ref a14, .int 0, .ref a15, .ref a16, .ref a17])), (a15, .inl (cy 1, 4, .inl (upd (upd (upd (upd (upd (fun _ => 0) 0 (-1)) 1 (-1)) 2 (-1)) 3 (-1)) 0 x1))), (a16, .inl (cy 1, 4, .inl (upd (fun _ => 0) 0 x2))), (a17, .inl (cy 2, 160, .inr (.inl (vp_updL (fun _ => 0) 0 0))))] rfl dX12_tray_88 (fun H locs w => ?_)
  refine lv_iinc (v := 1) (lv' := [(4, .int 1), (0, .ref a0), (1, .int 0), (2, .int x1), (3, .int x2)]) C.1 C.2.1 dX12_tray_89 hl (k := 0) rfl (by decide) (by decide) rfl (fun ls hl => ?_)
  refine lv_goto (tgt := 69) C.1 C.2.1 dX12_tray_92 (by decide) ?_
  refine lv_iload C.1 C.2.1 dX12_tray_69 (lv_at hl 0 rfl) ?_
  refine lv_bipush (v := 40) C.1 C.2.1 dX12_tray_71 (by decide) ?_
  refine b_icmp_ge_f C (tgt := 95) dX12_tray_73 (by decide) (by decide) ?_
  refine lv_aload_n C.1 C.2.1 dX12_tray_76 rfl (lv_at hl 1 rfl) ?_
  refine r_get C w 0 rfl rfl 31 (by decide) fl_RX12_64 (v := .ref a17) rfl dX12_tray_77 ?_
  refine lv_bipush (v := 40) C.1 C.2.1 dX12_tray_80 (by decide) ?_
  refine lv_iload_n C.1 C.2.1 dX12_tray_82 rfl (lv_at hl 2 rfl) ?_
  refine r_imul C (v := 0) dX12_tray_83 (by decide) ?_
  refine lv_iload C.1 C.2.1 dX12_tray_84 (lv_at hl 0 rfl) ?_
  refine r_iadd C (v := 1) dX12_tray_86 (by decide) ?_
  refine lv_lconst (v := 0) C.1 C.2.1 dX12_tray_87 (by decide) ?_
  refine r_last C w 3 rfl (vinD (by decide)) (vp_updL (vp_updL (fun _ => 0) 0 0) 1 0) rfl [(a0, .inr (12, [.ref a1, .ref a2, .ref a3, .ref a4, .ref a5, .int 0, .ref a6, .int 0, .int 0, .int 0, .int 0, .int 0, .int 0, .int 0, .int 0, .int 0, .int 0, .int (-1), .ref a7, .ref a8, .int 0, .ref a9, .int 0, .ref a10, .ref a11, .ref a12, .ref a13, .ref a14, .int 0, .ref a15, .ref a16, .ref a17])), (a15, .inl (cy 1, 4, .inl (upd (upd (upd (upd (upd (fun _ => 0) 0 (-1)) 1 (-1)) 2 (-1)) 3 (-1)) 0 x1))), (a16, .inl (cy 1, 4, .inl (upd (fun _ => 0) 0 x2))), (a17, .inl (cy 2, 160, .inr (.inl (vp_updL (vp_updL (fun _ => 0) 0 0) 1 0))))] rfl dX12_tray_88 (fun H locs w => ?_)
  refine lv_iinc (v := 2) (lv' := [(4, .int 2), (0, .ref a0), (1, .int 0), (2, .int x1), (3, .int x2)]) C.1 C.2.1 dX12_tray_89 hl (k := 0) rfl (by decide) (by decide) rfl (fun ls hl => ?_)
  refine lv_goto (tgt := 69) C.1 C.2.1 dX12_tray_92 (by decide) ?_
  refine lv_iload C.1 C.2.1 dX12_tray_69 (lv_at hl 0 rfl) ?_
  refine lv_bipush (v := 40) C.1 C.2.1 dX12_tray_71 (by decide) ?_
  refine b_icmp_ge_f C (tgt := 95) dX12_tray_73 (by decide) (by decide) ?_
  refine lv_aload_n C.1 C.2.1 dX12_tray_76 rfl (lv_at hl 1 rfl) ?_
  refine r_get C w 0 rfl rfl 31 (by decide) fl_RX12_64 (v := .ref a17) rfl dX12_tray_77 ?_
  refine lv_bipush (v := 40) C.1 C.2.1 dX12_tray_80 (by decide) ?_
  refine lv_iload_n C.1 C.2.1 dX12_tray_82 rfl (lv_at hl 2 rfl) ?_
  refine r_imul C (v := 0) dX12_tray_83 (by decide) ?_
  refine lv_iload C.1 C.2.1 dX12_tray_84 (lv_at hl 0 rfl) ?_
  refine r_iadd C (v := 2) dX12_tray_86 (by decide) ?_
  refine lv_lconst (v := 0) C.1 C.2.1 dX12_tray_87 (by decide) ?_
  refine r_last C w 3 rfl (vinD (by decide)) (vp_updL (vp_updL (vp_updL (fun _ => 0) 0 0) 1 0) 2 0) rfl [(a0, .inr (12, [.ref a1, .ref a2, .ref a3, .ref a4, .ref a5, .int 0, .ref a6, .int 0, .int 0, .int 0, .int 0, .int 0, .int 0, .int 0, .int 0, .int 0, .int 0, .int (-1), .ref a7, .ref a8, .int 0, .ref a9, .int 0, .ref a10, .ref a11, .ref a12, .ref a13, .ref a14, .int 0, .ref a15, .ref a16, .ref a17])), (a15, .inl (cy 1, 4, .inl (upd (upd (upd (upd (upd (fun _ => 0) 0 (-1)) 1 (-1)) 2 (-1)) 3 (-1)) 0 x1))), (a16, .inl (cy 1, 4, .inl (upd (fun _ => 0) 0 x2))), (a17, .inl (cy 2, 160, .inr (.inl (vp_updL (vp_updL (vp_updL (fun _ => 0) 0 0) 1 0) 2 0))))] rfl dX12_tray_88 (fun H locs w => ?_)
  refine lv_iinc (v := 3) (lv' := [(4, .int 3), (0, .ref a0), (1, .int 0), (2, .int x1), (3, .int x2)]) C.1 C.2.1 dX12_tray_89 hl (k := 0) rfl (by decide) (by decide) rfl (fun ls hl => ?_)
  refine lv_goto (tgt := 69) C.1 C.2.1 dX12_tray_92 (by decide) ?_
  refine lv_iload C.1 C.2.1 dX12_tray_69 (lv_at hl 0 rfl) ?_
  refine lv_bipush (v := 40) C.1 C.2.1 dX12_tray_71 (by decide) ?_
  refine b_icmp_ge_f C (tgt := 95) dX12_tray_73 (by decide) (by decide) ?_
  refine lv_aload_n C.1 C.2.1 dX12_tray_76 rfl (lv_at hl 1 rfl) ?_
  refine r_get C w 0 rfl rfl 31 (by decide) fl_RX12_64 (v := .ref a17) rfl dX12_tray_77 ?_
  refine lv_bipush (v := 40) C.1 C.2.1 dX12_tray_80 (by decide) ?_
  refine lv_iload_n C.1 C.2.1 dX12_tray_82 rfl (lv_at hl 2 rfl) ?_
  refine r_imul C (v := 0) dX12_tray_83 (by decide) ?_
  refine lv_iload C.1 C.2.1 dX12_tray_84 (lv_at hl 0 rfl) ?_
  refine r_iadd C (v := 3) dX12_tray_86 (by decide) ?_
  refine lv_lconst (v := 0) C.1 C.2.1 dX12_tray_87 (by decide) ?_
  refine r_last C w 3 rfl (vinD (by decide)) (vp_updL (vp_updL (vp_updL (vp_updL (fun _ => 0) 0 0) 1 0) 2 0) 3 0) rfl [(a0, .inr (12, [.ref a1, .ref a2, .ref a3, .ref a4, .ref a5, .int 0, .ref a6, .int 0, .int 0, .int 0, .int 0, .int 0, .int 0, .int 0, .int 0, .int 0, .int 0, .int (-1), .ref a7, .ref a8, .int 0, .ref a9, .int 0, .ref a10, .ref a11, .ref a12, .ref a13, .ref a14, .int 0, .ref a15, .ref a16, .ref a17])), (a15, .inl (cy 1, 4, .inl (upd (upd (upd (upd (upd (fun _ => 0) 0 (-1)) 1 (-1)) 2 (-1)) 3 (-1)) 0 x1))), (a16, .inl (cy 1, 4, .inl (upd (fun _ => 0) 0 x2))), (a17, .inl (cy 2, 160, .inr (.inl (vp_updL (vp_updL (vp_updL (vp_updL (fun _ => 0) 0 0) 1 0) 2 0) 3 0))))] rfl dX12_tray_88 (fun H locs w => ?_)
  refine lv_iinc (v := 4) (lv' := [(4, .int 4), (0, .ref a0), (1, .int 0), (2, .int x1), (3, .int x2)]) C.1 C.2.1 dX12_tray_89 hl (k := 0) rfl (by decide) (by decide) rfl (fun ls hl => ?_)
  refine lv_goto (tgt := 69) C.1 C.2.1 dX12_tray_92 (by decide) ?_
  refine lv_iload C.1 C.2.1 dX12_tray_69 (lv_at hl 0 rfl) ?_
  refine lv_bipush (v := 40) C.1 C.2.1 dX12_tray_71 (by decide) ?_
  refine b_icmp_ge_f C (tgt := 95) dX12_tray_73 (by decide) (by decide) ?_
  refine lv_aload_n C.1 C.2.1 dX12_tray_76 rfl (lv_at hl 1 rfl) ?_
  refine r_get C w 0 rfl rfl 31 (by decide) fl_RX12_64 (v := .ref a17) rfl dX12_tray_77 ?_
  refine lv_bipush (v := 40) C.1 C.2.1 dX12_tray_80 (by decide) ?_
  refine lv_iload_n C.1 C.2.1 dX12_tray_82 rfl (lv_at hl 2 rfl) ?_
  refine r_imul C (v := 0) dX12_tray_83 (by decide) ?_
  refine lv_iload C.1 C.2.1 dX12_tray_84 (lv_at hl 0 rfl) ?_
  refine r_iadd C (v := 4) dX12_tray_86 (by decide) ?_
  refine lv_lconst (v := 0) C.1 C.2.1 dX12_tray_87 (by decide) ?_
  refine r_last C w 3 rfl (vinD (by decide)) (vp_updL (vp_updL (vp_updL (vp_updL (vp_updL (fun _ => 0) 0 0) 1 0) 2 0) 3 0) 4 0) rfl [(a0, .inr (12, [.ref a1, .ref a2, .ref a3, .ref a4, .ref a5, .int 0, .ref a6, .int 0, .int 0, .int 0, .int 0, .int 0, .int 0, .int 0, .int 0, .int 0, .int 0, .int (-1), .ref a7, .ref a8, .int 0, .ref a9, .int 0, .ref a10, .ref a11, .ref a12, .ref a13, .ref a14, .int 0, .ref a15, .ref a16, .ref a17])), (a15, .inl (cy 1, 4, .inl (upd (upd (upd (upd (upd (fun _ => 0) 0 (-1)) 1 (-1)) 2 (-1)) 3 (-1)) 0 x1))), (a16, .inl (cy 1, 4, .inl (upd (fun _ => 0) 0 x2))), (a17, .inl (cy 2, 160, .inr (.inl (vp_updL (vp_updL (vp_updL (vp_updL (vp_updL (fun _ => 0) 0 0) 1 0) 2 0) 3 0) 4 0))))] rfl dX12_tray_88 (fun H locs w => ?_)
  refine lv_iinc (v := 5) (lv' := [(4, .int 5), (0, .ref a0), (1, .int 0), (2, .int x1), (3, .int x2)]) C.1 C.2.1 dX12_tray_89 hl (k := 0) rfl (by decide) (by decide) rfl (fun ls hl => ?_)
  refine lv_goto (tgt := 69) C.1 C.2.1 dX12_tray_92 (by decide) ?_
  refine lv_iload C.1 C.2.1 dX12_tray_69 (lv_at hl 0 rfl) ?_
  refine lv_bipush (v := 40) C.1 C.2.1 dX12_tray_71 (by decide) ?_
  refine b_icmp_ge_f C (tgt := 95) dX12_tray_73 (by decide) (by decide) ?_
  refine lv_aload_n C.1 C.2.1 dX12_tray_76 rfl (lv_at hl 1 rfl) ?_
  refine r_get C w 0 rfl rfl 31 (by decide) fl_RX12_64 (v := .ref a17) rfl dX12_tray_77 ?_
  refine lv_bipush (v := 40) C.1 C.2.1 dX12_tray_80 (by decide) ?_
  refine lv_iload_n C.1 C.2.1 dX12_tray_82 rfl (lv_at hl 2 rfl) ?_
  refine r_imul C (v := 0) dX12_tray_83 (by decide) ?_
  refine lv_iload C.1 C.2.1 dX12_tray_84 (lv_at hl 0 rfl) ?_
  refine r_iadd C (v := 5) dX12_tray_86 (by decide) ?_
  refine lv_lconst (v := 0) C.1 C.2.1 dX12_tray_87 (by decide) ?_
  refine r_last C w 3 rfl (vinD (by decide)) (vp_updL (vp_updL (vp_updL (vp_updL (vp_updL (vp_updL (fun _ => 0) 0 0) 1 0) 2 0) 3 0) 4 0) 5 0) rfl [(a0, .inr (12, [.ref a1, .ref a2, .ref a3, .ref a4, .ref a5, .int 0, .ref a6, .int 0, .int 0, .int 0, .int 0, .int 0, .int 0, .int 0, .int 0, .int 0, .int 0, .int (-1), .ref a7, .ref a8, .int 0, .ref a9, .int 0, .ref a10, .ref a11, .ref a12, .ref a13, .ref a14, .int 0, .ref a15, .ref a16, .ref a17])), (a15, .inl (cy 1, 4, .inl (upd (upd (upd (upd (upd (fun _ => 0) 0 (-1)) 1 (-1)) 2 (-1)) 3 (-1)) 0 x1))), (a16, .inl (cy 1, 4, .inl (upd (fun _ => 0) 0 x2))), (a17, .inl (cy 2, 160, .inr (.inl (vp_updL (vp_updL (vp_updL (vp_updL (vp_updL (vp_updL (fun _ => 0) 0 0) 1 0) 2 0) 3 0) 4 0) 5 0))))] rfl dX12_tray_88 (fun H locs w => ?_)
  refine lv_iinc (v := 6) (lv' := [(4, .int 6), (0, .ref a0), (1, .int 0), (2, .int x1), (3, .int x2)]) C.1 C.2.1 dX12_tray_89 hl (k := 0) rfl (by decide) (by decide) rfl (fun ls hl => ?_)
  refine lv_goto (tgt := 69) C.1 C.2.1 dX12_tray_92 (by decide) ?_
  refine lv_iload C.1 C.2.1 dX12_tray_69 (lv_at hl 0 rfl) ?_
  refine lv_bipush (v := 40) C.1 C.2.1 dX12_tray_71 (by decide) ?_
  refine b_icmp_ge_f C (tgt := 95) dX12_tray_73 (by decide) (by decide) ?_
  refine lv_aload_n C.1 C.2.1 dX12_tray_76 rfl (lv_at hl 1 rfl) ?_
  refine r_get C w 0 rfl rfl 31 (by decide) fl_RX12_64 (v := .ref a17) rfl dX12_tray_77 ?_
  refine lv_bipush (v := 40) C.1 C.2.1 dX12_tray_80 (by decide) ?_
  refine lv_iload_n C.1 C.2.1 dX12_tray_82 rfl (lv_at hl 2 rfl) ?_
  refine r_imul C (v := 0) dX12_tray_83 (by decide) ?_
  refine lv_iload C.1 C.2.1 dX12_tray_84 (lv_at hl 0 rfl) ?_
  refine r_iadd C (v := 6) dX12_tray_86 (by decide) ?_
  refine lv_lconst (v := 0) C.1 C.2.1 dX12_tray_87 (by decide) ?_
  refine r_last C w 3 rfl (vinD (by decide)) (vp_updL (vp_updL (vp_updL (vp_updL (vp_updL (vp_updL (vp_updL (fun _ => 0) 0 0) 1 0) 2 0) 3 0) 4 0) 5 0) 6 0) rfl [(a0, .inr (12, [.ref a1, .ref a2, .ref a3, .ref a4, .ref a5, .int 0, .ref a6, .int 0, .int 0, .int 0, .int 0, .int 0, .int 0, .int 0, .int 0, .int 0, .int 0, .int (-1), .ref a7, .ref a8, .int 0, .ref a9, .int 0, .ref a10, .ref a11, .ref a12, .ref a13, .ref a14, .int 0, .ref a15, .ref a16, .ref a17])), (a15, .inl (cy 1, 4, .inl (upd (upd (upd (upd (upd (fun _ => 0) 0 (-1)) 1 (-1)) 2 (-1)) 3 (-1)) 0 x1))), (a16, .inl (cy 1, 4, .inl (upd (fun _ => 0) 0 x2))), (a17, .inl (cy 2, 160, .inr (.inl (vp_updL (vp_updL (vp_updL (vp_updL (vp_updL (vp_updL (vp_updL (fun _ => 0) 0 0) 1 0) 2 0) 3 0) 4 0) 5 0) 6 0))))] rfl dX12_tray_88 (fun H locs w => ?_)
  refine lv_iinc (v := 7) (lv' := [(4, .int 7), (0, .ref a0), (1, .int 0), (2, .int x1), (3, .int x2)]) C.1 C.2.1 dX12_tray_89 hl (k := 0) rfl (by decide) (by decide) rfl (fun ls hl => ?_)
  refine lv_goto (tgt := 69) C.1 C.2.1 dX12_tray_92 (by decide) ?_
  refine lv_iload C.1 C.2.1 dX12_tray_69 (lv_at hl 0 rfl) ?_
  refine lv_bipush (v := 40) C.1 C.2.1 dX12_tray_71 (by decide) ?_
  refine b_icmp_ge_f C (tgt := 95) dX12_tray_73 (by decide) (by decide) ?_
  refine lv_aload_n C.1 C.2.1 dX12_tray_76 rfl (lv_at hl 1 rfl) ?_
  refine r_get C w 0 rfl rfl 31 (by decide) fl_RX12_64 (v := .ref a17) rfl dX12_tray_77 ?_
  refine lv_bipush (v := 40) C.1 C.2.1 dX12_tray_80 (by decide) ?_
  refine lv_iload_n C.1 C.2.1 dX12_tray_82 rfl (lv_at hl 2 rfl) ?_
  refine r_imul C (v := 0) dX12_tray_83 (by decide) ?_
  refine lv_iload C.1 C.2.1 dX12_tray_84 (lv_at hl 0 rfl) ?_
  refine r_iadd C (v := 7) dX12_tray_86 (by decide) ?_
  refine lv_lconst (v := 0) C.1 C.2.1 dX12_tray_87 (by decide) ?_
  refine r_last C w 3 rfl (vinD (by decide)) (vp_updL (vp_updL (vp_updL (vp_updL (vp_updL (vp_updL (vp_updL (vp_updL (fun _ => 0) 0 0) 1 0) 2 0) 3 0) 4 0) 5 0) 6 0) 7 0) rfl [(a0, .inr (12, [.ref a1, .ref a2, .ref a3, .ref a4, .ref a5, .int 0, .ref a6, .int 0, .int 0, .int 0, .int 0, .int 0, .int 0, .int 0, .int 0, .int 0, .int 0, .int (-1), .ref a7, .ref a8, .int 0, .ref a9, .int 0, .ref a10, .ref a11, .ref a12, .ref a13, .ref a14, .int 0, .ref a15, .ref a16, .ref a17])), (a15, .inl (cy 1, 4, .inl (upd (upd (upd (upd (upd (fun _ => 0) 0 (-1)) 1 (-1)) 2 (-1)) 3 (-1)) 0 x1))), (a16, .inl (cy 1, 4, .inl (upd (fun _ => 0) 0 x2))), (a17, .inl (cy 2, 160, .inr (.inl (vp_updL (vp_updL (vp_updL (vp_updL (vp_updL (vp_updL (vp_updL (vp_updL (fun _ => 0) 0 0) 1 0) 2 0) 3 0) 4 0) 5 0) 6 0) 7 0))))] rfl dX12_tray_88 (fun H locs w => ?_)
  refine lv_iinc (v := 8) (lv' := [(4, .int 8), (0, .ref a0), (1, .int 0), (2, .int x1), (3, .int x2)]) C.1 C.2.1 dX12_tray_89 hl (k := 0) rfl (by decide) (by decide) rfl (fun ls hl => ?_)
  refine lv_goto (tgt := 69) C.1 C.2.1 dX12_tray_92 (by decide) ?_
  refine lv_iload C.1 C.2.1 dX12_tray_69 (lv_at hl 0 rfl) ?_
  refine lv_bipush (v := 40) C.1 C.2.1 dX12_tray_71 (by decide) ?_
  refine b_icmp_ge_f C (tgt := 95) dX12_tray_73 (by decide) (by decide) ?_
  refine lv_aload_n C.1 C.2.1 dX12_tray_76 rfl (lv_at hl 1 rfl) ?_
  refine r_get C w 0 rfl rfl 31 (by decide) fl_RX12_64 (v := .ref a17) rfl dX12_tray_77 ?_
  refine lv_bipush (v := 40) C.1 C.2.1 dX12_tray_80 (by decide) ?_
  refine lv_iload_n C.1 C.2.1 dX12_tray_82 rfl (lv_at hl 2 rfl) ?_
  refine r_imul C (v := 0) dX12_tray_83 (by decide) ?_
  refine lv_iload C.1 C.2.1 dX12_tray_84 (lv_at hl 0 rfl) ?_
  refine r_iadd C (v := 8) dX12_tray_86 (by decide) ?_
  refine lv_lconst (v := 0) C.1 C.2.1 dX12_tray_87 (by decide) ?_
  refine r_last C w 3 rfl (vinD (by decide)) (vp_updL (vp_updL (vp_updL (vp_updL (vp_updL (vp_updL (vp_updL (vp_updL (vp_updL (fun _ => 0) 0 0) 1 0) 2 0) 3 0) 4 0) 5 0) 6 0) 7 0) 8 0) rfl [(a0, .inr (12, [.ref a1, .ref a2, .ref a3, .ref a4, .ref a5, .int 0, .ref a6, .int 0, .int 0, .int 0, .int 0, .int 0, .int 0, .int 0, .int 0, .int 0, .int 0, .int (-1), .ref a7, .ref a8, .int 0, .ref a9, .int 0, .ref a10, .ref a11, .ref a12, .ref a13, .ref a14, .int 0, .ref a15, .ref a16, .ref a17])), (a15, .inl (cy 1, 4, .inl (upd (upd (upd (upd (upd (fun _ => 0) 0 (-1)) 1 (-1)) 2 (-1)) 3 (-1)) 0 x1))), (a16, .inl (cy 1, 4, .inl (upd (fun _ => 0) 0 x2))), (a17, .inl (cy 2, 160, .inr (.inl (vp_updL (vp_updL (vp_updL (vp_updL (vp_updL (vp_updL (vp_updL (vp_updL (vp_updL (fun _ => 0) 0 0) 1 0) 2 0) 3 0) 4 0) 5 0) 6 0) 7 0) 8 0))))] rfl dX12_tray_88 (fun H locs w => ?_)
  refine lv_iinc (v := 9) (lv' := [(4, .int 9), (0, .ref a0), (1, .int 0), (2, .int x1), (3, .int x2)]) C.1 C.2.1 dX12_tray_89 hl (k := 0) rfl (by decide) (by decide) rfl (fun ls hl => ?_)
  refine lv_goto (tgt := 69) C.1 C.2.1 dX12_tray_92 (by decide) ?_
  refine lv_iload C.1 C.2.1 dX12_tray_69 (lv_at hl 0 rfl) ?_
  refine lv_bipush (v := 40) C.1 C.2.1 dX12_tray_71 (by decide) ?_
  refine b_icmp_ge_f C (tgt := 95) dX12_tray_73 (by decide) (by decide) ?_
  refine lv_aload_n C.1 C.2.1 dX12_tray_76 rfl (lv_at hl 1 rfl) ?_
  refine r_get C w 0 rfl rfl 31 (by decide) fl_RX12_64 (v := .ref a17) rfl dX12_tray_77 ?_
  refine lv_bipush (v := 40) C.1 C.2.1 dX12_tray_80 (by decide) ?_
  refine lv_iload_n C.1 C.2.1 dX12_tray_82 rfl (lv_at hl 2 rfl) ?_
  refine r_imul C (v := 0) dX12_tray_83 (by decide) ?_
  refine lv_iload C.1 C.2.1 dX12_tray_84 (lv_at hl 0 rfl) ?_
  refine r_iadd C (v := 9) dX12_tray_86 (by decide) ?_
  refine lv_lconst (v := 0) C.1 C.2.1 dX12_tray_87 (by decide) ?_
  refine r_last C w 3 rfl (vinD (by decide)) (vp_updL (vp_updL (vp_updL (vp_updL (vp_updL (vp_updL (vp_updL (vp_updL (vp_updL (vp_updL (fun _ => 0) 0 0) 1 0) 2 0) 3 0) 4 0) 5 0) 6 0) 7 0) 8 0) 9 0) rfl [(a0, .inr (12, [.ref a1, .ref a2, .ref a3, .ref a4, .ref a5, .int 0, .ref a6, .int 0, .int 0, .int 0, .int 0, .int 0, .int 0, .int 0, .int 0, .int 0, .int 0, .int (-1), .ref a7, .ref a8, .int 0, .ref a9, .int 0, .ref a10, .ref a11, .ref a12, .ref a13, .ref a14, .int 0, .ref a15, .ref a16, .ref a17])), (a15, .inl (cy 1, 4, .inl (upd (upd (upd (upd (upd (fun _ => 0) 0 (-1)) 1 (-1)) 2 (-1)) 3 (-1)) 0 x1))), (a16, .inl (cy 1, 4, .inl (upd (fun _ => 0) 0 x2))), (a17, .inl (cy 2, 160, .inr (.inl (vp_updL (vp_updL (vp_updL (vp_updL (vp_updL (vp_updL (vp_updL (vp_updL (vp_updL (vp_updL (fun _ => 0) 0 0) 1 0) 2 0) 3 0) 4 0) 5 0) 6 0) 7 0) 8 0) 9 0))))] rfl dX12_tray_88 (fun H locs w => ?_)
  refine lv_iinc (v := 10) (lv' := [(4, .int 10), (0, .ref a0), (1, .int 0), (2, .int x1), (3, .int x2)]) C.1 C.2.1 dX12_tray_89 hl (k := 0) rfl (by decide) (by decide) rfl (fun ls hl => ?_)
  refine lv_goto (tgt := 69) C.1 C.2.1 dX12_tray_92 (by decide) ?_
  refine lv_iload C.1 C.2.1 dX12_tray_69 (lv_at hl 0 rfl) ?_
  refine lv_bipush (v := 40) C.1 C.2.1 dX12_tray_71 (by decide) ?_
  refine b_icmp_ge_f C (tgt := 95) dX12_tray_73 (by decide) (by decide) ?_
  refine lv_aload_n C.1 C.2.1 dX12_tray_76 rfl (lv_at hl 1 rfl) ?_
  refine r_get C w 0 rfl rfl 31 (by decide) fl_RX12_64 (v := .ref a17) rfl dX12_tray_77 ?_
  refine lv_bipush (v := 40) C.1 C.2.1 dX12_tray_80 (by decide) ?_
  refine lv_iload_n C.1 C.2.1 dX12_tray_82 rfl (lv_at hl 2 rfl) ?_
  refine r_imul C (v := 0) dX12_tray_83 (by decide) ?_
  refine lv_iload C.1 C.2.1 dX12_tray_84 (lv_at hl 0 rfl) ?_
  refine r_iadd C (v := 10) dX12_tray_86 (by decide) ?_
  refine lv_lconst (v := 0) C.1 C.2.1 dX12_tray_87 (by decide) ?_
  refine r_last C w 3 rfl (vinD (by decide)) (vp_updL (vp_updL (vp_updL (vp_updL (vp_updL (vp_updL (vp_updL (vp_updL (vp_updL (vp_updL (vp_updL (fun _ => 0) 0 0) 1 0) 2 0) 3 0) 4 0) 5 0) 6 0) 7 0) 8 0) 9 0) 10 0) rfl [(a0, .inr (12, [.ref a1, .ref a2, .ref a3, .ref a4, .ref a5, .int 0, .ref a6, .int 0, .int 0, .int 0, .int 0, .int 0, .int 0, .int 0, .int 0, .int 0, .int 0, .int (-1), .ref a7, .ref a8, .int 0, .ref a9, .int 0, .ref a10, .ref a11, .ref a12, .ref a13, .ref a14, .int 0, .ref a15, .ref a16, .ref a17])), (a15, .inl (cy 1, 4, .inl (upd (upd (upd (upd (upd (fun _ => 0) 0 (-1)) 1 (-1)) 2 (-1)) 3 (-1)) 0 x1))), (a16, .inl (cy 1, 4, .inl (upd (fun _ => 0) 0 x2))), (a17, .inl (cy 2, 160, .inr (.inl (vp_updL (vp_updL (vp_updL (vp_updL (vp_updL (vp_updL (vp_updL (vp_updL (vp_updL (vp_updL (vp_updL (fun _ => 0) 0 0) 1 0) 2 0) 3 0) 4 0) 5 0) 6 0) 7 0) 8 0) 9 0) 10 0))))] rfl dX12_tray_88 (fun H locs w => ?_)
  refine lv_iinc (v := 11) (lv' := [(4, .int 11), (0, .ref a0), (1, .int 0), (2, .int x1), (3, .int x2)]) C.1 C.2.1 dX12_tray_89 hl (k := 0) rfl (by decide) (by decide) rfl (fun ls hl => ?_)
  refine lv_goto (tgt := 69) C.1 C.2.1 dX12_tray_92 (by decide) ?_
  refine lv_iload C.1 C.2.1 dX12_tray_69 (lv_at hl 0 rfl) ?_
  refine lv_bipush (v := 40) C.1 C.2.1 dX12_tray_71 (by decide) ?_
  refine b_icmp_ge_f C (tgt := 95) dX12_tray_73 (by decide) (by decide) ?_
  refine lv_aload_n C.1 C.2.1 dX12_tray_76 rfl (lv_at hl 1 rfl) ?_
  refine r_get C w 0 rfl rfl 31 (by decide) fl_RX12_64 (v := .ref a17) rfl dX12_tray_77 ?_
  refine lv_bipush (v := 40) C.1 C.2.1 dX12_tray_80 (by decide) ?_
  refine lv_iload_n C.1 C.2.1 dX12_tray_82 rfl (lv_at hl 2 rfl) ?_
  refine r_imul C (v := 0) dX12_tray_83 (by decide) ?_
  refine lv_iload C.1 C.2.1 dX12_tray_84 (lv_at hl 0 rfl) ?_
  refine r_iadd C (v := 11) dX12_tray_86 (by decide) ?_
  refine lv_lconst (v := 0) C.1 C.2.1 dX12_tray_87 (by decide) ?_
  refine r_last C w 3 rfl (vinD (by decide)) (vp_updL (vp_updL (vp_updL (vp_updL (vp_updL (vp_updL (vp_updL (vp_updL (vp_updL (vp_updL (vp_updL (vp_updL (fun _ => 0) 0 0) 1 0) 2 0) 3 0) 4 0) 5 0) 6 0) 7 0) 8 0) 9 0) 10 0) 11 0) rfl [(a0, .inr (12, [.ref a1, .ref a2, .ref a3, .ref a4, .ref a5, .int 0, .ref a6, .int 0, .int 0, .int 0, .int 0, .int 0, .int 0, .int 0, .int 0, .int 0, .int 0, .int (-1), .ref a7, .ref a8, .int 0, .ref a9, .int 0, .ref a10, .ref a11, .ref a12, .ref a13, .ref a14, .int 0, .ref a15, .ref a16, .ref a17])), (a15, .inl (cy 1, 4, .inl (upd (upd (upd (upd (upd (fun _ => 0) 0 (-1)) 1 (-1)) 2 (-1)) 3 (-1)) 0 x1))), (a16, .inl (cy 1, 4, .inl (upd (fun _ => 0) 0 x2))), (a17, .inl (cy 2, 160, .inr (.inl (vp_updL (vp_updL (vp_updL (vp_updL (vp_updL (vp_updL (vp_updL (vp_updL (vp_updL (vp_updL (vp_updL (vp_updL (fun _ => 0) 0 0) 1 0) 2 0) 3 0) 4 0) 5 0) 6 0) 7 0) 8 0) 9 0) 10 0) 11 0))))] rfl dX12_tray_88 (fun H locs w => ?_)
  refine lv_iinc (v := 12) (lv' := [(4, .int 12), (0, .ref a0), (1, .int 0), (2, .int x1), (3, .int x2)]) C.1 C.2.1 dX12_tray_89 hl (k := 0) rfl (by decide) (by decide) rfl (fun ls hl => ?_)
  refine lv_goto (tgt := 69) C.1 C.2.1 dX12_tray_92 (by decide) ?_
  refine lv_iload C.1 C.2.1 dX12_tray_69 (lv_at hl 0 rfl) ?_
  refine lv_bipush (v := 40) C.1 C.2.1 dX12_tray_71 (by decide) ?_
  refine b_icmp_ge_f C (tgt := 95) dX12_tray_73 (by decide) (by decide) ?_
  refine lv_aload_n C.1 C.2.1 dX12_tray_76 rfl (lv_at hl 1 rfl) ?_
  refine r_get C w 0 rfl rfl 31 (by decide) fl_RX12_64 (v := .ref a17) rfl dX12_tray_77 ?_
  refine lv_bipush (v := 40) C.1 C.2.1 dX12_tray_80 (by decide) ?_
  refine lv_iload_n C.1 C.2.1 dX12_tray_82 rfl (lv_at hl 2 rfl) ?_
  refine r_imul C (v := 0) dX12_tray_83 (by decide) ?_
  refine lv_iload C.1 C.2.1 dX12_tray_84 (lv_at hl 0 rfl) ?_
  refine r_iadd C (v := 12) dX12_tray_86 (by decide) ?_
  refine lv_lconst (v := 0) C.1 C.2.1 dX12_tray_87 (by decide) ?_
  refine r_last C w 3 rfl (vinD (by decide)) (vp_updL (vp_updL (vp_updL (vp_updL (vp_updL (vp_updL (vp_updL (vp_updL (vp_updL (vp_updL (vp_updL (vp_updL (vp_updL (fun _ => 0) 0 0) 1 0) 2 0) 3 0) 4 0) 5 0) 6 0) 7 0) 8 0) 9 0) 10 0) 11 0) 12 0) rfl [(a0, .inr (12, [.ref a1, .ref a2, .ref a3, .ref a4, .ref a5, .int 0, .ref a6, .int 0, .int 0, .int 0, .int 0, .int 0, .int 0, .int 0, .int 0, .int 0, .int 0, .int (-1), .ref a7, .ref a8, .int 0, .ref a9, .int 0, .ref a10, .ref a11, .ref a12, .ref a13, .ref a14, .int 0, .ref a15, .ref a16, .ref a17])), (a15, .inl (cy 1, 4, .inl (upd (upd (upd (upd (upd (fun _ => 0) 0 (-1)) 1 (-1)) 2 (-1)) 3 (-1)) 0 x1))), (a16, .inl (cy 1, 4, .inl (upd (fun _ => 0) 0 x2))), (a17, .inl (cy 2, 160, .inr (.inl (vp_updL (vp_updL (vp_updL (vp_updL (vp_updL (vp_updL (vp_updL (vp_updL (vp_updL (vp_updL (vp_updL (vp_updL (vp_updL (fun _ => 0) 0 0) 1 0) 2 0) 3 0) 4 0) 5 0) 6 0) 7 0) 8 0) 9 0) 10 0) 11 0) 12 0))))] rfl dX12_tray_88 (fun H locs w => ?_)
  refine lv_iinc (v := 13) (lv' := [(4, .int 13), (0, .ref a0), (1, .int 0), (2, .int x1), (3, .int x2)]) C.1 C.2.1 dX12_tray_89 hl (k := 0) rfl (by decide) (by decide) rfl (fun ls hl => ?_)
  refine lv_goto (tgt := 69) C.1 C.2.1 dX12_tray_92 (by decide) ?_
  refine lv_iload C.1 C.2.1 dX12_tray_69 (lv_at hl 0 rfl) ?_
  refine lv_bipush (v := 40) C.1 C.2.1 dX12_tray_71 (by decide) ?_
  refine b_icmp_ge_f C (tgt := 95) dX12_tray_73 (by decide) (by decide) ?_
  refine lv_aload_n C.1 C.2.1 dX12_tray_76 rfl (lv_at hl 1 rfl) ?_
  refine r_get C w 0 rfl rfl 31 (by decide) fl_RX12_64 (v := .ref a17) rfl dX12_tray_77 ?_
  refine lv_bipush (v := 40) C.1 C.2.1 dX12_tray_80 (by decide) ?_
  refine lv_iload_n C.1 C.2.1 dX12_tray_82 rfl (lv_at hl 2 rfl) ?_
  refine r_imul C (v := 0) dX12_tray_83 (by decide) ?_
  refine lv_iload C.1 C.2.1 dX12_tray_84 (lv_at hl 0 rfl) ?_
  refine r_iadd C (v := 13) dX12_tray_86 (by decide) ?_
  refine lv_lconst (v := 0) C.1 C.2.1 dX12_tray_87 (by decide) ?_
  refine r_last C w 3 rfl (vinD (by decide)) (vp_updL (vp_updL (vp_updL (vp_updL (vp_updL (vp_updL (vp_updL (vp_updL (vp_updL (vp_updL (vp_updL (vp_updL (vp_updL (vp_updL (fun _ => 0) 0 0) 1 0) 2 0) 3 0) 4 0) 5 0) 6 0) 7 0) 8 0) 9 0) 10 0) 11 0) 12 0) 13 0) rfl [(a0, .inr (12, [.ref a1, .ref a2, .ref a3, .ref a4, .ref a5, .int 0, .ref a6, .int 0, .int 0, .int 0, .int 0, .int 0, .int 0, .int 0, .int 0, .int 0, .int 0, .int (-1), .ref a7, .ref a8, .int 0, .ref a9, .int 0, .ref a10, .ref a11, .ref a12, .ref a13, .ref a14, .int 0, .ref a15, .ref a16, .ref a17])), (a15, .inl (cy 1, 4, .inl (upd (upd (upd (upd (upd (fun _ => 0) 0 (-1)) 1 (-1)) 2 (-1)) 3 (-1)) 0 x1))), (a16, .inl (cy 1, 4, .inl (upd (fun _ => 0) 0 x2))), (a17, .inl (cy 2, 160, .inr (.inl (vp_updL (vp_updL (vp_updL (vp_updL (vp_updL (vp_updL (vp_updL (vp_updL (vp_updL (vp_updL (vp_updL (vp_updL (vp_updL (vp_updL (fun _ => 0) 0 0) 1 0) 2 0) 3 0) 4 0) 5 0) 6 0) 7 0) 8 0) 9 0) 10 0) 11 0) 12 0) 13 0))))] rfl dX12_tray_88 (fun H locs w => ?_)
  refine lv_iinc (v := 14) (lv' := [(4, .int 14), (0, .ref a0), (1, .int 0), (2, .int x1), (3, .int x2)]) C.1 C.2.1 dX12_tray_89 hl (k := 0) rfl (by decide) (by decide) rfl (fun ls hl => ?_)
  refine lv_goto (tgt := 69) C.1 C.2.1 dX12_tray_92 (by decide) ?_
  refine lv_iload C.1 C.2.1 dX12_tray_69 (lv_at hl 0 rfl) ?_
  refine lv_bipush (v := 40) C.1 C.2.1 dX12_tray_71 (by decide) ?_
  refine b_icmp_ge_f C (tgt := 95) dX12_tray_73 (by decide) (by decide) ?_
  refine lv_aload_n C.1 C.2.1 dX12_tray_76 rfl (lv_at hl 1 rfl) ?_
  refine r_get C w 0 rfl rfl 31 (by decide) fl_RX12_64 (v := .ref a17) rfl dX12_tray_77 ?_
  refine lv_bipush (v := 40) C.1 C.2.1 dX12_tray_80 (by decide) ?_
  refine lv_iload_n C.1 C.2.1 dX12_tray_82 rfl (lv_at hl 2 rfl) ?_
  refine r_imul C (v := 0) dX12_tray_83 (by decide) ?_
  refine lv_iload C.1 C.2.1 dX12_tray_84 (lv_at hl 0 rfl) ?_
  refine r_iadd C (v := 14) dX12_tray_86 (by decide) ?_
  refine lv_lconst (v := 0) C.1 C.2.1 dX12_tray_87 (by decide) ?_
  refine r_last C w 3 rfl (vinD (by decide)) (vp_updL (vp_updL (vp_updL (vp_updL (vp_updL (vp_updL (vp_updL (vp_updL (vp_updL (vp_updL (vp_updL (vp_updL (vp_updL (vp_updL (vp_updL (fun _ => 0) 0 0) 1 0) 2 0) 3 0) 4 0) 5 0) 6 0) 7 0) 8 0) 9 0) 10 0) 11 0) 12 0) 13 0) 14 0) rfl [(a0, .inr (12, [.ref a1, .ref a2, .ref a3, .ref a4, .ref a5, .int 0, .ref a6, .int 0, .int 0, .int 0, .int 0, .int 0, .int 0, .int 0, .int 0, .int 0, .int 0, .int (-1), .ref a7, .ref a8, .int 0, .ref a9, .int 0, .ref a10, .ref a11, .ref a12, .ref a13, .ref a14, .int 0, .ref a15, .ref a16, .ref a17])), (a15, .inl (cy 1, 4, .inl (upd (upd (upd (upd (upd (fun _ => 0) 0 (-1)) 1 (-1)) 2 (-1)) 3 (-1)) 0 x1))), (a16, .inl (cy 1, 4, .inl (upd (fun _ => 0) 0 x2))), (a17, .inl (cy 2, 160, .inr (.inl (vp_updL (vp_updL (vp_updL (vp_updL (vp_updL (vp_updL (vp_updL (vp_updL (vp_updL (vp_updL (vp_updL (vp_updL (vp_updL (vp_updL (vp_updL (fun _ => 0) 0 0) 1 0) 2 0) 3 0) 4 0) 5 0) 6 0) 7 0) 8 0) 9 0) 10 0) 11 0) 12 0) 13 0) 14 0))))] rfl dX12_tray_88 (fun H locs w => ?_)
  refine lv_iinc (v := 15) (lv' := [(4, .int 15), (0, .ref a0), (1, .int 0), (2, .int x1), (3, .int x2)]) C.1 C.2.1 dX12_tray_89 hl (k := 0) rfl (by decide) (by decide) rfl (fun ls hl => ?_)
  refine lv_goto (tgt := 69) C.1 C.2.1 dX12_tray_92 (by decide) ?_
  refine lv_iload C.1 C.2.1 dX12_tray_69 (lv_at hl 0 rfl) ?_
  refine lv_bipush (v := 40) C.1 C.2.1 dX12_tray_71 (by decide) ?_
  refine b_icmp_ge_f C (tgt := 95) dX12_tray_73 (by decide) (by decide) ?_
  refine lv_aload_n C.1 C.2.1 dX12_tray_76 rfl (lv_at hl 1 rfl) ?_
  refine r_get C w 0 rfl rfl 31 (by decide) fl_RX12_64 (v := .ref a17) rfl dX12_tray_77 ?_
  refine lv_bipush (v := 40) C.1 C.2.1 dX12_tray_80 (by decide) ?_
  refine lv_iload_n C.1 C.2.1 dX12_tray_82 rfl (lv_at hl 2 rfl) ?_
  refine r_imul C (v := 0) dX12_tray_83 (by decide) ?_
  refine lv_iload C.1 C.2.1 dX12_tray_84 (lv_at hl 0 rfl) ?_
  refine r_iadd C (v := 15) dX12_tray_86 (by decide) ?_
  refine lv_lconst (v := 0) C.1 C.2.1 dX12_tray_87 (by decide) ?_
  refine r_last C w 3 rfl (vinD (by decide)) (vp_updL (vp_updL (vp_updL (vp_updL (vp_updL (vp_updL (vp_updL (vp_updL (vp_updL (vp_updL (vp_updL (vp_updL (vp_updL (vp_updL (vp_updL (vp_updL (fun _ => 0) 0 0) 1 0) 2 0) 3 0) 4 0) 5 0) 6 0) 7 0) 8 0) 9 0) 10 0) 11 0) 12 0) 13 0) 14 0) 15 0) rfl [(a0, .inr (12, [.ref a1, .ref a2, .ref a3, .ref a4, .ref a5, .int 0, .ref a6, .int 0, .int 0, .int 0, .int 0, .int 0, .int 0, .int 0, .int 0, .int 0, .int 0, .int (-1), .ref a7, .ref a8, .int 0, .ref a9, .int 0, .ref a10, .ref a11, .ref a12, .ref a13, .ref a14, .int 0, .ref a15, .ref a16, .ref a17])), (a15, .inl (cy 1, 4, .inl (upd (upd (upd (upd (upd (fun _ => 0) 0 (-1)) 1 (-1)) 2 (-1)) 3 (-1)) 0 x1))), (a16, .inl (cy 1, 4, .inl (upd (fun _ => 0) 0 x2))), (a17, .inl (cy 2, 160, .inr (.inl (vp_updL (vp_updL (vp_updL (vp_updL (vp_updL (vp_updL (vp_updL (vp_updL (vp_updL (vp_updL (vp_updL (vp_updL (vp_updL (vp_updL (vp_updL (vp_updL (fun _ => 0) 0 0) 1 0) 2 0) 3 0) 4 0) 5 0) 6 0) 7 0) 8 0) 9 0) 10 0) 11 0) 12 0) 13 0) 14 0) 15 0))))] rfl dX12_tray_88 (fun H locs w => ?_)
  refine lv_iinc (v := 16) (lv' := [(4, .int 16), (0, .ref a0), (1, .int 0), (2, .int x1), (3, .int x2)]) C.1 C.2.1 dX12_tray_89 hl (k := 0) rfl (by decide) (by decide) rfl (fun ls hl => ?_)
  refine lv_goto (tgt := 69) C.1 C.2.1 dX12_tray_92 (by decide) ?_
  refine lv_iload C.1 C.2.1 dX12_tray_69 (lv_at hl 0 rfl) ?_
  refine lv_bipush (v := 40) C.1 C.2.1 dX12_tray_71 (by decide) ?_
  refine b_icmp_ge_f C (tgt := 95) dX12_tray_73 (by decide) (by decide) ?_
  refine lv_aload_n C.1 C.2.1 dX12_tray_76 rfl (lv_at hl 1 rfl) ?_
  refine r_get C w 0 rfl rfl 31 (by decide) fl_RX12_64 (v := .ref a17) rfl dX12_tray_77 ?_
  refine lv_bipush (v := 40) C.1 C.2.1 dX12_tray_80 (by decide) ?_
  refine lv_iload_n C.1 C.2.1 dX12_tray_82 rfl (lv_at hl 2 rfl) ?_
  refine r_imul C (v := 0) dX12_tray_83 (by decide) ?_
  refine lv_iload C.1 C.2.1 dX12_tray_84 (lv_at hl 0 rfl) ?_
  refine r_iadd C (v := 16) dX12_tray_86 (by decide) ?_
  refine lv_lconst (v := 0) C.1 C.2.1 dX12_tray_87 (by decide) ?_
  refine r_last C w 3 rfl (vinD (by decide)) (vp_updL (vp_updL (vp_updL (vp_updL (vp_updL (vp_updL (vp_updL (vp_updL (vp_updL (vp_updL (vp_updL (vp_updL (vp_updL (vp_updL (vp_updL (vp_updL (vp_updL (fun _ => 0) 0 0) 1 0) 2 0) 3 0) 4 0) 5 0) 6 0) 7 0) 8 0) 9 0) 10 0) 11 0) 12 0) 13 0) 14 0) 15 0) 16 0) rfl [(a0, .inr (12, [.ref a1, .ref a2, .ref a3, .ref a4, .ref a5, .int 0, .ref a6, .int 0, .int 0, .int 0, .int 0, .int 0, .int 0, .int 0, .int 0, .int 0, .int 0, .int (-1), .ref a7, .ref a8, .int 0, .ref a9, .int 0, .ref a10, .ref a11, .ref a12, .ref a13, .ref a14, .int 0, .ref a15, .ref a16, .ref a17])), (a15, .inl (cy 1, 4, .inl (upd (upd (upd (upd (upd (fun _ => 0) 0 (-1)) 1 (-1)) 2 (-1)) 3 (-1)) 0 x1))), (a16, .inl (cy 1, 4, .inl (upd (fun _ => 0) 0 x2))), (a17, .inl (cy 2, 160, .inr (.inl (vp_updL (vp_updL (vp_updL (vp_updL (vp_updL (vp_updL (vp_updL (vp_updL (vp_updL (vp_updL (vp_updL (vp_updL (vp_updL (vp_updL (vp_updL (vp_updL (vp_updL (fun _ => 0) 0 0) 1 0) 2 0) 3 0) 4 0) 5 0) 6 0) 7 0) 8 0) 9 0) 10 0) 11 0) 12 0) 13 0) 14 0) 15 0) 16 0))))] rfl dX12_tray_88 (fun H locs w => ?_)
  refine lv_iinc (v := 17) (lv' := [(4, .int 17), (0, .ref a0), (1, .int 0), (2, .int x1), (3, .int x2)]) C.1 C.2.1 dX12_tray_89 hl (k := 0) rfl (by decide) (by decide) rfl (fun ls hl => ?_)
  refine lv_goto (tgt := 69) C.1 C.2.1 dX12_tray_92 (by decide) ?_
  refine lv_iload C.1 C.2.1 dX12_tray_69 (lv_at hl 0 rfl) ?_
  refine lv_bipush (v := 40) C.1 C.2.1 dX12_tray_71 (by decide) ?_
  refine b_icmp_ge_f C (tgt := 95) dX12_tray_73 (by decide) (by decide) ?_
  refine lv_aload_n C.1 C.2.1 dX12_tray_76 rfl (lv_at hl 1 rfl) ?_
  refine r_get C w 0 rfl rfl 31 (by decide) fl_RX12_64 (v := .ref a17) rfl dX12_tray_77 ?_
  refine lv_bipush (v := 40) C.1 C.2.1 dX12_tray_80 (by decide) ?_
  refine lv_iload_n C.1 C.2.1 dX12_tray_82 rfl (lv_at hl 2 rfl) ?_
  refine r_imul C (v := 0) dX12_tray_83 (by decide) ?_
  refine lv_iload C.1 C.2.1 dX12_tray_84 (lv_at hl 0 rfl) ?_
  refine r_iadd C (v := 17) dX12_tray_86 (by decide) ?_
  refine lv_lconst (v := 0) C.1 C.2.1 dX12_tray_87 (by decide) ?_
  refine r_last C w 3 rfl (vinD (by decide)) (vp_updL (vp_updL (vp_updL (vp_updL (vp_updL (vp_updL (vp_updL (vp_updL (vp_updL (vp_updL (vp_updL (vp_updL (vp_updL (vp_updL (vp_updL (vp_updL (vp_updL (vp_updL (fun _ => 0) 0 0) 1 0) 2 0) 3 0) 4 0) 5 0) 6 0) 7 0) 8 0) 9 0) 10 0) 11 0) 12 0) 13 0) 14 0) 15 0) 16 0) 17 0) rfl [(a0, .inr (12, [.ref a1, .ref a2, .ref a3, .ref a4, .ref a5, .int 0, .ref a6, .int 0, .int 0, .int 0, .int 0, .int 0, .int 0, .int 0, .int 0, .int 0, .int 0, .int (-1), .ref a7, .ref a8, .int 0, .ref a9, .int 0, .ref a10, .ref a11, .ref a12, .ref a13, .ref a14, .int 0, .ref a15, .ref a16, .ref a17])), (a15, .inl (cy 1, 4, .inl (upd (upd (upd (upd (upd (fun _ => 0) 0 (-1)) 1 (-1)) 2 (-1)) 3 (-1)) 0 x1))), (a16, .inl (cy 1, 4, .inl (upd (fun _ => 0) 0 x2))), (a17, .inl (cy 2, 160, .inr (.inl (vp_updL (vp_updL (vp_updL (vp_updL (vp_updL (vp_updL (vp_updL (vp_updL (vp_updL (vp_updL (vp_updL (vp_updL (vp_updL (vp_updL (vp_updL (vp_updL (vp_updL (vp_updL (fun _ => 0) 0 0) 1 0) 2 0) 3 0) 4 0) 5 0) 6 0) 7 0) 8 0) 9 0) 10 0) 11 0) 12 0) 13 0) 14 0) 15 0) 16 0) 17 0))))] rfl dX12_tray_88 (fun H locs w => ?_)
  refine lv_iinc (v := 18) (lv' := [(4, .int 18), (0, .ref a0), (1, .int 0), (2, .int x1), (3, .int x2)]) C.1 C.2.1 dX12_tray_89 hl (k := 0) rfl (by decide) (by decide) rfl (fun ls hl => ?_)
  refine lv_goto (tgt := 69) C.1 C.2.1 dX12_tray_92 (by decide) ?_
  refine lv_iload C.1 C.2.1 dX12_tray_69 (lv_at hl 0 rfl) ?_
  refine lv_bipush (v := 40) C.1 C.2.1 dX12_tray_71 (by decide) ?_
  refine b_icmp_ge_f C (tgt := 95) dX12_tray_73 (by decide) (by decide) ?_
  refine lv_aload_n C.1 C.2.1 dX12_tray_76 rfl (lv_at hl 1 rfl) ?_
  refine r_get C w 0 rfl rfl 31 (by decide) fl_RX12_64 (v := .ref a17) rfl dX12_tray_77 ?_
  refine lv_bipush (v := 40) C.1 C.2.1 dX12_tray_80 (by decide) ?_
  refine lv_iload_n C.1 C.2.1 dX12_tray_82 rfl (lv_at hl 2 rfl) ?_
  refine r_imul C (v := 0) dX12_tray_83 (by decide) ?_
  refine lv_iload C.1 C.2.1 dX12_tray_84 (lv_at hl 0 rfl) ?_
  refine r_iadd C (v := 18) dX12_tray_86 (by decide) ?_
  refine lv_lconst (v := 0) C.1 C.2.1 dX12_tray_87 (by decide) ?_
  refine r_last C w 3 rfl (vinD (by decide)) (vp_updL (vp_updL (vp_updL (vp_updL (vp_updL (vp_updL (vp_updL (vp_updL (vp_updL (vp_updL (vp_updL (vp_updL (vp_updL (vp_updL (vp_updL (vp_updL (vp_updL (vp_updL (vp_updL (fun _ => 0) 0 0) 1 0) 2 0) 3 0) 4 0) 5 0) 6 0) 7 0) 8 0) 9 0) 10 0) 11 0) 12 0) 13 0) 14 0) 15 0) 16 0) 17 0) 18 0) rfl [(a0, .inr (12, [.ref a1, .ref a2, .ref a3, .ref a4, .ref a5, .int 0, .ref a6, .int 0, .int 0, .int 0, .int 0, .int 0, .int 0, .int 0, .int 0, .int 0, .int 0, .int (-1), .ref a7, .ref a8, .int 0, .ref a9, .int 0, .ref a10, .ref a11, .ref a12, .ref a13, .ref a14, .int 0, .ref a15, .ref a16, .ref a17])), (a15, .inl (cy 1, 4, .inl (upd (upd (upd (upd (upd (fun _ => 0) 0 (-1)) 1 (-1)) 2 (-1)) 3 (-1)) 0 x1))), (a16, .inl (cy 1, 4, .inl (upd (fun _ => 0) 0 x2))), (a17, .inl (cy 2, 160, .inr (.inl (vp_updL (vp_updL (vp_updL (vp_updL (vp_updL (vp_updL (vp_updL (vp_updL (vp_updL (vp_updL (vp_updL (vp_updL (vp_updL (vp_updL (vp_updL (vp_updL (vp_updL (vp_updL (vp_updL (fun _ => 0) 0 0) 1 0) 2 0) 3 0) 4 0) 5 0) 6 0) 7 0) 8 0) 9 0) 10 0) 11 0) 12 0) 13 0) 14 0) 15 0) 16 0) 17 0) 18 0))))] rfl dX12_tray_88 (fun H locs w => ?_)
  refine lv_iinc (v := 19) (lv' := [(4, .int 19), (0, .ref a0), (1, .int 0), (2, .int x1), (3, .int x2)]) C.1 C.2.1 dX12_tray_89 hl (k := 0) rfl (by decide) (by decide) rfl (fun ls hl => ?_)
  refine lv_goto (tgt := 69) C.1 C.2.1 dX12_tray_92 (by decide) ?_
  refine lv_iload C.1 C.2.1 dX12_tray_69 (lv_at hl 0 rfl) ?_
  refine lv_bipush (v := 40) C.1 C.2.1 dX12_tray_71 (by decide) ?_
  refine b_icmp_ge_f C (tgt := 95) dX12_tray_73 (by decide) (by decide) ?_
  refine lv_aload_n C.1 C.2.1 dX12_tray_76 rfl (lv_at hl 1 rfl) ?_
  refine r_get C w 0 rfl rfl 31 (by decide) fl_RX12_64 (v := .ref a17) rfl dX12_tray_77 ?_
  refine lv_bipush (v := 40) C.1 C.2.1 dX12_tray_80 (by decide) ?_
  refine lv_iload_n C.1 C.2.1 dX12_tray_82 rfl (lv_at hl 2 rfl) ?_
  refine r_imul C (v := 0) dX12_tray_83 (by decide) ?_
  refine lv_iload C.1 C.2.1 dX12_tray_84 (lv_at hl 0 rfl) ?_
  refine r_iadd C (v := 19) dX12_tray_86 (by decide) ?_
  refine lv_lconst (v := 0) C.1 C.2.1 dX12_tray_87 (by decide) ?_
  refine r_last C w 3 rfl (vinD (by decide)) (vp_updL (vp_updL (vp_updL (vp_updL (vp_updL (vp_updL (vp_updL (vp_updL (vp_updL (vp_updL (vp_updL (vp_updL (vp_updL (vp_updL (vp_updL (vp_updL (vp_updL (vp_updL (vp_updL (vp_updL (fun _ => 0) 0 0) 1 0) 2 0) 3 0) 4 0) 5 0) 6 0) 7 0) 8 0) 9 0) 10 0) 11 0) 12 0) 13 0) 14 0) 15 0) 16 0) 17 0) 18 0) 19 0) rfl [(a0, .inr (12, [.ref a1, .ref a2, .ref a3, .ref a4, .ref a5, .int 0, .ref a6, .int 0, .int 0, .int 0, .int 0, .int 0, .int 0, .int 0, .int 0, .int 0, .int 0, .int (-1), .ref a7, .ref a8, .int 0, .ref a9, .int 0, .ref a10, .ref a11, .ref a12, .ref a13, .ref a14, .int 0, .ref a15, .ref a16, .ref a17])), (a15, .inl (cy 1, 4, .inl (upd (upd (upd (upd (upd (fun _ => 0) 0 (-1)) 1 (-1)) 2 (-1)) 3 (-1)) 0 x1))), (a16, .inl (cy 1, 4, .inl (upd (fun _ => 0) 0 x2))), (a17, .inl (cy 2, 160, .inr (.inl (vp_updL (vp_updL (vp_updL (vp_updL (vp_updL (vp_updL (vp_updL (vp_updL (vp_updL (vp_updL (vp_updL (vp_updL (vp_updL (vp_updL (vp_updL (vp_updL (vp_updL (vp_updL (vp_updL (vp_updL (fun _ => 0) 0 0) 1 0) 2 0) 3 0) 4 0) 5 0) 6 0) 7 0) 8 0) 9 0) 10 0) 11 0) 12 0) 13 0) 14 0) 15 0) 16 0) 17 0) 18 0) 19 0))))] rfl dX12_tray_88 (fun H locs w => ?_)
  refine lv_iinc (v := 20) (lv' := [(4, .int 20), (0, .ref a0), (1, .int 0), (2, .int x1), (3, .int x2)]) C.1 C.2.1 dX12_tray_89 hl (k := 0) rfl (by decide) (by decide) rfl (fun ls hl => ?_)
  refine lv_goto (tgt := 69) C.1 C.2.1 dX12_tray_92 (by decide) ?_
  refine lv_iload C.1 C.2.1 dX12_tray_69 (lv_at hl 0 rfl) ?_
  refine lv_bipush (v := 40) C.1 C.2.1 dX12_tray_71 (by decide) ?_
  refine b_icmp_ge_f C (tgt := 95) dX12_tray_73 (by decide) (by decide) ?_
  refine lv_aload_n C.1 C.2.1 dX12_tray_76 rfl (lv_at hl 1 rfl) ?_
  refine r_get C w 0 rfl rfl 31 (by decide) fl_RX12_64 (v := .ref a17) rfl dX12_tray_77 ?_
  refine lv_bipush (v := 40) C.1 C.2.1 dX12_tray_80 (by decide) ?_
  refine lv_iload_n C.1 C.2.1 dX12_tray_82 rfl (lv_at hl 2 rfl) ?_
  refine r_imul C (v := 0) dX12_tray_83 (by decide) ?_
  refine lv_iload C.1 C.2.1 dX12_tray_84 (lv_at hl 0 rfl) ?_
  refine r_iadd C (v := 20) dX12_tray_86 (by decide) ?_
  refine lv_lconst (v := 0) C.1 C.2.1 dX12_tray_87 (by decide) ?_
  refine r_last C w 3 rfl (vinD (by decide)) (vp_updL (vp_updL (vp_updL (vp_updL (vp_updL (vp_updL (vp_updL (vp_updL (vp_updL (vp_updL (vp_updL (vp_updL (vp_updL (vp_updL (vp_updL (vp_updL (vp_updL (vp_updL (vp_updL (vp_updL (vp_updL (fun _ => 0) 0 0) 1 0) 2 0) 3 0) 4 0) 5 0) 6 0) 7 0) 8 0) 9 0) 10 0) 11 0) 12 0) 13 0) 14 0) 15 0) 16 0) 17 0) 18 0) 19 0) 20 0) rfl [(a0, .inr (12, [.ref a1, .ref a2, .ref a3, .ref a4, .ref a5, .int 0, .ref a6, .int 0, .int 0, .int 0, .int 0, .int 0, .int 0, .int 0, .int 0, .int 0, .int 0, .int (-1), .ref a7, .ref a8, .int 0, .ref a9, .int 0, .ref a10, .ref a11, .ref a12, .ref a13, .ref a14, .int 0, .ref a15, .ref a16, .ref a17])), (a15, .inl (cy 1, 4, .inl (upd (upd (upd (upd (upd (fun _ => 0) 0 (-1)) 1 (-1)) 2 (-1)) 3 (-1)) 0 x1))), (a16, .inl (cy 1, 4, .inl (upd (fun _ => 0) 0 x2))), (a17, .inl (cy 2, 160, .inr (.inl (vp_updL (vp_updL (vp_updL (vp_updL (vp_updL (vp_updL (vp_updL (vp_updL (vp_updL (vp_updL (vp_updL (vp_updL (vp_updL (vp_updL (vp_updL (vp_updL (vp_updL (vp_updL (vp_updL (vp_updL (vp_updL (fun _ => 0) 0 0) 1 0) 2 0) 3 0) 4 0) 5 0) 6 0) 7 0) 8 0) 9 0) 10 0) 11 0) 12 0) 13 0) 14 0) 15 0) 16 0) 17 0) 18 0) 19 0) 20 0))))] rfl dX12_tray_88 (fun H locs w => ?_)
  refine lv_iinc (v := 21) (lv' := [(4, .int 21), (0, .ref a0), (1, .int 0), (2, .int x1), (3, .int x2)]) C.1 C.2.1 dX12_tray_89 hl (k := 0) rfl (by decide) (by decide) rfl (fun ls hl => ?_)
  refine lv_goto (tgt := 69) C.1 C.2.1 dX12_tray_92 (by decide) ?_
  refine lv_iload C.1 C.2.1 dX12_tray_69 (lv_at hl 0 rfl) ?_
  refine lv_bipush (v := 40) C.1 C.2.1 dX12_tray_71 (by decide) ?_
  refine b_icmp_ge_f C (tgt := 95) dX12_tray_73 (by decide) (by decide) ?_
  refine lv_aload_n C.1 C.2.1 dX12_tray_76 rfl (lv_at hl 1 rfl) ?_
  refine r_get C w 0 rfl rfl 31 (by decide) fl_RX12_64 (v := .ref a17) rfl dX12_tray_77 ?_
  refine lv_bipush (v := 40) C.1 C.2.1 dX12_tray_80 (by decide) ?_
  refine lv_iload_n C.1 C.2.1 dX12_tray_82 rfl (lv_at hl 2 rfl) ?_
  refine r_imul C (v := 0) dX12_tray_83 (by decide) ?_
  refine lv_iload C.1 C.2.1 dX12_tray_84 (lv_at hl 0 rfl) ?_
  refine r_iadd C (v := 21) dX12_tray_86 (by decide) ?_
  refine lv_lconst (v := 0) C.1 C.2.1 dX12_tray_87 (by decide) ?_
  refine r_last C w 3 rfl (vinD (by decide)) (vp_updL (vp_updL (vp_updL (vp_updL (vp_updL (vp_updL (vp_updL (vp_updL (vp_updL (vp_updL (vp_updL (vp_updL (vp_updL (vp_updL (vp_updL (vp_updL (vp_updL (vp_updL (vp_updL (vp_updL (vp_updL (vp_updL (fun _ => 0) 0 0) 1 0) 2 0) 3 0) 4 0) 5 0) 6 0) 7 0) 8 0) 9 0) 10 0) 11 0) 12 0) 13 0) 14 0) 15 0) 16 0) 17 0) 18 0) 19 0) 20 0) 21 0) rfl [(a0, .inr (12, [.ref a1, .ref a2, .ref a3, .ref a4, .ref a5, .int 0, .ref a6, .int 0, .int 0, .int 0, .int 0, .int 0, .int 0, .int 0, .int 0, .int 0, .int 0, .int (-1), .ref a7, .ref a8, .int 0, .ref a9, .int 0, .ref a10, .ref a11, .ref a12, .ref a13, .ref a14, .int 0, .ref a15, .ref a16, .ref a17])), (a15, .inl (cy 1, 4, .inl (upd (upd (upd (upd (upd (fun _ => 0) 0 (-1)) 1 (-1)) 2 (-1)) 3 (-1)) 0 x1))), (a16, .inl (cy 1, 4, .inl (upd (fun _ => 0) 0 x2))), (a17, .inl (cy 2, 160, .inr (.inl (vp_updL (vp_updL (vp_updL (vp_updL (vp_updL (vp_updL (vp_updL (vp_updL (vp_updL (vp_updL (vp_updL (vp_updL (vp_updL (vp_updL (vp_updL (vp_updL (vp_updL (vp_updL (vp_updL (vp_updL (vp_updL (vp_updL (fun _ => 0) 0 0) 1 0) 2 0) 3 0) 4 0) 5 0) 6 0) 7 0) 8 0) 9 0) 10 0) 11 0) 12 0) 13 0) 14 0) 15 0) 16 0) 17 0) 18 0) 19 0) 20 0) 21 0))))] rfl dX12_tray_88 (fun H locs w => ?_)
  refine lv_iinc (v := 22) (lv' := [(4, .int 22), (0, .ref a0), (1, .int 0), (2, .int x1), (3, .int x2)]) C.1 C.2.1 dX12_tray_89 hl (k := 0) rfl (by decide) (by decide) rfl (fun ls hl => ?_)
  refine lv_goto (tgt := 69) C.1 C.2.1 dX12_tray_92 (by decide) ?_
  refine lv_iload C.1 C.2.1 dX12_tray_69 (lv_at hl 0 rfl) ?_
  refine lv_bipush (v := 40) C.1 C.2.1 dX12_tray_71 (by decide) ?_
  refine b_icmp_ge_f C (tgt := 95) dX12_tray_73 (by decide) (by decide) ?_
  refine lv_aload_n C.1 C.2.1 dX12_tray_76 rfl (lv_at hl 1 rfl) ?_
  refine r_get C w 0 rfl rfl 31 (by decide) fl_RX12_64 (v := .ref a17) rfl dX12_tray_77 ?_
  refine lv_bipush (v := 40) C.1 C.2.1 dX12_tray_80 (by decide) ?_
  refine lv_iload_n C.1 C.2.1 dX12_tray_82 rfl (lv_at hl 2 rfl) ?_
  refine r_imul C (v := 0) dX12_tray_83 (by decide) ?_
  refine lv_iload C.1 C.2.1 dX12_tray_84 (lv_at hl 0 rfl) ?_
  refine r_iadd C (v := 22) dX12_tray_86 (by decide) ?_
  refine lv_lconst (v := 0) C.1 C.2.1 dX12_tray_87 (by decide) ?_
  refine r_last C w 3 rfl (vinD (by decide)) (vp_updL (vp_updL (vp_updL (vp_updL (vp_updL (vp_updL (vp_updL (vp_updL (vp_updL (vp_updL (vp_updL (vp_updL (vp_updL (vp_updL (vp_updL (vp_updL (vp_updL (vp_updL (vp_updL (vp_updL (vp_updL (vp_updL (vp_updL (fun _ => 0) 0 0) 1 0) 2 0) 3 0) 4 0) 5 0) 6 0) 7 0) 8 0) 9 0) 10 0) 11 0) 12 0) 13 0) 14 0) 15 0) 16 0) 17 0) 18 0) 19 0) 20 0) 21 0) 22 0) rfl [(a0, .inr (12, [.ref a1, .ref a2, .ref a3, .ref a4, .ref a5, .int 0, .ref a6, .int 0, .int 0, .int 0, .int 0, .int 0, .int 0, .int 0, .int 0, .int 0, .int 0, .int (-1), .ref a7, .ref a8, .int 0, .ref a9, .int 0, .ref a10, .ref a11, .ref a12, .ref a13, .ref a14, .int 0, .ref a15, .ref a16, .ref a17])), (a15, .inl (cy 1, 4, .inl (upd (upd (upd (upd (upd (fun _ => 0) 0 (-1)) 1 (-1)) 2 (-1)) 3 (-1)) 0 x1))), (a16, .inl (cy 1, 4, .inl (upd (fun _ => 0) 0 x2))), (a17, .inl (cy 2, 160, .inr (.inl (vp_updL (vp_updL (vp_updL (vp_updL (vp_updL (vp_updL (vp_updL (vp_updL (vp_updL (vp_updL (vp_updL (vp_updL (vp_updL (vp_updL (vp_updL (vp_updL (vp_updL (vp_updL (vp_updL (vp_updL (vp_updL (vp_updL (vp_updL (fun _ => 0) 0 0) 1 0) 2 0) 3 0) 4 0) 5 0) 6 0) 7 0) 8 0) 9 0) 10 0) 11 0) 12 0) 13 0) 14 0) 15 0) 16 0) 17 0) 18 0) 19 0) 20 0) 21 0) 22 0))))] rfl dX12_tray_88 (fun H locs w => ?_)
  refine lv_iinc (v := 23) (lv' := [(4, .int 23), (0, .ref a0), (1, .int 0), (2, .int x1), (3, .int x2)]) C.1 C.2.1 dX12_tray_89 hl (k := 0) rfl (by decide) (by decide) rfl (fun ls hl => ?_)
  refine lv_goto (tgt := 69) C.1 C.2.1 dX12_tray_92 (by decide) ?_
  refine lv_iload C.1 C.2.1 dX12_tray_69 (lv_at hl 0 rfl) ?_
  refine lv_bipush (v := 40) C.1 C.2.1 dX12_tray_71 (by decide) ?_
  refine b_icmp_ge_f C (tgt := 95) dX12_tray_73 (by decide) (by decide) ?_
  refine lv_aload_n C.1 C.2.1 dX12_tray_76 rfl (lv_at hl 1 rfl) ?_
  refine r_get C w 0 rfl rfl 31 (by decide) fl_RX12_64 (v := .ref a17) rfl dX12_tray_77 ?_
  refine lv_bipush (v := 40) C.1 C.2.1 dX12_tray_80 (by decide) ?_
  refine lv_iload_n C.1 C.2.1 dX12_tray_82 rfl (lv_at hl 2 rfl) ?_
  refine r_imul C (v := 0) dX12_tray_83 (by decide) ?_
  refine lv_iload C.1 C.2.1 dX12_tray_84 (lv_at hl 0 rfl) ?_
  refine r_iadd C (v := 23) dX12_tray_86 (by decide) ?_
  refine lv_lconst (v := 0) C.1 C.2.1 dX12_tray_87 (by decide) ?_
  refine r_last C w 3 rfl (vinD (by decide)) (vp_updL (vp_updL (vp_updL (vp_updL (vp_updL (vp_updL (vp_updL (vp_updL (vp_updL (vp_updL (vp_updL (vp_updL (vp_updL (vp_updL (vp_updL (vp_updL (vp_updL (vp_updL (vp_updL (vp_updL (vp_updL (vp_updL (vp_updL (vp_updL (fun _ => 0) 0 0) 1 0) 2 0) 3 0) 4 0) 5 0) 6 0) 7 0) 8 0) 9 0) 10 0) 11 0) 12 0) 13 0) 14 0) 15 0) 16 0) 17 0) 18 0) 19 0) 20 0) 21 0) 22 0) 23 0) rfl [(a0, .inr (12, [.ref a1, .ref a2, .ref a3, .ref a4, .ref a5, .int 0, .ref a6, .int 0, .int 0, .int 0, .int 0, .int 0, .int 0, .int 0, .int 0, .int 0, .int 0, .int (-1), .ref a7, .ref a8, .int 0, .ref a9, .int 0, .ref a10, .ref a11, .ref a12, .ref a13, .ref a14, .int 0, .ref a15, .ref a16, .ref a17])), (a15, .inl (cy 1, 4, .inl (upd (upd (upd (upd (upd (fun _ => 0) 0 (-1)) 1 (-1)) 2 (-1)) 3 (-1)) 0 x1))), (a16, .inl (cy 1, 4, .inl (upd (fun _ => 0) 0 x2))), (a17, .inl (cy 2, 160, .inr (.inl (vp_updL (vp_updL (vp_updL (vp_updL (vp_updL (vp_updL (vp_updL (vp_updL (vp_updL (vp_updL (vp_updL (vp_updL (vp_updL (vp_updL (vp_updL (vp_updL (vp_updL (vp_updL (vp_updL (vp_updL (vp_updL (vp_updL (vp_updL (vp_updL (fun _ => 0) 0 0) 1 0) 2 0) 3 0) 4 0) 5 0) 6 0) 7 0) 8 0) 9 0) 10 0) 11 0) 12 0) 13 0) 14 0) 15 0) 16 0) 17 0) 18 0) 19 0) 20 0) 21 0) 22 0) 23 0))))] rfl dX12_tray_88 (fun H locs w => ?_)
  refine lv_iinc (v := 24) (lv' := [(4, .int 24), (0, .ref a0), (1, .int 0), (2, .int x1), (3, .int x2)]) C.1 C.2.1 dX12_tray_89 hl (k := 0) rfl (by decide) (by decide) rfl (fun ls hl => ?_)
  refine lv_goto (tgt := 69) C.1 C.2.1 dX12_tray_92 (by decide) ?_
  refine lv_iload C.1 C.2.1 dX12_tray_69 (lv_at hl 0 rfl) ?_
  refine lv_bipush (v := 40) C.1 C.2.1 dX12_tray_71 (by decide) ?_
  refine b_icmp_ge_f C (tgt := 95) dX12_tray_73 (by decide) (by decide) ?_
  refine lv_aload_n C.1 C.2.1 dX12_tray_76 rfl (lv_at hl 1 rfl) ?_
  refine r_get C w 0 rfl rfl 31 (by decide) fl_RX12_64 (v := .ref a17) rfl dX12_tray_77 ?_
  refine lv_bipush (v := 40) C.1 C.2.1 dX12_tray_80 (by decide) ?_
  refine lv_iload_n C.1 C.2.1 dX12_tray_82 rfl (lv_at hl 2 rfl) ?_
  refine r_imul C (v := 0) dX12_tray_83 (by decide) ?_
  refine lv_iload C.1 C.2.1 dX12_tray_84 (lv_at hl 0 rfl) ?_
  refine r_iadd C (v := 24) dX12_tray_86 (by decide) ?_
  refine lv_lconst (v := 0) C.1 C.2.1 dX12_tray_87 (by decide) ?_
  refine r_last C w 3 rfl (vinD (by decide)) (vp_updL (vp_updL (vp_updL (vp_updL (vp_updL (vp_updL (vp_updL (vp_updL (vp_updL (vp_updL (vp_updL (vp_updL (vp_updL (vp_updL (vp_updL (vp_updL (vp_updL (vp_updL (vp_updL (vp_updL (vp_updL (vp_updL (vp_updL (vp_updL (vp_updL (fun _ => 0) 0 0) 1 0) 2 0) 3 0) 4 0) 5 0) 6 0) 7 0) 8 0) 9 0) 10 0) 11 0) 12 0) 13 0) 14 0) 15 0) 16 0) 17 0) 18 0) 19 0) 20 0) 21 0) 22 0) 23 0) 24 0) rfl [(a0, .inr (12, [.ref a1, .ref a2, .ref a3, .ref a4, .ref a5, .int 0, .ref a6, .int 0, .int 0, .int 0, .int 0, .int 0, .int 0, .int 0, .int 0, .int 0, .int 0, .int (-1), .ref a7, .ref a8, .int 0, .ref a9, .int 0, .ref a10, .ref a11, .ref a12, .ref a13, .ref a14, .int 0, .ref a15, .ref a16, .ref a17])), (a15, .inl (cy 1, 4, .inl (upd (upd (upd (upd (upd (fun _ => 0) 0 (-1)) 1 (-1)) 2 (-1)) 3 (-1)) 0 x1))), (a16, .inl (cy 1, 4, .inl (upd (fun _ => 0) 0 x2))), (a17, .inl (cy 2, 160, .inr (.inl (vp_updL (vp_updL (vp_updL (vp_updL (vp_updL (vp_updL (vp_updL (vp_updL (vp_updL (vp_updL (vp_updL (vp_updL (vp_updL (vp_updL (vp_updL (vp_updL (vp_updL (vp_updL (vp_updL (vp_updL (vp_updL (vp_updL (vp_updL (vp_updL (vp_updL (fun _ => 0) 0 0) 1 0) 2 0) 3 0) 4 0) 5 0) 6 0) 7 0) 8 0) 9 0) 10 0) 11 0) 12 0) 13 0) 14 0) 15 0) 16 0) 17 0) 18 0) 19 0) 20 0) 21 0) 22 0) 23 0) 24 0))))] rfl dX12_tray_88 (fun H locs w => ?_)
  refine lv_iinc (v := 25) (lv' := [(4, .int 25), (0, .ref a0), (1, .int 0), (2, .int x1), (3, .int x2)]) C.1 C.2.1 dX12_tray_89 hl (k := 0) rfl (by decide) (by decide) rfl (fun ls hl => ?_)
  refine lv_goto (tgt := 69) C.1 C.2.1 dX12_tray_92 (by decide) ?_
  refine lv_iload C.1 C.2.1 dX12_tray_69 (lv_at hl 0 rfl) ?_
  refine lv_bipush (v := 40) C.1 C.2.1 dX12_tray_71 (by decide) ?_
  refine b_icmp_ge_f C (tgt := 95) dX12_tray_73 (by decide) (by decide) ?_
  refine lv_aload_n C.1 C.2.1 dX12_tray_76 rfl (lv_at hl 1 rfl) ?_
  refine r_get C w 0 rfl rfl 31 (by decide) fl_RX12_64 (v := .ref a17) rfl dX12_tray_77 ?_
  refine lv_bipush (v := 40) C.1 C.2.1 dX12_tray_80 (by decide) ?_
  refine lv_iload_n C.1 C.2.1 dX12_tray_82 rfl (lv_at hl 2 rfl) ?_
  refine r_imul C (v := 0) dX12_tray_83 (by decide) ?_
  refine lv_iload C.1 C.2.1 dX12_tray_84 (lv_at hl 0 rfl) ?_
  refine r_iadd C (v := 25) dX12_tray_86 (by decide) ?_
  refine lv_lconst (v := 0) C.1 C.2.1 dX12_tray_87 (by decide) ?_
  refine r_last C w 3 rfl (vinD (by decide)) (vp_updL (vp_updL (vp_updL (vp_updL (vp_updL (vp_updL (vp_updL (vp_updL (vp_updL (vp_updL (vp_updL (vp_updL (vp_updL (vp_updL (vp_updL (vp_updL (vp_updL (vp_updL (vp_updL (vp_updL (vp_updL (vp_updL (vp_updL (vp_updL (vp_updL (vp_updL (fun _ => 0) 0 0) 1 0) 2 0) 3 0) 4 0) 5 0) 6 0) 7 0) 8 0) 9 0) 10 0) 11 0) 12 0) 13 0) 14 0) 15 0) 16 0) 17 0) 18 0) 19 0) 20 0) 21 0) 22 0) 23 0) 24 0) 25 0) rfl [(a0, .inr (12, [.ref a1, .ref a2, .ref a3, .ref a4, .ref a5, .int 0, .ref a6, .int 0, .int 0, .int 0, .int 0, .int 0, .int 0, .int 0, .int 0, .int 0, .int 0, .int (-1), .ref a7, .ref a8, .int 0, .ref a9, .int 0, .ref a10, .ref a11, .ref a12, .ref a13, .ref a14, .int 0, .ref a15, .ref a16, .ref a17])), (a15, .inl (cy 1, 4, .inl (upd (upd (upd (upd (upd (fun _ => 0) 0 (-1)) 1 (-1)) 2 (-1)) 3 (-1)) 0 x1))), (a16, .inl (cy 1, 4, .inl (upd (fun _ => 0) 0 x2))), (a17, .inl (cy 2, 160, .inr (.inl (vp_updL (vp_updL (vp_updL (vp_updL (vp_updL (vp_updL (vp_updL (vp_updL (vp_updL (vp_updL (vp_updL (vp_updL (vp_updL (vp_updL (vp_updL (vp_updL (vp_updL (vp_updL (vp_updL (vp_updL (vp_updL (vp_updL (vp_updL (vp_updL (vp_updL (vp_updL (fun _ => 0) 0 0) 1 0) 2 0) 3 0) 4 0) 5 0) 6 0) 7 0) 8 0) 9 0) 10 0) 11 0) 12 0) 13 0) 14 0) 15 0) 16 0) 17 0) 18 0) 19 0) 20 0) 21 0) 22 0) 23 0) 24 0) 25 0))))] rfl dX12_tray_88 (fun H locs w => ?_)
  refine lv_iinc (v := 26) (lv' := [(4, .int 26), (0, .ref a0), (1, .int 0), (2, .int x1), (3, .int x2)]) C.1 C.2.1 dX12_tray_89 hl (k := 0) rfl (by decide) (by decide) rfl (fun ls hl => ?_)
  refine lv_goto (tgt := 69) C.1 C.2.1 dX12_tray_92 (by decide) ?_
  refine lv_iload C.1 C.2.1 dX12_tray_69 (lv_at hl 0 rfl) ?_
  refine lv_bipush (v := 40) C.1 C.2.1 dX12_tray_71 (by decide) ?_
  refine b_icmp_ge_f C (tgt := 95) dX12_tray_73 (by decide) (by decide) ?_
  refine lv_aload_n C.1 C.2.1 dX12_tray_76 rfl (lv_at hl 1 rfl) ?_
  refine r_get C w 0 rfl rfl 31 (by decide) fl_RX12_64 (v := .ref a17) rfl dX12_tray_77 ?_
  refine lv_bipush (v := 40) C.1 C.2.1 dX12_tray_80 (by decide) ?_
  refine lv_iload_n C.1 C.2.1 dX12_tray_82 rfl (lv_at hl 2 rfl) ?_
  refine r_imul C (v := 0) dX12_tray_83 (by decide) ?_
  refine lv_iload C.1 C.2.1 dX12_tray_84 (lv_at hl 0 rfl) ?_
  refine r_iadd C (v := 26) dX12_tray_86 (by decide) ?_
  refine lv_lconst (v := 0) C.1 C.2.1 dX12_tray_87 (by decide) ?_
  refine r_last C w 3 rfl (vinD (by decide)) (vp_updL (vp_updL (vp_updL (vp_updL (vp_updL (vp_updL (vp_updL (vp_updL (vp_updL (vp_updL (vp_updL (vp_updL (vp_updL (vp_updL (vp_updL (vp_updL (vp_updL (vp_updL (vp_updL (vp_updL (vp_updL (vp_updL (vp_updL (vp_updL (vp_updL (vp_updL (vp_updL (fun _ => 0) 0 0) 1 0) 2 0) 3 0) 4 0) 5 0) 6 0) 7 0) 8 0) 9 0) 10 0) 11 0) 12 0) 13 0) 14 0) 15 0) 16 0) 17 0) 18 0) 19 0) 20 0) 21 0) 22 0) 23 0) 24 0) 25 0) 26 0) rfl [(a0, .inr (12, [.ref a1, .ref a2, .ref a3, .ref a4, .ref a5, .int 0, .ref a6, .int 0, .int 0, .int 0, .int 0, .int 0, .int 0, .int 0, .int 0, .int 0, .int 0, .int (-1), .ref a7, .ref a8, .int 0, .ref a9, .int 0, .ref a10, .ref a11, .ref a12, .ref a13, .ref a14, .int 0, .ref a15, .ref a16, .ref a17])), (a15, .inl (cy 1, 4, .inl (upd (upd (upd (upd (upd (fun _ => 0) 0 (-1)) 1 (-1)) 2 (-1)) 3 (-1)) 0 x1))), (a16, .inl (cy 1, 4, .inl (upd (fun _ => 0) 0 x2))), (a17, .inl (cy 2, 160, .inr (.inl (vp_updL (vp_updL (vp_updL (vp_updL (vp_updL (vp_updL (vp_updL (vp_updL (vp_updL (vp_updL (vp_updL (vp_updL (vp_updL (vp_updL (vp_updL (vp_updL (vp_updL (vp_updL (vp_updL (vp_updL (vp_updL (vp_updL (vp_updL (vp_updL (vp_updL (vp_updL (vp_updL (fun _ => 0) 0 0) 1 0) 2 0) 3 0) 4 0) 5 0) 6 0) 7 0) 8 0) 9 0) 10 0) 11 0) 12 0) 13 0) 14 0) 15 0) 16 0) 17 0) 18 0) 19 0) 20 0) 21 0) 22 0) 23 0) 24 0) 25 0) 26 0))))] rfl dX12_tray_88 (fun H locs w => ?_)
  refine lv_iinc (v := 27) (lv' := [(4, .int 27), (0, .ref a0), (1, .int 0), (2, .int x1), (3, .int x2)]) C.1 C.2.1 dX12_tray_89 hl (k := 0) rfl (by decide) (by decide) rfl (fun ls hl => ?_)
  refine lv_goto (tgt := 69) C.1 C.2.1 dX12_tray_92 (by decide) ?_
  refine lv_iload C.1 C.2.1 dX12_tray_69 (lv_at hl 0 rfl) ?_
  refine lv_bipush (v := 40) C.1 C.2.1 dX12_tray_71 (by decide) ?_
  refine b_icmp_ge_f C (tgt := 95) dX12_tray_73 (by decide) (by decide) ?_
  refine lv_aload_n C.1 C.2.1 dX12_tray_76 rfl (lv_at hl 1 rfl) ?_
  refine r_get C w 0 rfl rfl 31 (by decide) fl_RX12_64 (v := .ref a17) rfl dX12_tray_77 ?_
  refine lv_bipush (v := 40) C.1 C.2.1 dX12_tray_80 (by decide) ?_
  refine lv_iload_n C.1 C.2.1 dX12_tray_82 rfl (lv_at hl 2 rfl) ?_
  refine r_imul C (v := 0) dX12_tray_83 (by decide) ?_
  refine lv_iload C.1 C.2.1 dX12_tray_84 (lv_at hl 0 rfl) ?_
  refine r_iadd C (v := 27) dX12_tray_86 (by decide) ?_
  refine lv_lconst (v := 0) C.1 C.2.1 dX12_tray_87 (by decide) ?_
  refine r_last C w 3 rfl (vinD (by decide)) (vp_updL (vp_updL (vp_updL (vp_updL (vp_updL (vp_updL (vp_updL (vp_updL (vp_updL (vp_updL (vp_updL (vp_updL (vp_updL (vp_updL (vp_updL (vp_updL (vp_updL (vp_updL (vp_updL (vp_updL (vp_updL (vp_updL (vp_updL (vp_updL (vp_updL (vp_updL (vp_updL (vp_updL (fun _ => 0) 0 0) 1 0) 2 0) 3 0) 4 0) 5 0) 6 0) 7 0) 8 0) 9 0) 10 0) 11 0) 12 0) 13 0) 14 0) 15 0) 16 0) 17 0) 18 0) 19 0) 20 0) 21 0) 22 0) 23 0) 24 0) 25 0) 26 0) 27 0) rfl [(a0, .inr (12, [.ref a1, .ref a2, .ref a3, .ref a4, .ref a5, .int 0, .ref a6, .int 0, .int 0, .int 0, .int 0, .int 0, .int 0, .int 0, .int 0, .int 0, .int 0, .int (-1), .ref a7, .ref a8, .int 0, .ref a9, .int 0, .ref a10, .ref a11, .ref a12, .ref a13, .ref a14, .int 0, .ref a15, .ref a16, .ref a17])), (a15, .inl (cy 1, 4, .inl (upd (upd (upd (upd (upd (fun _ => 0) 0 (-1)) 1 (-1)) 2 (-1)) 3 (-1)) 0 x1))), (a16, .inl (cy 1, 4, .inl (upd (fun _ => 0) 0 x2))), (a17, .inl (cy 2, 160, .inr (.inl (vp_updL (vp_updL (vp_updL (vp_updL (vp_updL (vp_updL (vp_updL (vp_updL (vp_updL (vp_updL (vp_updL (vp_updL (vp_updL (vp_updL (vp_updL (vp_updL (vp_updL (vp_updL (vp_updL (vp_updL (vp_updL (vp_updL (vp_updL (vp_updL (vp_updL (vp_updL (vp_updL (vp_updL (fun _ => 0) 0 0) 1 0) 2 0) 3 0) 4 0) 5 0) 6 0) 7 0) 8 0) 9 0) 10 0) 11 0) 12 0) 13 0) 14 0) 15 0) 16 0) 17 0) 18 0) 19 0) 20 0) 21 0) 22 0) 23 0) 24 0) 25 0) 26 0) 27 0))))] rfl dX12_tray_88 (fun H locs w => ?_)
  refine lv_iinc (v := 28) (lv' := [(4, .int 28), (0, .ref a0), (1, .int 0), (2, .int x1), (3, .int x2)]) C.1 C.2.1 dX12_tray_89 hl (k := 0) rfl (by decide) (by decide) rfl (fun ls hl => ?_)
  refine lv_goto (tgt := 69) C.1 C.2.1 dX12_tray_92 (by decide) ?_
  refine lv_iload C.1 C.2.1 dX12_tray_69 (lv_at hl 0 rfl) ?_
  refine lv_bipush (v := 40) C.1 C.2.1 dX12_tray_71 (by decide) ?_
  refine b_icmp_ge_f C (tgt := 95) dX12_tray_73 (by decide) (by decide) ?_
  refine lv_aload_n C.1 C.2.1 dX12_tray_76 rfl (lv_at hl 1 rfl) ?_
  refine r_get C w 0 rfl rfl 31 (by decide) fl_RX12_64 (v := .ref a17) rfl dX12_tray_77 ?_
  refine lv_bipush (v := 40) C.1 C.2.1 dX12_tray_80 (by decide) ?_
  refine lv_iload_n C.1 C.2.1 dX12_tray_82 rfl (lv_at hl 2 rfl) ?_
  refine r_imul C (v := 0) dX12_tray_83 (by decide) ?_
  refine lv_iload C.1 C.2.1 dX12_tray_84 (lv_at hl 0 rfl) ?_
  refine r_iadd C (v := 28) dX12_tray_86 (by decide) ?_
  refine lv_lconst (v := 0) C.1 C.2.1 dX12_tray_87 (by decide) ?_
  refine r_last C w 3 rfl (vinD (by decide)) (vp_updL (vp_updL (vp_updL (vp_updL (vp_updL (vp_updL (vp_updL (vp_updL (vp_updL (vp_updL (vp_updL (vp_updL (vp_updL (vp_updL (vp_updL (vp_updL (vp_updL (vp_updL (vp_updL (vp_updL (vp_updL (vp_updL (vp_updL (vp_updL (vp_updL (vp_updL (vp_updL (vp_updL (vp_updL (fun _ => 0) 0 0) 1 0) 2 0) 3 0) 4 0) 5 0) 6 0) 7 0) 8 0) 9 0) 10 0) 11 0) 12 0) 13 0) 14 0) 15 0) 16 0) 17 0) 18 0) 19 0) 20 0) 21 0) 22 0) 23 0) 24 0) 25 0) 26 0) 27 0) 28 0) rfl [(a0, .inr (12, [.ref a1, .ref a2, .ref a3, .ref a4, .ref a5, .int 0, .ref a6, .int 0, .int 0, .int 0, .int 0, .int 0, .int 0, .int 0, .int 0, .int 0, .int 0, .int (-1), .ref a7, .ref a8, .int 0, .ref a9, .int 0, .ref a10, .ref a11, .ref a12, .ref a13, .ref a14, .int 0, .ref a15, .ref a16, .ref a17])), (a15, .inl (cy 1, 4, .inl (upd (upd (upd (upd (upd (fun _ => 0) 0 (-1)) 1 (-1)) 2 (-1)) 3 (-1)) 0 x1))), (a16, .inl (cy 1, 4, .inl (upd (fun _ => 0) 0 x2))), (a17, .inl (cy 2, 160, .inr (.inl (vp_updL (vp_updL (vp_updL (vp_updL (vp_updL (vp_updL (vp_updL (vp_updL (vp_updL (vp_updL (vp_updL (vp_updL (vp_updL (vp_updL (vp_updL (vp_updL (vp_updL (vp_updL (vp_updL (vp_updL (vp_updL (vp_updL (vp_updL (vp_updL (vp_updL (vp_updL (vp_updL (vp_updL (vp_updL (fun _ => 0) 0 0) 1 0) 2 0) 3 0) 4 0) 5 0) 6 0) 7 0) 8 0) 9 0) 10 0) 11 0) 12 0) 13 0) 14 0) 15 0) 16 0) 17 0) 18 0) 19 0) 20 0) 21 0) 22 0) 23 0) 24 0) 25 0) 26 0) 27 0) 28 0))))] rfl dX12_tray_88 (fun H locs w => ?_)
  refine lv_iinc (v := 29) (lv' := [(4, .int 29), (0, .ref a0), (1, .int 0), (2, .int x1), (3, .int x2)]) C.1 C.2.1 dX12_tray_89 hl (k := 0) rfl (by decide) (by decide) rfl (fun ls hl => ?_)
  refine lv_goto (tgt := 69) C.1 C.2.1 dX12_tray_92 (by decide) ?_
  refine lv_iload C.1 C.2.1 dX12_tray_69 (lv_at hl 0 rfl) ?_
  refine lv_bipush (v := 40) C.1 C.2.1 dX12_tray_71 (by decide) ?_
  refine b_icmp_ge_f C (tgt := 95) dX12_tray_73 (by decide) (by decide) ?_
  refine lv_aload_n C.1 C.2.1 dX12_tray_76 rfl (lv_at hl 1 rfl) ?_
  refine r_get C w 0 rfl rfl 31 (by decide) fl_RX12_64 (v := .ref a17) rfl dX12_tray_77 ?_
  refine lv_bipush (v := 40) C.1 C.2.1 dX12_tray_80 (by decide) ?_
  refine lv_iload_n C.1 C.2.1 dX12_tray_82 rfl (lv_at hl 2 rfl) ?_
  refine r_imul C (v := 0) dX12_tray_83 (by decide) ?_
  refine lv_iload C.1 C.2.1 dX12_tray_84 (lv_at hl 0 rfl) ?_
  refine r_iadd C (v := 29) dX12_tray_86 (by decide) ?_
  refine lv_lconst (v := 0) C.1 C.2.1 dX12_tray_87 (by decide) ?_
  refine r_last C w 3 rfl (vinD (by decide)) (vp_updL (vp_updL (vp_updL (vp_updL (vp_updL (vp_updL (vp_updL (vp_updL (vp_updL (vp_updL (vp_updL (vp_updL (vp_updL (vp_updL (vp_updL (vp_updL (vp_updL (vp_updL (vp_updL (vp_updL (vp_updL (vp_updL (vp_updL (vp_updL (vp_updL (vp_updL (vp_updL (vp_updL (vp_updL (vp_updL (fun _ => 0) 0 0) 1 0) 2 0) 3 0) 4 0) 5 0) 6 0) 7 0) 8 0) 9 0) 10 0) 11 0) 12 0) 13 0) 14 0) 15 0) 16 0) 17 0) 18 0) 19 0) 20 0) 21 0) 22 0) 23 0) 24 0) 25 0) 26 0) 27 0) 28 0) 29 0) rfl [(a0, .inr (12, [.ref a1, .ref a2, .ref a3, .ref a4, .ref a5, .int 0, .ref a6, .int 0, .int 0, .int 0, .int 0, .int 0, .int 0, .int 0, .int 0, .int 0, .int 0, .int (-1), .ref a7, .ref a8, .int 0, .ref a9, .int 0, .ref a10, .ref a11, .ref a12, .ref a13, .ref a14, .int 0, .ref a15, .ref a16, .ref a17])), (a15, .inl (cy 1, 4, .inl (upd (upd (upd (upd (upd (fun _ => 0) 0 (-1)) 1 (-1)) 2 (-1)) 3 (-1)) 0 x1))), (a16, .inl (cy 1, 4, .inl (upd (fun _ => 0) 0 x2))), (a17, .inl (cy 2, 160, .inr (.inl (vp_updL (vp_updL (vp_updL (vp_updL (vp_updL (vp_updL (vp_updL (vp_updL (vp_updL (vp_updL (vp_updL (vp_updL (vp_updL (vp_updL (vp_updL (vp_updL (vp_updL (vp_updL (vp_updL (vp_updL (vp_updL (vp_updL (vp_updL (vp_updL (vp_updL (vp_updL (vp_updL (vp_updL (vp_updL (vp_updL (fun _ => 0) 0 0) 1 0) 2 0) 3 0) 4 0) 5 0) 6 0) 7 0) 8 0) 9 0) 10 0) 11 0) 12 0) 13 0) 14 0) 15 0) 16 0) 17 0) 18 0) 19 0) 20 0) 21 0) 22 0) 23 0) 24 0) 25 0) 26 0) 27 0) 28 0) 29 0))))] rfl dX12_tray_88 (fun H locs w => ?_)
  refine lv_iinc (v := 30) (lv' := [(4, .int 30), (0, .ref a0), (1, .int 0), (2, .int x1), (3, .int x2)]) C.1 C.2.1 dX12_tray_89 hl (k := 0) rfl (by decide) (by decide) rfl (fun ls hl => ?_)
  refine lv_goto (tgt := 69) C.1 C.2.1 dX12_tray_92 (by decide) ?_
  refine lv_iload C.1 C.2.1 dX12_tray_69 (lv_at hl 0 rfl) ?_
  refine lv_bipush (v := 40) C.1 C.2.1 dX12_tray_71 (by decide) ?_
  refine b_icmp_ge_f C (tgt := 95) dX12_tray_73 (by decide) (by decide) ?_
  refine lv_aload_n C.1 C.2.1 dX12_tray_76 rfl (lv_at hl 1 rfl) ?_
  refine r_get C w 0 rfl rfl 31 (by decide) fl_RX12_64 (v := .ref a17) rfl dX12_tray_77 ?_
  refine lv_bipush (v := 40) C.1 C.2.1 dX12_tray_80 (by decide) ?_
  refine lv_iload_n C.1 C.2.1 dX12_tray_82 rfl (lv_at hl 2 rfl) ?_
  refine r_imul C (v := 0) dX12_tray_83 (by decide) ?_
  refine lv_iload C.1 C.2.1 dX12_tray_84 (lv_at hl 0 rfl) ?_
  refine r_iadd C (v := 30) dX12_tray_86 (by decide) ?_
  refine lv_lconst (v := 0) C.1 C.2.1 dX12_tray_87 (by decide) ?_
  refine r_last C w 3 rfl (vinD (by decide)) (vp_updL (vp_updL (vp_updL (vp_updL (vp_updL (vp_updL (vp_updL (vp_updL (vp_updL (vp_updL (vp_updL (vp_updL (vp_updL (vp_updL (vp_updL (vp_updL (vp_updL (vp_updL (vp_updL (vp_updL (vp_updL (vp_updL (vp_updL (vp_updL (vp_updL (vp_updL (vp_updL (vp_updL (vp_updL (vp_updL (vp_updL (fun _ => 0) 0 0) 1 0) 2 0) 3 0) 4 0) 5 0) 6 0) 7 0) 8 0) 9 0) 10 0) 11 0) 12 0) 13 0) 14 0) 15 0) 16 0) 17 0) 18 0) 19 0) 20 0) 21 0) 22 0) 23 0) 24 0) 25 0) 26 0) 27 0) 28 0) 29 0) 30 0) rfl [(a0, .inr (12, [.ref a1, .ref a2, .ref a3, .ref a4, .ref a5, .int 0, .ref a6, .int 0, .int 0, .int 0, .int 0, .int 0, .int 0, .int 0, .int 0, .int 0, .int 0, .int (-1), .ref a7, .ref a8, .int 0, .ref a9, .int 0, .ref a10, .ref a11, .ref a12, .ref a13, .ref a14, .int 0, .ref a15, .ref a16, .ref a17])), (a15, .inl (cy 1, 4, .inl (upd (upd (upd (upd (upd (fun _ => 0) 0 (-1)) 1 (-1)) 2 (-1)) 3 (-1)) 0 x1))), (a16, .inl (cy 1, 4, .inl (upd (fun _ => 0) 0 x2))), (a17, .inl (cy 2, 160, .inr (.inl (vp_updL (vp_updL (vp_updL (vp_updL (vp_updL (vp_updL (vp_updL (vp_updL (vp_updL (vp_updL (vp_updL (vp_updL (vp_updL (vp_updL (vp_updL (vp_updL (vp_updL (vp_updL (vp_updL (vp_updL (vp_updL (vp_updL (vp_updL (vp_updL (vp_updL (vp_updL (vp_updL (vp_updL (vp_updL (vp_updL (vp_updL (fun _ => 0) 0 0) 1 0) 2 0) 3 0) 4 0) 5 0) 6 0) 7 0) 8 0) 9 0) 10 0) 11 0) 12 0) 13 0) 14 0) 15 0) 16 0) 17 0) 18 0) 19 0) 20 0) 21 0) 22 0) 23 0) 24 0) 25 0) 26 0) 27 0) 28 0) 29 0) 30 0))))] rfl dX12_tray_88 (fun H locs w => ?_)
  refine lv_iinc (v := 31) (lv' := [(4, .int 31), (0, .ref a0), (1, .int 0), (2, .int x1), (3, .int x2)]) C.1 C.2.1 dX12_tray_89 hl (k := 0) rfl (by decide) (by decide) rfl (fun ls hl => ?_)
  refine lv_goto (tgt := 69) C.1 C.2.1 dX12_tray_92 (by decide) ?_
  refine lv_iload C.1 C.2.1 dX12_tray_69 (lv_at hl 0 rfl) ?_
  refine lv_bipush (v := 40) C.1 C.2.1 dX12_tray_71 (by decide) ?_
  refine b_icmp_ge_f C (tgt := 95) dX12_tray_73 (by decide) (by decide) ?_
  refine lv_aload_n C.1 C.2.1 dX12_tray_76 rfl (lv_at hl 1 rfl) ?_
  refine r_get C w 0 rfl rfl 31 (by decide) fl_RX12_64 (v := .ref a17) rfl dX12_tray_77 ?_
  refine lv_bipush (v := 40) C.1 C.2.1 dX12_tray_80 (by decide) ?_
  refine lv_iload_n C.1 C.2.1 dX12_tray_82 rfl (lv_at hl 2 rfl) ?_
  refine r_imul C (v := 0) dX12_tray_83 (by decide) ?_
  refine lv_iload C.1 C.2.1 dX12_tray_84 (lv_at hl 0 rfl) ?_
  refine r_iadd C (v := 31) dX12_tray_86 (by decide) ?_
  refine lv_lconst (v := 0) C.1 C.2.1 dX12_tray_87 (by decide) ?_
  refine r_last C w 3 rfl (vinD (by decide)) (vp_updL (vp_updL (vp_updL (vp_updL (vp_updL (vp_updL (vp_updL (vp_updL (vp_updL (vp_updL (vp_updL (vp_updL (vp_updL (vp_updL (vp_updL (vp_updL (vp_updL (vp_updL (vp_updL (vp_updL (vp_updL (vp_updL (vp_updL (vp_updL (vp_updL (vp_updL (vp_updL (vp_updL (vp_updL (vp_updL (vp_updL (vp_updL (fun _ => 0) 0 0) 1 0) 2 0) 3 0) 4 0) 5 0) 6 0) 7 0) 8 0) 9 0) 10 0) 11 0) 12 0) 13 0) 14 0) 15 0) 16 0) 17 0) 18 0) 19 0) 20 0) 21 0) 22 0) 23 0) 24 0) 25 0) 26 0) 27 0) 28 0) 29 0) 30 0) 31 0) rfl [(a0, .inr (12, [.ref a1, .ref a2, .ref a3, .ref a4, .ref a5, .int 0, .ref a6, .int 0, .int 0, .int 0, .int 0, .int 0, .int 0, .int 0, .int 0, .int 0, .int 0, .int (-1), .ref a7, .ref a8, .int 0, .ref a9, .int 0, .ref a10, .ref a11, .ref a12, .ref a13, .ref a14, .int 0, .ref a15, .ref a16, .ref a17])), (a15, .inl (cy 1, 4, .inl (upd (upd (upd (upd (upd (fun _ => 0) 0 (-1)) 1 (-1)) 2 (-1)) 3 (-1)) 0 x1))), (a16, .inl (cy 1, 4, .inl (upd (fun _ => 0) 0 x2))), (a17, .inl (cy 2, 160, .inr (.inl (vp_updL (vp_updL (vp_updL (vp_updL (vp_updL (vp_updL (vp_updL (vp_updL (vp_updL (vp_updL (vp_updL (vp_updL (vp_updL (vp_updL (vp_updL (vp_updL (vp_updL (vp_updL (vp_updL (vp_updL (vp_updL (vp_updL (vp_updL (vp_updL (vp_updL (vp_updL (vp_updL (vp_updL (vp_updL (vp_updL (vp_updL (vp_updL (fun _ => 0) 0 0) 1 0) 2 0) 3 0) 4 0) 5 0) 6 0) 7 0) 8 0) 9 0) 10 0) 11 0) 12 0) 13 0) 14 0) 15 0) 16 0) 17 0) 18 0) 19 0) 20 0) 21 0) 22 0) 23 0) 24 0) 25 0) 26 0) 27 0) 28 0) 29 0) 30 0) 31 0))))] rfl dX12_tray_88 (fun H locs w => ?_)
  refine lv_iinc (v := 32) (lv' := [(4, .int 32), (0, .ref a0), (1, .int 0), (2, .int x1), (3, .int x2)]) C.1 C.2.1 dX12_tray_89 hl (k := 0) rfl (by decide) (by decide) rfl (fun ls hl => ?_)
  refine lv_goto (tgt := 69) C.1 C.2.1 dX12_tray_92 (by decide) ?_
  refine lv_iload C.1 C.2.1 dX12_tray_69 (lv_at hl 0 rfl) ?_
  refine lv_bipush (v := 40) C.1 C.2.1 dX12_tray_71 (by decide) ?_
  refine b_icmp_ge_f C (tgt := 95) dX12_tray_73 (by decide) (by decide) ?_
  refine lv_aload_n C.1 C.2.1 dX12_tray_76 rfl (lv_at hl 1 rfl) ?_
  refine r_get C w 0 rfl rfl 31 (by decide) fl_RX12_64 (v := .ref a17) rfl dX12_tray_77 ?_
  refine lv_bipush (v := 40) C.1 C.2.1 dX12_tray_80 (by decide) ?_
  refine lv_iload_n C.1 C.2.1 dX12_tray_82 rfl (lv_at hl 2 rfl) ?_
  refine r_imul C (v := 0) dX12_tray_83 (by decide) ?_
  refine lv_iload C.1 C.2.1 dX12_tray_84 (lv_at hl 0 rfl) ?_
  refine r_iadd C (v := 32) dX12_tray_86 (by decide) ?_
  refine lv_lconst (v := 0) C.1 C.2.1 dX12_tray_87 (by decide) ?_
  refine r_last C w 3 rfl (vinD (by decide)) (vp_updL (vp_updL (vp_updL (vp_updL (vp_updL (vp_updL (vp_updL (vp_updL (vp_updL (vp_updL (vp_updL (vp_updL (vp_updL (vp_updL (vp_updL (vp_updL (vp_updL (vp_updL (vp_updL (vp_updL (vp_updL (vp_updL (vp_updL (vp_updL (vp_updL (vp_updL (vp_updL (vp_updL (vp_updL (vp_updL (vp_updL (vp_updL (vp_updL (fun _ => 0) 0 0) 1 0) 2 0) 3 0) 4 0) 5 0) 6 0) 7 0) 8 0) 9 0) 10 0) 11 0) 12 0) 13 0) 14 0) 15 0) 16 0) 17 0) 18 0) 19 0) 20 0) 21 0) 22 0) 23 0) 24 0) 25 0) 26 0) 27 0) 28 0) 29 0) 30 0) 31 0) 32 0) rfl [(a0, .inr (12, [.ref a1, .ref a2, .ref a3, .ref a4, .ref a5, .int 0, .ref a6, .int 0, .int 0, .int 0, .int 0, .int 0, .int 0, .int 0, .int 0, .int 0, .int 0, .int (-1), .ref a7, .ref a8, .int 0, .ref a9, .int 0, .ref a10, .ref a11, .ref a12, .ref a13, .ref a14, .int 0, .ref a15, .ref a16, .ref a17])), (a15, .inl (cy 1, 4, .inl (upd (upd (upd (upd (upd (fun _ => 0) 0 (-1)) 1 (-1)) 2 (-1)) 3 (-1)) 0 x1))), (a16, .inl (cy 1, 4, .inl (upd (fun _ => 0) 0 x2))), (a17, .inl (cy 2, 160, .inr (.inl (vp_updL (vp_updL (vp_updL (vp_updL (vp_updL (vp_updL (vp_updL (vp_updL (vp_updL (vp_updL (vp_updL (vp_updL (vp_updL (vp_updL (vp_updL (vp_updL (vp_updL (vp_updL (vp_updL (vp_updL (vp_updL (vp_updL (vp_updL (vp_updL (vp_updL (vp_updL (vp_updL (vp_updL (vp_updL (vp_updL (vp_updL (vp_updL (vp_updL (fun _ => 0) 0 0) 1 0) 2 0) 3 0) 4 0) 5 0) 6 0) 7 0) 8 0) 9 0) 10 0) 11 0) 12 0) 13 0) 14 0) 15 0) 16 0) 17 0) 18 0) 19 0) 20 0) 21 0) 22 0) 23 0) 24 0) 25 0) 26 0) 27 0) 28 0) 29 0) 30 0) 31 0) 32 0))))] rfl dX12_tray_88 (fun H locs w => ?_)
  refine lv_iinc (v := 33) (lv' := [(4, .int 33), (0, .ref a0), (1, .int 0), (2, .int x1), (3, .int x2)]) C.1 C.2.1 dX12_tray_89 hl (k := 0) rfl (by decide) (by decide) rfl (fun ls hl => ?_)
  refine lv_goto (tgt := 69) C.1 C.2.1 dX12_tray_92 (by decide) ?_
  refine lv_iload C.1 C.2.1 dX12_tray_69 (lv_at hl 0 rfl) ?_
  refine lv_bipush (v := 40) C.1 C.2.1 dX12_tray_71 (by decide) ?_
  refine b_icmp_ge_f C (tgt := 95) dX12_tray_73 (by decide) (by decide) ?_
  refine lv_aload_n C.1 C.2.1 dX12_tray_76 rfl (lv_at hl 1 rfl) ?_
  refine r_get C w 0 rfl rfl 31 (by decide) fl_RX12_64 (v := .ref a17) rfl dX12_tray_77 ?_
  refine lv_bipush (v := 40) C.1 C.2.1 dX12_tray_80 (by decide) ?_
  refine lv_iload_n C.1 C.2.1 dX12_tray_82 rfl (lv_at hl 2 rfl) ?_
  refine r_imul C (v := 0) dX12_tray_83 (by decide) ?_
  refine lv_iload C.1 C.2.1 dX12_tray_84 (lv_at hl 0 rfl) ?_
  refine r_iadd C (v := 33) dX12_tray_86 (by decide) ?_
  refine lv_lconst (v := 0) C.1 C.2.1 dX12_tray_87 (by decide) ?_
  refine r_last C w 3 rfl (vinD (by decide)) (vp_updL (vp_updL (vp_updL (vp_updL (vp_updL (vp_updL (vp_updL (vp_updL (vp_updL (vp_updL (vp_updL (vp_updL (vp_updL (vp_updL (vp_updL (vp_updL (vp_updL (vp_updL (vp_updL (vp_updL (vp_updL (vp_updL (vp_updL (vp_updL (vp_updL (vp_updL (vp_updL (vp_updL (vp_updL (vp_updL (vp_updL (vp_updL (vp_updL (vp_updL (fun _ => 0) 0 0) 1 0) 2 0) 3 0) 4 0) 5 0) 6 0) 7 0) 8 0) 9 0) 10 0) 11 0) 12 0) 13 0) 14 0) 15 0) 16 0) 17 0) 18 0) 19 0) 20 0) 21 0) 22 0) 23 0) 24 0) 25 0) 26 0) 27 0) 28 0) 29 0) 30 0) 31 0) 32 0) 33 0) rfl [(a0, .inr (12, [.ref a1, .ref a2, .ref a3, .ref a4, .ref a5, .int 0, .ref a6, .int 0, .int 0, .int 0, .int 0, .int 0, .int 0, .int 0, .int 0, .int 0, .int 0, .int (-1), .ref a7, .ref a8, .int 0, .ref a9, .int 0, .ref a10, .ref a11, .ref a12, .ref a13, .ref a14, .int 0, .ref a15, .ref a16, .ref a17])), (a15, .inl (cy 1, 4, .inl (upd (upd (upd (upd (upd (fun _ => 0) 0 (-1)) 1 (-1)) 2 (-1)) 3 (-1)) 0 x1))), (a16, .inl (cy 1, 4, .inl (upd (fun _ => 0) 0 x2))), (a17, .inl (cy 2, 160, .inr (.inl (vp_updL (vp_updL (vp_updL (vp_updL (vp_updL (vp_updL (vp_updL (vp_updL (vp_updL (vp_updL (vp_updL (vp_updL (vp_updL (vp_updL (vp_updL (vp_updL (vp_updL (vp_updL (vp_updL (vp_updL (vp_updL (vp_updL (vp_updL (vp_updL (vp_updL (vp_updL (vp_updL (vp_updL (vp_updL (vp_updL (vp_updL (vp_updL (vp_updL (vp_updL (fun _ => 0) 0 0) 1 0) 2 0) 3 0) 4 0) 5 0) 6 0) 7 0) 8 0) 9 0) 10 0) 11 0) 12 0) 13 0) 14 0) 15 0) 16 0) 17 0) 18 0) 19 0) 20 0) 21 0) 22 0) 23 0) 24 0) 25 0) 26 0) 27 0) 28 0) 29 0) 30 0) 31 0) 32 0) 33 0))))] rfl dX12_tray_88 (fun H locs w => ?_)
  refine lv_iinc (v := 34) (lv' := [(4, .int 34), (0, .ref a0), (1, .int 0), (2, .int x1), (3, .int x2)]) C.1 C.2.1 dX12_tray_89 hl (k := 0) rfl (by decide) (by decide) rfl (fun ls hl => ?_)
  refine lv_goto (tgt := 69) C.1 C.2.1 dX12_tray_92 (by decide) ?_
  refine lv_iload C.1 C.2.1 dX12_tray_69 (lv_at hl 0 rfl) ?_
  refine lv_bipush (v := 40) C.1 C.2.1 dX12_tray_71 (by decide) ?_
  refine b_icmp_ge_f C (tgt := 95) dX12_tray_73 (by decide) (by decide) ?_
  refine lv_aload_n C.1 C.2.1 dX12_tray_76 rfl (lv_at hl 1 rfl) ?_
  refine r_get C w 0 rfl rfl 31 (by decide) fl_RX12_64 (v := .ref a17) rfl dX12_tray_77 ?_
  refine lv_bipush (v := 40) C.1 C.2.1 dX12_tray_80 (by decide) ?_
  refine lv_iload_n C.1 C.2.1 dX12_tray_82 rfl (lv_at hl 2 rfl) ?_
  refine r_imul C (v := 0) dX12_tray_83 (by decide) ?_
  refine lv_iload C.1 C.2.1 dX12_tray_84 (lv_at hl 0 rfl) ?_
  refine r_iadd C (v := 34) dX12_tray_86 (by decide) ?_
  refine lv_lconst (v := 0) C.1 C.2.1 dX12_tray_87 (by decide) ?_
  refine r_last C w 3 rfl (vinD (by decide)) (vp_updL (vp_updL (vp_updL (vp_updL (vp_updL (vp_updL (vp_updL (vp_updL (vp_updL (vp_updL (vp_updL (vp_updL (vp_updL (vp_updL (vp_updL (vp_updL (vp_updL (vp_updL (vp_updL (vp_updL (vp_updL (vp_updL (vp_updL (vp_updL (vp_updL (vp_updL (vp_updL (vp_updL (vp_updL (vp_updL (vp_updL (vp_updL (vp_updL (vp_updL (vp_updL (fun _ => 0) 0 0) 1 0) 2 0) 3 0) 4 0) 5 0) 6 0) 7 0) 8 0) 9 0) 10 0) 11 0) 12 0) 13 0) 14 0) 15 0) 16 0) 17 0) 18 0) 19 0) 20 0) 21 0) 22 0) 23 0) 24 0) 25 0) 26 0) 27 0) 28 0) 29 0) 30 0) 31 0) 32 0) 33 0) 34 0) rfl [(a0, .inr (12, [.ref a1, .ref a2, .ref a3, .ref a4, .ref a5, .int 0, .ref a6, .int 0, .int 0, .int 0, .int 0, .int 0, .int 0, .int 0, .int 0, .int 0, .int 0, .int (-1), .ref a7, .ref a8, .int 0, .ref a9, .int 0, .ref a10, .ref a11, .ref a12, .ref a13, .ref a14, .int 0, .ref a15, .ref a16, .ref a17])), (a15, .inl (cy 1, 4, .inl (upd (upd (upd (upd (upd (fun _ => 0) 0 (-1)) 1 (-1)) 2 (-1)) 3 (-1)) 0 x1))), (a16, .inl (cy 1, 4, .inl (upd (fun _ => 0) 0 x2))), (a17, .inl (cy 2, 160, .inr (.inl (vp_updL (vp_updL (vp_updL (vp_updL (vp_updL (vp_updL (vp_updL (vp_updL (vp_updL (vp_updL (vp_updL (vp_updL (vp_updL (vp_updL (vp_updL (vp_updL (vp_updL (vp_updL (vp_updL (vp_updL (vp_updL (vp_updL (vp_updL (vp_updL (vp_updL (vp_updL (vp_updL (vp_updL (vp_updL (vp_updL (vp_updL (vp_updL (vp_updL (vp_updL (vp_updL (fun _ => 0) 0 0) 1 0) 2 0) 3 0) 4 0) 5 0) 6 0) 7 0) 8 0) 9 0) 10 0) 11 0) 12 0) 13 0) 14 0) 15 0) 16 0) 17 0) 18 0) 19 0) 20 0) 21 0) 22 0) 23 0) 24 0) 25 0) 26 0) 27 0) 28 0) 29 0) 30 0) 31 0) 32 0) 33 0) 34 0))))] rfl dX12_tray_88 (fun H locs w => ?_)
  refine lv_iinc (v := 35) (lv' := [(4, .int 35), (0, .ref a0), (1, .int 0), (2, .int x1), (3, .int x2)]) C.1 C.2.1 dX12_tray_89 hl (k := 0) rfl (by decide) (by decide) rfl (fun ls hl => ?_)
  refine lv_goto (tgt := 69) C.1 C.2.1 dX12_tray_92 (by decide) ?_
  refine lv_iload C.1 C.2.1 dX12_tray_69 (lv_at hl 0 rfl) ?_
  refine lv_bipush (v := 40) C.1 C.2.1 dX12_tray_71 (by decide) ?_
  refine b_icmp_ge_f C (tgt := 95) dX12_tray_73 (by decide) (by decide) ?_
  refine lv_aload_n C.1 C.2.1 dX12_tray_76 rfl (lv_at hl 1 rfl) ?_
  refine r_get C w 0 rfl rfl 31 (by decide) fl_RX12_64 (v := .ref a17) rfl dX12_tray_77 ?_
  refine lv_bipush (v := 40) C.1 C.2.1 dX12_tray_80 (by decide) ?_
  refine lv_iload_n C.1 C.2.1 dX12_tray_82 rfl (lv_at hl 2 rfl) ?_
  refine r_imul C (v := 0) dX12_tray_83 (by decide) ?_
  refine lv_iload C.1 C.2.1 dX12_tray_84 (lv_at hl 0 rfl) ?_
  refine r_iadd C (v := 35) dX12_tray_86 (by decide) ?_
  refine lv_lconst (v := 0) C.1 C.2.1 dX12_tray_87 (by decide) ?_
  refine r_last C w 3 rfl (vinD (by decide)) (vp_updL (vp_updL (vp_updL (vp_updL (vp_updL (vp_updL (vp_updL (vp_updL (vp_updL (vp_updL (vp_updL (vp_updL (vp_updL (vp_updL (vp_updL (vp_updL (vp_updL (vp_updL (vp_updL (vp_updL (vp_updL (vp_updL (vp_updL (vp_updL (vp_updL (vp_updL (vp_updL (vp_updL (vp_updL (vp_updL (vp_updL (vp_updL (vp_updL (vp_updL (vp_updL (vp_updL (fun _ => 0) 0 0) 1 0) 2 0) 3 0) 4 0) 5 0) 6 0) 7 0) 8 0) 9 0) 10 0) 11 0) 12 0) 13 0) 14 0) 15 0) 16 0) 17 0) 18 0) 19 0) 20 0) 21 0) 22 0) 23 0) 24 0) 25 0) 26 0) 27 0) 28 0) 29 0) 30 0) 31 0) 32 0) 33 0) 34 0) 35 0) rfl [(a0, .inr (12, [.ref a1, .ref a2, .ref a3, .ref a4, .ref a5, .int 0, .ref a6, .int 0, .int 0, .int 0, .int 0, .int 0, .int 0, .int 0, .int 0, .int 0, .int 0, .int (-1), .ref a7, .ref a8, .int 0, .ref a9, .int 0, .ref a10, .ref a11, .ref a12, .ref a13, .ref a14, .int 0, .ref a15, .ref a16, .ref a17])), (a15, .inl (cy 1, 4, .inl (upd (upd (upd (upd (upd (fun _ => 0) 0 (-1)) 1 (-1)) 2 (-1)) 3 (-1)) 0 x1))), (a16, .inl (cy 1, 4, .inl (upd (fun _ => 0) 0 x2))), (a17, .inl (cy 2, 160, .inr (.inl (vp_updL (vp_updL (vp_updL (vp_updL (vp_updL (vp_updL (vp_updL (vp_updL (vp_updL (vp_updL (vp_updL (vp_updL (vp_updL (vp_updL (vp_updL (vp_updL (vp_updL (vp_updL (vp_updL (vp_updL (vp_updL (vp_updL (vp_updL (vp_updL (vp_updL (vp_updL (vp_updL (vp_updL (vp_updL (vp_updL (vp_updL (vp_updL (vp_updL (vp_updL (vp_updL (vp_updL (fun _ => 0) 0 0) 1 0) 2 0) 3 0) 4 0) 5 0) 6 0) 7 0) 8 0) 9 0) 10 0) 11 0) 12 0) 13 0) 14 0) 15 0) 16 0) 17 0) 18 0) 19 0) 20 0) 21 0) 22 0) 23 0) 24 0) 25 0) 26 0) 27 0) 28 0) 29 0) 30 0) 31 0) 32 0) 33 0) 34 0) 35 0))))] rfl dX12_tray_88 (fun H locs w => ?_)
  refine lv_iinc (v := 36) (lv' := [(4, .int 36), (0, .ref a0), (1, .int 0), (2, .int x1), (3, .int x2)]) C.1 C.2.1 dX12_tray_89 hl (k := 0) rfl (by decide) (by decide) rfl (fun ls hl => ?_)
  refine lv_goto (tgt := 69) C.1 C.2.1 dX12_tray_92 (by decide) ?_
  refine lv_iload C.1 C.2.1 dX12_tray_69 (lv_at hl 0 rfl) ?_
  refine lv_bipush (v := 40) C.1 C.2.1 dX12_tray_71 (by decide) ?_
  refine b_icmp_ge_f C (tgt := 95) dX12_tray_73 (by decide) (by decide) ?_
  refine lv_aload_n C.1 C.2.1 dX12_tray_76 rfl (lv_at hl 1 rfl) ?_
  refine r_get C w 0 rfl rfl 31 (by decide) fl_RX12_64 (v := .ref a17) rfl dX12_tray_77 ?_
  refine lv_bipush (v := 40) C.1 C.2.1 dX12_tray_80 (by decide) ?_
  refine lv_iload_n C.1 C.2.1 dX12_tray_82 rfl (lv_at hl 2 rfl) ?_
  refine r_imul C (v := 0) dX12_tray_83 (by decide) ?_
  refine lv_iload C.1 C.2.1 dX12_tray_84 (lv_at hl 0 rfl) ?_
  refine r_iadd C (v := 36) dX12_tray_86 (by decide) ?_
  refine lv_lconst (v := 0) C.1 C.2.1 dX12_tray_87 (by decide) ?_
  refine r_last C w 3 rfl (vinD (by decide)) (vp_updL (vp_updL (vp_updL (vp_updL (vp_updL (vp_updL (vp_updL (vp_updL (vp_updL (vp_updL (vp_updL (vp_updL (vp_updL (vp_updL (vp_updL (vp_updL (vp_updL (vp_updL (vp_updL (vp_updL (vp_updL (vp_updL (vp_updL (vp_updL (vp_updL (vp_updL (vp_updL (vp_updL (vp_updL (vp_updL (vp_updL (vp_updL (vp_updL (vp_updL (vp_updL (vp_updL (vp_updL (fun _ => 0) 0 0) 1 0) 2 0) 3 0) 4 0) 5 0) 6 0) 7 0) 8 0) 9 0) 10 0) 11 0) 12 0) 13 0) 14 0) 15 0) 16 0) 17 0) 18 0) 19 0) 20 0) 21 0) 22 0) 23 0) 24 0) 25 0) 26 0) 27 0) 28 0) 29 0) 30 0) 31 0) 32 0) 33 0) 34 0) 35 0) 36 0) rfl [(a0, .inr (12, [.ref a1, .ref a2, .ref a3, .ref a4, .ref a5, .int 0, .ref a6, .int 0, .int 0, .int 0, .int 0, .int 0, .int 0, .int 0, .int 0, .int 0, .int 0, .int (-1), .ref a7, .ref a8, .int 0, .ref a9, .int 0, .ref a10, .ref a11, .ref a12, .ref a13, .ref a14, .int 0, .ref a15, .ref a16, .ref a17])), (a15, .inl (cy 1, 4, .inl (upd (upd (upd (upd (upd (fun _ => 0) 0 (-1)) 1 (-1)) 2 (-1)) 3 (-1)) 0 x1))), (a16, .inl (cy 1, 4, .inl (upd (fun _ => 0) 0 x2))), (a17, .inl (cy 2, 160, .inr (.inl (vp_updL (vp_updL (vp_updL (vp_updL (vp_updL (vp_updL (vp_updL (vp_updL (vp_updL (vp_updL (vp_updL (vp_updL (vp_updL (vp_updL (vp_updL (vp_updL (vp_updL (vp_updL (vp_updL (vp_updL (vp_updL (vp_updL (vp_updL (vp_updL (vp_updL (vp_updL (vp_updL (vp_updL (vp_updL (vp_updL (vp_updL (vp_updL (vp_updL (vp_updL (vp_updL (vp_updL (vp_updL (fun _ => 0) 0 0) 1 0) 2 0) 3 0) 4 0) 5 0) 6 0) 7 0) 8 0) 9 0) 10 0) 11 0) 12 0) 13 0) 14 0) 15 0) 16 0) 17 0) 18 0) 19 0) 20 0) 21 0) 22 0) 23 0) 24 0) 25 0) 26 0) 27 0) 28 0) 29 0) 30 0) 31 0) 32 0) 33 0) 34 0) 35 0) 36 0))))] rfl dX12_tray_88 (fun H locs w => ?_)
  refine lv_iinc (v := 37) (lv' := [(4, .int 37), (0, .ref a0), (1, .int 0), (2, .int x1), (3, .int x2)]) C.1 C.2.1 dX12_tray_89 hl (k := 0) rfl (by decide) (by decide) rfl (fun ls hl => ?_)
  refine lv_goto (tgt := 69) C.1 C.2.1 dX12_tray_92 (by decide) ?_
  refine lv_iload C.1 C.2.1 dX12_tray_69 (lv_at hl 0 rfl) ?_
  refine lv_bipush (v := 40) C.1 C.2.1 dX12_tray_71 (by decide) ?_
  refine b_icmp_ge_f C (tgt := 95) dX12_tray_73 (by decide) (by decide) ?_
  refine lv_aload_n C.1 C.2.1 dX12_tray_76 rfl (lv_at hl 1 rfl) ?_
  refine r_get C w 0 rfl rfl 31 (by decide) fl_RX12_64 (v := .ref a17) rfl dX12_tray_77 ?_
  refine lv_bipush (v := 40) C.1 C.2.1 dX12_tray_80 (by decide) ?_
  refine lv_iload_n C.1 C.2.1 dX12_tray_82 rfl (lv_at hl 2 rfl) ?_
  refine r_imul C (v := 0) dX12_tray_83 (by decide) ?_
  refine lv_iload C.1 C.2.1 dX12_tray_84 (lv_at hl 0 rfl) ?_
  refine r_iadd C (v := 37) dX12_tray_86 (by decide) ?_
  refine lv_lconst (v := 0) C.1 C.2.1 dX12_tray_87 (by decide) ?_
  refine r_last C w 3 rfl (vinD (by decide)) (vp_updL (vp_updL (vp_updL (vp_updL (vp_updL (vp_updL (vp_updL (vp_updL (vp_updL (vp_updL (vp_updL (vp_updL (vp_updL (vp_updL (vp_updL (vp_updL (vp_updL (vp_updL (vp_updL (vp_updL (vp_updL (vp_updL (vp_updL (vp_updL (vp_updL (vp_updL (vp_updL (vp_updL (vp_updL (vp_updL (vp_updL (vp_updL (vp_updL (vp_updL (vp_updL (vp_updL (vp_updL (vp_updL (fun _ => 0) 0 0) 1 0) 2 0) 3 0) 4 0) 5 0) 6 0) 7 0) 8 0) 9 0) 10 0) 11 0) 12 0) 13 0) 14 0) 15 0) 16 0) 17 0) 18 0) 19 0) 20 0) 21 0) 22 0) 23 0) 24 0) 25 0) 26 0) 27 0) 28 0) 29 0) 30 0) 31 0) 32 0) 33 0) 34 0) 35 0) 36 0) 37 0) rfl [(a0, .inr (12, [.ref a1, .ref a2, .ref a3, .ref a4, .ref a5, .int 0, .ref a6, .int 0, .int 0, .int 0, .int 0, .int 0, .int 0, .int 0, .int 0, .int 0, .int 0, .int (-1), .ref a7, .ref a8, .int 0, .ref a9, .int 0, .ref a10, .ref a11, .ref a12, .ref a13, .ref a14, .int 0, .ref a15, .ref a16, .ref a17])), (a15, .inl (cy 1, 4, .inl (upd (upd (upd (upd (upd (fun _ => 0) 0 (-1)) 1 (-1)) 2 (-1)) 3 (-1)) 0 x1))), (a16, .inl (cy 1, 4, .inl (upd (fun _ => 0) 0 x2))), (a17, .inl (cy 2, 160, .inr (.inl (vp_updL (vp_updL (vp_updL (vp_updL (vp_updL (vp_updL (vp_updL (vp_updL (vp_updL (vp_updL (vp_updL (vp_updL (vp_updL (vp_updL (vp_updL (vp_updL (vp_updL (vp_updL (vp_updL (vp_updL (vp_updL (vp_updL (vp_updL (vp_updL (vp_updL (vp_updL (vp_updL (vp_updL (vp_updL (vp_updL (vp_updL (vp_updL (vp_updL (vp_updL (vp_updL (vp_updL (vp_updL (vp_updL (fun _ => 0) 0 0) 1 0) 2 0) 3 0) 4 0) 5 0) 6 0) 7 0) 8 0) 9 0) 10 0) 11 0) 12 0) 13 0) 14 0) 15 0) 16 0) 17 0) 18 0) 19 0) 20 0) 21 0) 22 0) 23 0) 24 0) 25 0) 26 0) 27 0) 28 0) 29 0) 30 0) 31 0) 32 0) 33 0) 34 0) 35 0) 36 0) 37 0))))] rfl dX12_tray_88 (fun H locs w => ?_)
  refine lv_iinc (v := 38) (lv' := [(4, .int 38), (0, .ref a0), (1, .int 0), (2, .int x1), (3, .int x2)]) C.1 C.2.1 dX12_tray_89 hl (k := 0) rfl (by decide) (by decide) rfl (fun ls hl => ?_)
  refine lv_goto (tgt := 69) C.1 C.2.1 dX12_tray_92 (by decide) ?_
  refine lv_iload C.1 C.2.1 dX12_tray_69 (lv_at hl 0 rfl) ?_
  refine lv_bipush (v := 40) C.1 C.2.1 dX12_tray_71 (by decide) ?_
  refine b_icmp_ge_f C (tgt := 95) dX12_tray_73 (by decide) (by decide) ?_
  refine lv_aload_n C.1 C.2.1 dX12_tray_76 rfl (lv_at hl 1 rfl) ?_
  refine r_get C w 0 rfl rfl 31 (by decide) fl_RX12_64 (v := .ref a17) rfl dX12_tray_77 ?_
  refine lv_bipush (v := 40) C.1 C.2.1 dX12_tray_80 (by decide) ?_
  refine lv_iload_n C.1 C.2.1 dX12_tray_82 rfl (lv_at hl 2 rfl) ?_
  refine r_imul C (v := 0) dX12_tray_83 (by decide) ?_
  refine lv_iload C.1 C.2.1 dX12_tray_84 (lv_at hl 0 rfl) ?_
  refine r_iadd C (v := 38) dX12_tray_86 (by decide) ?_
  refine lv_lconst (v := 0) C.1 C.2.1 dX12_tray_87 (by decide) ?_
  refine r_last C w 3 rfl (vinD (by decide)) (vp_updL (vp_updL (vp_updL (vp_updL (vp_updL (vp_updL (vp_updL (vp_updL (vp_updL (vp_updL (vp_updL (vp_updL (vp_updL (vp_updL (vp_updL (vp_updL (vp_updL (vp_updL (vp_updL (vp_updL (vp_updL (vp_updL (vp_updL (vp_updL (vp_updL (vp_updL (vp_updL (vp_updL (vp_updL (vp_updL (vp_updL (vp_updL (vp_updL (vp_updL (vp_updL (vp_updL (vp_updL (vp_updL (vp_updL (fun _ => 0) 0 0) 1 0) 2 0) 3 0) 4 0) 5 0) 6 0) 7 0) 8 0) 9 0) 10 0) 11 0) 12 0) 13 0) 14 0) 15 0) 16 0) 17 0) 18 0) 19 0) 20 0) 21 0) 22 0) 23 0) 24 0) 25 0) 26 0) 27 0) 28 0) 29 0) 30 0) 31 0) 32 0) 33 0) 34 0) 35 0) 36 0) 37 0) 38 0) rfl [(a0, .inr (12, [.ref a1, .ref a2, .ref a3, .ref a4, .ref a5, .int 0, .ref a6, .int 0, .int 0, .int 0, .int 0, .int 0, .int 0, .int 0, .int 0, .int 0, .int 0, .int (-1), .ref a7, .ref a8, .int 0, .ref a9, .int 0, .ref a10, .ref a11, .ref a12, .ref a13, .ref a14, .int 0, .ref a15, .ref a16, .ref a17])), (a15, .inl (cy 1, 4, .inl (upd (upd (upd (upd (upd (fun _ => 0) 0 (-1)) 1 (-1)) 2 (-1)) 3 (-1)) 0 x1))), (a16, .inl (cy 1, 4, .inl (upd (fun _ => 0) 0 x2))), (a17, .inl (cy 2, 160, .inr (.inl (vp_updL (vp_updL (vp_updL (vp_updL (vp_updL (vp_updL (vp_updL (vp_updL (vp_updL (vp_updL (vp_updL (vp_updL (vp_updL (vp_updL (vp_updL (vp_updL (vp_updL (vp_updL (vp_updL (vp_updL (vp_updL (vp_updL (vp_updL (vp_updL (vp_updL (vp_updL (vp_updL (vp_updL (vp_updL (vp_updL (vp_updL (vp_updL (vp_updL (vp_updL (vp_updL (vp_updL (vp_updL (vp_updL (vp_updL (fun _ => 0) 0 0) 1 0) 2 0) 3 0) 4 0) 5 0) 6 0) 7 0) 8 0) 9 0) 10 0) 11 0) 12 0) 13 0) 14 0) 15 0) 16 0) 17 0) 18 0) 19 0) 20 0) 21 0) 22 0) 23 0) 24 0) 25 0) 26 0) 27 0) 28 0) 29 0) 30 0) 31 0) 32 0) 33 0) 34 0) 35 0) 36 0) 37 0) 38 0))))] rfl dX12_tray_88 (fun H locs w => ?_)
  refine lv_iinc (v := 39) (lv' := [(4, .int 39), (0, .ref a0), (1, .int 0), (2, .int x1), (3, .int x2)]) C.1 C.2.1 dX12_tray_89 hl (k := 0) rfl (by decide) (by decide) rfl (fun ls hl => ?_)
  refine lv_goto (tgt := 69) C.1 C.2.1 dX12_tray_92 (by decide) ?_
  refine lv_iload C.1 C.2.1 dX12_tray_69 (lv_at hl 0 rfl) ?_
  refine lv_bipush (v := 40) C.1 C.2.1 dX12_tray_71 (by decide) ?_
  refine b_icmp_ge_f C (tgt := 95) dX12_tray_73 (by decide) (by decide) ?_
  refine lv_aload_n C.1 C.2.1 dX12_tray_76 rfl (lv_at hl 1 rfl) ?_
  refine r_get C w 0 rfl rfl 31 (by decide) fl_RX12_64 (v := .ref a17) rfl dX12_tray_77 ?_
  refine lv_bipush (v := 40) C.1 C.2.1 dX12_tray_80 (by decide) ?_
  refine lv_iload_n C.1 C.2.1 dX12_tray_82 rfl (lv_at hl 2 rfl) ?_
  refine r_imul C (v := 0) dX12_tray_83 (by decide) ?_
  refine lv_iload C.1 C.2.1 dX12_tray_84 (lv_at hl 0 rfl) ?_
  refine r_iadd C (v := 39) dX12_tray_86 (by decide) ?_
  refine lv_lconst (v := 0) C.1 C.2.1 dX12_tray_87 (by decide) ?_
  refine r_last C w 3 rfl (vinD (by decide)) (vp_updL (vp_updL (vp_updL (vp_updL (vp_updL (vp_updL (vp_updL (vp_updL (vp_updL (vp_updL (vp_updL (vp_updL (vp_updL (vp_updL (vp_updL (vp_updL (vp_updL (vp_updL (vp_updL (vp_updL (vp_updL (vp_updL (vp_updL (vp_updL (vp_updL (vp_updL (vp_updL (vp_updL (vp_updL (vp_updL (vp_updL (vp_updL (vp_updL (vp_updL (vp_updL (vp_updL (vp_updL (vp_updL (vp_updL (vp_updL (fun _ => 0) 0 0) 1 0) 2 0) 3 0) 4 0) 5 0) 6 0) 7 0) 8 0) 9 0) 10 0) 11 0) 12 0) 13 0) 14 0) 15 0) 16 0) 17 0) 18 0) 19 0) 20 0) 21 0) 22 0) 23 0) 24 0) 25 0) 26 0) 27 0) 28 0) 29 0) 30 0) 31 0) 32 0) 33 0) 34 0) 35 0) 36 0) 37 0) 38 0) 39 0) rfl [(a0, .inr (12, [.ref a1, .ref a2, .ref a3, .ref a4, .ref a5, .int 0, .ref a6, .int 0, .int 0, .int 0, .int 0, .int 0, .int 0, .int 0, .int 0, .int 0, .int 0, .int (-1), .ref a7, .ref a8, .int 0, .ref a9, .int 0, .ref a10, .ref a11, .ref a12, .ref a13, .ref a14, .int 0, .ref a15, .ref a16, .ref a17])), (a15, .inl (cy 1, 4, .inl (upd (upd (upd (upd (upd (fun _ => 0) 0 (-1)) 1 (-1)) 2 (-1)) 3 (-1)) 0 x1))), (a16, .inl (cy 1, 4, .inl (upd (fun _ => 0) 0 x2))), (a17, .inl (cy 2, 160, .inr (.inl (vp_updL (vp_updL (vp_updL (vp_updL (vp_updL (vp_updL (vp_updL (vp_updL (vp_updL (vp_updL (vp_updL (vp_updL (vp_updL (vp_updL (vp_updL (vp_updL (vp_updL (vp_updL (vp_updL (vp_updL (vp_updL (vp_updL (vp_updL (vp_updL (vp_updL (vp_updL (vp_updL (vp_updL (vp_updL (vp_updL (vp_updL (vp_updL (vp_updL (vp_updL (vp_updL (vp_updL (vp_updL (vp_updL (vp_updL (vp_updL (fun _ => 0) 0 0) 1 0) 2 0) 3 0) 4 0) 5 0) 6 0) 7 0) 8 0) 9 0) 10 0) 11 0) 12 0) 13 0) 14 0) 15 0) 16 0) 17 0) 18 0) 19 0) 20 0) 21 0) 22 0) 23 0) 24 0) 25 0) 26 0) 27 0) 28 0) 29 0) 30 0) 31 0) 32 0) 33 0) 34 0) 35 0) 36 0) 37 0) 38 0) 39 0))))] rfl dX12_tray_88 (fun H locs w => ?_)
  refine lv_iinc (v := 40) (lv' := [(4, .int 40), (0, .ref a0), (1, .int 0), (2, .int x1), (3, .int x2)]) C.1 C.2.1 dX12_tray_89 hl (k := 0) rfl (by decide) (by decide) rfl (fun ls hl => ?_)
  refine lv_goto (tgt := 69) C.1 C.2.1 dX12_tray_92 (by decide) ?_
  refine lv_iload C.1 C.2.1 dX12_tray_69 (lv_at hl 0 rfl) ?_
  refine lv_bipush (v := 40) C.1 C.2.1 dX12_tray_71 (by decide) ?_
  refine b_icmp_ge_t C (tgt := 95) dX12_tray_73 (by decide) (by decide) ?_
  exact r_vret C w hlocks () hr rfl trivial [0, 1, 2, 3] rfl rfl ⟨Nat.le_of_ble_eq_true rfl, Nat.le_of_ble_eq_true rfl⟩ dX12_tray_95
set_option maxRecDepth 100000 in
set_option maxHeartbeats 4000000 in
theorem c_X12_tray_5 (l : Launch) (D : va_G) (cy : Nat → ClassId) (a0 a1 a2 a3 a4 a5 a6 a7 a8 a9 a10 a11 a12 a13 a14 a15 a16 a17 : Nat) (x1 : Int32) (x2 : Int32) (k0 : ¬ x1 < 0) (k1 : ¬ 3 < x1) (k2 : ¬ x2 < 0) (k3 : ¬ 40 < x2) : Ct l D cy yX12_tray cX12_tray 5 none 2 45 0 0 [(a0, .inr (12, [.ref a1, .ref a2, .ref a3, .ref a4, .ref a5, .int 0, .ref a6, .int 0, .int 0, .int 0, .int 0, .int 0, .int 0, .int 0, .int 0, .int 0, .int 0, .int (-1), .ref a7, .ref a8, .int 0, .ref a9, .int 0, .ref a10, .ref a11, .ref a12, .ref a13, .ref a14, .int 0, .ref a15, .ref a16, .ref a17])), (a15, .inl (cy 1, 4, .inl (upd (upd (upd (upd (fun _ => 0) 0 (-1)) 1 (-1)) 2 (-1)) 3 (-1)))), (a16, .inl (cy 1, 4, .inl (fun _ => 0))), (a17, .inl (cy 2, 160, .inr (.inl (fun _ => 0))))] [.ref a0, .int 3, .int x1, .int x2] (fun u : Unit => none) (fun _ => True) (fun u : Unit => [(a0, .inr (12, [.ref a1, .ref a2, .ref a3, .ref a4, .ref a5, .int 0, .ref a6, .int 0, .int 0, .int 0, .int 0, .int 0, .int 0, .int 0, .int 0, .int 0, .int 0, .int (-1), .ref a7, .ref a8, .int 0, .ref a9, .int 0, .ref a10, .ref a11, .ref a12, .ref a13, .ref a14, .int 0, .ref a15, .ref a16, .ref a17])), (a15, .inl (cy 1, 4, .inl (upd (upd (upd (upd (upd (fun _ => 0) 0 (-1)) 1 (-1)) 2 (-1)) 3 (-1)) 3 x1))), (a16, .inl (cy 1, 4, .inl (upd (fun _ => 0) 3 x2))), (a17, .inl (cy 2, 160, .inr (.inl (vp_updL (vp_updL (vp_updL (vp_updL (vp_updL (vp_updL (vp_updL (vp_updL (vp_updL (vp_updL (vp_updL (vp_updL (vp_updL (vp_updL (vp_updL (vp_updL (vp_updL (vp_updL (vp_updL (vp_updL (vp_updL (vp_updL (vp_updL (vp_updL (vp_updL (vp_updL (vp_updL (vp_updL (vp_updL (vp_updL (vp_updL (vp_updL (vp_updL (vp_updL (vp_updL (vp_updL (vp_updL (vp_updL (vp_updL (vp_updL (fun _ => 0) 120 0) 121 0) 122 0) 123 0) 124 0) 125 0) 126 0) 127 0) 128 0) 129 0) 130 0) 131 0) 132 0) 133 0) 134 0) 135 0) 136 0) 137 0) 138 0) 139 0) 140 0) 141 0) 142 0) 143 0) 144 0) 145 0) 146 0) 147 0) 148 0) 149 0) 150 0) 151 0) 152 0) 153 0) 154 0) 155 0) 156 0) 157 0) 158 0) 159 0))))]) := by
  refine Ct.of (by decide +kernel) (Nat.le_of_ble_eq_true rfl) ?_
  intro p e s m args below meth c A ls C hr hlocks hml hnm w hl
  have hl : lv_has ls 5 [(0, .ref a0), (1, .int 3), (2, .int x1), (3, .int x2)] := hl
  refine lv_aload_n C.1 C.2.1 dX12_tray_0 rfl (lv_at hl 0 rfl) ?_
  refine lv_iload_n C.1 C.2.1 dX12_tray_1 rfl (lv_at hl 1 rfl) ?_
  refine r_callS C w fs_RX12_403 (c_X12_isTray_4 l D cy) (hl.1.trans hml.symm) [] [0, 1, 2, 3] (wr := [(a0, .inr (12, [.ref a1, .ref a2, .ref a3, .ref a4, .ref a5, .int 0, .ref a6, .int 0, .int 0, .int 0, .int 0, .int 0, .int 0, .int 0, .int 0, .int 0, .int 0, .int (-1), .ref a7, .ref a8, .int 0, .ref a9, .int 0, .ref a10, .ref a11, .ref a12, .ref a13, .ref a14, .int 0, .ref a15, .ref a16, .ref a17])), (a15, .inl (cy 1, 4, .inl (upd (upd (upd (upd (fun _ => 0) 0 (-1)) 1 (-1)) 2 (-1)) 3 (-1)))), (a16, .inl (cy 1, 4, .inl (fun _ => 0))), (a17, .inl (cy 2, 160, .inr (.inl (fun _ => 0))))]) ⟨rfl, rfl, rfl, rfl, by decide⟩ rfl rfl ⟨Nat.le_of_ble_eq_true rfl, Nat.le_of_ble_eq_true rfl, Nat.le_of_ble_eq_true rfl⟩ 0 0 ⟨rfl, rfl, Nat.le_of_ble_eq_true rfl, Nat.le_of_ble_eq_true rfl⟩ dX12_tray_2 (fun u H locs hp w => ?_)
  have w : Wd D A s.heap [(a0, .inr (12, [.ref a1, .ref a2, .ref a3, .ref a4, .ref a5, .int 0, .ref a6, .int 0, .int 0, .int 0, .int 0, .int 0, .int 0, .int 0, .int 0, .int 0, .int 0, .int (-1), .ref a7, .ref a8, .int 0, .ref a9, .int 0, .ref a10, .ref a11, .ref a12, .ref a13, .ref a14, .int 0, .ref a15, .ref a16, .ref a17])), (a15, .inl (cy 1, 4, .inl (upd (upd (upd (upd (fun _ => 0) 0 (-1)) 1 (-1)) 2 (-1)) 3 (-1)))), (a16, .inl (cy 1, 4, .inl (fun _ => 0))), (a17, .inl (cy 2, 160, .inr (.inl (fun _ => 0))))] _ _ := w
  refine r_top (g2 := F0 m 5 ls [.int 1, .ref a0]) rfl ?_
  refine b_if_ne_t C (tgt := 12) dX12_tray_5 (by decide) (by decide) ?_
  refine lv_iload_n C.1 C.2.1 dX12_tray_12 rfl (lv_at hl 2 rfl) ?_
  refine lv_i2l (v := (Int32.toInt64 x1)) C.1 C.2.1 dX12_tray_13 rfl ?_
  refine lv_lconst (v := 0) C.1 C.2.1 dX12_tray_14 (by decide) ?_
  refine lv_ldc2 (v := 3) C.1 C.2.1 C.2.2.1 (C.2.2.2.1 _ kl_RX12_279) dX12_tray_15 ?_
  refine r_callS C w fs_RX12_133 (c_X12_within_27 l D cy x1 k0 k1) (hl.1.trans hml.symm) [] [0, 1, 2, 3] (wr := [(a0, .inr (12, [.ref a1, .ref a2, .ref a3, .ref a4, .ref a5, .int 0, .ref a6, .int 0, .int 0, .int 0, .int 0, .int 0, .int 0, .int 0, .int 0, .int 0, .int 0, .int (-1), .ref a7, .ref a8, .int 0, .ref a9, .int 0, .ref a10, .ref a11, .ref a12, .ref a13, .ref a14, .int 0, .ref a15, .ref a16, .ref a17])), (a15, .inl (cy 1, 4, .inl (upd (upd (upd (upd (fun _ => 0) 0 (-1)) 1 (-1)) 2 (-1)) 3 (-1)))), (a16, .inl (cy 1, 4, .inl (fun _ => 0))), (a17, .inl (cy 2, 160, .inr (.inl (fun _ => 0))))]) ⟨rfl, rfl, rfl, rfl, by decide⟩ rfl rfl ⟨Nat.le_of_ble_eq_true rfl, Nat.le_of_ble_eq_true rfl, Nat.le_of_ble_eq_true rfl⟩ 0 0 ⟨rfl, rfl, Nat.le_of_ble_eq_true rfl, Nat.le_of_ble_eq_true rfl⟩ dX12_tray_18 (fun u H locs hp w => ?_)
  have w : Wd D A s.heap [(a0, .inr (12, [.ref a1, .ref a2, .ref a3, .ref a4, .ref a5, .int 0, .ref a6, .int 0, .int 0, .int 0, .int 0, .int 0, .int 0, .int 0, .int 0, .int 0, .int 0, .int (-1), .ref a7, .ref a8, .int 0, .ref a9, .int 0, .ref a10, .ref a11, .ref a12, .ref a13, .ref a14, .int 0, .ref a15, .ref a16, .ref a17])), (a15, .inl (cy 1, 4, .inl (upd (upd (upd (upd (fun _ => 0) 0 (-1)) 1 (-1)) 2 (-1)) 3 (-1)))), (a16, .inl (cy 1, 4, .inl (fun _ => 0))), (a17, .inl (cy 2, 160, .inr (.inl (fun _ => 0))))] _ _ := w
  refine r_top (g2 := F0 m 21 ls [.int 1, .ref a0]) rfl ?_
  refine b_if_eq_f C (tgt := 36) dX12_tray_21 (by decide) (by decide) ?_
  refine lv_iload_n C.1 C.2.1 dX12_tray_24 rfl (lv_at hl 3 rfl) ?_
  refine lv_i2l (v := (Int32.toInt64 x2)) C.1 C.2.1 dX12_tray_25 rfl ?_
  refine lv_lconst (v := 0) C.1 C.2.1 dX12_tray_26 (by decide) ?_
  refine lv_ldc2 (v := 40) C.1 C.2.1 C.2.2.1 (C.2.2.2.1 _ kl_RX12_409) dX12_tray_27 ?_
  refine r_callS C w fs_RX12_133 (c_X12_within_34 l D cy x2 k2 k3) (hl.1.trans hml.symm) [] [0, 1, 2, 3] (wr := [(a0, .inr (12, [.ref a1, .ref a2, .ref a3, .ref a4, .ref a5, .int 0, .ref a6, .int 0, .int 0, .int 0, .int 0, .int 0, .int 0, .int 0, .int 0, .int 0, .int 0, .int (-1), .ref a7, .ref a8, .int 0, .ref a9, .int 0, .ref a10, .ref a11, .ref a12, .ref a13, .ref a14, .int 0, .ref a15, .ref a16, .ref a17])), (a15, .inl (cy 1, 4, .inl (upd (upd (upd (upd (fun _ => 0) 0 (-1)) 1 (-1)) 2 (-1)) 3 (-1)))), (a16, .inl (cy 1, 4, .inl (fun _ => 0))), (a17, .inl (cy 2, 160, .inr (.inl (fun _ => 0))))]) ⟨rfl, rfl, rfl, rfl, by decide⟩ rfl rfl ⟨Nat.le_of_ble_eq_true rfl, Nat.le_of_ble_eq_true rfl, Nat.le_of_ble_eq_true rfl⟩ 0 0 ⟨rfl, rfl, Nat.le_of_ble_eq_true rfl, Nat.le_of_ble_eq_true rfl⟩ dX12_tray_30 (fun u H locs hp w => ?_)
  have w : Wd D A s.heap [(a0, .inr (12, [.ref a1, .ref a2, .ref a3, .ref a4, .ref a5, .int 0, .ref a6, .int 0, .int 0, .int 0, .int 0, .int 0, .int 0, .int 0, .int 0, .int 0, .int 0, .int (-1), .ref a7, .ref a8, .int 0, .ref a9, .int 0, .ref a10, .ref a11, .ref a12, .ref a13, .ref a14, .int 0, .ref a15, .ref a16, .ref a17])), (a15, .inl (cy 1, 4, .inl (upd (upd (upd (upd (fun _ => 0) 0 (-1)) 1 (-1)) 2 (-1)) 3 (-1)))), (a16, .inl (cy 1, 4, .inl (fun _ => 0))), (a17, .inl (cy 2, 160, .inr (.inl (fun _ => 0))))] _ _ := w
  refine r_top (g2 := F0 m 33 ls [.int 1, .ref a0]) rfl ?_
  refine b_if_ne_t C (tgt := 40) dX12_tray_33 (by decide) (by decide) ?_
  refine lv_iconst (v := 0) C.1 C.2.1 dX12_tray_40 (by decide) ?_
  refine r_put C w 0 rfl rfl 5 (by decide) fl_RX12_71 rfl (ty := .int) (tyX12_ok 5 (by decide)) rfl rfl (Nat.le_of_ble_eq_true rfl) [(a0, .inr (12, [.ref a1, .ref a2, .ref a3, .ref a4, .ref a5, .int 0, .ref a6, .int 0, .int 0, .int 0, .int 0, .int 0, .int 0, .int 0, .int 0, .int 0, .int 0, .int (-1), .ref a7, .ref a8, .int 0, .ref a9, .int 0, .ref a10, .ref a11, .ref a12, .ref a13, .ref a14, .int 0, .ref a15, .ref a16, .ref a17])), (a15, .inl (cy 1, 4, .inl (upd (upd (upd (upd (fun _ => 0) 0 (-1)) 1 (-1)) 2 (-1)) 3 (-1)))), (a16, .inl (cy 1, 4, .inl (fun _ => 0))), (a17, .inl (cy 2, 160, .inr (.inl (fun _ => 0))))] rfl dX12_tray_41 (fun H locs w => ?_)
  refine lv_aload_n C.1 C.2.1 dX12_tray_44 rfl (lv_at hl 0 rfl) ?_
  refine r_get C w 0 rfl rfl 5 (by decide) fl_RX12_71 (v := .int 0) rfl dX12_tray_45 ?_
  refine b_if_le_t C (tgt := 52) dX12_tray_48 (by decide) (by decide) ?_
  refine lv_aload_n C.1 C.2.1 dX12_tray_52 rfl (lv_at hl 0 rfl) ?_
  refine r_get C w 0 rfl rfl 29 (by decide) fl_RX12_58 (v := .ref a15) rfl dX12_tray_53 ?_
  refine lv_iload_n C.1 C.2.1 dX12_tray_56 rfl (lv_at hl 1 rfl) ?_
  refine lv_iload_n C.1 C.2.1 dX12_tray_57 rfl (lv_at hl 2 rfl) ?_
  refine r_iast C w 1 rfl (vinD (by decide)) (upd (upd (upd (upd (upd (fun _ => 0) 0 (-1)) 1 (-1)) 2 (-1)) 3 (-1)) 3 x1) rfl [(a0, .inr (12, [.ref a1, .ref a2, .ref a3, .ref a4, .ref a5, .int 0, .ref a6, .int 0, .int 0, .int 0, .int 0, .int 0, .int 0, .int 0, .int 0, .int 0, .int 0, .int (-1), .ref a7, .ref a8, .int 0, .ref a9, .int 0, .ref a10, .ref a11, .ref a12, .ref a13, .ref a14, .int 0, .ref a15, .ref a16, .ref a17])), (a15, .inl (cy 1, 4, .inl (upd (upd (upd (upd (upd (fun _ => 0) 0 (-1)) 1 (-1)) 2 (-1)) 3 (-1)) 3 x1))), (a16, .inl (cy 1, 4, .inl (fun _ => 0))), (a17, .inl (cy 2, 160, .inr (.inl (fun _ => 0))))] rfl dX12_tray_58 (fun H locs w => ?_)
  refine lv_aload_n C.1 C.2.1 dX12_tray_59 rfl (lv_at hl 0 rfl) ?_
  refine r_get C w 0 rfl rfl 30 (by decide) fl_RX12_61 (v := .ref a16) rfl dX12_tray_60 ?_
  refine lv_iload_n C.1 C.2.1 dX12_tray_63 rfl (lv_at hl 1 rfl) ?_
  refine lv_iload_n C.1 C.2.1 dX12_tray_64 rfl (lv_at hl 3 rfl) ?_
  refine r_iast C w 2 rfl (vinD (by decide)) (upd (fun _ => 0) 3 x2) rfl [(a0, .inr (12, [.ref a1, .ref a2, .ref a3, .ref a4, .ref a5, .int 0, .ref a6, .int 0, .int 0, .int 0, .int 0, .int 0, .int 0, .int 0, .int 0, .int 0, .int 0, .int (-1), .ref a7, .ref a8, .int 0, .ref a9, .int 0, .ref a10, .ref a11, .ref a12, .ref a13, .ref a14, .int 0, .ref a15, .ref a16, .ref a17])), (a15, .inl (cy 1, 4, .inl (upd (upd (upd (upd (upd (fun _ => 0) 0 (-1)) 1 (-1)) 2 (-1)) 3 (-1)) 3 x1))), (a16, .inl (cy 1, 4, .inl (upd (fun _ => 0) 3 x2))), (a17, .inl (cy 2, 160, .inr (.inl (fun _ => 0))))] rfl dX12_tray_65 (fun H locs w => ?_)
  refine lv_iconst (v := 0) C.1 C.2.1 dX12_tray_66 (by decide) ?_
  refine lv_istore (lv' := [(4, .int 0), (0, .ref a0), (1, .int 3), (2, .int x1), (3, .int x2)]) C.1 C.2.1 dX12_tray_67 hl (by decide) rfl (fun ls hl => ?_)
  refine lv_iload C.1 C.2.1 dX12_tray_69 (lv_at hl 0 rfl) ?_
  refine lv_bipush (v := 40) C.1 C.2.1 dX12_tray_71 (by decide) ?_
  refine b_icmp_ge_f C (tgt := 95) dX12_tray_73 (by decide) (by decide) ?_
  refine lv_aload_n C.1 C.2.1 dX12_tray_76 rfl (lv_at hl 1 rfl) ?_
  refine r_get C w 0 rfl rfl 31 (by decide) fl_RX12_64 (v := .ref a17) rfl dX12_tray_77 ?_
  refine lv_bipush (v := 40) C.1 C.2.1 dX12_tray_80 (by decide) ?_
  refine lv_iload_n C.1 C.2.1 dX12_tray_82 rfl (lv_at hl 2 rfl) ?_
  refine r_imul C (v := 120) dX12_tray_83 (by decide) ?_
  refine lv_iload C.1 C.2.1 dX12_tray_84 (lv_at hl 0 rfl) ?_
  refine r_iadd C (v := 120) dX12_tray_86 (by decide) ?_
  refine lv_lconst (v := 0) C.1 C.2.1 dX12_tray_87 (by decide) ?_
  refine r_last C w 3 rfl (vinD (by decide)) (vp_updL (fun _ => 0) 120 0) rfl [(a0, .inr (12, [.ref a1, .ref a2, .ref a3, .ref a4, .ref a5, .int 0, .ref a6, .int 0, .int 0, .int 0, .int 0, .int 0, .int 0, .int 0, .int 0, .int 0, .int 0, .int (-1), .ref a7, .ref a8, .int 0, .ref a9, .int 0, .ref a10, .ref a11, .ref a12, .ref a13, .ref a14, .int 0, .ref a15, .ref a16, .ref a17])), (a15, .inl (cy 1, 4, .inl (upd (upd (upd (upd (upd (fun _ => 0) 0 (-1)) 1 (-1)) 2 (-1)) 3 (-1)) 3 x1))), (a16, .inl (cy 1, 4, .inl (upd (fun _ => 0) 3 x2))), (a17, .inl (cy 2, 160, .inr (.inl (vp_updL (fun _ => 0) 120 0))))] rfl dX12_tray_88 (fun H locs w => ?_)
  refine lv_iinc (v := 1) (lv' := [(4, .int 1), (0, .ref a0), (1, .int 3), (2, .int x1), (3, .int x2)]) C.1 C.2.1 dX12_tray_89 hl (k := 0) rfl (by decide) (by decide) rfl (fun ls hl => ?_)
  refine lv_goto (tgt := 69) C.1 C.2.1 dX12_tray_92 (by decide) ?_
  refine lv_iload C.1 C.2.1 dX12_tray_69 (lv_at hl 0 rfl) ?_
  refine lv_bipush (v := 40) C.1 C.2.1 dX12_tray_71 (by decide) ?_
  refine b_icmp_ge_f C (tgt := 95) dX12_tray_73 (by decide) (by decide) ?_
  refine lv_aload_n C.1 C.2.1 dX12_tray_76 rfl (lv_at hl 1 rfl) ?_
  refine r_get C w 0 rfl rfl 31 (by decide) fl_RX12_64 (v := .ref a17) rfl dX12_tray_77 ?_
  refine lv_bipush (v := 40) C.1 C.2.1 dX12_tray_80 (by decide) ?_
  refine lv_iload_n C.1 C.2.1 dX12_tray_82 rfl (lv_at hl 2 rfl) ?_
  refine r_imul C (v := 120) dX12_tray_83 (by decide) ?_
  refine lv_iload C.1 C.2.1 dX12_tray_84 (lv_at hl 0 rfl) ?_
  refine r_iadd C (v := 121) dX12_tray_86 (by decide) ?_
  refine lv_lconst (v := 0) C.1 C.2.1 dX12_tray_87 (by decide) ?_
  refine r_last C w 3 rfl (vinD (by decide)) (vp_updL (vp_updL (fun _ => 0) 120 0) 121 0) rfl [(a0, .inr (12, [.ref a1, .ref a2, .ref a3, .ref a4, .ref a5, .int 0, .ref a6, .int 0, .int 0, .int 0, .int 0, .int 0, .int 0, .int 0, .int 0, .int 0, .int 0, .int (-1), .ref a7, .ref a8, .int 0, .ref a9, .int 0, .ref a10, .ref a11, .ref a12, .ref a13, .ref a14, .int 0, .ref a15, .ref a16, .ref a17])), (a15, .inl (cy 1, 4, .inl (upd (upd (upd (upd (upd (fun _ => 0) 0 (-1)) 1 (-1)) 2 (-1)) 3 (-1)) 3 x1))), (a16, .inl (cy 1, 4, .inl (upd (fun _ => 0) 3 x2))), (a17, .inl (cy 2, 160, .inr (.inl (vp_updL (vp_updL (fun _ => 0) 120 0) 121 0))))] rfl dX12_tray_88 (fun H locs w => ?_)
  refine lv_iinc (v := 2) (lv' := [(4, .int 2), (0, .ref a0), (1, .int 3), (2, .int x1), (3, .int x2)]) C.1 C.2.1 dX12_tray_89 hl (k := 0) rfl (by decide) (by decide) rfl (fun ls hl => ?_)
  refine lv_goto (tgt := 69) C.1 C.2.1 dX12_tray_92 (by decide) ?_
  refine lv_iload C.1 C.2.1 dX12_tray_69 (lv_at hl 0 rfl) ?_
  refine lv_bipush (v := 40) C.1 C.2.1 dX12_tray_71 (by decide) ?_
  refine b_icmp_ge_f C (tgt := 95) dX12_tray_73 (by decide) (by decide) ?_
  refine lv_aload_n C.1 C.2.1 dX12_tray_76 rfl (lv_at hl 1 rfl) ?_
  refine r_get C w 0 rfl rfl 31 (by decide) fl_RX12_64 (v := .ref a17) rfl dX12_tray_77 ?_
  refine lv_bipush (v := 40) C.1 C.2.1 dX12_tray_80 (by decide) ?_
  refine lv_iload_n C.1 C.2.1 dX12_tray_82 rfl (lv_at hl 2 rfl) ?_
  refine r_imul C (v := 120) dX12_tray_83 (by decide) ?_
  refine lv_iload C.1 C.2.1 dX12_tray_84 (lv_at hl 0 rfl) ?_
  refine r_iadd C (v := 122) dX12_tray_86 (by decide) ?_
  refine lv_lconst (v := 0) C.1 C.2.1 dX12_tray_87 (by decide) ?_
  refine r_last C w 3 rfl (vinD (by decide)) (vp_updL (vp_updL (vp_updL (fun _ => 0) 120 0) 121 0) 122 0) rfl [(a0, .inr (12, [.ref a1, .ref a2, .ref a3, .ref a4, .ref a5, .int 0, .ref a6, .int 0, .int 0, .int 0, .int 0, .int 0, .int 0, .int 0, .int 0, .int 0, .int 0, .int (-1), .ref a7, .ref a8, .int 0, .ref a9, .int 0, .ref a10, .ref a11, .ref a12, .ref a13, .ref a14, .int 0, .ref a15, .ref a16, .ref a17])), (a15, .inl (cy 1, 4, .inl (upd (upd (upd (upd (upd (fun _ => 0) 0 (-1)) 1 (-1)) 2 (-1)) 3 (-1)) 3 x1))), (a16, .inl (cy 1, 4, .inl (upd (fun _ => 0) 3 x2))), (a17, .inl (cy 2, 160, .inr (.inl (vp_updL (vp_updL (vp_updL (fun _ => 0) 120 0) 121 0) 122 0))))] rfl dX12_tray_88 (fun H locs w => ?_)
  refine lv_iinc (v := 3) (lv' := [(4, .int 3), (0, .ref a0), (1, .int 3), (2, .int x1), (3, .int x2)]) C.1 C.2.1 dX12_tray_89 hl (k := 0) rfl (by decide) (by decide) rfl (fun ls hl => ?_)
  refine lv_goto (tgt := 69) C.1 C.2.1 dX12_tray_92 (by decide) ?_
  refine lv_iload C.1 C.2.1 dX12_tray_69 (lv_at hl 0 rfl) ?_
  refine lv_bipush (v := 40) C.1 C.2.1 dX12_tray_71 (by decide) ?_
  refine b_icmp_ge_f C (tgt := 95) dX12_tray_73 (by decide) (by decide) ?_
  refine lv_aload_n C.1 C.2.1 dX12_tray_76 rfl (lv_at hl 1 rfl) ?_
  refine r_get C w 0 rfl rfl 31 (by decide) fl_RX12_64 (v := .ref a17) rfl dX12_tray_77 ?_
  refine lv_bipush (v := 40) C.1 C.2.1 dX12_tray_80 (by decide) ?_
  refine lv_iload_n C.1 C.2.1 dX12_tray_82 rfl (lv_at hl 2 rfl) ?_
  refine r_imul C (v := 120) dX12_tray_83 (by decide) ?_
  refine lv_iload C.1 C.2.1 dX12_tray_84 (lv_at hl 0 rfl) ?_
  refine r_iadd C (v := 123) dX12_tray_86 (by decide) ?_
  refine lv_lconst (v := 0) C.1 C.2.1 dX12_tray_87 (by decide) ?_
  refine r_last C w 3 rfl (vinD (by decide)) (vp_updL (vp_updL (vp_updL (vp_updL (fun _ => 0) 120 0) 121 0) 122 0) 123 0) rfl [(a0, .inr (12, [.ref a1, .ref a2, .ref a3, .ref a4, .ref a5, .int 0, .ref a6, .int 0, .int 0, .int 0, .int 0, .int 0, .int 0, .int 0, .int 0, .int 0, .int 0, .int (-1), .ref a7, .ref a8, .int 0, .ref a9, .int 0, .ref a10, .ref a11, .ref a12, .ref a13, .ref a14, .int 0, .ref a15, .ref a16, .ref a17])), (a15, .inl (cy 1, 4, .inl (upd (upd (upd (upd (upd (fun _ => 0) 0 (-1)) 1 (-1)) 2 (-1)) 3 (-1)) 3 x1))), (a16, .inl (cy 1, 4, .inl (upd (fun _ => 0) 3 x2))), (a17, .inl (cy 2, 160, .inr (.inl (vp_updL (vp_updL (vp_updL (vp_updL (fun _ => 0) 120 0) 121 0) 122 0) 123 0))))] rfl dX12_tray_88 (fun H locs w => ?_)
  refine lv_iinc (v := 4) (lv' := [(4, .int 4), (0, .ref a0), (1, .int 3), (2, .int x1), (3, .int x2)]) C.1 C.2.1 dX12_tray_89 hl (k := 0) rfl (by decide) (by decide) rfl (fun ls hl => ?_)
  refine lv_goto (tgt := 69) C.1 C.2.1 dX12_tray_92 (by decide) ?_
  refine lv_iload C.1 C.2.1 dX12_tray_69 (lv_at hl 0 rfl) ?_
  refine lv_bipush (v := 40) C.1 C.2.1 dX12_tray_71 (by decide) ?_
  refine b_icmp_ge_f C (tgt := 95) dX12_tray_73 (by decide) (by decide) ?_
  refine lv_aload_n C.1 C.2.1 dX12_tray_76 rfl (lv_at hl 1 rfl) ?_
  refine r_get C w 0 rfl rfl 31 (by decide) fl_RX12_64 (v := .ref a17) rfl dX12_tray_77 ?_
  refine lv_bipush (v := 40) C.1 C.2.1 dX12_tray_80 (by decide) ?_
  refine lv_iload_n C.1 C.2.1 dX12_tray_82 rfl (lv_at hl 2 rfl) ?_
  refine r_imul C (v := 120) dX12_tray_83 (by decide) ?_
  refine lv_iload C.1 C.2.1 dX12_tray_84 (lv_at hl 0 rfl) ?_
  refine r_iadd C (v := 124) dX12_tray_86 (by decide) ?_
  refine lv_lconst (v := 0) C.1 C.2.1 dX12_tray_87 (by decide) ?_
  refine r_last C w 3 rfl (vinD (by decide)) (vp_updL (vp_updL (vp_updL (vp_updL (vp_updL (fun _ => 0) 120 0) 121 0) 122 0) 123 0) 124 0) rfl [(a0, .inr (12, [.ref a1, .ref a2, .ref a3, .ref a4, .ref a5, .int 0, .ref a6, .int 0, .int 0, .int 0, .int 0, .int 0, .int 0, .int 0, .int 0, .int 0, .int 0, .int (-1), .ref a7, .ref a8, .int 0, .ref a9, .int 0, .ref a10, .ref a11, .ref a12, .ref a13, .ref a14, .int 0, .ref a15, .ref a16, .ref a17])), (a15, .inl (cy 1, 4, .inl (upd (upd (upd (upd (upd (fun _ => 0) 0 (-1)) 1 (-1)) 2 (-1)) 3 (-1)) 3 x1))), (a16, .inl (cy 1, 4, .inl (upd (fun _ => 0) 3 x2))), (a17, .inl (cy 2, 160, .inr (.inl (vp_updL (vp_updL (vp_updL (vp_updL (vp_updL (fun _ => 0) 120 0) 121 0) 122 0) 123 0) 124 0))))] rfl dX12_tray_88 (fun H locs w => ?_)
  refine lv_iinc (v := 5) (lv' := [(4, .int 5), (0, .ref a0), (1, .int 3), (2, .int x1), (3, .int x2)]) C.1 C.2.1 dX12_tray_89 hl (k := 0) rfl (by decide) (by decide) rfl (fun ls hl => ?_)
  refine lv_goto (tgt := 69) C.1 C.2.1 dX12_tray_92 (by decide) ?_
  refine lv_iload C.1 C.2.1 dX12_tray_69 (lv_at hl 0 rfl) ?_
  refine lv_bipush (v := 40) C.1 C.2.1 dX12_tray_71 (by decide) ?_
  refine b_icmp_ge_f C (tgt := 95) dX12_tray_73 (by decide) (by decide) ?_
  refine lv_aload_n C.1 C.2.1 dX12_tray_76 rfl (lv_at hl 1 rfl) ?_
  refine r_get C w 0 rfl rfl 31 (by decide) fl_RX12_64 (v := .ref a17) rfl dX12_tray_77 ?_
  refine lv_bipush (v := 40) C.1 C.2.1 dX12_tray_80 (by decide) ?_
  refine lv_iload_n C.1 C.2.1 dX12_tray_82 rfl (lv_at hl 2 rfl) ?_
  refine r_imul C (v := 120) dX12_tray_83 (by decide) ?_
  refine lv_iload C.1 C.2.1 dX12_tray_84 (lv_at hl 0 rfl) ?_
  refine r_iadd C (v := 125) dX12_tray_86 (by decide) ?_
  refine lv_lconst (v := 0) C.1 C.2.1 dX12_tray_87 (by decide) ?_
  refine r_last C w 3 rfl (vinD (by decide)) (vp_updL (vp_updL (vp_updL (vp_updL (vp_updL (vp_updL (fun _ => 0) 120 0) 121 0) 122 0) 123 0) 124 0) 125 0) rfl [(a0, .inr (12, [.ref a1, .ref a2, .ref a3, .ref a4, .ref a5, .int 0, .ref a6, .int 0, .int 0, .int 0, .int 0, .int 0, .int 0, .int 0, .int 0, .int 0, .int 0, .int (-1), .ref a7, .ref a8, .int 0, .ref a9, .int 0, .ref a10, .ref a11, .ref a12, .ref a13, .ref a14, .int 0, .ref a15, .ref a16, .ref a17])), (a15, .inl (cy 1, 4, .inl (upd (upd (upd (upd (upd (fun _ => 0) 0 (-1)) 1 (-1)) 2 (-1)) 3 (-1)) 3 x1))), (a16, .inl (cy 1, 4, .inl (upd (fun _ => 0) 3 x2))), (a17, .inl (cy 2, 160, .inr (.inl (vp_updL (vp_updL (vp_updL (vp_updL (vp_updL (vp_updL (fun _ => 0) 120 0) 121 0) 122 0) 123 0) 124 0) 125 0))))] rfl dX12_tray_88 (fun H locs w => ?_)
  refine lv_iinc (v := 6) (lv' := [(4, .int 6), (0, .ref a0), (1, .int 3), (2, .int x1), (3, .int x2)]) C.1 C.2.1 dX12_tray_89 hl (k := 0) rfl (by decide) (by decide) rfl (fun ls hl => ?_)
  refine lv_goto (tgt := 69) C.1 C.2.1 dX12_tray_92 (by decide) ?_
  refine lv_iload C.1 C.2.1 dX12_tray_69 (lv_at hl 0 rfl) ?_
  refine lv_bipush (v := 40) C.1 C.2.1 dX12_tray_71 (by decide) ?_
  refine b_icmp_ge_f C (tgt := 95) dX12_tray_73 (by decide) (by decide) ?_
  refine lv_aload_n C.1 C.2.1 dX12_tray_76 rfl (lv_at hl 1 rfl) ?_
  refine r_get C w 0 rfl rfl 31 (by decide) fl_RX12_64 (v := .ref a17) rfl dX12_tray_77 ?_
  refine lv_bipush (v := 40) C.1 C.2.1 dX12_tray_80 (by decide) ?_
  refine lv_iload_n C.1 C.2.1 dX12_tray_82 rfl (lv_at hl 2 rfl) ?_
  refine r_imul C (v := 120) dX12_tray_83 (by decide) ?_
  refine lv_iload C.1 C.2.1 dX12_tray_84 (lv_at hl 0 rfl) ?_
  refine r_iadd C (v := 126) dX12_tray_86 (by decide) ?_
  refine lv_lconst (v := 0) C.1 C.2.1 dX12_tray_87 (by decide) ?_
  refine r_last C w 3 rfl (vinD (by decide)) (vp_updL (vp_updL (vp_updL (vp_updL (vp_updL (vp_updL (vp_updL (fun _ => 0) 120 0) 121 0) 122 0) 123 0) 124 0) 125 0) 126 0) rfl [(a0, .inr (12, [.ref a1, .ref a2, .ref a3, .ref a4, .ref a5, .int 0, .ref a6, .int 0, .int 0, .int 0, .int 0, .int 0, .int 0, .int 0, .int 0, .int 0, .int 0, .int (-1), .ref a7, .ref a8, .int 0, .ref a9, .int 0, .ref a10, .ref a11, .ref a12, .ref a13, .ref a14, .int 0, .ref a15, .ref a16, .ref a17])), (a15, .inl (cy 1, 4, .inl (upd (upd (upd (upd (upd (fun _ => 0) 0 (-1)) 1 (-1)) 2 (-1)) 3 (-1)) 3 x1))), (a16, .inl (cy 1, 4, .inl (upd (fun _ => 0) 3 x2))), (a17, .inl (cy 2, 160, .inr (.inl (vp_updL (vp_updL (vp_updL (vp_updL (vp_updL (vp_updL (vp_updL (fun _ => 0) 120 0) 121 0) 122 0) 123 0) 124 0) 125 0) 126 0))))] rfl dX12_tray_88 (fun H locs w => ?_)
  refine lv_iinc (v := 7) (lv' := [(4, .int 7), (0, .ref a0), (1, .int 3), (2, .int x1), (3, .int x2)]) C.1 C.2.1 dX12_tray_89 hl (k := 0) rfl (by decide) (by decide) rfl (fun ls hl => ?_)
  refine lv_goto (tgt := 69) C.1 C.2.1 dX12_tray_92 (by decide) ?_
  refine lv_iload C.1 C.2.1 dX12_tray_69 (lv_at hl 0 rfl) ?_
  refine lv_bipush (v := 40) C.1 C.2.1 dX12_tray_71 (by decide) ?_
  refine b_icmp_ge_f C (tgt := 95) dX12_tray_73 (by decide) (by decide) ?_
  refine lv_aload_n C.1 C.2.1 dX12_tray_76 rfl (lv_at hl 1 rfl) ?_
  refine r_get C w 0 rfl rfl 31 (by decide) fl_RX12_64 (v := .ref a17) rfl dX12_tray_77 ?_
  refine lv_bipush (v := 40) C.1 C.2.1 dX12_tray_80 (by decide) ?_
  refine lv_iload_n C.1 C.2.1 dX12_tray_82 rfl (lv_at hl 2 rfl) ?_
  refine r_imul C (v := 120) dX12_tray_83 (by decide) ?_
  refine lv_iload C.1 C.2.1 dX12_tray_84 (lv_at hl 0 rfl) ?_
  refine r_iadd C (v := 127) dX12_tray_86 (by decide) ?_
  refine lv_lconst (v := 0) C.1 C.2.1 dX12_tray_87 (by decide) ?_
  refine r_last C w 3 rfl (vinD (by decide)) (vp_updL (vp_updL (vp_updL (vp_updL (vp_updL (vp_updL (vp_updL (vp_updL (fun _ => 0) 120 0) 121 0) 122 0) 123 0) 124 0) 125 0) 126 0) 127 0) rfl [(a0, .inr (12, [.ref a1, .ref a2, .ref a3, .ref a4, .ref a5, .int 0, .ref a6, .int 0, .int 0, .int 0, .int 0, .int 0, .int 0, .int 0, .int 0, .int 0, .int 0, .int (-1), .ref a7, .ref a8, .int 0, .ref a9, .int 0, .ref a10, .ref a11, .ref a12, .ref a13, .ref a14, .int 0, .ref a15, .ref a16, .ref a17])), (a15, .inl (cy 1, 4, .inl (upd (upd (upd (upd (upd (fun _ => 0) 0 (-1)) 1 (-1)) 2 (-1)) 3 (-1)) 3 x1))), (a16, .inl (cy 1, 4, .inl (upd (fun _ => 0) 3 x2))), (a17, .inl (cy 2, 160, .inr (.inl (vp_updL (vp_updL (vp_updL (vp_updL (vp_updL (vp_updL (vp_updL (vp_updL (fun _ => 0) 120 0) 121 0) 122 0) 123 0) 124 0) 125 0) 126 0) 127 0))))] rfl dX12_tray_88 (fun H locs w => ?_)
  refine lv_iinc (v := 8) (lv' := [(4, .int 8), (0, .ref a0), (1, .int 3), (2, .int x1), (3, .int x2)]) C.1 C.2.1 dX12_tray_89 hl (k := 0) rfl (by decide) (by decide) rfl (fun ls hl => ?_)
  refine lv_goto (tgt := 69) C.1 C.2.1 dX12_tray_92 (by decide) ?_
  refine lv_iload C.1 C.2.1 dX12_tray_69 (lv_at hl 0 rfl) ?_
  refine lv_bipush (v := 40) C.1 C.2.1 dX12_tray_71 (by decide) ?_
  refine b_icmp_ge_f C (tgt := 95) dX12_tray_73 (by decide) (by decide) ?_
  refine lv_aload_n C.1 C.2.1 dX12_tray_76 rfl (lv_at hl 1 rfl) ?_
  refine r_get C w 0 rfl rfl 31 (by decide) fl_RX12_64 (v := .ref a17) rfl dX12_tray_77 ?_
  refine lv_bipush (v := 40) C.1 C.2.1 dX12_tray_80 (by decide) ?_
  refine lv_iload_n C.1 C.2.1 dX12_tray_82 rfl (lv_at hl 2 rfl) ?_
  refine r_imul C (v := 120) dX12_tray_83 (by decide) ?_
  refine lv_iload C.1 C.2.1 dX12_tray_84 (lv_at hl 0 rfl) ?_
  refine r_iadd C (v := 128) dX12_tray_86 (by decide) ?_
  refine lv_lconst (v := 0) C.1 C.2.1 dX12_tray_87 (by decide) ?_
  refine r_last C w 3 rfl (vinD (by decide)) (vp_updL (vp_updL (vp_updL (vp_updL (vp_updL (vp_updL (vp_updL (vp_updL (vp_updL (fun _ => 0) 120 0) 121 0) 122 0) 123 0) 124 0) 125 0) 126 0) 127 0) 128 0) rfl [(a0, .inr (12, [.ref a1, .ref a2, .ref a3, .ref a4, .ref a5, .int 0, .ref a6, .int 0, .int 0, .int 0, .int 0, .int 0, .int 0, .int 0, .int 0, .int 0, .int 0, .int (-1), .ref a7, .ref a8, .int 0, .ref a9, .int 0, .ref a10, .ref a11, .ref a12, .ref a13, .ref a14, .int 0, .ref a15, .ref a16, .ref a17])), (a15, .inl (cy 1, 4, .inl (upd (upd (upd (upd (upd (fun _ => 0) 0 (-1)) 1 (-1)) 2 (-1)) 3 (-1)) 3 x1))), (a16, .inl (cy 1, 4, .inl (upd (fun _ => 0) 3 x2))), (a17, .inl (cy 2, 160, .inr (.inl (vp_updL (vp_updL (vp_updL (vp_updL (vp_updL (vp_updL (vp_updL (vp_updL (vp_updL (fun _ => 0) 120 0) 121 0) 122 0) 123 0) 124 0) 125 0) 126 0) 127 0) 128 0))))] rfl dX12_tray_88 (fun H locs w => ?_)
  refine lv_iinc (v := 9) (lv' := [(4, .int 9), (0, .ref a0), (1, .int 3), (2, .int x1), (3, .int x2)]) C.1 C.2.1 dX12_tray_89 hl (k := 0) rfl (by decide) (by decide) rfl (fun ls hl => ?_)
  refine lv_goto (tgt := 69) C.1 C.2.1 dX12_tray_92 (by decide) ?_
  refine lv_iload C.1 C.2.1 dX12_tray_69 (lv_at hl 0 rfl) ?_
  refine lv_bipush (v := 40) C.1 C.2.1 dX12_tray_71 (by decide) ?_
  refine b_icmp_ge_f C (tgt := 95) dX12_tray_73 (by decide) (by decide) ?_
  refine lv_aload_n C.1 C.2.1 dX12_tray_76 rfl (lv_at hl 1 rfl) ?_
  refine r_get C w 0 rfl rfl 31 (by decide) fl_RX12_64 (v := .ref a17) rfl dX12_tray_77 ?_
  refine lv_bipush (v := 40) C.1 C.2.1 dX12_tray_80 (by decide) ?_
  refine lv_iload_n C.1 C.2.1 dX12_tray_82 rfl (lv_at hl 2 rfl) ?_
  refine r_imul C (v := 120) dX12_tray_83 (by decide) ?_
  refine lv_iload C.1 C.2.1 dX12_tray_84 (lv_at hl 0 rfl) ?_
  refine r_iadd C (v := 129) dX12_tray_86 (by decide) ?_
  refine lv_lconst (v := 0) C.1 C.2.1 dX12_tray_87 (by decide) ?_
  refine r_last C w 3 rfl (vinD (by decide)) (vp_updL (vp_updL (vp_updL (vp_updL (vp_updL (vp_updL (vp_updL (vp_updL (vp_updL (vp_updL (fun _ => 0) 120 0) 121 0) 122 0) 123 0) 124 0) 125 0) 126 0) 127 0) 128 0) 129 0) rfl [(a0, .inr (12, [.ref a1, .ref a2, .ref a3, .ref a4, .ref a5, .int 0, .ref a6, .int 0, .int 0, .int 0, .int 0, .int 0, .int 0, .int 0, .int 0, .int 0, .int 0, .int (-1), .ref a7, .ref a8, .int 0, .ref a9, .int 0, .ref a10, .ref a11, .ref a12, .ref a13, .ref a14, .int 0, .ref a15, .ref a16, .ref a17])), (a15, .inl (cy 1, 4, .inl (upd (upd (upd (upd (upd (fun _ => 0) 0 (-1)) 1 (-1)) 2 (-1)) 3 (-1)) 3 x1))), (a16, .inl (cy 1, 4, .inl (upd (fun _ => 0) 3 x2))), (a17, .inl (cy 2, 160, .inr (.inl (vp_updL (vp_updL (vp_updL (vp_updL (vp_updL (vp_updL (vp_updL (vp_updL (vp_updL (vp_updL (fun _ => 0) 120 0) 121 0) 122 0) 123 0) 124 0) 125 0) 126 0) 127 0) 128 0) 129 0))))] rfl dX12_tray_88 (fun H locs w => ?_)
  refine lv_iinc (v := 10) (lv' := [(4, .int 10), (0, .ref a0), (1, .int 3), (2, .int x1), (3, .int x2)]) C.1 C.2.1 dX12_tray_89 hl (k := 0) rfl (by decide) (by decide) rfl (fun ls hl => ?_)
  refine lv_goto (tgt := 69) C.1 C.2.1 dX12_tray_92 (by decide) ?_
  refine lv_iload C.1 C.2.1 dX12_tray_69 (lv_at hl 0 rfl) ?_
  refine lv_bipush (v := 40) C.1 C.2.1 dX12_tray_71 (by decide) ?_
  refine b_icmp_ge_f C (tgt := 95) dX12_tray_73 (by decide) (by decide) ?_
  refine lv_aload_n C.1 C.2.1 dX12_tray_76 rfl (lv_at hl 1 rfl) ?_
  refine r_get C w 0 rfl rfl 31 (by decide) fl_RX12_64 (v := .ref a17) rfl dX12_tray_77 ?_
  refine lv_bipush (v := 40) C.1 C.2.1 dX12_tray_80 (by decide) ?_
  refine lv_iload_n C.1 C.2.1 dX12_tray_82 rfl (lv_at hl 2 rfl) ?_
  refine r_imul C (v := 120) dX12_tray_83 (by decide) ?_
  refine lv_iload C.1 C.2.1 dX12_tray_84 (lv_at hl 0 rfl) ?_
  refine r_iadd C (v := 130) dX12_tray_86 (by decide) ?_
  refine lv_lconst (v := 0) C.1 C.2.1 dX12_tray_87 (by decide) ?_
  refine r_last C w 3 rfl (vinD (by decide)) (vp_updL (vp_updL (vp_updL (vp_updL (vp_updL (vp_updL (vp_updL (vp_updL (vp_updL (vp_updL (vp_updL (fun _ => 0) 120 0) 121 0) 122 0) 123 0) 124 0) 125 0) 126 0) 127 0) 128 0) 129 0) 130 0) rfl [(a0, .inr (12, [.ref a1, .ref a2, .ref a3, .ref a4, .ref a5, .int 0, .ref a6, .int 0, .int 0, .int 0, .int 0, .int 0, .int 0, .int 0, .int 0, .int 0, .int 0, .int (-1), .ref a7, .ref a8, .int 0, .ref a9, .int 0, .ref a10, .ref a11, .ref a12, .ref a13, .ref a14, .int 0, .ref a15, .ref a16, .ref a17])), (a15, .inl (cy 1, 4, .inl (upd (upd (upd (upd (upd (fun _ => 0) 0 (-1)) 1 (-1)) 2 (-1)) 3 (-1)) 3 x1))), (a16, .inl (cy 1, 4, .inl (upd (fun _ => 0) 3 x2))), (a17, .inl (cy 2, 160, .inr (.inl (vp_updL (vp_updL (vp_updL (vp_updL (vp_updL (vp_updL (vp_updL (vp_updL (vp_updL (vp_updL (vp_updL (fun _ => 0) 120 0) 121 0) 122 0) 123 0) 124 0) 125 0) 126 0) 127 0) 128 0) 129 0) 130 0))))] rfl dX12_tray_88 (fun H locs w => ?_)
  refine lv_iinc (v := 11) (lv' := [(4, .int 11), (0, .ref a0), (1, .int 3), (2, .int x1), (3, .int x2)]) C.1 C.2.1 dX12_tray_89 hl (k := 0) rfl (by decide) (by decide) rfl (fun ls hl => ?_)
  refine lv_goto (tgt := 69) C.1 C.2.1 dX12_tray_92 (by decide) ?_
  refine lv_iload C.1 C.2.1 dX12_tray_69 (lv_at hl 0 rfl) ?_
  refine lv_bipush (v := 40) C.1 C.2.1 dX12_tray_71 (by decide) ?_
  refine b_icmp_ge_f C (tgt := 95) dX12_tray_73 (by decide) (by decide) ?_
  refine lv_aload_n C.1 C.2.1 dX12_tray_76 rfl (lv_at hl 1 rfl) ?_
  refine r_get C w 0 rfl rfl 31 (by decide) fl_RX12_64 (v := .ref a17) rfl dX12_tray_77 ?_
  refine lv_bipush (v := 40) C.1 C.2.1 dX12_tray_80 (by decide) ?_
  refine lv_iload_n C.1 C.2.1 dX12_tray_82 rfl (lv_at hl 2 rfl) ?_
  refine r_imul C (v := 120) dX12_tray_83 (by decide) ?_
  refine lv_iload C.1 C.2.1 dX12_tray_84 (lv_at hl 0 rfl) ?_
  refine r_iadd C (v := 131) dX12_tray_86 (by decide) ?_
  refine lv_lconst (v := 0) C.1 C.2.1 dX12_tray_87 (by decide) ?_
  refine r_last C w 3 rfl (vinD (by decide)) (vp_updL (vp_updL (vp_updL (vp_updL (vp_updL (vp_updL (vp_updL (vp_updL (vp_updL (vp_updL (vp_updL (vp_updL (fun _ => 0) 120 0) 121 0) 122 0) 123 0) 124 0) 125 0) 126 0) 127 0) 128 0) 129 0) 130 0) 131 0) rfl [(a0, .inr (12, [.ref a1, .ref a2, .ref a3, .ref a4, .ref a5, .int 0, .ref a6, .int 0, .int 0, .int 0, .int 0, .int 0, .int 0, .int 0, .int 0, .int 0, .int 0, .int (-1), .ref a7, .ref a8, .int 0, .ref a9, .int 0, .ref a10, .ref a11, .ref a12, .ref a13, .ref a14, .int 0, .ref a15, .ref a16, .ref a17])), (a15, .inl (cy 1, 4, .inl (upd (upd (upd (upd (upd (fun _ => 0) 0 (-1)) 1 (-1)) 2 (-1)) 3 (-1)) 3 x1))), (a16, .inl (cy 1, 4, .inl (upd (fun _ => 0) 3 x2))), (a17, .inl (cy 2, 160, .inr (.inl (vp_updL (vp_updL (vp_updL (vp_updL (vp_updL (vp_updL (vp_updL (vp_updL (vp_updL (vp_updL (vp_updL (vp_updL (fun _ => 0) 120 0) 121 0) 122 0) 123 0) 124 0) 125 0) 126 0) 127 0) 128 0) 129 0) 130 0) 131 0))))] rfl dX12_tray_88 (fun H locs w => ?_)
  refine lv_iinc (v := 12) (lv' := [(4, .int 12), (0, .ref a0), (1, .int 3), (2, .int x1), (3, .int x2)]) C.1 C.2.1 dX12_tray_89 hl (k := 0) rfl (by decide) (by decide) rfl (fun ls hl => ?_)
  refine lv_goto (tgt := 69) C.1 C.2.1 dX12_tray_92 (by decide) ?_
  refine lv_iload C.1 C.2.1 dX12_tray_69 (lv_at hl 0 rfl) ?_
  refine lv_bipush (v := 40) C.1 C.2.1 dX12_tray_71 (by decide) ?_
  refine b_icmp_ge_f C (tgt := 95) dX12_tray_73 (by decide) (by decide) ?_
  refine lv_aload_n C.1 C.2.1 dX12_tray_76 rfl (lv_at hl 1 rfl) ?_
  refine r_get C w 0 rfl rfl 31 (by decide) fl_RX12_64 (v := .ref a17) rfl dX12_tray_77 ?_
  refine lv_bipush (v := 40) C.1 C.2.1 dX12_tray_80 (by decide) ?_
  refine lv_iload_n C.1 C.2.1 dX12_tray_82 rfl (lv_at hl 2 rfl) ?_
  refine r_imul C (v := 120) dX12_tray_83 (by decide) ?_
  refine lv_iload C.1 C.2.1 dX12_tray_84 (lv_at hl 0 rfl) ?_
  refine r_iadd C (v := 132) dX12_tray_86 (by decide) ?_
  refine lv_lconst (v := 0) C.1 C.2.1 dX12_tray_87 (by decide) ?_
  refine r_last C w 3 rfl (vinD (by decide)) (vp_updL (vp_updL (vp_updL (vp_updL (vp_updL (vp_updL (vp_updL (vp_updL (vp_updL (vp_updL (vp_updL (vp_updL (vp_updL (fun _ => 0) 120 0) 121 0) 122 0) 123 0) 124 0) 125 0) 126 0) 127 0) 128 0) 129 0) 130 0) 131 0) 132 0) rfl [(a0, .inr (12, [.ref a1, .ref a2, .ref a3, .ref a4, .ref a5, .int 0, .ref a6, .int 0, .int 0, .int 0, .int 0, .int 0, .int 0, .int 0, .int 0, .int 0, .int 0, .int (-1), .ref a7, .ref a8, .int 0, .ref a9, .int 0, .ref a10, .ref a11, .ref a12, .ref a13, .ref a14, .int 0, .ref a15, .ref a16, .ref a17])), (a15, .inl (cy 1, 4, .inl (upd (upd (upd (upd (upd (fun _ => 0) 0 (-1)) 1 (-1)) 2 (-1)) 3 (-1)) 3 x1))), (a16, .inl (cy 1, 4, .inl (upd (fun _ => 0) 3 x2))), (a17, .inl (cy 2, 160, .inr (.inl (vp_updL (vp_updL (vp_updL (vp_updL (vp_updL (vp_updL (vp_updL (vp_updL (vp_updL (vp_updL (vp_updL (vp_updL (vp_updL (fun _ => 0) 120 0) 121 0) 122 0) 123 0) 124 0) 125 0) 126 0) 127 0) 128 0) 129 0) 130 0) 131 0) 132 0))))] rfl dX12_tray_88 (fun H locs w => ?_)
  refine lv_iinc (v := 13) (lv' := [(4, .int 13), (0, .ref a0), (1, .int 3), (2, .int x1), (3, .int x2)]) C.1 C.2.1 dX12_tray_89 hl (k := 0) rfl (by decide) (by decide) rfl (fun ls hl => ?_)
  refine lv_goto (tgt := 69) C.1 C.2.1 dX12_tray_92 (by decide) ?_
  refine lv_iload C.1 C.2.1 dX12_tray_69 (lv_at hl 0 rfl) ?_
  refine lv_bipush (v := 40) C.1 C.2.1 dX12_tray_71 (by decide) ?_
  refine b_icmp_ge_f C (tgt := 95) dX12_tray_73 (by decide) (by decide) ?_
  refine lv_aload_n C.1 C.2.1 dX12_tray_76 rfl (lv_at hl 1 rfl) ?_
  refine r_get C w 0 rfl rfl 31 (by decide) fl_RX12_64 (v := .ref a17) rfl dX12_tray_77 ?_
  refine lv_bipush (v := 40) C.1 C.2.1 dX12_tray_80 (by decide) ?_
  refine lv_iload_n C.1 C.2.1 dX12_tray_82 rfl (lv_at hl 2 rfl) ?_
  refine r_imul C (v := 120) dX12_tray_83 (by decide) ?_
  refine lv_iload C.1 C.2.1 dX12_tray_84 (lv_at hl 0 rfl) ?_
  refine r_iadd C (v := 133) dX12_tray_86 (by decide) ?_
  refine lv_lconst (v := 0) C.1 C.2.1 dX12_tray_87 (by decide) ?_
  refine r_last C w 3 rfl (vinD (by decide)) (vp_updL (vp_updL (vp_updL (vp_updL (vp_updL (vp_updL (vp_updL (vp_updL (vp_updL (vp_updL (vp_updL (vp_updL (vp_updL (vp_updL (fun _ => 0) 120 0) 121 0) 122 0) 123 0) 124 0) 125 0) 126 0) 127 0) 128 0) 129 0) 130 0) 131 0) 132 0) 133 0) rfl [(a0, .inr (12, [.ref a1, .ref a2, .ref a3, .ref a4, .ref a5, .int 0, .ref a6, .int 0, .int 0, .int 0, .int 0, .int 0, .int 0, .int 0, .int 0, .int 0, .int 0, .int (-1), .ref a7, .ref a8, .int 0, .ref a9, .int 0, .ref a10, .ref a11, .ref a12, .ref a13, .ref a14, .int 0, .ref a15, .ref a16, .ref a17])), (a15, .inl (cy 1, 4, .inl (upd (upd (upd (upd (upd (fun _ => 0) 0 (-1)) 1 (-1)) 2 (-1)) 3 (-1)) 3 x1))), (a16, .inl (cy 1, 4, .inl (upd (fun _ => 0) 3 x2))), (a17, .inl (cy 2, 160, .inr (.inl (vp_updL (vp_updL (vp_updL (vp_updL (vp_updL (vp_updL (vp_updL (vp_updL (vp_updL (vp_updL (vp_updL (vp_updL (vp_updL (vp_updL (fun _ => 0) 120 0) 121 0) 122 0) 123 0) 124 0) 125 0) 126 0) 127 0) 128 0) 129 0) 130 0) 131 0) 132 0) 133 0))))] rfl dX12_tray_88 (fun H locs w => ?_)
  refine lv_iinc (v := 14) (lv' := [(4, .int 14), (0, .ref a0), (1, .int 3), (2, .int x1), (3, .int x2)]) C.1 C.2.1 dX12_tray_89 hl (k := 0) rfl (by decide) (by decide) rfl (fun ls hl => ?_)
  refine lv_goto (tgt := 69) C.1 C.2.1 dX12_tray_92 (by decide) ?_
  refine lv_iload C.1 C.2.1 dX12_tray_69 (lv_at hl 0 rfl) ?_
  refine lv_bipush (v := 40) C.1 C.2.1 dX12_tray_71 (by decide) ?_
  refine b_icmp_ge_f C (tgt := 95) dX12_tray_73 (by decide) (by decide) ?_
  refine lv_aload_n C.1 C.2.1 dX12_tray_76 rfl (lv_at hl 1 rfl) ?_
  refine r_get C w 0 rfl rfl 31 (by decide) fl_RX12_64 (v := .ref a17) rfl dX12_tray_77 ?_
  refine lv_bipush (v := 40) C.1 C.2.1 dX12_tray_80 (by decide) ?_
  refine lv_iload_n C.1 C.2.1 dX12_tray_82 rfl (lv_at hl 2 rfl) ?_
  refine r_imul C (v := 120) dX12_tray_83 (by decide) ?_
  refine lv_iload C.1 C.2.1 dX12_tray_84 (lv_at hl 0 rfl) ?_
  refine r_iadd C (v := 134) dX12_tray_86 (by decide) ?_
  refine lv_lconst (v := 0) C.1 C.2.1 dX12_tray_87 (by decide) ?_
  refine r_last C w 3 rfl (vinD (by decide)) (vp_updL (vp_updL (vp_updL (vp_updL (vp_updL (vp_updL (vp_updL (vp_updL (vp_updL (vp_updL (vp_updL (vp_updL (vp_updL (vp_updL (vp_updL (fun _ => 0) 120 0) 121 0) 122 0) 123 0) 124 0) 125 0) 126 0) 127 0) 128 0) 129 0) 130 0) 131 0) 132 0) 133 0) 134 0) rfl [(a0, .inr (12, [.ref a1, .ref a2, .ref a3, .ref a4, .ref a5, .int 0, .ref a6, .int 0, .int 0, .int 0, .int 0, .int 0, .int 0, .int 0, .int 0, .int 0, .int 0, .int (-1), .ref a7, .ref a8, .int 0, .ref a9, .int 0, .ref a10, .ref a11, .ref a12, .ref a13, .ref a14, .int 0, .ref a15, .ref a16, .ref a17])), (a15, .inl (cy 1, 4, .inl (upd (upd (upd (upd (upd (fun _ => 0) 0 (-1)) 1 (-1)) 2 (-1)) 3 (-1)) 3 x1))), (a16, .inl (cy 1, 4, .inl (upd (fun _ => 0) 3 x2))), (a17, .inl (cy 2, 160, .inr (.inl (vp_updL (vp_updL (vp_updL (vp_updL (vp_updL (vp_updL (vp_updL (vp_updL (vp_updL (vp_updL (vp_updL (vp_updL (vp_updL (vp_updL (vp_updL (fun _ => 0) 120 0) 121 0) 122 0) 123 0) 124 0) 125 0) 126 0) 127 0) 128 0) 129 0) 130 0) 131 0) 132 0) 133 0) 134 0))))] rfl dX12_tray_88 (fun H locs w => ?_)
  refine lv_iinc (v := 15) (lv' := [(4, .int 15), (0, .ref a0), (1, .int 3), (2, .int x1), (3, .int x2)]) C.1 C.2.1 dX12_tray_89 hl (k := 0) rfl (by decide) (by decide) rfl (fun ls hl => ?_)
  refine lv_goto (tgt := 69) C.1 C.2.1 dX12_tray_92 (by decide) ?_
  refine lv_iload C.1 C.2.1 dX12_tray_69 (lv_at hl 0 rfl) ?_
  refine lv_bipush (v := 40) C.1 C.2.1 dX12_tray_71 (by decide) ?_
  refine b_icmp_ge_f C (tgt := 95) dX12_tray_73 (by decide) (by decide) ?_
  refine lv_aload_n C.1 C.2.1 dX12_tray_76 rfl (lv_at hl 1 rfl) ?_
  refine r_get C w 0 rfl rfl 31 (by decide) fl_RX12_64 (v := .ref a17) rfl dX12_tray_77 ?_
  refine lv_bipush (v := 40) C.1 C.2.1 dX12_tray_80 (by decide) ?_
  refine lv_iload_n C.1 C.2.1 dX12_tray_82 rfl (lv_at hl 2 rfl) ?_
  refine r_imul C (v := 120) dX12_tray_83 (by decide) ?_
  refine lv_iload C.1 C.2.1 dX12_tray_84 (lv_at hl 0 rfl) ?_
  refine r_iadd C (v := 135) dX12_tray_86 (by decide) ?_
  refine lv_lconst (v := 0) C.1 C.2.1 dX12_tray_87 (by decide) ?_
  refine r_last C w 3 rfl (vinD (by decide)) (vp_updL (vp_updL (vp_updL (vp_updL (vp_updL (vp_updL (vp_updL (vp_updL (vp_updL (vp_updL (vp_updL (vp_updL (vp_updL (vp_updL (vp_updL (vp_updL (fun _ => 0) 120 0) 121 0) 122 0) 123 0) 124 0) 125 0) 126 0) 127 0) 128 0) 129 0) 130 0) 131 0) 132 0) 133 0) 134 0) 135 0) rfl [(a0, .inr (12, [.ref a1, .ref a2, .ref a3, .ref a4, .ref a5, .int 0, .ref a6, .int 0, .int 0, .int 0, .int 0, .int 0, .int 0, .int 0, .int 0, .int 0, .int 0, .int (-1), .ref a7, .ref a8, .int 0, .ref a9, .int 0, .ref a10, .ref a11, .ref a12, .ref a13, .ref a14, .int 0, .ref a15, .ref a16, .ref a17])), (a15, .inl (cy 1, 4, .inl (upd (upd (upd (upd (upd (fun _ => 0) 0 (-1)) 1 (-1)) 2 (-1)) 3 (-1)) 3 x1))), (a16, .inl (cy 1, 4, .inl (upd (fun _ => 0) 3 x2))), (a17, .inl (cy 2, 160, .inr (.inl (vp_updL (vp_updL (vp_updL (vp_updL (vp_updL (vp_updL (vp_updL (vp_updL (vp_updL (vp_updL (vp_updL (vp_updL (vp_updL (vp_updL (vp_updL (vp_updL (fun _ => 0) 120 0) 121 0) 122 0) 123 0) 124 0) 125 0) 126 0) 127 0) 128 0) 129 0) 130 0) 131 0) 132 0) 133 0) 134 0) 135 0))))] rfl dX12_tray_88 (fun H locs w => ?_)
  refine lv_iinc (v := 16) (lv' := [(4, .int 16), (0, .ref a0), (1, .int 3), (2, .int x1), (3, .int x2)]) C.1 C.2.1 dX12_tray_89 hl (k := 0) rfl (by decide) (by decide) rfl (fun ls hl => ?_)
  refine lv_goto (tgt := 69) C.1 C.2.1 dX12_tray_92 (by decide) ?_
  refine lv_iload C.1 C.2.1 dX12_tray_69 (lv_at hl 0 rfl) ?_
  refine lv_bipush (v := 40) C.1 C.2.1 dX12_tray_71 (by decide) ?_
  refine b_icmp_ge_f C (tgt := 95) dX12_tray_73 (by decide) (by decide) ?_
  refine lv_aload_n C.1 C.2.1 dX12_tray_76 rfl (lv_at hl 1 rfl) ?_
  refine r_get C w 0 rfl rfl 31 (by decide) fl_RX12_64 (v := .ref a17) rfl dX12_tray_77 ?_
  refine lv_bipush (v := 40) C.1 C.2.1 dX12_tray_80 (by decide) ?_
  refine lv_iload_n C.1 C.2.1 dX12_tray_82 rfl (lv_at hl 2 rfl) ?_
  refine r_imul C (v := 120) dX12_tray_83 (by decide) ?_
  refine lv_iload C.1 C.2.1 dX12_tray_84 (lv_at hl 0 rfl) ?_
  refine r_iadd C (v := 136) dX12_tray_86 (by decide) ?_
  refine lv_lconst (v := 0) C.1 C.2.1 dX12_tray_87 (by decide) ?_
  refine r_last C w 3 rfl (vinD (by decide)) (vp_updL (vp_updL (vp_updL (vp_updL (vp_updL (vp_updL (vp_updL (vp_updL (vp_updL (vp_updL (vp_updL (vp_updL (vp_updL (vp_updL (vp_updL (vp_updL (vp_updL (fun _ => 0) 120 0) 121 0) 122 0) 123 0) 124 0) 125 0) 126 0) 127 0) 128 0) 129 0) 130 0) 131 0) 132 0) 133 0) 134 0) 135 0) 136 0) rfl [(a0, .inr (12, [.ref a1, .ref a2, .ref a3, .ref a4, .ref a5, .int 0, .ref a6, .int 0, .int 0, .int 0, .int 0, .int 0, .int 0, .int 0, .int 0, .int 0, .int 0, .int (-1), .ref a7, .ref a8, .int 0, .ref a9, .int 0, .ref a10, .ref a11, .ref a12, .ref a13, .ref a14, .int 0, .ref a15, .ref a16, .ref a17])), (a15, .inl (cy 1, 4, .inl (upd (upd (upd (upd (upd (fun _ => 0) 0 (-1)) 1 (-1)) 2 (-1)) 3 (-1)) 3 x1))), (a16, .inl (cy 1, 4, .inl (upd (fun _ => 0) 3 x2))), (a17, .inl (cy 2, 160, .inr (.inl (vp_updL (vp_updL (vp_updL (vp_updL (vp_updL (vp_updL (vp_updL (vp_updL (vp_updL (vp_updL (vp_updL (vp_updL (vp_updL (vp_updL (vp_updL (vp_updL (vp_updL (fun _ => 0) 120 0) 121 0) 122 0) 123 0) 124 0) 125 0) 126 0) 127 0) 128 0) 129 0) 130 0) 131 0) 132 0) 133 0) 134 0) 135 0) 136 0))))] rfl dX12_tray_88 (fun H locs w => ?_)
  refine lv_iinc (v := 17) (lv' := [(4, .int 17), (0, .ref a0), (1, .int 3), (2, .int x1), (3, .int x2)]) C.1 C.2.1 dX12_tray_89 hl (k := 0) rfl (by decide) (by decide) rfl (fun ls hl => ?_)
  refine lv_goto (tgt := 69) C.1 C.2.1 dX12_tray_92 (by decide) ?_
  refine lv_iload C.1 C.2.1 dX12_tray_69 (lv_at hl 0 rfl) ?_
  refine lv_bipush (v := 40) C.1 C.2.1 dX12_tray_71 (by decide) ?_
  refine b_icmp_ge_f C (tgt := 95) dX12_tray_73 (by decide) (by decide) ?_
  refine lv_aload_n C.1 C.2.1 dX12_tray_76 rfl (lv_at hl 1 rfl) ?_
  refine r_get C w 0 rfl rfl 31 (by decide) fl_RX12_64 (v := .ref a17) rfl dX12_tray_77 ?_
  refine lv_bipush (v := 40) C.1 C.2.1 dX12_tray_80 (by decide) ?_
  refine lv_iload_n C.1 C.2.1 dX12_tray_82 rfl (lv_at hl 2 rfl) ?_
  refine r_imul C (v := 120) dX12_tray_83 (by decide) ?_
  refine lv_iload C.1 C.2.1 dX12_tray_84 (lv_at hl 0 rfl) ?_
  refine r_iadd C (v := 137) dX12_tray_86 (by decide) ?_
  refine lv_lconst (v := 0) C.1 C.2.1 dX12_tray_87 (by decide) ?_
  refine r_last C w 3 rfl (vinD (by decide)) (vp_updL (vp_updL (vp_updL (vp_updL (vp_updL (vp_updL (vp_updL (vp_updL (vp_updL (vp_updL (vp_updL (vp_updL (vp_updL (vp_updL (vp_updL (vp_updL (vp_updL (vp_updL (fun _ => 0) 120 0) 121 0) 122 0) 123 0) 124 0) 125 0) 126 0) 127 0) 128 0) 129 0) 130 0) 131 0) 132 0) 133 0) 134 0) 135 0) 136 0) 137 0) rfl [(a0, .inr (12, [.ref a1, .ref a2, .ref a3, .ref a4, .ref a5, .int 0, .ref a6, .int 0, .int 0, .int 0, .int 0, .int 0, .int 0, .int 0, .int 0, .int 0, .int 0, .int (-1), .ref a7, .ref a8, .int 0, .ref a9, .int 0, .ref a10, .ref a11, .ref a12, .ref a13, .ref a14, .int 0, .ref a15, .ref a16, .ref a17])), (a15, .inl (cy 1, 4, .inl (upd (upd (upd (upd (upd (fun _ => 0) 0 (-1)) 1 (-1)) 2 (-1)) 3 (-1)) 3 x1))), (a16, .inl (cy 1, 4, .inl (upd (fun _ => 0) 3 x2))), (a17, .inl (cy 2, 160, .inr (.inl (vp_updL (vp_updL (vp_updL (vp_updL (vp_updL (vp_updL (vp_updL (vp_updL (vp_updL (vp_updL (vp_updL (vp_updL (vp_updL (vp_updL (vp_updL (vp_updL (vp_updL (vp_updL (fun _ => 0) 120 0) 121 0) 122 0) 123 0) 124 0) 125 0) 126 0) 127 0) 128 0) 129 0) 130 0) 131 0) 132 0) 133 0) 134 0) 135 0) 136 0) 137 0))))] rfl dX12_tray_88 (fun H locs w => ?_)
  refine lv_iinc (v := 18) (lv' := [(4, .int 18), (0, .ref a0), (1, .int 3), (2, .int x1), (3, .int x2)]) C.1 C.2.1 dX12_tray_89 hl (k := 0) rfl (by decide) (by decide) rfl (fun ls hl => ?_)
  refine lv_goto (tgt := 69) C.1 C.2.1 dX12_tray_92 (by decide) ?_
  refine lv_iload C.1 C.2.1 dX12_tray_69 (lv_at hl 0 rfl) ?_
  refine lv_bipush (v := 40) C.1 C.2.1 dX12_tray_71 (by decide) ?_
  refine b_icmp_ge_f C (tgt := 95) dX12_tray_73 (by decide) (by decide) ?_
  refine lv_aload_n C.1 C.2.1 dX12_tray_76 rfl (lv_at hl 1 rfl) ?_
  refine r_get C w 0 rfl rfl 31 (by decide) fl_RX12_64 (v := .ref a17) rfl dX12_tray_77 ?_
  refine lv_bipush (v := 40) C.1 C.2.1 dX12_tray_80 (by decide) ?_
  refine lv_iload_n C.1 C.2.1 dX12_tray_82 rfl (lv_at hl 2 rfl) ?_
  refine r_imul C (v := 120) dX12_tray_83 (by decide) ?_
  refine lv_iload C.1 C.2.1 dX12_tray_84 (lv_at hl 0 rfl) ?_
  refine r_iadd C (v := 138) dX12_tray_86 (by decide) ?_
  refine lv_lconst (v := 0) C.1 C.2.1 dX12_tray_87 (by decide) ?_
  refine r_last C w 3 rfl (vinD (by decide)) (vp_updL (vp_updL (vp_updL (vp_updL (vp_updL (vp_updL (vp_updL (vp_updL (vp_updL (vp_updL (vp_updL (vp_updL (vp_updL (vp_updL (vp_updL (vp_updL (vp_updL (vp_updL (vp_updL (fun _ => 0) 120 0) 121 0) 122 0) 123 0) 124 0) 125 0) 126 0) 127 0) 128 0) 129 0) 130 0) 131 0) 132 0) 133 0) 134 0) 135 0) 136 0) 137 0) 138 0) rfl [(a0, .inr (12, [.ref a1, .ref a2, .ref a3, .ref a4, .ref a5, .int 0, .ref a6, .int 0, .int 0, .int 0, .int 0, .int 0, .int 0, .int 0, .int 0, .int 0, .int 0, .int (-1), .ref a7, .ref a8, .int 0, .ref a9, .int 0, .ref a10, .ref a11, .ref a12, .ref a13, .ref a14, .int 0, .ref a15, .ref a16, .ref a17])), (a15, .inl (cy 1, 4, .inl (upd (upd (upd (upd (upd (fun _ => 0) 0 (-1)) 1 (-1)) 2 (-1)) 3 (-1)) 3 x1))), (a16, .inl (cy 1, 4, .inl (upd (fun _ => 0) 3 x2))), (a17, .inl (cy 2, 160, .inr (.inl (vp_updL (vp_updL (vp_updL (vp_updL (vp_updL (vp_updL (vp_updL (vp_updL (vp_updL (vp_updL (vp_updL (vp_updL (vp_updL (vp_updL (vp_updL (vp_updL (vp_updL (vp_updL (vp_updL (fun _ => 0) 120 0) 121 0) 122 0) 123 0) 124 0) 125 0) 126 0) 127 0) 128 0) 129 0) 130 0) 131 0) 132 0) 133 0) 134 0) 135 0) 136 0) 137 0) 138 0))))] rfl dX12_tray_88 (fun H locs w => ?_)
  refine lv_iinc (v := 19) (lv' := [(4, .int 19), (0, .ref a0), (1, .int 3), (2, .int x1), (3, .int x2)]) C.1 C.2.1 dX12_tray_89 hl (k := 0) rfl (by decide) (by decide) rfl (fun ls hl => ?_)
  refine lv_goto (tgt := 69) C.1 C.2.1 dX12_tray_92 (by decide) ?_
  refine lv_iload C.1 C.2.1 dX12_tray_69 (lv_at hl 0 rfl) ?_
  refine lv_bipush (v := 40) C.1 C.2.1 dX12_tray_71 (by decide) ?_
  refine b_icmp_ge_f C (tgt := 95) dX12_tray_73 (by decide) (by decide) ?_
  refine lv_aload_n C.1 C.2.1 dX12_tray_76 rfl (lv_at hl 1 rfl) ?_
  refine r_get C w 0 rfl rfl 31 (by decide) fl_RX12_64 (v := .ref a17) rfl dX12_tray_77 ?_
  refine lv_bipush (v := 40) C.1 C.2.1 dX12_tray_80 (by decide) ?_
  refine lv_iload_n C.1 C.2.1 dX12_tray_82 rfl (lv_at hl 2 rfl) ?_
  refine r_imul C (v := 120) dX12_tray_83 (by decide) ?_
  refine lv_iload C.1 C.2.1 dX12_tray_84 (lv_at hl 0 rfl) ?_
  refine r_iadd C (v := 139) dX12_tray_86 (by decide) ?_
  refine lv_lconst (v := 0) C.1 C.2.1 dX12_tray_87 (by decide) ?_
  refine r_last C w 3 rfl (vinD (by decide)) (vp_updL (vp_updL (vp_updL (vp_updL (vp_updL (vp_updL (vp_updL (vp_updL (vp_updL (vp_updL (vp_updL (vp_updL (vp_updL (vp_updL (vp_updL (vp_updL (vp_updL (vp_updL (vp_updL (vp_updL (fun _ => 0) 120 0) 121 0) 122 0) 123 0) 124 0) 125 0) 126 0) 127 0) 128 0) 129 0) 130 0) 131 0) 132 0) 133 0) 134 0) 135 0) 136 0) 137 0) 138 0) 139 0) rfl [(a0, .inr (12, [.ref a1, .ref a2, .ref a3, .ref a4, .ref a5, .int 0, .ref a6, .int 0, .int 0, .int 0, .int 0, .int 0, .int 0, .int 0, .int 0, .int 0, .int 0, .int (-1), .ref a7, .ref a8, .int 0, .ref a9, .int 0, .ref a10, .ref a11, .ref a12, .ref a13, .ref a14, .int 0, .ref a15, .ref a16, .ref a17])), (a15, .inl (cy 1, 4, .inl (upd (upd (upd (upd (upd (fun _ => 0) 0 (-1)) 1 (-1)) 2 (-1)) 3 (-1)) 3 x1))), (a16, .inl (cy 1, 4, .inl (upd (fun _ => 0) 3 x2))), (a17, .inl (cy 2, 160, .inr (.inl (vp_updL (vp_updL (vp_updL (vp_updL (vp_updL (vp_updL (vp_updL (vp_updL (vp_updL (vp_updL (vp_updL (vp_updL (vp_updL (vp_updL (vp_updL (vp_updL (vp_updL (vp_updL (vp_updL (vp_updL (fun _ => 0) 120 0) 121 0) 122 0) 123 0) 124 0) 125 0) 126 0) 127 0) 128 0) 129 0) 130 0) 131 0) 132 0) 133 0) 134 0) 135 0) 136 0) 137 0) 138 0) 139 0))))] rfl dX12_tray_88 (fun H locs w => ?_)
  refine lv_iinc (v := 20) (lv' := [(4, .int 20), (0, .ref a0), (1, .int 3), (2, .int x1), (3, .int x2)]) C.1 C.2.1 dX12_tray_89 hl (k := 0) rfl (by decide) (by decide) rfl (fun ls hl => ?_)
  refine lv_goto (tgt := 69) C.1 C.2.1 dX12_tray_92 (by decide) ?_
  refine lv_iload C.1 C.2.1 dX12_tray_69 (lv_at hl 0 rfl) ?_
  refine lv_bipush (v := 40) C.1 C.2.1 dX12_tray_71 (by decide) ?_
  refine b_icmp_ge_f C (tgt := 95) dX12_tray_73 (by decide) (by decide) ?_
  refine lv_aload_n C.1 C.2.1 dX12_tray_76 rfl (lv_at hl 1 rfl) ?_
  refine r_get C w 0 rfl rfl 31 (by decide) fl_RX12_64 (v := .ref a17) rfl dX12_tray_77 ?_
  refine lv_bipush (v := 40) C.1 C.2.1 dX12_tray_80 (by decide) ?_
  refine lv_iload_n C.1 C.2.1 dX12_tray_82 rfl (lv_at hl 2 rfl) ?_
  refine r_imul C (v := 120) dX12_tray_83 (by decide) ?_
  refine lv_iload C.1 C.2.1 dX12_tray_84 (lv_at hl 0 rfl) ?_
  refine r_iadd C (v := 140) dX12_tray_86 (by decide) ?_
  refine lv_lconst (v := 0) C.1 C.2.1 dX12_tray_87 (by decide) ?_
  refine r_last C w 3 rfl (vinD (by decide)) (vp_updL (vp_updL (vp_updL (vp_updL (vp_updL (vp_updL (vp_updL (vp_updL (vp_updL (vp_updL (vp_updL (vp_updL (vp_updL (vp_updL (vp_updL (vp_updL (vp_updL (vp_updL (vp_updL (vp_updL (vp_updL (fun _ => 0) 120 0) 121 0) 122 0) 123 0) 124 0) 125 0) 126 0) 127 0) 128 0) 129 0) 130 0) 131 0) 132 0) 133 0) 134 0) 135 0) 136 0) 137 0) 138 0) 139 0) 140 0) rfl [(a0, .inr (12, [.ref a1, .ref a2, .ref a3, .ref a4, .ref a5, .int 0, .ref a6, .int 0, .int 0, .int 0, .int 0, .int 0, .int 0, .int 0, .int 0, .int 0, .int 0, .int (-1), .ref a7, .ref a8, .int 0, .ref a9, .int 0, .ref a10, .ref a11, .ref a12, .ref a13, .ref a14, .int 0, .ref a15, .ref a16, .ref a17])), (a15, .inl (cy 1, 4, .inl (upd (upd (upd (upd (upd (fun _ => 0) 0 (-1)) 1 (-1)) 2 (-1)) 3 (-1)) 3 x1))), (a16, .inl (cy 1, 4, .inl (upd (fun _ => 0) 3 x2))), (a17, .inl (cy 2, 160, .inr (.inl (vp_updL (vp_updL (vp_updL (vp_updL (vp_updL (vp_updL (vp_updL (vp_updL (vp_updL (vp_updL (vp_updL (vp_updL (vp_updL (vp_updL (vp_updL (vp_updL (vp_updL (vp_updL (vp_updL (vp_updL (vp_updL (fun _ => 0) 120 0) 121 0) 122 0) 123 0) 124 0) 125 0) 126 0) 127 0) 128 0) 129 0) 130 0) 131 0) 132 0) 133 0) 134 0) 135 0) 136 0) 137 0) 138 0) 139 0) 140 0))))] rfl dX12_tray_88 (fun H locs w => ?_)
  refine lv_iinc (v := 21) (lv' := [(4, .int 21), (0, .ref a0), (1, .int 3), (2, .int x1), (3, .int x2)]) C.1 C.2.1 dX12_tray_89 hl (k := 0) rfl (by decide) (by decide) rfl (fun ls hl => ?_)
  refine lv_goto (tgt := 69) C.1 C.2.1 dX12_tray_92 (by decide) ?_
  refine lv_iload C.1 C.2.1 dX12_tray_69 (lv_at hl 0 rfl) ?_
  refine lv_bipush (v := 40) C.1 C.2.1 dX12_tray_71 (by decide) ?_
  refine b_icmp_ge_f C (tgt := 95) dX12_tray_73 (by decide) (by decide) ?_
  refine lv_aload_n C.1 C.2.1 dX12_tray_76 rfl (lv_at hl 1 rfl) ?_
  refine r_get C w 0 rfl rfl 31 (by decide) fl_RX12_64 (v := .ref a17) rfl dX12_tray_77 ?_
  refine lv_bipush (v := 40) C.1 C.2.1 dX12_tray_80 (by decide) ?_
  refine lv_iload_n C.1 C.2.1 dX12_tray_82 rfl (lv_at hl 2 rfl) ?_
  refine r_imul C (v := 120) dX12_tray_83 (by decide) ?_
  refine lv_iload C.1 C.2.1 dX12_tray_84 (lv_at hl 0 rfl) ?_
  refine r_iadd C (v := 141) dX12_tray_86 (by decide) ?_
  refine lv_lconst (v := 0) C.1 C.2.1 dX12_tray_87 (by decide) ?_
  refine r_last C w 3 rfl (vinD (by decide)) (vp_updL (vp_updL (vp_updL (vp_updL (vp_updL (vp_updL (vp_updL (vp_updL (vp_updL (vp_updL (vp_updL (vp_updL (vp_updL (vp_updL (vp_updL (vp_updL (vp_updL (vp_updL (vp_updL (vp_updL (vp_updL (vp_updL (fun _ => 0) 120 0) 121 0) 122 0) 123 0) 124 0) 125 0) 126 0) 127 0) 128 0) 129 0) 130 0) 131 0) 132 0) 133 0) 134 0) 135 0) 136 0) 137 0) 138 0) 139 0) 140 0) 141 0) rfl [(a0, .inr (12, [.ref a1, .ref a2, .ref a3, .ref a4, .ref a5, .int 0, .ref a6, .int 0, .int 0, .int 0, .int 0, .int 0, .int 0, .int 0, .int 0, .int 0, .int 0, .int (-1), .ref a7, .ref a8, .int 0, .ref a9, .int 0, .ref a10, .ref a11, .ref a12, .ref a13, .ref a14, .int 0, .ref a15, .ref a16, .ref a17])), (a15, .inl (cy 1, 4, .inl (upd (upd (upd (upd (upd (fun _ => 0) 0 (-1)) 1 (-1)) 2 (-1)) 3 (-1)) 3 x1))), (a16, .inl (cy 1, 4, .inl (upd (fun _ => 0) 3 x2))), (a17, .inl (cy 2, 160, .inr (.inl (vp_updL (vp_updL (vp_updL (vp_updL (vp_updL (vp_updL (vp_updL (vp_updL (vp_updL (vp_updL (vp_updL (vp_updL (vp_updL (vp_updL (vp_updL (vp_updL (vp_updL (vp_updL (vp_updL (vp_updL (vp_updL (vp_updL (fun _ => 0) 120 0) 121 0) 122 0) 123 0) 124 0) 125 0) 126 0) 127 0) 128 0) 129 0) 130 0) 131 0) 132 0) 133 0) 134 0) 135 0) 136 0) 137 0) 138 0) 139 0) 140 0) 141 0))))] rfl dX12_tray_88 (fun H locs w => ?_)
  refine lv_iinc (v := 22) (lv' := [(4, .int 22), (0, .ref a0), (1, .int 3), (2, .int x1), (3, .int x2)]) C.1 C.2.1 dX12_tray_89 hl (k := 0) rfl (by decide) (by decide) rfl (fun ls hl => ?_)
  refine lv_goto (tgt := 69) C.1 C.2.1 dX12_tray_92 (by decide) ?_
  refine lv_iload C.1 C.2.1 dX12_tray_69 (lv_at hl 0 rfl) ?_
  refine lv_bipush (v := 40) C.1 C.2.1 dX12_tray_71 (by decide) ?_
  refine b_icmp_ge_f C (tgt := 95) dX12_tray_73 (by decide) (by decide) ?_
  refine lv_aload_n C.1 C.2.1 dX12_tray_76 rfl (lv_at hl 1 rfl) ?_
  refine r_get C w 0 rfl rfl 31 (by decide) fl_RX12_64 (v := .ref a17) rfl dX12_tray_77 ?_
  refine lv_bipush (v := 40) C.1 C.2.1 dX12_tray_80 (by decide) ?_
  refine lv_iload_n C.1 C.2.1 dX12_tray_82 rfl (lv_at hl 2 rfl) ?_
  refine r_imul C (v := 120) dX12_tray_83 (by decide) ?_
  refine lv_iload C.1 C.2.1 dX12_tray_84 (lv_at hl 0 rfl) ?_
  refine r_iadd C (v := 142) dX12_tray_86 (by decide) ?_
  refine lv_lconst (v := 0) C.1 C.2.1 dX12_tray_87 (by decide) ?_
  refine r_last C w 3 rfl (vinD (by decide)) (vp_updL (vp_updL (vp_updL (vp_updL (vp_updL (vp_updL (vp_updL (vp_updL (vp_updL (vp_updL (vp_updL (vp_updL (vp_updL (vp_updL (vp_updL (vp_updL (vp_updL (vp_updL (vp_updL (vp_updL (vp_updL (vp_updL (vp_updL (fun _ => 0) 120 0) 121 0) 122 0) 123 0) 124 0) 125 0) 126 0) 127 0) 128 0) 129 0) 130 0) 131 0) 132 0) 133 0) 134 0) 135 0) 136 0) 137 0) 138 0) 139 0) 140 0) 141 0) 142 0) rfl [(a0, .inr (12, [.ref a1, .ref a2, .ref a3, .ref a4, .ref a5, .int 0, .ref a6, .int 0, .int 0, .int 0, .int 0, .int 0, .int 0, .int 0, .int 0, .int 0, .int 0, .int (-1), .ref a7, .ref a8, .int 0, .ref a9, .int 0, .ref a10, .ref a11, .ref a12, .ref a13, .ref a14, .int 0, .ref a15, .ref a16, .ref a17])), (a15, .inl (cy 1, 4, .inl (upd (upd (upd (upd (upd (fun _ => 0) 0 (-1)) 1 (-1)) 2 (-1)) 3 (-1)) 3 x1))), (a16, .inl (cy 1, 4, .inl (upd (fun _ => 0) 3 x2))), (a17, .inl (cy 2, 160, .inr (.inl (vp_updL (vp_updL (vp_updL (vp_updL (vp_updL (vp_updL (vp_updL (vp_updL (vp_updL (vp_updL (vp_updL (vp_updL (vp_updL (vp_updL (vp_updL (vp_updL (vp_updL (vp_updL (vp_updL (vp_updL (vp_updL (vp_updL (vp_updL (fun _ => 0) 120 0) 121 0) 122 0) 123 0) 124 0) 125 0) 126 0) 127 0) 128 0) 129 0) 130 0) 131 0) 132 0) 133 0) 134 0) 135 0) 136 0) 137 0) 138 0) 139 0) 140 0) 141 0) 142 0))))] rfl dX12_tray_88 (fun H locs w => ?_)
  refine lv_iinc (v := 23) (lv' := [(4, .int 23), (0, .ref a0), (1, .int 3), (2, .int x1), (3, .int x2)]) C.1 C.2.1 dX12_tray_89 hl (k := 0) rfl (by decide) (by decide) rfl (fun ls hl => ?_)
  refine lv_goto (tgt := 69) C.1 C.2.1 dX12_tray_92 (by decide) ?_
  refine lv_iload C.1 C.2.1 dX12_tray_69 (lv_at hl 0 rfl) ?_
  refine lv_bipush (v := 40) C.1 C.2.1 dX12_tray_71 (by decide) ?_
  refine b_icmp_ge_f C (tgt := 95) dX12_tray_73 (by decide) (by decide) ?_
  refine lv_aload_n C.1 C.2.1 dX12_tray_76 rfl (lv_at hl 1 rfl) ?_
  refine r_get C w 0 rfl rfl 31 (by decide) fl_RX12_64 (v := .ref a17) rfl dX12_tray_77 ?_
  refine lv_bipush (v := 40) C.1 C.2.1 dX12_tray_80 (by decide) ?_
  refine lv_iload_n C.1 C.2.1 dX12_tray_82 rfl (lv_at hl 2 rfl) ?_
  refine r_imul C (v := 120) dX12_tray_83 (by decide) ?_
  refine lv_iload C.1 C.2.1 dX12_tray_84 (lv_at hl 0 rfl) ?_
  refine r_iadd C (v := 143) dX12_tray_86 (by decide) ?_
  refine lv_lconst (v := 0) C.1 C.2.1 dX12_tray_87 (by decide) ?_
  refine r_last C w 3 rfl (vinD (by decide)) (vp_updL (vp_updL (vp_updL (vp_updL (vp_updL (vp_updL (vp_updL (vp_updL (vp_updL (vp_updL (vp_updL (vp_updL (vp_updL (vp_updL (vp_updL (vp_updL (vp_updL (vp_updL (vp_updL (vp_updL (vp_updL (vp_updL (vp_updL (vp_updL (fun _ => 0) 120 0) 121 0) 122 0) 123 0) 124 0) 125 0) 126 0) 127 0) 128 0) 129 0) 130 0) 131 0) 132 0) 133 0) 134 0) 135 0) 136 0) 137 0) 138 0) 139 0) 140 0) 141 0) 142 0) 143 0) rfl [(a0, .inr (12, [.ref a1, .ref a2, .ref a3, .ref a4, .ref a5, .int 0, .ref a6, .int 0, .int 0, .int 0, .int 0, .int 0, .int 0, .int 0, .int 0, .int 0, .int 0, .int (-1), .ref a7, .ref a8, .int 0, .ref a9, .int 0, .ref a10, .ref a11, .ref a12, .ref a13, .ref a14, .int 0, .ref a15, .ref a16, .ref a17])), (a15, .inl (cy 1, 4, .inl (upd (upd (upd (upd (upd (fun _ => 0) 0 (-1)) 1 (-1)) 2 (-1)) 3 (-1)) 3 x1))), (a16, .inl (cy 1, 4, .inl (upd (fun _ => 0) 3 x2))), (a17, .inl (cy 2, 160, .inr (.inl (vp_updL (vp_updL (vp_updL (vp_updL (vp_updL (vp_updL (vp_updL (vp_updL (vp_updL (vp_updL (vp_updL (vp_updL (vp_updL (vp_updL (vp_updL (vp_updL (vp_updL (vp_updL (vp_updL (vp_updL (vp_updL (vp_updL (vp_updL (vp_updL (fun _ => 0) 120 0) 121 0) 122 0) 123 0) 124 0) 125 0) 126 0) 127 0) 128 0) 129 0) 130 0) 131 0) 132 0) 133 0) 134 0) 135 0) 136 0) 137 0) 138 0) 139 0) 140 0) 141 0) 142 0) 143 0))))] rfl dX12_tray_88 (fun H locs w => ?_)
  refine lv_iinc (v := 24) (lv' := [(4, .int 24), (0, .ref a0), (1, .int 3), (2, .int x1), (3, .int x2)]) C.1 C.2.1 dX12_tray_89 hl (k := 0) rfl (by decide) (by decide) rfl (fun ls hl => ?_)
  refine lv_goto (tgt := 69) C.1 C.2.1 dX12_tray_92 (by decide) ?_
  refine lv_iload C.1 C.2.1 dX12_tray_69 (lv_at hl 0 rfl) ?_
  refine lv_bipush (v := 40) C.1 C.2.1 dX12_tray_71 (by decide) ?_
  refine b_icmp_ge_f C (tgt := 95) dX12_tray_73 (by decide) (by decide) ?_
  refine lv_aload_n C.1 C.2.1 dX12_tray_76 rfl (lv_at hl 1 rfl) ?_
  refine r_get C w 0 rfl rfl 31 (by decide) fl_RX12_64 (v := .ref a17) rfl dX12_tray_77 ?_
  refine lv_bipush (v := 40) C.1 C.2.1 dX12_tray_80 (by decide) ?_
  refine lv_iload_n C.1 C.2.1 dX12_tray_82 rfl (lv_at hl 2 rfl) ?_
  refine r_imul C (v := 120) dX12_tray_83 (by decide) ?_
  refine lv_iload C.1 C.2.1 dX12_tray_84 (lv_at hl 0 rfl) ?_
  refine r_iadd C (v := 144) dX12_tray_86 (by decide) ?_
  refine lv_lconst (v := 0) C.1 C.2.1 dX12_tray_87 (by decide) ?_
  refine r_last C w 3 rfl (vinD (by decide)) (vp_updL (vp_updL (vp_updL (vp_updL (vp_updL (vp_updL (vp_updL (vp_updL (vp_updL (vp_updL (vp_updL (vp_updL (vp_updL (vp_updL (vp_updL (vp_updL (vp_updL (vp_updL (vp_updL (vp_updL (vp_updL (vp_updL (vp_updL (vp_updL (vp_updL (fun _ => 0) 120 0) 121 0) 122 0) 123 0) 124 0) 125 0) 126 0) 127 0) 128 0) 129 0) 130 0) 131 0) 132 0) 133 0) 134 0) 135 0) 136 0) 137 0) 138 0) 139 0) 140 0) 141 0) 142 0) 143 0) 144 0) rfl [(a0, .inr (12, [.ref a1, .ref a2, .ref a3, .ref a4, .ref a5, .int 0, .ref a6, .int 0, .int 0, .int 0, .int 0, .int 0, .int 0, .int 0, .int 0, .int 0, .int 0, .int (-1), .ref a7, .ref a8, .int 0, .ref a9, .int 0, .ref a10, .ref a11, .ref a12, .ref a13, .ref a14, .int 0, .ref a15, .ref a16, .ref a17])), (a15, .inl (cy 1, 4, .inl (upd (upd (upd (upd (upd (fun _ => 0) 0 (-1)) 1 (-1)) 2 (-1)) 3 (-1)) 3 x1))), (a16, .inl (cy 1, 4, .inl (upd (fun _ => 0) 3 x2))), (a17, .inl (cy 2, 160, .inr (.inl (vp_updL (vp_updL (vp_updL (vp_updL (vp_updL (vp_updL (vp_updL (vp_updL (vp_updL (vp_updL (vp_updL (vp_updL (vp_updL (vp_updL (vp_updL (vp_updL (vp_updL (vp_updL (vp_updL (vp_updL (vp_updL (vp_updL (vp_updL (vp_updL (vp_updL (fun _ => 0) 120 0) 121 0) 122 0) 123 0) 124 0) 125 0) 126 0) 127 0) 128 0) 129 0) 130 0) 131 0) 132 0) 133 0) 134 0) 135 0) 136 0) 137 0) 138 0) 139 0) 140 0) 141 0) 142 0) 143 0) 144 0))))] rfl dX12_tray_88 (fun H locs w => ?_)
  refine lv_iinc (v := 25) (lv' := [(4, .int 25), (0, .ref a0), (1, .int 3), (2, .int x1), (3, .int x2)]) C.1 C.2.1 dX12_tray_89 hl (k := 0) rfl (by decide) (by decide) rfl (fun ls hl => ?_)
  refine lv_goto (tgt := 69) C.1 C.2.1 dX12_tray_92 (by decide) ?_
  refine lv_iload C.1 C.2.1 dX12_tray_69 (lv_at hl 0 rfl) ?_
  refine lv_bipush (v := 40) C.1 C.2.1 dX12_tray_71 (by decide) ?_
  refine b_icmp_ge_f C (tgt := 95) dX12_tray_73 (by decide) (by decide) ?_
  refine lv_aload_n C.1 C.2.1 dX12_tray_76 rfl (lv_at hl 1 rfl) ?_
  refine r_get C w 0 rfl rfl 31 (by decide) fl_RX12_64 (v := .ref a17) rfl dX12_tray_77 ?_
  refine lv_bipush (v := 40) C.1 C.2.1 dX12_tray_80 (by decide) ?_
  refine lv_iload_n C.1 C.2.1 dX12_tray_82 rfl (lv_at hl 2 rfl) ?_
  refine r_imul C (v := 120) dX12_tray_83 (by decide) ?_
  refine lv_iload C.1 C.2.1 dX12_tray_84 (lv_at hl 0 rfl) ?_
  refine r_iadd C (v := 145) dX12_tray_86 (by decide) ?_
  refine lv_lconst (v := 0) C.1 C.2.1 dX12_tray_87 (by decide) ?_
  refine r_last C w 3 rfl (vinD (by decide)) (vp_updL (vp_updL (vp_updL (vp_updL (vp_updL (vp_updL (vp_updL (vp_updL (vp_updL (vp_updL (vp_updL (vp_updL (vp_updL (vp_updL (vp_updL (vp_updL (vp_updL (vp_updL (vp_updL (vp_updL (vp_updL (vp_updL (vp_updL (vp_updL (vp_updL (vp_updL (fun _ => 0) 120 0) 121 0) 122 0) 123 0) 124 0) 125 0) 126 0) 127 0) 128 0) 129 0) 130 0) 131 0) 132 0) 133 0) 134 0) 135 0) 136 0) 137 0) 138 0) 139 0) 140 0) 141 0) 142 0) 143 0) 144 0) 145 0) rfl [(a0, .inr (12, [.ref a1, .ref a2, .ref a3, .ref a4, .ref a5, .int 0, .ref a6, .int 0, .int 0, .int 0, .int 0, .int 0, .int 0, .int 0, .int 0, .int 0, .int 0, .int (-1), .ref a7, .ref a8, .int 0, .ref a9, .int 0, .ref a10, .ref a11, .ref a12, .ref a13, .ref a14, .int 0, .ref a15, .ref a16, .ref a17])), (a15, .inl (cy 1, 4, .inl (upd (upd (upd (upd (upd (fun _ => 0) 0 (-1)) 1 (-1)) 2 (-1)) 3 (-1)) 3 x1))), (a16, .inl (cy 1, 4, .inl (upd (fun _ => 0) 3 x2))), (a17, .inl (cy 2, 160, .inr (.inl (vp_updL (vp_updL (vp_updL (vp_updL (vp_updL (vp_updL (vp_updL (vp_updL (vp_updL (vp_updL (vp_updL (vp_updL (vp_updL (vp_updL (vp_updL (vp_updL (vp_updL (vp_updL (vp_updL (vp_updL (vp_updL (vp_updL (vp_updL (vp_updL (vp_updL (vp_updL (fun _ => 0) 120 0) 121 0) 122 0) 123 0) 124 0) 125 0) 126 0) 127 0) 128 0) 129 0) 130 0) 131 0) 132 0) 133 0) 134 0) 135 0) 136 0) 137 0) 138 0) 139 0) 140 0) 141 0) 142 0) 143 0) 144 0) 145 0))))] rfl dX12_tray_88 (fun H locs w => ?_)
  refine lv_iinc (v := 26) (lv' := [(4, .int 26), (0, .ref a0), (1, .int 3), (2, .int x1), (3, .int x2)]) C.1 C.2.1 dX12_tray_89 hl (k := 0) rfl (by decide) (by decide) rfl (fun ls hl => ?_)
  refine lv_goto (tgt := 69) C.1 C.2.1 dX12_tray_92 (by decide) ?_
  refine lv_iload C.1 C.2.1 dX12_tray_69 (lv_at hl 0 rfl) ?_
  refine lv_bipush (v := 40) C.1 C.2.1 dX12_tray_71 (by decide) ?_
  refine b_icmp_ge_f C (tgt := 95) dX12_tray_73 (by decide) (by decide) ?_
  refine lv_aload_n C.1 C.2.1 dX12_tray_76 rfl (lv_at hl 1 rfl) ?_
  refine r_get C w 0 rfl rfl 31 (by decide) fl_RX12_64 (v := .ref a17) rfl dX12_tray_77 ?_
  refine lv_bipush (v := 40) C.1 C.2.1 dX12_tray_80 (by decide) ?_
  refine lv_iload_n C.1 C.2.1 dX12_tray_82 rfl (lv_at hl 2 rfl) ?_
  refine r_imul C (v := 120) dX12_tray_83 (by decide) ?_
  refine lv_iload C.1 C.2.1 dX12_tray_84 (lv_at hl 0 rfl) ?_
  refine r_iadd C (v := 146) dX12_tray_86 (by decide) ?_
  refine lv_lconst (v := 0) C.1 C.2.1 dX12_tray_87 (by decide) ?_
  refine r_last C w 3 rfl (vinD (by decide)) (vp_updL (vp_updL (vp_updL (vp_updL (vp_updL (vp_updL (vp_updL (vp_updL (vp_updL (vp_updL (vp_updL (vp_updL (vp_updL (vp_updL (vp_updL (vp_updL (vp_updL (vp_updL (vp_updL (vp_updL (vp_updL (vp_updL (vp_updL (vp_updL (vp_updL (vp_updL (vp_updL (fun _ => 0) 120 0) 121 0) 122 0) 123 0) 124 0) 125 0) 126 0) 127 0) 128 0) 129 0) 130 0) 131 0) 132 0) 133 0) 134 0) 135 0) 136 0) 137 0) 138 0) 139 0) 140 0) 141 0) 142 0) 143 0) 144 0) 145 0) 146 0) rfl [(a0, .inr (12, [.ref a1, .ref a2, .ref a3, .ref a4, .ref a5, .int 0, .ref a6, .int 0, .int 0, .int 0, .int 0, .int 0, .int 0, .int 0, .int 0, .int 0, .int 0, .int (-1), .ref a7, .ref a8, .int 0, .ref a9, .int 0, .ref a10, .ref a11, .ref a12, .ref a13, .ref a14, .int 0, .ref a15, .ref a16, .ref a17])), (a15, .inl (cy 1, 4, .inl (upd (upd (upd (upd (upd (fun _ => 0) 0 (-1)) 1 (-1)) 2 (-1)) 3 (-1)) 3 x1))), (a16, .inl (cy 1, 4, .inl (upd (fun _ => 0) 3 x2))), (a17, .inl (cy 2, 160, .inr (.inl (vp_updL (vp_updL (vp_updL (vp_updL (vp_updL (vp_updL (vp_updL (vp_updL (vp_updL (vp_updL (vp_updL (vp_updL (vp_updL (vp_updL (vp_updL (vp_updL (vp_updL (vp_updL (vp_updL (vp_updL (vp_updL (vp_updL (vp_updL (vp_updL (vp_updL (vp_updL (vp_updL (fun _ => 0) 120 0) 121 0) 122 0) 123 0) 124 0) 125 0) 126 0) 127 0) 128 0) 129 0) 130 0) 131 0) 132 0) 133 0) 134 0) 135 0) 136 0) 137 0) 138 0) 139 0) 140 0) 141 0) 142 0) 143 0) 144 0) 145 0) 146 0))))] rfl dX12_tray_88 (fun H locs w => ?_)
  refine lv_iinc (v := 27) (lv' := [(4, .int 27), (0, .ref a0), (1, .int 3), (2, .int x1), (3, .int x2)]) C.1 C.2.1 dX12_tray_89 hl (k := 0) rfl (by decide) (by decide) rfl (fun ls hl => ?_)
  refine lv_goto (tgt := 69) C.1 C.2.1 dX12_tray_92 (by decide) ?_
  refine lv_iload C.1 C.2.1 dX12_tray_69 (lv_at hl 0 rfl) ?_
  refine lv_bipush (v := 40) C.1 C.2.1 dX12_tray_71 (by decide) ?_
  refine b_icmp_ge_f C (tgt := 95) dX12_tray_73 (by decide) (by decide) ?_
  refine lv_aload_n C.1 C.2.1 dX12_tray_76 rfl (lv_at hl 1 rfl) ?_
  refine r_get C w 0 rfl rfl 31 (by decide) fl_RX12_64 (v := .ref a17) rfl dX12_tray_77 ?_
  refine lv_bipush (v := 40) C.1 C.2.1 dX12_tray_80 (by decide) ?_
  refine lv_iload_n C.1 C.2.1 dX12_tray_82 rfl (lv_at hl 2 rfl) ?_
  refine r_imul C (v := 120) dX12_tray_83 (by decide) ?_
  refine lv_iload C.1 C.2.1 dX12_tray_84 (lv_at hl 0 rfl) ?_
  refine r_iadd C (v := 147) dX12_tray_86 (by decide) ?_
  refine lv_lconst (v := 0) C.1 C.2.1 dX12_tray_87 (by decide) ?_
  refine r_last C w 3 rfl (vinD (by decide)) (vp_updL (vp_updL (vp_updL (vp_updL (vp_updL (vp_updL (vp_updL (vp_updL (vp_updL (vp_updL (vp_updL (vp_updL (vp_updL (vp_updL (vp_updL (vp_updL (vp_updL (vp_updL (vp_updL (vp_updL (vp_updL (vp_updL (vp_updL (vp_updL (vp_updL (vp_updL (vp_updL (vp_updL (fun _ => 0) 120 0) 121 0) 122 0) 123 0) 124 0) 125 0) 126 0) 127 0) 128 0) 129 0) 130 0) 131 0) 132 0) 133 0) 134 0) 135 0) 136 0) 137 0) 138 0) 139 0) 140 0) 141 0) 142 0) 143 0) 144 0) 145 0) 146 0) 147 0) rfl [(a0, .inr (12, [.ref a1, .ref a2, .ref a3, .ref a4, .ref a5, .int 0, .ref a6, .int 0, .int 0, .int 0, .int 0, .int 0, .int 0, .int 0, .int 0, .int 0, .int 0, .int (-1), .ref a7, .ref a8, .int 0, .ref a9, .int 0, .ref a10, .ref a11, .ref a12, .ref a13, .ref a14, .int 0, .ref a15, .ref a16, .ref a17])), (a15, .inl (cy 1, 4, .inl (upd (upd (upd (upd (upd (fun _ => 0) 0 (-1)) 1 (-1)) 2 (-1)) 3 (-1)) 3 x1))), (a16, .inl (cy 1, 4, .inl (upd (fun _ => 0) 3 x2))), (a17, .inl (cy 2, 160, .inr (.inl (vp_updL (vp_updL (vp_updL (vp_updL (vp_updL (vp_updL (vp_updL (vp_updL (vp_updL (vp_updL (vp_updL (vp_updL (vp_updL (vp_updL (vp_updL (vp_updL (vp_updL (vp_updL (vp_updL (vp_updL (vp_updL (vp_updL (vp_updL (vp_updL (vp_updL (vp_updL (vp_updL (vp_updL (fun _ => 0) 120 0) 121 0) 122 0) 123 0) 124 0) 125 0) 126 0) 127 0) 128 0) 129 0) 130 0) 131 0) 132 0) 133 0) 134 0) 135 0) 136 0) 137 0) 138 0) 139 0) 140 0) 141 0) 142 0) 143 0) 144 0) 145 0) 146 0) 147 0))))] rfl dX12_tray_88 (fun H locs w => ?_)
  refine lv_iinc (v := 28) (lv' := [(4, .int 28), (0, .ref a0), (1, .int 3), (2, .int x1), (3, .int x2)]) C.1 C.2.1 dX12_tray_89 hl (k := 0) rfl (by decide) (by decide) rfl (fun ls hl => ?_)
  refine lv_goto (tgt := 69) C.1 C.2.1 dX12_tray_92 (by decide) ?_
  refine lv_iload C.1 C.2.1 dX12_tray_69 (lv_at hl 0 rfl) ?_
  refine lv_bipush (v := 40) C.1 C.2.1 dX12_tray_71 (by decide) ?_
  refine b_icmp_ge_f C (tgt := 95) dX12_tray_73 (by decide) (by decide) ?_
  refine lv_aload_n C.1 C.2.1 dX12_tray_76 rfl (lv_at hl 1 rfl) ?_
  refine r_get C w 0 rfl rfl 31 (by decide) fl_RX12_64 (v := .ref a17) rfl dX12_tray_77 ?_
  refine lv_bipush (v := 40) C.1 C.2.1 dX12_tray_80 (by decide) ?_
  refine lv_iload_n C.1 C.2.1 dX12_tray_82 rfl (lv_at hl 2 rfl) ?_
  refine r_imul C (v := 120) dX12_tray_83 (by decide) ?_
  refine lv_iload C.1 C.2.1 dX12_tray_84 (lv_at hl 0 rfl) ?_
  refine r_iadd C (v := 148) dX12_tray_86 (by decide) ?_
  refine lv_lconst (v := 0) C.1 C.2.1 dX12_tray_87 (by decide) ?_
  refine r_last C w 3 rfl (vinD (by decide)) (vp_updL (vp_updL (vp_updL (vp_updL (vp_updL (vp_updL (vp_updL (vp_updL (vp_updL (vp_updL (vp_updL (vp_updL (vp_updL (vp_updL (vp_updL (vp_updL (vp_updL (vp_updL (vp_updL (vp_updL (vp_updL (vp_updL (vp_updL (vp_updL (vp_updL (vp_updL (vp_updL (vp_updL (vp_updL (fun _ => 0) 120 0) 121 0) 122 0) 123 0) 124 0) 125 0) 126 0) 127 0) 128 0) 129 0) 130 0) 131 0) 132 0) 133 0) 134 0) 135 0) 136 0) 137 0) 138 0) 139 0) 140 0) 141 0) 142 0) 143 0) 144 0) 145 0) 146 0) 147 0) 148 0) rfl [(a0, .inr (12, [.ref a1, .ref a2, .ref a3, .ref a4, .ref a5, .int 0, .ref a6, .int 0, .int 0, .int 0, .int 0, .int 0, .int 0, .int 0, .int 0, .int 0, .int 0, .int (-1), .ref a7, .ref a8, .int 0, .ref a9, .int 0, .ref a10, .ref a11, .ref a12, .ref a13, .ref a14, .int 0, .ref a15, .ref a16, .ref a17])), (a15, .inl (cy 1, 4, .inl (upd (upd (upd (upd (upd (fun _ => 0) 0 (-1)) 1 (-1)) 2 (-1)) 3 (-1)) 3 x1))), (a16, .inl (cy 1, 4, .inl (upd (fun _ => 0) 3 x2))), (a17, .inl (cy 2, 160, .inr (.inl (vp_updL (vp_updL (vp_updL (vp_updL (vp_updL (vp_updL (vp_updL (vp_updL (vp_updL (vp_updL (vp_updL (vp_updL (vp_updL (vp_updL (vp_updL (vp_updL (vp_updL (vp_updL (vp_updL (vp_updL (vp_updL (vp_updL (vp_updL (vp_updL (vp_updL (vp_updL (vp_updL (vp_updL (vp_updL (fun _ => 0) 120 0) 121 0) 122 0) 123 0) 124 0) 125 0) 126 0) 127 0) 128 0) 129 0) 130 0) 131 0) 132 0) 133 0) 134 0) 135 0) 136 0) 137 0) 138 0) 139 0) 140 0) 141 0) 142 0) 143 0) 144 0) 145 0) 146 0) 147 0) 148 0))))] rfl dX12_tray_88 (fun H locs w => ?_)
  refine lv_iinc (v := 29) (lv' := [(4, .int 29), (0, .ref a0), (1, .int 3), (2, .int x1), (3, .int x2)]) C.1 C.2.1 dX12_tray_89 hl (k := 0) rfl (by decide) (by decide) rfl (fun ls hl => ?_)
  refine lv_goto (tgt := 69) C.1 C.2.1 dX12_tray_92 (by decide) ?_
  refine lv_iload C.1 C.2.1 dX12_tray_69 (lv_at hl 0 rfl) ?_
  refine lv_bipush (v := 40) C.1 C.2.1 dX12_tray_71 (by decide) ?_
  refine b_icmp_ge_f C (tgt := 95) dX12_tray_73 (by decide) (by decide) ?_
  refine lv_aload_n C.1 C.2.1 dX12_tray_76 rfl (lv_at hl 1 rfl) ?_
  refine r_get C w 0 rfl rfl 31 (by decide) fl_RX12_64 (v := .ref a17) rfl dX12_tray_77 ?_
  refine lv_bipush (v := 40) C.1 C.2.1 dX12_tray_80 (by decide) ?_
  refine lv_iload_n C.1 C.2.1 dX12_tray_82 rfl (lv_at hl 2 rfl) ?_
  refine r_imul C (v := 120) dX12_tray_83 (by decide) ?_
  refine lv_iload C.1 C.2.1 dX12_tray_84 (lv_at hl 0 rfl) ?_
  refine r_iadd C (v := 149) dX12_tray_86 (by decide) ?_
  refine lv_lconst (v := 0) C.1 C.2.1 dX12_tray_87 (by decide) ?_
  refine r_last C w 3 rfl (vinD (by decide)) (vp_updL (vp_updL (vp_updL (vp_updL (vp_updL (vp_updL (vp_updL (vp_updL (vp_updL (vp_updL (vp_updL (vp_updL (vp_updL (vp_updL (vp_updL (vp_updL (vp_updL (vp_updL (vp_updL (vp_updL (vp_updL (vp_updL (vp_updL (vp_updL (vp_updL (vp_updL (vp_updL (vp_updL (vp_updL (vp_updL (fun _ => 0) 120 0) 121 0) 122 0) 123 0) 124 0) 125 0) 126 0) 127 0) 128 0) 129 0) 130 0) 131 0) 132 0) 133 0) 134 0) 135 0) 136 0) 137 0) 138 0) 139 0) 140 0) 141 0) 142 0) 143 0) 144 0) 145 0) 146 0) 147 0) 148 0) 149 0) rfl [(a0, .inr (12, [.ref a1, .ref a2, .ref a3, .ref a4, .ref a5, .int 0, .ref a6, .int 0, .int 0, .int 0, .int 0, .int 0, .int 0, .int 0, .int 0, .int 0, .int 0, .int (-1), .ref a7, .ref a8, .int 0, .ref a9, .int 0, .ref a10, .ref a11, .ref a12, .ref a13, .ref a14, .int 0, .ref a15, .ref a16, .ref a17])), (a15, .inl (cy 1, 4, .inl (upd (upd (upd (upd (upd (fun _ => 0) 0 (-1)) 1 (-1)) 2 (-1)) 3 (-1)) 3 x1))), (a16, .inl (cy 1, 4, .inl (upd (fun _ => 0) 3 x2))), (a17, .inl (cy 2, 160, .inr (.inl (vp_updL (vp_updL (vp_updL (vp_updL (vp_updL (vp_updL (vp_updL (vp_updL (vp_updL (vp_updL (vp_updL (vp_updL (vp_updL (vp_updL (vp_updL (vp_updL (vp_updL (vp_updL (vp_updL (vp_updL (vp_updL (vp_updL (vp_updL (vp_updL (vp_updL (vp_updL (vp_updL (vp_updL (vp_updL (vp_updL (fun _ => 0) 120 0) 121 0) 122 0) 123 0) 124 0) 125 0) 126 0) 127 0) 128 0) 129 0) 130 0) 131 0) 132 0) 133 0) 134 0) 135 0) 136 0) 137 0) 138 0) 139 0) 140 0) 141 0) 142 0) 143 0) 144 0) 145 0) 146 0) 147 0) 148 0) 149 0))))] rfl dX12_tray_88 (fun H locs w => ?_)
  refine lv_iinc (v := 30) (lv' := [(4, .int 30), (0, .ref a0), (1, .int 3), (2, .int x1), (3, .int x2)]) C.1 C.2.1 dX12_tray_89 hl (k := 0) rfl (by decide) (by decide) rfl (fun ls hl => ?_)
  refine lv_goto (tgt := 69) C.1 C.2.1 dX12_tray_92 (by decide) ?_
  refine lv_iload C.1 C.2.1 dX12_tray_69 (lv_at hl 0 rfl) ?_
  refine lv_bipush (v := 40) C.1 C.2.1 dX12_tray_71 (by decide) ?_
  refine b_icmp_ge_f C (tgt := 95) dX12_tray_73 (by decide) (by decide) ?_
  refine lv_aload_n C.1 C.2.1 dX12_tray_76 rfl (lv_at hl 1 rfl) ?_
  refine r_get C w 0 rfl rfl 31 (by decide) fl_RX12_64 (v := .ref a17) rfl dX12_tray_77 ?_
  refine lv_bipush (v := 40) C.1 C.2.1 dX12_tray_80 (by decide) ?_
  refine lv_iload_n C.1 C.2.1 dX12_tray_82 rfl (lv_at hl 2 rfl) ?_
  refine r_imul C (v := 120) dX12_tray_83 (by decide) ?_
  refine lv_iload C.1 C.2.1 dX12_tray_84 (lv_at hl 0 rfl) ?_
  refine r_iadd C (v := 150) dX12_tray_86 (by decide) ?_
  refine lv_lconst (v := 0) C.1 C.2.1 dX12_tray_87 (by decide) ?_
  refine r_last C w 3 rfl (vinD (by decide)) (vp_updL (vp_updL (vp_updL (vp_updL (vp_updL (vp_updL (vp_updL (vp_updL (vp_updL (vp_updL (vp_updL (vp_updL (vp_updL (vp_updL (vp_updL (vp_updL (vp_updL (vp_updL (vp_updL (vp_updL (vp_updL (vp_updL (vp_updL (vp_updL (vp_updL (vp_updL (vp_updL (vp_updL (vp_updL (vp_updL (vp_updL (fun _ => 0) 120 0) 121 0) 122 0) 123 0) 124 0) 125 0) 126 0) 127 0) 128 0) 129 0) 130 0) 131 0) 132 0) 133 0) 134 0) 135 0) 136 0) 137 0) 138 0) 139 0) 140 0) 141 0) 142 0) 143 0) 144 0) 145 0) 146 0) 147 0) 148 0) 149 0) 150 0) rfl [(a0, .inr (12, [.ref a1, .ref a2, .ref a3, .ref a4, .ref a5, .int 0, .ref a6, .int 0, .int 0, .int 0, .int 0, .int 0, .int 0, .int 0, .int 0, .int 0, .int 0, .int (-1), .ref a7, .ref a8, .int 0, .ref a9, .int 0, .ref a10, .ref a11, .ref a12, .ref a13, .ref a14, .int 0, .ref a15, .ref a16, .ref a17])), (a15, .inl (cy 1, 4, .inl (upd (upd (upd (upd (upd (fun _ => 0) 0 (-1)) 1 (-1)) 2 (-1)) 3 (-1)) 3 x1))), (a16, .inl (cy 1, 4, .inl (upd (fun _ => 0) 3 x2))), (a17, .inl (cy 2, 160, .inr (.inl (vp_updL (vp_updL (vp_updL (vp_updL (vp_updL (vp_updL (vp_updL (vp_updL (vp_updL (vp_updL (vp_updL (vp_updL (vp_updL (vp_updL (vp_updL (vp_updL (vp_updL (vp_updL (vp_updL (vp_updL (vp_updL (vp_updL (vp_updL (vp_updL (vp_updL (vp_updL (vp_updL (vp_updL (vp_updL (vp_updL (vp_updL (fun _ => 0) 120 0) 121 0) 122 0) 123 0) 124 0) 125 0) 126 0) 127 0) 128 0) 129 0) 130 0) 131 0) 132 0) 133 0) 134 0) 135 0) 136 0) 137 0) 138 0) 139 0) 140 0) 141 0) 142 0) 143 0) 144 0) 145 0) 146 0) 147 0) 148 0) 149 0) 150 0))))] rfl dX12_tray_88 (fun H locs w => ?_)
  refine lv_iinc (v := 31) (lv' := [(4, .int 31), (0, .ref a0), (1, .int 3), (2, .int x1), (3, .int x2)]) C.1 C.2.1 dX12_tray_89 hl (k := 0) rfl (by decide) (by decide) rfl (fun ls hl => ?_)
  refine lv_goto (tgt := 69) C.1 C.2.1 dX12_tray_92 (by decide) ?_
  refine lv_iload C.1 C.2.1 dX12_tray_69 (lv_at hl 0 rfl) ?_
  refine lv_bipush (v := 40) C.1 C.2.1 dX12_tray_71 (by decide) ?_
  refine b_icmp_ge_f C (tgt := 95) dX12_tray_73 (by decide) (by decide) ?_
  refine lv_aload_n C.1 C.2.1 dX12_tray_76 rfl (lv_at hl 1 rfl) ?_
  refine r_get C w 0 rfl rfl 31 (by decide) fl_RX12_64 (v := .ref a17) rfl dX12_tray_77 ?_
  refine lv_bipush (v := 40) C.1 C.2.1 dX12_tray_80 (by decide) ?_
  refine lv_iload_n C.1 C.2.1 dX12_tray_82 rfl (lv_at hl 2 rfl) ?_
  refine r_imul C (v := 120) dX12_tray_83 (by decide) ?_
  refine lv_iload C.1 C.2.1 dX12_tray_84 (lv_at hl 0 rfl) ?_
  refine r_iadd C (v := 151) dX12_tray_86 (by decide) ?_
  refine lv_lconst (v := 0) C.1 C.2.1 dX12_tray_87 (by decide) ?_
  refine r_last C w 3 rfl (vinD (by decide)) (vp_updL (vp_updL (vp_updL (vp_updL (vp_updL (vp_updL (vp_updL (vp_updL (vp_updL (vp_updL (vp_updL (vp_updL (vp_updL (vp_updL (vp_updL (vp_updL (vp_updL (vp_updL (vp_updL (vp_updL (vp_updL (vp_updL (vp_updL (vp_updL (vp_updL (vp_updL (vp_updL (vp_updL (vp_updL (vp_updL (vp_updL (vp_updL (fun _ => 0) 120 0) 121 0) 122 0) 123 0) 124 0) 125 0) 126 0) 127 0) 128 0) 129 0) 130 0) 131 0) 132 0) 133 0) 134 0) 135 0) 136 0) 137 0) 138 0) 139 0) 140 0) 141 0) 142 0) 143 0) 144 0) 145 0) 146 0) 147 0) 148 0) 149 0) 150 0) 151 0) rfl [(a0, .inr (12, [.ref a1, .ref a2, .ref a3, .ref a4, .ref a5, .int 0, .ref a6, .int 0, .int 0, .int 0, .int 0, .int 0, .int 0, .int 0, .int 0, .int 0, .int 0, .int (-1), .ref a7, .ref a8, .int 0, .ref a9, .int 0, .ref a10, .ref a11, .ref a12, .ref a13, .ref a14, .int 0, .ref a15, .ref a16, .ref a17])), (a15, .inl (cy 1, 4, .inl (upd (upd (upd (upd (upd (fun _ => 0) 0 (-1)) 1 (-1)) 2 (-1)) 3 (-1)) 3 x1))), (a16, .inl (cy 1, 4, .inl (upd (fun _ => 0) 3 x2))), (a17, .inl (cy 2, 160, .inr (.inl (vp_updL (vp_updL (vp_updL (vp_updL (vp_updL (vp_updL (vp_updL (vp_updL (vp_updL (vp_updL (vp_updL (vp_updL (vp_updL (vp_updL (vp_updL (vp_updL (vp_updL (vp_updL (vp_updL (vp_updL (vp_updL (vp_updL (vp_updL (vp_updL (vp_updL (vp_updL (vp_updL (vp_updL (vp_updL (vp_updL (vp_updL (vp_updL (fun _ => 0) 120 0) 121 0) 122 0) 123 0) 124 0) 125 0) 126 0) 127 0) 128 0) 129 0) 130 0) 131 0) 132 0) 133 0) 134 0) 135 0) 136 0) 137 0) 138 0) 139 0) 140 0) 141 0) 142 0) 143 0) 144 0) 145 0) 146 0) 147 0) 148 0) 149 0) 150 0) 151 0))))] rfl dX12_tray_88 (fun H locs w => ?_)
  refine lv_iinc (v := 32) (lv' := [(4, .int 32), (0, .ref a0), (1, .int 3), (2, .int x1), (3, .int x2)]) C.1 C.2.1 dX12_tray_89 hl (k := 0) rfl (by decide) (by decide) rfl (fun ls hl => ?_)
  refine lv_goto (tgt := 69) C.1 C.2.1 dX12_tray_92 (by decide) ?_
  refine lv_iload C.1 C.2.1 dX12_tray_69 (lv_at hl 0 rfl) ?_
  refine lv_bipush (v := 40) C.1 C.2.1 dX12_tray_71 (by decide) ?_
  refine b_icmp_ge_f C (tgt := 95) dX12_tray_73 (by decide) (by decide) ?_
  refine lv_aload_n C.1 C.2.1 dX12_tray_76 rfl (lv_at hl 1 rfl) ?_
  refine r_get C w 0 rfl rfl 31 (by decide) fl_RX12_64 (v := .ref a17) rfl dX12_tray_77 ?_
  refine lv_bipush (v := 40) C.1 C.2.1 dX12_tray_80 (by decide) ?_
  refine lv_iload_n C.1 C.2.1 dX12_tray_82 rfl (lv_at hl 2 rfl) ?_
  refine r_imul C (v := 120) dX12_tray_83 (by decide) ?_
  refine lv_iload C.1 C.2.1 dX12_tray_84 (lv_at hl 0 rfl) ?_
  refine r_iadd C (v := 152) dX12_tray_86 (by decide) ?_
  refine lv_lconst (v := 0) C.1 C.2.1 dX12_tray_87 (by decide) ?_
  refine r_last C w 3 rfl (vinD (by decide)) (vp_updL (vp_updL (vp_updL (vp_updL (vp_updL (vp_updL (vp_updL (vp_updL (vp_updL (vp_updL (vp_updL (vp_updL (vp_updL (vp_updL (vp_updL (vp_updL (vp_updL (vp_updL (vp_updL (vp_updL (vp_updL (vp_updL (vp_updL (vp_updL (vp_updL (vp_updL (vp_updL (vp_updL (vp_updL (vp_updL (vp_updL (vp_updL (vp_updL (fun _ => 0) 120 0) 121 0) 122 0) 123 0) 124 0) 125 0) 126 0) 127 0) 128 0) 129 0) 130 0) 131 0) 132 0) 133 0) 134 0) 135 0) 136 0) 137 0) 138 0) 139 0) 140 0) 141 0) 142 0) 143 0) 144 0) 145 0) 146 0) 147 0) 148 0) 149 0) 150 0) 151 0) 152 0) rfl [(a0, .inr (12, [.ref a1, .ref a2, .ref a3, .ref a4, .ref a5, .int 0, .ref a6, .int 0, .int 0, .int 0, .int 0, .int 0, .int 0, .int 0, .int 0, .int 0, .int 0, .int (-1), .ref a7, .ref a8, .int 0, .ref a9, .int 0, .ref a10, .ref a11, .ref a12, .ref a13, .ref a14, .int 0, .ref a15, .ref a16, .ref a17])), (a15, .inl (cy 1, 4, .inl (upd (upd (upd (upd (upd (fun _ => 0) 0 (-1)) 1 (-1)) 2 (-1)) 3 (-1)) 3 x1))), (a16, .inl (cy 1, 4, .inl (upd (fun _ => 0) 3 x2))), (a17, .inl (cy 2, 160, .inr (.inl (vp_updL (vp_updL (vp_updL (vp_updL (vp_updL (vp_updL (vp_updL (vp_updL (vp_updL (vp_updL (vp_updL (vp_updL (vp_updL (vp_updL (vp_updL (vp_updL (vp_updL (vp_updL (vp_updL (vp_updL (vp_updL (vp_updL (vp_updL (vp_updL (vp_updL (vp_updL (vp_updL (vp_updL (vp_updL (vp_updL (vp_updL (vp_updL (vp_updL (fun _ => 0) 120 0) 121 0) 122 0) 123 0) 124 0) 125 0) 126 0) 127 0) 128 0) 129 0) 130 0) 131 0) 132 0) 133 0) 134 0) 135 0) 136 0) 137 0) 138 0) 139 0) 140 0) 141 0) 142 0) 143 0) 144 0) 145 0) 146 0) 147 0) 148 0) 149 0) 150 0) 151 0) 152 0))))] rfl dX12_tray_88 (fun H locs w => ?_)
  refine lv_iinc (v := 33) (lv' := [(4, .int 33), (0, .ref a0), (1, .int 3), (2, .int x1), (3, .int x2)]) C.1 C.2.1 dX12_tray_89 hl (k := 0) rfl (by decide) (by decide) rfl (fun ls hl => ?_)
  refine lv_goto (tgt := 69) C.1 C.2.1 dX12_tray_92 (by decide) ?_
  refine lv_iload C.1 C.2.1 dX12_tray_69 (lv_at hl 0 rfl) ?_
  refine lv_bipush (v := 40) C.1 C.2.1 dX12_tray_71 (by decide) ?_
  refine b_icmp_ge_f C (tgt := 95) dX12_tray_73 (by decide) (by decide) ?_
  refine lv_aload_n C.1 C.2.1 dX12_tray_76 rfl (lv_at hl 1 rfl) ?_
  refine r_get C w 0 rfl rfl 31 (by decide) fl_RX12_64 (v := .ref a17) rfl dX12_tray_77 ?_
  refine lv_bipush (v := 40) C.1 C.2.1 dX12_tray_80 (by decide) ?_
  refine lv_iload_n C.1 C.2.1 dX12_tray_82 rfl (lv_at hl 2 rfl) ?_
  refine r_imul C (v := 120) dX12_tray_83 (by decide) ?_
  refine lv_iload C.1 C.2.1 dX12_tray_84 (lv_at hl 0 rfl) ?_
  refine r_iadd C (v := 153) dX12_tray_86 (by decide) ?_
  refine lv_lconst (v := 0) C.1 C.2.1 dX12_tray_87 (by decide) ?_
  refine r_last C w 3 rfl (vinD (by decide)) (vp_updL (vp_updL (vp_updL (vp_updL (vp_updL (vp_updL (vp_updL (vp_updL (vp_updL (vp_updL (vp_updL (vp_updL (vp_updL (vp_updL (vp_updL (vp_updL (vp_updL (vp_updL (vp_updL (vp_updL (vp_updL (vp_updL (vp_updL (vp_updL (vp_updL (vp_updL (vp_updL (vp_updL (vp_updL (vp_updL (vp_updL (vp_updL (vp_updL (vp_updL (fun _ => 0) 120 0) 121 0) 122 0) 123 0) 124 0) 125 0) 126 0) 127 0) 128 0) 129 0) 130 0) 131 0) 132 0) 133 0) 134 0) 135 0) 136 0) 137 0) 138 0) 139 0) 140 0) 141 0) 142 0) 143 0) 144 0) 145 0) 146 0) 147 0) 148 0) 149 0) 150 0) 151 0) 152 0) 153 0) rfl [(a0, .inr (12, [.ref a1, .ref a2, .ref a3, .ref a4, .ref a5, .int 0, .ref a6, .int 0, .int 0, .int 0, .int 0, .int 0, .int 0, .int 0, .int 0, .int 0, .int 0, .int (-1), .ref a7, .ref a8, .int 0, .ref a9, .int 0, .ref a10, .ref a11, .ref a12, .ref a13, .ref a14, .int 0, .ref a15, .ref a16, .ref a17])), (a15, .inl (cy 1, 4, .inl (upd (upd (upd (upd (upd (fun _ => 0) 0 (-1)) 1 (-1)) 2 (-1)) 3 (-1)) 3 x1))), (a16, .inl (cy 1, 4, .inl (upd (fun _ => 0) 3 x2))), (a17, .inl (cy 2, 160, .inr (.inl (vp_updL (vp_updL (vp_updL (vp_updL (vp_updL (vp_updL (vp_updL (vp_updL (vp_updL (vp_updL (vp_updL (vp_updL (vp_updL (vp_updL (vp_updL (vp_updL (vp_updL (vp_updL (vp_updL (vp_updL (vp_updL (vp_updL (vp_updL (vp_updL (vp_updL (vp_updL (vp_updL (vp_updL (vp_updL (vp_updL (vp_updL (vp_updL (vp_updL (vp_updL (fun _ => 0) 120 0) 121 0) 122 0) 123 0) 124 0) 125 0) 126 0) 127 0) 128 0) 129 0) 130 0) 131 0) 132 0) 133 0) 134 0) 135 0) 136 0) 137 0) 138 0) 139 0) 140 0) 141 0) 142 0) 143 0) 144 0) 145 0) 146 0) 147 0) 148 0) 149 0) 150 0) 151 0) 152 0) 153 0))))] rfl dX12_tray_88 (fun H locs w => ?_)
  refine lv_iinc (v := 34) (lv' := [(4, .int 34), (0, .ref a0), (1, .int 3), (2, .int x1), (3, .int x2)]) C.1 C.2.1 dX12_tray_89 hl (k := 0) rfl (by decide) (by decide) rfl (fun ls hl => ?_)
  refine lv_goto (tgt := 69) C.1 C.2.1 dX12_tray_92 (by decide) ?_
  refine lv_iload C.1 C.2.1 dX12_tray_69 (lv_at hl 0 rfl) ?_
  refine lv_bipush (v := 40) C.1 C.2.1 dX12_tray_71 (by decide) ?_
  refine b_icmp_ge_f C (tgt := 95) dX12_tray_73 (by decide) (by decide) ?_
  refine lv_aload_n C.1 C.2.1 dX12_tray_76 rfl (lv_at hl 1 rfl) ?_
  refine r_get C w 0 rfl rfl 31 (by decide) fl_RX12_64 (v := .ref a17) rfl dX12_tray_77 ?_
  refine lv_bipush (v := 40) C.1 C.2.1 dX12_tray_80 (by decide) ?_
  refine lv_iload_n C.1 C.2.1 dX12_tray_82 rfl (lv_at hl 2 rfl) ?_
  refine r_imul C (v := 120) dX12_tray_83 (by decide) ?_
  refine lv_iload C.1 C.2.1 dX12_tray_84 (lv_at hl 0 rfl) ?_
  refine r_iadd C (v := 154) dX12_tray_86 (by decide) ?_
  refine lv_lconst (v := 0) C.1 C.2.1 dX12_tray_87 (by decide) ?_
  refine r_last C w 3 rfl (vinD (by decide)) (vp_updL (vp_updL (vp_updL (vp_updL (vp_updL (vp_updL (vp_updL (vp_updL (vp_updL (vp_updL (vp_updL (vp_updL (vp_updL (vp_updL (vp_updL (vp_updL (vp_updL (vp_updL (vp_updL (vp_updL (vp_updL (vp_updL (vp_updL (vp_updL (vp_updL (vp_updL (vp_updL (vp_updL (vp_updL (vp_updL (vp_updL (vp_updL (vp_updL (vp_updL (vp_updL (fun _ => 0) 120 0) 121 0) 122 0) 123 0) 124 0) 125 0) 126 0) 127 0) 128 0) 129 0) 130 0) 131 0) 132 0) 133 0) 134 0) 135 0) 136 0) 137 0) 138 0) 139 0) 140 0) 141 0) 142 0) 143 0) 144 0) 145 0) 146 0) 147 0) 148 0) 149 0) 150 0) 151 0) 152 0) 153 0) 154 0) rfl [(a0, .inr (12, [.ref a1, .ref a2, .ref a3, .ref a4, .ref a5, .int 0, .ref a6, .int 0, .int 0, .int 0, .int 0, .int 0, .int 0, .int 0, .int 0, .int 0, .int 0, .int (-1), .ref a7, .ref a8, .int 0, .ref a9, .int 0, .ref a10, .ref a11, .ref a12, .ref a13, .ref a14, .int 0, .ref a15, .ref a16, .ref a17])), (a15, .inl (cy 1, 4, .inl (upd (upd (upd (upd (upd (fun _ => 0) 0 (-1)) 1 (-1)) 2 (-1)) 3 (-1)) 3 x1))), (a16, .inl (cy 1, 4, .inl (upd (fun _ => 0) 3 x2))), (a17, .inl (cy 2, 160, .inr (.inl (vp_updL (vp_updL (vp_updL (vp_updL (vp_updL (vp_updL (vp_updL (vp_updL (vp_updL (vp_updL (vp_updL (vp_updL (vp_updL (vp_updL (vp_updL (vp_updL (vp_updL (vp_updL (vp_updL (vp_updL (vp_updL (vp_updL (vp_updL (vp_updL (vp_updL (vp_updL (vp_updL (vp_updL (vp_updL (vp_updL (vp_updL (vp_updL (vp_updL (vp_updL (vp_updL (fun _ => 0) 120 0) 121 0) 122 0) 123 0) 124 0) 125 0) 126 0) 127 0) 128 0) 129 0) 130 0) 131 0) 132 0) 133 0) 134 0) 135 0) 136 0) 137 0) 138 0) 139 0) 140 0) 141 0) 142 0) 143 0) 144 0) 145 0) 146 0) 147 0) 148 0) 149 0) 150 0) 151 0) 152 0) 153 0) 154 0))))] rfl dX12_tray_88 (fun H locs w => ?_)
  refine lv_iinc (v := 35) (lv' := [(4, .int 35), (0, .ref a0), (1, .int 3), (2, .int x1), (3, .int x2)]) C.1 C.2.1 dX12_tray_89 hl (k := 0) rfl (by decide) (by decide) rfl (fun ls hl => ?_)
  refine lv_goto (tgt := 69) C.1 C.2.1 dX12_tray_92 (by decide) ?_
  refine lv_iload C.1 C.2.1 dX12_tray_69 (lv_at hl 0 rfl) ?_
  refine lv_bipush (v := 40) C.1 C.2.1 dX12_tray_71 (by decide) ?_
  refine b_icmp_ge_f C (tgt := 95) dX12_tray_73 (by decide) (by decide) ?_
  refine lv_aload_n C.1 C.2.1 dX12_tray_76 rfl (lv_at hl 1 rfl) ?_
  refine r_get C w 0 rfl rfl 31 (by decide) fl_RX12_64 (v := .ref a17) rfl dX12_tray_77 ?_
  refine lv_bipush (v := 40) C.1 C.2.1 dX12_tray_80 (by decide) ?_
  refine lv_iload_n C.1 C.2.1 dX12_tray_82 rfl (lv_at hl 2 rfl) ?_
  refine r_imul C (v := 120) dX12_tray_83 (by decide) ?_
  refine lv_iload C.1 C.2.1 dX12_tray_84 (lv_at hl 0 rfl) ?_
  refine r_iadd C (v := 155) dX12_tray_86 (by decide) ?_
  refine lv_lconst (v := 0) C.1 C.2.1 dX12_tray_87 (by decide) ?_
  refine r_last C w 3 rfl (vinD (by decide)) (vp_updL (vp_updL (vp_updL (vp_updL (vp_updL (vp_updL (vp_updL (vp_updL (vp_updL (vp_updL (vp_updL (vp_updL (vp_updL (vp_updL (vp_updL (vp_updL (vp_updL (vp_updL (vp_updL (vp_updL (vp_updL (vp_updL (vp_updL (vp_updL (vp_updL (vp_updL (vp_updL (vp_updL (vp_updL (vp_updL (vp_updL (vp_updL (vp_updL (vp_updL (vp_updL (vp_updL (fun _ => 0) 120 0) 121 0) 122 0) 123 0) 124 0) 125 0) 126 0) 127 0) 128 0) 129 0) 130 0) 131 0) 132 0) 133 0) 134 0) 135 0) 136 0) 137 0) 138 0) 139 0) 140 0) 141 0) 142 0) 143 0) 144 0) 145 0) 146 0) 147 0) 148 0) 149 0) 150 0) 151 0) 152 0) 153 0) 154 0) 155 0) rfl [(a0, .inr (12, [.ref a1, .ref a2, .ref a3, .ref a4, .ref a5, .int 0, .ref a6, .int 0, .int 0, .int 0, .int 0, .int 0, .int 0, .int 0, .int 0, .int 0, .int 0, .int (-1), .ref a7, .ref a8, .int 0, .ref a9, .int 0, .ref a10, .ref a11, .ref a12, .ref a13, .ref a14, .int 0, .ref a15, .ref a16, .ref a17])), (a15, .inl (cy 1, 4, .inl (upd (upd (upd (upd (upd (fun _ => 0) 0 (-1)) 1 (-1)) 2 (-1)) 3 (-1)) 3 x1))), (a16, .inl (cy 1, 4, .inl (upd (fun _ => 0) 3 x2))), (a17, .inl (cy 2, 160, .inr (.inl (vp_updL (vp_updL (vp_updL (vp_updL (vp_updL (vp_updL (vp_updL (vp_updL (vp_updL (vp_updL (vp_updL (vp_updL (vp_updL (vp_updL (vp_updL (vp_updL (vp_updL (vp_updL (vp_updL (vp_updL (vp_updL (vp_updL (vp_updL (vp_updL (vp_updL (vp_updL (vp_updL (vp_updL (vp_updL (vp_updL (vp_updL (vp_updL (vp_updL (vp_updL (vp_updL (vp_updL (fun _ => 0) 120 0) 121 0) 122 0) 123 0) 124 0) 125 0) 126 0) 127 0) 128 0) 129 0) 130 0) 131 0) 132 0) 133 0) 134 0) 135 0) 136 0) 137 0) 138 0) 139 0) 140 0) 141 0) 142 0) 143 0) 144 0) 145 0) 146 0) 147 0) 148 0) 149 0) 150 0) 151 0) 152 0) 153 0) 154 0) 155 0))))] rfl dX12_tray_88 (fun H locs w => ?_)
  refine lv_iinc (v := 36) (lv' := [(4, .int 36), (0, .ref a0), (1, .int 3), (2, .int x1), (3, .int x2)]) C.1 C.2.1 dX12_tray_89 hl (k := 0) rfl (by decide) (by decide) rfl (fun ls hl => ?_)
  refine lv_goto (tgt := 69) C.1 C.2.1 dX12_tray_92 (by decide) ?_
  refine lv_iload C.1 C.2.1 dX12_tray_69 (lv_at hl 0 rfl) ?_
  refine lv_bipush (v := 40) C.1 C.2.1 dX12_tray_71 (by decide) ?_
  refine b_icmp_ge_f C (tgt := 95) dX12_tray_73 (by decide) (by decide) ?_
  refine lv_aload_n C.1 C.2.1 dX12_tray_76 rfl (lv_at hl 1 rfl) ?_
  refine r_get C w 0 rfl rfl 31 (by decide) fl_RX12_64 (v := .ref a17) rfl dX12_tray_77 ?_
  refine lv_bipush (v := 40) C.1 C.2.1 dX12_tray_80 (by decide) ?_
  refine lv_iload_n C.1 C.2.1 dX12_tray_82 rfl (lv_at hl 2 rfl) ?_
  refine r_imul C (v := 120) dX12_tray_83 (by decide) ?_
  refine lv_iload C.1 C.2.1 dX12_tray_84 (lv_at hl 0 rfl) ?_
  refine r_iadd C (v := 156) dX12_tray_86 (by decide) ?_
  refine lv_lconst (v := 0) C.1 C.2.1 dX12_tray_87 (by decide) ?_
  refine r_last C w 3 rfl (vinD (by decide)) (vp_updL (vp_updL (vp_updL (vp_updL (vp_updL (vp_updL (vp_updL (vp_updL (vp_updL (vp_updL (vp_updL (vp_updL (vp_updL (vp_updL (vp_updL (vp_updL (vp_updL (vp_updL (vp_updL (vp_updL (vp_updL (vp_updL (vp_updL (vp_updL (vp_updL (vp_updL (vp_updL (vp_updL (vp_updL (vp_updL (vp_updL (vp_updL (vp_updL (vp_updL (vp_updL (vp_updL (vp_updL (fun _ => 0) 120 0) 121 0) 122 0) 123 0) 124 0) 125 0) 126 0) 127 0) 128 0) 129 0) 130 0) 131 0) 132 0) 133 0) 134 0) 135 0) 136 0) 137 0) 138 0) 139 0) 140 0) 141 0) 142 0) 143 0) 144 0) 145 0) 146 0) 147 0) 148 0) 149 0) 150 0) 151 0) 152 0) 153 0) 154 0) 155 0) 156 0) rfl [(a0, .inr (12, [.ref a1, .ref a2, .ref a3, .ref a4, .ref a5, .int 0, .ref a6, .int 0, .int 0, .int 0, .int 0, .int 0, .int 0, .int 0, .int 0, .int 0, .int 0, .int (-1), .ref a7, .ref a8, .int 0, .ref a9, .int 0, .ref a10, .ref a11, .ref a12, .ref a13, .ref a14, .int 0, .ref a15, .ref a16, .ref a17])), (a15, .inl (cy 1, 4, .inl (upd (upd (upd (upd (upd (fun _ => 0) 0 (-1)) 1 (-1)) 2 (-1)) 3 (-1)) 3 x1))), (a16, .inl (cy 1, 4, .inl (upd (fun _ => 0) 3 x2))), (a17, .inl (cy 2, 160, .inr (.inl (vp_updL (vp_updL (vp_updL (vp_updL (vp_updL (vp_updL (vp_updL (vp_updL (vp_updL (vp_updL (vp_updL (vp_updL (vp_updL (vp_updL (vp_updL (vp_updL (vp_updL (vp_updL (vp_updL (vp_updL (vp_updL (vp_updL (vp_updL (vp_updL (vp_updL (vp_updL (vp_updL (vp_updL (vp_updL (vp_updL (vp_updL (vp_updL (vp_updL (vp_updL (vp_updL (vp_updL (vp_updL (fun _ => 0) 120 0) 121 0) 122 0) 123 0) 124 0) 125 0) 126 0) 127 0) 128 0) 129 0) 130 0) 131 0) 132 0) 133 0) 134 0) 135 0) 136 0) 137 0) 138 0) 139 0) 140 0) 141 0) 142 0) 143 0) 144 0) 145 0) 146 0) 147 0) 148 0) 149 0) 150 0) 151 0) 152 0) 153 0) 154 0) 155 0) 156 0))))] rfl dX12_tray_88 (fun H locs w => ?_)
  refine lv_iinc (v := 37) (lv' := [(4, .int 37), (0, .ref a0), (1, .int 3), (2, .int x1), (3, .int x2)]) C.1 C.2.1 dX12_tray_89 hl (k := 0) rfl (by decide) (by decide) rfl (fun ls hl => ?_)
  refine lv_goto (tgt := 69) C.1 C.2.1 dX12_tray_92 (by decide) ?_
  refine lv_iload C.1 C.2.1 dX12_tray_69 (lv_at hl 0 rfl) ?_
  refine lv_bipush (v := 40) C.1 C.2.1 dX12_tray_71 (by decide) ?_
  refine b_icmp_ge_f C (tgt := 95) dX12_tray_73 (by decide) (by decide) ?_
  refine lv_aload_n C.1 C.2.1 dX12_tray_76 rfl (lv_at hl 1 rfl) ?_
  refine r_get C w 0 rfl rfl 31 (by decide) fl_RX12_64 (v := .ref a17) rfl dX12_tray_77 ?_
  refine lv_bipush (v := 40) C.1 C.2.1 dX12_tray_80 (by decide) ?_
  refine lv_iload_n C.1 C.2.1 dX12_tray_82 rfl (lv_at hl 2 rfl) ?_
  refine r_imul C (v := 120) dX12_tray_83 (by decide) ?_
  refine lv_iload C.1 C.2.1 dX12_tray_84 (lv_at hl 0 rfl) ?_
  refine r_iadd C (v := 157) dX12_tray_86 (by decide) ?_
  refine lv_lconst (v := 0) C.1 C.2.1 dX12_tray_87 (by decide) ?_
  refine r_last C w 3 rfl (vinD (by decide)) (vp_updL (vp_updL (vp_updL (vp_updL (vp_updL (vp_updL (vp_updL (vp_updL (vp_updL (vp_updL (vp_updL (vp_updL (vp_updL (vp_updL (vp_updL (vp_updL (vp_updL (vp_updL (vp_updL (vp_updL (vp_updL (vp_updL (vp_updL (vp_updL (vp_updL (vp_updL (vp_updL (vp_updL (vp_updL (vp_updL (vp_updL (vp_updL (vp_updL (vp_updL (vp_updL (vp_updL (vp_updL (vp_updL (fun _ => 0) 120 0) 121 0) 122 0) 123 0) 124 0) 125 0) 126 0) 127 0) 128 0) 129 0) 130 0) 131 0) 132 0) 133 0) 134 0) 135 0) 136 0) 137 0) 138 0) 139 0) 140 0) 141 0) 142 0) 143 0) 144 0) 145 0) 146 0) 147 0) 148 0) 149 0) 150 0) 151 0) 152 0) 153 0) 154 0) 155 0) 156 0) 157 0) rfl [(a0, .inr (12, [.ref a1, .ref a2, .ref a3, .ref a4, .ref a5, .int 0, .ref a6, .int 0, .int 0, .int 0, .int 0, .int 0, .int 0, .int 0, .int 0, .int 0, .int 0, .int (-1), .ref a7, .ref a8, .int 0, .ref a9, .int 0, .ref a10, .ref a11, .ref a12, .ref a13, .ref a14, .int 0, .ref a15, .ref a16, .ref a17])), (a15, .inl (cy 1, 4, .inl (upd (upd (upd (upd (upd (fun _ => 0) 0 (-1)) 1 (-1)) 2 (-1)) 3 (-1)) 3 x1))), (a16, .inl (cy 1, 4, .inl (upd (fun _ => 0) 3 x2))), (a17, .inl (cy 2, 160, .inr (.inl (vp_updL (vp_updL (vp_updL (vp_updL (vp_updL (vp_updL (vp_updL (vp_updL (vp_updL (vp_updL (vp_updL (vp_updL (vp_updL (vp_updL (vp_updL (vp_updL (vp_updL (vp_updL (vp_updL (vp_updL (vp_updL (vp_updL (vp_updL (vp_updL (vp_updL (vp_updL (vp_updL (vp_updL (vp_updL (vp_updL (vp_updL (vp_updL (vp_updL (vp_updL (vp_updL (vp_updL (vp_updL (vp_updL (fun _ => 0) 120 0) 121 0) 122 0) 123 0) 124 0) 125 0) 126 0) 127 0) 128 0) 129 0) 130 0) 131 0) 132 0) 133 0) 134 0) 135 0) 136 0) 137 0) 138 0) 139 0) 140 0) 141 0) 142 0) 143 0) 144 0) 145 0) 146 0) 147 0) 148 0) 149 0) 150 0) 151 0) 152 0) 153 0) 154 0) 155 0) 156 0) 157 0))))] rfl dX12_tray_88 (fun H locs w => ?_)
  refine lv_iinc (v := 38) (lv' := [(4, .int 38), (0, .ref a0), (1, .int 3), (2, .int x1), (3, .int x2)]) C.1 C.2.1 dX12_tray_89 hl (k := 0) rfl (by decide) (by decide) rfl (fun ls hl => ?_)
  refine lv_goto (tgt := 69) C.1 C.2.1 dX12_tray_92 (by decide) ?_
  refine lv_iload C.1 C.2.1 dX12_tray_69 (lv_at hl 0 rfl) ?_
  refine lv_bipush (v := 40) C.1 C.2.1 dX12_tray_71 (by decide) ?_
  refine b_icmp_ge_f C (tgt := 95) dX12_tray_73 (by decide) (by decide) ?_
  refine lv_aload_n C.1 C.2.1 dX12_tray_76 rfl (lv_at hl 1 rfl) ?_
  refine r_get C w 0 rfl rfl 31 (by decide) fl_RX12_64 (v := .ref a17) rfl dX12_tray_77 ?_
  refine lv_bipush (v := 40) C.1 C.2.1 dX12_tray_80 (by decide) ?_
  refine lv_iload_n C.1 C.2.1 dX12_tray_82 rfl (lv_at hl 2 rfl) ?_
  refine r_imul C (v := 120) dX12_tray_83 (by decide) ?_
  refine lv_iload C.1 C.2.1 dX12_tray_84 (lv_at hl 0 rfl) ?_
  refine r_iadd C (v := 158) dX12_tray_86 (by decide) ?_
  refine lv_lconst (v := 0) C.1 C.2.1 dX12_tray_87 (by decide) ?_
  refine r_last C w 3 rfl (vinD (by decide)) (vp_updL (vp_updL (vp_updL (vp_updL (vp_updL (vp_updL (vp_updL (vp_updL (vp_updL (vp_updL (vp_updL (vp_updL (vp_updL (vp_updL (vp_updL (vp_updL (vp_updL (vp_updL (vp_updL (vp_updL (vp_updL (vp_updL (vp_updL (vp_updL (vp_updL (vp_updL (vp_updL (vp_updL (vp_updL (vp_updL (vp_updL (vp_updL (vp_updL (vp_updL (vp_updL (vp_updL (vp_updL (vp_updL (vp_updL (fun _ => 0) 120 0) 121 0) 122 0) 123 0) 124 0) 125 0) 126 0) 127 0) 128 0) 129 0) 130 0) 131 0) 132 0) 133 0) 134 0) 135 0) 136 0) 137 0) 138 0) 139 0) 140 0) 141 0) 142 0) 143 0) 144 0) 145 0) 146 0) 147 0) 148 0) 149 0) 150 0) 151 0) 152 0) 153 0) 154 0) 155 0) 156 0) 157 0) 158 0) rfl [(a0, .inr (12, [.ref a1, .ref a2, .ref a3, .ref a4, .ref a5, .int 0, .ref a6, .int 0, .int 0, .int 0, .int 0, .int 0, .int 0, .int 0, .int 0, .int 0, .int 0, .int (-1), .ref a7, .ref a8, .int 0, .ref a9, .int 0, .ref a10, .ref a11, .ref a12, .ref a13, .ref a14, .int 0, .ref a15, .ref a16, .ref a17])), (a15, .inl (cy 1, 4, .inl (upd (upd (upd (upd (upd (fun _ => 0) 0 (-1)) 1 (-1)) 2 (-1)) 3 (-1)) 3 x1))), (a16, .inl (cy 1, 4, .inl (upd (fun _ => 0) 3 x2))), (a17, .inl (cy 2, 160, .inr (.inl (vp_updL (vp_updL (vp_updL (vp_updL (vp_updL (vp_updL (vp_updL (vp_updL (vp_updL (vp_updL (vp_updL (vp_updL (vp_updL (vp_updL (vp_updL (vp_updL (vp_updL (vp_updL (vp_updL (vp_updL (vp_updL (vp_updL (vp_updL (vp_updL (vp_updL (vp_updL (vp_updL (vp_updL (vp_updL (vp_updL (vp_updL (vp_updL (vp_updL (vp_updL (vp_updL (vp_updL (vp_updL (vp_updL (vp_updL (fun _ => 0) 120 0) 121 0) 122 0) 123 0) 124 0) 125 0) 126 0) 127 0) 128 0) 129 0) 130 0) 131 0) 132 0) 133 0) 134 0) 135 0) 136 0) 137 0) 138 0) 139 0) 140 0) 141 0) 142 0) 143 0) 144 0) 145 0) 146 0) 147 0) 148 0) 149 0) 150 0) 151 0) 152 0) 153 0) 154 0) 155 0) 156 0) 157 0) 158 0))))] rfl dX12_tray_88 (fun H locs w => ?_)
  refine lv_iinc (v := 39) (lv' := [(4, .int 39), (0, .ref a0), (1, .int 3), (2, .int x1), (3, .int x2)]) C.1 C.2.1 dX12_tray_89 hl (k := 0) rfl (by decide) (by decide) rfl (fun ls hl => ?_)
  refine lv_goto (tgt := 69) C.1 C.2.1 dX12_tray_92 (by decide) ?_
  refine lv_iload C.1 C.2.1 dX12_tray_69 (lv_at hl 0 rfl) ?_
  refine lv_bipush (v := 40) C.1 C.2.1 dX12_tray_71 (by decide) ?_
  refine b_icmp_ge_f C (tgt := 95) dX12_tray_73 (by decide) (by decide) ?_
  refine lv_aload_n C.1 C.2.1 dX12_tray_76 rfl (lv_at hl 1 rfl) ?_
  refine r_get C w 0 rfl rfl 31 (by decide) fl_RX12_64 (v := .ref a17) rfl dX12_tray_77 ?_
  refine lv_bipush (v := 40) C.1 C.2.1 dX12_tray_80 (by decide) ?_
  refine lv_iload_n C.1 C.2.1 dX12_tray_82 rfl (lv_at hl 2 rfl) ?_
  refine r_imul C (v := 120) dX12_tray_83 (by decide) ?_
  refine lv_iload C.1 C.2.1 dX12_tray_84 (lv_at hl 0 rfl) ?_
  refine r_iadd C (v := 159) dX12_tray_86 (by decide) ?_
  refine lv_lconst (v := 0) C.1 C.2.1 dX12_tray_87 (by decide) ?_
  refine r_last C w 3 rfl (vinD (by decide)) (vp_updL (vp_updL (vp_updL (vp_updL (vp_updL (vp_updL (vp_updL (vp_updL (vp_updL (vp_updL (vp_updL (vp_updL (vp_updL (vp_updL (vp_updL (vp_updL (vp_updL (vp_updL (vp_updL (vp_updL (vp_updL (vp_updL (vp_updL (vp_updL (vp_updL (vp_updL (vp_updL (vp_updL (vp_updL (vp_updL (vp_updL (vp_updL (vp_updL (vp_updL (vp_updL (vp_updL (vp_updL (vp_updL (vp_updL (vp_updL (fun _ => 0) 120 0) 121 0) 122 0) 123 0) 124 0) 125 0) 126 0) 127 0) 128 0) 129 0) 130 0) 131 0) 132 0) 133 0) 134 0) 135 0) 136 0) 137 0) 138 0) 139 0) 140 0) 141 0) 142 0) 143 0) 144 0) 145 0) 146 0) 147 0) 148 0) 149 0) 150 0) 151 0) 152 0) 153 0) 154 0) 155 0) 156 0) 157 0) 158 0) 159 0) rfl [(a0, .inr (12, [.ref a1, .ref a2, .ref a3, .ref a4, .ref a5, .int 0, .ref a6, .int 0, .int 0, .int 0, .int 0, .int 0, .int 0, .int 0, .int 0, .int 0, .int 0, .int (-1), .ref a7, .ref a8, .int 0, .ref a9, .int 0, .ref a10, .ref a11, .ref a12, .ref a13, .ref a14, .int 0, .ref a15, .ref a16, .ref a17])), (a15, .inl (cy 1, 4, .inl (upd (upd (upd (upd (upd (fun _ => 0) 0 (-1)) 1 (-1)) 2 (-1)) 3 (-1)) 3 x1))), (a16, .inl (cy 1, 4, .inl (upd (fun _ => 0) 3 x2))), (a17, .inl (cy 2, 160, .inr (.inl (vp_updL (vp_updL (vp_updL (vp_updL (vp_updL (vp_updL (vp_updL (vp_updL (vp_updL (vp_updL (vp_updL (vp_updL (vp_updL (vp_updL (vp_updL (vp_updL (vp_updL (vp_updL (vp_updL (vp_updL (vp_updL (vp_updL (vp_updL (vp_updL (vp_updL (vp_updL (vp_updL (vp_updL (vp_updL (vp_updL (vp_updL (vp_updL (vp_updL (vp_updL (vp_updL (vp_updL (vp_updL (vp_updL (vp_updL (vp_updL (fun _ => 0) 120 0) 121 0) 122 0) 123 0) 124 0) 125 0) 126 0) 127 0) 128 0) 129 0) 130 0) 131 0) 132 0) 133 0) 134 0) 135 0) 136 0) 137 0) 138 0) 139 0) 140 0) 141 0) 142 0) 143 0) 144 0) 145 0) 146 0) 147 0) 148 0) 149 0) 150 0) 151 0) 152 0) 153 0) 154 0) 155 0) 156 0) 157 0) 158 0) 159 0))))] rfl dX12_tray_88 (fun H locs w => ?_)
  refine lv_iinc (v := 40) (lv' := [(4, .int 40), (0, .ref a0), (1, .int 3), (2, .int x1), (3, .int x2)]) C.1 C.2.1 dX12_tray_89 hl (k := 0) rfl (by decide) (by decide) rfl (fun ls hl => ?_)
  refine lv_goto (tgt := 69) C.1 C.2.1 dX12_tray_92 (by decide) ?_
  refine lv_iload C.1 C.2.1 dX12_tray_69 (lv_at hl 0 rfl) ?_
  refine lv_bipush (v := 40) C.1 C.2.1 dX12_tray_71 (by decide) ?_
  refine b_icmp_ge_t C (tgt := 95) dX12_tray_73 (by decide) (by decide) ?_
  exact r_vret C w hlocks () hr rfl trivial [0, 1, 2, 3] rfl rfl ⟨Nat.le_of_ble_eq_true rfl, Nat.le_of_ble_eq_true rfl⟩ dX12_tray_95
set_option maxRecDepth 100000 in
set_option maxHeartbeats 4000000 in
theorem c_X12_tray_6 (l : Launch) (D : va_G) (cy : Nat → ClassId) (a0 a1 a2 a3 a4 a5 a6 a7 a8 a9 a10 a11 a12 a13 a14 a15 a16 a17 : Nat) (x1 : Int32) (x2 : Int32) (k0 : ¬ x1 < 0) (k1 : ¬ 3 < x1) (k2 : ¬ x2 < 0) (k3 : ¬ 40 < x2) : Ct l D cy yX12_tray cX12_tray 5 none 2 45 0 0 [(a0, .inr (12, [.ref a1, .ref a2, .ref a3, .ref a4, .ref a5, .int 0, .ref a6, .int 0, .int 0, .int 0, .int 0, .int 0, .int 0, .int 0, .int 0, .int 0, .int 0, .int (-1), .ref a7, .ref a8, .int 0, .ref a9, .int 0, .ref a10, .ref a11, .ref a12, .ref a13, .ref a14, .int 0, .ref a15, .ref a16, .ref a17])), (a15, .inl (cy 1, 4, .inl (upd (upd (upd (upd (fun _ => 0) 0 (-1)) 1 (-1)) 2 (-1)) 3 (-1)))), (a16, .inl (cy 1, 4, .inl (fun _ => 0))), (a17, .inl (cy 2, 160, .inr (.inl (fun _ => 0))))] [.ref a0, .int 2, .int x1, .int x2] (fun u : Unit => none) (fun _ => True) (fun u : Unit => [(a0, .inr (12, [.ref a1, .ref a2, .ref a3, .ref a4, .ref a5, .int 0, .ref a6, .int 0, .int 0, .int 0, .int 0, .int 0, .int 0, .int 0, .int 0, .int 0, .int 0, .int (-1), .ref a7, .ref a8, .int 0, .ref a9, .int 0, .ref a10, .ref a11, .ref a12, .ref a13, .ref a14, .int 0, .ref a15, .ref a16, .ref a17])), (a15, .inl (cy 1, 4, .inl (upd (upd (upd (upd (upd (fun _ => 0) 0 (-1)) 1 (-1)) 2 (-1)) 3 (-1)) 2 x1))), (a16, .inl (cy 1, 4, .inl (upd (fun _ => 0) 2 x2))), (a17, .inl (cy 2, 160, .inr (.inl (vp_updL (vp_updL (vp_updL (vp_updL (vp_updL (vp_updL (vp_updL (vp_updL (vp_updL (vp_updL (vp_updL (vp_updL (vp_updL (vp_updL (vp_updL (vp_updL (vp_updL (vp_updL (vp_updL (vp_updL (vp_updL (vp_updL (vp_updL (vp_updL (vp_updL (vp_updL (vp_updL (vp_updL (vp_updL (vp_updL (vp_updL (vp_updL (vp_updL (vp_updL (vp_updL (vp_updL (vp_updL (vp_updL (vp_updL (vp_updL (fun _ => 0) 80 0) 81 0) 82 0) 83 0) 84 0) 85 0) 86 0) 87 0) 88 0) 89 0) 90 0) 91 0) 92 0) 93 0) 94 0) 95 0) 96 0) 97 0) 98 0) 99 0) 100 0) 101 0) 102 0) 103 0) 104 0) 105 0) 106 0) 107 0) 108 0) 109 0) 110 0) 111 0) 112 0) 113 0) 114 0) 115 0) 116 0) 117 0) 118 0) 119 0))))]) := by
  refine Ct.of (by decide +kernel) (Nat.le_of_ble_eq_true rfl) ?_
  intro p e s m args below meth c A ls C hr hlocks hml hnm w hl
  have hl : lv_has ls 5 [(0, .ref a0), (1, .int 2), (2, .int x1), (3, .int x2)] := hl
  refine lv_aload_n C.1 C.2.1 dX12_tray_0 rfl (lv_at hl 0 rfl) ?_
  refine lv_iload_n C.1 C.2.1 dX12_tray_1 rfl (lv_at hl 1 rfl) ?_
  refine r_callS C w fs_RX12_403 (c_X12_isTray_5 l D cy) (hl.1.trans hml.symm) [] [0, 1, 2, 3] (wr := [(a0, .inr (12, [.ref a1, .ref a2, .ref a3, .ref a4, .ref a5, .int 0, .ref a6, .int 0, .int 0, .int 0, .int 0, .int 0, .int 0, .int 0, .int 0, .int 0, .int 0, .int (-1), .ref a7, .ref a8, .int 0, .ref a9, .int 0, .ref a10, .ref a11, .ref a12, .ref a13, .ref a14, .int 0, .ref a15, .ref a16, .ref a17])), (a15, .inl (cy 1, 4, .inl (upd (upd (upd (upd (fun _ => 0) 0 (-1)) 1 (-1)) 2 (-1)) 3 (-1)))), (a16, .inl (cy 1, 4, .inl (fun _ => 0))), (a17, .inl (cy 2, 160, .inr (.inl (fun _ => 0))))]) ⟨rfl, rfl, rfl, rfl, by decide⟩ rfl rfl ⟨Nat.le_of_ble_eq_true rfl, Nat.le_of_ble_eq_true rfl, Nat.le_of_ble_eq_true rfl⟩ 0 0 ⟨rfl, rfl, Nat.le_of_ble_eq_true rfl, Nat.le_of_ble_eq_true rfl⟩ dX12_tray_2 (fun u H locs hp w => ?_)
  have w : Wd D A s.heap [(a0, .inr (12, [.ref a1, .ref a2, .ref a3, .ref a4, .ref a5, .int 0, .ref a6, .int 0, .int 0, .int 0, .int 0, .int 0, .int 0, .int 0, .int 0, .int 0, .int 0, .int (-1), .ref a7, .ref a8, .int 0, .ref a9, .int 0, .ref a10, .ref a11, .ref a12, .ref a13, .ref a14, .int 0, .ref a15, .ref a16, .ref a17])), (a15, .inl (cy 1, 4, .inl (upd (upd (upd (upd (fun _ => 0) 0 (-1)) 1 (-1)) 2 (-1)) 3 (-1)))), (a16, .inl (cy 1, 4, .inl (fun _ => 0))), (a17, .inl (cy 2, 160, .inr (.inl (fun _ => 0))))] _ _ := w
  refine r_top (g2 := F0 m 5 ls [.int 1, .ref a0]) rfl ?_
  refine b_if_ne_t C (tgt := 12) dX12_tray_5 (by decide) (by decide) ?_
  refine lv_iload_n C.1 C.2.1 dX12_tray_12 rfl (lv_at hl 2 rfl) ?_
  refine lv_i2l (v := (Int32.toInt64 x1)) C.1 C.2.1 dX12_tray_13 rfl ?_
  refine lv_lconst (v := 0) C.1 C.2.1 dX12_tray_14 (by decide) ?_
  refine lv_ldc2 (v := 3) C.1 C.2.1 C.2.2.1 (C.2.2.2.1 _ kl_RX12_279) dX12_tray_15 ?_
  refine r_callS C w fs_RX12_133 (c_X12_within_27 l D cy x1 k0 k1) (hl.1.trans hml.symm) [] [0, 1, 2, 3] (wr := [(a0, .inr (12, [.ref a1, .ref a2, .ref a3, .ref a4, .ref a5, .int 0, .ref a6, .int 0, .int 0, .int 0, .int 0, .int 0, .int 0, .int 0, .int 0, .int 0, .int 0, .int (-1), .ref a7, .ref a8, .int 0, .ref a9, .int 0, .ref a10, .ref a11, .ref a12, .ref a13, .ref a14, .int 0, .ref a15, .ref a16, .ref a17])), (a15, .inl (cy 1, 4, .inl (upd (upd (upd (upd (fun _ => 0) 0 (-1)) 1 (-1)) 2 (-1)) 3 (-1)))), (a16, .inl (cy 1, 4, .inl (fun _ => 0))), (a17, .inl (cy 2, 160, .inr (.inl (fun _ => 0))))]) ⟨rfl, rfl, rfl, rfl, by decide⟩ rfl rfl ⟨Nat.le_of_ble_eq_true rfl, Nat.le_of_ble_eq_true rfl, Nat.le_of_ble_eq_true rfl⟩ 0 0 ⟨rfl, rfl, Nat.le_of_ble_eq_true rfl, Nat.le_of_ble_eq_true rfl⟩ dX12_tray_18 (fun u H locs hp w => ?_)
  have w : Wd D A s.heap [(a0, .inr (12, [.ref a1, .ref a2, .ref a3, .ref a4, .ref a5, .int 0, .ref a6, .int 0, .int 0, .int 0, .int 0, .int 0, .int 0, .int 0, .int 0, .int 0, .int 0, .int (-1), .ref a7, .ref a8, .int 0, .ref a9, .int 0, .ref a10, .ref a11, .ref a12, .ref a13, .ref a14, .int 0, .ref a15, .ref a16, .ref a17])), (a15, .inl (cy 1, 4, .inl (upd (upd (upd (upd (fun _ => 0) 0 (-1)) 1 (-1)) 2 (-1)) 3 (-1)))), (a16, .inl (cy 1, 4, .inl (fun _ => 0))), (a17, .inl (cy 2, 160, .inr (.inl (fun _ => 0))))] _ _ := w
  refine r_top (g2 := F0 m 21 ls [.int 1, .ref a0]) rfl ?_
  refine b_if_eq_f C (tgt := 36) dX12_tray_21 (by decide) (by decide) ?_
  refine lv_iload_n C.1 C.2.1 dX12_tray_24 rfl (lv_at hl 3 rfl) ?_
  refine lv_i2l (v := (Int32.toInt64 x2)) C.1 C.2.1 dX12_tray_25 rfl ?_
  refine lv_lconst (v := 0) C.1 C.2.1 dX12_tray_26 (by decide) ?_
  refine lv_ldc2 (v := 40) C.1 C.2.1 C.2.2.1 (C.2.2.2.1 _ kl_RX12_409) dX12_tray_27 ?_
  refine r_callS C w fs_RX12_133 (c_X12_within_34 l D cy x2 k2 k3) (hl.1.trans hml.symm) [] [0, 1, 2, 3] (wr := [(a0, .inr (12, [.ref a1, .ref a2, .ref a3, .ref a4, .ref a5, .int 0, .ref a6, .int 0, .int 0, .int 0, .int 0, .int 0, .int 0, .int 0, .int 0, .int 0, .int 0, .int (-1), .ref a7, .ref a8, .int 0, .ref a9, .int 0, .ref a10, .ref a11, .ref a12, .ref a13, .ref a14, .int 0, .ref a15, .ref a16, .ref a17])), (a15, .inl (cy 1, 4, .inl (upd (upd (upd (upd (fun _ => 0) 0 (-1)) 1 (-1)) 2 (-1)) 3 (-1)))), (a16, .inl (cy 1, 4, .inl (fun _ => 0))), (a17, .inl (cy 2, 160, .inr (.inl (fun _ => 0))))]) ⟨rfl, rfl, rfl, rfl, by decide⟩ rfl rfl ⟨Nat.le_of_ble_eq_true rfl, Nat.le_of_ble_eq_true rfl, Nat.le_of_ble_eq_true rfl⟩ 0 0 ⟨rfl, rfl, Nat.le_of_ble_eq_true rfl, Nat.le_of_ble_eq_true rfl⟩ dX12_tray_30 (fun u H locs hp w => ?_)
  have w : Wd D A s.heap [(a0, .inr (12, [.ref a1, .ref a2, .ref a3, .ref a4, .ref a5, .int 0, .ref a6, .int 0, .int 0, .int 0, .int 0, .int 0, .int 0, .int 0, .int 0, .int 0, .int 0, .int (-1), .ref a7, .ref a8, .int 0, .ref a9, .int 0, .ref a10, .ref a11, .ref a12, .ref a13, .ref a14, .int 0, .ref a15, .ref a16, .ref a17])), (a15, .inl (cy 1, 4, .inl (upd (upd (upd (upd (fun _ => 0) 0 (-1)) 1 (-1)) 2 (-1)) 3 (-1)))), (a16, .inl (cy 1, 4, .inl (fun _ => 0))), (a17, .inl (cy 2, 160, .inr (.inl (fun _ => 0))))] _ _ := w
  refine r_top (g2 := F0 m 33 ls [.int 1, .ref a0]) rfl ?_
  refine b_if_ne_t C (tgt := 40) dX12_tray_33 (by decide) (by decide) ?_
  refine lv_iconst (v := 0) C.1 C.2.1 dX12_tray_40 (by decide) ?_
  refine r_put C w 0 rfl rfl 5 (by decide) fl_RX12_71 rfl (ty := .int) (tyX12_ok 5 (by decide)) rfl rfl (Nat.le_of_ble_eq_true rfl) [(a0, .inr (12, [.ref a1, .ref a2, .ref a3, .ref a4, .ref a5, .int 0, .ref a6, .int 0, .int 0, .int 0, .int 0, .int 0, .int 0, .int 0, .int 0, .int 0, .int 0, .int (-1), .ref a7, .ref a8, .int 0, .ref a9, .int 0, .ref a10, .ref a11, .ref a12, .ref a13, .ref a14, .int 0, .ref a15, .ref a16, .ref a17])), (a15, .inl (cy 1, 4, .inl (upd (upd (upd (upd (fun _ => 0) 0 (-1)) 1 (-1)) 2 (-1)) 3 (-1)))), (a16, .inl (cy 1, 4, .inl (fun _ => 0))), (a17, .inl (cy 2, 160, .inr (.inl (fun _ => 0))))] rfl dX12_tray_41 (fun H locs w => ?_)
  refine lv_aload_n C.1 C.2.1 dX12_tray_44 rfl (lv_at hl 0 rfl) ?_
  refine r_get C w 0 rfl rfl 5 (by decide) fl_RX12_71 (v := .int 0) rfl dX12_tray_45 ?_
  refine b_if_le_t C (tgt := 52) dX12_tray_48 (by decide) (by decide) ?_
  refine lv_aload_n C.1 C.2.1 dX12_tray_52 rfl (lv_at hl 0 rfl) ?_
  refine r_get C w 0 rfl rfl 29 (by decide) fl_RX12_58 (v := .ref a15) rfl dX12_tray_53 ?_
  refine lv_iload_n C.1 C.2.1 dX12_tray_56 rfl (lv_at hl 1 rfl) ?_
  refine lv_iload_n C.1 C.2.1 dX12_tray_57 rfl (lv_at hl 2 rfl) ?_
  refine r_iast C w 1 rfl (vinD (by decide)) (upd (upd (upd (upd (upd (fun _ => 0) 0 (-1)) 1 (-1)) 2 (-1)) 3 (-1)) 2 x1) rfl [(a0, .inr (12, [.ref a1, .ref a2, .ref a3, .ref a4, .ref a5, .int 0, .ref a6, .int 0, .int 0, .int 0, .int 0, .int 0, .int 0, .int 0, .int 0, .int 0, .int 0, .int (-1), .ref a7, .ref a8, .int 0, .ref a9, .int 0, .ref a10, .ref a11, .ref a12, .ref a13, .ref a14, .int 0, .ref a15, .ref a16, .ref a17])), (a15, .inl (cy 1, 4, .inl (upd (upd (upd (upd (upd (fun _ => 0) 0 (-1)) 1 (-1)) 2 (-1)) 3 (-1)) 2 x1))), (a16, .inl (cy 1, 4, .inl (fun _ => 0))), (a17, .inl (cy 2, 160, .inr (.inl (fun _ => 0))))] rfl dX12_tray_58 (fun H locs w => ?_)
  refine lv_aload_n C.1 C.2.1 dX12_tray_59 rfl (lv_at hl 0 rfl) ?_
  refine r_get C w 0 rfl rfl 30 (by decide) fl_RX12_61 (v := .ref a16) rfl dX12_tray_60 ?_
  refine lv_iload_n C.1 C.2.1 dX12_tray_63 rfl (lv_at hl 1 rfl) ?_
  refine lv_iload_n C.1 C.2.1 dX12_tray_64 rfl (lv_at hl 3 rfl) ?_
  refine r_iast C w 2 rfl (vinD (by decide)) (upd (fun _ => 0) 2 x2) rfl [(a0, .inr (12, [.ref a1, .ref a2, .ref a3, .ref a4, .ref a5, .int 0, .ref a6, .int 0, .int 0, .int 0, .int 0, .int 0, .int 0, .int 0, .int 0, .int 0, .int 0, .int (-1), .ref a7, .ref a8, .int 0, .ref a9, .int 0, .ref a10, .ref a11, .ref a12, .ref a13, .ref a14, .int 0, .ref a15, .ref a16, .ref a17])), (a15, .inl (cy 1, 4, .inl (upd (upd (upd (upd (upd (fun _ => 0) 0 (-1)) 1 (-1)) 2 (-1)) 3 (-1)) 2 x1))), (a16, .inl (cy 1, 4, .inl (upd (fun _ => 0) 2 x2))), (a17, .inl (cy 2, 160, .inr (.inl (fun _ => 0))))] rfl dX12_tray_65 (fun H locs w => ?_)
  refine lv_iconst (v := 0) C.1 C.2.1 dX12_tray_66 (by decide) ?_
  refine lv_istore (lv' := [(4, .int 0), (0, .ref a0), (1, .int 2), (2, .int x1), (3, .int x2)]) C.1 C.2.1 dX12_tray_67 hl (by decide) rfl (fun ls hl => ?_)
  refine lv_iload C.1 C.2.1 dX12_tray_69 (lv_at hl 0 rfl) ?_
  refine lv_bipush (v := 40) C.1 C.2.1 dX12_tray_71 (by decide) ?_
  refine b_icmp_ge_f C (tgt := 95) dX12_tray_73 (by decide) (by decide) ?_
  refine lv_aload_n C.1 C.2.1 dX12_tray_76 rfl (lv_at hl 1 rfl) ?_
  refine r_get C w 0 rfl rfl 31 (by decide) fl_RX12_64 (v := .ref a17) rfl dX12_tray_77 ?_
  refine lv_bipush (v := 40) C.1 C.2.1 dX12_tray_80 (by decide) ?_
  refine lv_iload_n C.1 C.2.1 dX12_tray_82 rfl (lv_at hl 2 rfl) ?_
  refine r_imul C (v := 80) dX12_tray_83 (by decide) ?_
  refine lv_iload C.1 C.2.1 dX12_tray_84 (lv_at hl 0 rfl) ?_
  refine r_iadd C (v := 80) dX12_tray_86 (by decide) ?_
  refine lv_lconst (v := 0) C.1 C.2.1 dX12_tray_87 (by decide) ?_
  refine r_last C w 3 rfl (vinD (by decide)) (vp_updL (fun _ => 0) 80 0) rfl [(a0, .inr (12, [.ref a1, .ref a2, .ref a3, .ref a4, .ref a5, .int 0, .ref a6, .int 0, .int 0, .int 0, .int 0, .int 0, .int 0, .int 0, .int 0, .int 0, .int 0, .int (-1), .ref a7, .ref a8, .int 0, .ref a9, .int 0, .ref a10, .ref a11, .ref a12, .ref a13, .ref a14, .int 0, .ref a15, .ref a16, .ref a17])), (a15, .inl (cy 1, 4, .inl (upd (upd (upd (upd (upd (fun _ => 0) 0 (-1)) 1 (-1)) 2 (-1)) 3 (-1)) 2 x1))), (a16, .inl (cy 1, 4, .inl (upd (fun _ => 0) 2 x2))), (a17, .inl (cy 2, 160, .inr (.inl (vp_updL (fun _ => 0) 80 0))))] rfl dX12_tray_88 (fun H locs w => ?_)
  refine lv_iinc (v := 1) (lv' := [(4, .int 1), (0, .ref a0), (1, .int 2), (2, .int x1), (3, .int x2)]) C.1 C.2.1 dX12_tray_89 hl (k := 0) rfl (by decide) (by decide) rfl (fun ls hl => ?_)
  refine lv_goto (tgt := 69) C.1 C.2.1 dX12_tray_92 (by decide) ?_
  refine lv_iload C.1 C.2.1 dX12_tray_69 (lv_at hl 0 rfl) ?_
  refine lv_bipush (v := 40) C.1 C.2.1 dX12_tray_71 (by decide) ?_
  refine b_icmp_ge_f C (tgt := 95) dX12_tray_73 (by decide) (by decide) ?_
  refine lv_aload_n C.1 C.2.1 dX12_tray_76 rfl (lv_at hl 1 rfl) ?_
  refine r_get C w 0 rfl rfl 31 (by decide) fl_RX12_64 (v := .ref a17) rfl dX12_tray_77 ?_
  refine lv_bipush (v := 40) C.1 C.2.1 dX12_tray_80 (by decide) ?_
  refine lv_iload_n C.1 C.2.1 dX12_tray_82 rfl (lv_at hl 2 rfl) ?_
  refine r_imul C (v := 80) dX12_tray_83 (by decide) ?_
  refine lv_iload C.1 C.2.1 dX12_tray_84 (lv_at hl 0 rfl) ?_
  refine r_iadd C (v := 81) dX12_tray_86 (by decide) ?_
  refine lv_lconst (v := 0) C.1 C.2.1 dX12_tray_87 (by decide) ?_
  refine r_last C w 3 rfl (vinD (by decide)) (vp_updL (vp_updL (fun _ => 0) 80 0) 81 0) rfl [(a0, .inr (12, [.ref a1, .ref a2, .ref a3, .ref a4, .ref a5, .int 0, .ref a6, .int 0, .int 0, .int 0, .int 0, .int 0, .int 0, .int 0, .int 0, .int 0, .int 0, .int (-1), .ref a7, .ref a8, .int 0, .ref a9, .int 0, .ref a10, .ref a11, .ref a12, .ref a13, .ref a14, .int 0, .ref a15, .ref a16, .ref a17])), (a15, .inl (cy 1, 4, .inl (upd (upd (upd (upd (upd (fun _ => 0) 0 (-1)) 1 (-1)) 2 (-1)) 3 (-1)) 2 x1))), (a16, .inl (cy 1, 4, .inl (upd (fun _ => 0) 2 x2))), (a17, .inl (cy 2, 160, .inr (.inl (vp_updL (vp_updL (fun _ => 0) 80 0) 81 0))))] rfl dX12_tray_88 (fun H locs w => ?_)
  refine lv_iinc (v := 2) (lv' := [(4, .int 2), (0, .ref a0), (1, .int 2), (2, .int x1), (3, .int x2)]) C.1 C.2.1 dX12_tray_89 hl (k := 0) rfl (by decide) (by decide) rfl (fun ls hl => ?_)
  refine lv_goto (tgt := 69) C.1 C.2.1 dX12_tray_92 (by decide) ?_
  refine lv_iload C.1 C.2.1 dX12_tray_69 (lv_at hl 0 rfl) ?_
  refine lv_bipush (v := 40) C.1 C.2.1 dX12_tray_71 (by decide) ?_
  refine b_icmp_ge_f C (tgt := 95) dX12_tray_73 (by decide) (by decide) ?_
  refine lv_aload_n C.1 C.2.1 dX12_tray_76 rfl (lv_at hl 1 rfl) ?_
  refine r_get C w 0 rfl rfl 31 (by decide) fl_RX12_64 (v := .ref a17) rfl dX12_tray_77 ?_
  refine lv_bipush (v := 40) C.1 C.2.1 dX12_tray_80 (by decide) ?_
  refine lv_iload_n C.1 C.2.1 dX12_tray_82 rfl (lv_at hl 2 rfl) ?_
  refine r_imul C (v := 80) dX12_tray_83 (by decide) ?_
  refine lv_iload C.1 C.2.1 dX12_tray_84 (lv_at hl 0 rfl) ?_
  refine r_iadd C (v := 82) dX12_tray_86 (by decide) ?_
  refine lv_lconst (v := 0) C.1 C.2.1 dX12_tray_87 (by decide) ?_
  refine r_last C w 3 rfl (vinD (by decide)) (vp_updL (vp_updL (vp_updL (fun _ => 0) 80 0) 81 0) 82 0) rfl [(a0, .inr (12, [.ref a1, .ref a2, .ref a3, .ref a4, .ref a5, .int 0, .ref a6, .int 0, .int 0, .int 0, .int 0, .int 0, .int 0, .int 0, .int 0, .int 0, .int 0, .int (-1), .ref a7, .ref a8, .int 0, .ref a9, .int 0, .ref a10, .ref a11, .ref a12, .ref a13, .ref a14, .int 0, .ref a15, .ref a16, .ref a17])), (a15, .inl (cy 1, 4, .inl (upd (upd (upd (upd (upd (fun _ => 0) 0 (-1)) 1 (-1)) 2 (-1)) 3 (-1)) 2 x1))), (a16, .inl (cy 1, 4, .inl (upd (fun _ => 0) 2 x2))), (a17, .inl (cy 2, 160, .inr (.inl (vp_updL (vp_updL (vp_updL (fun _ => 0) 80 0) 81 0) 82 0))))] rfl dX12_tray_88 (fun H locs w => ?_)
  refine lv_iinc (v := 3) (lv' := [(4, .int 3), (0, .ref a0), (1, .int 2), (2, .int x1), (3, .int x2)]) C.1 C.2.1 dX12_tray_89 hl (k := 0) rfl (by decide) (by decide) rfl (fun ls hl => ?_)
  refine lv_goto (tgt := 69) C.1 C.2.1 dX12_tray_92 (by decide) ?_
  refine lv_iload C.1 C.2.1 dX12_tray_69 (lv_at hl 0 rfl) ?_
  refine lv_bipush (v := 40) C.1 C.2.1 dX12_tray_71 (by decide) ?_
  refine b_icmp_ge_f C (tgt := 95) dX12_tray_73 (by decide) (by decide) ?_
  refine lv_aload_n C.1 C.2.1 dX12_tray_76 rfl (lv_at hl 1 rfl) ?_
  refine r_get C w 0 rfl rfl 31 (by decide) fl_RX12_64 (v := .ref a17) rfl dX12_tray_77 ?_
  refine lv_bipush (v := 40) C.1 C.2.1 dX12_tray_80 (by decide) ?_
  refine lv_iload_n C.1 C.2.1 dX12_tray_82 rfl (lv_at hl 2 rfl) ?_
  refine r_imul C (v := 80) dX12_tray_83 (by decide) ?_
  refine lv_iload C.1 C.2.1 dX12_tray_84 (lv_at hl 0 rfl) ?_
  refine r_iadd C (v := 83) dX12_tray_86 (by decide) ?_
  refine lv_lconst (v := 0) C.1 C.2.1 dX12_tray_87 (by decide) ?_
  refine r_last C w 3 rfl (vinD (by decide)) (vp_updL (vp_updL (vp_updL (vp_updL (fun _ => 0) 80 0) 81 0) 82 0) 83 0) rfl [(a0, .inr (12, [.ref a1, .ref a2, .ref a3, .ref a4, .ref a5, .int 0, .ref a6, .int 0, .int 0, .int 0, .int 0, .int 0, .int 0, .int 0, .int 0, .int 0, .int 0, .int (-1), .ref a7, .ref a8, .int 0, .ref a9, .int 0, .ref a10, .ref a11, .ref a12, .ref a13, .ref a14, .int 0, .ref a15, .ref a16, .ref a17])), (a15, .inl (cy 1, 4, .inl (upd (upd (upd (upd (upd (fun _ => 0) 0 (-1)) 1 (-1)) 2 (-1)) 3 (-1)) 2 x1))), (a16, .inl (cy 1, 4, .inl (upd (fun _ => 0) 2 x2))), (a17, .inl (cy 2, 160, .inr (.inl (vp_updL (vp_updL (vp_updL (vp_updL (fun _ => 0) 80 0) 81 0) 82 0) 83 0))))] rfl dX12_tray_88 (fun H locs w => ?_)
  refine lv_iinc (v := 4) (lv' := [(4, .int 4), (0, .ref a0), (1, .int 2), (2, .int x1), (3, .int x2)]) C.1 C.2.1 dX12_tray_89 hl (k := 0) rfl (by decide) (by decide) rfl (fun ls hl => ?_)
  refine lv_goto (tgt := 69) C.1 C.2.1 dX12_tray_92 (by decide) ?_
  refine lv_iload C.1 C.2.1 dX12_tray_69 (lv_at hl 0 rfl) ?_
  refine lv_bipush (v := 40) C.1 C.2.1 dX12_tray_71 (by decide) ?_
  refine b_icmp_ge_f C (tgt := 95) dX12_tray_73 (by decide) (by decide) ?_
  refine lv_aload_n C.1 C.2.1 dX12_tray_76 rfl (lv_at hl 1 rfl) ?_
  refine r_get C w 0 rfl rfl 31 (by decide) fl_RX12_64 (v := .ref a17) rfl dX12_tray_77 ?_
  refine lv_bipush (v := 40) C.1 C.2.1 dX12_tray_80 (by decide) ?_
  refine lv_iload_n C.1 C.2.1 dX12_tray_82 rfl (lv_at hl 2 rfl) ?_
  refine r_imul C (v := 80) dX12_tray_83 (by decide) ?_
  refine lv_iload C.1 C.2.1 dX12_tray_84 (lv_at hl 0 rfl) ?_
  refine r_iadd C (v := 84) dX12_tray_86 (by decide) ?_
  refine lv_lconst (v := 0) C.1 C.2.1 dX12_tray_87 (by decide) ?_
  refine r_last C w 3 rfl (vinD (by decide)) (vp_updL (vp_updL (vp_updL (vp_updL (vp_updL (fun _ => 0) 80 0) 81 0) 82 0) 83 0) 84 0) rfl [(a0, .inr (12, [.ref a1, .ref a2, .ref a3, .ref a4, .ref a5, .int 0, .ref a6, .int 0, .int 0, .int 0, .int 0, .int 0, .int 0, .int 0, .int 0, .int 0, .int 0, .int (-1), .ref a7, .ref a8, .int 0, .ref a9, .int 0, .ref a10, .ref a11, .ref a12, .ref a13, .ref a14, .int 0, .ref a15, .ref a16, .ref a17])), (a15, .inl (cy 1, 4, .inl (upd (upd (upd (upd (upd (fun _ => 0) 0 (-1)) 1 (-1)) 2 (-1)) 3 (-1)) 2 x1))), (a16, .inl (cy 1, 4, .inl (upd (fun _ => 0) 2 x2))), (a17, .inl (cy 2, 160, .inr (.inl (vp_updL (vp_updL (vp_updL (vp_updL (vp_updL (fun _ => 0) 80 0) 81 0) 82 0) 83 0) 84 0))))] rfl dX12_tray_88 (fun H locs w => ?_)
  refine lv_iinc (v := 5) (lv' := [(4, .int 5), (0, .ref a0), (1, .int 2), (2, .int x1), (3, .int x2)]) C.1 C.2.1 dX12_tray_89 hl (k := 0) rfl (by decide) (by decide) rfl (fun ls hl => ?_)
  refine lv_goto (tgt := 69) C.1 C.2.1 dX12_tray_92 (by decide) ?_
  refine lv_iload C.1 C.2.1 dX12_tray_69 (lv_at hl 0 rfl) ?_
  refine lv_bipush (v := 40) C.1 C.2.1 dX12_tray_71 (by decide) ?_
  refine b_icmp_ge_f C (tgt := 95) dX12_tray_73 (by decide) (by decide) ?_
  refine lv_aload_n C.1 C.2.1 dX12_tray_76 rfl (lv_at hl 1 rfl) ?_
  refine r_get C w 0 rfl rfl 31 (by decide) fl_RX12_64 (v := .ref a17) rfl dX12_tray_77 ?_
  refine lv_bipush (v := 40) C.1 C.2.1 dX12_tray_80 (by decide) ?_
  refine lv_iload_n C.1 C.2.1 dX12_tray_82 rfl (lv_at hl 2 rfl) ?_
  refine r_imul C (v := 80) dX12_tray_83 (by decide) ?_
  refine lv_iload C.1 C.2.1 dX12_tray_84 (lv_at hl 0 rfl) ?_
  refine r_iadd C (v := 85) dX12_tray_86 (by decide) ?_
  refine lv_lconst (v := 0) C.1 C.2.1 dX12_tray_87 (by decide) ?_
  refine r_last C w 3 rfl (vinD (by decide)) (vp_updL (vp_updL (vp_updL (vp_updL (vp_updL (vp_updL (fun _ => 0) 80 0) 81 0) 82 0) 83 0) 84 0) 85 0) rfl [(a0, .inr (12, [.ref a1, .ref a2, .ref a3, .ref a4, .ref a5, .int 0, .ref a6, .int 0, .int 0, .int 0, .int 0, .int 0, .int 0, .int 0, .int 0, .int 0, .int 0, .int (-1), .ref a7, .ref a8, .int 0, .ref a9, .int 0, .ref a10, .ref a11, .ref a12, .ref a13, .ref a14, .int 0, .ref a15, .ref a16, .ref a17])), (a15, .inl (cy 1, 4, .inl (upd (upd (upd (upd (upd (fun _ => 0) 0 (-1)) 1 (-1)) 2 (-1)) 3 (-1)) 2 x1))), (a16, .inl (cy 1, 4, .inl (upd (fun _ => 0) 2 x2))), (a17, .inl (cy 2, 160, .inr (.inl (vp_updL (vp_updL (vp_updL (vp_updL (vp_updL (vp_updL (fun _ => 0) 80 0) 81 0) 82 0) 83 0) 84 0) 85 0))))] rfl dX12_tray_88 (fun H locs w => ?_)
  refine lv_iinc (v := 6) (lv' := [(4, .int 6), (0, .ref a0), (1, .int 2), (2, .int x1), (3, .int x2)]) C.1 C.2.1 dX12_tray_89 hl (k := 0) rfl (by decide) (by decide) rfl (fun ls hl => ?_)
  refine lv_goto (tgt := 69) C.1 C.2.1 dX12_tray_92 (by decide) ?_
  refine lv_iload C.1 C.2.1 dX12_tray_69 (lv_at hl 0 rfl) ?_
  refine lv_bipush (v := 40) C.1 C.2.1 dX12_tray_71 (by decide) ?_
  refine b_icmp_ge_f C (tgt := 95) dX12_tray_73 (by decide) (by decide) ?_
  refine lv_aload_n C.1 C.2.1 dX12_tray_76 rfl (lv_at hl 1 rfl) ?_
  refine r_get C w 0 rfl rfl 31 (by decide) fl_RX12_64 (v := .ref a17) rfl dX12_tray_77 ?_
  refine lv_bipush (v := 40) C.1 C.2.1 dX12_tray_80 (by decide) ?_
  refine lv_iload_n C.1 C.2.1 dX12_tray_82 rfl (lv_at hl 2 rfl) ?_
  refine r_imul C (v := 80) dX12_tray_83 (by decide) ?_
  refine lv_iload C.1 C.2.1 dX12_tray_84 (lv_at hl 0 rfl) ?_
  refine r_iadd C (v := 86) dX12_tray_86 (by decide) ?_
  refine lv_lconst (v := 0) C.1 C.2.1 dX12_tray_87 (by decide) ?_
  refine r_last C w 3 rfl (vinD (by decide)) (vp_updL (vp_updL (vp_updL (vp_updL (vp_updL (vp_updL (vp_updL (fun _ => 0) 80 0) 81 0) 82 0) 83 0) 84 0) 85 0) 86 0) rfl [(a0, .inr (12, [.ref a1, .ref a2, .ref a3, .ref a4, .ref a5, .int 0, .ref a6, .int 0, .int 0, .int 0, .int 0, .int 0, .int 0, .int 0, .int 0, .int 0, .int 0, .int (-1), .ref a7, .ref a8, .int 0, .ref a9, .int 0, .ref a10, .ref a11, .ref a12, .ref a13, .ref a14, .int 0, .ref a15, .ref a16, .ref a17])), (a15, .inl (cy 1, 4, .inl (upd (upd (upd (upd (upd (fun _ => 0) 0 (-1)) 1 (-1)) 2 (-1)) 3 (-1)) 2 x1))), (a16, .inl (cy 1, 4, .inl (upd (fun _ => 0) 2 x2))), (a17, .inl (cy 2, 160, .inr (.inl (vp_updL (vp_updL (vp_updL (vp_updL (vp_updL (vp_updL (vp_updL (fun _ => 0) 80 0) 81 0) 82 0) 83 0) 84 0) 85 0) 86 0))))] rfl dX12_tray_88 (fun H locs w => ?_)
  refine lv_iinc (v := 7) (lv' := [(4, .int 7), (0, .ref a0), (1, .int 2), (2, .int x1), (3, .int x2)]) C.1 C.2.1 dX12_tray_89 hl (k := 0) rfl (by decide) (by decide) rfl (fun ls hl => ?_)
  refine lv_goto (tgt := 69) C.1 C.2.1 dX12_tray_92 (by decide) ?_
  refine lv_iload C.1 C.2.1 dX12_tray_69 (lv_at hl 0 rfl) ?_
  refine lv_bipush (v := 40) C.1 C.2.1 dX12_tray_71 (by decide) ?_
  refine b_icmp_ge_f C (tgt := 95) dX12_tray_73 (by decide) (by decide) ?_
  refine lv_aload_n C.1 C.2.1 dX12_tray_76 rfl (lv_at hl 1 rfl) ?_
  refine r_get C w 0 rfl rfl 31 (by decide) fl_RX12_64 (v := .ref a17) rfl dX12_tray_77 ?_
  refine lv_bipush (v := 40) C.1 C.2.1 dX12_tray_80 (by decide) ?_
  refine lv_iload_n C.1 C.2.1 dX12_tray_82 rfl (lv_at hl 2 rfl) ?_
  refine r_imul C (v := 80) dX12_tray_83 (by decide) ?_
  refine lv_iload C.1 C.2.1 dX12_tray_84 (lv_at hl 0 rfl) ?_
  refine r_iadd C (v := 87) dX12_tray_86 (by decide) ?_
  refine lv_lconst (v := 0) C.1 C.2.1 dX12_tray_87 (by decide) ?_
  refine r_last C w 3 rfl (vinD (by decide)) (vp_updL (vp_updL (vp_updL (vp_updL (vp_updL (vp_updL (vp_updL (vp_updL (fun _ => 0) 80 0) 81 0) 82 0) 83 0) 84 0) 85 0) 86 0) 87 0) rfl [(a0, .inr (12, [.ref a1, .ref a2, .ref a3, .ref a4, .ref a5, .int 0, .ref a6, .int 0, .int 0, .int 0, .int 0, .int 0, .int 0, .int 0, .int 0, .int 0, .int 0, .int (-1), .ref a7, .ref a8, .int 0, .ref a9, .int 0, .ref a10, .ref a11, .ref a12, .ref a13, .ref a14, .int 0, .ref a15, .ref a16, .ref a17])), (a15, .inl (cy 1, 4, .inl (upd (upd (upd (upd (upd (fun _ => 0) 0 (-1)) 1 (-1)) 2 (-1)) 3 (-1)) 2 x1))), (a16, .inl (cy 1, 4, .inl (upd (fun _ => 0) 2 x2))), (a17, .inl (cy 2, 160, .inr (.inl (vp_updL (vp_updL (vp_updL (vp_updL (vp_updL (vp_updL (vp_updL (vp_updL (fun _ => 0) 80 0) 81 0) 82 0) 83 0) 84 0) 85 0) 86 0) 87 0))))] rfl dX12_tray_88 (fun H locs w => ?_)
  refine lv_iinc (v := 8) (lv' := [(4, .int 8), (0, .ref a0), (1, .int 2), (2, .int x1), (3, .int x2)]) C.1 C.2.1 dX12_tray_89 hl (k := 0) rfl (by decide) (by decide) rfl (fun ls hl => ?_)
  refine lv_goto (tgt := 69) C.1 C.2.1 dX12_tray_92 (by decide) ?_
  refine lv_iload C.1 C.2.1 dX12_tray_69 (lv_at hl 0 rfl) ?_
  refine lv_bipush (v := 40) C.1 C.2.1 dX12_tray_71 (by decide) ?_
  refine b_icmp_ge_f C (tgt := 95) dX12_tray_73 (by decide) (by decide) ?_
  refine lv_aload_n C.1 C.2.1 dX12_tray_76 rfl (lv_at hl 1 rfl) ?_
  refine r_get C w 0 rfl rfl 31 (by decide) fl_RX12_64 (v := .ref a17) rfl dX12_tray_77 ?_
  refine lv_bipush (v := 40) C.1 C.2.1 dX12_tray_80 (by decide) ?_
  refine lv_iload_n C.1 C.2.1 dX12_tray_82 rfl (lv_at hl 2 rfl) ?_
  refine r_imul C (v := 80) dX12_tray_83 (by decide) ?_
  refine lv_iload C.1 C.2.1 dX12_tray_84 (lv_at hl 0 rfl) ?_
  refine r_iadd C (v := 88) dX12_tray_86 (by decide) ?_
  refine lv_lconst (v := 0) C.1 C.2.1 dX12_tray_87 (by decide) ?_
  refine r_last C w 3 rfl (vinD (by decide)) (vp_updL (vp_updL (vp_updL (vp_updL (vp_updL (vp_updL (vp_updL (vp_updL (vp_updL (fun _ => 0) 80 0) 81 0) 82 0) 83 0) 84 0) 85 0) 86 0) 87 0) 88 0) rfl [(a0, .inr (12, [.ref a1, .ref a2, .ref a3, .ref a4, .ref a5, .int 0, .ref a6, .int 0, .int 0, .int 0, .int 0, .int 0, .int 0, .int 0, .int 0, .int 0, .int 0, .int (-1), .ref a7, .ref a8, .int 0, .ref a9, .int 0, .ref a10, .ref a11, .ref a12, .ref a13, .ref a14, .int 0, .ref a15, .ref a16, .ref a17])), (a15, .inl (cy 1, 4, .inl (upd (upd (upd (upd (upd (fun _ => 0) 0 (-1)) 1 (-1)) 2 (-1)) 3 (-1)) 2 x1))), (a16, .inl (cy 1, 4, .inl (upd (fun _ => 0) 2 x2))), (a17, .inl (cy 2, 160, .inr (.inl (vp_updL (vp_updL (vp_updL (vp_updL (vp_updL (vp_updL (vp_updL (vp_updL (vp_updL (fun _ => 0) 80 0) 81 0) 82 0) 83 0) 84 0) 85 0) 86 0) 87 0) 88 0))))] rfl dX12_tray_88 (fun H locs w => ?_)
  refine lv_iinc (v := 9) (lv' := [(4, .int 9), (0, .ref a0), (1, .int 2), (2, .int x1), (3, .int x2)]) C.1 C.2.1 dX12_tray_89 hl (k := 0) rfl (by decide) (by decide) rfl (fun ls hl => ?_)
  refine lv_goto (tgt := 69) C.1 C.2.1 dX12_tray_92 (by decide) ?_
  refine lv_iload C.1 C.2.1 dX12_tray_69 (lv_at hl 0 rfl) ?_
  refine lv_bipush (v := 40) C.1 C.2.1 dX12_tray_71 (by decide) ?_
  refine b_icmp_ge_f C (tgt := 95) dX12_tray_73 (by decide) (by decide) ?_
  refine lv_aload_n C.1 C.2.1 dX12_tray_76 rfl (lv_at hl 1 rfl) ?_
  refine r_get C w 0 rfl rfl 31 (by decide) fl_RX12_64 (v := .ref a17) rfl dX12_tray_77 ?_
  refine lv_bipush (v := 40) C.1 C.2.1 dX12_tray_80 (by decide) ?_
  refine lv_iload_n C.1 C.2.1 dX12_tray_82 rfl (lv_at hl 2 rfl) ?_
  refine r_imul C (v := 80) dX12_tray_83 (by decide) ?_
  refine lv_iload C.1 C.2.1 dX12_tray_84 (lv_at hl 0 rfl) ?_
  refine r_iadd C (v := 89) dX12_tray_86 (by decide) ?_
  refine lv_lconst (v := 0) C.1 C.2.1 dX12_tray_87 (by decide) ?_
  refine r_last C w 3 rfl (vinD (by decide)) (vp_updL (vp_updL (vp_updL (vp_updL (vp_updL (vp_updL (vp_updL (vp_updL (vp_updL (vp_updL (fun _ => 0) 80 0) 81 0) 82 0) 83 0) 84 0) 85 0) 86 0) 87 0) 88 0) 89 0) rfl [(a0, .inr (12, [.ref a1, .ref a2, .ref a3, .ref a4, .ref a5, .int 0, .ref a6, .int 0, .int 0, .int 0, .int 0, .int 0, .int 0, .int 0, .int 0, .int 0, .int 0, .int (-1), .ref a7, .ref a8, .int 0, .ref a9, .int 0, .ref a10, .ref a11, .ref a12, .ref a13, .ref a14, .int 0, .ref a15, .ref a16, .ref a17])), (a15, .inl (cy 1, 4, .inl (upd (upd (upd (upd (upd (fun _ => 0) 0 (-1)) 1 (-1)) 2 (-1)) 3 (-1)) 2 x1))), (a16, .inl (cy 1, 4, .inl (upd (fun _ => 0) 2 x2))), (a17, .inl (cy 2, 160, .inr (.inl (vp_updL (vp_updL (vp_updL (vp_updL (vp_updL (vp_updL (vp_updL (vp_updL (vp_updL (vp_updL (fun _ => 0) 80 0) 81 0) 82 0) 83 0) 84 0) 85 0) 86 0) 87 0) 88 0) 89 0))))] rfl dX12_tray_88 (fun H locs w => ?_)
  refine lv_iinc (v := 10) (lv' := [(4, .int 10), (0, .ref a0), (1, .int 2), (2, .int x1), (3, .int x2)]) C.1 C.2.1 dX12_tray_89 hl (k := 0) rfl (by decide) (by decide) rfl (fun ls hl => ?_)
  refine lv_goto (tgt := 69) C.1 C.2.1 dX12_tray_92 (by decide) ?_
  refine lv_iload C.1 C.2.1 dX12_tray_69 (lv_at hl 0 rfl) ?_
  refine lv_bipush (v := 40) C.1 C.2.1 dX12_tray_71 (by decide) ?_
  refine b_icmp_ge_f C (tgt := 95) dX12_tray_73 (by decide) (by decide) ?_
  refine lv_aload_n C.1 C.2.1 dX12_tray_76 rfl (lv_at hl 1 rfl) ?_
  refine r_get C w 0 rfl rfl 31 (by decide) fl_RX12_64 (v := .ref a17) rfl dX12_tray_77 ?_
  refine lv_bipush (v := 40) C.1 C.2.1 dX12_tray_80 (by decide) ?_
  refine lv_iload_n C.1 C.2.1 dX12_tray_82 rfl (lv_at hl 2 rfl) ?_
  refine r_imul C (v := 80) dX12_tray_83 (by decide) ?_
  refine lv_iload C.1 C.2.1 dX12_tray_84 (lv_at hl 0 rfl) ?_
  refine r_iadd C (v := 90) dX12_tray_86 (by decide) ?_
  refine lv_lconst (v := 0) C.1 C.2.1 dX12_tray_87 (by decide) ?_
  refine r_last C w 3 rfl (vinD (by decide)) (vp_updL (vp_updL (vp_updL (vp_updL (vp_updL (vp_updL (vp_updL (vp_updL (vp_updL (vp_updL (vp_updL (fun _ => 0) 80 0) 81 0) 82 0) 83 0) 84 0) 85 0) 86 0) 87 0) 88 0) 89 0) 90 0) rfl [(a0, .inr (12, [.ref a1, .ref a2, .ref a3, .ref a4, .ref a5, .int 0, .ref a6, .int 0, .int 0, .int 0, .int 0, .int 0, .int 0, .int 0, .int 0, .int 0, .int 0, .int (-1), .ref a7, .ref a8, .int 0, .ref a9, .int 0, .ref a10, .ref a11, .ref a12, .ref a13, .ref a14, .int 0, .ref a15, .ref a16, .ref a17])), (a15, .inl (cy 1, 4, .inl (upd (upd (upd (upd (upd (fun _ => 0) 0 (-1)) 1 (-1)) 2 (-1)) 3 (-1)) 2 x1))), (a16, .inl (cy 1, 4, .inl (upd (fun _ => 0) 2 x2))), (a17, .inl (cy 2, 160, .inr (.inl (vp_updL (vp_updL (vp_updL (vp_updL (vp_updL (vp_updL (vp_updL (vp_updL (vp_updL (vp_updL (vp_updL (fun _ => 0) 80 0) 81 0) 82 0) 83 0) 84 0) 85 0) 86 0) 87 0) 88 0) 89 0) 90 0))))] rfl dX12_tray_88 (fun H locs w => ?_)
  refine lv_iinc (v := 11) (lv' := [(4, .int 11), (0, .ref a0), (1, .int 2), (2, .int x1), (3, .int x2)]) C.1 C.2.1 dX12_tray_89 hl (k := 0) rfl (by decide) (by decide) rfl (fun ls hl => ?_)
  refine lv_goto (tgt := 69) C.1 C.2.1 dX12_tray_92 (by decide) ?_
  refine lv_iload C.1 C.2.1 dX12_tray_69 (lv_at hl 0 rfl) ?_
  refine lv_bipush (v := 40) C.1 C.2.1 dX12_tray_71 (by decide) ?_
  refine b_icmp_ge_f C (tgt := 95) dX12_tray_73 (by decide) (by decide) ?_
  refine lv_aload_n C.1 C.2.1 dX12_tray_76 rfl (lv_at hl 1 rfl) ?_
  refine r_get C w 0 rfl rfl 31 (by decide) fl_RX12_64 (v := .ref a17) rfl dX12_tray_77 ?_
  refine lv_bipush (v := 40) C.1 C.2.1 dX12_tray_80 (by decide) ?_
  refine lv_iload_n C.1 C.2.1 dX12_tray_82 rfl (lv_at hl 2 rfl) ?_
  refine r_imul C (v := 80) dX12_tray_83 (by decide) ?_
  refine lv_iload C.1 C.2.1 dX12_tray_84 (lv_at hl 0 rfl) ?_
  refine r_iadd C (v := 91) dX12_tray_86 (by decide) ?_
  refine lv_lconst (v := 0) C.1 C.2.1 dX12_tray_87 (by decide) ?_
  refine r_last C w 3 rfl (vinD (by decide)) (vp_updL (vp_updL (vp_updL (vp_updL (vp_updL (vp_updL (vp_updL (vp_updL (vp_updL (vp_updL (vp_updL (vp_updL (fun _ => 0) 80 0) 81 0) 82 0) 83 0) 84 0) 85 0) 86 0) 87 0) 88 0) 89 0) 90 0) 91 0) rfl [(a0, .inr (12, [.ref a1, .ref a2, .ref a3, .ref a4, .ref a5, .int 0, .ref a6, .int 0, .int 0, .int 0, .int 0, .int 0, .int 0, .int 0, .int 0, .int 0, .int 0, .int (-1), .ref a7, .ref a8, .int 0, .ref a9, .int 0, .ref a10, .ref a11, .ref a12, .ref a13, .ref a14, .int 0, .ref a15, .ref a16, .ref a17])), (a15, .inl (cy 1, 4, .inl (upd (upd (upd (upd (upd (fun _ => 0) 0 (-1)) 1 (-1)) 2 (-1)) 3 (-1)) 2 x1))), (a16, .inl (cy 1, 4, .inl (upd (fun _ => 0) 2 x2))), (a17, .inl (cy 2, 160, .inr (.inl (vp_updL (vp_updL (vp_updL (vp_updL (vp_updL (vp_updL (vp_updL (vp_updL (vp_updL (vp_updL (vp_updL (vp_updL (fun _ => 0) 80 0) 81 0) 82 0) 83 0) 84 0) 85 0) 86 0) 87 0) 88 0) 89 0) 90 0) 91 0))))] rfl dX12_tray_88 (fun H locs w => ?_)
  refine lv_iinc (v := 12) (lv' := [(4, .int 12), (0, .ref a0), (1, .int 2), (2, .int x1), (3, .int x2)]) C.1 C.2.1 dX12_tray_89 hl (k := 0) rfl (by decide) (by decide) rfl (fun ls hl => ?_)
  refine lv_goto (tgt := 69) C.1 C.2.1 dX12_tray_92 (by decide) ?_
  refine lv_iload C.1 C.2.1 dX12_tray_69 (lv_at hl 0 rfl) ?_
  refine lv_bipush (v := 40) C.1 C.2.1 dX12_tray_71 (by decide) ?_
  refine b_icmp_ge_f C (tgt := 95) dX12_tray_73 (by decide) (by decide) ?_
  refine lv_aload_n C.1 C.2.1 dX12_tray_76 rfl (lv_at hl 1 rfl) ?_
  refine r_get C w 0 rfl rfl 31 (by decide) fl_RX12_64 (v := .ref a17) rfl dX12_tray_77 ?_
  refine lv_bipush (v := 40) C.1 C.2.1 dX12_tray_80 (by decide) ?_
  refine lv_iload_n C.1 C.2.1 dX12_tray_82 rfl (lv_at hl 2 rfl) ?_
  refine r_imul C (v := 80) dX12_tray_83 (by decide) ?_
  refine lv_iload C.1 C.2.1 dX12_tray_84 (lv_at hl 0 rfl) ?_
  refine r_iadd C (v := 92) dX12_tray_86 (by decide) ?_
  refine lv_lconst (v := 0) C.1 C.2.1 dX12_tray_87 (by decide) ?_
  refine r_last C w 3 rfl (vinD (by decide)) (vp_updL (vp_updL (vp_updL (vp_updL (vp_updL (vp_updL (vp_updL (vp_updL (vp_updL (vp_updL (vp_updL (vp_updL (vp_updL (fun _ => 0) 80 0) 81 0) 82 0) 83 0) 84 0) 85 0) 86 0) 87 0) 88 0) 89 0) 90 0) 91 0) 92 0) rfl [(a0, .inr (12, [.ref a1, .ref a2, .ref a3, .ref a4, .ref a5, .int 0, .ref a6, .int 0, .int 0, .int 0, .int 0, .int 0, .int 0, .int 0, .int 0, .int 0, .int 0, .int (-1), .ref a7, .ref a8, .int 0, .ref a9, .int 0, .ref a10, .ref a11, .ref a12, .ref a13, .ref a14, .int 0, .ref a15, .ref a16, .ref a17])), (a15, .inl (cy 1, 4, .inl (upd (upd (upd (upd (upd (fun _ => 0) 0 (-1)) 1 (-1)) 2 (-1)) 3 (-1)) 2 x1))), (a16, .inl (cy 1, 4, .inl (upd (fun _ => 0) 2 x2))), (a17, .inl (cy 2, 160, .inr (.inl (vp_updL (vp_updL (vp_updL (vp_updL (vp_updL (vp_updL (vp_updL (vp_updL (vp_updL (vp_updL (vp_updL (vp_updL (vp_updL (fun _ => 0) 80 0) 81 0) 82 0) 83 0) 84 0) 85 0) 86 0) 87 0) 88 0) 89 0) 90 0) 91 0) 92 0))))] rfl dX12_tray_88 (fun H locs w => ?_)
  refine lv_iinc (v := 13) (lv' := [(4, .int 13), (0, .ref a0), (1, .int 2), (2, .int x1), (3, .int x2)]) C.1 C.2.1 dX12_tray_89 hl (k := 0) rfl (by decide) (by decide) rfl (fun ls hl => ?_)
  refine lv_goto (tgt := 69) C.1 C.2.1 dX12_tray_92 (by decide) ?_
  refine lv_iload C.1 C.2.1 dX12_tray_69 (lv_at hl 0 rfl) ?_
  refine lv_bipush (v := 40) C.1 C.2.1 dX12_tray_71 (by decide) ?_
  refine b_icmp_ge_f C (tgt := 95) dX12_tray_73 (by decide) (by decide) ?_
  refine lv_aload_n C.1 C.2.1 dX12_tray_76 rfl (lv_at hl 1 rfl) ?_
  refine r_get C w 0 rfl rfl 31 (by decide) fl_RX12_64 (v := .ref a17) rfl dX12_tray_77 ?_
  refine lv_bipush (v := 40) C.1 C.2.1 dX12_tray_80 (by decide) ?_
  refine lv_iload_n C.1 C.2.1 dX12_tray_82 rfl (lv_at hl 2 rfl) ?_
  refine r_imul C (v := 80) dX12_tray_83 (by decide) ?_
  refine lv_iload C.1 C.2.1 dX12_tray_84 (lv_at hl 0 rfl) ?_
  refine r_iadd C (v := 93) dX12_tray_86 (by decide) ?_
  refine lv_lconst (v := 0) C.1 C.2.1 dX12_tray_87 (by decide) ?_
  refine r_last C w 3 rfl (vinD (by decide)) (vp_updL (vp_updL (vp_updL (vp_updL (vp_updL (vp_updL (vp_updL (vp_updL (vp_updL (vp_updL (vp_updL (vp_updL (vp_updL (vp_updL (fun _ => 0) 80 0) 81 0) 82 0) 83 0) 84 0) 85 0) 86 0) 87 0) 88 0) 89 0) 90 0) 91 0) 92 0) 93 0) rfl [(a0, .inr (12, [.ref a1, .ref a2, .ref a3, .ref a4, .ref a5, .int 0, .ref a6, .int 0, .int 0, .int 0, .int 0, .int 0, .int 0, .int 0, .int 0, .int 0, .int 0, .int (-1), .ref a7, .ref a8, .int 0, .ref a9, .int 0, .ref a10, .ref a11, .ref a12, .ref a13, .ref a14, .int 0, .ref a15, .ref a16, .ref a17])), (a15, .inl (cy 1, 4, .inl (upd (upd (upd (upd (upd (fun _ => 0) 0 (-1)) 1 (-1)) 2 (-1)) 3 (-1)) 2 x1))), (a16, .inl (cy 1, 4, .inl (upd (fun _ => 0) 2 x2))), (a17, .inl (cy 2, 160, .inr (.inl (vp_updL (vp_updL (vp_updL (vp_updL (vp_updL (vp_updL (vp_updL (vp_updL (vp_updL (vp_updL (vp_updL (vp_updL (vp_updL (vp_updL (fun _ => 0) 80 0) 81 0) 82 0) 83 0) 84 0) 85 0) 86 0) 87 0) 88 0) 89 0) 90 0) 91 0) 92 0) 93 0))))] rfl dX12_tray_88 (fun H locs w => ?_)
  refine lv_iinc (v := 14) (lv' := [(4, .int 14), (0, .ref a0), (1, .int 2), (2, .int x1), (3, .int x2)]) C.1 C.2.1 dX12_tray_89 hl (k := 0) rfl (by decide) (by decide) rfl (fun ls hl => ?_)
  refine lv_goto (tgt := 69) C.1 C.2.1 dX12_tray_92 (by decide) ?_
  refine lv_iload C.1 C.2.1 dX12_tray_69 (lv_at hl 0 rfl) ?_
  refine lv_bipush (v := 40) C.1 C.2.1 dX12_tray_71 (by decide) ?_
  refine b_icmp_ge_f C (tgt := 95) dX12_tray_73 (by decide) (by decide) ?_
  refine lv_aload_n C.1 C.2.1 dX12_tray_76 rfl (lv_at hl 1 rfl) ?_
  refine r_get C w 0 rfl rfl 31 (by decide) fl_RX12_64 (v := .ref a17) rfl dX12_tray_77 ?_
  refine lv_bipush (v := 40) C.1 C.2.1 dX12_tray_80 (by decide) ?_
  refine lv_iload_n C.1 C.2.1 dX12_tray_82 rfl (lv_at hl 2 rfl) ?_
  refine r_imul C (v := 80) dX12_tray_83 (by decide) ?_
  refine lv_iload C.1 C.2.1 dX12_tray_84 (lv_at hl 0 rfl) ?_
  refine r_iadd C (v := 94) dX12_tray_86 (by decide) ?_
  refine lv_lconst (v := 0) C.1 C.2.1 dX12_tray_87 (by decide) ?_
  refine r_last C w 3 rfl (vinD (by decide)) (vp_updL (vp_updL (vp_updL (vp_updL (vp_updL (vp_updL (vp_updL (vp_updL (vp_updL (vp_updL (vp_updL (vp_updL (vp_updL (vp_updL (vp_updL (fun _ => 0) 80 0) 81 0) 82 0) 83 0) 84 0) 85 0) 86 0) 87 0) 88 0) 89 0) 90 0) 91 0) 92 0) 93 0) 94 0) rfl [(a0, .inr (12, [.ref a1, .ref a2, .ref a3, .ref a4, .ref a5, .int 0, .ref a6, .int 0, .int 0, .int 0, .int 0, .int 0, .int 0, .int 0, .int 0, .int 0, .int 0, .int (-1), .ref a7, .ref a8, .int 0, .ref a9, .int 0, .ref a10, .ref a11, .ref a12, .ref a13, .ref a14, .int 0, .ref a15, .ref a16, .ref a17])), (a15, .inl (cy 1, 4, .inl (upd (upd (upd (upd (upd (fun _ => 0) 0 (-1)) 1 (-1)) 2 (-1)) 3 (-1)) 2 x1))), (a16, .inl (cy 1, 4, .inl (upd (fun _ => 0) 2 x2))), (a17, .inl (cy 2, 160, .inr (.inl (vp_updL (vp_updL (vp_updL (vp_updL (vp_updL (vp_updL (vp_updL (vp_updL (vp_updL (vp_updL (vp_updL (vp_updL (vp_updL (vp_updL (vp_updL (fun _ => 0) 80 0) 81 0) 82 0) 83 0) 84 0) 85 0) 86 0) 87 0) 88 0) 89 0) 90 0) 91 0) 92 0) 93 0) 94 0))))] rfl dX12_tray_88 (fun H locs w => ?_)
  refine lv_iinc (v := 15) (lv' := [(4, .int 15), (0, .ref a0), (1, .int 2), (2, .int x1), (3, .int x2)]) C.1 C.2.1 dX12_tray_89 hl (k := 0) rfl (by decide) (by decide) rfl (fun ls hl => ?_)
  refine lv_goto (tgt := 69) C.1 C.2.1 dX12_tray_92 (by decide) ?_
  refine lv_iload C.1 C.2.1 dX12_tray_69 (lv_at hl 0 rfl) ?_
  refine lv_bipush (v := 40) C.1 C.2.1 dX12_tray_71 (by decide) ?_
  refine b_icmp_ge_f C (tgt := 95) dX12_tray_73 (by decide) (by decide) ?_
  refine lv_aload_n C.1 C.2.1 dX12_tray_76 rfl (lv_at hl 1 rfl) ?_
  refine r_get C w 0 rfl rfl 31 (by decide) fl_RX12_64 (v := .ref a17) rfl dX12_tray_77 ?_
  refine lv_bipush (v := 40) C.1 C.2.1 dX12_tray_80 (by decide) ?_
  refine lv_iload_n C.1 C.2.1 dX12_tray_82 rfl (lv_at hl 2 rfl) ?_
  refine r_imul C (v := 80) dX12_tray_83 (by decide) ?_
  refine lv_iload C.1 C.2.1 dX12_tray_84 (lv_at hl 0 rfl) ?_
  refine r_iadd C (v := 95) dX12_tray_86 (by decide) ?_
  refine lv_lconst (v := 0) C.1 C.2.1 dX12_tray_87 (by decide) ?_
  refine r_last C w 3 rfl (vinD (by decide)) (vp_updL (vp_updL (vp_updL (vp_updL (vp_updL (vp_updL (vp_updL (vp_updL (vp_updL (vp_updL (vp_updL (vp_updL (vp_updL (vp_updL (vp_updL (vp_updL (fun _ => 0) 80 0) 81 0) 82 0) 83 0) 84 0) 85 0) 86 0) 87 0) 88 0) 89 0) 90 0) 91 0) 92 0) 93 0) 94 0) 95 0) rfl [(a0, .inr (12, [.ref a1, .ref a2, .ref a3, .ref a4, .ref a5, .int 0, .ref a6, .int 0, .int 0, .int 0, .int 0, .int 0, .int 0, .int 0, .int 0, .int 0, .int 0, .int (-1), .ref a7, .ref a8, .int 0, .ref a9, .int 0, .ref a10, .ref a11, .ref a12, .ref a13, .ref a14, .int 0, .ref a15, .ref a16, .ref a17])), (a15, .inl (cy 1, 4, .inl (upd (upd (upd (upd (upd (fun _ => 0) 0 (-1)) 1 (-1)) 2 (-1)) 3 (-1)) 2 x1))), (a16, .inl (cy 1, 4, .inl (upd (fun _ => 0) 2 x2))), (a17, .inl (cy 2, 160, .inr (.inl (vp_updL (vp_updL (vp_updL (vp_updL (vp_updL (vp_updL (vp_updL (vp_updL (vp_updL (vp_updL (vp_updL (vp_updL (vp_updL (vp_updL (vp_updL (vp_updL (fun _ => 0) 80 0) 81 0) 82 0) 83 0) 84 0) 85 0) 86 0) 87 0) 88 0) 89 0) 90 0) 91 0) 92 0) 93 0) 94 0) 95 0))))] rfl dX12_tray_88 (fun H locs w => ?_)
  refine lv_iinc (v := 16) (lv' := [(4, .int 16), (0, .ref a0), (1, .int 2), (2, .int x1), (3, .int x2)]) C.1 C.2.1 dX12_tray_89 hl (k := 0) rfl (by decide) (by decide) rfl (fun ls hl => ?_)
  refine lv_goto (tgt := 69) C.1 C.2.1 dX12_tray_92 (by decide) ?_
  refine lv_iload C.1 C.2.1 dX12_tray_69 (lv_at hl 0 rfl) ?_
  refine lv_bipush (v := 40) C.1 C.2.1 dX12_tray_71 (by decide) ?_
  refine b_icmp_ge_f C (tgt := 95) dX12_tray_73 (by decide) (by decide) ?_
  refine lv_aload_n C.1 C.2.1 dX12_tray_76 rfl (lv_at hl 1 rfl) ?_
  refine r_get C w 0 rfl rfl 31 (by decide) fl_RX12_64 (v := .ref a17) rfl dX12_tray_77 ?_
  refine lv_bipush (v := 40) C.1 C.2.1 dX12_tray_80 (by decide) ?_
  refine lv_iload_n C.1 C.2.1 dX12_tray_82 rfl (lv_at hl 2 rfl) ?_
  refine r_imul C (v := 80) dX12_tray_83 (by decide) ?_
  refine lv_iload C.1 C.2.1 dX12_tray_84 (lv_at hl 0 rfl) ?_
  refine r_iadd C (v := 96) dX12_tray_86 (by decide) ?_
  refine lv_lconst (v := 0) C.1 C.2.1 dX12_tray_87 (by decide) ?_
  refine r_last C w 3 rfl (vinD (by decide)) (vp_updL (vp_updL (vp_updL (vp_updL (vp_updL (vp_updL (vp_updL (vp_updL (vp_updL (vp_updL (vp_updL (vp_updL (vp_updL (vp_updL (vp_updL (vp_updL (vp_updL (fun _ => 0) 80 0) 81 0) 82 0) 83 0) 84 0) 85 0) 86 0) 87 0) 88 0) 89 0) 90 0) 91 0) 92 0) 93 0) 94 0) 95 0) 96 0) rfl [(a0, .inr (12, [.ref a1, .ref a2, .ref a3, .ref a4, .ref a5, .int 0, .ref a6, .int 0, .int 0, .int 0, .int 0, .int 0, .int 0, .int 0, .int 0, .int 0, .int 0, .int (-1), .ref a7, .ref a8, .int 0, .ref a9, .int 0, .ref a10, .ref a11, .ref a12, .ref a13, .ref a14, .int 0, .ref a15, .ref a16, .ref a17])), (a15, .inl (cy 1, 4, .inl (upd (upd (upd (upd (upd (fun _ => 0) 0 (-1)) 1 (-1)) 2 (-1)) 3 (-1)) 2 x1))), (a16, .inl (cy 1, 4, .inl (upd (fun _ => 0) 2 x2))), (a17, .inl (cy 2, 160, .inr (.inl (vp_updL (vp_updL (vp_updL (vp_updL (vp_updL (vp_updL (vp_updL (vp_updL (vp_updL (vp_updL (vp_updL (vp_updL (vp_updL (vp_updL (vp_updL (vp_updL (vp_updL (fun _ => 0) 80 0) 81 0) 82 0) 83 0) 84 0) 85 0) 86 0) 87 0) 88 0) 89 0) 90 0) 91 0) 92 0) 93 0) 94 0) 95 0) 96 0))))] rfl dX12_tray_88 (fun H locs w => ?_)
  refine lv_iinc (v := 17) (lv' := [(4, .int 17), (0, .ref a0), (1, .int 2), (2, .int x1), (3, .int x2)]) C.1 C.2.1 dX12_tray_89 hl (k := 0) rfl (by decide) (by decide) rfl (fun ls hl => ?_)
  refine lv_goto (tgt := 69) C.1 C.2.1 dX12_tray_92 (by decide) ?_
  refine lv_iload C.1 C.2.1 dX12_tray_69 (lv_at hl 0 rfl) ?_
  refine lv_bipush (v := 40) C.1 C.2.1 dX12_tray_71 (by decide) ?_
  refine b_icmp_ge_f C (tgt := 95) dX12_tray_73 (by decide) (by decide) ?_
  refine lv_aload_n C.1 C.2.1 dX12_tray_76 rfl (lv_at hl 1 rfl) ?_
  refine r_get C w 0 rfl rfl 31 (by decide) fl_RX12_64 (v := .ref a17) rfl dX12_tray_77 ?_
  refine lv_bipush (v := 40) C.1 C.2.1 dX12_tray_80 (by decide) ?_
  refine lv_iload_n C.1 C.2.1 dX12_tray_82 rfl (lv_at hl 2 rfl) ?_
  refine r_imul C (v := 80) dX12_tray_83 (by decide) ?_
  refine lv_iload C.1 C.2.1 dX12_tray_84 (lv_at hl 0 rfl) ?_
  refine r_iadd C (v := 97) dX12_tray_86 (by decide) ?_
  refine lv_lconst (v := 0) C.1 C.2.1 dX12_tray_87 (by decide) ?_
  refine r_last C w 3 rfl (vinD (by decide)) (vp_updL (vp_updL (vp_updL (vp_updL (vp_updL (vp_updL (vp_updL (vp_updL (vp_updL (vp_updL (vp_updL (vp_updL (vp_updL (vp_updL (vp_updL (vp_updL (vp_updL (vp_updL (fun _ => 0) 80 0) 81 0) 82 0) 83 0) 84 0) 85 0) 86 0) 87 0) 88 0) 89 0) 90 0) 91 0) 92 0) 93 0) 94 0) 95 0) 96 0) 97 0) rfl [(a0, .inr (12, [.ref a1, .ref a2, .ref a3, .ref a4, .ref a5, .int 0, .ref a6, .int 0, .int 0, .int 0, .int 0, .int 0, .int 0, .int 0, .int 0, .int 0, .int 0, .int (-1), .ref a7, .ref a8, .int 0, .ref a9, .int 0, .ref a10, .ref a11, .ref a12, .ref a13, .ref a14, .int 0, .ref a15, .ref a16, .ref a17])), (a15, .inl (cy 1, 4, .inl (upd (upd (upd (upd (upd (fun _ => 0) 0 (-1)) 1 (-1)) 2 (-1)) 3 (-1)) 2 x1))), (a16, .inl (cy 1, 4, .inl (upd (fun _ => 0) 2 x2))), (a17, .inl (cy 2, 160, .inr (.inl (vp_updL (vp_updL (vp_updL (vp_updL (vp_updL (vp_updL (vp_updL (vp_updL (vp_updL (vp_updL (vp_updL (vp_updL (vp_updL (vp_updL (vp_updL (vp_updL (vp_updL (vp_updL (fun _ => 0) 80 0) 81 0) 82 0) 83 0) 84 0) 85 0) 86 0) 87 0) 88 0) 89 0) 90 0) 91 0) 92 0) 93 0) 94 0) 95 0) 96 0) 97 0))))] rfl dX12_tray_88 (fun H locs w => ?_)
  refine lv_iinc (v := 18) (lv' := [(4, .int 18), (0, .ref a0), (1, .int 2), (2, .int x1), (3, .int x2)]) C.1 C.2.1 dX12_tray_89 hl (k := 0) rfl (by decide) (by decide) rfl (fun ls hl => ?_)
  refine lv_goto (tgt := 69) C.1 C.2.1 dX12_tray_92 (by decide) ?_
  refine lv_iload C.1 C.2.1 dX12_tray_69 (lv_at hl 0 rfl) ?_
  refine lv_bipush (v := 40) C.1 C.2.1 dX12_tray_71 (by decide) ?_
  refine b_icmp_ge_f C (tgt := 95) dX12_tray_73 (by decide) (by decide) ?_
  refine lv_aload_n C.1 C.2.1 dX12_tray_76 rfl (lv_at hl 1 rfl) ?_
  refine r_get C w 0 rfl rfl 31 (by decide) fl_RX12_64 (v := .ref a17) rfl dX12_tray_77 ?_
  refine lv_bipush (v := 40) C.1 C.2.1 dX12_tray_80 (by decide) ?_
  refine lv_iload_n C.1 C.2.1 dX12_tray_82 rfl (lv_at hl 2 rfl) ?_
  refine r_imul C (v := 80) dX12_tray_83 (by decide) ?_
  refine lv_iload C.1 C.2.1 dX12_tray_84 (lv_at hl 0 rfl) ?_
  refine r_iadd C (v := 98) dX12_tray_86 (by decide) ?_
  refine lv_lconst (v := 0) C.1 C.2.1 dX12_tray_87 (by decide) ?_
  refine r_last C w 3 rfl (vinD (by decide)) (vp_updL (vp_updL (vp_updL (vp_updL (vp_updL (vp_updL (vp_updL (vp_updL (vp_updL (vp_updL (vp_updL (vp_updL (vp_updL (vp_updL (vp_updL (vp_updL (vp_updL (vp_updL (vp_updL (fun _ => 0) 80 0) 81 0) 82 0) 83 0) 84 0) 85 0) 86 0) 87 0) 88 0) 89 0) 90 0) 91 0) 92 0) 93 0) 94 0) 95 0) 96 0) 97 0) 98 0) rfl [(a0, .inr (12, [.ref a1, .ref a2, .ref a3, .ref a4, .ref a5, .int 0, .ref a6, .int 0, .int 0, .int 0, .int 0, .int 0, .int 0, .int 0, .int 0, .int 0, .int 0, .int (-1), .ref a7, .ref a8, .int 0, .ref a9, .int 0, .ref a10, .ref a11, .ref a12, .ref a13, .ref a14, .int 0, .ref a15, .ref a16, .ref a17])), (a15, .inl (cy 1, 4, .inl (upd (upd (upd (upd (upd (fun _ => 0) 0 (-1)) 1 (-1)) 2 (-1)) 3 (-1)) 2 x1))), (a16, .inl (cy 1, 4, .inl (upd (fun _ => 0) 2 x2))), (a17, .inl (cy 2, 160, .inr (.inl (vp_updL (vp_updL (vp_updL (vp_updL (vp_updL (vp_updL (vp_updL (vp_updL (vp_updL (vp_updL (vp_updL (vp_updL (vp_updL (vp_updL (vp_updL (vp_updL (vp_updL (vp_updL (vp_updL (fun _ => 0) 80 0) 81 0) 82 0) 83 0) 84 0) 85 0) 86 0) 87 0) 88 0) 89 0) 90 0) 91 0) 92 0) 93 0) 94 0) 95 0) 96 0) 97 0) 98 0))))] rfl dX12_tray_88 (fun H locs w => ?_)
  refine lv_iinc (v := 19) (lv' := [(4, .int 19), (0, .ref a0), (1, .int 2), (2, .int x1), (3, .int x2)]) C.1 C.2.1 dX12_tray_89 hl (k := 0) rfl (by decide) (by decide) rfl (fun ls hl => ?_)
  refine lv_goto (tgt := 69) C.1 C.2.1 dX12_tray_92 (by decide) ?_
  refine lv_iload C.1 C.2.1 dX12_tray_69 (lv_at hl 0 rfl) ?_
  refine lv_bipush (v := 40) C.1 C.2.1 dX12_tray_71 (by decide) ?_
  refine b_icmp_ge_f C (tgt := 95) dX12_tray_73 (by decide) (by decide) ?_
  refine lv_aload_n C.1 C.2.1 dX12_tray_76 rfl (lv_at hl 1 rfl) ?_
  refine r_get C w 0 rfl rfl 31 (by decide) fl_RX12_64 (v := .ref a17) rfl dX12_tray_77 ?_
  refine lv_bipush (v := 40) C.1 C.2.1 dX12_tray_80 (by decide) ?_
  refine lv_iload_n C.1 C.2.1 dX12_tray_82 rfl (lv_at hl 2 rfl) ?_
  refine r_imul C (v := 80) dX12_tray_83 (by decide) ?_
  refine lv_iload C.1 C.2.1 dX12_tray_84 (lv_at hl 0 rfl) ?_
  refine r_iadd C (v := 99) dX12_tray_86 (by decide) ?_
  refine lv_lconst (v := 0) C.1 C.2.1 dX12_tray_87 (by decide) ?_
  refine r_last C w 3 rfl (vinD (by decide)) (vp_updL (vp_updL (vp_updL (vp_updL (vp_updL (vp_updL (vp_updL (vp_updL (vp_updL (vp_updL (vp_updL (vp_updL (vp_updL (vp_updL (vp_updL (vp_updL (vp_updL (vp_updL (vp_updL (vp_updL (fun _ => 0) 80 0) 81 0) 82 0) 83 0) 84 0) 85 0) 86 0) 87 0) 88 0) 89 0) 90 0) 91 0) 92 0) 93 0) 94 0) 95 0) 96 0) 97 0) 98 0) 99 0) rfl [(a0, .inr (12, [.ref a1, .ref a2, .ref a3, .ref a4, .ref a5, .int 0, .ref a6, .int 0, .int 0, .int 0, .int 0, .int 0, .int 0, .int 0, .int 0, .int 0, .int 0, .int (-1), .ref a7, .ref a8, .int 0, .ref a9, .int 0, .ref a10, .ref a11, .ref a12, .ref a13, .ref a14, .int 0, .ref a15, .ref a16, .ref a17])), (a15, .inl (cy 1, 4, .inl (upd (upd (upd (upd (upd (fun _ => 0) 0 (-1)) 1 (-1)) 2 (-1)) 3 (-1)) 2 x1))), (a16, .inl (cy 1, 4, .inl (upd (fun _ => 0) 2 x2))), (a17, .inl (cy 2, 160, .inr (.inl (vp_updL (vp_updL (vp_updL (vp_updL (vp_updL (vp_updL (vp_updL (vp_updL (vp_updL (vp_updL (vp_updL (vp_updL (vp_updL (vp_updL (vp_updL (vp_updL (vp_updL (vp_updL (vp_updL (vp_updL (fun _ => 0) 80 0) 81 0) 82 0) 83 0) 84 0) 85 0) 86 0) 87 0) 88 0) 89 0) 90 0) 91 0) 92 0) 93 0) 94 0) 95 0) 96 0) 97 0) 98 0) 99 0))))] rfl dX12_tray_88 (fun H locs w => ?_)
  refine lv_iinc (v := 20) (lv' := [(4, .int 20), (0, .ref a0), (1, .int 2), (2, .int x1), (3, .int x2)]) C.1 C.2.1 dX12_tray_89 hl (k := 0) rfl (by decide) (by decide) rfl (fun ls hl => ?_)
  refine lv_goto (tgt := 69) C.1 C.2.1 dX12_tray_92 (by decide) ?_
  refine lv_iload C.1 C.2.1 dX12_tray_69 (lv_at hl 0 rfl) ?_
  refine lv_bipush (v := 40) C.1 C.2.1 dX12_tray_71 (by decide) ?_
  refine b_icmp_ge_f C (tgt := 95) dX12_tray_73 (by decide) (by decide) ?_
  refine lv_aload_n C.1 C.2.1 dX12_tray_76 rfl (lv_at hl 1 rfl) ?_
  refine r_get C w 0 rfl rfl 31 (by decide) fl_RX12_64 (v := .ref a17) rfl dX12_tray_77 ?_
  refine lv_bipush (v := 40) C.1 C.2.1 dX12_tray_80 (by decide) ?_
  refine lv_iload_n C.1 C.2.1 dX12_tray_82 rfl (lv_at hl 2 rfl) ?_
  refine r_imul C (v := 80) dX12_tray_83 (by decide) ?_
  refine lv_iload C.1 C.2.1 dX12_tray_84 (lv_at hl 0 rfl) ?_
  refine r_iadd C (v := 100) dX12_tray_86 (by decide) ?_
  refine lv_lconst (v := 0) C.1 C.2.1 dX12_tray_87 (by decide) ?_
  refine r_last C w 3 rfl (vinD (by decide)) (vp_updL (vp_updL (vp_updL (vp_updL (vp_updL (vp_updL (vp_updL (vp_updL (vp_updL (vp_updL (vp_updL (vp_updL (vp_updL (vp_updL (vp_updL (vp_updL (vp_updL (vp_updL (vp_updL (vp_updL (vp_updL (fun _ => 0) 80 0) 81 0) 82 0) 83 0) 84 0) 85 0) 86 0) 87 0) 88 0) 89 0) 90 0) 91 0) 92 0) 93 0) 94 0) 95 0) 96 0) 97 0) 98 0) 99 0) 100 0) rfl [(a0, .inr (12, [.ref a1, .ref a2, .ref a3, .ref a4, .ref a5, .int 0, .ref a6, .int 0, .int 0, .int 0, .int 0, .int 0, .int 0, .int 0, .int 0, .int 0, .int 0, .int (-1), .ref a7, .ref a8, .int 0, .ref a9, .int 0, .ref a10, .ref a11, .ref a12, .ref a13, .ref a14, .int 0, .ref a15, .ref a16, .ref a17])), (a15, .inl (cy 1, 4, .inl (upd (upd (upd (upd (upd (fun _ => 0) 0 (-1)) 1 (-1)) 2 (-1)) 3 (-1)) 2 x1))), (a16, .inl (cy 1, 4, .inl (upd (fun _ => 0) 2 x2))), (a17, .inl (cy 2, 160, .inr (.inl (vp_updL (vp_updL (vp_updL (vp_updL (vp_updL (vp_updL (vp_updL (vp_updL (vp_updL (vp_updL (vp_updL (vp_updL (vp_updL (vp_updL (vp_updL (vp_updL (vp_updL (vp_updL (vp_updL (vp_updL (vp_updL (fun _ => 0) 80 0) 81 0) 82 0) 83 0) 84 0) 85 0) 86 0) 87 0) 88 0) 89 0) 90 0) 91 0) 92 0) 93 0) 94 0) 95 0) 96 0) 97 0) 98 0) 99 0) 100 0))))] rfl dX12_tray_88 (fun H locs w => ?_)
  refine lv_iinc (v := 21) (lv' := [(4, .int 21), (0, .ref a0), (1, .int 2), (2, .int x1), (3, .int x2)]) C.1 C.2.1 dX12_tray_89 hl (k := 0) rfl (by decide) (by decide) rfl (fun ls hl => ?_)
  refine lv_goto (tgt := 69) C.1 C.2.1 dX12_tray_92 (by decide) ?_
  refine lv_iload C.1 C.2.1 dX12_tray_69 (lv_at hl 0 rfl) ?_
  refine lv_bipush (v := 40) C.1 C.2.1 dX12_tray_71 (by decide) ?_
  refine b_icmp_ge_f C (tgt := 95) dX12_tray_73 (by decide) (by decide) ?_
  refine lv_aload_n C.1 C.2.1 dX12_tray_76 rfl (lv_at hl 1 rfl) ?_
  refine r_get C w 0 rfl rfl 31 (by decide) fl_RX12_64 (v := .ref a17) rfl dX12_tray_77 ?_
  refine lv_bipush (v := 40) C.1 C.2.1 dX12_tray_80 (by decide) ?_
  refine lv_iload_n C.1 C.2.1 dX12_tray_82 rfl (lv_at hl 2 rfl) ?_
  refine r_imul C (v := 80) dX12_tray_83 (by decide) ?_
  refine lv_iload C.1 C.2.1 dX12_tray_84 (lv_at hl 0 rfl) ?_
  refine r_iadd C (v := 101) dX12_tray_86 (by decide) ?_
  refine lv_lconst (v := 0) C.1 C.2.1 dX12_tray_87 (by decide) ?_
  refine r_last C w 3 rfl (vinD (by decide)) (vp_updL (vp_updL (vp_updL (vp_updL (vp_updL (vp_updL (vp_updL (vp_updL (vp_updL (vp_updL (vp_updL (vp_updL (vp_updL (vp_updL (vp_updL (vp_updL (vp_updL (vp_updL (vp_updL (vp_updL (vp_updL (vp_updL (fun _ => 0) 80 0) 81 0) 82 0) 83 0) 84 0) 85 0) 86 0) 87 0) 88 0) 89 0) 90 0) 91 0) 92 0) 93 0) 94 0) 95 0) 96 0) 97 0) 98 0) 99 0) 100 0) 101 0) rfl [(a0, .inr (12, [.ref a1, .ref a2, .ref a3, .ref a4, .ref a5, .int 0, .ref a6, .int 0, .int 0, .int 0, .int 0, .int 0, .int 0, .int 0, .int 0, .int 0, .int 0, .int (-1), .ref a7, .ref a8, .int 0, .ref a9, .int 0, .ref a10, .ref a11, .ref a12, .ref a13, .ref a14, .int 0, .ref a15, .ref a16, .ref a17])), (a15, .inl (cy 1, 4, .inl (upd (upd (upd (upd (upd (fun _ => 0) 0 (-1)) 1 (-1)) 2 (-1)) 3 (-1)) 2 x1))), (a16, .inl (cy 1, 4, .inl (upd (fun _ => 0) 2 x2))), (a17, .inl (cy 2, 160, .inr (.inl (vp_updL (vp_updL (vp_updL (vp_updL (vp_updL (vp_updL (vp_updL (vp_updL (vp_updL (vp_updL (vp_updL (vp_updL (vp_updL (vp_updL (vp_updL (vp_updL (vp_updL (vp_updL (vp_updL (vp_updL (vp_updL (vp_updL (fun _ => 0) 80 0) 81 0) 82 0) 83 0) 84 0) 85 0) 86 0) 87 0) 88 0) 89 0) 90 0) 91 0) 92 0) 93 0) 94 0) 95 0) 96 0) 97 0) 98 0) 99 0) 100 0) 101 0))))] rfl dX12_tray_88 (fun H locs w => ?_)
  refine lv_iinc (v := 22) (lv' := [(4, .int 22), (0, .ref a0), (1, .int 2), (2, .int x1), (3, .int x2)]) C.1 C.2.1 dX12_tray_89 hl (k := 0) rfl (by decide) (by decide) rfl (fun ls hl => ?_)
  refine lv_goto (tgt := 69) C.1 C.2.1 dX12_tray_92 (by decide) ?_
  refine lv_iload C.1 C.2.1 dX12_tray_69 (lv_at hl 0 rfl) ?_
  refine lv_bipush (v := 40) C.1 C.2.1 dX12_tray_71 (by decide) ?_
  refine b_icmp_ge_f C (tgt := 95) dX12_tray_73 (by decide) (by decide) ?_
  refine lv_aload_n C.1 C.2.1 dX12_tray_76 rfl (lv_at hl 1 rfl) ?_
  refine r_get C w 0 rfl rfl 31 (by decide) fl_RX12_64 (v := .ref a17) rfl dX12_tray_77 ?_
  refine lv_bipush (v := 40) C.1 C.2.1 dX12_tray_80 (by decide) ?_
  refine lv_iload_n C.1 C.2.1 dX12_tray_82 rfl (lv_at hl 2 rfl) ?_
  refine r_imul C (v := 80) dX12_tray_83 (by decide) ?_
  refine lv_iload C.1 C.2.1 dX12_tray_84 (lv_at hl 0 rfl) ?_
  refine r_iadd C (v := 102) dX12_tray_86 (by decide) ?_
  refine lv_lconst (v := 0) C.1 C.2.1 dX12_tray_87 (by decide) ?_
  refine r_last C w 3 rfl (vinD (by decide)) (vp_updL (vp_updL (vp_updL (vp_updL (vp_updL (vp_updL (vp_updL (vp_updL (vp_updL (vp_updL (vp_updL (vp_updL (vp_updL (vp_updL (vp_updL (vp_updL (vp_updL (vp_updL (vp_updL (vp_updL (vp_updL (vp_updL (vp_updL (fun _ => 0) 80 0) 81 0) 82 0) 83 0) 84 0) 85 0) 86 0) 87 0) 88 0) 89 0) 90 0) 91 0) 92 0) 93 0) 94 0) 95 0) 96 0) 97 0) 98 0) 99 0) 100 0) 101 0) 102 0) rfl [(a0, .inr (12, [.ref a1, .ref a2, .ref a3, .ref a4, .ref a5, .int 0, .ref a6, .int 0, .int 0, .int 0, .int 0, .int 0, .int 0, .int 0, .int 0, .int 0, .int 0, .int (-1), .ref a7, .ref a8, .int 0, .ref a9, .int 0, .ref a10, .ref a11, .ref a12, .ref a13, .ref a14, .int 0, .ref a15, .ref a16, .ref a17])), (a15, .inl (cy 1, 4, .inl (upd (upd (upd (upd (upd (fun _ => 0) 0 (-1)) 1 (-1)) 2 (-1)) 3 (-1)) 2 x1))), (a16, .inl (cy 1, 4, .inl (upd (fun _ => 0) 2 x2))), (a17, .inl (cy 2, 160, .inr (.inl (vp_updL (vp_updL (vp_updL (vp_updL (vp_updL (vp_updL (vp_updL (vp_updL (vp_updL (vp_updL (vp_updL (vp_updL (vp_updL (vp_updL (vp_updL (vp_updL (vp_updL (vp_updL (vp_updL (vp_updL (vp_updL (vp_updL (vp_updL (fun _ => 0) 80 0) 81 0) 82 0) 83 0) 84 0) 85 0) 86 0) 87 0) 88 0) 89 0) 90 0) 91 0) 92 0) 93 0) 94 0) 95 0) 96 0) 97 0) 98 0) 99 0) 100 0) 101 0) 102 0))))] rfl dX12_tray_88 (fun H locs w => ?_)
  refine lv_iinc (v := 23) (lv' := [(4, .int 23), (0, .ref a0), (1, .int 2), (2, .int x1), (3, .int x2)]) C.1 C.2.1 dX12_tray_89 hl (k := 0) rfl (by decide) (by decide) rfl (fun ls hl => ?_)
  refine lv_goto (tgt := 69) C.1 C.2.1 dX12_tray_92 (by decide) ?_
  refine lv_iload C.1 C.2.1 dX12_tray_69 (lv_at hl 0 rfl) ?_
  refine lv_bipush (v := 40) C.1 C.2.1 dX12_tray_71 (by decide) ?_
  refine b_icmp_ge_f C (tgt := 95) dX12_tray_73 (by decide) (by decide) ?_
  refine lv_aload_n C.1 C.2.1 dX12_tray_76 rfl (lv_at hl 1 rfl) ?_
  refine r_get C w 0 rfl rfl 31 (by decide) fl_RX12_64 (v := .ref a17) rfl dX12_tray_77 ?_
  refine lv_bipush (v := 40) C.1 C.2.1 dX12_tray_80 (by decide) ?_
  refine lv_iload_n C.1 C.2.1 dX12_tray_82 rfl (lv_at hl 2 rfl) ?_
  refine r_imul C (v := 80) dX12_tray_83 (by decide) ?_
  refine lv_iload C.1 C.2.1 dX12_tray_84 (lv_at hl 0 rfl) ?_
  refine r_iadd C (v := 103) dX12_tray_86 (by decide) ?_
  refine lv_lconst (v := 0) C.1 C.2.1 dX12_tray_87 (by decide) ?_
  refine r_last C w 3 rfl (vinD (by decide)) (vp_updL (vp_updL (vp_updL (vp_updL (vp_updL (vp_updL (vp_updL (vp_updL (vp_updL (vp_updL (vp_updL (vp_updL (vp_updL (vp_updL (vp_updL (vp_updL (vp_updL (vp_updL (vp_updL (vp_updL (vp_updL (vp_updL (vp_updL (vp_updL (fun _ => 0) 80 0) 81 0) 82 0) 83 0) 84 0) 85 0) 86 0) 87 0) 88 0) 89 0) 90 0) 91 0) 92 0) 93 0) 94 0) 95 0) 96 0) 97 0) 98 0) 99 0) 100 0) 101 0) 102 0) 103 0) rfl [(a0, .inr (12, [.ref a1, .ref a2, .ref a3, .ref a4, .ref a5, .int 0, .ref a6, .int 0, .int 0, .int 0, .int 0, .int 0, .int 0, .int 0, .int 0, .int 0, .int 0, .int (-1), .ref a7, .ref a8, .int 0, .ref a9, .int 0, .ref a10, .ref a11, .ref a12, .ref a13, .ref a14, .int 0, .ref a15, .ref a16, .ref a17])), (a15, .inl (cy 1, 4, .inl (upd (upd (upd (upd (upd (fun _ => 0) 0 (-1)) 1 (-1)) 2 (-1)) 3 (-1)) 2 x1))), (a16, .inl (cy 1, 4, .inl (upd (fun _ => 0) 2 x2))), (a17, .inl (cy 2, 160, .inr (.inl (vp_updL (vp_updL (vp_updL (vp_updL (vp_updL (vp_updL (vp_updL (vp_updL (vp_updL (vp_updL (vp_updL (vp_updL (vp_updL (vp_updL (vp_updL (vp_updL (vp_updL (vp_updL (vp_updL (vp_updL (vp_updL (vp_updL (vp_updL (vp_updL (fun _ => 0) 80 0) 81 0) 82 0) 83 0) 84 0) 85 0) 86 0) 87 0) 88 0) 89 0) 90 0) 91 0) 92 0) 93 0) 94 0) 95 0) 96 0) 97 0) 98 0) 99 0) 100 0) 101 0) 102 0) 103 0))))] rfl dX12_tray_88 (fun H locs w => ?_)
  refine lv_iinc (v := 24) (lv' := [(4, .int 24), (0, .ref a0), (1, .int 2), (2, .int x1), (3, .int x2)]) C.1 C.2.1 dX12_tray_89 hl (k := 0) rfl (by decide) (by decide) rfl (fun ls hl => ?_)
  refine lv_goto (tgt := 69) C.1 C.2.1 dX12_tray_92 (by decide) ?_
  refine lv_iload C.1 C.2.1 dX12_tray_69 (lv_at hl 0 rfl) ?_
  refine lv_bipush (v := 40) C.1 C.2.1 dX12_tray_71 (by decide) ?_
  refine b_icmp_ge_f C (tgt := 95) dX12_tray_73 (by decide) (by decide) ?_
  refine lv_aload_n C.1 C.2.1 dX12_tray_76 rfl (lv_at hl 1 rfl) ?_
  refine r_get C w 0 rfl rfl 31 (by decide) fl_RX12_64 (v := .ref a17) rfl dX12_tray_77 ?_
  refine lv_bipush (v := 40) C.1 C.2.1 dX12_tray_80 (by decide) ?_
  refine lv_iload_n C.1 C.2.1 dX12_tray_82 rfl (lv_at hl 2 rfl) ?_
  refine r_imul C (v := 80) dX12_tray_83 (by decide) ?_
  refine lv_iload C.1 C.2.1 dX12_tray_84 (lv_at hl 0 rfl) ?_
  refine r_iadd C (v := 104) dX12_tray_86 (by decide) ?_
  refine lv_lconst (v := 0) C.1 C.2.1 dX12_tray_87 (by decide) ?_
  refine r_last C w 3 rfl (vinD (by decide)) (vp_updL (vp_updL (vp_updL (vp_updL (vp_updL (vp_updL (vp_updL (vp_updL (vp_updL (vp_updL (vp_updL (vp_updL (vp_updL (vp_updL (vp_updL (vp_updL (vp_updL (vp_updL (vp_updL (vp_updL (vp_updL (vp_updL (vp_updL (vp_updL (vp_updL (fun _ => 0) 80 0) 81 0) 82 0) 83 0) 84 0) 85 0) 86 0) 87 0) 88 0) 89 0) 90 0) 91 0) 92 0) 93 0) 94 0) 95 0) 96 0) 97 0) 98 0) 99 0) 100 0) 101 0) 102 0) 103 0) 104 0) rfl [(a0, .inr (12, [.ref a1, .ref a2, .ref a3, .ref a4, .ref a5, .int 0, .ref a6, .int 0, .int 0, .int 0, .int 0, .int 0, .int 0, .int 0, .int 0, .int 0, .int 0, .int (-1), .ref a7, .ref a8, .int 0, .ref a9, .int 0, .ref a10, .ref a11, .ref a12, .ref a13, .ref a14, .int 0, .ref a15, .ref a16, .ref a17])), (a15, .inl (cy 1, 4, .inl (upd (upd (upd (upd (upd (fun _ => 0) 0 (-1)) 1 (-1)) 2 (-1)) 3 (-1)) 2 x1))), (a16, .inl (cy 1, 4, .inl (upd (fun _ => 0) 2 x2))), (a17, .inl (cy 2, 160, .inr (.inl (vp_updL (vp_updL (vp_updL (vp_updL (vp_updL (vp_updL (vp_updL (vp_updL (vp_updL (vp_updL (vp_updL (vp_updL (vp_updL (vp_updL (vp_updL (vp_updL (vp_updL (vp_updL (vp_updL (vp_updL (vp_updL (vp_updL (vp_updL (vp_updL (vp_updL (fun _ => 0) 80 0) 81 0) 82 0) 83 0) 84 0) 85 0) 86 0) 87 0) 88 0) 89 0) 90 0) 91 0) 92 0) 93 0) 94 0) 95 0) 96 0) 97 0) 98 0) 99 0) 100 0) 101 0) 102 0) 103 0) 104 0))))] rfl dX12_tray_88 (fun H locs w => ?_)
  refine lv_iinc (v := 25) (lv' := [(4, .int 25), (0, .ref a0), (1, .int 2), (2, .int x1), (3, .int x2)]) C.1 C.2.1 dX12_tray_89 hl (k := 0) rfl (by decide) (by decide) rfl (fun ls hl => ?_)
  refine lv_goto (tgt := 69) C.1 C.2.1 dX12_tray_92 (by decide) ?_
  refine lv_iload C.1 C.2.1 dX12_tray_69 (lv_at hl 0 rfl) ?_
  refine lv_bipush (v := 40) C.1 C.2.1 dX12_tray_71 (by decide) ?_
  refine b_icmp_ge_f C (tgt := 95) dX12_tray_73 (by decide) (by decide) ?_
  refine lv_aload_n C.1 C.2.1 dX12_tray_76 rfl (lv_at hl 1 rfl) ?_
  refine r_get C w 0 rfl rfl 31 (by decide) fl_RX12_64 (v := .ref a17) rfl dX12_tray_77 ?_
  refine lv_bipush (v := 40) C.1 C.2.1 dX12_tray_80 (by decide) ?_
  refine lv_iload_n C.1 C.2.1 dX12_tray_82 rfl (lv_at hl 2 rfl) ?_
  refine r_imul C (v := 80) dX12_tray_83 (by decide) ?_
  refine lv_iload C.1 C.2.1 dX12_tray_84 (lv_at hl 0 rfl) ?_
  refine r_iadd C (v := 105) dX12_tray_86 (by decide) ?_
  refine lv_lconst (v := 0) C.1 C.2.1 dX12_tray_87 (by decide) ?_
  refine r_last C w 3 rfl (vinD (by decide)) (vp_updL (vp_updL (vp_updL (vp_updL (vp_updL (vp_updL (vp_updL (vp_updL (vp_updL (vp_updL (vp_updL (vp_updL (vp_updL (vp_updL (vp_updL (vp_updL (vp_updL (vp_updL (vp_updL (vp_updL (vp_updL (vp_updL (vp_updL (vp_updL (vp_updL (vp_updL (fun _ => 0) 80 0) 81 0) 82 0) 83 0) 84 0) 85 0) 86 0) 87 0) 88 0) 89 0) 90 0) 91 0) 92 0) 93 0) 94 0) 95 0) 96 0) 97 0) 98 0) 99 0) 100 0) 101 0) 102 0) 103 0) 104 0) 105 0) rfl [(a0, .inr (12, [.ref a1, .ref a2, .ref a3, .ref a4, .ref a5, .int 0, .ref a6, .int 0, .int 0, .int 0, .int 0, .int 0, .int 0, .int 0, .int 0, .int 0, .int 0, .int (-1), .ref a7, .ref a8, .int 0, .ref a9, .int 0, .ref a10, .ref a11, .ref a12, .ref a13, .ref a14, .int 0, .ref a15, .ref a16, .ref a17])), (a15, .inl (cy 1, 4, .inl (upd (upd (upd (upd (upd (fun _ => 0) 0 (-1)) 1 (-1)) 2 (-1)) 3 (-1)) 2 x1))), (a16, .inl (cy 1, 4, .inl (upd (fun _ => 0) 2 x2))), (a17, .inl (cy 2, 160, .inr (.inl (vp_updL (vp_updL (vp_updL (vp_updL (vp_updL (vp_updL (vp_updL (vp_updL (vp_updL (vp_updL (vp_updL (vp_updL (vp_updL (vp_updL (vp_updL (vp_updL (vp_updL (vp_updL (vp_updL (vp_updL (vp_updL (vp_updL (vp_updL (vp_updL (vp_updL (vp_updL (fun _ => 0) 80 0) 81 0) 82 0) 83 0) 84 0) 85 0) 86 0) 87 0) 88 0) 89 0) 90 0) 91 0) 92 0) 93 0) 94 0) 95 0) 96 0) 97 0) 98 0) 99 0) 100 0) 101 0) 102 0) 103 0) 104 0) 105 0))))] rfl dX12_tray_88 (fun H locs w => ?_)
  refine lv_iinc (v := 26) (lv' := [(4, .int 26), (0, .ref a0), (1, .int 2), (2, .int x1), (3, .int x2)]) C.1 C.2.1 dX12_tray_89 hl (k := 0) rfl (by decide) (by decide) rfl (fun ls hl => ?_)
  refine lv_goto (tgt := 69) C.1 C.2.1 dX12_tray_92 (by decide) ?_
  refine lv_iload C.1 C.2.1 dX12_tray_69 (lv_at hl 0 rfl) ?_
  refine lv_bipush (v := 40) C.1 C.2.1 dX12_tray_71 (by decide) ?_
  refine b_icmp_ge_f C (tgt := 95) dX12_tray_73 (by decide) (by decide) ?_
  refine lv_aload_n C.1 C.2.1 dX12_tray_76 rfl (lv_at hl 1 rfl) ?_
  refine r_get C w 0 rfl rfl 31 (by decide) fl_RX12_64 (v := .ref a17) rfl dX12_tray_77 ?_
  refine lv_bipush (v := 40) C.1 C.2.1 dX12_tray_80 (by decide) ?_
  refine lv_iload_n C.1 C.2.1 dX12_tray_82 rfl (lv_at hl 2 rfl) ?_
  refine r_imul C (v := 80) dX12_tray_83 (by decide) ?_
  refine lv_iload C.1 C.2.1 dX12_tray_84 (lv_at hl 0 rfl) ?_
  refine r_iadd C (v := 106) dX12_tray_86 (by decide) ?_
  refine lv_lconst (v := 0) C.1 C.2.1 dX12_tray_87 (by decide) ?_
  refine r_last C w 3 rfl (vinD (by decide)) (vp_updL (vp_updL (vp_updL (vp_updL (vp_updL (vp_updL (vp_updL (vp_updL (vp_updL (vp_updL (vp_updL (vp_updL (vp_updL (vp_updL (vp_updL (vp_updL (vp_updL (vp_updL (vp_updL (vp_updL (vp_updL (vp_updL (vp_updL (vp_updL (vp_updL (vp_updL (vp_updL (fun _ => 0) 80 0) 81 0) 82 0) 83 0) 84 0) 85 0) 86 0) 87 0) 88 0) 89 0) 90 0) 91 0) 92 0) 93 0) 94 0) 95 0) 96 0) 97 0) 98 0) 99 0) 100 0) 101 0) 102 0) 103 0) 104 0) 105 0) 106 0) rfl [(a0, .inr (12, [.ref a1, .ref a2, .ref a3, .ref a4, .ref a5, .int 0, .ref a6, .int 0, .int 0, .int 0, .int 0, .int 0, .int 0, .int 0, .int 0, .int 0, .int 0, .int (-1), .ref a7, .ref a8, .int 0, .ref a9, .int 0, .ref a10, .ref a11, .ref a12, .ref a13, .ref a14, .int 0, .ref a15, .ref a16, .ref a17])), (a15, .inl (cy 1, 4, .inl (upd (upd (upd (upd (upd (fun _ => 0) 0 (-1)) 1 (-1)) 2 (-1)) 3 (-1)) 2 x1))), (a16, .inl (cy 1, 4, .inl (upd (fun _ => 0) 2 x2))), (a17, .inl (cy 2, 160, .inr (.inl (vp_updL (vp_updL (vp_updL (vp_updL (vp_updL (vp_updL (vp_updL (vp_updL (vp_updL (vp_updL (vp_updL (vp_updL (vp_updL (vp_updL (vp_updL (vp_updL (vp_updL (vp_updL (vp_updL (vp_updL (vp_updL (vp_updL (vp_updL (vp_updL (vp_updL (vp_updL (vp_updL (fun _ => 0) 80 0) 81 0) 82 0) 83 0) 84 0) 85 0) 86 0) 87 0) 88 0) 89 0) 90 0) 91 0) 92 0) 93 0) 94 0) 95 0) 96 0) 97 0) 98 0) 99 0) 100 0) 101 0) 102 0) 103 0) 104 0) 105 0) 106 0))))] rfl dX12_tray_88 (fun H locs w => ?_)
  refine lv_iinc (v := 27) (lv' := [(4, .int 27), (0, .ref a0), (1, .int 2), (2, .int x1), (3, .int x2)]) C.1 C.2.1 dX12_tray_89 hl (k := 0) rfl (by decide) (by decide) rfl (fun ls hl => ?_)
  refine lv_goto (tgt := 69) C.1 C.2.1 dX12_tray_92 (by decide) ?_
  refine lv_iload C.1 C.2.1 dX12_tray_69 (lv_at hl 0 rfl) ?_
  refine lv_bipush (v := 40) C.1 C.2.1 dX12_tray_71 (by decide) ?_
  refine b_icmp_ge_f C (tgt := 95) dX12_tray_73 (by decide) (by decide) ?_
  refine lv_aload_n C.1 C.2.1 dX12_tray_76 rfl (lv_at hl 1 rfl) ?_
  refine r_get C w 0 rfl rfl 31 (by decide) fl_RX12_64 (v := .ref a17) rfl dX12_tray_77 ?_
  refine lv_bipush (v := 40) C.1 C.2.1 dX12_tray_80 (by decide) ?_
  refine lv_iload_n C.1 C.2.1 dX12_tray_82 rfl (lv_at hl 2 rfl) ?_
  refine r_imul C (v := 80) dX12_tray_83 (by decide) ?_
  refine lv_iload C.1 C.2.1 dX12_tray_84 (lv_at hl 0 rfl) ?_
  refine r_iadd C (v := 107) dX12_tray_86 (by decide) ?_
  refine lv_lconst (v := 0) C.1 C.2.1 dX12_tray_87 (by decide) ?_
  refine r_last C w 3 rfl (vinD (by decide)) (vp_updL (vp_updL (vp_updL (vp_updL (vp_updL (vp_updL (vp_updL (vp_updL (vp_updL (vp_updL (vp_updL (vp_updL (vp_updL (vp_updL (vp_updL (vp_updL (vp_updL (vp_updL (vp_updL (vp_updL (vp_updL (vp_updL (vp_updL (vp_updL (vp_updL (vp_updL (vp_updL (vp_updL (fun _ => 0) 80 0) 81 0) 82 0) 83 0) 84 0) 85 0) 86 0) 87 0) 88 0) 89 0) 90 0) 91 0) 92 0) 93 0) 94 0) 95 0) 96 0) 97 0) 98 0) 99 0) 100 0) 101 0) 102 0) 103 0) 104 0) 105 0) 106 0) 107 0) rfl [(a0, .inr (12, [.ref a1, .ref a2, .ref a3, .ref a4, .ref a5, .int 0, .ref a6, .int 0, .int 0, .int 0, .int 0, .int 0, .int 0, .int 0, .int 0, .int 0, .int 0, .int (-1), .ref a7, .ref a8, .int 0, .ref a9, .int 0, .ref a10, .ref a11, .ref a12, .ref a13, .ref a14, .int 0, .ref a15, .ref a16, .ref a17])), (a15, .inl (cy 1, 4, .inl (upd (upd (upd (upd (upd (fun _ => 0) 0 (-1)) 1 (-1)) 2 (-1)) 3 (-1)) 2 x1))), (a16, .inl (cy 1, 4, .inl (upd (fun _ => 0) 2 x2))), (a17, .inl (cy 2, 160, .inr (.inl (vp_updL (vp_updL (vp_updL (vp_updL (vp_updL (vp_updL (vp_updL (vp_updL (vp_updL (vp_updL (vp_updL (vp_updL (vp_updL (vp_updL (vp_updL (vp_updL (vp_updL (vp_updL (vp_updL (vp_updL (vp_updL (vp_updL (vp_updL (vp_updL (vp_updL (vp_updL (vp_updL (vp_updL (fun _ => 0) 80 0) 81 0) 82 0) 83 0) 84 0) 85 0) 86 0) 87 0) 88 0) 89 0) 90 0) 91 0) 92 0) 93 0) 94 0) 95 0) 96 0) 97 0) 98 0) 99 0) 100 0) 101 0) 102 0) 103 0) 104 0) 105 0) 106 0) 107 0))))] rfl dX12_tray_88 (fun H locs w => ?_)
  refine lv_iinc (v := 28) (lv' := [(4, .int 28), (0, .ref a0), (1, .int 2), (2, .int x1), (3, .int x2)]) C.1 C.2.1 dX12_tray_89 hl (k := 0) rfl (by decide) (by decide) rfl (fun ls hl => ?_)
  refine lv_goto (tgt := 69) C.1 C.2.1 dX12_tray_92 (by decide) ?_
  refine lv_iload C.1 C.2.1 dX12_tray_69 (lv_at hl 0 rfl) ?_
  refine lv_bipush (v := 40) C.1 C.2.1 dX12_tray_71 (by decide) ?_
  refine b_icmp_ge_f C (tgt := 95) dX12_tray_73 (by decide) (by decide) ?_
  refine lv_aload_n C.1 C.2.1 dX12_tray_76 rfl (lv_at hl 1 rfl) ?_
  refine r_get C w 0 rfl rfl 31 (by decide) fl_RX12_64 (v := .ref a17) rfl dX12_tray_77 ?_
  refine lv_bipush (v := 40) C.1 C.2.1 dX12_tray_80 (by decide) ?_
  refine lv_iload_n C.1 C.2.1 dX12_tray_82 rfl (lv_at hl 2 rfl) ?_
  refine r_imul C (v := 80) dX12_tray_83 (by decide) ?_
  refine lv_iload C.1 C.2.1 dX12_tray_84 (lv_at hl 0 rfl) ?_
  refine r_iadd C (v := 108) dX12_tray_86 (by decide) ?_
  refine lv_lconst (v := 0) C.1 C.2.1 dX12_tray_87 (by decide) ?_
  refine r_last C w 3 rfl (vinD (by decide)) (vp_updL (vp_updL (vp_updL (vp_updL (vp_updL (vp_updL (vp_updL (vp_updL (vp_updL (vp_updL (vp_updL (vp_updL (vp_updL (vp_updL (vp_updL (vp_updL (vp_updL (vp_updL (vp_updL (vp_updL (vp_updL (vp_updL (vp_updL (vp_updL (vp_updL (vp_updL (vp_updL (vp_updL (vp_updL (fun _ => 0) 80 0) 81 0) 82 0) 83 0) 84 0) 85 0) 86 0) 87 0) 88 0) 89 0) 90 0) 91 0) 92 0) 93 0) 94 0) 95 0) 96 0) 97 0) 98 0) 99 0) 100 0) 101 0) 102 0) 103 0) 104 0) 105 0) 106 0) 107 0) 108 0) rfl [(a0, .inr (12, [.ref a1, .ref a2, .ref a3, .ref a4, .ref a5, .int 0, .ref a6, .int 0, .int 0, .int 0, .int 0, .int 0, .int 0, .int 0, .int 0, .int 0, .int 0, .int (-1), .ref a7, .ref a8, .int 0, .ref a9, .int 0, .ref a10, .ref a11, .ref a12, .ref a13, .ref a14, .int 0, .ref a15, .ref a16, .ref a17])), (a15, .inl (cy 1, 4, .inl (upd (upd (upd (upd (upd (fun _ => 0) 0 (-1)) 1 (-1)) 2 (-1)) 3 (-1)) 2 x1))), (a16, .inl (cy 1, 4, .inl (upd (fun _ => 0) 2 x2))), (a17, .inl (cy 2, 160, .inr (.inl (vp_updL (vp_updL (vp_updL (vp_updL (vp_updL (vp_updL (vp_updL (vp_updL (vp_updL (vp_updL (vp_updL (vp_updL (vp_updL (vp_updL (vp_updL (vp_updL (vp_updL (vp_updL (vp_updL (vp_updL (vp_updL (vp_updL (vp_updL (vp_updL (vp_updL (vp_updL (vp_updL (vp_updL (vp_updL (fun _ => 0) 80 0) 81 0) 82 0) 83 0) 84 0) 85 0) 86 0) 87 0) 88 0) 89 0) 90 0) 91 0) 92 0) 93 0) 94 0) 95 0) 96 0) 97 0) 98 0) 99 0) 100 0) 101 0) 102 0) 103 0) 104 0) 105 0) 106 0) 107 0) 108 0))))] rfl dX12_tray_88 (fun H locs w => ?_)
  refine lv_iinc (v := 29) (lv' := [(4, .int 29), (0, .ref a0), (1, .int 2), (2, .int x1), (3, .int x2)]) C.1 C.2.1 dX12_tray_89 hl (k := 0) rfl (by decide) (by decide) rfl (fun ls hl => ?_)
  refine lv_goto (tgt := 69) C.1 C.2.1 dX12_tray_92 (by decide) ?_
  refine lv_iload C.1 C.2.1 dX12_tray_69 (lv_at hl 0 rfl) ?_
  refine lv_bipush (v := 40) C.1 C.2.1 dX12_tray_71 (by decide) ?_
  refine b_icmp_ge_f C (tgt := 95) dX12_tray_73 (by decide) (by decide) ?_
  refine lv_aload_n C.1 C.2.1 dX12_tray_76 rfl (lv_at hl 1 rfl) ?_
  refine r_get C w 0 rfl rfl 31 (by decide) fl_RX12_64 (v := .ref a17) rfl dX12_tray_77 ?_
  refine lv_bipush (v := 40) C.1 C.2.1 dX12_tray_80 (by decide) ?_
  refine lv_iload_n C.1 C.2.1 dX12_tray_82 rfl (lv_at hl 2 rfl) ?_
  refine r_imul C (v := 80) dX12_tray_83 (by decide) ?_
  refine lv_iload C.1 C.2.1 dX12_tray_84 (lv_at hl 0 rfl) ?_
  refine r_iadd C (v := 109) dX12_tray_86 (by decide) ?_
  refine lv_lconst (v := 0) C.1 C.2.1 dX12_tray_87 (by decide) ?_
  refine r_last C w 3 rfl (vinD (by decide)) (vp_updL (vp_updL (vp_updL (vp_updL (vp_updL (vp_updL (vp_updL (vp_updL (vp_updL (vp_updL (vp_updL (vp_updL (vp_updL (vp_updL (vp_updL (vp_updL (vp_updL (vp_updL (vp_updL (vp_updL (vp_updL (vp_updL (vp_updL (vp_updL (vp_updL (vp_updL (vp_updL (vp_updL (vp_updL (vp_updL (fun _ => 0) 80 0) 81 0) 82 0) 83 0) 84 0) 85 0) 86 0) 87 0) 88 0) 89 0) 90 0) 91 0) 92 0) 93 0) 94 0) 95 0) 96 0) 97 0) 98 0) 99 0) 100 0) 101 0) 102 0) 103 0) 104 0) 105 0) 106 0) 107 0) 108 0) 109 0) rfl [(a0, .inr (12, [.ref a1, .ref a2, .ref a3, .ref a4, .ref a5, .int 0, .ref a6, .int 0, .int 0, .int 0, .int 0, .int 0, .int 0, .int 0, .int 0, .int 0, .int 0, .int (-1), .ref a7, .ref a8, .int 0, .ref a9, .int 0, .ref a10, .ref a11, .ref a12, .ref a13, .ref a14, .int 0, .ref a15, .ref a16, .ref a17])), (a15, .inl (cy 1, 4, .inl (upd (upd (upd (upd (upd (fun _ => 0) 0 (-1)) 1 (-1)) 2 (-1)) 3 (-1)) 2 x1))), (a16, .inl (cy 1, 4, .inl (upd (fun _ => 0) 2 x2))), (a17, .inl (cy 2, 160, .inr (.inl (vp_updL (vp_updL (vp_updL (vp_updL (vp_updL (vp_updL (vp_updL (vp_updL (vp_updL (vp_updL (vp_updL (vp_updL (vp_updL (vp_updL (vp_updL (vp_updL (vp_updL (vp_updL (vp_updL (vp_updL (vp_updL (vp_updL (vp_updL (vp_updL (vp_updL (vp_updL (vp_updL (vp_updL (vp_updL (vp_updL (fun _ => 0) 80 0) 81 0) 82 0) 83 0) 84 0) 85 0) 86 0) 87 0) 88 0) 89 0) 90 0) 91 0) 92 0) 93 0) 94 0) 95 0) 96 0) 97 0) 98 0) 99 0) 100 0) 101 0) 102 0) 103 0) 104 0) 105 0) 106 0) 107 0) 108 0) 109 0))))] rfl dX12_tray_88 (fun H locs w => ?_)
  refine lv_iinc (v := 30) (lv' := [(4, .int 30), (0, .ref a0), (1, .int 2), (2, .int x1), (3, .int x2)]) C.1 C.2.1 dX12_tray_89 hl (k := 0) rfl (by decide) (by decide) rfl (fun ls hl => ?_)
  refine lv_goto (tgt := 69) C.1 C.2.1 dX12_tray_92 (by decide) ?_
  refine lv_iload C.1 C.2.1 dX12_tray_69 (lv_at hl 0 rfl) ?_
  refine lv_bipush (v := 40) C.1 C.2.1 dX12_tray_71 (by decide) ?_
  refine b_icmp_ge_f C (tgt := 95) dX12_tray_73 (by decide) (by decide) ?_
  refine lv_aload_n C.1 C.2.1 dX12_tray_76 rfl (lv_at hl 1 rfl) ?_
  refine r_get C w 0 rfl rfl 31 (by decide) fl_RX12_64 (v := .ref a17) rfl dX12_tray_77 ?_
  refine lv_bipush (v := 40) C.1 C.2.1 dX12_tray_80 (by decide) ?_
  refine lv_iload_n C.1 C.2.1 dX12_tray_82 rfl (lv_at hl 2 rfl) ?_
  refine r_imul C (v := 80) dX12_tray_83 (by decide) ?_
  refine lv_iload C.1 C.2.1 dX12_tray_84 (lv_at hl 0 rfl) ?_
  refine r_iadd C (v := 110) dX12_tray_86 (by decide) ?_
  refine lv_lconst (v := 0) C.1 C.2.1 dX12_tray_87 (by decide) ?_
  refine r_last C w 3 rfl (vinD (by decide)) (vp_updL (vp_updL (vp_updL (vp_updL (vp_updL (vp_updL (vp_updL (vp_updL (vp_updL (vp_updL (vp_updL (vp_updL (vp_updL (vp_updL (vp_updL (vp_updL (vp_updL (vp_updL (vp_updL (vp_updL (vp_updL (vp_updL (vp_updL (vp_updL (vp_updL (vp_updL (vp_updL (vp_updL (vp_updL (vp_updL (vp_updL (fun _ => 0) 80 0) 81 0) 82 0) 83 0) 84 0) 85 0) 86 0) 87 0) 88 0) 89 0) 90 0) 91 0) 92 0) 93 0) 94 0) 95 0) 96 0) 97 0) 98 0) 99 0) 100 0) 101 0) 102 0) 103 0) 104 0) 105 0) 106 0) 107 0) 108 0) 109 0) 110 0) rfl [(a0, .inr (12, [.ref a1, .ref a2, .ref a3, .ref a4, .ref a5, .int 0, .ref a6, .int 0, .int 0, .int 0, .int 0, .int 0, .int 0, .int 0, .int 0, .int 0, .int 0, .int (-1), .ref a7, .ref a8, .int 0, .ref a9, .int 0, .ref a10, .ref a11, .ref a12, .ref a13, .ref a14, .int 0, .ref a15, .ref a16, .ref a17])), (a15, .inl (cy 1, 4, .inl (upd (upd (upd (upd (upd (fun _ => 0) 0 (-1)) 1 (-1)) 2 (-1)) 3 (-1)) 2 x1))), (a16, .inl (cy 1, 4, .inl (upd (fun _ => 0) 2 x2))), (a17, .inl (cy 2, 160, .inr (.inl (vp_updL (vp_updL (vp_updL (vp_updL (vp_updL (vp_updL (vp_updL (vp_updL (vp_updL (vp_updL (vp_updL (vp_updL (vp_updL (vp_updL (vp_updL (vp_updL (vp_updL (vp_updL (vp_updL (vp_updL (vp_updL (vp_updL (vp_updL (vp_updL (vp_updL (vp_updL (vp_updL (vp_updL (vp_updL (vp_updL (vp_updL (fun _ => 0) 80 0) 81 0) 82 0) 83 0) 84 0) 85 0) 86 0) 87 0) 88 0) 89 0) 90 0) 91 0) 92 0) 93 0) 94 0) 95 0) 96 0) 97 0) 98 0) 99 0) 100 0) 101 0) 102 0) 103 0) 104 0) 105 0) 106 0) 107 0) 108 0) 109 0) 110 0))))] rfl dX12_tray_88 (fun H locs w => ?_)
  refine lv_iinc (v := 31) (lv' := [(4, .int 31), (0, .ref a0), (1, .int 2), (2, .int x1), (3, .int x2)]) C.1 C.2.1 dX12_tray_89 hl (k := 0) rfl (by decide) (by decide) rfl (fun ls hl => ?_)
  refine lv_goto (tgt := 69) C.1 C.2.1 dX12_tray_92 (by decide) ?_
  refine lv_iload C.1 C.2.1 dX12_tray_69 (lv_at hl 0 rfl) ?_
  refine lv_bipush (v := 40) C.1 C.2.1 dX12_tray_71 (by decide) ?_
  refine b_icmp_ge_f C (tgt := 95) dX12_tray_73 (by decide) (by decide) ?_
  refine lv_aload_n C.1 C.2.1 dX12_tray_76 rfl (lv_at hl 1 rfl) ?_
  refine r_get C w 0 rfl rfl 31 (by decide) fl_RX12_64 (v := .ref a17) rfl dX12_tray_77 ?_
  refine lv_bipush (v := 40) C.1 C.2.1 dX12_tray_80 (by decide) ?_
  refine lv_iload_n C.1 C.2.1 dX12_tray_82 rfl (lv_at hl 2 rfl) ?_
  refine r_imul C (v := 80) dX12_tray_83 (by decide) ?_
  refine lv_iload C.1 C.2.1 dX12_tray_84 (lv_at hl 0 rfl) ?_
  refine r_iadd C (v := 111) dX12_tray_86 (by decide) ?_
  refine lv_lconst (v := 0) C.1 C.2.1 dX12_tray_87 (by decide) ?_
  refine r_last C w 3 rfl (vinD (by decide)) (vp_updL (vp_updL (vp_updL (vp_updL (vp_updL (vp_updL (vp_updL (vp_updL (vp_updL (vp_updL (vp_updL (vp_updL (vp_updL (vp_updL (vp_updL (vp_updL (vp_updL (vp_updL (vp_updL (vp_updL (vp_updL (vp_updL (vp_updL (vp_updL (vp_updL (vp_updL (vp_updL (vp_updL (vp_updL (vp_updL (vp_updL (vp_updL (fun _ => 0) 80 0) 81 0) 82 0) 83 0) 84 0) 85 0) 86 0) 87 0) 88 0) 89 0) 90 0) 91 0) 92 0) 93 0) 94 0) 95 0) 96 0) 97 0) 98 0) 99 0) 100 0) 101 0) 102 0) 103 0) 104 0) 105 0) 106 0) 107 0) 108 0) 109 0) 110 0) 111 0) rfl [(a0, .inr (12, [.ref a1, .ref a2, .ref a3, .ref a4, .ref a5, .int 0, .ref a6, .int 0, .int 0, .int 0, .int 0, .int 0, .int 0, .int 0, .int 0, .int 0, .int 0, .int (-1), .ref a7, .ref a8, .int 0, .ref a9, .int 0, .ref a10, .ref a11, .ref a12, .ref a13, .ref a14, .int 0, .ref a15, .ref a16, .ref a17])), (a15, .inl (cy 1, 4, .inl (upd (upd (upd (upd (upd (fun _ => 0) 0 (-1)) 1 (-1)) 2 (-1)) 3 (-1)) 2 x1))), (a16, .inl (cy 1, 4, .inl (upd (fun _ => 0) 2 x2))), (a17, .inl (cy 2, 160, .inr (.inl (vp_updL (vp_updL (vp_updL (vp_updL (vp_updL (vp_updL (vp_updL (vp_updL (vp_updL (vp_updL (vp_updL (vp_updL (vp_updL (vp_updL (vp_updL (vp_updL (vp_updL (vp_updL (vp_updL (vp_updL (vp_updL (vp_updL (vp_updL (vp_updL (vp_updL (vp_updL (vp_updL (vp_updL (vp_updL (vp_updL (vp_updL (vp_updL (fun _ => 0) 80 0) 81 0) 82 0) 83 0) 84 0) 85 0) 86 0) 87 0) 88 0) 89 0) 90 0) 91 0) 92 0) 93 0) 94 0) 95 0) 96 0) 97 0) 98 0) 99 0) 100 0) 101 0) 102 0) 103 0) 104 0) 105 0) 106 0) 107 0) 108 0) 109 0) 110 0) 111 0))))] rfl dX12_tray_88 (fun H locs w => ?_)
  refine lv_iinc (v := 32) (lv' := [(4, .int 32), (0, .ref a0), (1, .int 2), (2, .int x1), (3, .int x2)]) C.1 C.2.1 dX12_tray_89 hl (k := 0) rfl (by decide) (by decide) rfl (fun ls hl => ?_)
  refine lv_goto (tgt := 69) C.1 C.2.1 dX12_tray_92 (by decide) ?_
  refine lv_iload C.1 C.2.1 dX12_tray_69 (lv_at hl 0 rfl) ?_
  refine lv_bipush (v := 40) C.1 C.2.1 dX12_tray_71 (by decide) ?_
  refine b_icmp_ge_f C (tgt := 95) dX12_tray_73 (by decide) (by decide) ?_
  refine lv_aload_n C.1 C.2.1 dX12_tray_76 rfl (lv_at hl 1 rfl) ?_
  refine r_get C w 0 rfl rfl 31 (by decide) fl_RX12_64 (v := .ref a17) rfl dX12_tray_77 ?_
  refine lv_bipush (v := 40) C.1 C.2.1 dX12_tray_80 (by decide) ?_
  refine lv_iload_n C.1 C.2.1 dX12_tray_82 rfl (lv_at hl 2 rfl) ?_
  refine r_imul C (v := 80) dX12_tray_83 (by decide) ?_
  refine lv_iload C.1 C.2.1 dX12_tray_84 (lv_at hl 0 rfl) ?_
  refine r_iadd C (v := 112) dX12_tray_86 (by decide) ?_
  refine lv_lconst (v := 0) C.1 C.2.1 dX12_tray_87 (by decide) ?_
  refine r_last C w 3 rfl (vinD (by decide)) (vp_updL (vp_updL (vp_updL (vp_updL (vp_updL (vp_updL (vp_updL (vp_updL (vp_updL (vp_updL (vp_updL (vp_updL (vp_updL (vp_updL (vp_updL (vp_updL (vp_updL (vp_updL (vp_updL (vp_updL (vp_updL (vp_updL (vp_updL (vp_updL (vp_updL (vp_updL (vp_updL (vp_updL (vp_updL (vp_updL (vp_updL (vp_updL (vp_updL (fun _ => 0) 80 0) 81 0) 82 0) 83 0) 84 0) 85 0) 86 0) 87 0) 88 0) 89 0) 90 0) 91 0) 92 0) 93 0) 94 0) 95 0) 96 0) 97 0) 98 0) 99 0) 100 0) 101 0) 102 0) 103 0) 104 0) 105 0) 106 0) 107 0) 108 0) 109 0) 110 0) 111 0) 112 0) rfl [(a0, .inr (12, [.ref a1, .ref a2, .ref a3, .ref a4, .ref a5, .int 0, .ref a6, .int 0, .int 0, .int 0, .int 0, .int 0, .int 0, .int 0, .int 0, .int 0, .int 0, .int (-1), .ref a7, .ref a8, .int 0, .ref a9, .int 0, .ref a10, .ref a11, .ref a12, .ref a13, .ref a14, .int 0, .ref a15, .ref a16, .ref a17])), (a15, .inl (cy 1, 4, .inl (upd (upd (upd (upd (upd (fun _ => 0) 0 (-1)) 1 (-1)) 2 (-1)) 3 (-1)) 2 x1))), (a16, .inl (cy 1, 4, .inl (upd (fun _ => 0) 2 x2))), (a17, .inl (cy 2, 160, .inr (.inl (vp_updL (vp_updL (vp_updL (vp_updL (vp_updL (vp_updL (vp_updL (vp_updL (vp_updL (vp_updL (vp_updL (vp_updL (vp_updL (vp_updL (vp_updL (vp_updL (vp_updL (vp_updL (vp_updL (vp_updL (vp_updL (vp_updL (vp_updL (vp_updL (vp_updL (vp_updL (vp_updL (vp_updL (vp_updL (vp_updL (vp_updL (vp_updL (vp_updL (fun _ => 0) 80 0) 81 0) 82 0) 83 0) 84 0) 85 0) 86 0) 87 0) 88 0) 89 0) 90 0) 91 0) 92 0) 93 0) 94 0) 95 0) 96 0) 97 0) 98 0) 99 0) 100 0) 101 0) 102 0) 103 0) 104 0) 105 0) 106 0) 107 0) 108 0) 109 0) 110 0) 111 0) 112 0))))] rfl dX12_tray_88 (fun H locs w => ?_)
  refine lv_iinc (v := 33) (lv' := [(4, .int 33), (0, .ref a0), (1, .int 2), (2, .int x1), (3, .int x2)]) C.1 C.2.1 dX12_tray_89 hl (k := 0) rfl (by decide) (by decide) rfl (fun ls hl => ?_)
  refine lv_goto (tgt := 69) C.1 C.2.1 dX12_tray_92 (by decide) ?_
  refine lv_iload C.1 C.2.1 dX12_tray_69 (lv_at hl 0 rfl) ?_
  refine lv_bipush (v := 40) C.1 C.2.1 dX12_tray_71 (by decide) ?_
  refine b_icmp_ge_f C (tgt := 95) dX12_tray_73 (by decide) (by decide) ?_
  refine lv_aload_n C.1 C.2.1 dX12_tray_76 rfl (lv_at hl 1 rfl) ?_
  refine r_get C w 0 rfl rfl 31 (by decide) fl_RX12_64 (v := .ref a17) rfl dX12_tray_77 ?_
  refine lv_bipush (v := 40) C.1 C.2.1 dX12_tray_80 (by decide) ?_
  refine lv_iload_n C.1 C.2.1 dX12_tray_82 rfl (lv_at hl 2 rfl) ?_
  refine r_imul C (v := 80) dX12_tray_83 (by decide) ?_
  refine lv_iload C.1 C.2.1 dX12_tray_84 (lv_at hl 0 rfl) ?_
  refine r_iadd C (v := 113) dX12_tray_86 (by decide) ?_
  refine lv_lconst (v := 0) C.1 C.2.1 dX12_tray_87 (by decide) ?_
  refine r_last C w 3 rfl (vinD (by decide)) (vp_updL (vp_updL (vp_updL (vp_updL (vp_updL (vp_updL (vp_updL (vp_updL (vp_updL (vp_updL (vp_updL (vp_updL (vp_updL (vp_updL (vp_updL (vp_updL (vp_updL (vp_updL (vp_updL (vp_updL (vp_updL (vp_updL (vp_updL (vp_updL (vp_updL (vp_updL (vp_updL (vp_updL (vp_updL (vp_updL (vp_updL (vp_updL (vp_updL (vp_updL (fun _ => 0) 80 0) 81 0) 82 0) 83 0) 84 0) 85 0) 86 0) 87 0) 88 0) 89 0) 90 0) 91 0) 92 0) 93 0) 94 0) 95 0) 96 0) 97 0) 98 0) 99 0) 100 0) 101 0) 102 0) 103 0) 104 0) 105 0) 106 0) 107 0) 108 0) 109 0) 110 0) 111 0) 112 0) 113 0) rfl [(a0, .inr (12, [.ref a1, .ref a2, .ref a3, .ref a4, .ref a5, .int 0, .ref a6, .int 0, .int 0, .int 0, .int 0, .int 0, .int 0, .int 0, .int 0, .int 0, .int 0, .int (-1), .ref a7, .ref a8, .int 0, .ref a9, .int 0, .ref a10, .ref a11, .ref a12, .ref a13, .ref a14, .int 0, .ref a15, .ref a16, .ref a17])), (a15, .inl (cy 1, 4, .inl (upd (upd (upd (upd (upd (fun _ => 0) 0 (-1)) 1 (-1)) 2 (-1)) 3 (-1)) 2 x1))), (a16, .inl (cy 1, 4, .inl (upd (fun _ => 0) 2 x2))), (a17, .inl (cy 2, 160, .inr (.inl (vp_updL (vp_updL (vp_updL (vp_updL (vp_updL (vp_updL (vp_updL (vp_updL (vp_updL (vp_updL (vp_updL (vp_updL (vp_updL (vp_updL (vp_updL (vp_updL (vp_updL (vp_updL (vp_updL (vp_updL (vp_updL (vp_updL (vp_updL (vp_updL (vp_updL (vp_updL (vp_updL (vp_updL (vp_updL (vp_updL (vp_updL (vp_updL (vp_updL (vp_updL (fun _ => 0) 80 0) 81 0) 82 0) 83 0) 84 0) 85 0) 86 0) 87 0) 88 0) 89 0) 90 0) 91 0) 92 0) 93 0) 94 0) 95 0) 96 0) 97 0) 98 0) 99 0) 100 0) 101 0) 102 0) 103 0) 104 0) 105 0) 106 0) 107 0) 108 0) 109 0) 110 0) 111 0) 112 0) 113 0))))] rfl dX12_tray_88 (fun H locs w => ?_)
  refine lv_iinc (v := 34) (lv' := [(4, .int 34), (0, .ref a0), (1, .int 2), (2, .int x1), (3, .int x2)]) C.1 C.2.1 dX12_tray_89 hl (k := 0) rfl (by decide) (by decide) rfl (fun ls hl => ?_)
  refine lv_goto (tgt := 69) C.1 C.2.1 dX12_tray_92 (by decide) ?_
  refine lv_iload C.1 C.2.1 dX12_tray_69 (lv_at hl 0 rfl) ?_
  refine lv_bipush (v := 40) C.1 C.2.1 dX12_tray_71 (by decide) ?_
  refine b_icmp_ge_f C (tgt := 95) dX12_tray_73 (by decide) (by decide) ?_
  refine lv_aload_n C.1 C.2.1 dX12_tray_76 rfl (lv_at hl 1 rfl) ?_
  refine r_get C w 0 rfl rfl 31 (by decide) fl_RX12_64 (v := .ref a17) rfl dX12_tray_77 ?_
  refine lv_bipush (v := 40) C.1 C.2.1 dX12_tray_80 (by decide) ?_
  refine lv_iload_n C.1 C.2.1 dX12_tray_82 rfl (lv_at hl 2 rfl) ?_
  refine r_imul C (v := 80) dX12_tray_83 (by decide) ?_
  refine lv_iload C.1 C.2.1 dX12_tray_84 (lv_at hl 0 rfl) ?_
  refine r_iadd C (v := 114) dX12_tray_86 (by decide) ?_
  refine lv_lconst (v := 0) C.1 C.2.1 dX12_tray_87 (by decide) ?_
  refine r_last C w 3 rfl (vinD (by decide)) (vp_updL (vp_updL (vp_updL (vp_updL (vp_updL (vp_updL (vp_updL (vp_updL (vp_updL (vp_updL (vp_updL (vp_updL (vp_updL (vp_updL (vp_updL (vp_updL (vp_updL (vp_updL (vp_updL (vp_updL (vp_updL (vp_updL (vp_updL (vp_updL (vp_updL (vp_updL (vp_updL (vp_updL (vp_updL (vp_updL (vp_updL (vp_updL (vp_updL (vp_updL (vp_updL (fun _ => 0) 80 0) 81 0) 82 0) 83 0) 84 0) 85 0) 86 0) 87 0) 88 0) 89 0) 90 0) 91 0) 92 0) 93 0) 94 0) 95 0) 96 0) 97 0) 98 0) 99 0) 100 0) 101 0) 102 0) 103 0) 104 0) 105 0) 106 0) 107 0) 108 0) 109 0) 110 0) 111 0) 112 0) 113 0) 114 0) rfl [(a0, .inr (12, [.ref a1, .ref a2, .ref a3, .ref a4, .ref a5, .int 0, .ref a6, .int 0, .int 0, .int 0, .int 0, .int 0, .int 0, .int 0, .int 0, .int 0, .int 0, .int (-1), .ref a7, .ref a8, .int 0, .ref a9, .int 0, .ref a10, .ref a11, .ref a12, .ref a13, .ref a14, .int 0, .ref a15, .ref a16, .ref a17])), (a15, .inl (cy 1, 4, .inl (upd (upd (upd (upd (upd (fun _ => 0) 0 (-1)) 1 (-1)) 2 (-1)) 3 (-1)) 2 x1))), (a16, .inl (cy 1, 4, .inl (upd (fun _ => 0) 2 x2))), (a17, .inl (cy 2, 160, .inr (.inl (vp_updL (vp_updL (vp_updL (vp_updL (vp_updL (vp_updL (vp_updL (vp_updL (vp_updL (vp_updL (vp_updL (vp_updL (vp_updL (vp_updL (vp_updL (vp_updL (vp_updL (vp_updL (vp_updL (vp_updL (vp_updL (vp_updL (vp_updL (vp_updL (vp_updL (vp_updL (vp_updL (vp_updL (vp_updL (vp_updL (vp_updL (vp_updL (vp_updL (vp_updL (vp_updL (fun _ => 0) 80 0) 81 0) 82 0) 83 0) 84 0) 85 0) 86 0) 87 0) 88 0) 89 0) 90 0) 91 0) 92 0) 93 0) 94 0) 95 0) 96 0) 97 0) 98 0) 99 0) 100 0) 101 0) 102 0) 103 0) 104 0) 105 0) 106 0) 107 0) 108 0) 109 0) 110 0) 111 0) 112 0) 113 0) 114 0))))] rfl dX12_tray_88 (fun H locs w => ?_)
  refine lv_iinc (v := 35) (lv' := [(4, .int 35), (0, .ref a0), (1, .int 2), (2, .int x1), (3, .int x2)]) C.1 C.2.1 dX12_tray_89 hl (k := 0) rfl (by decide) (by decide) rfl (fun ls hl => ?_)
  refine lv_goto (tgt := 69) C.1 C.2.1 dX12_tray_92 (by decide) ?_
  refine lv_iload C.1 C.2.1 dX12_tray_69 (lv_at hl 0 rfl) ?_
  refine lv_bipush (v := 40) C.1 C.2.1 dX12_tray_71 (by decide) ?_
  refine b_icmp_ge_f C (tgt := 95) dX12_tray_73 (by decide) (by decide) ?_
  refine lv_aload_n C.1 C.2.1 dX12_tray_76 rfl (lv_at hl 1 rfl) ?_
  refine r_get C w 0 rfl rfl 31 (by decide) fl_RX12_64 (v := .ref a17) rfl dX12_tray_77 ?_
  refine lv_bipush (v := 40) C.1 C.2.1 dX12_tray_80 (by decide) ?_
  refine lv_iload_n C.1 C.2.1 dX12_tray_82 rfl (lv_at hl 2 rfl) ?_
  refine r_imul C (v := 80) dX12_tray_83 (by decide) ?_
  refine lv_iload C.1 C.2.1 dX12_tray_84 (lv_at hl 0 rfl) ?_
  refine r_iadd C (v := 115) dX12_tray_86 (by decide) ?_
  refine lv_lconst (v := 0) C.1 C.2.1 dX12_tray_87 (by decide) ?_
  refine r_last C w 3 rfl (vinD (by decide)) (vp_updL (vp_updL (vp_updL (vp_updL (vp_updL (vp_updL (vp_updL (vp_updL (vp_updL (vp_updL (vp_updL (vp_updL (vp_updL (vp_updL (vp_updL (vp_updL (vp_updL (vp_updL (vp_updL (vp_updL (vp_updL (vp_updL (vp_updL (vp_updL (vp_updL (vp_updL (vp_updL (vp_updL (vp_updL (vp_updL (vp_updL (vp_updL (vp_updL (vp_updL (vp_updL (vp_updL (fun _ => 0) 80 0) 81 0) 82 0) 83 0) 84 0) 85 0) 86 0) 87 0) 88 0) 89 0) 90 0) 91 0) 92 0) 93 0) 94 0) 95 0) 96 0) 97 0) 98 0) 99 0) 100 0) 101 0) 102 0) 103 0) 104 0) 105 0) 106 0) 107 0) 108 0) 109 0) 110 0) 111 0) 112 0) 113 0) 114 0) 115 0) rfl [(a0, .inr (12, [.ref a1, .ref a2, .ref a3, .ref a4, .ref a5, .int 0, .ref a6, .int 0, .int 0, .int 0, .int 0, .int 0, .int 0, .int 0, .int 0, .int 0, .int 0, .int (-1), .ref a7, .ref a8, .int 0, .ref a9, .int 0, .ref a10, .ref a11, .ref a12, .ref a13, .ref a14, .int 0, .ref a15, .ref a16, .ref a17])), (a15, .inl (cy 1, 4, .inl (upd (upd (upd (upd (upd (fun _ => 0) 0 (-1)) 1 (-1)) 2 (-1)) 3 (-1)) 2 x1))), (a16, .inl (cy 1, 4, .inl (upd (fun _ => 0) 2 x2))), (a17, .inl (cy 2, 160, .inr (.inl (vp_updL (vp_updL (vp_updL (vp_updL (vp_updL (vp_updL (vp_updL (vp_updL (vp_updL (vp_updL (vp_updL (vp_updL (vp_updL (vp_updL (vp_updL (vp_updL (vp_updL (vp_updL (vp_updL (vp_updL (vp_updL (vp_updL (vp_updL (vp_updL (vp_updL (vp_updL (vp_updL (vp_updL (vp_updL (vp_updL (vp_updL (vp_updL (vp_updL (vp_updL (vp_updL (vp_updL (fun _ => 0) 80 0) 81 0) 82 0) 83 0) 84 0) 85 0) 86 0) 87 0) 88 0) 89 0) 90 0) 91 0) 92 0) 93 0) 94 0) 95 0) 96 0) 97 0) 98 0) 99 0) 100 0) 101 0) 102 0) 103 0) 104 0) 105 0) 106 0) 107 0) 108 0) 109 0) 110 0) 111 0) 112 0) 113 0) 114 0) 115 0))))] rfl dX12_tray_88 (fun H locs w => ?_)
  refine lv_iinc (v := 36) (lv' := [(4, .int 36), (0, .ref a0), (1, .int 2), (2, .int x1), (3, .int x2)]) C.1 C.2.1 dX12_tray_89 hl (k := 0) rfl (by decide) (by decide) rfl (fun ls hl => ?_)
  refine lv_goto (tgt := 69) C.1 C.2.1 dX12_tray_92 (by decide) ?_
  refine lv_iload C.1 C.2.1 dX12_tray_69 (lv_at hl 0 rfl) ?_
  refine lv_bipush (v := 40) C.1 C.2.1 dX12_tray_71 (by decide) ?_
  refine b_icmp_ge_f C (tgt := 95) dX12_tray_73 (by decide) (by decide) ?_
  refine lv_aload_n C.1 C.2.1 dX12_tray_76 rfl (lv_at hl 1 rfl) ?_
  refine r_get C w 0 rfl rfl 31 (by decide) fl_RX12_64 (v := .ref a17) rfl dX12_tray_77 ?_
  refine lv_bipush (v := 40) C.1 C.2.1 dX12_tray_80 (by decide) ?_
  refine lv_iload_n C.1 C.2.1 dX12_tray_82 rfl (lv_at hl 2 rfl) ?_
  refine r_imul C (v := 80) dX12_tray_83 (by decide) ?_
  refine lv_iload C.1 C.2.1 dX12_tray_84 (lv_at hl 0 rfl) ?_
  refine r_iadd C (v := 116) dX12_tray_86 (by decide) ?_
  refine lv_lconst (v := 0) C.1 C.2.1 dX12_tray_87 (by decide) ?_
  refine r_last C w 3 rfl (vinD (by decide)) (vp_updL (vp_updL (vp_updL (vp_updL (vp_updL (vp_updL (vp_updL (vp_updL (vp_updL (vp_updL (vp_updL (vp_updL (vp_updL (vp_updL (vp_updL (vp_updL (vp_updL (vp_updL (vp_updL (vp_updL (vp_updL (vp_updL (vp_updL (vp_updL (vp_updL (vp_updL (vp_updL (vp_updL (vp_updL (vp_updL (vp_updL (vp_updL (vp_updL (vp_updL (vp_updL (vp_updL (vp_updL (fun _ => 0) 80 0) 81 0) 82 0) 83 0) 84 0) 85 0) 86 0) 87 0) 88 0) 89 0) 90 0) 91 0) 92 0) 93 0) 94 0) 95 0) 96 0) 97 0) 98 0) 99 0) 100 0) 101 0) 102 0) 103 0) 104 0) 105 0) 106 0) 107 0) 108 0) 109 0) 110 0) 111 0) 112 0) 113 0) 114 0) 115 0) 116 0) rfl [(a0, .inr (12, [.ref a1, .ref a2, .ref a3, .ref a4, .ref a5, .int 0, .ref a6, .int 0, .int 0, .int 0, .int 0, .int 0, .int 0, .int 0, .int 0, .int 0, .int 0, .int (-1), .ref a7, .ref a8, .int 0, .ref a9, .int 0, .ref a10, .ref a11, .ref a12, .ref a13, .ref a14, .int 0, .ref a15, .ref a16, .ref a17])), (a15, .inl (cy 1, 4, .inl (upd (upd (upd (upd (upd (fun _ => 0) 0 (-1)) 1 (-1)) 2 (-1)) 3 (-1)) 2 x1))), (a16, .inl (cy 1, 4, .inl (upd (fun _ => 0) 2 x2))), (a17, .inl (cy 2, 160, .inr (.inl (vp_updL (vp_updL (vp_updL (vp_updL (vp_updL (vp_updL (vp_updL (vp_updL (vp_updL (vp_updL (vp_updL (vp_updL (vp_updL (vp_updL (vp_updL (vp_updL (vp_updL (vp_updL (vp_updL (vp_updL (vp_updL (vp_updL (vp_updL (vp_updL (vp_updL (vp_updL (vp_updL (vp_updL (vp_updL (vp_updL (vp_updL (vp_updL (vp_updL (vp_updL (vp_updL (vp_updL (vp_updL (fun _ => 0) 80 0) 81 0) 82 0) 83 0) 84 0) 85 0) 86 0) 87 0) 88 0) 89 0) 90 0) 91 0) 92 0) 93 0) 94 0) 95 0) 96 0) 97 0) 98 0) 99 0) 100 0) 101 0) 102 0) 103 0) 104 0) 105 0) 106 0) 107 0) 108 0) 109 0) 110 0) 111 0) 112 0) 113 0) 114 0) 115 0) 116 0))))] rfl dX12_tray_88 (fun H locs w => ?_)
  refine lv_iinc (v := 37) (lv' := [(4, .int 37), (0, .ref a0), (1, .int 2), (2, .int x1), (3, .int x2)]) C.1 C.2.1 dX12_tray_89 hl (k := 0) rfl (by decide) (by decide) rfl (fun ls hl => ?_)
  refine lv_goto (tgt := 69) C.1 C.2.1 dX12_tray_92 (by decide) ?_
  refine lv_iload C.1 C.2.1 dX12_tray_69 (lv_at hl 0 rfl) ?_
  refine lv_bipush (v := 40) C.1 C.2.1 dX12_tray_71 (by decide) ?_
  refine b_icmp_ge_f C (tgt := 95) dX12_tray_73 (by decide) (by decide) ?_
  refine lv_aload_n C.1 C.2.1 dX12_tray_76 rfl (lv_at hl 1 rfl) ?_
  refine r_get C w 0 rfl rfl 31 (by decide) fl_RX12_64 (v := .ref a17) rfl dX12_tray_77 ?_
  refine lv_bipush (v := 40) C.1 C.2.1 dX12_tray_80 (by decide) ?_
  refine lv_iload_n C.1 C.2.1 dX12_tray_82 rfl (lv_at hl 2 rfl) ?_
  refine r_imul C (v := 80) dX12_tray_83 (by decide) ?_
  refine lv_iload C.1 C.2.1 dX12_tray_84 (lv_at hl 0 rfl) ?_
  refine r_iadd C (v := 117) dX12_tray_86 (by decide) ?_
  refine lv_lconst (v := 0) C.1 C.2.1 dX12_tray_87 (by decide) ?_
  refine r_last C w 3 rfl (vinD (by decide)) (vp_updL (vp_updL (vp_updL (vp_updL (vp_updL (vp_updL (vp_updL (vp_updL (vp_updL (vp_updL (vp_updL (vp_updL (vp_updL (vp_updL (vp_updL (vp_updL (vp_updL (vp_updL (vp_updL (vp_updL (vp_updL (vp_updL (vp_updL (vp_updL (vp_updL (vp_updL (vp_updL (vp_updL (vp_updL (vp_updL (vp_updL (vp_updL (vp_updL (vp_updL (vp_updL (vp_updL (vp_updL (vp_updL (fun _ => 0) 80 0) 81 0) 82 0) 83 0) 84 0) 85 0) 86 0) 87 0) 88 0) 89 0) 90 0) 91 0) 92 0) 93 0) 94 0) 95 0) 96 0) 97 0) 98 0) 99 0) 100 0) 101 0) 102 0) 103 0) 104 0) 105 0) 106 0) 107 0) 108 0) 109 0) 110 0) 111 0) 112 0) 113 0) 114 0) 115 0) 116 0) 117 0) rfl [(a0, .inr (12, [.ref a1, .ref a2, .ref a3, .ref a4, .ref a5, .int 0, .ref a6, .int 0, .int 0, .int 0, .int 0, .int 0, .int 0, .int 0, .int 0, .int 0, .int 0, .int (-1), .ref a7, .ref a8, .int 0, .ref a9, .int 0, .ref a10, .ref a11, .ref a12, .ref a13, .ref a14, .int 0, .ref a15, .ref a16, .ref a17])), (a15, .inl (cy 1, 4, .inl (upd (upd (upd (upd (upd (fun _ => 0) 0 (-1)) 1 (-1)) 2 (-1)) 3 (-1)) 2 x1))), (a16, .inl (cy 1, 4, .inl (upd (fun _ => 0) 2 x2))), (a17, .inl (cy 2, 160, .inr (.inl (vp_updL (vp_updL (vp_updL (vp_updL (vp_updL (vp_updL (vp_updL (vp_updL (vp_updL (vp_updL (vp_updL (vp_updL (vp_updL (vp_updL (vp_updL (vp_updL (vp_updL (vp_updL (vp_updL (vp_updL (vp_updL (vp_updL (vp_updL (vp_updL (vp_updL (vp_updL (vp_updL (vp_updL (vp_updL (vp_updL (vp_updL (vp_updL (vp_updL (vp_updL (vp_updL (vp_updL (vp_updL (vp_updL (fun _ => 0) 80 0) 81 0) 82 0) 83 0) 84 0) 85 0) 86 0) 87 0) 88 0) 89 0) 90 0) 91 0) 92 0) 93 0) 94 0) 95 0) 96 0) 97 0) 98 0) 99 0) 100 0) 101 0) 102 0) 103 0) 104 0) 105 0) 106 0) 107 0) 108 0) 109 0) 110 0) 111 0) 112 0) 113 0) 114 0) 115 0) 116 0) 117 0))))] rfl dX12_tray_88 (fun H locs w => ?_)
  refine lv_iinc (v := 38) (lv' := [(4, .int 38), (0, .ref a0), (1, .int 2), (2, .int x1), (3, .int x2)]) C.1 C.2.1 dX12_tray_89 hl (k := 0) rfl (by decide) (by decide) rfl (fun ls hl => ?_)
  refine lv_goto (tgt := 69) C.1 C.2.1 dX12_tray_92 (by decide) ?_
  refine lv_iload C.1 C.2.1 dX12_tray_69 (lv_at hl 0 rfl) ?_
  refine lv_bipush (v := 40) C.1 C.2.1 dX12_tray_71 (by decide) ?_
  refine b_icmp_ge_f C (tgt := 95) dX12_tray_73 (by decide) (by decide) ?_
  refine lv_aload_n C.1 C.2.1 dX12_tray_76 rfl (lv_at hl 1 rfl) ?_
  refine r_get C w 0 rfl rfl 31 (by decide) fl_RX12_64 (v := .ref a17) rfl dX12_tray_77 ?_
  refine lv_bipush (v := 40) C.1 C.2.1 dX12_tray_80 (by decide) ?_
  refine lv_iload_n C.1 C.2.1 dX12_tray_82 rfl (lv_at hl 2 rfl) ?_
  refine r_imul C (v := 80) dX12_tray_83 (by decide) ?_
  refine lv_iload C.1 C.2.1 dX12_tray_84 (lv_at hl 0 rfl) ?_
  refine r_iadd C (v := 118) dX12_tray_86 (by decide) ?_
  refine lv_lconst (v := 0) C.1 C.2.1 dX12_tray_87 (by decide) ?_
  refine r_last C w 3 rfl (vinD (by decide)) (vp_updL (vp_updL (vp_updL (vp_updL (vp_updL (vp_updL (vp_updL (vp_updL (vp_updL (vp_updL (vp_updL (vp_updL (vp_updL (vp_updL (vp_updL (vp_updL (vp_updL (vp_updL (vp_updL (vp_updL (vp_updL (vp_updL (vp_updL (vp_updL (vp_updL (vp_updL (vp_updL (vp_updL (vp_updL (vp_updL (vp_updL (vp_updL (vp_updL (vp_updL (vp_updL (vp_updL (vp_updL (vp_updL (vp_updL (fun _ => 0) 80 0) 81 0) 82 0) 83 0) 84 0) 85 0) 86 0) 87 0) 88 0) 89 0) 90 0) 91 0) 92 0) 93 0) 94 0) 95 0) 96 0) 97 0) 98 0) 99 0) 100 0) 101 0) 102 0) 103 0) 104 0) 105 0) 106 0) 107 0) 108 0) 109 0) 110 0) 111 0) 112 0) 113 0) 114 0) 115 0) 116 0) 117 0) 118 0) rfl [(a0, .inr (12, [.ref a1, .ref a2, .ref a3, .ref a4, .ref a5, .int 0, .ref a6, .int 0, .int 0, .int 0, .int 0, .int 0, .int 0, .int 0, .int 0, .int 0, .int 0, .int (-1), .ref a7, .ref a8, .int 0, .ref a9, .int 0, .ref a10, .ref a11, .ref a12, .ref a13, .ref a14, .int 0, .ref a15, .ref a16, .ref a17])), (a15, .inl (cy 1, 4, .inl (upd (upd (upd (upd (upd (fun _ => 0) 0 (-1)) 1 (-1)) 2 (-1)) 3 (-1)) 2 x1))), (a16, .inl (cy 1, 4, .inl (upd (fun _ => 0) 2 x2))), (a17, .inl (cy 2, 160, .inr (.inl (vp_updL (vp_updL (vp_updL (vp_updL (vp_updL (vp_updL (vp_updL (vp_updL (vp_updL (vp_updL (vp_updL (vp_updL (vp_updL (vp_updL (vp_updL (vp_updL (vp_updL (vp_updL (vp_updL (vp_updL (vp_updL (vp_updL (vp_updL (vp_updL (vp_updL (vp_updL (vp_updL (vp_updL (vp_updL (vp_updL (vp_updL (vp_updL (vp_updL (vp_updL (vp_updL (vp_updL (vp_updL (vp_updL (vp_updL (fun _ => 0) 80 0) 81 0) 82 0) 83 0) 84 0) 85 0) 86 0) 87 0) 88 0) 89 0) 90 0) 91 0) 92 0) 93 0) 94 0) 95 0) 96 0) 97 0) 98 0) 99 0) 100 0) 101 0) 102 0) 103 0) 104 0) 105 0) 106 0) 107 0) 108 0) 109 0) 110 0) 111 0) 112 0) 113 0) 114 0) 115 0) 116 0) 117 0) 118 0))))] rfl dX12_tray_88 (fun H locs w => ?_)
  refine lv_iinc (v := 39) (lv' := [(4, .int 39), (0, .ref a0), (1, .int 2), (2, .int x1), (3, .int x2)]) C.1 C.2.1 dX12_tray_89 hl (k := 0) rfl (by decide) (by decide) rfl (fun ls hl => ?_)
  refine lv_goto (tgt := 69) C.1 C.2.1 dX12_tray_92 (by decide) ?_
  refine lv_iload C.1 C.2.1 dX12_tray_69 (lv_at hl 0 rfl) ?_
  refine lv_bipush (v := 40) C.1 C.2.1 dX12_tray_71 (by decide) ?_
  refine b_icmp_ge_f C (tgt := 95) dX12_tray_73 (by decide) (by decide) ?_
  refine lv_aload_n C.1 C.2.1 dX12_tray_76 rfl (lv_at hl 1 rfl) ?_
  refine r_get C w 0 rfl rfl 31 (by decide) fl_RX12_64 (v := .ref a17) rfl dX12_tray_77 ?_
  refine lv_bipush (v := 40) C.1 C.2.1 dX12_tray_80 (by decide) ?_
  refine lv_iload_n C.1 C.2.1 dX12_tray_82 rfl (lv_at hl 2 rfl) ?_
  refine r_imul C (v := 80) dX12_tray_83 (by decide) ?_
  refine lv_iload C.1 C.2.1 dX12_tray_84 (lv_at hl 0 rfl) ?_
  refine r_iadd C (v := 119) dX12_tray_86 (by decide) ?_
  refine lv_lconst (v := 0) C.1 C.2.1 dX12_tray_87 (by decide) ?_
  refine r_last C w 3 rfl (vinD (by decide)) (vp_updL (vp_updL (vp_updL (vp_updL (vp_updL (vp_updL (vp_updL (vp_updL (vp_updL (vp_updL (vp_updL (vp_updL (vp_updL (vp_updL (vp_updL (vp_updL (vp_updL (vp_updL (vp_updL (vp_updL (vp_updL (vp_updL (vp_updL (vp_updL (vp_updL (vp_updL (vp_updL (vp_updL (vp_updL (vp_updL (vp_updL (vp_updL (vp_updL (vp_updL (vp_updL (vp_updL (vp_updL (vp_updL (vp_updL (vp_updL (fun _ => 0) 80 0) 81 0) 82 0) 83 0) 84 0) 85 0) 86 0) 87 0) 88 0) 89 0) 90 0) 91 0) 92 0) 93 0) 94 0) 95 0) 96 0) 97 0) 98 0) 99 0) 100 0) 101 0) 102 0) 103 0) 104 0) 105 0) 106 0) 107 0) 108 0) 109 0) 110 0) 111 0) 112 0) 113 0) 114 0) 115 0) 116 0) 117 0) 118 0) 119 0) rfl [(a0, .inr (12, [.ref a1, .ref a2, .ref a3, .ref a4, .ref a5, .int 0, .ref a6, .int 0, .int 0, .int 0, .int 0, .int 0, .int 0, .int 0, .int 0, .int 0, .int 0, .int (-1), .ref a7, .ref a8, .int 0, .ref a9, .int 0, .ref a10, .ref a11, .ref a12, .ref a13, .ref a14, .int 0, .ref a15, .ref a16, .ref a17])), (a15, .inl (cy 1, 4, .inl (upd (upd (upd (upd (upd (fun _ => 0) 0 (-1)) 1 (-1)) 2 (-1)) 3 (-1)) 2 x1))), (a16, .inl (cy 1, 4, .inl (upd (fun _ => 0) 2 x2))), (a17, .inl (cy 2, 160, .inr (.inl (vp_updL (vp_updL (vp_updL (vp_updL (vp_updL (vp_updL (vp_updL (vp_updL (vp_updL (vp_updL (vp_updL (vp_updL (vp_updL (vp_updL (vp_updL (vp_updL (vp_updL (vp_updL (vp_updL (vp_updL (vp_updL (vp_updL (vp_updL (vp_updL (vp_updL (vp_updL (vp_updL (vp_updL (vp_updL (vp_updL (vp_updL (vp_updL (vp_updL (vp_updL (vp_updL (vp_updL (vp_updL (vp_updL (vp_updL (vp_updL (fun _ => 0) 80 0) 81 0) 82 0) 83 0) 84 0) 85 0) 86 0) 87 0) 88 0) 89 0) 90 0) 91 0) 92 0) 93 0) 94 0) 95 0) 96 0) 97 0) 98 0) 99 0) 100 0) 101 0) 102 0) 103 0) 104 0) 105 0) 106 0) 107 0) 108 0) 109 0) 110 0) 111 0) 112 0) 113 0) 114 0) 115 0) 116 0) 117 0) 118 0) 119 0))))] rfl dX12_tray_88 (fun H locs w => ?_)
  refine lv_iinc (v := 40) (lv' := [(4, .int 40), (0, .ref a0), (1, .int 2), (2, .int x1), (3, .int x2)]) C.1 C.2.1 dX12_tray_89 hl (k := 0) rfl (by decide) (by decide) rfl (fun ls hl => ?_)
  refine lv_goto (tgt := 69) C.1 C.2.1 dX12_tray_92 (by decide) ?_
  refine lv_iload C.1 C.2.1 dX12_tray_69 (lv_at hl 0 rfl) ?_
  refine lv_bipush (v := 40) C.1 C.2.1 dX12_tray_71 (by decide) ?_
  refine b_icmp_ge_t C (tgt := 95) dX12_tray_73 (by decide) (by decide) ?_
  exact r_vret C w hlocks () hr rfl trivial [0, 1, 2, 3] rfl rfl ⟨Nat.le_of_ble_eq_true rfl, Nat.le_of_ble_eq_true rfl⟩ dX12_tray_95
set_option maxRecDepth 100000 in
set_option maxHeartbeats 4000000 in
theorem c_X12_tray_7 (l : Launch) (D : va_G) (cy : Nat → ClassId) (a0 a1 a2 a3 a4 a5 a6 a7 a8 a9 a10 a11 a12 a13 a14 a15 a16 a17 : Nat) (x1 : Int32) (x2 : Int32) (k0 : ¬ x1 < 0) (k1 : ¬ 3 < x1) (k2 : ¬ x2 < 0) (k3 : ¬ 40 < x2) : Ct l D cy yX12_tray cX12_tray 5 none 2 45 0 0 [(a0, .inr (12, [.ref a1, .ref a2, .ref a3, .ref a4, .ref a5, .int 0, .ref a6, .int 0, .int 0, .int 0, .int 0, .int 0, .int 0, .int 0, .int 0, .int 0, .int 0, .int (-1), .ref a7, .ref a8, .int 0, .ref a9, .int 0, .ref a10, .ref a11, .ref a12, .ref a13, .ref a14, .int 0, .ref a15, .ref a16, .ref a17])), (a15, .inl (cy 1, 4, .inl (upd (upd (upd (upd (fun _ => 0) 0 (-1)) 1 (-1)) 2 (-1)) 3 (-1)))), (a16, .inl (cy 1, 4, .inl (fun _ => 0))), (a17, .inl (cy 2, 160, .inr (.inl (fun _ => 0))))] [.ref a0, .int 1, .int x1, .int x2] (fun u : Unit => none) (fun _ => True) (fun u : Unit => [(a0, .inr (12, [.ref a1, .ref a2, .ref a3, .ref a4, .ref a5, .int 0, .ref a6, .int 0, .int 0, .int 0, .int 0, .int 0, .int 0, .int 0, .int 0, .int 0, .int 0, .int (-1), .ref a7, .ref a8, .int 0, .ref a9, .int 0, .ref a10, .ref a11, .ref a12, .ref a13, .ref a14, .int 0, .ref a15, .ref a16, .ref a17])), (a15, .inl (cy 1, 4, .inl (upd (upd (upd (upd (upd (fun _ => 0) 0 (-1)) 1 (-1)) 2 (-1)) 3 (-1)) 1 x1))), (a16, .inl (cy 1, 4, .inl (upd (fun _ => 0) 1 x2))), (a17, .inl (cy 2, 160, .inr (.inl (vp_updL (vp_updL (vp_updL (vp_updL (vp_updL (vp_updL (vp_updL (vp_updL (vp_updL (vp_updL (vp_updL (vp_updL (vp_updL (vp_updL (vp_updL (vp_updL (vp_updL (vp_updL (vp_updL (vp_updL (vp_updL (vp_updL (vp_updL (vp_updL (vp_updL (vp_updL (vp_updL (vp_updL (vp_updL (vp_updL (vp_updL (vp_updL (vp_updL (vp_updL (vp_updL (vp_updL (vp_updL (vp_updL (vp_updL (vp_updL (fun _ => 0) 40 0) 41 0) 42 0) 43 0) 44 0) 45 0) 46 0) 47 0) 48 0) 49 0) 50 0) 51 0) 52 0) 53 0) 54 0) 55 0) 56 0) 57 0) 58 0) 59 0) 60 0) 61 0) 62 0) 63 0) 64 0) 65 0) 66 0) 67 0) 68 0) 69 0) 70 0) 71 0) 72 0) 73 0) 74 0) 75 0) 76 0) 77 0) 78 0) 79 0))))]) := by
  refine Ct.of (by decide +kernel) (Nat.le_of_ble_eq_true rfl) ?_
  intro p e s m args below meth c A ls C hr hlocks hml hnm w hl
  have hl : lv_has ls 5 [(0, .ref a0), (1, .int 1), (2, .int x1), (3, .int x2)] := hl
  refine lv_aload_n C.1 C.2.1 dX12_tray_0 rfl (lv_at hl 0 rfl) ?_
  refine lv_iload_n C.1 C.2.1 dX12_tray_1 rfl (lv_at hl 1 rfl) ?_
  refine r_callS C w fs_RX12_403 (c_X12_isTray_6 l D cy) (hl.1.trans hml.symm) [] [0, 1, 2, 3] (wr := [(a0, .inr (12, [.ref a1, .ref a2, .ref a3, .ref a4, .ref a5, .int 0, .ref a6, .int 0, .int 0, .int 0, .int 0, .int 0, .int 0, .int 0, .int 0, .int 0, .int 0, .int (-1), .ref a7, .ref a8, .int 0, .ref a9, .int 0, .ref a10, .ref a11, .ref a12, .ref a13, .ref a14, .int 0, .ref a15, .ref a16, .ref a17])), (a15, .inl (cy 1, 4, .inl (upd (upd (upd (upd (fun _ => 0) 0 (-1)) 1 (-1)) 2 (-1)) 3 (-1)))), (a16, .inl (cy 1, 4, .inl (fun _ => 0))), (a17, .inl (cy 2, 160, .inr (.inl (fun _ => 0))))]) ⟨rfl, rfl, rfl, rfl, by decide⟩ rfl rfl ⟨Nat.le_of_ble_eq_true rfl, Nat.le_of_ble_eq_true rfl, Nat.le_of_ble_eq_true rfl⟩ 0 0 ⟨rfl, rfl, Nat.le_of_ble_eq_true rfl, Nat.le_of_ble_eq_true rfl⟩ dX12_tray_2 (fun u H locs hp w => ?_)
  have w : Wd D A s.heap [(a0, .inr (12, [.ref a1, .ref a2, .ref a3, .ref a4, .ref a5, .int 0, .ref a6, .int 0, .int 0, .int 0, .int 0, .int 0, .int 0, .int 0, .int 0, .int 0, .int 0, .int (-1), .ref a7, .ref a8, .int 0, .ref a9, .int 0, .ref a10, .ref a11, .ref a12, .ref a13, .ref a14, .int 0, .ref a15, .ref a16, .ref a17])), (a15, .inl (cy 1, 4, .inl (upd (upd (upd (upd (fun _ => 0) 0 (-1)) 1 (-1)) 2 (-1)) 3 (-1)))), (a16, .inl (cy 1, 4, .inl (fun _ => 0))), (a17, .inl (cy 2, 160, .inr (.inl (fun _ => 0))))] _ _ := w
  refine r_top (g2 := F0 m 5 ls [.int 1, .ref a0]) rfl ?_
  refine b_if_ne_t C (tgt := 12) dX12_tray_5 (by decide) (by decide) ?_
  refine lv_iload_n C.1 C.2.1 dX12_tray_12 rfl (lv_at hl 2 rfl) ?_
  refine lv_i2l (v := (Int32.toInt64 x1)) C.1 C.2.1 dX12_tray_13 rfl ?_
  refine lv_lconst (v := 0) C.1 C.2.1 dX12_tray_14 (by decide) ?_
  refine lv_ldc2 (v := 3) C.1 C.2.1 C.2.2.1 (C.2.2.2.1 _ kl_RX12_279) dX12_tray_15 ?_
  refine r_callS C w fs_RX12_133 (c_X12_within_27 l D cy x1 k0 k1) (hl.1.trans hml.symm) [] [0, 1, 2, 3] (wr := [(a0, .inr (12, [.ref a1, .ref a2, .ref a3, .ref a4, .ref a5, .int 0, .ref a6, .int 0, .int 0, .int 0, .int 0, .int 0, .int 0, .int 0, .int 0, .int 0, .int 0, .int (-1), .ref a7, .ref a8, .int 0, .ref a9, .int 0, .ref a10, .ref a11, .ref a12, .ref a13, .ref a14, .int 0, .ref a15, .ref a16, .ref a17])), (a15, .inl (cy 1, 4, .inl (upd (upd (upd (upd (fun _ => 0) 0 (-1)) 1 (-1)) 2 (-1)) 3 (-1)))), (a16, .inl (cy 1, 4, .inl (fun _ => 0))), (a17, .inl (cy 2, 160, .inr (.inl (fun _ => 0))))]) ⟨rfl, rfl, rfl, rfl, by decide⟩ rfl rfl ⟨Nat.le_of_ble_eq_true rfl, Nat.le_of_ble_eq_true rfl, Nat.le_of_ble_eq_true rfl⟩ 0 0 ⟨rfl, rfl, Nat.le_of_ble_eq_true rfl, Nat.le_of_ble_eq_true rfl⟩ dX12_tray_18 (fun u H locs hp w => ?_)
  have w : Wd D A s.heap [(a0, .inr (12, [.ref a1, .ref a2, .ref a3, .ref a4, .ref a5, .int 0, .ref a6, .int 0, .int 0, .int 0, .int 0, .int 0, .int 0, .int 0, .int 0, .int 0, .int 0, .int (-1), .ref a7, .ref a8, .int 0, .ref a9, .int 0, .ref a10, .ref a11, .ref a12, .ref a13, .ref a14, .int 0, .ref a15, .ref a16, .ref a17])), (a15, .inl (cy 1, 4, .inl (upd (upd (upd (upd (fun _ => 0) 0 (-1)) 1 (-1)) 2 (-1)) 3 (-1)))), (a16, .inl (cy 1, 4, .inl (fun _ => 0))), (a17, .inl (cy 2, 160, .inr (.inl (fun _ => 0))))] _ _ := w
  refine r_top (g2 := F0 m 21 ls [.int 1, .ref a0]) rfl ?_
  refine b_if_eq_f C (tgt := 36) dX12_tray_21 (by decide) (by decide) ?_
  refine lv_iload_n C.1 C.2.1 dX12_tray_24 rfl (lv_at hl 3 rfl) ?_
  refine lv_i2l (v := (Int32.toInt64 x2)) C.1 C.2.1 dX12_tray_25 rfl ?_
  refine lv_lconst (v := 0) C.1 C.2.1 dX12_tray_26 (by decide) ?_
  refine lv_ldc2 (v := 40) C.1 C.2.1 C.2.2.1 (C.2.2.2.1 _ kl_RX12_409) dX12_tray_27 ?_
  refine r_callS C w fs_RX12_133 (c_X12_within_34 l D cy x2 k2 k3) (hl.1.trans hml.symm) [] [0, 1, 2, 3] (wr := [(a0, .inr (12, [.ref a1, .ref a2, .ref a3, .ref a4, .ref a5, .int 0, .ref a6, .int 0, .int 0, .int 0, .int 0, .int 0, .int 0, .int 0, .int 0, .int 0, .int 0, .int (-1), .ref a7, .ref a8, .int 0, .ref a9, .int 0, .ref a10, .ref a11, .ref a12, .ref a13, .ref a14, .int 0, .ref a15, .ref a16, .ref a17])), (a15, .inl (cy 1, 4, .inl (upd (upd (upd (upd (fun _ => 0) 0 (-1)) 1 (-1)) 2 (-1)) 3 (-1)))), (a16, .inl (cy 1, 4, .inl (fun _ => 0))), (a17, .inl (cy 2, 160, .inr (.inl (fun _ => 0))))]) ⟨rfl, rfl, rfl, rfl, by decide⟩ rfl rfl ⟨Nat.le_of_ble_eq_true rfl, Nat.le_of_ble_eq_true rfl, Nat.le_of_ble_eq_true rfl⟩ 0 0 ⟨rfl, rfl, Nat.le_of_ble_eq_true rfl, Nat.le_of_ble_eq_true rfl⟩ dX12_tray_30 (fun u H locs hp w => ?_)
  have w : Wd D A s.heap [(a0, .inr (12, [.ref a1, .ref a2, .ref a3, .ref a4, .ref a5, .int 0, .ref a6, .int 0, .int 0, .int 0, .int 0, .int 0, .int 0, .int 0, .int 0, .int 0, .int 0, .int (-1), .ref a7, .ref a8, .int 0, .ref a9, .int 0, .ref a10, .ref a11, .ref a12, .ref a13, .ref a14, .int 0, .ref a15, .ref a16, .ref a17])), (a15, .inl (cy 1, 4, .inl (upd (upd (upd (upd (fun _ => 0) 0 (-1)) 1 (-1)) 2 (-1)) 3 (-1)))), (a16, .inl (cy 1, 4, .inl (fun _ => 0))), (a17, .inl (cy 2, 160, .inr (.inl (fun _ => 0))))] _ _ := w
  refine r_top (g2 := F0 m 33 ls [.int 1, .ref a0]) rfl ?_
  refine b_if_ne_t C (tgt := 40) dX12_tray_33 (by decide) (by decide) ?_
  refine lv_iconst (v := 0) C.1 C.2.1 dX12_tray_40 (by decide) ?_
  refine r_put C w 0 rfl rfl 5 (by decide) fl_RX12_71 rfl (ty := .int) (tyX12_ok 5 (by decide)) rfl rfl (Nat.le_of_ble_eq_true rfl) [(a0, .inr (12, [.ref a1, .ref a2, .ref a3, .ref a4, .ref a5, .int 0, .ref a6, .int 0, .int 0, .int 0, .int 0, .int 0, .int 0, .int 0, .int 0, .int 0, .int 0, .int (-1), .ref a7, .ref a8, .int 0, .ref a9, .int 0, .ref a10, .ref a11, .ref a12, .ref a13, .ref a14, .int 0, .ref a15, .ref a16, .ref a17])), (a15, .inl (cy 1, 4, .inl (upd (upd (upd (upd (fun _ => 0) 0 (-1)) 1 (-1)) 2 (-1)) 3 (-1)))), (a16, .inl (cy 1, 4, .inl (fun _ => 0))), (a17, .inl (cy 2, 160, .inr (.inl (fun _ => 0))))] rfl dX12_tray_41 (fun H locs w => ?_)
  refine lv_aload_n C.1 C.2.1 dX12_tray_44 rfl (lv_at hl 0 rfl) ?_
  refine r_get C w 0 rfl rfl 5 (by decide) fl_RX12_71 (v := .int 0) rfl dX12_tray_45 ?_
  refine b_if_le_t C (tgt := 52) dX12_tray_48 (by decide) (by decide) ?_
  refine lv_aload_n C.1 C.2.1 dX12_tray_52 rfl (lv_at hl 0 rfl) ?_
  refine r_get C w 0 rfl rfl 29 (by decide) fl_RX12_58 (v := .ref a15) rfl dX12_tray_53 ?_
  refine lv_iload_n C.1 C.2.1 dX12_tray_56 rfl (lv_at hl 1 rfl) ?_
  refine lv_iload_n C.1 C.2.1 dX12_tray_57 rfl (lv_at hl 2 rfl) ?_
  refine r_iast C w 1 rfl (vinD (by decide)) (upd (upd (upd (upd (upd (fun _ => 0) 0 (-1)) 1 (-1)) 2 (-1)) 3 (-1)) 1 x1) rfl [(a0, .inr (12, [.ref a1, .ref a2, .ref a3, .ref a4, .ref a5, .int 0, .ref a6, .int 0, .int 0, .int 0, .int 0, .int 0, .int 0, .int 0, .int 0, .int 0, .int 0, .int (-1), .ref a7, .ref a8, .int 0, .ref a9, .int 0, .ref a10, .ref a11, .ref a12, .ref a13, .ref a14, .int 0, .ref a15, .ref a16, .ref a17])), (a15, .inl (cy 1, 4, .inl (upd (upd (upd (upd (upd (fun _ => 0) 0 (-1)) 1 (-1)) 2 (-1)) 3 (-1)) 1 x1))), (a16, .inl (cy 1, 4, .inl (fun _ => 0))), (a17, .inl (cy 2, 160, .inr (.inl (fun _ => 0))))] rfl dX12_tray_58 (fun H locs w => ?_)
  refine lv_aload_n C.1 C.2.1 dX12_tray_59 rfl (lv_at hl 0 rfl) ?_
  refine r_get C w 0 rfl rfl 30 (by decide) fl_RX12_61 (v := .ref a16) rfl dX12_tray_60 ?_
  refine lv_iload_n C.1 C.2.1 dX12_tray_63 rfl (lv_at hl 1 rfl) ?_
  refine lv_iload_n C.1 C.2.1 dX12_tray_64 rfl (lv_at hl 3 rfl) ?_
  refine r_iast C w 2 rfl (vinD (by decide)) (upd (fun _ => 0) 1 x2) rfl [(a0, .inr (12, [.ref a1, .ref a2, .ref a3, .ref a4, .ref a5, .int 0, .ref a6, .int 0, .int 0, .int 0, .int 0, .int 0, .int 0, .int 0, .int 0, .int 0, .int 0, .int (-1), .ref a7, .ref a8, .int 0, .ref a9, .int 0, .ref a10, .ref a11, .ref a12, .ref a13, .ref a14, .int 0, .ref a15, .ref a16, .ref a17])), (a15, .inl (cy 1, 4, .inl (upd (upd (upd (upd (upd (fun _ => 0) 0 (-1)) 1 (-1)) 2 (-1)) 3 (-1)) 1 x1))), (a16, .inl (cy 1, 4, .inl (upd (fun _ => 0) 1 x2))), (a17, .inl (cy 2, 160, .inr (.inl (fun _ => 0))))] rfl dX12_tray_65 (fun H locs w => ?_)
  refine lv_iconst (v := 0) C.1 C.2.1 dX12_tray_66 (by decide) ?_
  refine lv_istore (lv' := [(4, .int 0), (0, .ref a0), (1, .int 1), (2, .int x1), (3, .int x2)]) C.1 C.2.1 dX12_tray_67 hl (by decide) rfl (fun ls hl => ?_)
  refine lv_iload C.1 C.2.1 dX12_tray_69 (lv_at hl 0 rfl) ?_
  refine lv_bipush (v := 40) C.1 C.2.1 dX12_tray_71 (by decide) ?_
  refine b_icmp_ge_f C (tgt := 95) dX12_tray_73 (by decide) (by decide) ?_
  refine lv_aload_n C.1 C.2.1 dX12_tray_76 rfl (lv_at hl 1 rfl) ?_
  refine r_get C w 0 rfl rfl 31 (by decide) fl_RX12_64 (v := .ref a17) rfl dX12_tray_77 ?_
  refine lv_bipush (v := 40) C.1 C.2.1 dX12_tray_80 (by decide) ?_
  refine lv_iload_n C.1 C.2.1 dX12_tray_82 rfl (lv_at hl 2 rfl) ?_
  refine r_imul C (v := 40) dX12_tray_83 (by decide) ?_
  refine lv_iload C.1 C.2.1 dX12_tray_84 (lv_at hl 0 rfl) ?_
  refine r_iadd C (v := 40) dX12_tray_86 (by decide) ?_
  refine lv_lconst (v := 0) C.1 C.2.1 dX12_tray_87 (by decide) ?_
  refine r_last C w 3 rfl (vinD (by decide)) (vp_updL (fun _ => 0) 40 0) rfl [(a0, .inr (12, [.ref a1, .ref a2, .ref a3, .ref a4, .ref a5, .int 0, .ref a6, .int 0, .int 0, .int 0, .int 0, .int 0, .int 0, .int 0, .int 0, .int 0, .int 0, .int (-1), .ref a7, .ref a8, .int 0, .ref a9, .int 0, .ref a10, .ref a11, .ref a12, .ref a13, .ref a14, .int 0, .ref a15, .ref a16, .ref a17])), (a15, .inl (cy 1, 4, .inl (upd (upd (upd (upd (upd (fun _ => 0) 0 (-1)) 1 (-1)) 2 (-1)) 3 (-1)) 1 x1))), (a16, .inl (cy 1, 4, .inl (upd (fun _ => 0) 1 x2))), (a17, .inl (cy 2, 160, .inr (.inl (vp_updL (fun _ => 0) 40 0))))] rfl dX12_tray_88 (fun H locs w => ?_)
  refine lv_iinc (v := 1) (lv' := [(4, .int 1), (0, .ref a0), (1, .int 1), (2, .int x1), (3, .int x2)]) C.1 C.2.1 dX12_tray_89 hl (k := 0) rfl (by decide) (by decide) rfl (fun ls hl => ?_)
  refine lv_goto (tgt := 69) C.1 C.2.1 dX12_tray_92 (by decide) ?_
  refine lv_iload C.1 C.2.1 dX12_tray_69 (lv_at hl 0 rfl) ?_
  refine lv_bipush (v := 40) C.1 C.2.1 dX12_tray_71 (by decide) ?_
  refine b_icmp_ge_f C (tgt := 95) dX12_tray_73 (by decide) (by decide) ?_
  refine lv_aload_n C.1 C.2.1 dX12_tray_76 rfl (lv_at hl 1 rfl) ?_
  refine r_get C w 0 rfl rfl 31 (by decide) fl_RX12_64 (v := .ref a17) rfl dX12_tray_77 ?_
  refine lv_bipush (v := 40) C.1 C.2.1 dX12_tray_80 (by decide) ?_
  refine lv_iload_n C.1 C.2.1 dX12_tray_82 rfl (lv_at hl 2 rfl) ?_
  refine r_imul C (v := 40) dX12_tray_83 (by decide) ?_
  refine lv_iload C.1 C.2.1 dX12_tray_84 (lv_at hl 0 rfl) ?_
  refine r_iadd C (v := 41) dX12_tray_86 (by decide) ?_
  refine lv_lconst (v := 0) C.1 C.2.1 dX12_tray_87 (by decide) ?_
  refine r_last C w 3 rfl (vinD (by decide)) (vp_updL (vp_updL (fun _ => 0) 40 0) 41 0) rfl [(a0, .inr (12, [.ref a1, .ref a2, .ref a3, .ref a4, .ref a5, .int 0, .ref a6, .int 0, .int 0, .int 0, .int 0, .int 0, .int 0, .int 0, .int 0, .int 0, .int 0, .int (-1), .ref a7, .ref a8, .int 0, .ref a9, .int 0, .ref a10, .ref a11, .ref a12, .ref a13, .ref a14, .int 0, .ref a15, .ref a16, .ref a17])), (a15, .inl (cy 1, 4, .inl (upd (upd (upd (upd (upd (fun _ => 0) 0 (-1)) 1 (-1)) 2 (-1)) 3 (-1)) 1 x1))), (a16, .inl (cy 1, 4, .inl (upd (fun _ => 0) 1 x2))), (a17, .inl (cy 2, 160, .inr (.inl (vp_updL (vp_updL (fun _ => 0) 40 0) 41 0))))] rfl dX12_tray_88 (fun H locs w => ?_)
  refine lv_iinc (v := 2) (lv' := [(4, .int 2), (0, .ref a0), (1, .int 1), (2, .int x1), (3, .int x2)]) C.1 C.2.1 dX12_tray_89 hl (k := 0) rfl (by decide) (by decide) rfl (fun ls hl => ?_)
  refine lv_goto (tgt := 69) C.1 C.2.1 dX12_tray_92 (by decide) ?_
  refine lv_iload C.1 C.2.1 dX12_tray_69 (lv_at hl 0 rfl) ?_
  refine lv_bipush (v := 40) C.1 C.2.1 dX12_tray_71 (by decide) ?_
  refine b_icmp_ge_f C (tgt := 95) dX12_tray_73 (by decide) (by decide) ?_
  refine lv_aload_n C.1 C.2.1 dX12_tray_76 rfl (lv_at hl 1 rfl) ?_
  refine r_get C w 0 rfl rfl 31 (by decide) fl_RX12_64 (v := .ref a17) rfl dX12_tray_77 ?_
  refine lv_bipush (v := 40) C.1 C.2.1 dX12_tray_80 (by decide) ?_
  refine lv_iload_n C.1 C.2.1 dX12_tray_82 rfl (lv_at hl 2 rfl) ?_
  refine r_imul C (v := 40) dX12_tray_83 (by decide) ?_
  refine lv_iload C.1 C.2.1 dX12_tray_84 (lv_at hl 0 rfl) ?_
  refine r_iadd C (v := 42) dX12_tray_86 (by decide) ?_
  refine lv_lconst (v := 0) C.1 C.2.1 dX12_tray_87 (by decide) ?_
  refine r_last C w 3 rfl (vinD (by decide)) (vp_updL (vp_updL (vp_updL (fun _ => 0) 40 0) 41 0) 42 0) rfl [(a0, .inr (12, [.ref a1, .ref a2, .ref a3, .ref a4, .ref a5, .int 0, .ref a6, .int 0, .int 0, .int 0, .int 0, .int 0, .int 0, .int 0, .int 0, .int 0, .int 0, .int (-1), .ref a7, .ref a8, .int 0, .ref a9, .int 0, .ref a10, .ref a11, .ref a12, .ref a13, .ref a14, .int 0, .ref a15, .ref a16, .ref a17])), (a15, .inl (cy 1, 4, .inl (upd (upd (upd (upd (upd (fun _ => 0) 0 (-1)) 1 (-1)) 2 (-1)) 3 (-1)) 1 x1))), (a16, .inl (cy 1, 4, .inl (upd (fun _ => 0) 1 x2))), (a17, .inl (cy 2, 160, .inr (.inl (vp_updL (vp_updL (vp_updL (fun _ => 0) 40 0) 41 0) 42 0))))] rfl dX12_tray_88 (fun H locs w => ?_)
  refine lv_iinc (v := 3) (lv' := [(4, .int 3), (0, .ref a0), (1, .int 1), (2, .int x1), (3, .int x2)]) C.1 C.2.1 dX12_tray_89 hl (k := 0) rfl (by decide) (by decide) rfl (fun ls hl => ?_)
  refine lv_goto (tgt := 69) C.1 C.2.1 dX12_tray_92 (by decide) ?_
  refine lv_iload C.1 C.2.1 dX12_tray_69 (lv_at hl 0 rfl) ?_
  refine lv_bipush (v := 40) C.1 C.2.1 dX12_tray_71 (by decide) ?_
  refine b_icmp_ge_f C (tgt := 95) dX12_tray_73 (by decide) (by decide) ?_
  refine lv_aload_n C.1 C.2.1 dX12_tray_76 rfl (lv_at hl 1 rfl) ?_
  refine r_get C w 0 rfl rfl 31 (by decide) fl_RX12_64 (v := .ref a17) rfl dX12_tray_77 ?_
  refine lv_bipush (v := 40) C.1 C.2.1 dX12_tray_80 (by decide) ?_
  refine lv_iload_n C.1 C.2.1 dX12_tray_82 rfl (lv_at hl 2 rfl) ?_
  refine r_imul C (v := 40) dX12_tray_83 (by decide) ?_
  refine lv_iload C.1 C.2.1 dX12_tray_84 (lv_at hl 0 rfl) ?_
  refine r_iadd C (v := 43) dX12_tray_86 (by decide) ?_
  refine lv_lconst (v := 0) C.1 C.2.1 dX12_tray_87 (by decide) ?_
  refine r_last C w 3 rfl (vinD (by decide)) (vp_updL (vp_updL (vp_updL (vp_updL (fun _ => 0) 40 0) 41 0) 42 0) 43 0) rfl [(a0, .inr (12, [.ref a1, .ref a2, .ref a3, .ref a4, .ref a5, .int 0, .ref a6, .int 0, .int 0, .int 0, .int 0, .int 0, .int 0, .int 0, .int 0, .int 0, .int 0, .int (-1), .ref a7, .ref a8, .int 0, .ref a9, .int 0, .ref a10, .ref a11, .ref a12, .ref a13, .ref a14, .int 0, .ref a15, .ref a16, .ref a17])), (a15, .inl (cy 1, 4, .inl (upd (upd (upd (upd (upd (fun _ => 0) 0 (-1)) 1 (-1)) 2 (-1)) 3 (-1)) 1 x1))), (a16, .inl (cy 1, 4, .inl (upd (fun _ => 0) 1 x2))), (a17, .inl (cy 2, 160, .inr (.inl (vp_updL (vp_updL (vp_updL (vp_updL (fun _ => 0) 40 0) 41 0) 42 0) 43 0))))] rfl dX12_tray_88 (fun H locs w => ?_)
  refine lv_iinc (v := 4) (lv' := [(4, .int 4), (0, .ref a0), (1, .int 1), (2, .int x1), (3, .int x2)]) C.1 C.2.1 dX12_tray_89 hl (k := 0) rfl (by decide) (by decide) rfl (fun ls hl => ?_)
  refine lv_goto (tgt := 69) C.1 C.2.1 dX12_tray_92 (by decide) ?_
  refine lv_iload C.1 C.2.1 dX12_tray_69 (lv_at hl 0 rfl) ?_
  refine lv_bipush (v := 40) C.1 C.2.1 dX12_tray_71 (by decide) ?_
  refine b_icmp_ge_f C (tgt := 95) dX12_tray_73 (by decide) (by decide) ?_
  refine lv_aload_n C.1 C.2.1 dX12_tray_76 rfl (lv_at hl 1 rfl) ?_
  refine r_get C w 0 rfl rfl 31 (by decide) fl_RX12_64 (v := .ref a17) rfl dX12_tray_77 ?_
  refine lv_bipush (v := 40) C.1 C.2.1 dX12_tray_80 (by decide) ?_
  refine lv_iload_n C.1 C.2.1 dX12_tray_82 rfl (lv_at hl 2 rfl) ?_
  refine r_imul C (v := 40) dX12_tray_83 (by decide) ?_
  refine lv_iload C.1 C.2.1 dX12_tray_84 (lv_at hl 0 rfl) ?_
  refine r_iadd C (v := 44) dX12_tray_86 (by decide) ?_
  refine lv_lconst (v := 0) C.1 C.2.1 dX12_tray_87 (by decide) ?_
  refine r_last C w 3 rfl (vinD (by decide)) (vp_updL (vp_updL (vp_updL (vp_updL (vp_updL (fun _ => 0) 40 0) 41 0) 42 0) 43 0) 44 0) rfl [(a0, .inr (12, [.ref a1, .ref a2, .ref a3, .ref a4, .ref a5, .int 0, .ref a6, .int 0, .int 0, .int 0, .int 0, .int 0, .int 0, .int 0, .int 0, .int 0, .int 0, .int (-1), .ref a7, .ref a8, .int 0, .ref a9, .int 0, .ref a10, .ref a11, .ref a12, .ref a13, .ref a14, .int 0, .ref a15, .ref a16, .ref a17])), (a15, .inl (cy 1, 4, .inl (upd (upd (upd (upd (upd (fun _ => 0) 0 (-1)) 1 (-1)) 2 (-1)) 3 (-1)) 1 x1))), (a16, .inl (cy 1, 4, .inl (upd (fun _ => 0) 1 x2))), (a17, .inl (cy 2, 160, .inr (.inl (vp_updL (vp_updL (vp_updL (vp_updL (vp_updL (fun _ => 0) 40 0) 41 0) 42 0) 43 0) 44 0))))] rfl dX12_tray_88 (fun H locs w => ?_)
  refine lv_iinc (v := 5) (lv' := [(4, .int 5), (0, .ref a0), (1, .int 1), (2, .int x1), (3, .int x2)]) C.1 C.2.1 dX12_tray_89 hl (k := 0) rfl (by decide) (by decide) rfl (fun ls hl => ?_)
  refine lv_goto (tgt := 69) C.1 C.2.1 dX12_tray_92 (by decide) ?_
  refine lv_iload C.1 C.2.1 dX12_tray_69 (lv_at hl 0 rfl) ?_
  refine lv_bipush (v := 40) C.1 C.2.1 dX12_tray_71 (by decide) ?_
  refine b_icmp_ge_f C (tgt := 95) dX12_tray_73 (by decide) (by decide) ?_
  refine lv_aload_n C.1 C.2.1 dX12_tray_76 rfl (lv_at hl 1 rfl) ?_
  refine r_get C w 0 rfl rfl 31 (by decide) fl_RX12_64 (v := .ref a17) rfl dX12_tray_77 ?_
  refine lv_bipush (v := 40) C.1 C.2.1 dX12_tray_80 (by decide) ?_
  refine lv_iload_n C.1 C.2.1 dX12_tray_82 rfl (lv_at hl 2 rfl) ?_
  refine r_imul C (v := 40) dX12_tray_83 (by decide) ?_
  refine lv_iload C.1 C.2.1 dX12_tray_84 (lv_at hl 0 rfl) ?_
  refine r_iadd C (v := 45) dX12_tray_86 (by decide) ?_
  refine lv_lconst (v := 0) C.1 C.2.1 dX12_tray_87 (by decide) ?_
  refine r_last C w 3 rfl (vinD (by decide)) (vp_updL (vp_updL (vp_updL (vp_updL (vp_updL (vp_updL (fun _ => 0) 40 0) 41 0) 42 0) 43 0) 44 0) 45 0) rfl [(a0, .inr (12, [.ref a1, .ref a2, .ref a3, .ref a4, .ref a5, .int 0, .ref a6, .int 0, .int 0, .int 0, .int 0, .int 0, .int 0, .int 0, .int 0, .int 0, .int 0, .int (-1), .ref a7, .ref a8, .int 0, .ref a9, .int 0, .ref a10, .ref a11, .ref a12, .ref a13, .ref a14, .int 0, .ref a15, .ref a16, .ref a17])), (a15, .inl (cy 1, 4, .inl (upd (upd (upd (upd (upd (fun _ => 0) 0 (-1)) 1 (-1)) 2 (-1)) 3 (-1)) 1 x1))), (a16, .inl (cy 1, 4, .inl (upd (fun _ => 0) 1 x2))), (a17, .inl (cy 2, 160, .inr (.inl (vp_updL (vp_updL (vp_updL (vp_updL (vp_updL (vp_updL (fun _ => 0) 40 0) 41 0) 42 0) 43 0) 44 0) 45 0))))] rfl dX12_tray_88 (fun H locs w => ?_)
  refine lv_iinc (v := 6) (lv' := [(4, .int 6), (0, .ref a0), (1, .int 1), (2, .int x1), (3, .int x2)]) C.1 C.2.1 dX12_tray_89 hl (k := 0) rfl (by decide) (by decide) rfl (fun ls hl => ?_)
  refine lv_goto (tgt := 69) C.1 C.2.1 dX12_tray_92 (by decide) ?_
  refine lv_iload C.1 C.2.1 dX12_tray_69 (lv_at hl 0 rfl) ?_
  refine lv_bipush (v := 40) C.1 C.2.1 dX12_tray_71 (by decide) ?_
  refine b_icmp_ge_f C (tgt := 95) dX12_tray_73 (by decide) (by decide) ?_
  refine lv_aload_n C.1 C.2.1 dX12_tray_76 rfl (lv_at hl 1 rfl) ?_
  refine r_get C w 0 rfl rfl 31 (by decide) fl_RX12_64 (v := .ref a17) rfl dX12_tray_77 ?_
  refine lv_bipush (v := 40) C.1 C.2.1 dX12_tray_80 (by decide) ?_
  refine lv_iload_n C.1 C.2.1 dX12_tray_82 rfl (lv_at hl 2 rfl) ?_
  refine r_imul C (v := 40) dX12_tray_83 (by decide) ?_
  refine lv_iload C.1 C.2.1 dX12_tray_84 (lv_at hl 0 rfl) ?_
  refine r_iadd C (v := 46) dX12_tray_86 (by decide) ?_
  refine lv_lconst (v := 0) C.1 C.2.1 dX12_tray_87 (by decide) ?_
  refine r_last C w 3 rfl (vinD (by decide)) (vp_updL (vp_updL (vp_updL (vp_updL (vp_updL (vp_updL (vp_updL (fun _ => 0) 40 0) 41 0) 42 0) 43 0) 44 0) 45 0) 46 0) rfl [(a0, .inr (12, [.ref a1, .ref a2, .ref a3, .ref a4, .ref a5, .int 0, .ref a6, .int 0, .int 0, .int 0, .int 0, .int 0, .int 0, .int 0, .int 0, .int 0, .int 0, .int (-1), .ref a7, .ref a8, .int 0, .ref a9, .int 0, .ref a10, .ref a11, .ref a12, .ref a13, .ref a14, .int 0, .ref a15, .ref a16, .ref a17])), (a15, .inl (cy 1, 4, .inl (upd (upd (upd (upd (upd (fun _ => 0) 0 (-1)) 1 (-1)) 2 (-1)) 3 (-1)) 1 x1))), (a16, .inl (cy 1, 4, .inl (upd (fun _ => 0) 1 x2))), (a17, .inl (cy 2, 160, .inr (.inl (vp_updL (vp_updL (vp_updL (vp_updL (vp_updL (vp_updL (vp_updL (fun _ => 0) 40 0) 41 0) 42 0) 43 0) 44 0) 45 0) 46 0))))] rfl dX12_tray_88 (fun H locs w => ?_)
  refine lv_iinc (v := 7) (lv' := [(4, .int 7), (0, .ref a0), (1, .int 1), (2, .int x1), (3, .int x2)]) C.1 C.2.1 dX12_tray_89 hl (k := 0) rfl (by decide) (by decide) rfl (fun ls hl => ?_)
  refine lv_goto (tgt := 69) C.1 C.2.1 dX12_tray_92 (by decide) ?_
  refine lv_iload C.1 C.2.1 dX12_tray_69 (lv_at hl 0 rfl) ?_
  refine lv_bipush (v := 40) C.1 C.2.1 dX12_tray_71 (by decide) ?_
  refine b_icmp_ge_f C (tgt := 95) dX12_tray_73 (by decide) (by decide) ?_
  refine lv_aload_n C.1 C.2.1 dX12_tray_76 rfl (lv_at hl 1 rfl) ?_
  refine r_get C w 0 rfl rfl 31 (by decide) fl_RX12_64 (v := .ref a17) rfl dX12_tray_77 ?_
  refine lv_bipush (v := 40) C.1 C.2.1 dX12_tray_80 (by decide) ?_
  refine lv_iload_n C.1 C.2.1 dX12_tray_82 rfl (lv_at hl 2 rfl) ?_
  refine r_imul C (v := 40) dX12_tray_83 (by decide) ?_
  refine lv_iload C.1 C.2.1 dX12_tray_84 (lv_at hl 0 rfl) ?_
  refine r_iadd C (v := 47) dX12_tray_86 (by decide) ?_
  refine lv_lconst (v := 0) C.1 C.2.1 dX12_tray_87 (by decide) ?_
  refine r_last C w 3 rfl (vinD (by decide)) (vp_updL (vp_updL (vp_updL (vp_updL (vp_updL (vp_updL (vp_updL (vp_updL (fun _ => 0) 40 0) 41 0) 42 0) 43 0) 44 0) 45 0) 46 0) 47 0) rfl [(a0, .inr (12, [.ref a1, .ref a2, .ref a3, .ref a4, .ref a5, .int 0, .ref a6, .int 0, .int 0, .int 0, .int 0, .int 0, .int 0, .int 0, .int 0, .int 0, .int 0, .int (-1), .ref a7, .ref a8, .int 0, .ref a9, .int 0, .ref a10, .ref a11, .ref a12, .ref a13, .ref a14, .int 0, .ref a15, .ref a16, .ref a17])), (a15, .inl (cy 1, 4, .inl (upd (upd (upd (upd (upd (fun _ => 0) 0 (-1)) 1 (-1)) 2 (-1)) 3 (-1)) 1 x1))), (a16, .inl (cy 1, 4, .inl (upd (fun _ => 0) 1 x2))), (a17, .inl (cy 2, 160, .inr (.inl (vp_updL (vp_updL (vp_updL (vp_updL (vp_updL (vp_updL (vp_updL (vp_updL (fun _ => 0) 40 0) 41 0) 42 0) 43 0) 44 0) 45 0) 46 0) 47 0))))] rfl dX12_tray_88 (fun H locs w => ?_)
  refine lv_iinc (v := 8) (lv' := [(4, .int 8), (0, .ref a0), (1, .int 1), (2, .int x1), (3, .int x2)]) C.1 C.2.1 dX12_tray_89 hl (k := 0) rfl (by decide) (by decide) rfl (fun ls hl => ?_)
  refine lv_goto (tgt := 69) C.1 C.2.1 dX12_tray_92 (by decide) ?_
  refine lv_iload C.1 C.2.1 dX12_tray_69 (lv_at hl 0 rfl) ?_
  refine lv_bipush (v := 40) C.1 C.2.1 dX12_tray_71 (by decide) ?_
  refine b_icmp_ge_f C (tgt := 95) dX12_tray_73 (by decide) (by decide) ?_
  refine lv_aload_n C.1 C.2.1 dX12_tray_76 rfl (lv_at hl 1 rfl) ?_
  refine r_get C w 0 rfl rfl 31 (by decide) fl_RX12_64 (v := .ref a17) rfl dX12_tray_77 ?_
  refine lv_bipush (v := 40) C.1 C.2.1 dX12_tray_80 (by decide) ?_
  refine lv_iload_n C.1 C.2.1 dX12_tray_82 rfl (lv_at hl 2 rfl) ?_
  refine r_imul C (v := 40) dX12_tray_83 (by decide) ?_
  refine lv_iload C.1 C.2.1 dX12_tray_84 (lv_at hl 0 rfl) ?_
  refine r_iadd C (v := 48) dX12_tray_86 (by decide) ?_
  refine lv_lconst (v := 0) C.1 C.2.1 dX12_tray_87 (by decide) ?_
  refine r_last C w 3 rfl (vinD (by decide)) (vp_updL (vp_updL (vp_updL (vp_updL (vp_updL (vp_updL (vp_updL (vp_updL (vp_updL (fun _ => 0) 40 0) 41 0) 42 0) 43 0) 44 0) 45 0) 46 0) 47 0) 48 0) rfl [(a0, .inr (12, [.ref a1, .ref a2, .ref a3, .ref a4, .ref a5, .int 0, .ref a6, .int 0, .int 0, .int 0, .int 0, .int 0, .int 0, .int 0, .int 0, .int 0, .int 0, .int (-1), .ref a7, .ref a8, .int 0, .ref a9, .int 0, .ref a10, .ref a11, .ref a12, .ref a13, .ref a14, .int 0, .ref a15, .ref a16, .ref a17])), (a15, .inl (cy 1, 4, .inl (upd (upd (upd (upd (upd (fun _ => 0) 0 (-1)) 1 (-1)) 2 (-1)) 3 (-1)) 1 x1))), (a16, .inl (cy 1, 4, .inl (upd (fun _ => 0) 1 x2))), (a17, .inl (cy 2, 160, .inr (.inl (vp_updL (vp_updL (vp_updL (vp_updL (vp_updL (vp_updL (vp_updL (vp_updL (vp_updL (fun _ => 0) 40 0) 41 0) 42 0) 43 0) 44 0) 45 0) 46 0) 47 0) 48 0))))] rfl dX12_tray_88 (fun H locs w => ?_)
  refine lv_iinc (v := 9) (lv' := [(4, .int 9), (0, .ref a0), (1, .int 1), (2, .int x1), (3, .int x2)]) C.1 C.2.1 dX12_tray_89 hl (k := 0) rfl (by decide) (by decide) rfl (fun ls hl => ?_)
  refine lv_goto (tgt := 69) C.1 C.2.1 dX12_tray_92 (by decide) ?_
  refine lv_iload C.1 C.2.1 dX12_tray_69 (lv_at hl 0 rfl) ?_
  refine lv_bipush (v := 40) C.1 C.2.1 dX12_tray_71 (by decide) ?_
  refine b_icmp_ge_f C (tgt := 95) dX12_tray_73 (by decide) (by decide) ?_
  refine lv_aload_n C.1 C.2.1 dX12_tray_76 rfl (lv_at hl 1 rfl) ?_
  refine r_get C w 0 rfl rfl 31 (by decide) fl_RX12_64 (v := .ref a17) rfl dX12_tray_77 ?_
  refine lv_bipush (v := 40) C.1 C.2.1 dX12_tray_80 (by decide) ?_
  refine lv_iload_n C.1 C.2.1 dX12_tray_82 rfl (lv_at hl 2 rfl) ?_
  refine r_imul C (v := 40) dX12_tray_83 (by decide) ?_
  refine lv_iload C.1 C.2.1 dX12_tray_84 (lv_at hl 0 rfl) ?_
  refine r_iadd C (v := 49) dX12_tray_86 (by decide) ?_
  refine lv_lconst (v := 0) C.1 C.2.1 dX12_tray_87 (by decide) ?_
  refine r_last C w 3 rfl (vinD (by decide)) (vp_updL (vp_updL (vp_updL (vp_updL (vp_updL (vp_updL (vp_updL (vp_updL (vp_updL (vp_updL (fun _ => 0) 40 0) 41 0) 42 0) 43 0) 44 0) 45 0) 46 0) 47 0) 48 0) 49 0) rfl [(a0, .inr (12, [.ref a1, .ref a2, .ref a3, .ref a4, .ref a5, .int 0, .ref a6, .int 0, .int 0, .int 0, .int 0, .int 0, .int 0, .int 0, .int 0, .int 0, .int 0, .int (-1), .ref a7, .ref a8, .int 0, .ref a9, .int 0, .ref a10, .ref a11, .ref a12, .ref a13, .ref a14, .int 0, .ref a15, .ref a16, .ref a17])), (a15, .inl (cy 1, 4, .inl (upd (upd (upd (upd (upd (fun _ => 0) 0 (-1)) 1 (-1)) 2 (-1)) 3 (-1)) 1 x1))), (a16, .inl (cy 1, 4, .inl (upd (fun _ => 0) 1 x2))), (a17, .inl (cy 2, 160, .inr (.inl (vp_updL (vp_updL (vp_updL (vp_updL (vp_updL (vp_updL (vp_updL (vp_updL (vp_updL (vp_updL (fun _ => 0) 40 0) 41 0) 42 0) 43 0) 44 0) 45 0) 46 0) 47 0) 48 0) 49 0))))] rfl dX12_tray_88 (fun H locs w => ?_)
  refine lv_iinc (v := 10) (lv' := [(4, .int 10), (0, .ref a0), (1, .int 1), (2, .int x1), (3, .int x2)]) C.1 C.2.1 dX12_tray_89 hl (k := 0) rfl (by decide) (by decide) rfl (fun ls hl => ?_)
  refine lv_goto (tgt := 69) C.1 C.2.1 dX12_tray_92 (by decide) ?_
  refine lv_iload C.1 C.2.1 dX12_tray_69 (lv_at hl 0 rfl) ?_
  refine lv_bipush (v := 40) C.1 C.2.1 dX12_tray_71 (by decide) ?_
  refine b_icmp_ge_f C (tgt := 95) dX12_tray_73 (by decide) (by decide) ?_
  refine lv_aload_n C.1 C.2.1 dX12_tray_76 rfl (lv_at hl 1 rfl) ?_
  refine r_get C w 0 rfl rfl 31 (by decide) fl_RX12_64 (v := .ref a17) rfl dX12_tray_77 ?_
  refine lv_bipush (v := 40) C.1 C.2.1 dX12_tray_80 (by decide) ?_
  refine lv_iload_n C.1 C.2.1 dX12_tray_82 rfl (lv_at hl 2 rfl) ?_
  refine r_imul C (v := 40) dX12_tray_83 (by decide) ?_
  refine lv_iload C.1 C.2.1 dX12_tray_84 (lv_at hl 0 rfl) ?_
  refine r_iadd C (v := 50) dX12_tray_86 (by decide) ?_
  refine lv_lconst (v := 0) C.1 C.2.1 dX12_tray_87 (by decide) ?_
  refine r_last C w 3 rfl (vinD (by decide)) (vp_updL (vp_updL (vp_updL (vp_updL (vp_updL (vp_updL (vp_updL (vp_updL (vp_updL (vp_updL (vp_updL (fun _ => 0) 40 0) 41 0) 42 0) 43 0) 44 0) 45 0) 46 0) 47 0) 48 0) 49 0) 50 0) rfl [(a0, .inr (12, [.ref a1, .ref a2, .ref a3, .ref a4, .ref a5, .int 0, .ref a6, .int 0, .int 0, .int 0, .int 0, .int 0, .int 0, .int 0, .int 0, .int 0, .int 0, .int (-1), .ref a7, .ref a8, .int 0, .ref a9, .int 0, .ref a10, .ref a11, .ref a12, .ref a13, .ref a14, .int 0, .ref a15, .ref a16, .ref a17])), (a15, .inl (cy 1, 4, .inl (upd (upd (upd (upd (upd (fun _ => 0) 0 (-1)) 1 (-1)) 2 (-1)) 3 (-1)) 1 x1))), (a16, .inl (cy 1, 4, .inl (upd (fun _ => 0) 1 x2))), (a17, .inl (cy 2, 160, .inr (.inl (vp_updL (vp_updL (vp_updL (vp_updL (vp_updL (vp_updL (vp_updL (vp_updL (vp_updL (vp_updL (vp_updL (fun _ => 0) 40 0) 41 0) 42 0) 43 0) 44 0) 45 0) 46 0) 47 0) 48 0) 49 0) 50 0))))] rfl dX12_tray_88 (fun H locs w => ?_)
  refine lv_iinc (v := 11) (lv' := [(4, .int 11), (0, .ref a0), (1, .int 1), (2, .int x1), (3, .int x2)]) C.1 C.2.1 dX12_tray_89 hl (k := 0) rfl (by decide) (by decide) rfl (fun ls hl => ?_)
  refine lv_goto (tgt := 69) C.1 C.2.1 dX12_tray_92 (by decide) ?_
  refine lv_iload C.1 C.2.1 dX12_tray_69 (lv_at hl 0 rfl) ?_
  refine lv_bipush (v := 40) C.1 C.2.1 dX12_tray_71 (by decide) ?_
  refine b_icmp_ge_f C (tgt := 95) dX12_tray_73 (by decide) (by decide) ?_
  refine lv_aload_n C.1 C.2.1 dX12_tray_76 rfl (lv_at hl 1 rfl) ?_
  refine r_get C w 0 rfl rfl 31 (by decide) fl_RX12_64 (v := .ref a17) rfl dX12_tray_77 ?_
  refine lv_bipush (v := 40) C.1 C.2.1 dX12_tray_80 (by decide) ?_
  refine lv_iload_n C.1 C.2.1 dX12_tray_82 rfl (lv_at hl 2 rfl) ?_
  refine r_imul C (v := 40) dX12_tray_83 (by decide) ?_
  refine lv_iload C.1 C.2.1 dX12_tray_84 (lv_at hl 0 rfl) ?_
  refine r_iadd C (v := 51) dX12_tray_86 (by decide) ?_
  refine lv_lconst (v := 0) C.1 C.2.1 dX12_tray_87 (by decide) ?_
  refine r_last C w 3 rfl (vinD (by decide)) (vp_updL (vp_updL (vp_updL (vp_updL (vp_updL (vp_updL (vp_updL (vp_updL (vp_updL (vp_updL (vp_updL (vp_updL (fun _ => 0) 40 0) 41 0) 42 0) 43 0) 44 0) 45 0) 46 0) 47 0) 48 0) 49 0) 50 0) 51 0) rfl [(a0, .inr (12, [.ref a1, .ref a2, .ref a3, .ref a4, .ref a5, .int 0, .ref a6, .int 0, .int 0, .int 0, .int 0, .int 0, .int 0, .int 0, .int 0, .int 0, .int 0, .int (-1), .ref a7, .ref a8, .int 0, .ref a9, .int 0, .ref a10, .ref a11, .ref a12, .ref a13, .ref a14, .int 0, .ref a15, .ref a16, .ref a17])), (a15, .inl (cy 1, 4, .inl (upd (upd (upd (upd (upd (fun _ => 0) 0 (-1)) 1 (-1)) 2 (-1)) 3 (-1)) 1 x1))), (a16, .inl (cy 1, 4, .inl (upd (fun _ => 0) 1 x2))), (a17, .inl (cy 2, 160, .inr (.inl (vp_updL (vp_updL (vp_updL (vp_updL (vp_updL (vp_updL (vp_updL (vp_updL (vp_updL (vp_updL (vp_updL (vp_updL (fun _ => 0) 40 0) 41 0) 42 0) 43 0) 44 0) 45 0) 46 0) 47 0) 48 0) 49 0) 50 0) 51 0))))] rfl dX12_tray_88 (fun H locs w => ?_)
  refine lv_iinc (v := 12) (lv' := [(4, .int 12), (0, .ref a0), (1, .int 1), (2, .int x1), (3, .int x2)]) C.1 C.2.1 dX12_tray_89 hl (k := 0) rfl (by decide) (by decide) rfl (fun ls hl => ?_)
  refine lv_goto (tgt := 69) C.1 C.2.1 dX12_tray_92 (by decide) ?_
  refine lv_iload C.1 C.2.1 dX12_tray_69 (lv_at hl 0 rfl) ?_
  refine lv_bipush (v := 40) C.1 C.2.1 dX12_tray_71 (by decide) ?_
  refine b_icmp_ge_f C (tgt := 95) dX12_tray_73 (by decide) (by decide) ?_
  refine lv_aload_n C.1 C.2.1 dX12_tray_76 rfl (lv_at hl 1 rfl) ?_
  refine r_get C w 0 rfl rfl 31 (by decide) fl_RX12_64 (v := .ref a17) rfl dX12_tray_77 ?_
  refine lv_bipush (v := 40) C.1 C.2.1 dX12_tray_80 (by decide) ?_
  refine lv_iload_n C.1 C.2.1 dX12_tray_82 rfl (lv_at hl 2 rfl) ?_
  refine r_imul C (v := 40) dX12_tray_83 (by decide) ?_
  refine lv_iload C.1 C.2.1 dX12_tray_84 (lv_at hl 0 rfl) ?_
  refine r_iadd C (v := 52) dX12_tray_86 (by decide) ?_
  refine lv_lconst (v := 0) C.1 C.2.1 dX12_tray_87 (by decide) ?_
  refine r_last C w 3 rfl (vinD (by decide)) (vp_updL (vp_updL (vp_updL (vp_updL (vp_updL (vp_updL (vp_updL (vp_updL (vp_updL (vp_updL (vp_updL (vp_updL (vp_updL (fun _ => 0) 40 0) 41 0) 42 0) 43 0) 44 0) 45 0) 46 0) 47 0) 48 0) 49 0) 50 0) 51 0) 52 0) rfl [(a0, .inr (12, [.ref a1, .ref a2, .ref a3, .ref a4, .ref a5, .int 0, .ref a6, .int 0, .int 0, .int 0, .int 0, .int 0, .int 0, .int 0, .int 0, .int 0, .int 0, .int (-1), .ref a7, .ref a8, .int 0, .ref a9, .int 0, .ref a10, .ref a11, .ref a12, .ref a13, .ref a14, .int 0, .ref a15, .ref a16, .ref a17])), (a15, .inl (cy 1, 4, .inl (upd (upd (upd (upd (upd (fun _ => 0) 0 (-1)) 1 (-1)) 2 (-1)) 3 (-1)) 1 x1))), (a16, .inl (cy 1, 4, .inl (upd (fun _ => 0) 1 x2))), (a17, .inl (cy 2, 160, .inr (.inl (vp_updL (vp_updL (vp_updL (vp_updL (vp_updL (vp_updL (vp_updL (vp_updL (vp_updL (vp_updL (vp_updL (vp_updL (vp_updL (fun _ => 0) 40 0) 41 0) 42 0) 43 0) 44 0) 45 0) 46 0) 47 0) 48 0) 49 0) 50 0) 51 0) 52 0))))] rfl dX12_tray_88 (fun H locs w => ?_)
  refine lv_iinc (v := 13) (lv' := [(4, .int 13), (0, .ref a0), (1, .int 1), (2, .int x1), (3, .int x2)]) C.1 C.2.1 dX12_tray_89 hl (k := 0) rfl (by decide) (by decide) rfl (fun ls hl => ?_)
  refine lv_goto (tgt := 69) C.1 C.2.1 dX12_tray_92 (by decide) ?_
  refine lv_iload C.1 C.2.1 dX12_tray_69 (lv_at hl 0 rfl) ?_
  refine lv_bipush (v := 40) C.1 C.2.1 dX12_tray_71 (by decide) ?_
  refine b_icmp_ge_f C (tgt := 95) dX12_tray_73 (by decide) (by decide) ?_
  refine lv_aload_n C.1 C.2.1 dX12_tray_76 rfl (lv_at hl 1 rfl) ?_
  refine r_get C w 0 rfl rfl 31 (by decide) fl_RX12_64 (v := .ref a17) rfl dX12_tray_77 ?_
  refine lv_bipush (v := 40) C.1 C.2.1 dX12_tray_80 (by decide) ?_
  refine lv_iload_n C.1 C.2.1 dX12_tray_82 rfl (lv_at hl 2 rfl) ?_
  refine r_imul C (v := 40) dX12_tray_83 (by decide) ?_
  refine lv_iload C.1 C.2.1 dX12_tray_84 (lv_at hl 0 rfl) ?_
  refine r_iadd C (v := 53) dX12_tray_86 (by decide) ?_
  refine lv_lconst (v := 0) C.1 C.2.1 dX12_tray_87 (by decide) ?_
  refine r_last C w 3 rfl (vinD (by decide)) (vp_updL (vp_updL (vp_updL (vp_updL (vp_updL (vp_updL (vp_updL (vp_updL (vp_updL (vp_updL (vp_updL (vp_updL (vp_updL (vp_updL (fun _ => 0) 40 0) 41 0) 42 0) 43 0) 44 0) 45 0) 46 0) 47 0) 48 0) 49 0) 50 0) 51 0) 52 0) 53 0) rfl [(a0, .inr (12, [.ref a1, .ref a2, .ref a3, .ref a4, .ref a5, .int 0, .ref a6, .int 0, .int 0, .int 0, .int 0, .int 0, .int 0, .int 0, .int 0, .int 0, .int 0, .int (-1), .ref a7, .ref a8, .int 0, .ref a9, .int 0, .ref a10, .ref a11, .ref a12, .ref a13, .ref a14, .int 0, .ref a15, .ref a16, .ref a17])), (a15, .inl (cy 1, 4, .inl (upd (upd (upd (upd (upd (fun _ => 0) 0 (-1)) 1 (-1)) 2 (-1)) 3 (-1)) 1 x1))), (a16, .inl (cy 1, 4, .inl (upd (fun _ => 0) 1 x2))), (a17, .inl (cy 2, 160, .inr (.inl (vp_updL (vp_updL (vp_updL (vp_updL (vp_updL (vp_updL (vp_updL (vp_updL (vp_updL (vp_updL (vp_updL (vp_updL (vp_updL (vp_updL (fun _ => 0) 40 0) 41 0) 42 0) 43 0) 44 0) 45 0) 46 0) 47 0) 48 0) 49 0) 50 0) 51 0) 52 0) 53 0))))] rfl dX12_tray_88 (fun H locs w => ?_)
  refine lv_iinc (v := 14) (lv' := [(4, .int 14), (0, .ref a0), (1, .int 1), (2, .int x1), (3, .int x2)]) C.1 C.2.1 dX12_tray_89 hl (k := 0) rfl (by decide) (by decide) rfl (fun ls hl => ?_)
  refine lv_goto (tgt := 69) C.1 C.2.1 dX12_tray_92 (by decide) ?_
  refine lv_iload C.1 C.2.1 dX12_tray_69 (lv_at hl 0 rfl) ?_
  refine lv_bipush (v := 40) C.1 C.2.1 dX12_tray_71 (by decide) ?_
  refine b_icmp_ge_f C (tgt := 95) dX12_tray_73 (by decide) (by decide) ?_
  refine lv_aload_n C.1 C.2.1 dX12_tray_76 rfl (lv_at hl 1 rfl) ?_
  refine r_get C w 0 rfl rfl 31 (by decide) fl_RX12_64 (v := .ref a17) rfl dX12_tray_77 ?_
  refine lv_bipush (v := 40) C.1 C.2.1 dX12_tray_80 (by decide) ?_
  refine lv_iload_n C.1 C.2.1 dX12_tray_82 rfl (lv_at hl 2 rfl) ?_
  refine r_imul C (v := 40) dX12_tray_83 (by decide) ?_
  refine lv_iload C.1 C.2.1 dX12_tray_84 (lv_at hl 0 rfl) ?_
  refine r_iadd C (v := 54) dX12_tray_86 (by decide) ?_
  refine lv_lconst (v := 0) C.1 C.2.1 dX12_tray_87 (by decide) ?_
  refine r_last C w 3 rfl (vinD (by decide)) (vp_updL (vp_updL (vp_updL (vp_updL (vp_updL (vp_updL (vp_updL (vp_updL (vp_updL (vp_updL (vp_updL (vp_updL (vp_updL (vp_updL (vp_updL (fun _ => 0) 40 0) 41 0) 42 0) 43 0) 44 0) 45 0) 46 0) 47 0) 48 0) 49 0) 50 0) 51 0) 52 0) 53 0) 54 0) rfl [(a0, .inr (12, [.ref a1, .ref a2, .ref a3, .ref a4, .ref a5, .int 0, .ref a6, .int 0, .int 0, .int 0, .int 0, .int 0, .int 0, .int 0, .int 0, .int 0, .int 0, .int (-1), .ref a7, .ref a8, .int 0, .ref a9, .int 0, .ref a10, .ref a11, .ref a12, .ref a13, .ref a14, .int 0, .ref a15, .ref a16, .ref a17])), (a15, .inl (cy 1, 4, .inl (upd (upd (upd (upd (upd (fun _ => 0) 0 (-1)) 1 (-1)) 2 (-1)) 3 (-1)) 1 x1))), (a16, .inl (cy 1, 4, .inl (upd (fun _ => 0) 1 x2))), (a17, .inl (cy 2, 160, .inr (.inl (vp_updL (vp_updL (vp_updL (vp_updL (vp_updL (vp_updL (vp_updL (vp_updL (vp_updL (vp_updL (vp_updL (vp_updL (vp_updL (vp_updL (vp_updL (fun _ => 0) 40 0) 41 0) 42 0) 43 0) 44 0) 45 0) 46 0) 47 0) 48 0) 49 0) 50 0) 51 0) 52 0) 53 0) 54 0))))] rfl dX12_tray_88 (fun H locs w => ?_)
  refine lv_iinc (v := 15) (lv' := [(4, .int 15), (0, .ref a0), (1, .int 1), (2, .int x1), (3, .int x2)]) C.1 C.2.1 dX12_tray_89 hl (k := 0) rfl (by decide) (by decide) rfl (fun ls hl => ?_)
  refine lv_goto (tgt := 69) C.1 C.2.1 dX12_tray_92 (by decide) ?_
  refine lv_iload C.1 C.2.1 dX12_tray_69 (lv_at hl 0 rfl) ?_
  refine lv_bipush (v := 40) C.1 C.2.1 dX12_tray_71 (by decide) ?_
  refine b_icmp_ge_f C (tgt := 95) dX12_tray_73 (by decide) (by decide) ?_
  refine lv_aload_n C.1 C.2.1 dX12_tray_76 rfl (lv_at hl 1 rfl) ?_
  refine r_get C w 0 rfl rfl 31 (by decide) fl_RX12_64 (v := .ref a17) rfl dX12_tray_77 ?_
  refine lv_bipush (v := 40) C.1 C.2.1 dX12_tray_80 (by decide) ?_
  refine lv_iload_n C.1 C.2.1 dX12_tray_82 rfl (lv_at hl 2 rfl) ?_
  refine r_imul C (v := 40) dX12_tray_83 (by decide) ?_
  refine lv_iload C.1 C.2.1 dX12_tray_84 (lv_at hl 0 rfl) ?_
  refine r_iadd C (v := 55) dX12_tray_86 (by decide) ?_
  refine lv_lconst (v := 0) C.1 C.2.1 dX12_tray_87 (by decide) ?_
  refine r_last C w 3 rfl (vinD (by decide)) (vp_updL (vp_updL (vp_updL (vp_updL (vp_updL (vp_updL (vp_updL (vp_updL (vp_updL (vp_updL (vp_updL (vp_updL (vp_updL (vp_updL (vp_updL (vp_updL (fun _ => 0) 40 0) 41 0) 42 0) 43 0) 44 0) 45 0) 46 0) 47 0) 48 0) 49 0) 50 0) 51 0) 52 0) 53 0) 54 0) 55 0) rfl [(a0, .inr (12, [.ref a1, .ref a2, .ref a3, .ref a4, .ref a5, .int 0, .ref a6, .int 0, .int 0, .int 0, .int 0, .int 0, .int 0, .int 0, .int 0, .int 0, .int 0, .int (-1), .ref a7, .ref a8, .int 0, .ref a9, .int 0, .ref a10, .ref a11, .ref a12, .ref a13, .ref a14, .int 0, .ref a15, .ref a16, .ref a17])), (a15, .inl (cy 1, 4, .inl (upd (upd (upd (upd (upd (fun _ => 0) 0 (-1)) 1 (-1)) 2 (-1)) 3 (-1)) 1 x1))), (a16, .inl (cy 1, 4, .inl (upd (fun _ => 0) 1 x2))), (a17, .inl (cy 2, 160, .inr (.inl (vp_updL (vp_updL (vp_updL (vp_updL (vp_updL (vp_updL (vp_updL (vp_updL (vp_updL (vp_updL (vp_updL (vp_updL (vp_updL (vp_updL (vp_updL (vp_updL (fun _ => 0) 40 0) 41 0) 42 0) 43 0) 44 0) 45 0) 46 0) 47 0) 48 0) 49 0) 50 0) 51 0) 52 0) 53 0) 54 0) 55 0))))] rfl dX12_tray_88 (fun H locs w => ?_)
  refine lv_iinc (v := 16) (lv' := [(4, .int 16), (0, .ref a0), (1, .int 1), (2, .int x1), (3, .int x2)]) C.1 C.2.1 dX12_tray_89 hl (k := 0) rfl (by decide) (by decide) rfl (fun ls hl => ?_)
  refine lv_goto (tgt := 69) C.1 C.2.1 dX12_tray_92 (by decide) ?_
  refine lv_iload C.1 C.2.1 dX12_tray_69 (lv_at hl 0 rfl) ?_
  refine lv_bipush (v := 40) C.1 C.2.1 dX12_tray_71 (by decide) ?_
  refine b_icmp_ge_f C (tgt := 95) dX12_tray_73 (by decide) (by decide) ?_
  refine lv_aload_n C.1 C.2.1 dX12_tray_76 rfl (lv_at hl 1 rfl) ?_
  refine r_get C w 0 rfl rfl 31 (by decide) fl_RX12_64 (v := .ref a17) rfl dX12_tray_77 ?_
  refine lv_bipush (v := 40) C.1 C.2.1 dX12_tray_80 (by decide) ?_
  refine lv_iload_n C.1 C.2.1 dX12_tray_82 rfl (lv_at hl 2 rfl) ?_
  refine r_imul C (v := 40) dX12_tray_83 (by decide) ?_
  refine lv_iload C.1 C.2.1 dX12_tray_84 (lv_at hl 0 rfl) ?_
  refine r_iadd C (v := 56) dX12_tray_86 (by decide) ?_
  refine lv_lconst (v := 0) C.1 C.2.1 dX12_tray_87 (by decide) ?_
  refine r_last C w 3 rfl (vinD (by decide)) (vp_updL (vp_updL (vp_updL (vp_updL (vp_updL (vp_updL (vp_updL (vp_updL (vp_updL (vp_updL (vp_updL (vp_updL (vp_updL (vp_updL (vp_updL (vp_updL (vp_updL (fun _ => 0) 40 0) 41 0) 42 0) 43 0) 44 0) 45 0) 46 0) 47 0) 48 0) 49 0) 50 0) 51 0) 52 0) 53 0) 54 0) 55 0) 56 0) rfl [(a0, .inr (12, [.ref a1, .ref a2, .ref a3, .ref a4, .ref a5, .int 0, .ref a6, .int 0, .int 0, .int 0, .int 0, .int 0, .int 0, .int 0, .int 0, .int 0, .int 0, .int (-1), .ref a7, .ref a8, .int 0, .ref a9, .int 0, .ref a10, .ref a11, .ref a12, .ref a13, .ref a14, .int 0, .ref a15, .ref a16, .ref a17])), (a15, .inl (cy 1, 4, .inl (upd (upd (upd (upd (upd (fun _ => 0) 0 (-1)) 1 (-1)) 2 (-1)) 3 (-1)) 1 x1))), (a16, .inl (cy 1, 4, .inl (upd (fun _ => 0) 1 x2))), (a17, .inl (cy 2, 160, .inr (.inl (vp_updL (vp_updL (vp_updL (vp_updL (vp_updL (vp_updL (vp_updL (vp_updL (vp_updL (vp_updL (vp_updL (vp_updL (vp_updL (vp_updL (vp_updL (vp_updL (vp_updL (fun _ => 0) 40 0) 41 0) 42 0) 43 0) 44 0) 45 0) 46 0) 47 0) 48 0) 49 0) 50 0) 51 0) 52 0) 53 0) 54 0) 55 0) 56 0))))] rfl dX12_tray_88 (fun H locs w => ?_)
  refine lv_iinc (v := 17) (lv' := [(4, .int 17), (0, .ref a0), (1, .int 1), (2, .int x1), (3, .int x2)]) C.1 C.2.1 dX12_tray_89 hl (k := 0) rfl (by decide) (by decide) rfl (fun ls hl => ?_)
  refine lv_goto (tgt := 69) C.1 C.2.1 dX12_tray_92 (by decide) ?_
  refine lv_iload C.1 C.2.1 dX12_tray_69 (lv_at hl 0 rfl) ?_
  refine lv_bipush (v := 40) C.1 C.2.1 dX12_tray_71 (by decide) ?_
  refine b_icmp_ge_f C (tgt := 95) dX12_tray_73 (by decide) (by decide) ?_
  refine lv_aload_n C.1 C.2.1 dX12_tray_76 rfl (lv_at hl 1 rfl) ?_
  refine r_get C w 0 rfl rfl 31 (by decide) fl_RX12_64 (v := .ref a17) rfl dX12_tray_77 ?_
  refine lv_bipush (v := 40) C.1 C.2.1 dX12_tray_80 (by decide) ?_
  refine lv_iload_n C.1 C.2.1 dX12_tray_82 rfl (lv_at hl 2 rfl) ?_
  refine r_imul C (v := 40) dX12_tray_83 (by decide) ?_
  refine lv_iload C.1 C.2.1 dX12_tray_84 (lv_at hl 0 rfl) ?_
  refine r_iadd C (v := 57) dX12_tray_86 (by decide) ?_
  refine lv_lconst (v := 0) C.1 C.2.1 dX12_tray_87 (by decide) ?_
  refine r_last C w 3 rfl (vinD (by decide)) (vp_updL (vp_updL (vp_updL (vp_updL (vp_updL (vp_updL (vp_updL (vp_updL (vp_updL (vp_updL (vp_updL (vp_updL (vp_updL (vp_updL (vp_updL (vp_updL (vp_updL (vp_updL (fun _ => 0) 40 0) 41 0) 42 0) 43 0) 44 0) 45 0) 46 0) 47 0) 48 0) 49 0) 50 0) 51 0) 52 0) 53 0) 54 0) 55 0) 56 0) 57 0) rfl [(a0, .inr (12, [.ref a1, .ref a2, .ref a3, .ref a4, .ref a5, .int 0, .ref a6, .int 0, .int 0, .int 0, .int 0, .int 0, .int 0, .int 0, .int 0, .int 0, .int 0, .int (-1), .ref a7, .ref a8, .int 0, .ref a9, .int 0, .ref a10, .ref a11, .ref a12, .ref a13, .ref a14, .int 0, .ref a15, .ref a16, .ref a17])), (a15, .inl (cy 1, 4, .inl (upd (upd (upd (upd (upd (fun _ => 0) 0 (-1)) 1 (-1)) 2 (-1)) 3 (-1)) 1 x1))), (a16, .inl (cy 1, 4, .inl (upd (fun _ => 0) 1 x2))), (a17, .inl (cy 2, 160, .inr (.inl (vp_updL (vp_updL (vp_updL (vp_updL (vp_updL (vp_updL (vp_updL (vp_updL (vp_updL (vp_updL (vp_updL (vp_updL (vp_updL (vp_updL (vp_updL (vp_updL (vp_updL (vp_updL (fun _ => 0) 40 0) 41 0) 42 0) 43 0) 44 0) 45 0) 46 0) 47 0) 48 0) 49 0) 50 0) 51 0) 52 0) 53 0) 54 0) 55 0) 56 0) 57 0))))] rfl dX12_tray_88 (fun H locs w => ?_)
  refine lv_iinc (v := 18) (lv' := [(4, .int 18), (0, .ref a0), (1, .int 1), (2, .int x1), (3, .int x2)]) C.1 C.2.1 dX12_tray_89 hl (k := 0) rfl (by decide) (by decide) rfl (fun ls hl => ?_)
  refine lv_goto (tgt := 69) C.1 C.2.1 dX12_tray_92 (by decide) ?_
  refine lv_iload C.1 C.2.1 dX12_tray_69 (lv_at hl 0 rfl) ?_
  refine lv_bipush (v := 40) C.1 C.2.1 dX12_tray_71 (by decide) ?_
  refine b_icmp_ge_f C (tgt := 95) dX12_tray_73 (by decide) (by decide) ?_
  refine lv_aload_n C.1 C.2.1 dX12_tray_76 rfl (lv_at hl 1 rfl) ?_
  refine r_get C w 0 rfl rfl 31 (by decide) fl_RX12_64 (v := .ref a17) rfl dX12_tray_77 ?_
  refine lv_bipush (v := 40) C.1 C.2.1 dX12_tray_80 (by decide) ?_
  refine lv_iload_n C.1 C.2.1 dX12_tray_82 rfl (lv_at hl 2 rfl) ?_
  refine r_imul C (v := 40) dX12_tray_83 (by decide) ?_
  refine lv_iload C.1 C.2.1 dX12_tray_84 (lv_at hl 0 rfl) ?_
  refine r_iadd C (v := 58) dX12_tray_86 (by decide) ?_
  refine lv_lconst (v := 0) C.1 C.2.1 dX12_tray_87 (by decide) ?_
  refine r_last C w 3 rfl (vinD (by decide)) (vp_updL (vp_updL (vp_updL (vp_updL (vp_updL (vp_updL (vp_updL (vp_updL (vp_updL (vp_updL (vp_updL (vp_updL (vp_updL (vp_updL (vp_updL (vp_updL (vp_updL (vp_updL (vp_updL (fun _ => 0) 40 0) 41 0) 42 0) 43 0) 44 0) 45 0) 46 0) 47 0) 48 0) 49 0) 50 0) 51 0) 52 0) 53 0) 54 0) 55 0) 56 0) 57 0) 58 0) rfl [(a0, .inr (12, [.ref a1, .ref a2, .ref a3, .ref a4, .ref a5, .int 0, .ref a6, .int 0, .int 0, .int 0, .int 0, .int 0, .int 0, .int 0, .int 0, .int 0, .int 0, .int (-1), .ref a7, .ref a8, .int 0, .ref a9, .int 0, .ref a10, .ref a11, .ref a12, .ref a13, .ref a14, .int 0, .ref a15, .ref a16, .ref a17])), (a15, .inl (cy 1, 4, .inl (upd (upd (upd (upd (upd (fun _ => 0) 0 (-1)) 1 (-1)) 2 (-1)) 3 (-1)) 1 x1))), (a16, .inl (cy 1, 4, .inl (upd (fun _ => 0) 1 x2))), (a17, .inl (cy 2, 160, .inr (.inl (vp_updL (vp_updL (vp_updL (vp_updL (vp_updL (vp_updL (vp_updL (vp_updL (vp_updL (vp_updL (vp_updL (vp_updL (vp_updL (vp_updL (vp_updL (vp_updL (vp_updL (vp_updL (vp_updL (fun _ => 0) 40 0) 41 0) 42 0) 43 0) 44 0) 45 0) 46 0) 47 0) 48 0) 49 0) 50 0) 51 0) 52 0) 53 0) 54 0) 55 0) 56 0) 57 0) 58 0))))] rfl dX12_tray_88 (fun H locs w => ?_)
  refine lv_iinc (v := 19) (lv' := [(4, .int 19), (0, .ref a0), (1, .int 1), (2, .int x1), (3, .int x2)]) C.1 C.2.1 dX12_tray_89 hl (k := 0) rfl (by decide) (by decide) rfl (fun ls hl => ?_)
  refine lv_goto (tgt := 69) C.1 C.2.1 dX12_tray_92 (by decide) ?_
  refine lv_iload C.1 C.2.1 dX12_tray_69 (lv_at hl 0 rfl) ?_
  refine lv_bipush (v := 40) C.1 C.2.1 dX12_tray_71 (by decide) ?_
  refine b_icmp_ge_f C (tgt := 95) dX12_tray_73 (by decide) (by decide) ?_
  refine lv_aload_n C.1 C.2.1 dX12_tray_76 rfl (lv_at hl 1 rfl) ?_
  refine r_get C w 0 rfl rfl 31 (by decide) fl_RX12_64 (v := .ref a17) rfl dX12_tray_77 ?_
  refine lv_bipush (v := 40) C.1 C.2.1 dX12_tray_80 (by decide) ?_
  refine lv_iload_n C.1 C.2.1 dX12_tray_82 rfl (lv_at hl 2 rfl) ?_
  refine r_imul C (v := 40) dX12_tray_83 (by decide) ?_
  refine lv_iload C.1 C.2.1 dX12_tray_84 (lv_at hl 0 rfl) ?_
  refine r_iadd C (v := 59) dX12_tray_86 (by decide) ?_
  refine lv_lconst (v := 0) C.1 C.2.1 dX12_tray_87 (by decide) ?_
  refine r_last C w 3 rfl (vinD (by decide)) (vp_updL (vp_updL (vp_updL (vp_updL (vp_updL (vp_updL (vp_updL (vp_updL (vp_updL (vp_updL (vp_updL (vp_updL (vp_updL (vp_updL (vp_updL (vp_updL (vp_updL (vp_updL (vp_updL (vp_updL (fun _ => 0) 40 0) 41 0) 42 0) 43 0) 44 0) 45 0) 46 0) 47 0) 48 0) 49 0) 50 0) 51 0) 52 0) 53 0) 54 0) 55 0) 56 0) 57 0) 58 0) 59 0) rfl [(a0, .inr (12, [.ref a1, .ref a2, .ref a3, .ref a4, .ref a5, .int 0, .ref a6, .int 0, .int 0, .int 0, .int 0, .int 0, .int 0, .int 0, .int 0, .int 0, .int 0, .int (-1), .ref a7, .ref a8, .int 0, .ref a9, .int 0, .ref a10, .ref a11, .ref a12, .ref a13, .ref a14, .int 0, .ref a15, .ref a16, .ref a17])), (a15, .inl (cy 1, 4, .inl (upd (upd (upd (upd (upd (fun _ => 0) 0 (-1)) 1 (-1)) 2 (-1)) 3 (-1)) 1 x1))), (a16, .inl (cy 1, 4, .inl (upd (fun _ => 0) 1 x2))), (a17, .inl (cy 2, 160, .inr (.inl (vp_updL (vp_updL (vp_updL (vp_updL (vp_updL (vp_updL (vp_updL (vp_updL (vp_updL (vp_updL (vp_updL (vp_updL (vp_updL (vp_updL (vp_updL (vp_updL (vp_updL (vp_updL (vp_updL (vp_updL (fun _ => 0) 40 0) 41 0) 42 0) 43 0) 44 0) 45 0) 46 0) 47 0) 48 0) 49 0) 50 0) 51 0) 52 0) 53 0) 54 0) 55 0) 56 0) 57 0) 58 0) 59 0))))] rfl dX12_tray_88 (fun H locs w => ?_)
  refine lv_iinc (v := 20) (lv' := [(4, .int 20), (0, .ref a0), (1, .int 1), (2, .int x1), (3, .int x2)]) C.1 C.2.1 dX12_tray_89 hl (k := 0) rfl (by decide) (by decide) rfl (fun ls hl => ?_)
  refine lv_goto (tgt := 69) C.1 C.2.1 dX12_tray_92 (by decide) ?_
  refine lv_iload C.1 C.2.1 dX12_tray_69 (lv_at hl 0 rfl) ?_
  refine lv_bipush (v := 40) C.1 C.2.1 dX12_tray_71 (by decide) ?_
  refine b_icmp_ge_f C (tgt := 95) dX12_tray_73 (by decide) (by decide) ?_
  refine lv_aload_n C.1 C.2.1 dX12_tray_76 rfl (lv_at hl 1 rfl) ?_
  refine r_get C w 0 rfl rfl 31 (by decide) fl_RX12_64 (v := .ref a17) rfl dX12_tray_77 ?_
  refine lv_bipush (v := 40) C.1 C.2.1 dX12_tray_80 (by decide) ?_
  refine lv_iload_n C.1 C.2.1 dX12_tray_82 rfl (lv_at hl 2 rfl) ?_
  refine r_imul C (v := 40) dX12_tray_83 (by decide) ?_
  refine lv_iload C.1 C.2.1 dX12_tray_84 (lv_at hl 0 rfl) ?_
  refine r_iadd C (v := 60) dX12_tray_86 (by decide) ?_
  refine lv_lconst (v := 0) C.1 C.2.1 dX12_tray_87 (by decide) ?_
  refine r_last C w 3 rfl (vinD (by decide)) (vp_updL (vp_updL (vp_updL (vp_updL (vp_updL (vp_updL (vp_updL (vp_updL (vp_updL (vp_updL (vp_updL (vp_updL (vp_updL (vp_updL (vp_updL (vp_updL (vp_updL (vp_updL (vp_updL (vp_updL (vp_updL (fun _ => 0) 40 0) 41 0) 42 0) 43 0) 44 0) 45 0) 46 0) 47 0) 48 0) 49 0) 50 0) 51 0) 52 0) 53 0) 54 0) 55 0) 56 0) 57 0) 58 0) 59 0) 60 0) rfl [(a0, .inr (12, [.ref a1, .ref a2, .ref a3, .ref a4, .ref a5, .int 0, .ref a6, .int 0, .int 0, .int 0, .int 0, .int 0, .int 0, .int 0, .int 0, .int 0, .int 0, .int (-1), .ref a7, .ref a8, .int 0, .ref a9, .int 0, .ref a10, .ref a11, .ref a12, .ref a13, .ref a14, .int 0, .ref a15, .ref a16, .ref a17])), (a15, .inl (cy 1, 4, .inl (upd (upd (upd (upd (upd (fun _ => 0) 0 (-1)) 1 (-1)) 2 (-1)) 3 (-1)) 1 x1))), (a16, .inl (cy 1, 4, .inl (upd (fun _ => 0) 1 x2))), (a17, .inl (cy 2, 160, .inr (.inl (vp_updL (vp_updL (vp_updL (vp_updL (vp_updL (vp_updL (vp_updL (vp_updL (vp_updL (vp_updL (vp_updL (vp_updL (vp_updL (vp_updL (vp_updL (vp_updL (vp_updL (vp_updL (vp_updL (vp_updL (vp_updL (fun _ => 0) 40 0) 41 0) 42 0) 43 0) 44 0) 45 0) 46 0) 47 0) 48 0) 49 0) 50 0) 51 0) 52 0) 53 0) 54 0) 55 0) 56 0) 57 0) 58 0) 59 0) 60 0))))] rfl dX12_tray_88 (fun H locs w => ?_)
  refine lv_iinc (v := 21) (lv' := [(4, .int 21), (0, .ref a0), (1, .int 1), (2, .int x1), (3, .int x2)]) C.1 C.2.1 dX12_tray_89 hl (k := 0) rfl (by decide) (by decide) rfl (fun ls hl => ?_)
  refine lv_goto (tgt := 69) C.1 C.2.1 dX12_tray_92 (by decide) ?_
  refine lv_iload C.1 C.2.1 dX12_tray_69 (lv_at hl 0 rfl) ?_
  refine lv_bipush (v := 40) C.1 C.2.1 dX12_tray_71 (by decide) ?_
  refine b_icmp_ge_f C (tgt := 95) dX12_tray_73 (by decide) (by decide) ?_
  refine lv_aload_n C.1 C.2.1 dX12_tray_76 rfl (lv_at hl 1 rfl) ?_
  refine r_get C w 0 rfl rfl 31 (by decide) fl_RX12_64 (v := .ref a17) rfl dX12_tray_77 ?_
  refine lv_bipush (v := 40) C.1 C.2.1 dX12_tray_80 (by decide) ?_
  refine lv_iload_n C.1 C.2.1 dX12_tray_82 rfl (lv_at hl 2 rfl) ?_
  refine r_imul C (v := 40) dX12_tray_83 (by decide) ?_
  refine lv_iload C.1 C.2.1 dX12_tray_84 (lv_at hl 0 rfl) ?_
  refine r_iadd C (v := 61) dX12_tray_86 (by decide) ?_
  refine lv_lconst (v := 0) C.1 C.2.1 dX12_tray_87 (by decide) ?_
  refine r_last C w 3 rfl (vinD (by decide)) (vp_updL (vp_updL (vp_updL (vp_updL (vp_updL (vp_updL (vp_updL (vp_updL (vp_updL (vp_updL (vp_updL (vp_updL (vp_updL (vp_updL (vp_updL (vp_updL (vp_updL (vp_updL (vp_updL (vp_updL (vp_updL (vp_updL (fun _ => 0) 40 0) 41 0) 42 0) 43 0) 44 0) 45 0) 46 0) 47 0) 48 0) 49 0) 50 0) 51 0) 52 0) 53 0) 54 0) 55 0) 56 0) 57 0) 58 0) 59 0) 60 0) 61 0) rfl [(a0, .inr (12, [.ref a1, .ref a2, .ref a3, .ref a4, .ref a5, .int 0, .ref a6, .int 0, .int 0, .int 0, .int 0, .int 0, .int 0, .int 0, .int 0, .int 0, .int 0, .int (-1), .ref a7, .ref a8, .int 0, .ref a9, .int 0, .ref a10, .ref a11, .ref a12, .ref a13, .ref a14, .int 0, .ref a15, .ref a16, .ref a17])), (a15, .inl (cy 1, 4, .inl (upd (upd (upd (upd (upd (fun _ => 0) 0 (-1)) 1 (-1)) 2 (-1)) 3 (-1)) 1 x1))), (a16, .inl (cy 1, 4, .inl (upd (fun _ => 0) 1 x2))), (a17, .inl (cy 2, 160, .inr (.inl (vp_updL (vp_updL (vp_updL (vp_updL (vp_updL (vp_updL (vp_updL (vp_updL (vp_updL (vp_updL (vp_updL (vp_updL (vp_updL (vp_updL (vp_updL (vp_updL (vp_updL (vp_updL (vp_updL (vp_updL (vp_updL (vp_updL (fun _ => 0) 40 0) 41 0) 42 0) 43 0) 44 0) 45 0) 46 0) 47 0) 48 0) 49 0) 50 0) 51 0) 52 0) 53 0) 54 0) 55 0) 56 0) 57 0) 58 0) 59 0) 60 0) 61 0))))] rfl dX12_tray_88 (fun H locs w => ?_)
  refine lv_iinc (v := 22) (lv' := [(4, .int 22), (0, .ref a0), (1, .int 1), (2, .int x1), (3, .int x2)]) C.1 C.2.1 dX12_tray_89 hl (k := 0) rfl (by decide) (by decide) rfl (fun ls hl => ?_)
  refine lv_goto (tgt := 69) C.1 C.2.1 dX12_tray_92 (by decide) ?_
  refine lv_iload C.1 C.2.1 dX12_tray_69 (lv_at hl 0 rfl) ?_
  refine lv_bipush (v := 40) C.1 C.2.1 dX12_tray_71 (by decide) ?_
  refine b_icmp_ge_f C (tgt := 95) dX12_tray_73 (by decide) (by decide) ?_
  refine lv_aload_n C.1 C.2.1 dX12_tray_76 rfl (lv_at hl 1 rfl) ?_
  refine r_get C w 0 rfl rfl 31 (by decide) fl_RX12_64 (v := .ref a17) rfl dX12_tray_77 ?_
  refine lv_bipush (v := 40) C.1 C.2.1 dX12_tray_80 (by decide) ?_
  refine lv_iload_n C.1 C.2.1 dX12_tray_82 rfl (lv_at hl 2 rfl) ?_
  refine r_imul C (v := 40) dX12_tray_83 (by decide) ?_
  refine lv_iload C.1 C.2.1 dX12_tray_84 (lv_at hl 0 rfl) ?_
  refine r_iadd C (v := 62) dX12_tray_86 (by decide) ?_
  refine lv_lconst (v := 0) C.1 C.2.1 dX12_tray_87 (by decide) ?_
  refine r_last C w 3 rfl (vinD (by decide)) (vp_updL (vp_updL (vp_updL (vp_updL (vp_updL (vp_updL (vp_updL (vp_updL (vp_updL (vp_updL (vp_updL (vp_updL (vp_updL (vp_updL (vp_updL (vp_updL (vp_updL (vp_updL (vp_updL (vp_updL (vp_updL (vp_updL (vp_updL (fun _ => 0) 40 0) 41 0) 42 0) 43 0) 44 0) 45 0) 46 0) 47 0) 48 0) 49 0) 50 0) 51 0) 52 0) 53 0) 54 0) 55 0) 56 0) 57 0) 58 0) 59 0) 60 0) 61 0) 62 0) rfl [(a0, .inr (12, [.ref a1, .ref a2, .ref a3, .ref a4, .ref a5, .int 0, .ref a6, .int 0, .int 0, .int 0, .int 0, .int 0, .int 0, .int 0, .int 0, .int 0, .int 0, .int (-1), .ref a7, .ref a8, .int 0, .ref a9, .int 0, .ref a10, .ref a11, .ref a12, .ref a13, .ref a14, .int 0, .ref a15, .ref a16, .ref a17])), (a15, .inl (cy 1, 4, .inl (upd (upd (upd (upd (upd (fun _ => 0) 0 (-1)) 1 (-1)) 2 (-1)) 3 (-1)) 1 x1))), (a16, .inl (cy 1, 4, .inl (upd (fun _ => 0) 1 x2))), (a17, .inl (cy 2, 160, .inr (.inl (vp_updL (vp_updL (vp_updL (vp_updL (vp_updL (vp_updL (vp_updL (vp_updL (vp_updL (vp_updL (vp_updL (vp_updL (vp_updL (vp_updL (vp_updL (vp_updL (vp_updL (vp_updL (vp_updL (vp_updL (vp_updL (vp_updL (vp_updL (fun _ => 0) 40 0) 41 0) 42 0) 43 0) 44 0) 45 0) 46 0) 47 0) 48 0) 49 0) 50 0) 51 0) 52 0) 53 0) 54 0) 55 0) 56 0) 57 0) 58 0) 59 0) 60 0) 61 0) 62 0))))] rfl dX12_tray_88 (fun H locs w => ?_)
  refine lv_iinc (v := 23) (lv' := [(4, .int 23), (0, .ref a0), (1, .int 1), (2, .int x1), (3, .int x2)]) C.1 C.2.1 dX12_tray_89 hl (k := 0) rfl (by decide) (by decide) rfl (fun ls hl => ?_)
  refine lv_goto (tgt := 69) C.1 C.2.1 dX12_tray_92 (by decide) ?_
  refine lv_iload C.1 C.2.1 dX12_tray_69 (lv_at hl 0 rfl) ?_
  refine lv_bipush (v := 40) C.1 C.2.1 dX12_tray_71 (by decide) ?_
  refine b_icmp_ge_f C (tgt := 95) dX12_tray_73 (by decide) (by decide) ?_
  refine lv_aload_n C.1 C.2.1 dX12_tray_76 rfl (lv_at hl 1 rfl) ?_
  refine r_get C w 0 rfl rfl 31 (by decide) fl_RX12_64 (v := .ref a17) rfl dX12_tray_77 ?_
  refine lv_bipush (v := 40) C.1 C.2.1 dX12_tray_80 (by decide) ?_
  refine lv_iload_n C.1 C.2.1 dX12_tray_82 rfl (lv_at hl 2 rfl) ?_
  refine r_imul C (v := 40) dX12_tray_83 (by decide) ?_
  refine lv_iload C.1 C.2.1 dX12_tray_84 (lv_at hl 0 rfl) ?_
  refine r_iadd C (v := 63) dX12_tray_86 (by decide) ?_
  refine lv_lconst (v := 0) C.1 C.2.1 dX12_tray_87 (by decide) ?_
  refine r_last C w 3 rfl (vinD (by decide)) (vp_updL (vp_updL (vp_updL (vp_updL (vp_updL (vp_updL (vp_updL (vp_updL (vp_updL (vp_updL (vp_updL (vp_updL (vp_updL (vp_updL (vp_updL (vp_updL (vp_updL (vp_updL (vp_updL (vp_updL (vp_updL (vp_updL (vp_updL (vp_updL (fun _ => 0) 40 0) 41 0) 42 0) 43 0) 44 0) 45 0) 46 0) 47 0) 48 0) 49 0) 50 0) 51 0) 52 0) 53 0) 54 0) 55 0) 56 0) 57 0) 58 0) 59 0) 60 0) 61 0) 62 0) 63 0) rfl [(a0, .inr (12, [.ref a1, .ref a2, .ref a3, .ref a4, .ref a5, .int 0, .ref a6, .int 0, .int 0, .int 0, .int 0, .int 0, .int 0, .int 0, .int 0, .int 0, .int 0, .int (-1), .ref a7, .ref a8, .int 0, .ref a9, .int 0, .ref a10, .ref a11, .ref a12, .ref a13, .ref a14, .int 0, .ref a15, .ref a16, .ref a17])), (a15, .inl (cy 1, 4, .inl (upd (upd (upd (upd (upd (fun _ => 0) 0 (-1)) 1 (-1)) 2 (-1)) 3 (-1)) 1 x1))), (a16, .inl (cy 1, 4, .inl (upd (fun _ => 0) 1 x2))), (a17, .inl (cy 2, 160, .inr (.inl (vp_updL (vp_updL (vp_updL (vp_updL (vp_updL (vp_updL (vp_updL (vp_updL (vp_updL (vp_updL (vp_updL (vp_updL (vp_updL (vp_updL (vp_updL (vp_updL (vp_updL (vp_updL (vp_updL (vp_updL (vp_updL (vp_updL (vp_updL (vp_updL (fun _ => 0) 40 0) 41 0) 42 0) 43 0) 44 0) 45 0) 46 0) 47 0) 48 0) 49 0) 50 0) 51 0) 52 0) 53 0) 54 0) 55 0) 56 0) 57 0) 58 0) 59 0) 60 0) 61 0) 62 0) 63 0))))] rfl dX12_tray_88 (fun H locs w => ?_)
  refine lv_iinc (v := 24) (lv' := [(4, .int 24), (0, .ref a0), (1, .int 1), (2, .int x1), (3, .int x2)]) C.1 C.2.1 dX12_tray_89 hl (k := 0) rfl (by decide) (by decide) rfl (fun ls hl => ?_)
  refine lv_goto (tgt := 69) C.1 C.2.1 dX12_tray_92 (by decide) ?_
  refine lv_iload C.1 C.2.1 dX12_tray_69 (lv_at hl 0 rfl) ?_
  refine lv_bipush (v := 40) C.1 C.2.1 dX12_tray_71 (by decide) ?_
  refine b_icmp_ge_f C (tgt := 95) dX12_tray_73 (by decide) (by decide) ?_
  refine lv_aload_n C.1 C.2.1 dX12_tray_76 rfl (lv_at hl 1 rfl) ?_
  refine r_get C w 0 rfl rfl 31 (by decide) fl_RX12_64 (v := .ref a17) rfl dX12_tray_77 ?_
  refine lv_bipush (v := 40) C.1 C.2.1 dX12_tray_80 (by decide) ?_
  refine lv_iload_n C.1 C.2.1 dX12_tray_82 rfl (lv_at hl 2 rfl) ?_
  refine r_imul C (v := 40) dX12_tray_83 (by decide) ?_
  refine lv_iload C.1 C.2.1 dX12_tray_84 (lv_at hl 0 rfl) ?_
  refine r_iadd C (v := 64) dX12_tray_86 (by decide) ?_
  refine lv_lconst (v := 0) C.1 C.2.1 dX12_tray_87 (by decide) ?_
  refine r_last C w 3 rfl (vinD (by decide)) (vp_updL (vp_updL (vp_updL (vp_updL (vp_updL (vp_updL (vp_updL (vp_updL (vp_updL (vp_updL (vp_updL (vp_updL (vp_updL (vp_updL (vp_updL (vp_updL (vp_updL (vp_updL (vp_updL (vp_updL (vp_updL (vp_updL (vp_updL (vp_updL (vp_updL (fun _ => 0) 40 0) 41 0) 42 0) 43 0) 44 0) 45 0) 46 0) 47 0) 48 0) 49 0) 50 0) 51 0) 52 0) 53 0) 54 0) 55 0) 56 0) 57 0) 58 0) 59 0) 60 0) 61 0) 62 0) 63 0) 64 0) rfl [(a0, .inr (12, [.ref a1, .ref a2, .ref a3, .ref a4, .ref a5, .int 0, .ref a6, .int 0, .int 0, .int 0, .int 0, .int 0, .int 0, .int 0, .int 0, .int 0, .int 0, .int (-1), .ref a7, .ref a8, .int 0, .ref a9, .int 0, .ref a10, .ref a11, .ref a12, .ref a13, .ref a14, .int 0, .ref a15, .ref a16, .ref a17])), (a15, .inl (cy 1, 4, .inl (upd (upd (upd (upd (upd (fun _ => 0) 0 (-1)) 1 (-1)) 2 (-1)) 3 (-1)) 1 x1))), (a16, .inl (cy 1, 4, .inl (upd (fun _ => 0) 1 x2))), (a17, .inl (cy 2, 160, .inr (.inl (vp_updL (vp_updL (vp_updL (vp_updL (vp_updL (vp_updL (vp_updL (vp_updL (vp_updL (vp_updL (vp_updL (vp_updL (vp_updL (vp_updL (vp_updL (vp_updL (vp_updL (vp_updL (vp_updL (vp_updL (vp_updL (vp_updL (vp_updL (vp_updL (vp_updL (fun _ => 0) 40 0) 41 0) 42 0) 43 0) 44 0) 45 0) 46 0) 47 0) 48 0) 49 0) 50 0) 51 0) 52 0) 53 0) 54 0) 55 0) 56 0) 57 0) 58 0) 59 0) 60 0) 61 0) 62 0) 63 0) 64 0))))] rfl dX12_tray_88 (fun H locs w => ?_)
  refine lv_iinc (v := 25) (lv' := [(4, .int 25), (0, .ref a0), (1, .int 1), (2, .int x1), (3, .int x2)]) C.1 C.2.1 dX12_tray_89 hl (k := 0) rfl (by decide) (by decide) rfl (fun ls hl => ?_)
  refine lv_goto (tgt := 69) C.1 C.2.1 dX12_tray_92 (by decide) ?_
  refine lv_iload C.1 C.2.1 dX12_tray_69 (lv_at hl 0 rfl) ?_
  refine lv_bipush (v := 40) C.1 C.2.1 dX12_tray_71 (by decide) ?_
  refine b_icmp_ge_f C (tgt := 95) dX12_tray_73 (by decide) (by decide) ?_
  refine lv_aload_n C.1 C.2.1 dX12_tray_76 rfl (lv_at hl 1 rfl) ?_
  refine r_get C w 0 rfl rfl 31 (by decide) fl_RX12_64 (v := .ref a17) rfl dX12_tray_77 ?_
  refine lv_bipush (v := 40) C.1 C.2.1 dX12_tray_80 (by decide) ?_
  refine lv_iload_n C.1 C.2.1 dX12_tray_82 rfl (lv_at hl 2 rfl) ?_
  refine r_imul C (v := 40) dX12_tray_83 (by decide) ?_
  refine lv_iload C.1 C.2.1 dX12_tray_84 (lv_at hl 0 rfl) ?_
  refine r_iadd C (v := 65) dX12_tray_86 (by decide) ?_
  refine lv_lconst (v := 0) C.1 C.2.1 dX12_tray_87 (by decide) ?_
  refine r_last C w 3 rfl (vinD (by decide)) (vp_updL (vp_updL (vp_updL (vp_updL (vp_updL (vp_updL (vp_updL (vp_updL (vp_updL (vp_updL (vp_updL (vp_updL (vp_updL (vp_updL (vp_updL (vp_updL (vp_updL (vp_updL (vp_updL (vp_updL (vp_updL (vp_updL (vp_updL (vp_updL (vp_updL (vp_updL (fun _ => 0) 40 0) 41 0) 42 0) 43 0) 44 0) 45 0) 46 0) 47 0) 48 0) 49 0) 50 0) 51 0) 52 0) 53 0) 54 0) 55 0) 56 0) 57 0) 58 0) 59 0) 60 0) 61 0) 62 0) 63 0) 64 0) 65 0) rfl [(a0, .inr (12, [.ref a1, .ref a2, .ref a3, .ref a4, .ref a5, .int 0, .ref a6, .int 0, .int 0, .int 0, .int 0, .int 0, .int 0, .int 0, .int 0, .int 0, .int 0, .int (-1), .ref a7, .ref a8, .int 0, .ref a9, .int 0, .ref a10, .ref a11, .ref a12, .ref a13, .ref a14, .int 0, .ref a15, .ref a16, .ref a17])), (a15, .inl (cy 1, 4, .inl (upd (upd (upd (upd (upd (fun _ => 0) 0 (-1)) 1 (-1)) 2 (-1)) 3 (-1)) 1 x1))), (a16, .inl (cy 1, 4, .inl (upd (fun _ => 0) 1 x2))), (a17, .inl (cy 2, 160, .inr (.inl (vp_updL (vp_updL (vp_updL (vp_updL (vp_updL (vp_updL (vp_updL (vp_updL (vp_updL (vp_updL (vp_updL (vp_updL (vp_updL (vp_updL (vp_updL (vp_updL (vp_updL (vp_updL (vp_updL (vp_updL (vp_updL (vp_updL (vp_updL (vp_updL (vp_updL (vp_updL (fun _ => 0) 40 0) 41 0) 42 0) 43 0) 44 0) 45 0) 46 0) 47 0) 48 0) 49 0) 50 0) 51 0) 52 0) 53 0) 54 0) 55 0) 56 0) 57 0) 58 0) 59 0) 60 0) 61 0) 62 0) 63 0) 64 0) 65 0))))] rfl dX12_tray_88 (fun H locs w => ?_)
  refine lv_iinc (v := 26) (lv' := [(4, .int 26), (0, .ref a0), (1, .int 1), (2, .int x1), (3, .int x2)]) C.1 C.2.1 dX12_tray_89 hl (k := 0) rfl (by decide) (by decide) rfl (fun ls hl => ?_)
  refine lv_goto (tgt := 69) C.1 C.2.1 dX12_tray_92 (by decide) ?_
  refine lv_iload C.1 C.2.1 dX12_tray_69 (lv_at hl 0 rfl) ?_
  refine lv_bipush (v := 40) C.1 C.2.1 dX12_tray_71 (by decide) ?_
  refine b_icmp_ge_f C (tgt := 95) dX12_tray_73 (by decide) (by decide) ?_
  refine lv_aload_n C.1 C.2.1 dX12_tray_76 rfl (lv_at hl 1 rfl) ?_
  refine r_get C w 0 rfl rfl 31 (by decide) fl_RX12_64 (v := .ref a17) rfl dX12_tray_77 ?_
  refine lv_bipush (v := 40) C.1 C.2.1 dX12_tray_80 (by decide) ?_
  refine lv_iload_n C.1 C.2.1 dX12_tray_82 rfl (lv_at hl 2 rfl) ?_
  refine r_imul C (v := 40) dX12_tray_83 (by decide) ?_
  refine lv_iload C.1 C.2.1 dX12_tray_84 (lv_at hl 0 rfl) ?_
  refine r_iadd C (v := 66) dX12_tray_86 (by decide) ?_
  refine lv_lconst (v := 0) C.1 C.2.1 dX12_tray_87 (by decide) ?_
  refine r_last C w 3 rfl (vinD (by decide)) (vp_updL (vp_updL (vp_updL (vp_updL (vp_updL (vp_updL (vp_updL (vp_updL (vp_updL (vp_updL (vp_updL (vp_updL (vp_updL (vp_updL (vp_updL (vp_updL (vp_updL (vp_updL (vp_updL (vp_updL (vp_updL (vp_updL (vp_updL (vp_updL (vp_updL (vp_updL (vp_updL (fun _ => 0) 40 0) 41 0) 42 0) 43 0) 44 0) 45 0) 46 0) 47 0) 48 0) 49 0) 50 0) 51 0) 52 0) 53 0) 54 0) 55 0) 56 0) 57 0) 58 0) 59 0) 60 0) 61 0) 62 0) 63 0) 64 0) 65 0) 66 0) rfl [(a0, .inr (12, [.ref a1, .ref a2, .ref a3, .ref a4, .ref a5, .int 0, .ref a6, .int 0, .int 0, .int 0, .int 0, .int 0, .int 0, .int 0, .int 0, .int 0, .int 0, .int (-1), .ref a7, .ref a8, .int 0, .ref a9, .int 0, .ref a10, .ref a11, .ref a12, .ref a13, .ref a14, .int 0, .ref a15, .ref a16, .ref a17])), (a15, .inl (cy 1, 4, .inl (upd (upd (upd (upd (upd (fun _ => 0) 0 (-1)) 1 (-1)) 2 (-1)) 3 (-1)) 1 x1))), (a16, .inl (cy 1, 4, .inl (upd (fun _ => 0) 1 x2))), (a17, .inl (cy 2, 160, .inr (.inl (vp_updL (vp_updL (vp_updL (vp_updL (vp_updL (vp_updL (vp_updL (vp_updL (vp_updL (vp_updL (vp_updL (vp_updL (vp_updL (vp_updL (vp_updL (vp_updL (vp_updL (vp_updL (vp_updL (vp_updL (vp_updL (vp_updL (vp_updL (vp_updL (vp_updL (vp_updL (vp_updL (fun _ => 0) 40 0) 41 0) 42 0) 43 0) 44 0) 45 0) 46 0) 47 0) 48 0) 49 0) 50 0) 51 0) 52 0) 53 0) 54 0) 55 0) 56 0) 57 0) 58 0) 59 0) 60 0) 61 0) 62 0) 63 0) 64 0) 65 0) 66 0))))] rfl dX12_tray_88 (fun H locs w => ?_)
  refine lv_iinc (v := 27) (lv' := [(4, .int 27), (0, .ref a0), (1, .int 1), (2, .int x1), (3, .int x2)]) C.1 C.2.1 dX12_tray_89 hl (k := 0) rfl (by decide) (by decide) rfl (fun ls hl => ?_)
  refine lv_goto (tgt := 69) C.1 C.2.1 dX12_tray_92 (by decide) ?_
  refine lv_iload C.1 C.2.1 dX12_tray_69 (lv_at hl 0 rfl) ?_
  refine lv_bipush (v := 40) C.1 C.2.1 dX12_tray_71 (by decide) ?_
  refine b_icmp_ge_f C (tgt := 95) dX12_tray_73 (by decide) (by decide) ?_
  refine lv_aload_n C.1 C.2.1 dX12_tray_76 rfl (lv_at hl 1 rfl) ?_
  refine r_get C w 0 rfl rfl 31 (by decide) fl_RX12_64 (v := .ref a17) rfl dX12_tray_77 ?_
  refine lv_bipush (v := 40) C.1 C.2.1 dX12_tray_80 (by decide) ?_
  refine lv_iload_n C.1 C.2.1 dX12_tray_82 rfl (lv_at hl 2 rfl) ?_
  refine r_imul C (v := 40) dX12_tray_83 (by decide) ?_
  refine lv_iload C.1 C.2.1 dX12_tray_84 (lv_at hl 0 rfl) ?_
  refine r_iadd C (v := 67) dX12_tray_86 (by decide) ?_
  refine lv_lconst (v := 0) C.1 C.2.1 dX12_tray_87 (by decide) ?_
  refine r_last C w 3 rfl (vinD (by decide)) (vp_updL (vp_updL (vp_updL (vp_updL (vp_updL (vp_updL (vp_updL (vp_updL (vp_updL (vp_updL (vp_updL (vp_updL (vp_updL (vp_updL (vp_updL (vp_updL (vp_updL (vp_updL (vp_updL (vp_updL (vp_updL (vp_updL (vp_updL (vp_updL (vp_updL (vp_updL (vp_updL (vp_updL (fun _ => 0) 40 0) 41 0) 42 0) 43 0) 44 0) 45 0) 46 0) 47 0) 48 0) 49 0) 50 0) 51 0) 52 0) 53 0) 54 0) 55 0) 56 0) 57 0) 58 0) 59 0) 60 0) 61 0) 62 0) 63 0) 64 0) 65 0) 66 0) 67 0) rfl [(a0, .inr (12, [.ref a1, .ref a2, .ref a3, .ref a4, .ref a5, .int 0, .ref a6, .int 0, .int 0, .int 0, .int 0, .int 0, .int 0, .int 0, .int 0, .int 0, .int 0, .int (-1), .ref a7, .ref a8, .int 0, .ref a9, .int 0, .ref a10, .ref a11, .ref a12, .ref a13, .ref a14, .int 0, .ref a15, .ref a16, .ref a17])), (a15, .inl (cy 1, 4, .inl (upd (upd (upd (upd (upd (fun _ => 0) 0 (-1)) 1 (-1)) 2 (-1)) 3 (-1)) 1 x1))), (a16, .inl (cy 1, 4, .inl (upd (fun _ => 0) 1 x2))), (a17, .inl (cy 2, 160, .inr (.inl (vp_updL (vp_updL (vp_updL (vp_updL (vp_updL (vp_updL (vp_updL (vp_updL (vp_updL (vp_updL (vp_updL (vp_updL (vp_updL (vp_updL (vp_updL (vp_updL (vp_updL (vp_updL (vp_updL (vp_updL (vp_updL (vp_updL (vp_updL (vp_updL (vp_updL (vp_updL (vp_updL (vp_updL (fun _ => 0) 40 0) 41 0) 42 0) 43 0) 44 0) 45 0) 46 0) 47 0) 48 0) 49 0) 50 0) 51 0) 52 0) 53 0) 54 0) 55 0) 56 0) 57 0) 58 0) 59 0) 60 0) 61 0) 62 0) 63 0) 64 0) 65 0) 66 0) 67 0))))] rfl dX12_tray_88 (fun H locs w => ?_)
  refine lv_iinc (v := 28) (lv' := [(4, .int 28), (0, .ref a0), (1, .int 1), (2, .int x1), (3, .int x2)]) C.1 C.2.1 dX12_tray_89 hl (k := 0) rfl (by decide) (by decide) rfl (fun ls hl => ?_)
  refine lv_goto (tgt := 69) C.1 C.2.1 dX12_tray_92 (by decide) ?_
  refine lv_iload C.1 C.2.1 dX12_tray_69 (lv_at hl 0 rfl) ?_
  refine lv_bipush (v := 40) C.1 C.2.1 dX12_tray_71 (by decide) ?_
  refine b_icmp_ge_f C (tgt := 95) dX12_tray_73 (by decide) (by decide) ?_
  refine lv_aload_n C.1 C.2.1 dX12_tray_76 rfl (lv_at hl 1 rfl) ?_
  refine r_get C w 0 rfl rfl 31 (by decide) fl_RX12_64 (v := .ref a17) rfl dX12_tray_77 ?_
  refine lv_bipush (v := 40) C.1 C.2.1 dX12_tray_80 (by decide) ?_
  refine lv_iload_n C.1 C.2.1 dX12_tray_82 rfl (lv_at hl 2 rfl) ?_
  refine r_imul C (v := 40) dX12_tray_83 (by decide) ?_
  refine lv_iload C.1 C.2.1 dX12_tray_84 (lv_at hl 0 rfl) ?_
  refine r_iadd C (v := 68) dX12_tray_86 (by decide) ?_
  refine lv_lconst (v := 0) C.1 C.2.1 dX12_tray_87 (by decide) ?_
  refine r_last C w 3 rfl (vinD (by decide)) (vp_updL (vp_updL (vp_updL (vp_updL (vp_updL (vp_updL (vp_updL (vp_updL (vp_updL (vp_updL (vp_updL (vp_updL (vp_updL (vp_updL (vp_updL (vp_updL (vp_updL (vp_updL (vp_updL (vp_updL (vp_updL (vp_updL (vp_updL (vp_updL (vp_updL (vp_updL (vp_updL (vp_updL (vp_updL (fun _ => 0) 40 0) 41 0) 42 0) 43 0) 44 0) 45 0) 46 0) 47 0) 48 0) 49 0) 50 0) 51 0) 52 0) 53 0) 54 0) 55 0) 56 0) 57 0) 58 0) 59 0) 60 0) 61 0) 62 0) 63 0) 64 0) 65 0) 66 0) 67 0) 68 0) rfl [(a0, .inr (12, [.ref a1, .ref a2, .ref a3, .ref a4, .ref a5, .int 0, .ref a6, .int 0, .int 0, .int 0, .int 0, .int 0, .int 0, .int 0, .int 0, .int 0, .int 0, .int (-1), .ref a7, .ref a8, .int 0, .ref a9, .int 0, .ref a10, .ref a11, .ref a12, .ref a13, .ref a14, .int 0, .ref a15, .ref a16, .ref a17])), (a15, .inl (cy 1, 4, .inl (upd (upd (upd (upd (upd (fun _ => 0) 0 (-1)) 1 (-1)) 2 (-1)) 3 (-1)) 1 x1))), (a16, .inl (cy 1, 4, .inl (upd (fun _ => 0) 1 x2))), (a17, .inl (cy 2, 160, .inr (.inl (vp_updL (vp_updL (vp_updL (vp_updL (vp_updL (vp_updL (vp_updL (vp_updL (vp_updL (vp_updL (vp_updL (vp_updL (vp_updL (vp_updL (vp_updL (vp_updL (vp_updL (vp_updL (vp_updL (vp_updL (vp_updL (vp_updL (vp_updL (vp_updL (vp_updL (vp_updL (vp_updL (vp_updL (vp_updL (fun _ => 0) 40 0) 41 0) 42 0) 43 0) 44 0) 45 0) 46 0) 47 0) 48 0) 49 0) 50 0) 51 0) 52 0) 53 0) 54 0) 55 0) 56 0) 57 0) 58 0) 59 0) 60 0) 61 0) 62 0) 63 0) 64 0) 65 0) 66 0) 67 0) 68 0))))] rfl dX12_tray_88 (fun H locs w => ?_)
  refine lv_iinc (v := 29) (lv' := [(4, .int 29), (0, .ref a0), (1, .int 1), (2, .int x1), (3, .int x2)]) C.1 C.2.1 dX12_tray_89 hl (k := 0) rfl (by decide) (by decide) rfl (fun ls hl => ?_)
  refine lv_goto (tgt := 69) C.1 C.2.1 dX12_tray_92 (by decide) ?_
  refine lv_iload C.1 C.2.1 dX12_tray_69 (lv_at hl 0 rfl) ?_
  refine lv_bipush (v := 40) C.1 C.2.1 dX12_tray_71 (by decide) ?_
  refine b_icmp_ge_f C (tgt := 95) dX12_tray_73 (by decide) (by decide) ?_
  refine lv_aload_n C.1 C.2.1 dX12_tray_76 rfl (lv_at hl 1 rfl) ?_
  refine r_get C w 0 rfl rfl 31 (by decide) fl_RX12_64 (v := .ref a17) rfl dX12_tray_77 ?_
  refine lv_bipush (v := 40) C.1 C.2.1 dX12_tray_80 (by decide) ?_
  refine lv_iload_n C.1 C.2.1 dX12_tray_82 rfl (lv_at hl 2 rfl) ?_
  refine r_imul C (v := 40) dX12_tray_83 (by decide) ?_
  refine lv_iload C.1 C.2.1 dX12_tray_84 (lv_at hl 0 rfl) ?_
  refine r_iadd C (v := 69) dX12_tray_86 (by decide) ?_
  refine lv_lconst (v := 0) C.1 C.2.1 dX12_tray_87 (by decide) ?_
  refine r_last C w 3 rfl (vinD (by decide)) (vp_updL (vp_updL (vp_updL (vp_updL (vp_updL (vp_updL (vp_updL (vp_updL (vp_updL (vp_updL (vp_updL (vp_updL (vp_updL (vp_updL (vp_updL (vp_updL (vp_updL (vp_updL (vp_updL (vp_updL (vp_updL (vp_updL (vp_updL (vp_updL (vp_updL (vp_updL (vp_updL (vp_updL (vp_updL (vp_updL (fun _ => 0) 40 0) 41 0) 42 0) 43 0) 44 0) 45 0) 46 0) 47 0) 48 0) 49 0) 50 0) 51 0) 52 0) 53 0) 54 0) 55 0) 56 0) 57 0) 58 0) 59 0) 60 0) 61 0) 62 0) 63 0) 64 0) 65 0) 66 0) 67 0) 68 0) 69 0) rfl [(a0, .inr (12, [.ref a1, .ref a2, .ref a3, .ref a4, .ref a5, .int 0, .ref a6, .int 0, .int 0, .int 0, .int 0, .int 0, .int 0, .int 0, .int 0, .int 0, .int 0, .int (-1), .ref a7, .ref a8, .int 0, .ref a9, .int 0, .ref a10, .ref a11, .ref a12, .ref a13, .ref a14, .int 0, .ref a15, .ref a16, .ref a17])), (a15, .inl (cy 1, 4, .inl (upd (upd (upd (upd (upd (fun _ => 0) 0 (-1)) 1 (-1)) 2 (-1)) 3 (-1)) 1 x1))), (a16, .inl (cy 1, 4, .inl (upd (fun _ => 0) 1 x2))), (a17, .inl (cy 2, 160, .inr (.inl (vp_updL (vp_updL (vp_updL (vp_updL (vp_updL (vp_updL (vp_updL (vp_updL (vp_updL (vp_updL (vp_updL (vp_updL (vp_updL (vp_updL (vp_updL (vp_updL (vp_updL (vp_updL (vp_updL (vp_updL (vp_updL (vp_updL (vp_updL (vp_updL (vp_updL (vp_updL (vp_updL (vp_updL (vp_updL (vp_updL (fun _ => 0) 40 0) 41 0) 42 0) 43 0) 44 0) 45 0) 46 0) 47 0) 48 0) 49 0) 50 0) 51 0) 52 0) 53 0) 54 0) 55 0) 56 0) 57 0) 58 0) 59 0) 60 0) 61 0) 62 0) 63 0) 64 0) 65 0) 66 0) 67 0) 68 0) 69 0))))] rfl dX12_tray_88 (fun H locs w => ?_)
  refine lv_iinc (v := 30) (lv' := [(4, .int 30), (0, .ref a0), (1, .int 1), (2, .int x1), (3, .int x2)]) C.1 C.2.1 dX12_tray_89 hl (k := 0) rfl (by decide) (by decide) rfl (fun ls hl => ?_)
  refine lv_goto (tgt := 69) C.1 C.2.1 dX12_tray_92 (by decide) ?_
  refine lv_iload C.1 C.2.1 dX12_tray_69 (lv_at hl 0 rfl) ?_
  refine lv_bipush (v := 40) C.1 C.2.1 dX12_tray_71 (by decide) ?_
  refine b_icmp_ge_f C (tgt := 95) dX12_tray_73 (by decide) (by decide) ?_
  refine lv_aload_n C.1 C.2.1 dX12_tray_76 rfl (lv_at hl 1 rfl) ?_
  refine r_get C w 0 rfl rfl 31 (by decide) fl_RX12_64 (v := .ref a17) rfl dX12_tray_77 ?_
  refine lv_bipush (v := 40) C.1 C.2.1 dX12_tray_80 (by decide) ?_
  refine lv_iload_n C.1 C.2.1 dX12_tray_82 rfl (lv_at hl 2 rfl) ?_
  refine r_imul C (v := 40) dX12_tray_83 (by decide) ?_
  refine lv_iload C.1 C.2.1 dX12_tray_84 (lv_at hl 0 rfl) ?_
  refine r_iadd C (v := 70) dX12_tray_86 (by decide) ?_
  refine lv_lconst (v := 0) C.1 C.2.1 dX12_tray_87 (by decide) ?_
  refine r_last C w 3 rfl (vinD (by decide)) (vp_updL (vp_updL (vp_updL (vp_updL (vp_updL (vp_updL (vp_updL (vp_updL (vp_updL (vp_updL (vp_updL (vp_updL (vp_updL (vp_updL (vp_updL (vp_updL (vp_updL (vp_updL (vp_updL (vp_updL (vp_updL (vp_updL (vp_updL (vp_updL (vp_updL (vp_updL (vp_updL (vp_updL (vp_updL (vp_updL (vp_updL (fun _ => 0) 40 0) 41 0) 42 0) 43 0) 44 0) 45 0) 46 0) 47 0) 48 0) 49 0) 50 0) 51 0) 52 0) 53 0) 54 0) 55 0) 56 0) 57 0) 58 0) 59 0) 60 0) 61 0) 62 0) 63 0) 64 0) 65 0) 66 0) 67 0) 68 0) 69 0) 70 0) rfl [(a0, .inr (12, [.ref a1, .ref a2, .ref a3, .ref a4, .ref a5, .int 0, .ref a6, .int 0, .int 0, .int 0, .int 0, .int 0, .int 0, .int 0, .int 0, .int 0, .int 0, .int (-1), .ref a7, .ref a8, .int 0, .ref a9, .int 0, .ref a10, .ref a11, .ref a12, .ref a13, .ref a14, .int 0, .ref a15, .ref a16, .ref a17])), (a15, .inl (cy 1, 4, .inl (upd (upd (upd (upd (upd (fun _ => 0) 0 (-1)) 1 (-1)) 2 (-1)) 3 (-1)) 1 x1))), (a16, .inl (cy 1, 4, .inl (upd (fun _ => 0) 1 x2))), (a17, .inl (cy 2, 160, .inr (.inl (vp_updL (vp_updL (vp_updL (vp_updL (vp_updL (vp_updL (vp_updL (vp_updL (vp_updL (vp_updL (vp_updL (vp_updL (vp_updL (vp_updL (vp_updL (vp_updL (vp_updL (vp_updL (vp_updL (vp_updL (vp_updL (vp_updL (vp_updL (vp_updL (vp_updL (vp_updL (vp_updL (vp_updL (vp_updL (vp_updL (vp_updL (fun _ => 0) 40 0) 41 0) 42 0) 43 0) 44 0) 45 0) 46 0) 47 0) 48 0) 49 0) 50 0) 51 0) 52 0) 53 0) 54 0) 55 0) 56 0) 57 0) 58 0) 59 0) 60 0) 61 0) 62 0) 63 0) 64 0) 65 0) 66 0) 67 0) 68 0) 69 0) 70 0))))] rfl dX12_tray_88 (fun H locs w => ?_)
  refine lv_iinc (v := 31) (lv' := [(4, .int 31), (0, .ref a0), (1, .int 1), (2, .int x1), (3, .int x2)]) C.1 C.2.1 dX12_tray_89 hl (k := 0) rfl (by decide) (by decide) rfl (fun ls hl => ?_)
  refine lv_goto (tgt := 69) C.1 C.2.1 dX12_tray_92 (by decide) ?_
  refine lv_iload C.1 C.2.1 dX12_tray_69 (lv_at hl 0 rfl) ?_
  refine lv_bipush (v := 40) C.1 C.2.1 dX12_tray_71 (by decide) ?_
  refine b_icmp_ge_f C (tgt := 95) dX12_tray_73 (by decide) (by decide) ?_
  refine lv_aload_n C.1 C.2.1 dX12_tray_76 rfl (lv_at hl 1 rfl) ?_
  refine r_get C w 0 rfl rfl 31 (by decide) fl_RX12_64 (v := .ref a17) rfl dX12_tray_77 ?_
  refine lv_bipush (v := 40) C.1 C.2.1 dX12_tray_80 (by decide) ?_
  refine lv_iload_n C.1 C.2.1 dX12_tray_82 rfl (lv_at hl 2 rfl) ?_
  refine r_imul C (v := 40) dX12_tray_83 (by decide) ?_
  refine lv_iload C.1 C.2.1 dX12_tray_84 (lv_at hl 0 rfl) ?_
  refine r_iadd C (v := 71) dX12_tray_86 (by decide) ?_
  refine lv_lconst (v := 0) C.1 C.2.1 dX12_tray_87 (by decide) ?_
  refine r_last C w 3 rfl (vinD (by decide)) (vp_updL (vp_updL (vp_updL (vp_updL (vp_updL (vp_updL (vp_updL (vp_updL (vp_updL (vp_updL (vp_updL (vp_updL (vp_updL (vp_updL (vp_updL (vp_updL (vp_updL (vp_updL (vp_updL (vp_updL (vp_updL (vp_updL (vp_updL (vp_updL (vp_updL (vp_updL (vp_updL (vp_updL (vp_updL (vp_updL (vp_updL (vp_updL (fun _ => 0) 40 0) 41 0) 42 0) 43 0) 44 0) 45 0) 46 0) 47 0) 48 0) 49 0) 50 0) 51 0) 52 0) 53 0) 54 0) 55 0) 56 0) 57 0) 58 0) 59 0) 60 0) 61 0) 62 0) 63 0) 64 0) 65 0) 66 0) 67 0) 68 0) 69 0) 70 0) 71 0) rfl [(a0, .inr (12, [.ref a1, .ref a2, .ref a3, .ref a4, .ref a5, .int 0, .ref a6, .int 0, .int 0, .int 0, .int 0, .int 0, .int 0, .int 0, .int 0, .int 0, .int 0, .int (-1), .ref a7, .ref a8, .int 0, .ref a9, .int 0, .ref a10, .ref a11, .ref a12, .ref a13, .ref a14, .int 0, .ref a15, .ref a16, .ref a17])), (a15, .inl (cy 1, 4, .inl (upd (upd (upd (upd (upd (fun _ => 0) 0 (-1)) 1 (-1)) 2 (-1)) 3 (-1)) 1 x1))), (a16, .inl (cy 1, 4, .inl (upd (fun _ => 0) 1 x2))), (a17, .inl (cy 2, 160, .inr (.inl (vp_updL (vp_updL (vp_updL (vp_updL (vp_updL (vp_updL (vp_updL (vp_updL (vp_updL (vp_updL (vp_updL (vp_updL (vp_updL (vp_updL (vp_updL (vp_updL (vp_updL (vp_updL (vp_updL (vp_updL (vp_updL (vp_updL (vp_updL (vp_updL (vp_updL (vp_updL (vp_updL (vp_updL (vp_updL (vp_updL (vp_updL (vp_updL (fun _ => 0) 40 0) 41 0) 42 0) 43 0) 44 0) 45 0) 46 0) 47 0) 48 0) 49 0) 50 0) 51 0) 52 0) 53 0) 54 0) 55 0) 56 0) 57 0) 58 0) 59 0) 60 0) 61 0) 62 0) 63 0) 64 0) 65 0) 66 0) 67 0) 68 0) 69 0) 70 0) 71 0))))] rfl dX12_tray_88 (fun H locs w => ?_)
  refine lv_iinc (v := 32) (lv' := [(4, .int 32), (0, .ref a0), (1, .int 1), (2, .int x1), (3, .int x2)]) C.1 C.2.1 dX12_tray_89 hl (k := 0) rfl (by decide) (by decide) rfl (fun ls hl => ?_)
  refine lv_goto (tgt := 69) C.1 C.2.1 dX12_tray_92 (by decide) ?_
  refine lv_iload C.1 C.2.1 dX12_tray_69 (lv_at hl 0 rfl) ?_
  refine lv_bipush (v := 40) C.1 C.2.1 dX12_tray_71 (by decide) ?_
  refine b_icmp_ge_f C (tgt := 95) dX12_tray_73 (by decide) (by decide) ?_
  refine lv_aload_n C.1 C.2.1 dX12_tray_76 rfl (lv_at hl 1 rfl) ?_
  refine r_get C w 0 rfl rfl 31 (by decide) fl_RX12_64 (v := .ref a17) rfl dX12_tray_77 ?_
  refine lv_bipush (v := 40) C.1 C.2.1 dX12_tray_80 (by decide) ?_
  refine lv_iload_n C.1 C.2.1 dX12_tray_82 rfl (lv_at hl 2 rfl) ?_
  refine r_imul C (v := 40) dX12_tray_83 (by decide) ?_
  refine lv_iload C.1 C.2.1 dX12_tray_84 (lv_at hl 0 rfl) ?_
  refine r_iadd C (v := 72) dX12_tray_86 (by decide) ?_
  refine lv_lconst (v := 0) C.1 C.2.1 dX12_tray_87 (by decide) ?_
  refine r_last C w 3 rfl (vinD (by decide)) (vp_updL (vp_updL (vp_updL (vp_updL (vp_updL (vp_updL (vp_updL (vp_updL (vp_updL (vp_updL (vp_updL (vp_updL (vp_updL (vp_updL (vp_updL (vp_updL (vp_updL (vp_updL (vp_updL (vp_updL (vp_updL (vp_updL (vp_updL (vp_updL (vp_updL (vp_updL (vp_updL (vp_updL (vp_updL (vp_updL (vp_updL (vp_updL (vp_updL (fun _ => 0) 40 0) 41 0) 42 0) 43 0) 44 0) 45 0) 46 0) 47 0) 48 0) 49 0) 50 0) 51 0) 52 0) 53 0) 54 0) 55 0) 56 0) 57 0) 58 0) 59 0) 60 0) 61 0) 62 0) 63 0) 64 0) 65 0) 66 0) 67 0) 68 0) 69 0) 70 0) 71 0) 72 0) rfl [(a0, .inr (12, [.ref a1, .ref a2, .ref a3, .ref a4, .ref a5, .int 0, .ref a6, .int 0, .int 0, .int 0, .int 0, .int 0, .int 0, .int 0, .int 0, .int 0, .int 0, .int (-1), .ref a7, .ref a8, .int 0, .ref a9, .int 0, .ref a10, .ref a11, .ref a12, .ref a13, .ref a14, .int 0, .ref a15, .ref a16, .ref a17])), (a15, .inl (cy 1, 4, .inl (upd (upd (upd (upd (upd (fun _ => 0) 0 (-1)) 1 (-1)) 2 (-1)) 3 (-1)) 1 x1))), (a16, .inl (cy 1, 4, .inl (upd (fun _ => 0) 1 x2))), (a17, .inl (cy 2, 160, .inr (.inl (vp_updL (vp_updL (vp_updL (vp_updL (vp_updL (vp_updL (vp_updL (vp_updL (vp_updL (vp_updL (vp_updL (vp_updL (vp_updL (vp_updL (vp_updL (vp_updL (vp_updL (vp_updL (vp_updL (vp_updL (vp_updL (vp_updL (vp_updL (vp_updL (vp_updL (vp_updL (vp_updL (vp_updL (vp_updL (vp_updL (vp_updL (vp_updL (vp_updL (fun _ => 0) 40 0) 41 0) 42 0) 43 0) 44 0) 45 0) 46 0) 47 0) 48 0) 49 0) 50 0) 51 0) 52 0) 53 0) 54 0) 55 0) 56 0) 57 0) 58 0) 59 0) 60 0) 61 0) 62 0) 63 0) 64 0) 65 0) 66 0) 67 0) 68 0) 69 0) 70 0) 71 0) 72 0))))] rfl dX12_tray_88 (fun H locs w => ?_)
  refine lv_iinc (v := 33) (lv' := [(4, .int 33), (0, .ref a0), (1, .int 1), (2, .int x1), (3, .int x2)]) C.1 C.2.1 dX12_tray_89 hl (k := 0) rfl (by decide) (by decide) rfl (fun ls hl => ?_)
  refine lv_goto (tgt := 69) C.1 C.2.1 dX12_tray_92 (by decide) ?_
  refine lv_iload C.1 C.2.1 dX12_tray_69 (lv_at hl 0 rfl) ?_
  refine lv_bipush (v := 40) C.1 C.2.1 dX12_tray_71 (by decide) ?_
  refine b_icmp_ge_f C (tgt := 95) dX12_tray_73 (by decide) (by decide) ?_
  refine lv_aload_n C.1 C.2.1 dX12_tray_76 rfl (lv_at hl 1 rfl) ?_
  refine r_get C w 0 rfl rfl 31 (by decide) fl_RX12_64 (v := .ref a17) rfl dX12_tray_77 ?_
  refine lv_bipush (v := 40) C.1 C.2.1 dX12_tray_80 (by decide) ?_
  refine lv_iload_n C.1 C.2.1 dX12_tray_82 rfl (lv_at hl 2 rfl) ?_
  refine r_imul C (v := 40) dX12_tray_83 (by decide) ?_
  refine lv_iload C.1 C.2.1 dX12_tray_84 (lv_at hl 0 rfl) ?_
  refine r_iadd C (v := 73) dX12_tray_86 (by decide) ?_
  refine lv_lconst (v := 0) C.1 C.2.1 dX12_tray_87 (by decide) ?_
  refine r_last C w 3 rfl (vinD (by decide)) (vp_updL (vp_updL (vp_updL (vp_updL (vp_updL (vp_updL (vp_updL (vp_updL (vp_updL (vp_updL (vp_updL (vp_updL (vp_updL (vp_updL (vp_updL (vp_updL (vp_updL (vp_updL (vp_updL (vp_updL (vp_updL (vp_updL (vp_updL (vp_updL (vp_updL (vp_updL (vp_updL (vp_updL (vp_updL (vp_updL (vp_updL (vp_updL (vp_updL (vp_updL (fun _ => 0) 40 0) 41 0) 42 0) 43 0) 44 0) 45 0) 46 0) 47 0) 48 0) 49 0) 50 0) 51 0) 52 0) 53 0) 54 0) 55 0) 56 0) 57 0) 58 0) 59 0) 60 0) 61 0) 62 0) 63 0) 64 0) 65 0) 66 0) 67 0) 68 0) 69 0) 70 0) 71 0) 72 0) 73 0) rfl [(a0, .inr (12, [.ref a1, .ref a2, .ref a3, .ref a4, .ref a5, .int 0, .ref a6, .int 0, .int 0, .int 0, .int 0, .int 0, .int 0, .int 0, .int 0, .int 0, .int 0, .int (-1), .ref a7, .ref a8, .int 0, .ref a9, .int 0, .ref a10, .ref a11, .ref a12, .ref a13, .ref a14, .int 0, .ref a15, .ref a16, .ref a17])), (a15, .inl (cy 1, 4, .inl (upd (upd (upd (upd (upd (fun _ => 0) 0 (-1)) 1 (-1)) 2 (-1)) 3 (-1)) 1 x1))), (a16, .inl (cy 1, 4, .inl (upd (fun _ => 0) 1 x2))), (a17, .inl (cy 2, 160, .inr (.inl (vp_updL (vp_updL (vp_updL (vp_updL (vp_updL (vp_updL (vp_updL (vp_updL (vp_updL (vp_updL (vp_updL (vp_updL (vp_updL (vp_updL (vp_updL (vp_updL (vp_updL (vp_updL (vp_updL (vp_updL (vp_updL (vp_updL (vp_updL (vp_updL (vp_updL (vp_updL (vp_updL (vp_updL (vp_updL (vp_updL (vp_updL (vp_updL (vp_updL (vp_updL (fun _ => 0) 40 0) 41 0) 42 0) 43 0) 44 0) 45 0) 46 0) 47 0) 48 0) 49 0) 50 0) 51 0) 52 0) 53 0) 54 0) 55 0) 56 0) 57 0) 58 0) 59 0) 60 0) 61 0) 62 0) 63 0) 64 0) 65 0) 66 0) 67 0) 68 0) 69 0) 70 0) 71 0) 72 0) 73 0))))] rfl dX12_tray_88 (fun H locs w => ?_)
  refine lv_iinc (v := 34) (lv' := [(4, .int 34), (0, .ref a0), (1, .int 1), (2, .int x1), (3, .int x2)]) C.1 C.2.1 dX12_tray_89 hl (k := 0) rfl (by decide) (by decide) rfl (fun ls hl => ?_)
  refine lv_goto (tgt := 69) C.1 C.2.1 dX12_tray_92 (by decide) ?_
  refine lv_iload C.1 C.2.1 dX12_tray_69 (lv_at hl 0 rfl) ?_
  refine lv_bipush (v := 40) C.1 C.2.1 dX12_tray_71 (by decide) ?_
  refine b_icmp_ge_f C (tgt := 95) dX12_tray_73 (by decide) (by decide) ?_
  refine lv_aload_n C.1 C.2.1 dX12_tray_76 rfl (lv_at hl 1 rfl) ?_
  refine r_get C w 0 rfl rfl 31 (by decide) fl_RX12_64 (v := .ref a17) rfl dX12_tray_77 ?_
  refine lv_bipush (v := 40) C.1 C.2.1 dX12_tray_80 (by decide) ?_
  refine lv_iload_n C.1 C.2.1 dX12_tray_82 rfl (lv_at hl 2 rfl) ?_
  refine r_imul C (v := 40) dX12_tray_83 (by decide) ?_
  refine lv_iload C.1 C.2.1 dX12_tray_84 (lv_at hl 0 rfl) ?_
  refine r_iadd C (v := 74) dX12_tray_86 (by decide) ?_
  refine lv_lconst (v := 0) C.1 C.2.1 dX12_tray_87 (by decide) ?_
  refine r_last C w 3 rfl (vinD (by decide)) (vp_updL (vp_updL (vp_updL (vp_updL (vp_updL (vp_updL (vp_updL (vp_updL (vp_updL (vp_updL (vp_updL (vp_updL (vp_updL (vp_updL (vp_updL (vp_updL (vp_updL (vp_updL (vp_updL (vp_updL (vp_updL (vp_updL (vp_updL (vp_updL (vp_updL (vp_updL (vp_updL (vp_updL (vp_updL (vp_updL (vp_updL (vp_updL (vp_updL (vp_updL (vp_updL (fun _ => 0) 40 0) 41 0) 42 0) 43 0) 44 0) 45 0) 46 0) 47 0) 48 0) 49 0) 50 0) 51 0) 52 0) 53 0) 54 0) 55 0) 56 0) 57 0) 58 0) 59 0) 60 0) 61 0) 62 0) 63 0) 64 0) 65 0) 66 0) 67 0) 68 0) 69 0) 70 0) 71 0) 72 0) 73 0) 74 0) rfl [(a0, .inr (12, [.ref a1, .ref a2, .ref a3, .ref a4, .ref a5, .int 0, .ref a6, .int 0, .int 0, .int 0, .int 0, .int 0, .int 0, .int 0, .int 0, .int 0, .int 0, .int (-1), .ref a7, .ref a8, .int 0, .ref a9, .int 0, .ref a10, .ref a11, .ref a12, .ref a13, .ref a14, .int 0, .ref a15, .ref a16, .ref a17])), (a15, .inl (cy 1, 4, .inl (upd (upd (upd (upd (upd (fun _ => 0) 0 (-1)) 1 (-1)) 2 (-1)) 3 (-1)) 1 x1))), (a16, .inl (cy 1, 4, .inl (upd (fun _ => 0) 1 x2))), (a17, .inl (cy 2, 160, .inr (.inl (vp_updL (vp_updL (vp_updL (vp_updL (vp_updL (vp_updL (vp_updL (vp_updL (vp_updL (vp_updL (vp_updL (vp_updL (vp_updL (vp_updL (vp_updL (vp_updL (vp_updL (vp_updL (vp_updL (vp_updL (vp_updL (vp_updL (vp_updL (vp_updL (vp_updL (vp_updL (vp_updL (vp_updL (vp_updL (vp_updL (vp_updL (vp_updL (vp_updL (vp_updL (vp_updL (fun _ => 0) 40 0) 41 0) 42 0) 43 0) 44 0) 45 0) 46 0) 47 0) 48 0) 49 0) 50 0) 51 0) 52 0) 53 0) 54 0) 55 0) 56 0) 57 0) 58 0) 59 0) 60 0) 61 0) 62 0) 63 0) 64 0) 65 0) 66 0) 67 0) 68 0) 69 0) 70 0) 71 0) 72 0) 73 0) 74 0))))] rfl dX12_tray_88 (fun H locs w => ?_)
  refine lv_iinc (v := 35) (lv' := [(4, .int 35), (0, .ref a0), (1, .int 1), (2, .int x1), (3, .int x2)]) C.1 C.2.1 dX12_tray_89 hl (k := 0) rfl (by decide) (by decide) rfl (fun ls hl => ?_)
  refine lv_goto (tgt := 69) C.1 C.2.1 dX12_tray_92 (by decide) ?_
  refine lv_iload C.1 C.2.1 dX12_tray_69 (lv_at hl 0 rfl) ?_
  refine lv_bipush (v := 40) C.1 C.2.1 dX12_tray_71 (by decide) ?_
  refine b_icmp_ge_f C (tgt := 95) dX12_tray_73 (by decide) (by decide) ?_
  refine lv_aload_n C.1 C.2.1 dX12_tray_76 rfl (lv_at hl 1 rfl) ?_
  refine r_get C w 0 rfl rfl 31 (by decide) fl_RX12_64 (v := .ref a17) rfl dX12_tray_77 ?_
  refine lv_bipush (v := 40) C.1 C.2.1 dX12_tray_80 (by decide) ?_
  refine lv_iload_n C.1 C.2.1 dX12_tray_82 rfl (lv_at hl 2 rfl) ?_
  refine r_imul C (v := 40) dX12_tray_83 (by decide) ?_
  refine lv_iload C.1 C.2.1 dX12_tray_84 (lv_at hl 0 rfl) ?_
  refine r_iadd C (v := 75) dX12_tray_86 (by decide) ?_
  refine lv_lconst (v := 0) C.1 C.2.1 dX12_tray_87 (by decide) ?_
  refine r_last C w 3 rfl (vinD (by decide)) (vp_updL (vp_updL (vp_updL (vp_updL (vp_updL (vp_updL (vp_updL (vp_updL (vp_updL (vp_updL (vp_updL (vp_updL (vp_updL (vp_updL (vp_updL (vp_updL (vp_updL (vp_updL (vp_updL (vp_updL (vp_updL (vp_updL (vp_updL (vp_updL (vp_updL (vp_updL (vp_updL (vp_updL (vp_updL (vp_updL (vp_updL (vp_updL (vp_updL (vp_updL (vp_updL (vp_updL (fun _ => 0) 40 0) 41 0) 42 0) 43 0) 44 0) 45 0) 46 0) 47 0) 48 0) 49 0) 50 0) 51 0) 52 0) 53 0) 54 0) 55 0) 56 0) 57 0) 58 0) 59 0) 60 0) 61 0) 62 0) 63 0) 64 0) 65 0) 66 0) 67 0) 68 0) 69 0) 70 0) 71 0) 72 0) 73 0) 74 0) 75 0) rfl [(a0, .inr (12, [.ref a1, .ref a2, .ref a3, .ref a4, .ref a5, .int 0, .ref a6, .int 0, .int 0, .int 0, .int 0, .int 0, .int 0, .int 0, .int 0, .int 0, .int 0, .int (-1), .ref a7, .ref a8, .int 0, .ref a9, .int 0, .ref a10, .ref a11, .ref a12, .ref a13, .ref a14, .int 0, .ref a15, .ref a16, .ref a17])), (a15, .inl (cy 1, 4, .inl (upd (upd (upd (upd (upd (fun _ => 0) 0 (-1)) 1 (-1)) 2 (-1)) 3 (-1)) 1 x1))), (a16, .inl (cy 1, 4, .inl (upd (fun _ => 0) 1 x2))), (a17, .inl (cy 2, 160, .inr (.inl (vp_updL (vp_updL (vp_updL (vp_updL (vp_updL (vp_updL (vp_updL (vp_updL (vp_updL (vp_updL (vp_updL (vp_updL (vp_updL (vp_updL (vp_updL (vp_updL (vp_updL (vp_updL (vp_updL (vp_updL (vp_updL (vp_updL (vp_updL (vp_updL (vp_updL (vp_updL (vp_updL (vp_updL (vp_updL (vp_updL (vp_updL (vp_updL (vp_updL (vp_updL (vp_updL (vp_updL (fun _ => 0) 40 0) 41 0) 42 0) 43 0) 44 0) 45 0) 46 0) 47 0) 48 0) 49 0) 50 0) 51 0) 52 0) 53 0) 54 0) 55 0) 56 0) 57 0) 58 0) 59 0) 60 0) 61 0) 62 0) 63 0) 64 0) 65 0) 66 0) 67 0) 68 0) 69 0) 70 0) 71 0) 72 0) 73 0) 74 0) 75 0))))] rfl dX12_tray_88 (fun H locs w => ?_)
  refine lv_iinc (v := 36) (lv' := [(4, .int 36), (0, .ref a0), (1, .int 1), (2, .int x1), (3, .int x2)]) C.1 C.2.1 dX12_tray_89 hl (k := 0) rfl (by decide) (by decide) rfl (fun ls hl => ?_)
  refine lv_goto (tgt := 69) C.1 C.2.1 dX12_tray_92 (by decide) ?_
  refine lv_iload C.1 C.2.1 dX12_tray_69 (lv_at hl 0 rfl) ?_
  refine lv_bipush (v := 40) C.1 C.2.1 dX12_tray_71 (by decide) ?_
  refine b_icmp_ge_f C (tgt := 95) dX12_tray_73 (by decide) (by decide) ?_
  refine lv_aload_n C.1 C.2.1 dX12_tray_76 rfl (lv_at hl 1 rfl) ?_
  refine r_get C w 0 rfl rfl 31 (by decide) fl_RX12_64 (v := .ref a17) rfl dX12_tray_77 ?_
  refine lv_bipush (v := 40) C.1 C.2.1 dX12_tray_80 (by decide) ?_
  refine lv_iload_n C.1 C.2.1 dX12_tray_82 rfl (lv_at hl 2 rfl) ?_
  refine r_imul C (v := 40) dX12_tray_83 (by decide) ?_
  refine lv_iload C.1 C.2.1 dX12_tray_84 (lv_at hl 0 rfl) ?_
  refine r_iadd C (v := 76) dX12_tray_86 (by decide) ?_
  refine lv_lconst (v := 0) C.1 C.2.1 dX12_tray_87 (by decide) ?_
  refine r_last C w 3 rfl (vinD (by decide)) (vp_updL (vp_updL (vp_updL (vp_updL (vp_updL (vp_updL (vp_updL (vp_updL (vp_updL (vp_updL (vp_updL (vp_updL (vp_updL (vp_updL (vp_updL (vp_updL (vp_updL (vp_updL (vp_updL (vp_updL (vp_updL (vp_updL (vp_updL (vp_updL (vp_updL (vp_updL (vp_updL (vp_updL (vp_updL (vp_updL (vp_updL (vp_updL (vp_updL (vp_updL (vp_updL (vp_updL (vp_updL (fun _ => 0) 40 0) 41 0) 42 0) 43 0) 44 0) 45 0) 46 0) 47 0) 48 0) 49 0) 50 0) 51 0) 52 0) 53 0) 54 0) 55 0) 56 0) 57 0) 58 0) 59 0) 60 0) 61 0) 62 0) 63 0) 64 0) 65 0) 66 0) 67 0) 68 0) 69 0) 70 0) 71 0) 72 0) 73 0) 74 0) 75 0) 76 0) rfl [(a0, .inr (12, [.ref a1, .ref a2, .ref a3, .ref a4, .ref a5, .int 0, .ref a6, .int 0, .int 0, .int 0, .int 0, .int 0, .int 0, .int 0, .int 0, .int 0, .int 0, .int (-1), .ref a7, .ref a8, .int 0, .ref a9, .int 0, .ref a10, .ref a11, .ref a12, .ref a13, .ref a14, .int 0, .ref a15, .ref a16, .ref a17])), (a15, .inl (cy 1, 4, .inl (upd (upd (upd (upd (upd (fun _ => 0) 0 (-1)) 1 (-1)) 2 (-1)) 3 (-1)) 1 x1))), (a16, .inl (cy 1, 4, .inl (upd (fun _ => 0) 1 x2))), (a17, .inl (cy 2, 160, .inr (.inl (vp_updL (vp_updL (vp_updL (vp_updL (vp_updL (vp_updL (vp_updL (vp_updL (vp_updL (vp_updL (vp_updL (vp_updL (vp_updL (vp_updL (vp_updL (vp_updL (vp_updL (vp_updL (vp_updL (vp_updL (vp_updL (vp_updL (vp_updL (vp_updL (vp_updL (vp_updL (vp_updL (vp_updL (vp_updL (vp_updL (vp_updL (vp_updL (vp_updL (vp_updL (vp_updL (vp_updL (vp_updL (fun _ => 0) 40 0) 41 0) 42 0) 43 0) 44 0) 45 0) 46 0) 47 0) 48 0) 49 0) 50 0) 51 0) 52 0) 53 0) 54 0) 55 0) 56 0) 57 0) 58 0) 59 0) 60 0) 61 0) 62 0) 63 0) 64 0) 65 0) 66 0) 67 0) 68 0) 69 0) 70 0) 71 0) 72 0) 73 0) 74 0) 75 0) 76 0))))] rfl dX12_tray_88 (fun H locs w => ?_)
  refine lv_iinc (v := 37) (lv' := [(4, .int 37), (0, .ref a0), (1, .int 1), (2, .int x1), (3, .int x2)]) C.1 C.2.1 dX12_tray_89 hl (k := 0) rfl (by decide) (by decide) rfl (fun ls hl => ?_)
  refine lv_goto (tgt := 69) C.1 C.2.1 dX12_tray_92 (by decide) ?_
  refine lv_iload C.1 C.2.1 dX12_tray_69 (lv_at hl 0 rfl) ?_
  refine lv_bipush (v := 40) C.1 C.2.1 dX12_tray_71 (by decide) ?_
  refine b_icmp_ge_f C (tgt := 95) dX12_tray_73 (by decide) (by decide) ?_
  refine lv_aload_n C.1 C.2.1 dX12_tray_76 rfl (lv_at hl 1 rfl) ?_
  refine r_get C w 0 rfl rfl 31 (by decide) fl_RX12_64 (v := .ref a17) rfl dX12_tray_77 ?_
  refine lv_bipush (v := 40) C.1 C.2.1 dX12_tray_80 (by decide) ?_
  refine lv_iload_n C.1 C.2.1 dX12_tray_82 rfl (lv_at hl 2 rfl) ?_
  refine r_imul C (v := 40) dX12_tray_83 (by decide) ?_
  refine lv_iload C.1 C.2.1 dX12_tray_84 (lv_at hl 0 rfl) ?_
  refine r_iadd C (v := 77) dX12_tray_86 (by decide) ?_
  refine lv_lconst (v := 0) C.1 C.2.1 dX12_tray_87 (by decide) ?_
  refine r_last C w 3 rfl (vinD (by decide)) (vp_updL (vp_updL (vp_updL (vp_updL (vp_updL (vp_updL (vp_updL (vp_updL (vp_updL (vp_updL (vp_updL (vp_updL (vp_updL (vp_updL (vp_updL (vp_updL (vp_updL (vp_updL (vp_updL (vp_updL (vp_updL (vp_updL (vp_updL (vp_updL (vp_updL (vp_updL (vp_updL (vp_updL (vp_updL (vp_updL (vp_updL (vp_updL (vp_updL (vp_updL (vp_updL (vp_updL (vp_updL (vp_updL (fun _ => 0) 40 0) 41 0) 42 0) 43 0) 44 0) 45 0) 46 0) 47 0) 48 0) 49 0) 50 0) 51 0) 52 0) 53 0) 54 0) 55 0) 56 0) 57 0) 58 0) 59 0) 60 0) 61 0) 62 0) 63 0) 64 0) 65 0) 66 0) 67 0) 68 0) 69 0) 70 0) 71 0) 72 0) 73 0) 74 0) 75 0) 76 0) 77 0) rfl [(a0, .inr (12, [.ref a1, .ref a2, .ref a3, .ref a4, .ref a5, .int 0, .ref a6, .int 0, .int 0, .int 0, .int 0, .int 0, .int 0, .int 0, .int 0, .int 0, .int 0, .int (-1), .ref a7, .ref a8, .int 0, .ref a9, .int 0, .ref a10, .ref a11, .ref a12, .ref a13, .ref a14, .int 0, .ref a15, .ref a16, .ref a17])), (a15, .inl (cy 1, 4, .inl (upd (upd (upd (upd (upd (fun _ => 0) 0 (-1)) 1 (-1)) 2 (-1)) 3 (-1)) 1 x1))), (a16, .inl (cy 1, 4, .inl (upd (fun _ => 0) 1 x2))), (a17, .inl (cy 2, 160, .inr (.inl (vp_updL (vp_updL (vp_updL (vp_updL (vp_updL (vp_updL (vp_updL (vp_updL (vp_updL (vp_updL (vp_updL (vp_updL (vp_updL (vp_updL (vp_updL (vp_updL (vp_updL (vp_updL (vp_updL (vp_updL (vp_updL (vp_updL (vp_updL (vp_updL (vp_updL (vp_updL (vp_updL (vp_updL (vp_updL (vp_updL (vp_updL (vp_updL (vp_updL (vp_updL (vp_updL (vp_updL (vp_updL (vp_updL (fun _ => 0) 40 0) 41 0) 42 0) 43 0) 44 0) 45 0) 46 0) 47 0) 48 0) 49 0) 50 0) 51 0) 52 0) 53 0) 54 0) 55 0) 56 0) 57 0) 58 0) 59 0) 60 0) 61 0) 62 0) 63 0) 64 0) 65 0) 66 0) 67 0) 68 0) 69 0) 70 0) 71 0) 72 0) 73 0) 74 0) 75 0) 76 0) 77 0))))] rfl dX12_tray_88 (fun H locs w => ?_)
  refine lv_iinc (v := 38) (lv' := [(4, .int 38), (0, .ref a0), (1, .int 1), (2, .int x1), (3, .int x2)]) C.1 C.2.1 dX12_tray_89 hl (k := 0) rfl (by decide) (by decide) rfl (fun ls hl => ?_)
  refine lv_goto (tgt := 69) C.1 C.2.1 dX12_tray_92 (by decide) ?_
  refine lv_iload C.1 C.2.1 dX12_tray_69 (lv_at hl 0 rfl) ?_
  refine lv_bipush (v := 40) C.1 C.2.1 dX12_tray_71 (by decide) ?_
  refine b_icmp_ge_f C (tgt := 95) dX12_tray_73 (by decide) (by decide) ?_
  refine lv_aload_n C.1 C.2.1 dX12_tray_76 rfl (lv_at hl 1 rfl) ?_
  refine r_get C w 0 rfl rfl 31 (by decide) fl_RX12_64 (v := .ref a17) rfl dX12_tray_77 ?_
  refine lv_bipush (v := 40) C.1 C.2.1 dX12_tray_80 (by decide) ?_
  refine lv_iload_n C.1 C.2.1 dX12_tray_82 rfl (lv_at hl 2 rfl) ?_
  refine r_imul C (v := 40) dX12_tray_83 (by decide) ?_
  refine lv_iload C.1 C.2.1 dX12_tray_84 (lv_at hl 0 rfl) ?_
  refine r_iadd C (v := 78) dX12_tray_86 (by decide) ?_
  refine lv_lconst (v := 0) C.1 C.2.1 dX12_tray_87 (by decide) ?_
  refine r_last C w 3 rfl (vinD (by decide)) (vp_updL (vp_updL (vp_updL (vp_updL (vp_updL (vp_updL (vp_updL (vp_updL (vp_updL (vp_updL (vp_updL (vp_updL (vp_updL (vp_updL (vp_updL (vp_updL (vp_updL (vp_updL (vp_updL (vp_updL (vp_updL (vp_updL (vp_updL (vp_updL (vp_updL (vp_updL (vp_updL (vp_updL (vp_updL (vp_updL (vp_updL (vp_updL (vp_updL (vp_updL (vp_updL (vp_updL (vp_updL (vp_updL (vp_updL (fun _ => 0) 40 0) 41 0) 42 0) 43 0) 44 0) 45 0) 46 0) 47 0) 48 0) 49 0) 50 0) 51 0) 52 0) 53 0) 54 0) 55 0) 56 0) 57 0) 58 0) 59 0) 60 0) 61 0) 62 0) 63 0) 64 0) 65 0) 66 0) 67 0) 68 0) 69 0) 70 0) 71 0) 72 0) 73 0) 74 0) 75 0) 76 0) 77 0) 78 0) rfl [(a0, .inr (12, [.ref a1, .ref a2, .ref a3, .ref a4, .ref a5, .int 0, .ref a6, .int 0, .int 0, .int 0, .int 0, .int 0, .int 0, .int 0, .int 0, .int 0, .int 0, .int (-1), .ref a7, .ref a8, .int 0, .ref a9, .int 0, .ref a10, .ref a11, .ref a12, .ref a13, .ref a14, .int 0, .ref a15, .ref a16, .ref a17])), (a15, .inl (cy 1, 4, .inl (upd (upd (upd (upd (upd (fun _ => 0) 0 (-1)) 1 (-1)) 2 (-1)) 3 (-1)) 1 x1))), (a16, .inl (cy 1, 4, .inl (upd (fun _ => 0) 1 x2))), (a17, .inl (cy 2, 160, .inr (.inl (vp_updL (vp_updL (vp_updL (vp_updL (vp_updL (vp_updL (vp_updL (vp_updL (vp_updL (vp_updL (vp_updL (vp_updL (vp_updL (vp_updL (vp_updL (vp_updL (vp_updL (vp_updL (vp_updL (vp_updL (vp_updL (vp_updL (vp_updL (vp_updL (vp_updL (vp_updL (vp_updL (vp_updL (vp_updL (vp_updL (vp_updL (vp_updL (vp_updL (vp_updL (vp_updL (vp_updL (vp_updL (vp_updL (vp_updL (fun _ => 0) 40 0) 41 0) 42 0) 43 0) 44 0) 45 0) 46 0) 47 0) 48 0) 49 0) 50 0) 51 0) 52 0) 53 0) 54 0) 55 0) 56 0) 57 0) 58 0) 59 0) 60 0) 61 0) 62 0) 63 0) 64 0) 65 0) 66 0) 67 0) 68 0) 69 0) 70 0) 71 0) 72 0) 73 0) 74 0) 75 0) 76 0) 77 0) 78 0))))] rfl dX12_tray_88 (fun H locs w => ?_)
  refine lv_iinc (v := 39) (lv' := [(4, .int 39), (0, .ref a0), (1, .int 1), (2, .int x1), (3, .int x2)]) C.1 C.2.1 dX12_tray_89 hl (k := 0) rfl (by decide) (by decide) rfl (fun ls hl => ?_)
  refine lv_goto (tgt := 69) C.1 C.2.1 dX12_tray_92 (by decide) ?_
  refine lv_iload C.1 C.2.1 dX12_tray_69 (lv_at hl 0 rfl) ?_
  refine lv_bipush (v := 40) C.1 C.2.1 dX12_tray_71 (by decide) ?_
  refine b_icmp_ge_f C (tgt := 95) dX12_tray_73 (by decide) (by decide) ?_
  refine lv_aload_n C.1 C.2.1 dX12_tray_76 rfl (lv_at hl 1 rfl) ?_
  refine r_get C w 0 rfl rfl 31 (by decide) fl_RX12_64 (v := .ref a17) rfl dX12_tray_77 ?_
  refine lv_bipush (v := 40) C.1 C.2.1 dX12_tray_80 (by decide) ?_
  refine lv_iload_n C.1 C.2.1 dX12_tray_82 rfl (lv_at hl 2 rfl) ?_
  refine r_imul C (v := 40) dX12_tray_83 (by decide) ?_
  refine lv_iload C.1 C.2.1 dX12_tray_84 (lv_at hl 0 rfl) ?_
  refine r_iadd C (v := 79) dX12_tray_86 (by decide) ?_
  refine lv_lconst (v := 0) C.1 C.2.1 dX12_tray_87 (by decide) ?_
  refine r_last C w 3 rfl (vinD (by decide)) (vp_updL (vp_updL (vp_updL (vp_updL (vp_updL (vp_updL (vp_updL (vp_updL (vp_updL (vp_updL (vp_updL (vp_updL (vp_updL (vp_updL (vp_updL (vp_updL (vp_updL (vp_updL (vp_updL (vp_updL (vp_updL (vp_updL (vp_updL (vp_updL (vp_updL (vp_updL (vp_updL (vp_updL (vp_updL (vp_updL (vp_updL (vp_updL (vp_updL (vp_updL (vp_updL (vp_updL (vp_updL (vp_updL (vp_updL (vp_updL (fun _ => 0) 40 0) 41 0) 42 0) 43 0) 44 0) 45 0) 46 0) 47 0) 48 0) 49 0) 50 0) 51 0) 52 0) 53 0) 54 0) 55 0) 56 0) 57 0) 58 0) 59 0) 60 0) 61 0) 62 0) 63 0) 64 0) 65 0) 66 0) 67 0) 68 0) 69 0) 70 0) 71 0) 72 0) 73 0) 74 0) 75 0) 76 0) 77 0) 78 0) 79 0) rfl [(a0, .inr (12, [.ref a1, .ref a2, .ref a3, .ref a4, .ref a5, .int 0, .ref a6, .int 0, .int 0, .int 0, .int 0, .int 0, .int 0, .int 0, .int 0, .int 0, .int 0, .int (-1), .ref a7, .ref a8, .int 0, .ref a9, .int 0, .ref a10, .ref a11, .ref a12, .ref a13, .ref a14, .int 0, .ref a15, .ref a16, .ref a17])), (a15, .inl (cy 1, 4, .inl (upd (upd (upd (upd (upd (fun _ => 0) 0 (-1)) 1 (-1)) 2 (-1)) 3 (-1)) 1 x1))), (a16, .inl (cy 1, 4, .inl (upd (fun _ => 0) 1 x2))), (a17, .inl (cy 2, 160, .inr (.inl (vp_updL (vp_updL (vp_updL (vp_updL (vp_updL (vp_updL (vp_updL (vp_updL (vp_updL (vp_updL (vp_updL (vp_updL (vp_updL (vp_updL (vp_updL (vp_updL (vp_updL (vp_updL (vp_updL (vp_updL (vp_updL (vp_updL (vp_updL (vp_updL (vp_updL (vp_updL (vp_updL (vp_updL (vp_updL (vp_updL (vp_updL (vp_updL (vp_updL (vp_updL (vp_updL (vp_updL (vp_updL (vp_updL (vp_updL (vp_updL (fun _ => 0) 40 0) 41 0) 42 0) 43 0) 44 0) 45 0) 46 0) 47 0) 48 0) 49 0) 50 0) 51 0) 52 0) 53 0) 54 0) 55 0) 56 0) 57 0) 58 0) 59 0) 60 0) 61 0) 62 0) 63 0) 64 0) 65 0) 66 0) 67 0) 68 0) 69 0) 70 0) 71 0) 72 0) 73 0) 74 0) 75 0) 76 0) 77 0) 78 0) 79 0))))] rfl dX12_tray_88 (fun H locs w => ?_)
  refine lv_iinc (v := 40) (lv' := [(4, .int 40), (0, .ref a0), (1, .int 1), (2, .int x1), (3, .int x2)]) C.1 C.2.1 dX12_tray_89 hl (k := 0) rfl (by decide) (by decide) rfl (fun ls hl => ?_)
  refine lv_goto (tgt := 69) C.1 C.2.1 dX12_tray_92 (by decide) ?_
  refine lv_iload C.1 C.2.1 dX12_tray_69 (lv_at hl 0 rfl) ?_
  refine lv_bipush (v := 40) C.1 C.2.1 dX12_tray_71 (by decide) ?_
  refine b_icmp_ge_t C (tgt := 95) dX12_tray_73 (by decide) (by decide) ?_
  exact r_vret C w hlocks () hr rfl trivial [0, 1, 2, 3] rfl rfl ⟨Nat.le_of_ble_eq_true rfl, Nat.le_of_ble_eq_true rfl⟩ dX12_tray_95
set_option maxRecDepth 100000 in
set_option maxHeartbeats 4000000 in
theorem c_X12_tray_8 (l : Launch) (D : va_G) (cy : Nat → ClassId) (a0 a1 a2 a3 a4 a5 a6 a7 a8 a9 a10 a11 a12 a13 a14 a15 a16 a17 : Nat) (x0 : Int32) (x1 : Int32) (x2 : Int32) (k0 : ¬ x0 < 0) (k1 : ¬ 3 < x0) (k2 : ¬ x1 < 0) (k3 : ¬ 3 < x1) (k4 : ¬ x2 < 0) (k5 : 40 < x2) : Ct l D cy yX12_tray cX12_tray 5 none 2 45 0 0 [(a0, .inr (12, [.ref a1, .ref a2, .ref a3, .ref a4, .ref a5, .int 0, .ref a6, .int 0, .int 0, .int 0, .int 0, .int 0, .int 0, .int 0, .int 0, .int 0, .int 0, .int (-1), .ref a7, .ref a8, .int 0, .ref a9, .int 0, .ref a10, .ref a11, .ref a12, .ref a13, .ref a14, .int 0, .ref a15, .ref a16, .ref a17]))] [.ref a0, .int x0, .int x1, .int x2] (fun u : Unit => none) (fun _ => True) (fun u : Unit => [(a0, .inr (12, [.ref a1, .ref a2, .ref a3, .ref a4, .ref a5, .int 2, .ref a6, .int 0, .int 0, .int 0, .int 0, .int 0, .int 0, .int 0, .int 0, .int 0, .int 0, .int (-1), .ref a7, .ref a8, .int 0, .ref a9, .int 0, .ref a10, .ref a11, .ref a12, .ref a13, .ref a14, .int 0, .ref a15, .ref a16, .ref a17]))]) := by
  refine Ct.of (by decide +kernel) (Nat.le_of_ble_eq_true rfl) ?_
  intro p e s m args below meth c A ls C hr hlocks hml hnm w hl
  have hl : lv_has ls 5 [(0, .ref a0), (1, .int x0), (2, .int x1), (3, .int x2)] := hl
  refine lv_aload_n C.1 C.2.1 dX12_tray_0 rfl (lv_at hl 0 rfl) ?_
  refine lv_iload_n C.1 C.2.1 dX12_tray_1 rfl (lv_at hl 1 rfl) ?_
  refine r_callS C w fs_RX12_403 (c_X12_isTray_1 l D cy x0 k0 k1) (hl.1.trans hml.symm) [] [0] (wr := [(a0, .inr (12, [.ref a1, .ref a2, .ref a3, .ref a4, .ref a5, .int 0, .ref a6, .int 0, .int 0, .int 0, .int 0, .int 0, .int 0, .int 0, .int 0, .int 0, .int 0, .int (-1), .ref a7, .ref a8, .int 0, .ref a9, .int 0, .ref a10, .ref a11, .ref a12, .ref a13, .ref a14, .int 0, .ref a15, .ref a16, .ref a17]))]) ⟨rfl, rfl, rfl, rfl, by decide⟩ rfl rfl ⟨Nat.le_of_ble_eq_true rfl, Nat.le_of_ble_eq_true rfl, Nat.le_of_ble_eq_true rfl⟩ 0 0 ⟨rfl, rfl, Nat.le_of_ble_eq_true rfl, Nat.le_of_ble_eq_true rfl⟩ dX12_tray_2 (fun u H locs hp w => ?_)
  have w : Wd D A s.heap [(a0, .inr (12, [.ref a1, .ref a2, .ref a3, .ref a4, .ref a5, .int 0, .ref a6, .int 0, .int 0, .int 0, .int 0, .int 0, .int 0, .int 0, .int 0, .int 0, .int 0, .int (-1), .ref a7, .ref a8, .int 0, .ref a9, .int 0, .ref a10, .ref a11, .ref a12, .ref a13, .ref a14, .int 0, .ref a15, .ref a16, .ref a17]))] _ _ := w
  refine r_top (g2 := F0 m 5 ls [.int 1, .ref a0]) rfl ?_
  refine b_if_ne_t C (tgt := 12) dX12_tray_5 (by decide) (by decide) ?_
  refine lv_iload_n C.1 C.2.1 dX12_tray_12 rfl (lv_at hl 2 rfl) ?_
  refine lv_i2l (v := (Int32.toInt64 x1)) C.1 C.2.1 dX12_tray_13 rfl ?_
  refine lv_lconst (v := 0) C.1 C.2.1 dX12_tray_14 (by decide) ?_
  refine lv_ldc2 (v := 3) C.1 C.2.1 C.2.2.1 (C.2.2.2.1 _ kl_RX12_279) dX12_tray_15 ?_
  refine r_callS C w fs_RX12_133 (c_X12_within_27 l D cy x1 k2 k3) (hl.1.trans hml.symm) [] [0] (wr := [(a0, .inr (12, [.ref a1, .ref a2, .ref a3, .ref a4, .ref a5, .int 0, .ref a6, .int 0, .int 0, .int 0, .int 0, .int 0, .int 0, .int 0, .int 0, .int 0, .int 0, .int (-1), .ref a7, .ref a8, .int 0, .ref a9, .int 0, .ref a10, .ref a11, .ref a12, .ref a13, .ref a14, .int 0, .ref a15, .ref a16, .ref a17]))]) ⟨rfl, rfl, rfl, rfl, by decide⟩ rfl rfl ⟨Nat.le_of_ble_eq_true rfl, Nat.le_of_ble_eq_true rfl, Nat.le_of_ble_eq_true rfl⟩ 0 0 ⟨rfl, rfl, Nat.le_of_ble_eq_true rfl, Nat.le_of_ble_eq_true rfl⟩ dX12_tray_18 (fun u H locs hp w => ?_)
  have w : Wd D A s.heap [(a0, .inr (12, [.ref a1, .ref a2, .ref a3, .ref a4, .ref a5, .int 0, .ref a6, .int 0, .int 0, .int 0, .int 0, .int 0, .int 0, .int 0, .int 0, .int 0, .int 0, .int (-1), .ref a7, .ref a8, .int 0, .ref a9, .int 0, .ref a10, .ref a11, .ref a12, .ref a13, .ref a14, .int 0, .ref a15, .ref a16, .ref a17]))] _ _ := w
  refine r_top (g2 := F0 m 21 ls [.int 1, .ref a0]) rfl ?_
  refine b_if_eq_f C (tgt := 36) dX12_tray_21 (by decide) (by decide) ?_
  refine lv_iload_n C.1 C.2.1 dX12_tray_24 rfl (lv_at hl 3 rfl) ?_
  refine lv_i2l (v := (Int32.toInt64 x2)) C.1 C.2.1 dX12_tray_25 rfl ?_
  refine lv_lconst (v := 0) C.1 C.2.1 dX12_tray_26 (by decide) ?_
  refine lv_ldc2 (v := 40) C.1 C.2.1 C.2.2.1 (C.2.2.2.1 _ kl_RX12_409) dX12_tray_27 ?_
  refine r_callS C w fs_RX12_133 (c_X12_within_33 l D cy x2 k4 k5) (hl.1.trans hml.symm) [] [0] (wr := [(a0, .inr (12, [.ref a1, .ref a2, .ref a3, .ref a4, .ref a5, .int 0, .ref a6, .int 0, .int 0, .int 0, .int 0, .int 0, .int 0, .int 0, .int 0, .int 0, .int 0, .int (-1), .ref a7, .ref a8, .int 0, .ref a9, .int 0, .ref a10, .ref a11, .ref a12, .ref a13, .ref a14, .int 0, .ref a15, .ref a16, .ref a17]))]) ⟨rfl, rfl, rfl, rfl, by decide⟩ rfl rfl ⟨Nat.le_of_ble_eq_true rfl, Nat.le_of_ble_eq_true rfl, Nat.le_of_ble_eq_true rfl⟩ 0 0 ⟨rfl, rfl, Nat.le_of_ble_eq_true rfl, Nat.le_of_ble_eq_true rfl⟩ dX12_tray_30 (fun u H locs hp w => ?_)
  have w : Wd D A s.heap [(a0, .inr (12, [.ref a1, .ref a2, .ref a3, .ref a4, .ref a5, .int 0, .ref a6, .int 0, .int 0, .int 0, .int 0, .int 0, .int 0, .int 0, .int 0, .int 0, .int 0, .int (-1), .ref a7, .ref a8, .int 0, .ref a9, .int 0, .ref a10, .ref a11, .ref a12, .ref a13, .ref a14, .int 0, .ref a15, .ref a16, .ref a17]))] _ _ := w
  refine r_top (g2 := F0 m 33 ls [.int 0, .ref a0]) rfl ?_
  refine b_if_ne_f C (tgt := 40) dX12_tray_33 (by decide) (by decide) ?_
  refine lv_iconst (v := 2) C.1 C.2.1 dX12_tray_36 (by decide) ?_
  refine lv_goto (tgt := 41) C.1 C.2.1 dX12_tray_37 (by decide) ?_
  refine r_put C w 0 rfl rfl 5 (by decide) fl_RX12_71 rfl (ty := .int) (tyX12_ok 5 (by decide)) rfl rfl (Nat.le_of_ble_eq_true rfl) [(a0, .inr (12, [.ref a1, .ref a2, .ref a3, .ref a4, .ref a5, .int 2, .ref a6, .int 0, .int 0, .int 0, .int 0, .int 0, .int 0, .int 0, .int 0, .int 0, .int 0, .int (-1), .ref a7, .ref a8, .int 0, .ref a9, .int 0, .ref a10, .ref a11, .ref a12, .ref a13, .ref a14, .int 0, .ref a15, .ref a16, .ref a17]))] rfl dX12_tray_41 (fun H locs w => ?_)
  refine lv_aload_n C.1 C.2.1 dX12_tray_44 rfl (lv_at hl 0 rfl) ?_
  refine r_get C w 0 rfl rfl 5 (by decide) fl_RX12_71 (v := .int 2) rfl dX12_tray_45 ?_
  refine b_if_le_f C (tgt := 52) dX12_tray_48 (by decide) (by decide) ?_
  exact r_vret C w hlocks () hr rfl trivial [0] rfl rfl ⟨Nat.le_of_ble_eq_true rfl, Nat.le_of_ble_eq_true rfl⟩ dX12_tray_51
set_option maxRecDepth 100000 in
set_option maxHeartbeats 4000000 in
theorem c_X12_tray_9 (l : Launch) (D : va_G) (cy : Nat → ClassId) (a0 a1 a2 a3 a4 a5 a6 a7 a8 a9 a10 a11 a12 a13 a14 a15 a16 a17 : Nat) (x0 : Int32) (x1 : Int32) (x2 : Int32) (k0 : ¬ x0 < 0) (k1 : ¬ 3 < x0) (k2 : ¬ x1 < 0) (k3 : 3 < x1) : Ct l D cy yX12_tray cX12_tray 5 none 2 45 0 0 [(a0, .inr (12, [.ref a1, .ref a2, .ref a3, .ref a4, .ref a5, .int 0, .ref a6, .int 0, .int 0, .int 0, .int 0, .int 0, .int 0, .int 0, .int 0, .int 0, .int 0, .int (-1), .ref a7, .ref a8, .int 0, .ref a9, .int 0, .ref a10, .ref a11, .ref a12, .ref a13, .ref a14, .int 0, .ref a15, .ref a16, .ref a17]))] [.ref a0, .int x0, .int x1, .int x2] (fun u : Unit => none) (fun _ => True) (fun u : Unit => [(a0, .inr (12, [.ref a1, .ref a2, .ref a3, .ref a4, .ref a5, .int 2, .ref a6, .int 0, .int 0, .int 0, .int 0, .int 0, .int 0, .int 0, .int 0, .int 0, .int 0, .int (-1), .ref a7, .ref a8, .int 0, .ref a9, .int 0, .ref a10, .ref a11, .ref a12, .ref a13, .ref a14, .int 0, .ref a15, .ref a16, .ref a17]))]) := by
  refine Ct.of (by decide +kernel) (Nat.le_of_ble_eq_true rfl) ?_
  intro p e s m args below meth c A ls C hr hlocks hml hnm w hl
  have hl : lv_has ls 5 [(0, .ref a0), (1, .int x0), (2, .int x1), (3, .int x2)] := hl
  refine lv_aload_n C.1 C.2.1 dX12_tray_0 rfl (lv_at hl 0 rfl) ?_
  refine lv_iload_n C.1 C.2.1 dX12_tray_1 rfl (lv_at hl 1 rfl) ?_
  refine r_callS C w fs_RX12_403 (c_X12_isTray_1 l D cy x0 k0 k1) (hl.1.trans hml.symm) [] [0] (wr := [(a0, .inr (12, [.ref a1, .ref a2, .ref a3, .ref a4, .ref a5, .int 0, .ref a6, .int 0, .int 0, .int 0, .int 0, .int 0, .int 0, .int 0, .int 0, .int 0, .int 0, .int (-1), .ref a7, .ref a8, .int 0, .ref a9, .int 0, .ref a10, .ref a11, .ref a12, .ref a13, .ref a14, .int 0, .ref a15, .ref a16, .ref a17]))]) ⟨rfl, rfl, rfl, rfl, by decide⟩ rfl rfl ⟨Nat.le_of_ble_eq_true rfl, Nat.le_of_ble_eq_true rfl, Nat.le_of_ble_eq_true rfl⟩ 0 0 ⟨rfl, rfl, Nat.le_of_ble_eq_true rfl, Nat.le_of_ble_eq_true rfl⟩ dX12_tray_2 (fun u H locs hp w => ?_)
  have w : Wd D A s.heap [(a0, .inr (12, [.ref a1, .ref a2, .ref a3, .ref a4, .ref a5, .int 0, .ref a6, .int 0, .int 0, .int 0, .int 0, .int 0, .int 0, .int 0, .int 0, .int 0, .int 0, .int (-1), .ref a7, .ref a8, .int 0, .ref a9, .int 0, .ref a10, .ref a11, .ref a12, .ref a13, .ref a14, .int 0, .ref a15, .ref a16, .ref a17]))] _ _ := w
  refine r_top (g2 := F0 m 5 ls [.int 1, .ref a0]) rfl ?_
  refine b_if_ne_t C (tgt := 12) dX12_tray_5 (by decide) (by decide) ?_
  refine lv_iload_n C.1 C.2.1 dX12_tray_12 rfl (lv_at hl 2 rfl) ?_
  refine lv_i2l (v := (Int32.toInt64 x1)) C.1 C.2.1 dX12_tray_13 rfl ?_
  refine lv_lconst (v := 0) C.1 C.2.1 dX12_tray_14 (by decide) ?_
  refine lv_ldc2 (v := 3) C.1 C.2.1 C.2.2.1 (C.2.2.2.1 _ kl_RX12_279) dX12_tray_15 ?_
  refine r_callS C w fs_RX12_133 (c_X12_within_26 l D cy x1 k2 k3) (hl.1.trans hml.symm) [] [0] (wr := [(a0, .inr (12, [.ref a1, .ref a2, .ref a3, .ref a4, .ref a5, .int 0, .ref a6, .int 0, .int 0, .int 0, .int 0, .int 0, .int 0, .int 0, .int 0, .int 0, .int 0, .int (-1), .ref a7, .ref a8, .int 0, .ref a9, .int 0, .ref a10, .ref a11, .ref a12, .ref a13, .ref a14, .int 0, .ref a15, .ref a16, .ref a17]))]) ⟨rfl, rfl, rfl, rfl, by decide⟩ rfl rfl ⟨Nat.le_of_ble_eq_true rfl, Nat.le_of_ble_eq_true rfl, Nat.le_of_ble_eq_true rfl⟩ 0 0 ⟨rfl, rfl, Nat.le_of_ble_eq_true rfl, Nat.le_of_ble_eq_true rfl⟩ dX12_tray_18 (fun u H locs hp w => ?_)
  have w : Wd D A s.heap [(a0, .inr (12, [.ref a1, .ref a2, .ref a3, .ref a4, .ref a5, .int 0, .ref a6, .int 0, .int 0, .int 0, .int 0, .int 0, .int 0, .int 0, .int 0, .int 0, .int 0, .int (-1), .ref a7, .ref a8, .int 0, .ref a9, .int 0, .ref a10, .ref a11, .ref a12, .ref a13, .ref a14, .int 0, .ref a15, .ref a16, .ref a17]))] _ _ := w
  refine r_top (g2 := F0 m 21 ls [.int 0, .ref a0]) rfl ?_
  refine b_if_eq_t C (tgt := 36) dX12_tray_21 (by decide) (by decide) ?_
  refine lv_iconst (v := 2) C.1 C.2.1 dX12_tray_36 (by decide) ?_
  refine lv_goto (tgt := 41) C.1 C.2.1 dX12_tray_37 (by decide) ?_
  refine r_put C w 0 rfl rfl 5 (by decide) fl_RX12_71 rfl (ty := .int) (tyX12_ok 5 (by decide)) rfl rfl (Nat.le_of_ble_eq_true rfl) [(a0, .inr (12, [.ref a1, .ref a2, .ref a3, .ref a4, .ref a5, .int 2, .ref a6, .int 0, .int 0, .int 0, .int 0, .int 0, .int 0, .int 0, .int 0, .int 0, .int 0, .int (-1), .ref a7, .ref a8, .int 0, .ref a9, .int 0, .ref a10, .ref a11, .ref a12, .ref a13, .ref a14, .int 0, .ref a15, .ref a16, .ref a17]))] rfl dX12_tray_41 (fun H locs w => ?_)
  refine lv_aload_n C.1 C.2.1 dX12_tray_44 rfl (lv_at hl 0 rfl) ?_
  refine r_get C w 0 rfl rfl 5 (by decide) fl_RX12_71 (v := .int 2) rfl dX12_tray_45 ?_
  refine b_if_le_f C (tgt := 52) dX12_tray_48 (by decide) (by decide) ?_
  exact r_vret C w hlocks () hr rfl trivial [0] rfl rfl ⟨Nat.le_of_ble_eq_true rfl, Nat.le_of_ble_eq_true rfl⟩ dX12_tray_51
theorem dX12_write_0 : decode cX12_write 0 = .ok (.aload_n 0, 1) := by decide +kernel
theorem dX12_write_1 : decode cX12_write 1 = .ok (.aload_n 0, 1) := by decide +kernel
theorem dX12_write_2 : decode cX12_write 2 = .ok (.iload_n 1, 1) := by decide +kernel
theorem dX12_write_3 : decode cX12_write 3 = .ok (.invokevirtual 406, 3) := by decide +kernel
theorem dX12_write_6 : decode cX12_write 6 = .ok (.putfield 71, 3) := by decide +kernel
theorem dX12_write_9 : decode cX12_write 9 = .ok (.aload_n 0, 1) := by decide +kernel
theorem dX12_write_10 : decode cX12_write 10 = .ok (.getfield 71, 3) := by decide +kernel
theorem dX12_write_13 : decode cX12_write 13 = .ok (.ifCond .le 5, 3) := by decide +kernel
theorem dX12_write_16 : decode cX12_write 16 = .ok (.lconst 0, 1) := by decide +kernel
theorem dX12_write_17 : decode cX12_write 17 = .ok (.lreturn, 1) := by decide +kernel
set_option maxRecDepth 100000 in
set_option maxHeartbeats 4000000 in
theorem c_X12_write_0 (l : Launch) (D : va_G) (cy : Nat → ClassId) (a0 a1 a2 a3 a4 a5 a6 a7 a8 a9 a10 a11 a12 a13 a14 a15 a16 a17 : Nat) (x0 : Int32) (x1 : Int32) (x2 : Int64) (k0 : x0 < 0) : Ct l D cy yX12_write cX12_write 5 (some .long) 3 66 0 0 [(a0, .inr (12, [.ref a1, .ref a2, .ref a3, .ref a4, .ref a5, .int 0, .ref a6, .int 0, .int 0, .int 0, .int 0, .int 0, .int 0, .int 0, .int 0, .int 0, .int 0, .int (-1), .ref a7, .ref a8, .int 0, .ref a9, .int 0, .ref a10, .ref a11, .ref a12, .ref a13, .ref a14, .int 0, .ref a15, .ref a16, .ref a17]))] [.ref a0, .int x0, .int x1, .long x2] (fun u : Unit => some (.long 0)) (fun _ => True) (fun u : Unit => [(a0, .inr (12, [.ref a1, .ref a2, .ref a3, .ref a4, .ref a5, .int 1, .ref a6, .int 0, .int 0, .int 0, .int 0, .int 0, .int 0, .int 0, .int 0, .int 0, .int 0, .int (-1), .ref a7, .ref a8, .int 0, .ref a9, .int 0, .ref a10, .ref a11, .ref a12, .ref a13, .ref a14, .int 0, .ref a15, .ref a16, .ref a17]))]) := by
  refine Ct.of (by decide +kernel) (Nat.le_of_ble_eq_true rfl) ?_
  intro p e s m args below meth c A ls C hr hlocks hml hnm w hl
  have hl : lv_has ls 5 [(0, .ref a0), (1, .int x0), (2, .int x1), (3, .long x2)] := hl
  refine lv_aload_n C.1 C.2.1 dX12_write_0 rfl (lv_at hl 0 rfl) ?_
  refine lv_aload_n C.1 C.2.1 dX12_write_1 rfl (lv_at hl 0 rfl) ?_
  refine lv_iload_n C.1 C.2.1 dX12_write_2 rfl (lv_at hl 1 rfl) ?_
  refine r_callV C w fv_RX12_406 (c_X12_trayFault_0 l D cy a0 a1 a2 a3 a4 a5 a6 a7 a8 a9 a10 a11 a12 a13 a14 a15 a16 a17 x0 k0) (hl.1.trans hml.symm) [0] [] (wr := []) ⟨rfl, rfl, rfl, rfl, by decide⟩ 0 rfl rfl rfl rfl rfl ⟨Nat.le_of_ble_eq_true rfl, Nat.le_of_ble_eq_true rfl, Nat.le_of_ble_eq_true rfl⟩ 0 0 ⟨rfl, rfl, Nat.le_of_ble_eq_true rfl, Nat.le_of_ble_eq_true rfl⟩ dX12_write_3 (fun u H locs hp w => ?_)
  have w : Wd D A s.heap [(a0, .inr (12, [.ref a1, .ref a2, .ref a3, .ref a4, .ref a5, .int 0, .ref a6, .int 0, .int 0, .int 0, .int 0, .int 0, .int 0, .int 0, .int 0, .int 0, .int 0, .int (-1), .ref a7, .ref a8, .int 0, .ref a9, .int 0, .ref a10, .ref a11, .ref a12, .ref a13, .ref a14, .int 0, .ref a15, .ref a16, .ref a17]))] _ _ := w
  refine r_top (g2 := F0 m 6 ls [.int 1, .ref a0]) rfl ?_
  refine r_put C w 0 rfl rfl 5 (by decide) fl_RX12_71 rfl (ty := .int) (tyX12_ok 5 (by decide)) rfl rfl (Nat.le_of_ble_eq_true rfl) [(a0, .inr (12, [.ref a1, .ref a2, .ref a3, .ref a4, .ref a5, .int 1, .ref a6, .int 0, .int 0, .int 0, .int 0, .int 0, .int 0, .int 0, .int 0, .int 0, .int 0, .int (-1), .ref a7, .ref a8, .int 0, .ref a9, .int 0, .ref a10, .ref a11, .ref a12, .ref a13, .ref a14, .int 0, .ref a15, .ref a16, .ref a17]))] rfl dX12_write_6 (fun H locs w => ?_)
  refine lv_aload_n C.1 C.2.1 dX12_write_9 rfl (lv_at hl 0 rfl) ?_
  refine r_get C w 0 rfl rfl 5 (by decide) fl_RX12_71 (v := .int 1) rfl dX12_write_10 ?_
  refine b_if_le_f C (tgt := 18) dX12_write_13 (by decide) (by decide) ?_
  refine lv_lconst (v := 0) C.1 C.2.1 dX12_write_16 (by decide) ?_
  exact r_lret C w hlocks () hr rfl trivial [0] rfl rfl ⟨Nat.le_of_ble_eq_true rfl, Nat.le_of_ble_eq_true rfl⟩ dX12_write_17
set_option maxRecDepth 100000 in
set_option maxHeartbeats 4000000 in
theorem c_X12_write_1 (l : Launch) (D : va_G) (cy : Nat → ClassId) (a0 a1 a2 a3 a4 a5 a6 a7 a8 a9 a10 a11 a12 a13 a14 a15 a16 a17 : Nat) (x1 : Int32) (x2 : Int64) : Ct l D cy yX12_write cX12_write 5 (some .long) 3 66 0 0 [(a0, .inr (12, [.ref a1, .ref a2, .ref a3, .ref a4, .ref a5, .int 0, .ref a6, .int 0, .int 0, .int 0, .int 0, .int 0, .int 0, .int 0, .int 0, .int 0, .int 0, .int (-1), .ref a7, .ref a8, .int 0, .ref a9, .int 0, .ref a10, .ref a11, .ref a12, .ref a13, .ref a14, .int 0, .ref a15, .ref a16, .ref a17])), (a15, .inl (cy 1, 4, .inl (upd (upd (upd (upd (fun _ => 0) 0 (-1)) 1 (-1)) 2 (-1)) 3 (-1))))] [.ref a0, .int 1, .int x1, .long x2] (fun u : Unit => some (.long 0)) (fun _ => True) (fun u : Unit => [(a0, .inr (12, [.ref a1, .ref a2, .ref a3, .ref a4, .ref a5, .int 2, .ref a6, .int 0, .int 0, .int 0, .int 0, .int 0, .int 0, .int 0, .int 0, .int 0, .int 0, .int (-1), .ref a7, .ref a8, .int 0, .ref a9, .int 0, .ref a10, .ref a11, .ref a12, .ref a13, .ref a14, .int 0, .ref a15, .ref a16, .ref a17])), (a15, .inl (cy 1, 4, .inl (upd (upd (upd (upd (fun _ => 0) 0 (-1)) 1 (-1)) 2 (-1)) 3 (-1))))]) := by
  refine Ct.of (by decide +kernel) (Nat.le_of_ble_eq_true rfl) ?_
  intro p e s m args below meth c A ls C hr hlocks hml hnm w hl
  have hl : lv_has ls 5 [(0, .ref a0), (1, .int 1), (2, .int x1), (3, .long x2)] := hl
  refine lv_aload_n C.1 C.2.1 dX12_write_0 rfl (lv_at hl 0 rfl) ?_
  refine lv_aload_n C.1 C.2.1 dX12_write_1 rfl (lv_at hl 0 rfl) ?_
  refine lv_iload_n C.1 C.2.1 dX12_write_2 rfl (lv_at hl 1 rfl) ?_
  refine r_callV C w fv_RX12_406 (c_X12_trayFault_6 l D cy a0 a1 a2 a3 a4 a5 a6 a7 a8 a9 a10 a11 a12 a13 a14 a15 a16 a17) (hl.1.trans hml.symm) [0, 1] [] (wr := []) ⟨rfl, rfl, rfl, rfl, by decide⟩ 0 rfl rfl rfl rfl rfl ⟨Nat.le_of_ble_eq_true rfl, Nat.le_of_ble_eq_true rfl, Nat.le_of_ble_eq_true rfl⟩ 0 0 ⟨rfl, rfl, Nat.le_of_ble_eq_true rfl, Nat.le_of_ble_eq_true rfl⟩ dX12_write_3 (fun u H locs hp w => ?_)
  have w : Wd D A s.heap [(a0, .inr (12, [.ref a1, .ref a2, .ref a3, .ref a4, .ref a5, .int 0, .ref a6, .int 0, .int 0, .int 0, .int 0, .int 0, .int 0, .int 0, .int 0, .int 0, .int 0, .int (-1), .ref a7, .ref a8, .int 0, .ref a9, .int 0, .ref a10, .ref a11, .ref a12, .ref a13, .ref a14, .int 0, .ref a15, .ref a16, .ref a17])), (a15, .inl (cy 1, 4, .inl (upd (upd (upd (upd (fun _ => 0) 0 (-1)) 1 (-1)) 2 (-1)) 3 (-1))))] _ _ := w
  refine r_top (g2 := F0 m 6 ls [.int 2, .ref a0]) rfl ?_
  refine r_put C w 0 rfl rfl 5 (by decide) fl_RX12_71 rfl (ty := .int) (tyX12_ok 5 (by decide)) rfl rfl (Nat.le_of_ble_eq_true rfl) [(a0, .inr (12, [.ref a1, .ref a2, .ref a3, .ref a4, .ref a5, .int 2, .ref a6, .int 0, .int 0, .int 0, .int 0, .int 0, .int 0, .int 0, .int 0, .int 0, .int 0, .int (-1), .ref a7, .ref a8, .int 0, .ref a9, .int 0, .ref a10, .ref a11, .ref a12, .ref a13, .ref a14, .int 0, .ref a15, .ref a16, .ref a17])), (a15, .inl (cy 1, 4, .inl (upd (upd (upd (upd (fun _ => 0) 0 (-1)) 1 (-1)) 2 (-1)) 3 (-1))))] rfl dX12_write_6 (fun H locs w => ?_)
  refine lv_aload_n C.1 C.2.1 dX12_write_9 rfl (lv_at hl 0 rfl) ?_
  refine r_get C w 0 rfl rfl 5 (by decide) fl_RX12_71 (v := .int 2) rfl dX12_write_10 ?_
  refine b_if_le_f C (tgt := 18) dX12_write_13 (by decide) (by decide) ?_
  refine lv_lconst (v := 0) C.1 C.2.1 dX12_write_16 (by decide) ?_
  exact r_lret C w hlocks () hr rfl trivial [0, 1] rfl rfl ⟨Nat.le_of_ble_eq_true rfl, Nat.le_of_ble_eq_true rfl⟩ dX12_write_17
set_option maxRecDepth 100000 in
set_option maxHeartbeats 4000000 in
theorem c_X12_write_2 (l : Launch) (D : va_G) (cy : Nat → ClassId) (a0 a1 a2 a3 a4 a5 a6 a7 a8 a9 a10 a11 a12 a13 a14 a15 a16 a17 : Nat) (x1 : Int32) (x2 : Int64) : Ct l D cy yX12_write cX12_write 5 (some .long) 3 66 0 0 [(a0, .inr (12, [.ref a1, .ref a2, .ref a3, .ref a4, .ref a5, .int 0, .ref a6, .int 0, .int 0, .int 0, .int 0, .int 0, .int 0, .int 0, .int 0, .int 0, .int 0, .int (-1), .ref a7, .ref a8, .int 0, .ref a9, .int 0, .ref a10, .ref a11, .ref a12, .ref a13, .ref a14, .int 0, .ref a15, .ref a16, .ref a17])), (a15, .inl (cy 1, 4, .inl (upd (upd (upd (upd (fun _ => 0) 0 (-1)) 1 (-1)) 2 (-1)) 3 (-1))))] [.ref a0, .int 2, .int x1, .long x2] (fun u : Unit => some (.long 0)) (fun _ => True) (fun u : Unit => [(a0, .inr (12, [.ref a1, .ref a2, .ref a3, .ref a4, .ref a5, .int 2, .ref a6, .int 0, .int 0, .int 0, .int 0, .int 0, .int 0, .int 0, .int 0, .int 0, .int 0, .int (-1), .ref a7, .ref a8, .int 0, .ref a9, .int 0, .ref a10, .ref a11, .ref a12, .ref a13, .ref a14, .int 0, .ref a15, .ref a16, .ref a17])), (a15, .inl (cy 1, 4, .inl (upd (upd (upd (upd (fun _ => 0) 0 (-1)) 1 (-1)) 2 (-1)) 3 (-1))))]) := by
  refine Ct.of (by decide +kernel) (Nat.le_of_ble_eq_true rfl) ?_
  intro p e s m args below meth c A ls C hr hlocks hml hnm w hl
  have hl : lv_has ls 5 [(0, .ref a0), (1, .int 2), (2, .int x1), (3, .long x2)] := hl
  refine lv_aload_n C.1 C.2.1 dX12_write_0 rfl (lv_at hl 0 rfl) ?_
  refine lv_aload_n C.1 C.2.1 dX12_write_1 rfl (lv_at hl 0 rfl) ?_
  refine lv_iload_n C.1 C.2.1 dX12_write_2 rfl (lv_at hl 1 rfl) ?_
  refine r_callV C w fv_RX12_406 (c_X12_trayFault_7 l D cy a0 a1 a2 a3 a4 a5 a6 a7 a8 a9 a10 a11 a12 a13 a14 a15 a16 a17) (hl.1.trans hml.symm) [0, 1] [] (wr := []) ⟨rfl, rfl, rfl, rfl, by decide⟩ 0 rfl rfl rfl rfl rfl ⟨Nat.le_of_ble_eq_true rfl, Nat.le_of_ble_eq_true rfl, Nat.le_of_ble_eq_true rfl⟩ 0 0 ⟨rfl, rfl, Nat.le_of_ble_eq_true rfl, Nat.le_of_ble_eq_true rfl⟩ dX12_write_3 (fun u H locs hp w => ?_)
  have w : Wd D A s.heap [(a0, .inr (12, [.ref a1, .ref a2, .ref a3, .ref a4, .ref a5, .int 0, .ref a6, .int 0, .int 0, .int 0, .int 0, .int 0, .int 0, .int 0, .int 0, .int 0, .int 0, .int (-1), .ref a7, .ref a8, .int 0, .ref a9, .int 0, .ref a10, .ref a11, .ref a12, .ref a13, .ref a14, .int 0, .ref a15, .ref a16, .ref a17])), (a15, .inl (cy 1, 4, .inl (upd (upd (upd (upd (fun _ => 0) 0 (-1)) 1 (-1)) 2 (-1)) 3 (-1))))] _ _ := w
  refine r_top (g2 := F0 m 6 ls [.int 2, .ref a0]) rfl ?_
  refine r_put C w 0 rfl rfl 5 (by decide) fl_RX12_71 rfl (ty := .int) (tyX12_ok 5 (by decide)) rfl rfl (Nat.le_of_ble_eq_true rfl) [(a0, .inr (12, [.ref a1, .ref a2, .ref a3, .ref a4, .ref a5, .int 2, .ref a6, .int 0, .int 0, .int 0, .int 0, .int 0, .int 0, .int 0, .int 0, .int 0, .int 0, .int (-1), .ref a7, .ref a8, .int 0, .ref a9, .int 0, .ref a10, .ref a11, .ref a12, .ref a13, .ref a14, .int 0, .ref a15, .ref a16, .ref a17])), (a15, .inl (cy 1, 4, .inl (upd (upd (upd (upd (fun _ => 0) 0 (-1)) 1 (-1)) 2 (-1)) 3 (-1))))] rfl dX12_write_6 (fun H locs w => ?_)
  refine lv_aload_n C.1 C.2.1 dX12_write_9 rfl (lv_at hl 0 rfl) ?_
  refine r_get C w 0 rfl rfl 5 (by decide) fl_RX12_71 (v := .int 2) rfl dX12_write_10 ?_
  refine b_if_le_f C (tgt := 18) dX12_write_13 (by decide) (by decide) ?_
  refine lv_lconst (v := 0) C.1 C.2.1 dX12_write_16 (by decide) ?_
  exact r_lret C w hlocks () hr rfl trivial [0, 1] rfl rfl ⟨Nat.le_of_ble_eq_true rfl, Nat.le_of_ble_eq_true rfl⟩ dX12_write_17
set_option maxRecDepth 100000 in
set_option maxHeartbeats 4000000 in
theorem c_X12_write_3 (l : Launch) (D : va_G) (cy : Nat → ClassId) (a0 a1 a2 a3 a4 a5 a6 a7 a8 a9 a10 a11 a12 a13 a14 a15 a16 a17 : Nat) (x1 : Int32) (x2 : Int64) : Ct l D cy yX12_write cX12_write 5 (some .long) 3 66 0 0 [(a0, .inr (12, [.ref a1, .ref a2, .ref a3, .ref a4, .ref a5, .int 0, .ref a6, .int 0, .int 0, .int 0, .int 0, .int 0, .int 0, .int 0, .int 0, .int 0, .int 0, .int (-1), .ref a7, .ref a8, .int 0, .ref a9, .int 0, .ref a10, .ref a11, .ref a12, .ref a13, .ref a14, .int 0, .ref a15, .ref a16, .ref a17])), (a15, .inl (cy 1, 4, .inl (upd (upd (upd (upd (fun _ => 0) 0 (-1)) 1 (-1)) 2 (-1)) 3 (-1))))] [.ref a0, .int 3, .int x1, .long x2] (fun u : Unit => some (.long 0)) (fun _ => True) (fun u : Unit => [(a0, .inr (12, [.ref a1, .ref a2, .ref a3, .ref a4, .ref a5, .int 2, .ref a6, .int 0, .int 0, .int 0, .int 0, .int 0, .int 0, .int 0, .int 0, .int 0, .int 0, .int (-1), .ref a7, .ref a8, .int 0, .ref a9, .int 0, .ref a10, .ref a11, .ref a12, .ref a13, .ref a14, .int 0, .ref a15, .ref a16, .ref a17])), (a15, .inl (cy 1, 4, .inl (upd (upd (upd (upd (fun _ => 0) 0 (-1)) 1 (-1)) 2 (-1)) 3 (-1))))]) := by
  refine Ct.of (by decide +kernel) (Nat.le_of_ble_eq_true rfl) ?_
  intro p e s m args below meth c A ls C hr hlocks hml hnm w hl
  have hl : lv_has ls 5 [(0, .ref a0), (1, .int 3), (2, .int x1), (3, .long x2)] := hl
  refine lv_aload_n C.1 C.2.1 dX12_write_0 rfl (lv_at hl 0 rfl) ?_
  refine lv_aload_n C.1 C.2.1 dX12_write_1 rfl (lv_at hl 0 rfl) ?_
  refine lv_iload_n C.1 C.2.1 dX12_write_2 rfl (lv_at hl 1 rfl) ?_
  refine r_callV C w fv_RX12_406 (c_X12_trayFault_8 l D cy a0 a1 a2 a3 a4 a5 a6 a7 a8 a9 a10 a11 a12 a13 a14 a15 a16 a17) (hl.1.trans hml.symm) [0, 1] [] (wr := []) ⟨rfl, rfl, rfl, rfl, by decide⟩ 0 rfl rfl rfl rfl rfl ⟨Nat.le_of_ble_eq_true rfl, Nat.le_of_ble_eq_true rfl, Nat.le_of_ble_eq_true rfl⟩ 0 0 ⟨rfl, rfl, Nat.le_of_ble_eq_true rfl, Nat.le_of_ble_eq_true rfl⟩ dX12_write_3 (fun u H locs hp w => ?_)
  have w : Wd D A s.heap [(a0, .inr (12, [.ref a1, .ref a2, .ref a3, .ref a4, .ref a5, .int 0, .ref a6, .int 0, .int 0, .int 0, .int 0, .int 0, .int 0, .int 0, .int 0, .int 0, .int 0, .int (-1), .ref a7, .ref a8, .int 0, .ref a9, .int 0, .ref a10, .ref a11, .ref a12, .ref a13, .ref a14, .int 0, .ref a15, .ref a16, .ref a17])), (a15, .inl (cy 1, 4, .inl (upd (upd (upd (upd (fun _ => 0) 0 (-1)) 1 (-1)) 2 (-1)) 3 (-1))))] _ _ := w
  refine r_top (g2 := F0 m 6 ls [.int 2, .ref a0]) rfl ?_
  refine r_put C w 0 rfl rfl 5 (by decide) fl_RX12_71 rfl (ty := .int) (tyX12_ok 5 (by decide)) rfl rfl (Nat.le_of_ble_eq_true rfl) [(a0, .inr (12, [.ref a1, .ref a2, .ref a3, .ref a4, .ref a5, .int 2, .ref a6, .int 0, .int 0, .int 0, .int 0, .int 0, .int 0, .int 0, .int 0, .int 0, .int 0, .int (-1), .ref a7, .ref a8, .int 0, .ref a9, .int 0, .ref a10, .ref a11, .ref a12, .ref a13, .ref a14, .int 0, .ref a15, .ref a16, .ref a17])), (a15, .inl (cy 1, 4, .inl (upd (upd (upd (upd (fun _ => 0) 0 (-1)) 1 (-1)) 2 (-1)) 3 (-1))))] rfl dX12_write_6 (fun H locs w => ?_)
  refine lv_aload_n C.1 C.2.1 dX12_write_9 rfl (lv_at hl 0 rfl) ?_
  refine r_get C w 0 rfl rfl 5 (by decide) fl_RX12_71 (v := .int 2) rfl dX12_write_10 ?_
  refine b_if_le_f C (tgt := 18) dX12_write_13 (by decide) (by decide) ?_
  refine lv_lconst (v := 0) C.1 C.2.1 dX12_write_16 (by decide) ?_
  exact r_lret C w hlocks () hr rfl trivial [0, 1] rfl rfl ⟨Nat.le_of_ble_eq_true rfl, Nat.le_of_ble_eq_true rfl⟩ dX12_write_17
set_option maxRecDepth 100000 in
set_option maxHeartbeats 4000000 in
theorem c_X12_write_4 (l : Launch) (D : va_G) (cy : Nat → ClassId) (a0 a1 a2 a3 a4 a5 a6 a7 a8 a9 a10 a11 a12 a13 a14 a15 a16 a17 : Nat) (x1 : Int32) (x2 : Int64) : Ct l D cy yX12_write cX12_write 5 (some .long) 3 66 0 0 [(a0, .inr (12, [.ref a1, .ref a2, .ref a3, .ref a4, .ref a5, .int 0, .ref a6, .int 0, .int 0, .int 0, .int 0, .int 0, .int 0, .int 0, .int 0, .int 0, .int 0, .int (-1), .ref a7, .ref a8, .int 0, .ref a9, .int 0, .ref a10, .ref a11, .ref a12, .ref a13, .ref a14, .int 0, .ref a15, .ref a16, .ref a17])), (a15, .inl (cy 1, 4, .inl (upd (upd (upd (upd (fun _ => 0) 0 (-1)) 1 (-1)) 2 (-1)) 3 (-1))))] [.ref a0, .int 0, .int x1, .long x2] (fun u : Unit => some (.long 0)) (fun _ => True) (fun u : Unit => [(a0, .inr (12, [.ref a1, .ref a2, .ref a3, .ref a4, .ref a5, .int 2, .ref a6, .int 0, .int 0, .int 0, .int 0, .int 0, .int 0, .int 0, .int 0, .int 0, .int 0, .int (-1), .ref a7, .ref a8, .int 0, .ref a9, .int 0, .ref a10, .ref a11, .ref a12, .ref a13, .ref a14, .int 0, .ref a15, .ref a16, .ref a17])), (a15, .inl (cy 1, 4, .inl (upd (upd (upd (upd (fun _ => 0) 0 (-1)) 1 (-1)) 2 (-1)) 3 (-1))))]) := by
  refine Ct.of (by decide +kernel) (Nat.le_of_ble_eq_true rfl) ?_
  intro p e s m args below meth c A ls C hr hlocks hml hnm w hl
  have hl : lv_has ls 5 [(0, .ref a0), (1, .int 0), (2, .int x1), (3, .long x2)] := hl
  refine lv_aload_n C.1 C.2.1 dX12_write_0 rfl (lv_at hl 0 rfl) ?_
  refine lv_aload_n C.1 C.2.1 dX12_write_1 rfl (lv_at hl 0 rfl) ?_
  refine lv_iload_n C.1 C.2.1 dX12_write_2 rfl (lv_at hl 1 rfl) ?_
  refine r_callV C w fv_RX12_406 (c_X12_trayFault_9 l D cy a0 a1 a2 a3 a4 a5 a6 a7 a8 a9 a10 a11 a12 a13 a14 a15 a16 a17) (hl.1.trans hml.symm) [0, 1] [] (wr := []) ⟨rfl, rfl, rfl, rfl, by decide⟩ 0 rfl rfl rfl rfl rfl ⟨Nat.le_of_ble_eq_true rfl, Nat.le_of_ble_eq_true rfl, Nat.le_of_ble_eq_true rfl⟩ 0 0 ⟨rfl, rfl, Nat.le_of_ble_eq_true rfl, Nat.le_of_ble_eq_true rfl⟩ dX12_write_3 (fun u H locs hp w => ?_)
  have w : Wd D A s.heap [(a0, .inr (12, [.ref a1, .ref a2, .ref a3, .ref a4, .ref a5, .int 0, .ref a6, .int 0, .int 0, .int 0, .int 0, .int 0, .int 0, .int 0, .int 0, .int 0, .int 0, .int (-1), .ref a7, .ref a8, .int 0, .ref a9, .int 0, .ref a10, .ref a11, .ref a12, .ref a13, .ref a14, .int 0, .ref a15, .ref a16, .ref a17])), (a15, .inl (cy 1, 4, .inl (upd (upd (upd (upd (fun _ => 0) 0 (-1)) 1 (-1)) 2 (-1)) 3 (-1))))] _ _ := w
  refine r_top (g2 := F0 m 6 ls [.int 2, .ref a0]) rfl ?_
  refine r_put C w 0 rfl rfl 5 (by decide) fl_RX12_71 rfl (ty := .int) (tyX12_ok 5 (by decide)) rfl rfl (Nat.le_of_ble_eq_true rfl) [(a0, .inr (12, [.ref a1, .ref a2, .ref a3, .ref a4, .ref a5, .int 2, .ref a6, .int 0, .int 0, .int 0, .int 0, .int 0, .int 0, .int 0, .int 0, .int 0, .int 0, .int (-1), .ref a7, .ref a8, .int 0, .ref a9, .int 0, .ref a10, .ref a11, .ref a12, .ref a13, .ref a14, .int 0, .ref a15, .ref a16, .ref a17])), (a15, .inl (cy 1, 4, .inl (upd (upd (upd (upd (fun _ => 0) 0 (-1)) 1 (-1)) 2 (-1)) 3 (-1))))] rfl dX12_write_6 (fun H locs w => ?_)
  refine lv_aload_n C.1 C.2.1 dX12_write_9 rfl (lv_at hl 0 rfl) ?_
  refine r_get C w 0 rfl rfl 5 (by decide) fl_RX12_71 (v := .int 2) rfl dX12_write_10 ?_
  refine b_if_le_f C (tgt := 18) dX12_write_13 (by decide) (by decide) ?_
  refine lv_lconst (v := 0) C.1 C.2.1 dX12_write_16 (by decide) ?_
  exact r_lret C w hlocks () hr rfl trivial [0, 1] rfl rfl ⟨Nat.le_of_ble_eq_true rfl, Nat.le_of_ble_eq_true rfl⟩ dX12_write_17
set_option maxRecDepth 100000 in
set_option maxHeartbeats 4000000 in
theorem c_X12_write_5 (l : Launch) (D : va_G) (cy : Nat → ClassId) (a0 a1 a2 a3 a4 a5 a6 a7 a8 a9 a10 a11 a12 a13 a14 a15 a16 a17 : Nat) (x0 : Int32) (x1 : Int32) (x2 : Int64) (k0 : ¬ x0 < 0) (k1 : 3 < x0) : Ct l D cy yX12_write cX12_write 5 (some .long) 3 66 0 0 [(a0, .inr (12, [.ref a1, .ref a2, .ref a3, .ref a4, .ref a5, .int 0, .ref a6, .int 0, .int 0, .int 0, .int 0, .int 0, .int 0, .int 0, .int 0, .int 0, .int 0, .int (-1), .ref a7, .ref a8, .int 0, .ref a9, .int 0, .ref a10, .ref a11, .ref a12, .ref a13, .ref a14, .int 0, .ref a15, .ref a16, .ref a17]))] [.ref a0, .int x0, .int x1, .long x2] (fun u : Unit => some (.long 0)) (fun _ => True) (fun u : Unit => [(a0, .inr (12, [.ref a1, .ref a2, .ref a3, .ref a4, .ref a5, .int 1, .ref a6, .int 0, .int 0, .int 0, .int 0, .int 0, .int 0, .int 0, .int 0, .int 0, .int 0, .int (-1), .ref a7, .ref a8, .int 0, .ref a9, .int 0, .ref a10, .ref a11, .ref a12, .ref a13, .ref a14, .int 0, .ref a15, .ref a16, .ref a17]))]) := by
  refine Ct.of (by decide +kernel) (Nat.le_of_ble_eq_true rfl) ?_
  intro p e s m args below meth c A ls C hr hlocks hml hnm w hl
  have hl : lv_has ls 5 [(0, .ref a0), (1, .int x0), (2, .int x1), (3, .long x2)] := hl
  refine lv_aload_n C.1 C.2.1 dX12_write_0 rfl (lv_at hl 0 rfl) ?_
  refine lv_aload_n C.1 C.2.1 dX12_write_1 rfl (lv_at hl 0 rfl) ?_
  refine lv_iload_n C.1 C.2.1 dX12_write_2 rfl (lv_at hl 1 rfl) ?_
  refine r_callV C w fv_RX12_406 (c_X12_trayFault_1 l D cy a0 a1 a2 a3 a4 a5 a6 a7 a8 a9 a10 a11 a12 a13 a14 a15 a16 a17 x0 k0 k1) (hl.1.trans hml.symm) [0] [] (wr := []) ⟨rfl, rfl, rfl, rfl, by decide⟩ 0 rfl rfl rfl rfl rfl ⟨Nat.le_of_ble_eq_true rfl, Nat.le_of_ble_eq_true rfl, Nat.le_of_ble_eq_true rfl⟩ 0 0 ⟨rfl, rfl, Nat.le_of_ble_eq_true rfl, Nat.le_of_ble_eq_true rfl⟩ dX12_write_3 (fun u H locs hp w => ?_)
  have w : Wd D A s.heap [(a0, .inr (12, [.ref a1, .ref a2, .ref a3, .ref a4, .ref a5, .int 0, .ref a6, .int 0, .int 0, .int 0, .int 0, .int 0, .int 0, .int 0, .int 0, .int 0, .int 0, .int (-1), .ref a7, .ref a8, .int 0, .ref a9, .int 0, .ref a10, .ref a11, .ref a12, .ref a13, .ref a14, .int 0, .ref a15, .ref a16, .ref a17]))] _ _ := w
  refine r_top (g2 := F0 m 6 ls [.int 1, .ref a0]) rfl ?_
  refine r_put C w 0 rfl rfl 5 (by decide) fl_RX12_71 rfl (ty := .int) (tyX12_ok 5 (by decide)) rfl rfl (Nat.le_of_ble_eq_true rfl) [(a0, .inr (12, [.ref a1, .ref a2, .ref a3, .ref a4, .ref a5, .int 1, .ref a6, .int 0, .int 0, .int 0, .int 0, .int 0, .int 0, .int 0, .int 0, .int 0, .int 0, .int (-1), .ref a7, .ref a8, .int 0, .ref a9, .int 0, .ref a10, .ref a11, .ref a12, .ref a13, .ref a14, .int 0, .ref a15, .ref a16, .ref a17]))] rfl dX12_write_6 (fun H locs w => ?_)
  refine lv_aload_n C.1 C.2.1 dX12_write_9 rfl (lv_at hl 0 rfl) ?_
  refine r_get C w 0 rfl rfl 5 (by decide) fl_RX12_71 (v := .int 1) rfl dX12_write_10 ?_
  refine b_if_le_f C (tgt := 18) dX12_write_13 (by decide) (by decide) ?_
  refine lv_lconst (v := 0) C.1 C.2.1 dX12_write_16 (by decide) ?_
  exact r_lret C w hlocks () hr rfl trivial [0] rfl rfl ⟨Nat.le_of_ble_eq_true rfl, Nat.le_of_ble_eq_true rfl⟩ dX12_write_17
theorem dX12_pour_0 : decode cX12_pour 0 = .ok (.aload_n 0, 1) := by decide +kernel
theorem dX12_pour_1 : decode cX12_pour 1 = .ok (.aload_n 0, 1) := by decide +kernel
theorem dX12_pour_2 : decode cX12_pour 2 = .ok (.iload_n 1, 1) := by decide +kernel
theorem dX12_pour_3 : decode cX12_pour 3 = .ok (.invokevirtual 406, 3) := by decide +kernel
theorem dX12_pour_6 : decode cX12_pour 6 = .ok (.putfield 71, 3) := by decide +kernel
theorem dX12_pour_9 : decode cX12_pour 9 = .ok (.aload_n 0, 1) := by decide +kernel
theorem dX12_pour_10 : decode cX12_pour 10 = .ok (.getfield 71, 3) := by decide +kernel
theorem dX12_pour_13 : decode cX12_pour 13 = .ok (.ifCond .le 5, 3) := by decide +kernel
theorem dX12_pour_16 : decode cX12_pour 16 = .ok (.iconst 0, 1) := by decide +kernel
theorem dX12_pour_17 : decode cX12_pour 17 = .ok (.ireturn, 1) := by decide +kernel
set_option maxRecDepth 100000 in
set_option maxHeartbeats 4000000 in
theorem c_X12_pour_0 (l : Launch) (D : va_G) (cy : Nat → ClassId) (a0 a1 a2 a3 a4 a5 a6 a7 a8 a9 a10 a11 a12 a13 a14 a15 a16 a17 : Nat) (x0 : Int32) (k0 : x0 < 0) : Ct l D cy yX12_pour cX12_pour 4 (some .int) 3 66 0 0 [(a0, .inr (12, [.ref a1, .ref a2, .ref a3, .ref a4, .ref a5, .int 0, .ref a6, .int 0, .int 0, .int 0, .int 0, .int 0, .int 0, .int 0, .int 0, .int 0, .int 0, .int (-1), .ref a7, .ref a8, .int 0, .ref a9, .int 0, .ref a10, .ref a11, .ref a12, .ref a13, .ref a14, .int 0, .ref a15, .ref a16, .ref a17]))] [.ref a0, .int x0] (fun u : Unit => some (.int 0)) (fun _ => True) (fun u : Unit => [(a0, .inr (12, [.ref a1, .ref a2, .ref a3, .ref a4, .ref a5, .int 1, .ref a6, .int 0, .int 0, .int 0, .int 0, .int 0, .int 0, .int 0, .int 0, .int 0, .int 0, .int (-1), .ref a7, .ref a8, .int 0, .ref a9, .int 0, .ref a10, .ref a11, .ref a12, .ref a13, .ref a14, .int 0, .ref a15, .ref a16, .ref a17]))]) := by
  refine Ct.of (by decide +kernel) (Nat.le_of_ble_eq_true rfl) ?_
  intro p e s m args below meth c A ls C hr hlocks hml hnm w hl
  have hl : lv_has ls 4 [(0, .ref a0), (1, .int x0)] := hl
  refine lv_aload_n C.1 C.2.1 dX12_pour_0 rfl (lv_at hl 0 rfl) ?_
  refine lv_aload_n C.1 C.2.1 dX12_pour_1 rfl (lv_at hl 0 rfl) ?_
  refine lv_iload_n C.1 C.2.1 dX12_pour_2 rfl (lv_at hl 1 rfl) ?_
  refine r_callV C w fv_RX12_406 (c_X12_trayFault_0 l D cy a0 a1 a2 a3 a4 a5 a6 a7 a8 a9 a10 a11 a12 a13 a14 a15 a16 a17 x0 k0) (hl.1.trans hml.symm) [0] [] (wr := []) ⟨rfl, rfl, rfl, rfl, by decide⟩ 0 rfl rfl rfl rfl rfl ⟨Nat.le_of_ble_eq_true rfl, Nat.le_of_ble_eq_true rfl, Nat.le_of_ble_eq_true rfl⟩ 0 0 ⟨rfl, rfl, Nat.le_of_ble_eq_true rfl, Nat.le_of_ble_eq_true rfl⟩ dX12_pour_3 (fun u H locs hp w => ?_)
  have w : Wd D A s.heap [(a0, .inr (12, [.ref a1, .ref a2, .ref a3, .ref a4, .ref a5, .int 0, .ref a6, .int 0, .int 0, .int 0, .int 0, .int 0, .int 0, .int 0, .int 0, .int 0, .int 0, .int (-1), .ref a7, .ref a8, .int 0, .ref a9, .int 0, .ref a10, .ref a11, .ref a12, .ref a13, .ref a14, .int 0, .ref a15, .ref a16, .ref a17]))] _ _ := w
  refine r_top (g2 := F0 m 6 ls [.int 1, .ref a0]) rfl ?_
  refine r_put C w 0 rfl rfl 5 (by decide) fl_RX12_71 rfl (ty := .int) (tyX12_ok 5 (by decide)) rfl rfl (Nat.le_of_ble_eq_true rfl) [(a0, .inr (12, [.ref a1, .ref a2, .ref a3, .ref a4, .ref a5, .int 1, .ref a6, .int 0, .int 0, .int 0, .int 0, .int 0, .int 0, .int 0, .int 0, .int 0, .int 0, .int (-1), .ref a7, .ref a8, .int 0, .ref a9, .int 0, .ref a10, .ref a11, .ref a12, .ref a13, .ref a14, .int 0, .ref a15, .ref a16, .ref a17]))] rfl dX12_pour_6 (fun H locs w => ?_)
  refine lv_aload_n C.1 C.2.1 dX12_pour_9 rfl (lv_at hl 0 rfl) ?_
  refine r_get C w 0 rfl rfl 5 (by decide) fl_RX12_71 (v := .int 1) rfl dX12_pour_10 ?_
  refine b_if_le_f C (tgt := 18) dX12_pour_13 (by decide) (by decide) ?_
  refine lv_iconst (v := 0) C.1 C.2.1 dX12_pour_16 (by decide) ?_
  exact r_iret C w hlocks () hr rfl rfl trivial [0] rfl rfl ⟨Nat.le_of_ble_eq_true rfl, Nat.le_of_ble_eq_true rfl⟩ dX12_pour_17
set_option maxRecDepth 100000 in
set_option maxHeartbeats 4000000 in
theorem c_X12_pour_1 (l : Launch) (D : va_G) (cy : Nat → ClassId) (a0 a1 a2 a3 a4 a5 a6 a7 a8 a9 a10 a11 a12 a13 a14 a15 a16 a17 : Nat) : Ct l D cy yX12_pour cX12_pour 4 (some .int) 3 66 0 0 [(a0, .inr (12, [.ref a1, .ref a2, .ref a3, .ref a4, .ref a5, .int 0, .ref a6, .int 0, .int 0, .int 0, .int 0, .int 0, .int 0, .int 0, .int 0, .int 0, .int 0, .int (-1), .ref a7, .ref a8, .int 0, .ref a9, .int 0, .ref a10, .ref a11, .ref a12, .ref a13, .ref a14, .int 0, .ref a15, .ref a16, .ref a17])), (a15, .inl (cy 1, 4, .inl (upd (upd (upd (upd (fun _ => 0) 0 (-1)) 1 (-1)) 2 (-1)) 3 (-1))))] [.ref a0, .int 1] (fun u : Unit => some (.int 0)) (fun _ => True) (fun u : Unit => [(a0, .inr (12, [.ref a1, .ref a2, .ref a3, .ref a4, .ref a5, .int 2, .ref a6, .int 0, .int 0, .int 0, .int 0, .int 0, .int 0, .int 0, .int 0, .int 0, .int 0, .int (-1), .ref a7, .ref a8, .int 0, .ref a9, .int 0, .ref a10, .ref a11, .ref a12, .ref a13, .ref a14, .int 0, .ref a15, .ref a16, .ref a17])), (a15, .inl (cy 1, 4, .inl (upd (upd (upd (upd (fun _ => 0) 0 (-1)) 1 (-1)) 2 (-1)) 3 (-1))))]) := by
  refine Ct.of (by decide +kernel) (Nat.le_of_ble_eq_true rfl) ?_
  intro p e s m args below meth c A ls C hr hlocks hml hnm w hl
  have hl : lv_has ls 4 [(0, .ref a0), (1, .int 1)] := hl
  refine lv_aload_n C.1 C.2.1 dX12_pour_0 rfl (lv_at hl 0 rfl) ?_
  refine lv_aload_n C.1 C.2.1 dX12_pour_1 rfl (lv_at hl 0 rfl) ?_
  refine lv_iload_n C.1 C.2.1 dX12_pour_2 rfl (lv_at hl 1 rfl) ?_
  refine r_callV C w fv_RX12_406 (c_X12_trayFault_6 l D cy a0 a1 a2 a3 a4 a5 a6 a7 a8 a9 a10 a11 a12 a13 a14 a15 a16 a17) (hl.1.trans hml.symm) [0, 1] [] (wr := []) ⟨rfl, rfl, rfl, rfl, by decide⟩ 0 rfl rfl rfl rfl rfl ⟨Nat.le_of_ble_eq_true rfl, Nat.le_of_ble_eq_true rfl, Nat.le_of_ble_eq_true rfl⟩ 0 0 ⟨rfl, rfl, Nat.le_of_ble_eq_true rfl, Nat.le_of_ble_eq_true rfl⟩ dX12_pour_3 (fun u H locs hp w => ?_)
  have w : Wd D A s.heap [(a0, .inr (12, [.ref a1, .ref a2, .ref a3, .ref a4, .ref a5, .int 0, .ref a6, .int 0, .int 0, .int 0, .int 0, .int 0, .int 0, .int 0, .int 0, .int 0, .int 0, .int (-1), .ref a7, .ref a8, .int 0, .ref a9, .int 0, .ref a10, .ref a11, .ref a12, .ref a13, .ref a14, .int 0, .ref a15, .ref a16, .ref a17])), (a15, .inl (cy 1, 4, .inl (upd (upd (upd (upd (fun _ => 0) 0 (-1)) 1 (-1)) 2 (-1)) 3 (-1))))] _ _ := w
  refine r_top (g2 := F0 m 6 ls [.int 2, .ref a0]) rfl ?_
  refine r_put C w 0 rfl rfl 5 (by decide) fl_RX12_71 rfl (ty := .int) (tyX12_ok 5 (by decide)) rfl rfl (Nat.le_of_ble_eq_true rfl) [(a0, .inr (12, [.ref a1, .ref a2, .ref a3, .ref a4, .ref a5, .int 2, .ref a6, .int 0, .int 0, .int 0, .int 0, .int 0, .int 0, .int 0, .int 0, .int 0, .int 0, .int (-1), .ref a7, .ref a8, .int 0, .ref a9, .int 0, .ref a10, .ref a11, .ref a12, .ref a13, .ref a14, .int 0, .ref a15, .ref a16, .ref a17])), (a15, .inl (cy 1, 4, .inl (upd (upd (upd (upd (fun _ => 0) 0 (-1)) 1 (-1)) 2 (-1)) 3 (-1))))] rfl dX12_pour_6 (fun H locs w => ?_)
  refine lv_aload_n C.1 C.2.1 dX12_pour_9 rfl (lv_at hl 0 rfl) ?_
  refine r_get C w 0 rfl rfl 5 (by decide) fl_RX12_71 (v := .int 2) rfl dX12_pour_10 ?_
  refine b_if_le_f C (tgt := 18) dX12_pour_13 (by decide) (by decide) ?_
  refine lv_iconst (v := 0) C.1 C.2.1 dX12_pour_16 (by decide) ?_
  exact r_iret C w hlocks () hr rfl rfl trivial [0, 1] rfl rfl ⟨Nat.le_of_ble_eq_true rfl, Nat.le_of_ble_eq_true rfl⟩ dX12_pour_17
set_option maxRecDepth 100000 in
set_option maxHeartbeats 4000000 in
theorem c_X12_pour_2 (l : Launch) (D : va_G) (cy : Nat → ClassId) (a0 a1 a2 a3 a4 a5 a6 a7 a8 a9 a10 a11 a12 a13 a14 a15 a16 a17 : Nat) : Ct l D cy yX12_pour cX12_pour 4 (some .int) 3 66 0 0 [(a0, .inr (12, [.ref a1, .ref a2, .ref a3, .ref a4, .ref a5, .int 0, .ref a6, .int 0, .int 0, .int 0, .int 0, .int 0, .int 0, .int 0, .int 0, .int 0, .int 0, .int (-1), .ref a7, .ref a8, .int 0, .ref a9, .int 0, .ref a10, .ref a11, .ref a12, .ref a13, .ref a14, .int 0, .ref a15, .ref a16, .ref a17])), (a15, .inl (cy 1, 4, .inl (upd (upd (upd (upd (fun _ => 0) 0 (-1)) 1 (-1)) 2 (-1)) 3 (-1))))] [.ref a0, .int 2] (fun u : Unit => some (.int 0)) (fun _ => True) (fun u : Unit => [(a0, .inr (12, [.ref a1, .ref a2, .ref a3, .ref a4, .ref a5, .int 2, .ref a6, .int 0, .int 0, .int 0, .int 0, .int 0, .int 0, .int 0, .int 0, .int 0, .int 0, .int (-1), .ref a7, .ref a8, .int 0, .ref a9, .int 0, .ref a10, .ref a11, .ref a12, .ref a13, .ref a14, .int 0, .ref a15, .ref a16, .ref a17])), (a15, .inl (cy 1, 4, .inl (upd (upd (upd (upd (fun _ => 0) 0 (-1)) 1 (-1)) 2 (-1)) 3 (-1))))]) := by
  refine Ct.of (by decide +kernel) (Nat.le_of_ble_eq_true rfl) ?_
  intro p e s m args below meth c A ls C hr hlocks hml hnm w hl
  have hl : lv_has ls 4 [(0, .ref a0), (1, .int 2)] := hl
  refine lv_aload_n C.1 C.2.1 dX12_pour_0 rfl (lv_at hl 0 rfl) ?_
  refine lv_aload_n C.1 C.2.1 dX12_pour_1 rfl (lv_at hl 0 rfl) ?_
  refine lv_iload_n C.1 C.2.1 dX12_pour_2 rfl (lv_at hl 1 rfl) ?_
  refine r_callV C w fv_RX12_406 (c_X12_trayFault_7 l D cy a0 a1 a2 a3 a4 a5 a6 a7 a8 a9 a10 a11 a12 a13 a14 a15 a16 a17) (hl.1.trans hml.symm) [0, 1] [] (wr := []) ⟨rfl, rfl, rfl, rfl, by decide⟩ 0 rfl rfl rfl rfl rfl ⟨Nat.le_of_ble_eq_true rfl, Nat.le_of_ble_eq_true rfl, Nat.le_of_ble_eq_true rfl⟩ 0 0 ⟨rfl, rfl, Nat.le_of_ble_eq_true rfl, Nat.le_of_ble_eq_true rfl⟩ dX12_pour_3 (fun u H locs hp w => ?_)
  have w : Wd D A s.heap [(a0, .inr (12, [.ref a1, .ref a2, .ref a3, .ref a4, .ref a5, .int 0, .ref a6, .int 0, .int 0, .int 0, .int 0, .int 0, .int 0, .int 0, .int 0, .int 0, .int 0, .int (-1), .ref a7, .ref a8, .int 0, .ref a9, .int 0, .ref a10, .ref a11, .ref a12, .ref a13, .ref a14, .int 0, .ref a15, .ref a16, .ref a17])), (a15, .inl (cy 1, 4, .inl (upd (upd (upd (upd (fun _ => 0) 0 (-1)) 1 (-1)) 2 (-1)) 3 (-1))))] _ _ := w
  refine r_top (g2 := F0 m 6 ls [.int 2, .ref a0]) rfl ?_
  refine r_put C w 0 rfl rfl 5 (by decide) fl_RX12_71 rfl (ty := .int) (tyX12_ok 5 (by decide)) rfl rfl (Nat.le_of_ble_eq_true rfl) [(a0, .inr (12, [.ref a1, .ref a2, .ref a3, .ref a4, .ref a5, .int 2, .ref a6, .int 0, .int 0, .int 0, .int 0, .int 0, .int 0, .int 0, .int 0, .int 0, .int 0, .int (-1), .ref a7, .ref a8, .int 0, .ref a9, .int 0, .ref a10, .ref a11, .ref a12, .ref a13, .ref a14, .int 0, .ref a15, .ref a16, .ref a17])), (a15, .inl (cy 1, 4, .inl (upd (upd (upd (upd (fun _ => 0) 0 (-1)) 1 (-1)) 2 (-1)) 3 (-1))))] rfl dX12_pour_6 (fun H locs w => ?_)
  refine lv_aload_n C.1 C.2.1 dX12_pour_9 rfl (lv_at hl 0 rfl) ?_
  refine r_get C w 0 rfl rfl 5 (by decide) fl_RX12_71 (v := .int 2) rfl dX12_pour_10 ?_
  refine b_if_le_f C (tgt := 18) dX12_pour_13 (by decide) (by decide) ?_
  refine lv_iconst (v := 0) C.1 C.2.1 dX12_pour_16 (by decide) ?_
  exact r_iret C w hlocks () hr rfl rfl trivial [0, 1] rfl rfl ⟨Nat.le_of_ble_eq_true rfl, Nat.le_of_ble_eq_true rfl⟩ dX12_pour_17
set_option maxRecDepth 100000 in
set_option maxHeartbeats 4000000 in
theorem c_X12_pour_3 (l : Launch) (D : va_G) (cy : Nat → ClassId) (a0 a1 a2 a3 a4 a5 a6 a7 a8 a9 a10 a11 a12 a13 a14 a15 a16 a17 : Nat) : Ct l D cy yX12_pour cX12_pour 4 (some .int) 3 66 0 0 [(a0, .inr (12, [.ref a1, .ref a2, .ref a3, .ref a4, .ref a5, .int 0, .ref a6, .int 0, .int 0, .int 0, .int 0, .int 0, .int 0, .int 0, .int 0, .int 0, .int 0, .int (-1), .ref a7, .ref a8, .int 0, .ref a9, .int 0, .ref a10, .ref a11, .ref a12, .ref a13, .ref a14, .int 0, .ref a15, .ref a16, .ref a17])), (a15, .inl (cy 1, 4, .inl (upd (upd (upd (upd (fun _ => 0) 0 (-1)) 1 (-1)) 2 (-1)) 3 (-1))))] [.ref a0, .int 3] (fun u : Unit => some (.int 0)) (fun _ => True) (fun u : Unit => [(a0, .inr (12, [.ref a1, .ref a2, .ref a3, .ref a4, .ref a5, .int 2, .ref a6, .int 0, .int 0, .int 0, .int 0, .int 0, .int 0, .int 0, .int 0, .int 0, .int 0, .int (-1), .ref a7, .ref a8, .int 0, .ref a9, .int 0, .ref a10, .ref a11, .ref a12, .ref a13, .ref a14, .int 0, .ref a15, .ref a16, .ref a17])), (a15, .inl (cy 1, 4, .inl (upd (upd (upd (upd (fun _ => 0) 0 (-1)) 1 (-1)) 2 (-1)) 3 (-1))))]) := by
  refine Ct.of (by decide +kernel) (Nat.le_of_ble_eq_true rfl) ?_
  intro p e s m args below meth c A ls C hr hlocks hml hnm w hl
  have hl : lv_has ls 4 [(0, .ref a0), (1, .int 3)] := hl
  refine lv_aload_n C.1 C.2.1 dX12_pour_0 rfl (lv_at hl 0 rfl) ?_
  refine lv_aload_n C.1 C.2.1 dX12_pour_1 rfl (lv_at hl 0 rfl) ?_
  refine lv_iload_n C.1 C.2.1 dX12_pour_2 rfl (lv_at hl 1 rfl) ?_
  refine r_callV C w fv_RX12_406 (c_X12_trayFault_8 l D cy a0 a1 a2 a3 a4 a5 a6 a7 a8 a9 a10 a11 a12 a13 a14 a15 a16 a17) (hl.1.trans hml.symm) [0, 1] [] (wr := []) ⟨rfl, rfl, rfl, rfl, by decide⟩ 0 rfl rfl rfl rfl rfl ⟨Nat.le_of_ble_eq_true rfl, Nat.le_of_ble_eq_true rfl, Nat.le_of_ble_eq_true rfl⟩ 0 0 ⟨rfl, rfl, Nat.le_of_ble_eq_true rfl, Nat.le_of_ble_eq_true rfl⟩ dX12_pour_3 (fun u H locs hp w => ?_)
  have w : Wd D A s.heap [(a0, .inr (12, [.ref a1, .ref a2, .ref a3, .ref a4, .ref a5, .int 0, .ref a6, .int 0, .int 0, .int 0, .int 0, .int 0, .int 0, .int 0, .int 0, .int 0, .int 0, .int (-1), .ref a7, .ref a8, .int 0, .ref a9, .int 0, .ref a10, .ref a11, .ref a12, .ref a13, .ref a14, .int 0, .ref a15, .ref a16, .ref a17])), (a15, .inl (cy 1, 4, .inl (upd (upd (upd (upd (fun _ => 0) 0 (-1)) 1 (-1)) 2 (-1)) 3 (-1))))] _ _ := w
  refine r_top (g2 := F0 m 6 ls [.int 2, .ref a0]) rfl ?_
  refine r_put C w 0 rfl rfl 5 (by decide) fl_RX12_71 rfl (ty := .int) (tyX12_ok 5 (by decide)) rfl rfl (Nat.le_of_ble_eq_true rfl) [(a0, .inr (12, [.ref a1, .ref a2, .ref a3, .ref a4, .ref a5, .int 2, .ref a6, .int 0, .int 0, .int 0, .int 0, .int 0, .int 0, .int 0, .int 0, .int 0, .int 0, .int (-1), .ref a7, .ref a8, .int 0, .ref a9, .int 0, .ref a10, .ref a11, .ref a12, .ref a13, .ref a14, .int 0, .ref a15, .ref a16, .ref a17])), (a15, .inl (cy 1, 4, .inl (upd (upd (upd (upd (fun _ => 0) 0 (-1)) 1 (-1)) 2 (-1)) 3 (-1))))] rfl dX12_pour_6 (fun H locs w => ?_)
  refine lv_aload_n C.1 C.2.1 dX12_pour_9 rfl (lv_at hl 0 rfl) ?_
  refine r_get C w 0 rfl rfl 5 (by decide) fl_RX12_71 (v := .int 2) rfl dX12_pour_10 ?_
  refine b_if_le_f C (tgt := 18) dX12_pour_13 (by decide) (by decide) ?_
  refine lv_iconst (v := 0) C.1 C.2.1 dX12_pour_16 (by decide) ?_
  exact r_iret C w hlocks () hr rfl rfl trivial [0, 1] rfl rfl ⟨Nat.le_of_ble_eq_true rfl, Nat.le_of_ble_eq_true rfl⟩ dX12_pour_17
set_option maxRecDepth 100000 in
set_option maxHeartbeats 4000000 in
theorem c_X12_pour_4 (l : Launch) (D : va_G) (cy : Nat → ClassId) (a0 a1 a2 a3 a4 a5 a6 a7 a8 a9 a10 a11 a12 a13 a14 a15 a16 a17 : Nat) : Ct l D cy yX12_pour cX12_pour 4 (some .int) 3 66 0 0 [(a0, .inr (12, [.ref a1, .ref a2, .ref a3, .ref a4, .ref a5, .int 0, .ref a6, .int 0, .int 0, .int 0, .int 0, .int 0, .int 0, .int 0, .int 0, .int 0, .int 0, .int (-1), .ref a7, .ref a8, .int 0, .ref a9, .int 0, .ref a10, .ref a11, .ref a12, .ref a13, .ref a14, .int 0, .ref a15, .ref a16, .ref a17])), (a15, .inl (cy 1, 4, .inl (upd (upd (upd (upd (fun _ => 0) 0 (-1)) 1 (-1)) 2 (-1)) 3 (-1))))] [.ref a0, .int 0] (fun u : Unit => some (.int 0)) (fun _ => True) (fun u : Unit => [(a0, .inr (12, [.ref a1, .ref a2, .ref a3, .ref a4, .ref a5, .int 2, .ref a6, .int 0, .int 0, .int 0, .int 0, .int 0, .int 0, .int 0, .int 0, .int 0, .int 0, .int (-1), .ref a7, .ref a8, .int 0, .ref a9, .int 0, .ref a10, .ref a11, .ref a12, .ref a13, .ref a14, .int 0, .ref a15, .ref a16, .ref a17])), (a15, .inl (cy 1, 4, .inl (upd (upd (upd (upd (fun _ => 0) 0 (-1)) 1 (-1)) 2 (-1)) 3 (-1))))]) := by
  refine Ct.of (by decide +kernel) (Nat.le_of_ble_eq_true rfl) ?_
  intro p e s m args below meth c A ls C hr hlocks hml hnm w hl
  have hl : lv_has ls 4 [(0, .ref a0), (1, .int 0)] := hl
  refine lv_aload_n C.1 C.2.1 dX12_pour_0 rfl (lv_at hl 0 rfl) ?_
  refine lv_aload_n C.1 C.2.1 dX12_pour_1 rfl (lv_at hl 0 rfl) ?_
  refine lv_iload_n C.1 C.2.1 dX12_pour_2 rfl (lv_at hl 1 rfl) ?_
  refine r_callV C w fv_RX12_406 (c_X12_trayFault_9 l D cy a0 a1 a2 a3 a4 a5 a6 a7 a8 a9 a10 a11 a12 a13 a14 a15 a16 a17) (hl.1.trans hml.symm) [0, 1] [] (wr := []) ⟨rfl, rfl, rfl, rfl, by decide⟩ 0 rfl rfl rfl rfl rfl ⟨Nat.le_of_ble_eq_true rfl, Nat.le_of_ble_eq_true rfl, Nat.le_of_ble_eq_true rfl⟩ 0 0 ⟨rfl, rfl, Nat.le_of_ble_eq_true rfl, Nat.le_of_ble_eq_true rfl⟩ dX12_pour_3 (fun u H locs hp w => ?_)
  have w : Wd D A s.heap [(a0, .inr (12, [.ref a1, .ref a2, .ref a3, .ref a4, .ref a5, .int 0, .ref a6, .int 0, .int 0, .int 0, .int 0, .int 0, .int 0, .int 0, .int 0, .int 0, .int 0, .int (-1), .ref a7, .ref a8, .int 0, .ref a9, .int 0, .ref a10, .ref a11, .ref a12, .ref a13, .ref a14, .int 0, .ref a15, .ref a16, .ref a17])), (a15, .inl (cy 1, 4, .inl (upd (upd (upd (upd (fun _ => 0) 0 (-1)) 1 (-1)) 2 (-1)) 3 (-1))))] _ _ := w
  refine r_top (g2 := F0 m 6 ls [.int 2, .ref a0]) rfl ?_
  refine r_put C w 0 rfl rfl 5 (by decide) fl_RX12_71 rfl (ty := .int) (tyX12_ok 5 (by decide)) rfl rfl (Nat.le_of_ble_eq_true rfl) [(a0, .inr (12, [.ref a1, .ref a2, .ref a3, .ref a4, .ref a5, .int 2, .ref a6, .int 0, .int 0, .int 0, .int 0, .int 0, .int 0, .int 0, .int 0, .int 0, .int 0, .int (-1), .ref a7, .ref a8, .int 0, .ref a9, .int 0, .ref a10, .ref a11, .ref a12, .ref a13, .ref a14, .int 0, .ref a15, .ref a16, .ref a17])), (a15, .inl (cy 1, 4, .inl (upd (upd (upd (upd (fun _ => 0) 0 (-1)) 1 (-1)) 2 (-1)) 3 (-1))))] rfl dX12_pour_6 (fun H locs w => ?_)
  refine lv_aload_n C.1 C.2.1 dX12_pour_9 rfl (lv_at hl 0 rfl) ?_
  refine r_get C w 0 rfl rfl 5 (by decide) fl_RX12_71 (v := .int 2) rfl dX12_pour_10 ?_
  refine b_if_le_f C (tgt := 18) dX12_pour_13 (by decide) (by decide) ?_
  refine lv_iconst (v := 0) C.1 C.2.1 dX12_pour_16 (by decide) ?_
  exact r_iret C w hlocks () hr rfl rfl trivial [0, 1] rfl rfl ⟨Nat.le_of_ble_eq_true rfl, Nat.le_of_ble_eq_true rfl⟩ dX12_pour_17
set_option maxRecDepth 100000 in
set_option maxHeartbeats 4000000 in
theorem c_X12_pour_5 (l : Launch) (D : va_G) (cy : Nat → ClassId) (a0 a1 a2 a3 a4 a5 a6 a7 a8 a9 a10 a11 a12 a13 a14 a15 a16 a17 : Nat) (x0 : Int32) (k0 : ¬ x0 < 0) (k1 : 3 < x0) : Ct l D cy yX12_pour cX12_pour 4 (some .int) 3 66 0 0 [(a0, .inr (12, [.ref a1, .ref a2, .ref a3, .ref a4, .ref a5, .int 0, .ref a6, .int 0, .int 0, .int 0, .int 0, .int 0, .int 0, .int 0, .int 0, .int 0, .int 0, .int (-1), .ref a7, .ref a8, .int 0, .ref a9, .int 0, .ref a10, .ref a11, .ref a12, .ref a13, .ref a14, .int 0, .ref a15, .ref a16, .ref a17]))] [.ref a0, .int x0] (fun u : Unit => some (.int 0)) (fun _ => True) (fun u : Unit => [(a0, .inr (12, [.ref a1, .ref a2, .ref a3, .ref a4, .ref a5, .int 1, .ref a6, .int 0, .int 0, .int 0, .int 0, .int 0, .int 0, .int 0, .int 0, .int 0, .int 0, .int (-1), .ref a7, .ref a8, .int 0, .ref a9, .int 0, .ref a10, .ref a11, .ref a12, .ref a13, .ref a14, .int 0, .ref a15, .ref a16, .ref a17]))]) := by
  refine Ct.of (by decide +kernel) (Nat.le_of_ble_eq_true rfl) ?_
  intro p e s m args below meth c A ls C hr hlocks hml hnm w hl
  have hl : lv_has ls 4 [(0, .ref a0), (1, .int x0)] := hl
  refine lv_aload_n C.1 C.2.1 dX12_pour_0 rfl (lv_at hl 0 rfl) ?_
  refine lv_aload_n C.1 C.2.1 dX12_pour_1 rfl (lv_at hl 0 rfl) ?_
  refine lv_iload_n C.1 C.2.1 dX12_pour_2 rfl (lv_at hl 1 rfl) ?_
  refine r_callV C w fv_RX12_406 (c_X12_trayFault_1 l D cy a0 a1 a2 a3 a4 a5 a6 a7 a8 a9 a10 a11 a12 a13 a14 a15 a16 a17 x0 k0 k1) (hl.1.trans hml.symm) [0] [] (wr := []) ⟨rfl, rfl, rfl, rfl, by decide⟩ 0 rfl rfl rfl rfl rfl ⟨Nat.le_of_ble_eq_true rfl, Nat.le_of_ble_eq_true rfl, Nat.le_of_ble_eq_true rfl⟩ 0 0 ⟨rfl, rfl, Nat.le_of_ble_eq_true rfl, Nat.le_of_ble_eq_true rfl⟩ dX12_pour_3 (fun u H locs hp w => ?_)
  have w : Wd D A s.heap [(a0, .inr (12, [.ref a1, .ref a2, .ref a3, .ref a4, .ref a5, .int 0, .ref a6, .int 0, .int 0, .int 0, .int 0, .int 0, .int 0, .int 0, .int 0, .int 0, .int 0, .int (-1), .ref a7, .ref a8, .int 0, .ref a9, .int 0, .ref a10, .ref a11, .ref a12, .ref a13, .ref a14, .int 0, .ref a15, .ref a16, .ref a17]))] _ _ := w
  refine r_top (g2 := F0 m 6 ls [.int 1, .ref a0]) rfl ?_
  refine r_put C w 0 rfl rfl 5 (by decide) fl_RX12_71 rfl (ty := .int) (tyX12_ok 5 (by decide)) rfl rfl (Nat.le_of_ble_eq_true rfl) [(a0, .inr (12, [.ref a1, .ref a2, .ref a3, .ref a4, .ref a5, .int 1, .ref a6, .int 0, .int 0, .int 0, .int 0, .int 0, .int 0, .int 0, .int 0, .int 0, .int 0, .int (-1), .ref a7, .ref a8, .int 0, .ref a9, .int 0, .ref a10, .ref a11, .ref a12, .ref a13, .ref a14, .int 0, .ref a15, .ref a16, .ref a17]))] rfl dX12_pour_6 (fun H locs w => ?_)
  refine lv_aload_n C.1 C.2.1 dX12_pour_9 rfl (lv_at hl 0 rfl) ?_
  refine r_get C w 0 rfl rfl 5 (by decide) fl_RX12_71 (v := .int 1) rfl dX12_pour_10 ?_
  refine b_if_le_f C (tgt := 18) dX12_pour_13 (by decide) (by decide) ?_
  refine lv_iconst (v := 0) C.1 C.2.1 dX12_pour_16 (by decide) ?_
  exact r_iret C w hlocks () hr rfl rfl trivial [0] rfl rfl ⟨Nat.le_of_ble_eq_true rfl, Nat.le_of_ble_eq_true rfl⟩ dX12_pour_17
