theorem dX11_shortest_0 : decode cX11_shortest 0 = .ok (.iload_n 2, 1) := by decide +kernel
theorem dX11_shortest_1 : decode cX11_shortest 1 = .ok (.bipush 10, 2) := by decide +kernel
theorem dX11_shortest_3 : decode cX11_shortest 3 = .ok (.isub, 1) := by decide +kernel
theorem dX11_shortest_4 : decode cX11_shortest 4 = .ok (.istore_n 3, 1) := by decide +kernel
theorem dX11_shortest_5 : decode cX11_shortest 5 = .ok (.iload_n 2, 1) := by decide +kernel
theorem dX11_shortest_6 : decode cX11_shortest 6 = .ok (.bipush 10, 2) := by decide +kernel
theorem dX11_shortest_8 : decode cX11_shortest 8 = .ok (.if_icmp .lt 12, 3) := by decide +kernel
theorem dX11_shortest_20 : decode cX11_shortest 20 = .ok (.iconst 0, 1) := by decide +kernel
theorem dX11_shortest_21 : decode cX11_shortest 21 = .ok (.istore 4, 2) := by decide +kernel
theorem dX11_shortest_23 : decode cX11_shortest 23 = .ok (.iload_n 1, 1) := by decide +kernel
theorem dX11_shortest_24 : decode cX11_shortest 24 = .ok (.iconst 1, 1) := by decide +kernel
theorem dX11_shortest_25 : decode cX11_shortest 25 = .ok (.if_icmp .lt 22, 3) := by decide +kernel
theorem ft_52_256_56 : FT RX11 52 256 56 nIAE "no such n or what" := ft_of (by decide +kernel) (by decide +kernel) (by decide +kernel) (by decide +kernel) fa5_56 fa6_52_56
theorem dX11_shortest_47 : decode cX11_shortest 47 = .ok (.new 52, 3) := by decide +kernel
theorem dX11_shortest_50 : decode cX11_shortest 50 = .ok (.dup, 1) := by decide +kernel
theorem dX11_shortest_51 : decode cX11_shortest 51 = .ok (.ldc_w 256, 3) := by decide +kernel
theorem dX11_shortest_54 : decode cX11_shortest 54 = .ok (.invokespecial 56, 3) := by decide +kernel
theorem dX11_shortest_57 : decode cX11_shortest 57 = .ok (.athrow, 1) := by decide +kernel
set_option maxRecDepth 100000 in
set_option maxHeartbeats 4000000 in
theorem c_X11_shortest_0 (l : Launch) (D : va_G) (cy : Nat → ClassId) (a0 a1 a2 a3 a4 a5 a6 : Nat) (x0 : Int32) (x1 : Int32) (k0 : x1 < 10) (k1 : x0 < 1) (hst : l.stackTraces = false) : CtX l D cy yX11_shortest cX11_shortest 6 (some .int) 6 82 1 6 [(a0, .inr (11, [.ref a1, .int 0, .int 0, .int (-1), .ref a2, .ref a3, .ref a4, .ref a5, .ref a6, .null]))] [.ref a0, .int x0, .int x1] nIAE := by
  refine CtX.of (by decide +kernel) (Nat.le_of_ble_eq_true rfl) ?_
  intro p e s m args below meth c A ls C hlocks hml htab w hl
  have hl : lv_has ls 6 [(0, .ref a0), (1, .int x0), (2, .int x1)] := hl
  refine lv_iload_n C.1 C.2.1 dX11_shortest_0 rfl (lv_at hl 2 rfl) ?_
  refine lv_bipush (v := 10) C.1 C.2.1 dX11_shortest_1 (by decide) ?_
  refine r_isub C (v := (x1 - 10)) dX11_shortest_3 rfl ?_
  refine lv_istore_n (lv' := [(3, .int (x1 - 10)), (0, .ref a0), (1, .int x0), (2, .int x1)]) C.1 C.2.1 dX11_shortest_4 rfl hl (by decide) rfl (fun ls hl => ?_)
  refine lv_iload_n C.1 C.2.1 dX11_shortest_5 rfl (lv_at hl 3 rfl) ?_
  refine lv_bipush (v := 10) C.1 C.2.1 dX11_shortest_6 (by decide) ?_
  refine b_icmp_lt_t C (tgt := 20) dX11_shortest_8 (by decide) k0 ?_
  refine lv_iconst (v := 0) C.1 C.2.1 dX11_shortest_20 (by decide) ?_
  refine lv_istore (lv' := [(4, .int 0), (3, .int (x1 - 10)), (0, .ref a0), (1, .int x0), (2, .int x1)]) C.1 C.2.1 dX11_shortest_21 hl (by decide) rfl (fun ls hl => ?_)
  refine lv_iload_n C.1 C.2.1 dX11_shortest_23 rfl (lv_at hl 3 rfl) ?_
  refine lv_iconst (v := 1) C.1 C.2.1 dX11_shortest_24 (by decide) ?_
  refine b_icmp_lt_t C (tgt := 47) dX11_shortest_25 (by decide) k1 ?_
  exact r_throwSW C hst w ft_52_256_56 (hl.1.trans hml.symm) hlocks htab dX11_shortest_47 dX11_shortest_50 dX11_shortest_51 dX11_shortest_54 dX11_shortest_57 ⟨Nat.le_of_ble_eq_true rfl, Nat.le_of_ble_eq_true rfl, Nat.le_of_ble_eq_true rfl, Nat.le_of_ble_eq_true rfl⟩ ⟨Nat.le_of_ble_eq_true rfl, Nat.le_of_ble_eq_true rfl⟩
theorem dX11_shortest_28 : decode cX11_shortest 28 = .ok (.iload_n 1, 1) := by decide +kernel
theorem dX11_shortest_29 : decode cX11_shortest 29 = .ok (.iconst 4, 1) := by decide +kernel
theorem dX11_shortest_30 : decode cX11_shortest 30 = .ok (.if_icmp .gt 17, 3) := by decide +kernel
set_option maxRecDepth 100000 in
set_option maxHeartbeats 4000000 in
theorem c_X11_shortest_1 (l : Launch) (D : va_G) (cy : Nat → ClassId) (a0 a1 a2 a3 a4 a5 a6 : Nat) (x0 : Int32) (x1 : Int32) (k0 : x1 < 10) (k1 : ¬ x0 < 1) (k2 : 4 < x0) (hst : l.stackTraces = false) : CtX l D cy yX11_shortest cX11_shortest 6 (some .int) 6 82 1 6 [(a0, .inr (11, [.ref a1, .int 0, .int 0, .int (-1), .ref a2, .ref a3, .ref a4, .ref a5, .ref a6, .null]))] [.ref a0, .int x0, .int x1] nIAE := by
  refine CtX.of (by decide +kernel) (Nat.le_of_ble_eq_true rfl) ?_
  intro p e s m args below meth c A ls C hlocks hml htab w hl
  have hl : lv_has ls 6 [(0, .ref a0), (1, .int x0), (2, .int x1)] := hl
  refine lv_iload_n C.1 C.2.1 dX11_shortest_0 rfl (lv_at hl 2 rfl) ?_
  refine lv_bipush (v := 10) C.1 C.2.1 dX11_shortest_1 (by decide) ?_
  refine r_isub C (v := (x1 - 10)) dX11_shortest_3 rfl ?_
  refine lv_istore_n (lv' := [(3, .int (x1 - 10)), (0, .ref a0), (1, .int x0), (2, .int x1)]) C.1 C.2.1 dX11_shortest_4 rfl hl (by decide) rfl (fun ls hl => ?_)
  refine lv_iload_n C.1 C.2.1 dX11_shortest_5 rfl (lv_at hl 3 rfl) ?_
  refine lv_bipush (v := 10) C.1 C.2.1 dX11_shortest_6 (by decide) ?_
  refine b_icmp_lt_t C (tgt := 20) dX11_shortest_8 (by decide) k0 ?_
  refine lv_iconst (v := 0) C.1 C.2.1 dX11_shortest_20 (by decide) ?_
  refine lv_istore (lv' := [(4, .int 0), (3, .int (x1 - 10)), (0, .ref a0), (1, .int x0), (2, .int x1)]) C.1 C.2.1 dX11_shortest_21 hl (by decide) rfl (fun ls hl => ?_)
  refine lv_iload_n C.1 C.2.1 dX11_shortest_23 rfl (lv_at hl 3 rfl) ?_
  refine lv_iconst (v := 1) C.1 C.2.1 dX11_shortest_24 (by decide) ?_
  refine b_icmp_lt_f C (tgt := 47) dX11_shortest_25 (by decide) k1 ?_
  refine lv_iload_n C.1 C.2.1 dX11_shortest_28 rfl (lv_at hl 3 rfl) ?_
  refine lv_iconst (v := 4) C.1 C.2.1 dX11_shortest_29 (by decide) ?_
  refine b_icmp_gt_t C (tgt := 47) dX11_shortest_30 (by decide) k2 ?_
  exact r_throwSW C hst w ft_52_256_56 (hl.1.trans hml.symm) hlocks htab dX11_shortest_47 dX11_shortest_50 dX11_shortest_51 dX11_shortest_54 dX11_shortest_57 ⟨Nat.le_of_ble_eq_true rfl, Nat.le_of_ble_eq_true rfl, Nat.le_of_ble_eq_true rfl, Nat.le_of_ble_eq_true rfl⟩ ⟨Nat.le_of_ble_eq_true rfl, Nat.le_of_ble_eq_true rfl⟩
theorem dX11_shortest_33 : decode cX11_shortest 33 = .ok (.iload_n 2, 1) := by decide +kernel
theorem dX11_shortest_34 : decode cX11_shortest 34 = .ok (.ifCond .eq 24, 3) := by decide +kernel
theorem dX11_shortest_58 : decode cX11_shortest 58 = .ok (.aload_n 0, 1) := by decide +kernel
theorem dX11_shortest_59 : decode cX11_shortest 59 = .ok (.invokevirtual 100, 3) := by decide +kernel
theorem fl_RX11_258 : Cond.fieldLink RX11 258 "TwoSlips$Scene" "shortest" "LTwoSlips$Shortest;" ∈ gw := gw_mem (by decide +kernel) (by decide +kernel)
theorem dX11_shortest_62 : decode cX11_shortest 62 = .ok (.getfield 258, 3) := by decide +kernel
theorem dX11_shortest_65 : decode cX11_shortest 65 = .ok (.astore 5, 2) := by decide +kernel
theorem dX11_shortest_67 : decode cX11_shortest 67 = .ok (.aload 5, 2) := by decide +kernel
theorem dX11_shortest_69 : decode cX11_shortest 69 = .ok (.iload_n 1, 1) := by decide +kernel
theorem dX11_shortest_70 : decode cX11_shortest 70 = .ok (.invokevirtual 262, 3) := by decide +kernel
theorem dX7_seek_0 : decode cX7_seek 0 = .ok (.aload_n 0, 1) := by decide +kernel
theorem dX7_seek_1 : decode cX7_seek 1 = .ok (.getfield 15, 3) := by decide +kernel
theorem dX7_seek_4 : decode cX7_seek 4 = .ok (.iconst (-1), 1) := by decide +kernel
theorem dX7_seek_5 : decode cX7_seek 5 = .ok (.if_icmp .ne 11, 3) := by decide +kernel
theorem dX7_seek_8 : decode cX7_seek 8 = .ok (.aload_n 0, 1) := by decide +kernel
theorem dX7_seek_9 : decode cX7_seek 9 = .ok (.getfield 9, 3) := by decide +kernel
theorem dX7_seek_12 : decode cX7_seek 12 = .ok (.iload_n 1, 1) := by decide +kernel
theorem dX7_seek_13 : decode cX7_seek 13 = .ok (.if_icmp .lt 4, 3) := by decide +kernel
theorem dX7_seek_17 : decode cX7_seek 17 = .ok (.aload_n 0, 1) := by decide +kernel
theorem dX7_seek_18 : decode cX7_seek 18 = .ok (.getfield 25, 3) := by decide +kernel
theorem dX7_seek_21 : decode cX7_seek 21 = .ok (.invokevirtual 29, 3) := by decide +kernel
theorem fv_RX7_29 : FV RX7 29 yX0_begin cX0_begin 1 none 0 := ⟨⟨gw_mem (by decide +kernel) (by decide +kernel), gw_mem (by decide +kernel) (by decide +kernel), gw_mem (by decide +kernel) (by decide +kernel), gw_mem (by decide +kernel) (by decide +kernel), gw_mem (by decide +kernel) (by decide +kernel)⟩, ⟨by decide +kernel, by decide +kernel, by decide +kernel⟩⟩
theorem dX7_seek_24 : decode cX7_seek 24 = .ok (.aload_n 0, 1) := by decide +kernel
theorem dX7_seek_25 : decode cX7_seek 25 = .ok (.getfield 25, 3) := by decide +kernel
theorem fl_RX7_34 : Cond.fieldLink RX7 34 "TwoSlips$Asking" "high" "I" ∈ gw := gw_mem (by decide +kernel) (by decide +kernel)
theorem dX7_seek_28 : decode cX7_seek 28 = .ok (.getfield 34, 3) := by decide +kernel
theorem dX7_seek_31 : decode cX7_seek 31 = .ok (.istore_n 2, 1) := by decide +kernel
theorem dX7_seek_32 : decode cX7_seek 32 = .ok (.aload_n 0, 1) := by decide +kernel
theorem dX7_seek_33 : decode cX7_seek 33 = .ok (.getfield 9, 3) := by decide +kernel
theorem dX7_seek_36 : decode cX7_seek 36 = .ok (.iconst (-1), 1) := by decide +kernel
theorem dX7_seek_37 : decode cX7_seek 37 = .ok (.if_icmp .ne 26, 3) := by decide +kernel
theorem dX7_seek_40 : decode cX7_seek 40 = .ok (.iload_n 2, 1) := by decide +kernel
theorem dX7_seek_41 : decode cX7_seek 41 = .ok (.iconst 1, 1) := by decide +kernel
theorem dX7_seek_42 : decode cX7_seek 42 = .ok (.if_icmp .ne 21, 3) := by decide +kernel
theorem dX7_seek_63 : decode cX7_seek 63 = .ok (.aload_n 0, 1) := by decide +kernel
theorem dX7_seek_64 : decode cX7_seek 64 = .ok (.aload_n 0, 1) := by decide +kernel
theorem dX7_seek_65 : decode cX7_seek 65 = .ok (.getfield 9, 3) := by decide +kernel
theorem dX7_seek_68 : decode cX7_seek 68 = .ok (.iconst 0, 1) := by decide +kernel
theorem ml_RX7_40 : Cond.methodLink RX7 40 Lib.Math.max.name ∈ gw := gw_mem (by decide +kernel) (by decide +kernel)
theorem dX7_seek_69 : decode cX7_seek 69 = .ok (.invokestatic 40, 3) := by decide +kernel
theorem dX7_seek_72 : decode cX7_seek 72 = .ok (.putfield 9, 3) := by decide +kernel
theorem dX7_seek_75 : decode cX7_seek 75 = .ok (.aload_n 0, 1) := by decide +kernel
theorem dX7_seek_76 : decode cX7_seek 76 = .ok (.aload_n 0, 1) := by decide +kernel
theorem dX7_seek_77 : decode cX7_seek 77 = .ok (.getfield 9, 3) := by decide +kernel
theorem dX7_seek_80 : decode cX7_seek 80 = .ok (.iconst 1, 1) := by decide +kernel
theorem dX7_seek_81 : decode cX7_seek 81 = .ok (.iadd, 1) := by decide +kernel
theorem dX7_seek_82 : decode cX7_seek 82 = .ok (.putfield 46, 3) := by decide +kernel
theorem fl_RX7_46 : Cond.fieldLink RX7 46 "TwoSlips$Shortest" "limit" "I" ∈ gw := gw_mem (by decide +kernel) (by decide +kernel)
theorem dX7_seek_85 : decode cX7_seek 85 = .ok (.aload_n 0, 1) := by decide +kernel
theorem dX7_seek_86 : decode cX7_seek 86 = .ok (.getfield 46, 3) := by decide +kernel
theorem dX7_seek_89 : decode cX7_seek 89 = .ok (.iload_n 1, 1) := by decide +kernel
theorem dX7_seek_90 : decode cX7_seek 90 = .ok (.if_icmp .gt 59, 3) := by decide +kernel
theorem dX7_seek_149 : decode cX7_seek 149 = .ok (.return_, 1) := by decide +kernel
set_option maxRecDepth 100000 in
set_option maxHeartbeats 4000000 in
theorem c_X7_seek_0 (l : Launch) (D : va_G) (cy : Nat → ClassId) (a0 a1 a2 a3 a4 a5 a9 a10 a11 a12 a13 a14 a15 : Nat) : Ct l D cy yX7_seek cX7_seek 3 none 3 78 0 0 [(a0, .inr (7, [.ref a1, .int 0, .int (-1), .int (-1), .int (-1), .ref a2])), (a1, .inr (0, [.ref a3, .ref a4, .ref a5, .int 0, .int 0])), (a4, .inl (cy 1, 1830, .inl (fun _ => 0))), (a5, .inr (9, [.int 0, .int 2, .int 20, .int 120, .int 0, .int 0, .int 0, .int 0, .ref a9, .int 0, .ref a10, .ref a11, .int 0, .ref a12, .ref a13, .ref a14, .ref a15]))] [.ref a0, .int 0] (fun u : Unit => none) (fun _ => True) (fun u : Unit => [(a0, .inr (7, [.ref a1, .int 1, .int 0, .int (-1), .int (-1), .ref a2])), (a1, .inr (0, [.ref a3, .ref a4, .ref a5, .int 0, .int 190])), (a4, .inl (cy 1, 1830, .inl (fillF (fun _ => 0) 2 20 (PP 20 2 (20 + 1 - 2))))), (a5, .inr (9, [.int 0, .int 2, .int 20, .int 120, .int 0, .int 0, .int 0, .int 0, .ref a9, .int 0, .ref a10, .ref a11, .int 0, .ref a12, .ref a13, .ref a14, .ref a15]))]) := by
  refine Ct.of (by decide +kernel) (Nat.le_of_ble_eq_true rfl) ?_
  intro p e s m args below meth c A ls C hr hlocks hml hnm w hl
  have hl : lv_has ls 3 [(0, .ref a0), (1, .int 0)] := hl
  refine lv_aload_n C.1 C.2.1 dX7_seek_0 rfl (lv_at hl 0 rfl) ?_
  refine r_get C w 0 rfl rfl 3 (by decide) fl_RX7_15 (v := .int (-1)) rfl dX7_seek_1 ?_
  refine lv_iconst (v := (-1)) C.1 C.2.1 dX7_seek_4 (by decide) ?_
  refine b_icmp_ne_f C (tgt := 16) dX7_seek_5 (by decide) (by decide) ?_
  refine lv_aload_n C.1 C.2.1 dX7_seek_8 rfl (lv_at hl 0 rfl) ?_
  refine r_get C w 0 rfl rfl 2 (by decide) fl_RX7_9 (v := .int (-1)) rfl dX7_seek_9 ?_
  refine lv_iload_n C.1 C.2.1 dX7_seek_12 rfl (lv_at hl 1 rfl) ?_
  refine b_icmp_lt_t C (tgt := 17) dX7_seek_13 (by decide) (by decide) ?_
  refine lv_aload_n C.1 C.2.1 dX7_seek_17 rfl (lv_at hl 0 rfl) ?_
  refine r_get C w 0 rfl rfl 0 (by decide) fl_RX7_25 (v := .ref a1) rfl dX7_seek_18 ?_
  refine r_callV C w fv_RX7_29 (c_X0_begin_0 l D cy a1 a3 a4 a5 a9 a10 a11 a12 a13 a14 a15) (hl.1.trans hml.symm) [1, 2, 3] [0] (wr := [(a0, .inr (7, [.ref a1, .int 0, .int (-1), .int (-1), .int (-1), .ref a2]))]) ⟨rfl, rfl, rfl, rfl, by decide⟩ 0 rfl rfl rfl rfl rfl ⟨Nat.le_of_ble_eq_true rfl, Nat.le_of_ble_eq_true rfl, Nat.le_of_ble_eq_true rfl⟩ 0 0 ⟨rfl, rfl, Nat.le_of_ble_eq_true rfl, Nat.le_of_ble_eq_true rfl⟩ dX7_seek_21 (fun u H locs hp w => ?_)
  have w : Wd D A s.heap [(a0, .inr (7, [.ref a1, .int 0, .int (-1), .int (-1), .int (-1), .ref a2])), (a1, .inr (0, [.ref a3, .ref a4, .ref a5, .int 0, .int 190])), (a4, .inl (cy 1, 1830, .inl (fillF (fun _ => 0) 2 20 (PP 20 2 (20 + 1 - 2))))), (a5, .inr (9, [.int 0, .int 2, .int 20, .int 120, .int 0, .int 0, .int 0, .int 0, .ref a9, .int 0, .ref a10, .ref a11, .int 0, .ref a12, .ref a13, .ref a14, .ref a15]))] _ _ := w
  refine r_top (g2 := F0 m 24 ls []) rfl ?_
  refine lv_aload_n C.1 C.2.1 dX7_seek_24 rfl (lv_at hl 0 rfl) ?_
  refine r_get C w 0 rfl rfl 0 (by decide) fl_RX7_25 (v := .ref a1) rfl dX7_seek_25 ?_
  refine r_get C w 1 rfl rfl 4 (by decide) fl_RX7_34 (v := .int 190) rfl dX7_seek_28 ?_
  refine lv_istore_n (lv' := [(2, .int 190), (0, .ref a0), (1, .int 0)]) C.1 C.2.1 dX7_seek_31 rfl hl (by decide) rfl (fun ls hl => ?_)
  refine lv_aload_n C.1 C.2.1 dX7_seek_32 rfl (lv_at hl 1 rfl) ?_
  refine r_get C w 0 rfl rfl 2 (by decide) fl_RX7_9 (v := .int (-1)) rfl dX7_seek_33 ?_
  refine lv_iconst (v := (-1)) C.1 C.2.1 dX7_seek_36 (by decide) ?_
  refine b_icmp_ne_f C (tgt := 63) dX7_seek_37 (by decide) (by decide) ?_
  refine lv_iload_n C.1 C.2.1 dX7_seek_40 rfl (lv_at hl 0 rfl) ?_
  refine lv_iconst (v := 1) C.1 C.2.1 dX7_seek_41 (by decide) ?_
  refine b_icmp_ne_t C (tgt := 63) dX7_seek_42 (by decide) (by decide) ?_
  refine lv_aload_n C.1 C.2.1 dX7_seek_63 rfl (lv_at hl 1 rfl) ?_
  refine lv_aload_n C.1 C.2.1 dX7_seek_64 rfl (lv_at hl 1 rfl) ?_
  refine r_get C w 0 rfl rfl 2 (by decide) fl_RX7_9 (v := .int (-1)) rfl dX7_seek_65 ?_
  refine lv_iconst (v := 0) C.1 C.2.1 dX7_seek_68 (by decide) ?_
  refine r_mmax C (hl.1.trans hml.symm) ml_RX7_40 st_max it_math cd_max (v := 0) (by decide) ⟨Nat.le_of_ble_eq_true rfl, Nat.le_of_ble_eq_true rfl, Nat.le_of_ble_eq_true rfl, Nat.le_of_ble_eq_true rfl⟩ dX7_seek_69 ?_
  refine r_put C w 0 rfl rfl 2 (by decide) fl_RX7_9 rfl (ty := .int) (tyX7_ok 2 (by decide)) rfl rfl (Nat.le_of_ble_eq_true rfl) [(a0, .inr (7, [.ref a1, .int 0, .int 0, .int (-1), .int (-1), .ref a2])), (a1, .inr (0, [.ref a3, .ref a4, .ref a5, .int 0, .int 190])), (a4, .inl (cy 1, 1830, .inl (fillF (fun _ => 0) 2 20 (PP 20 2 (20 + 1 - 2))))), (a5, .inr (9, [.int 0, .int 2, .int 20, .int 120, .int 0, .int 0, .int 0, .int 0, .ref a9, .int 0, .ref a10, .ref a11, .int 0, .ref a12, .ref a13, .ref a14, .ref a15]))] rfl dX7_seek_72 (fun H locs w => ?_)
  refine lv_aload_n C.1 C.2.1 dX7_seek_75 rfl (lv_at hl 1 rfl) ?_
  refine lv_aload_n C.1 C.2.1 dX7_seek_76 rfl (lv_at hl 1 rfl) ?_
  refine r_get C w 0 rfl rfl 2 (by decide) fl_RX7_9 (v := .int 0) rfl dX7_seek_77 ?_
  refine lv_iconst (v := 1) C.1 C.2.1 dX7_seek_80 (by decide) ?_
  refine r_iadd C (v := 1) dX7_seek_81 (by decide) ?_
  refine r_put C w 0 rfl rfl 1 (by decide) fl_RX7_46 rfl (ty := .int) (tyX7_ok 1 (by decide)) rfl rfl (Nat.le_of_ble_eq_true rfl) [(a0, .inr (7, [.ref a1, .int 1, .int 0, .int (-1), .int (-1), .ref a2])), (a1, .inr (0, [.ref a3, .ref a4, .ref a5, .int 0, .int 190])), (a4, .inl (cy 1, 1830, .inl (fillF (fun _ => 0) 2 20 (PP 20 2 (20 + 1 - 2))))), (a5, .inr (9, [.int 0, .int 2, .int 20, .int 120, .int 0, .int 0, .int 0, .int 0, .ref a9, .int 0, .ref a10, .ref a11, .int 0, .ref a12, .ref a13, .ref a14, .ref a15]))] rfl dX7_seek_82 (fun H locs w => ?_)
  refine lv_aload_n C.1 C.2.1 dX7_seek_85 rfl (lv_at hl 1 rfl) ?_
  refine r_get C w 0 rfl rfl 1 (by decide) fl_RX7_46 (v := .int 1) rfl dX7_seek_86 ?_
  refine lv_iload_n C.1 C.2.1 dX7_seek_89 rfl (lv_at hl 2 rfl) ?_
  refine b_icmp_gt_t C (tgt := 149) dX7_seek_90 (by decide) (by decide) ?_
  exact r_vret C w hlocks () hr rfl trivial [0, 1, 2, 3] rfl rfl ⟨Nat.le_of_ble_eq_true rfl, Nat.le_of_ble_eq_true rfl⟩ dX7_seek_149
theorem dX7_seek_93 : decode cX7_seek 93 = .ok (.aload_n 0, 1) := by decide +kernel
theorem dX7_seek_94 : decode cX7_seek 94 = .ok (.getfield 46, 3) := by decide +kernel
theorem dX7_seek_97 : decode cX7_seek 97 = .ok (.iconst 4, 1) := by decide +kernel
theorem dX7_seek_98 : decode cX7_seek 98 = .ok (.if_icmp .gt 51, 3) := by decide +kernel
theorem dX7_seek_101 : decode cX7_seek 101 = .ok (.aload_n 0, 1) := by decide +kernel
theorem dX7_seek_102 : decode cX7_seek 102 = .ok (.getfield 15, 3) := by decide +kernel
theorem dX7_seek_105 : decode cX7_seek 105 = .ok (.iconst (-1), 1) := by decide +kernel
theorem dX7_seek_106 : decode cX7_seek 106 = .ok (.if_icmp .ne 43, 3) := by decide +kernel
theorem dX7_seek_109 : decode cX7_seek 109 = .ok (.aload_n 0, 1) := by decide +kernel
theorem dX7_seek_110 : decode cX7_seek 110 = .ok (.iconst 0, 1) := by decide +kernel
theorem dX7_seek_111 : decode cX7_seek 111 = .ok (.iconst 0, 1) := by decide +kernel
theorem dX7_seek_112 : decode cX7_seek 112 = .ok (.iload_n 2, 1) := by decide +kernel
theorem dX7_seek_113 : decode cX7_seek 113 = .ok (.iconst (-1), 1) := by decide +kernel
theorem dX7_seek_114 : decode cX7_seek 114 = .ok (.invokevirtual 49, 3) := by decide +kernel
theorem dX7_single_0 : decode cX7_single 0 = .ok (.aload_n 0, 1) := by decide +kernel
theorem dX7_single_1 : decode cX7_single 1 = .ok (.getfield 25, 3) := by decide +kernel
theorem fl_RX7_53 : Cond.fieldLink RX7 53 "TwoSlips$Asking" "talk" "LTwoSlips$Talk;" ∈ gw := gw_mem (by decide +kernel) (by decide +kernel)
theorem dX7_single_4 : decode cX7_single 4 = .ok (.getfield 53, 3) := by decide +kernel
theorem dX7_single_7 : decode cX7_single 7 = .ok (.astore 5, 2) := by decide +kernel
theorem dX7_single_9 : decode cX7_single 9 = .ok (.iconst 0, 1) := by decide +kernel
theorem dX7_single_10 : decode cX7_single 10 = .ok (.istore 6, 2) := by decide +kernel
theorem dX7_single_12 : decode cX7_single 12 = .ok (.iload 6, 2) := by decide +kernel
theorem dX7_single_14 : decode cX7_single 14 = .ok (.aload 5, 2) := by decide +kernel
theorem fl_RX7_57 : Cond.fieldLink RX7 57 "TwoSlips$Talk" "speakers" "I" ∈ gw := gw_mem (by decide +kernel) (by decide +kernel)
theorem dX7_single_16 : decode cX7_single 16 = .ok (.getfield 57, 3) := by decide +kernel
theorem dX7_single_19 : decode cX7_single 19 = .ok (.if_icmp .ge 232, 3) := by decide +kernel
theorem dX7_single_251 : decode cX7_single 251 = .ok (.iconst 0, 1) := by decide +kernel
theorem dX7_single_252 : decode cX7_single 252 = .ok (.ireturn, 1) := by decide +kernel
set_option maxRecDepth 100000 in
set_option maxHeartbeats 4000000 in
theorem c_X7_single_0 (l : Launch) (D : va_G) (cy : Nat → ClassId) (a0 a1 a2 a3 a4 a5 a9 a10 a11 a12 a13 a14 a15 : Nat) : Ct l D cy yX7_single cX7_single 11 (some .boolean) 0 0 0 0 [(a0, .inr (7, [.ref a1, .int 1, .int 0, .int (-1), .int (-1), .ref a2])), (a1, .inr (0, [.ref a3, .ref a4, .ref a5, .int 0, .int 190])), (a5, .inr (9, [.int 0, .int 2, .int 20, .int 120, .int 0, .int 0, .int 0, .int 0, .ref a9, .int 0, .ref a10, .ref a11, .int 0, .ref a12, .ref a13, .ref a14, .ref a15]))] [.ref a0, .int 0, .int 0, .int 190, .int (-1)] (fun u : Unit => some (.int 0)) (fun _ => True) (fun u : Unit => [(a0, .inr (7, [.ref a1, .int 1, .int 0, .int (-1), .int (-1), .ref a2])), (a1, .inr (0, [.ref a3, .ref a4, .ref a5, .int 0, .int 190])), (a5, .inr (9, [.int 0, .int 2, .int 20, .int 120, .int 0, .int 0, .int 0, .int 0, .ref a9, .int 0, .ref a10, .ref a11, .int 0, .ref a12, .ref a13, .ref a14, .ref a15]))]) := by
  refine Ct.of (by decide +kernel) (Nat.le_of_ble_eq_true rfl) ?_
  intro p e s m args below meth c A ls C hr hlocks hml hnm w hl
  have hl : lv_has ls 11 [(0, .ref a0), (1, .int 0), (2, .int 0), (3, .int 190), (4, .int (-1))] := hl
  refine lv_aload_n C.1 C.2.1 dX7_single_0 rfl (lv_at hl 0 rfl) ?_
  refine r_get C w 0 rfl rfl 0 (by decide) fl_RX7_25 (v := .ref a1) rfl dX7_single_1 ?_
  refine r_get C w 1 rfl rfl 2 (by decide) fl_RX7_53 (v := .ref a5) rfl dX7_single_4 ?_
  refine lv_astore (lv' := [(5, .ref a5), (0, .ref a0), (1, .int 0), (2, .int 0), (3, .int 190), (4, .int (-1))]) C.1 C.2.1 dX7_single_7 hl (by decide) rfl (fun ls hl => ?_)
  refine lv_iconst (v := 0) C.1 C.2.1 dX7_single_9 (by decide) ?_
  refine lv_istore (lv' := [(6, .int 0), (5, .ref a5), (0, .ref a0), (1, .int 0), (2, .int 0), (3, .int 190), (4, .int (-1))]) C.1 C.2.1 dX7_single_10 hl (by decide) rfl (fun ls hl => ?_)
  refine lv_iload C.1 C.2.1 dX7_single_12 (lv_at hl 0 rfl) ?_
  refine lv_aload C.1 C.2.1 dX7_single_14 (lv_at hl 1 rfl) ?_
  refine r_get C w 2 rfl rfl 5 (by decide) fl_RX7_57 (v := .int 0) rfl dX7_single_16 ?_
  refine b_icmp_ge_t C (tgt := 251) dX7_single_19 (by decide) (by decide) ?_
  refine lv_iconst (v := 0) C.1 C.2.1 dX7_single_251 (by decide) ?_
  exact r_iret C w hlocks () hr rfl rfl trivial [0, 1, 2] rfl rfl ⟨Nat.le_of_ble_eq_true rfl, Nat.le_of_ble_eq_true rfl⟩ dX7_single_252
theorem fv_RX7_49 : FV RX7 49 yX7_single cX7_single 11 (some .boolean) 4 := ⟨⟨gw_mem (by decide +kernel) (by decide +kernel), gw_mem (by decide +kernel) (by decide +kernel), gw_mem (by decide +kernel) (by decide +kernel), gw_mem (by decide +kernel) (by decide +kernel), gw_mem (by decide +kernel) (by decide +kernel)⟩, ⟨by decide +kernel, by decide +kernel, by decide +kernel⟩⟩
theorem dX7_seek_117 : decode cX7_seek 117 = .ok (.ifCond .eq 11, 3) := by decide +kernel
theorem dX7_seek_128 : decode cX7_seek 128 = .ok (.aload_n 0, 1) := by decide +kernel
theorem dX7_seek_129 : decode cX7_seek 129 = .ok (.aload_n 0, 1) := by decide +kernel
theorem dX7_seek_130 : decode cX7_seek 130 = .ok (.getfield 46, 3) := by decide +kernel
theorem dX7_seek_133 : decode cX7_seek 133 = .ok (.putfield 9, 3) := by decide +kernel
theorem dX7_seek_136 : decode cX7_seek 136 = .ok (.aload_n 0, 1) := by decide +kernel
theorem dX7_seek_137 : decode cX7_seek 137 = .ok (.dup, 1) := by decide +kernel
theorem dX7_seek_138 : decode cX7_seek 138 = .ok (.getfield 46, 3) := by decide +kernel
theorem dX7_seek_141 : decode cX7_seek 141 = .ok (.iconst 1, 1) := by decide +kernel
theorem dX7_seek_142 : decode cX7_seek 142 = .ok (.iadd, 1) := by decide +kernel
theorem dX7_seek_143 : decode cX7_seek 143 = .ok (.putfield 46, 3) := by decide +kernel
theorem dX7_seek_146 : decode cX7_seek 146 = .ok (.goto (-61), 3) := by decide +kernel
set_option maxRecDepth 100000 in
set_option maxHeartbeats 4000000 in
theorem c_X7_seek_1 (l : Launch) (D : va_G) (cy : Nat → ClassId) (a0 a1 a2 a3 a4 a5 a9 a10 a11 a12 a13 a14 a15 : Nat) : Ct l D cy yX7_seek cX7_seek 3 none 3 78 0 0 [(a0, .inr (7, [.ref a1, .int 0, .int (-1), .int (-1), .int (-1), .ref a2])), (a1, .inr (0, [.ref a3, .ref a4, .ref a5, .int 0, .int 0])), (a4, .inl (cy 1, 1830, .inl (fun _ => 0))), (a5, .inr (9, [.int 0, .int 2, .int 20, .int 120, .int 0, .int 0, .int 0, .int 0, .ref a9, .int 0, .ref a10, .ref a11, .int 0, .ref a12, .ref a13, .ref a14, .ref a15]))] [.ref a0, .int 1] (fun u : Unit => none) (fun _ => True) (fun u : Unit => [(a4, .inl (cy 1, 1830, .inl (fillF (fun _ => 0) 2 20 (PP 20 2 (20 + 1 - 2))))), (a0, .inr (7, [.ref a1, .int 2, .int 1, .int (-1), .int (-1), .ref a2])), (a1, .inr (0, [.ref a3, .ref a4, .ref a5, .int 0, .int 190])), (a5, .inr (9, [.int 0, .int 2, .int 20, .int 120, .int 0, .int 0, .int 0, .int 0, .ref a9, .int 0, .ref a10, .ref a11, .int 0, .ref a12, .ref a13, .ref a14, .ref a15]))]) := by
  refine Ct.of (by decide +kernel) (Nat.le_of_ble_eq_true rfl) ?_
  intro p e s m args below meth c A ls C hr hlocks hml hnm w hl
  have hl : lv_has ls 3 [(0, .ref a0), (1, .int 1)] := hl
  refine lv_aload_n C.1 C.2.1 dX7_seek_0 rfl (lv_at hl 0 rfl) ?_
  refine r_get C w 0 rfl rfl 3 (by decide) fl_RX7_15 (v := .int (-1)) rfl dX7_seek_1 ?_
  refine lv_iconst (v := (-1)) C.1 C.2.1 dX7_seek_4 (by decide) ?_
  refine b_icmp_ne_f C (tgt := 16) dX7_seek_5 (by decide) (by decide) ?_
  refine lv_aload_n C.1 C.2.1 dX7_seek_8 rfl (lv_at hl 0 rfl) ?_
  refine r_get C w 0 rfl rfl 2 (by decide) fl_RX7_9 (v := .int (-1)) rfl dX7_seek_9 ?_
  refine lv_iload_n C.1 C.2.1 dX7_seek_12 rfl (lv_at hl 1 rfl) ?_
  refine b_icmp_lt_t C (tgt := 17) dX7_seek_13 (by decide) (by decide) ?_
  refine lv_aload_n C.1 C.2.1 dX7_seek_17 rfl (lv_at hl 0 rfl) ?_
  refine r_get C w 0 rfl rfl 0 (by decide) fl_RX7_25 (v := .ref a1) rfl dX7_seek_18 ?_
  refine r_callV C w fv_RX7_29 (c_X0_begin_0 l D cy a1 a3 a4 a5 a9 a10 a11 a12 a13 a14 a15) (hl.1.trans hml.symm) [1, 2, 3] [0] (wr := [(a0, .inr (7, [.ref a1, .int 0, .int (-1), .int (-1), .int (-1), .ref a2]))]) ⟨rfl, rfl, rfl, rfl, by decide⟩ 0 rfl rfl rfl rfl rfl ⟨Nat.le_of_ble_eq_true rfl, Nat.le_of_ble_eq_true rfl, Nat.le_of_ble_eq_true rfl⟩ 0 0 ⟨rfl, rfl, Nat.le_of_ble_eq_true rfl, Nat.le_of_ble_eq_true rfl⟩ dX7_seek_21 (fun u H locs hp w => ?_)
  have w : Wd D A s.heap [(a0, .inr (7, [.ref a1, .int 0, .int (-1), .int (-1), .int (-1), .ref a2])), (a1, .inr (0, [.ref a3, .ref a4, .ref a5, .int 0, .int 190])), (a4, .inl (cy 1, 1830, .inl (fillF (fun _ => 0) 2 20 (PP 20 2 (20 + 1 - 2))))), (a5, .inr (9, [.int 0, .int 2, .int 20, .int 120, .int 0, .int 0, .int 0, .int 0, .ref a9, .int 0, .ref a10, .ref a11, .int 0, .ref a12, .ref a13, .ref a14, .ref a15]))] _ _ := w
  refine r_top (g2 := F0 m 24 ls []) rfl ?_
  refine lv_aload_n C.1 C.2.1 dX7_seek_24 rfl (lv_at hl 0 rfl) ?_
  refine r_get C w 0 rfl rfl 0 (by decide) fl_RX7_25 (v := .ref a1) rfl dX7_seek_25 ?_
  refine r_get C w 1 rfl rfl 4 (by decide) fl_RX7_34 (v := .int 190) rfl dX7_seek_28 ?_
  refine lv_istore_n (lv' := [(2, .int 190), (0, .ref a0), (1, .int 1)]) C.1 C.2.1 dX7_seek_31 rfl hl (by decide) rfl (fun ls hl => ?_)
  refine lv_aload_n C.1 C.2.1 dX7_seek_32 rfl (lv_at hl 1 rfl) ?_
  refine r_get C w 0 rfl rfl 2 (by decide) fl_RX7_9 (v := .int (-1)) rfl dX7_seek_33 ?_
  refine lv_iconst (v := (-1)) C.1 C.2.1 dX7_seek_36 (by decide) ?_
  refine b_icmp_ne_f C (tgt := 63) dX7_seek_37 (by decide) (by decide) ?_
  refine lv_iload_n C.1 C.2.1 dX7_seek_40 rfl (lv_at hl 0 rfl) ?_
  refine lv_iconst (v := 1) C.1 C.2.1 dX7_seek_41 (by decide) ?_
  refine b_icmp_ne_t C (tgt := 63) dX7_seek_42 (by decide) (by decide) ?_
  refine lv_aload_n C.1 C.2.1 dX7_seek_63 rfl (lv_at hl 1 rfl) ?_
  refine lv_aload_n C.1 C.2.1 dX7_seek_64 rfl (lv_at hl 1 rfl) ?_
  refine r_get C w 0 rfl rfl 2 (by decide) fl_RX7_9 (v := .int (-1)) rfl dX7_seek_65 ?_
  refine lv_iconst (v := 0) C.1 C.2.1 dX7_seek_68 (by decide) ?_
  refine r_mmax C (hl.1.trans hml.symm) ml_RX7_40 st_max it_math cd_max (v := 0) (by decide) ⟨Nat.le_of_ble_eq_true rfl, Nat.le_of_ble_eq_true rfl, Nat.le_of_ble_eq_true rfl, Nat.le_of_ble_eq_true rfl⟩ dX7_seek_69 ?_
  refine r_put C w 0 rfl rfl 2 (by decide) fl_RX7_9 rfl (ty := .int) (tyX7_ok 2 (by decide)) rfl rfl (Nat.le_of_ble_eq_true rfl) [(a0, .inr (7, [.ref a1, .int 0, .int 0, .int (-1), .int (-1), .ref a2])), (a1, .inr (0, [.ref a3, .ref a4, .ref a5, .int 0, .int 190])), (a4, .inl (cy 1, 1830, .inl (fillF (fun _ => 0) 2 20 (PP 20 2 (20 + 1 - 2))))), (a5, .inr (9, [.int 0, .int 2, .int 20, .int 120, .int 0, .int 0, .int 0, .int 0, .ref a9, .int 0, .ref a10, .ref a11, .int 0, .ref a12, .ref a13, .ref a14, .ref a15]))] rfl dX7_seek_72 (fun H locs w => ?_)
  refine lv_aload_n C.1 C.2.1 dX7_seek_75 rfl (lv_at hl 1 rfl) ?_
  refine lv_aload_n C.1 C.2.1 dX7_seek_76 rfl (lv_at hl 1 rfl) ?_
  refine r_get C w 0 rfl rfl 2 (by decide) fl_RX7_9 (v := .int 0) rfl dX7_seek_77 ?_
  refine lv_iconst (v := 1) C.1 C.2.1 dX7_seek_80 (by decide) ?_
  refine r_iadd C (v := 1) dX7_seek_81 (by decide) ?_
  refine r_put C w 0 rfl rfl 1 (by decide) fl_RX7_46 rfl (ty := .int) (tyX7_ok 1 (by decide)) rfl rfl (Nat.le_of_ble_eq_true rfl) [(a0, .inr (7, [.ref a1, .int 1, .int 0, .int (-1), .int (-1), .ref a2])), (a1, .inr (0, [.ref a3, .ref a4, .ref a5, .int 0, .int 190])), (a4, .inl (cy 1, 1830, .inl (fillF (fun _ => 0) 2 20 (PP 20 2 (20 + 1 - 2))))), (a5, .inr (9, [.int 0, .int 2, .int 20, .int 120, .int 0, .int 0, .int 0, .int 0, .ref a9, .int 0, .ref a10, .ref a11, .int 0, .ref a12, .ref a13, .ref a14, .ref a15]))] rfl dX7_seek_82 (fun H locs w => ?_)
  refine lv_aload_n C.1 C.2.1 dX7_seek_85 rfl (lv_at hl 1 rfl) ?_
  refine r_get C w 0 rfl rfl 1 (by decide) fl_RX7_46 (v := .int 1) rfl dX7_seek_86 ?_
  refine lv_iload_n C.1 C.2.1 dX7_seek_89 rfl (lv_at hl 2 rfl) ?_
  refine b_icmp_gt_f C (tgt := 149) dX7_seek_90 (by decide) (by decide) ?_
  refine lv_aload_n C.1 C.2.1 dX7_seek_93 rfl (lv_at hl 1 rfl) ?_
  refine r_get C w 0 rfl rfl 1 (by decide) fl_RX7_46 (v := .int 1) rfl dX7_seek_94 ?_
  refine lv_iconst (v := 4) C.1 C.2.1 dX7_seek_97 (by decide) ?_
  refine b_icmp_gt_f C (tgt := 149) dX7_seek_98 (by decide) (by decide) ?_
  refine lv_aload_n C.1 C.2.1 dX7_seek_101 rfl (lv_at hl 1 rfl) ?_
  refine r_get C w 0 rfl rfl 3 (by decide) fl_RX7_15 (v := .int (-1)) rfl dX7_seek_102 ?_
  refine lv_iconst (v := (-1)) C.1 C.2.1 dX7_seek_105 (by decide) ?_
  refine b_icmp_ne_f C (tgt := 149) dX7_seek_106 (by decide) (by decide) ?_
  refine lv_aload_n C.1 C.2.1 dX7_seek_109 rfl (lv_at hl 1 rfl) ?_
  refine lv_iconst (v := 0) C.1 C.2.1 dX7_seek_110 (by decide) ?_
  refine lv_iconst (v := 0) C.1 C.2.1 dX7_seek_111 (by decide) ?_
  refine lv_iload_n C.1 C.2.1 dX7_seek_112 rfl (lv_at hl 0 rfl) ?_
  refine lv_iconst (v := (-1)) C.1 C.2.1 dX7_seek_113 (by decide) ?_
  refine r_callV C w fv_RX7_49 (c_X7_single_0 l D cy a0 a1 a2 a3 a4 a5 a9 a10 a11 a12 a13 a14 a15) (hl.1.trans hml.symm) [0, 1, 3] [2] (wr := [(a4, .inl (cy 1, 1830, .inl (fillF (fun _ => 0) 2 20 (PP 20 2 (20 + 1 - 2)))))]) ⟨rfl, rfl, rfl, rfl, by decide⟩ 0 rfl rfl rfl rfl rfl ⟨Nat.le_of_ble_eq_true rfl, Nat.le_of_ble_eq_true rfl, Nat.le_of_ble_eq_true rfl⟩ 0 0 ⟨rfl, rfl, Nat.le_of_ble_eq_true rfl, Nat.le_of_ble_eq_true rfl⟩ dX7_seek_114 (fun u H locs hp w => ?_)
  have w : Wd D A s.heap [(a4, .inl (cy 1, 1830, .inl (fillF (fun _ => 0) 2 20 (PP 20 2 (20 + 1 - 2))))), (a0, .inr (7, [.ref a1, .int 1, .int 0, .int (-1), .int (-1), .ref a2])), (a1, .inr (0, [.ref a3, .ref a4, .ref a5, .int 0, .int 190])), (a5, .inr (9, [.int 0, .int 2, .int 20, .int 120, .int 0, .int 0, .int 0, .int 0, .ref a9, .int 0, .ref a10, .ref a11, .int 0, .ref a12, .ref a13, .ref a14, .ref a15]))] _ _ := w
  refine r_top (g2 := F0 m 117 ls [.int 0]) rfl ?_
  refine b_if_eq_t C (tgt := 128) dX7_seek_117 (by decide) (by decide) ?_
  refine lv_aload_n C.1 C.2.1 dX7_seek_128 rfl (lv_at hl 1 rfl) ?_
  refine lv_aload_n C.1 C.2.1 dX7_seek_129 rfl (lv_at hl 1 rfl) ?_
  refine r_get C w 1 rfl rfl 1 (by decide) fl_RX7_46 (v := .int 1) rfl dX7_seek_130 ?_
  refine r_put C w 1 rfl rfl 2 (by decide) fl_RX7_9 rfl (ty := .int) (tyX7_ok 2 (by decide)) rfl rfl (Nat.le_of_ble_eq_true rfl) [(a4, .inl (cy 1, 1830, .inl (fillF (fun _ => 0) 2 20 (PP 20 2 (20 + 1 - 2))))), (a0, .inr (7, [.ref a1, .int 1, .int 1, .int (-1), .int (-1), .ref a2])), (a1, .inr (0, [.ref a3, .ref a4, .ref a5, .int 0, .int 190])), (a5, .inr (9, [.int 0, .int 2, .int 20, .int 120, .int 0, .int 0, .int 0, .int 0, .ref a9, .int 0, .ref a10, .ref a11, .int 0, .ref a12, .ref a13, .ref a14, .ref a15]))] rfl dX7_seek_133 (fun H locs w => ?_)
  refine lv_aload_n C.1 C.2.1 dX7_seek_136 rfl (lv_at hl 1 rfl) ?_
  refine lv_dup C.1 C.2.1 dX7_seek_137 rfl ?_
  refine r_get C w 1 rfl rfl 1 (by decide) fl_RX7_46 (v := .int 1) rfl dX7_seek_138 ?_
  refine lv_iconst (v := 1) C.1 C.2.1 dX7_seek_141 (by decide) ?_
  refine r_iadd C (v := 2) dX7_seek_142 (by decide) ?_
  refine r_put C w 1 rfl rfl 1 (by decide) fl_RX7_46 rfl (ty := .int) (tyX7_ok 1 (by decide)) rfl rfl (Nat.le_of_ble_eq_true rfl) [(a4, .inl (cy 1, 1830, .inl (fillF (fun _ => 0) 2 20 (PP 20 2 (20 + 1 - 2))))), (a0, .inr (7, [.ref a1, .int 2, .int 1, .int (-1), .int (-1), .ref a2])), (a1, .inr (0, [.ref a3, .ref a4, .ref a5, .int 0, .int 190])), (a5, .inr (9, [.int 0, .int 2, .int 20, .int 120, .int 0, .int 0, .int 0, .int 0, .ref a9, .int 0, .ref a10, .ref a11, .int 0, .ref a12, .ref a13, .ref a14, .ref a15]))] rfl dX7_seek_143 (fun H locs w => ?_)
  refine lv_goto (tgt := 85) C.1 C.2.1 dX7_seek_146 (by decide) ?_
  refine lv_aload_n C.1 C.2.1 dX7_seek_85 rfl (lv_at hl 1 rfl) ?_
  refine r_get C w 1 rfl rfl 1 (by decide) fl_RX7_46 (v := .int 2) rfl dX7_seek_86 ?_
  refine lv_iload_n C.1 C.2.1 dX7_seek_89 rfl (lv_at hl 2 rfl) ?_
  refine b_icmp_gt_t C (tgt := 149) dX7_seek_90 (by decide) (by decide) ?_
  exact r_vret C w hlocks () hr rfl trivial [0, 1, 2, 3] rfl rfl ⟨Nat.le_of_ble_eq_true rfl, Nat.le_of_ble_eq_true rfl⟩ dX7_seek_149
set_option maxRecDepth 100000 in
set_option maxHeartbeats 4000000 in
theorem c_X7_single_1 (l : Launch) (D : va_G) (cy : Nat → ClassId) (a0 a1 a2 a3 a4 a5 a9 a10 a11 a12 a13 a14 a15 : Nat) : Ct l D cy yX7_single cX7_single 11 (some .boolean) 0 0 0 0 [(a0, .inr (7, [.ref a1, .int 2, .int 1, .int (-1), .int (-1), .ref a2])), (a1, .inr (0, [.ref a3, .ref a4, .ref a5, .int 0, .int 190])), (a5, .inr (9, [.int 0, .int 2, .int 20, .int 120, .int 0, .int 0, .int 0, .int 0, .ref a9, .int 0, .ref a10, .ref a11, .int 0, .ref a12, .ref a13, .ref a14, .ref a15]))] [.ref a0, .int 0, .int 0, .int 190, .int (-1)] (fun u : Unit => some (.int 0)) (fun _ => True) (fun u : Unit => [(a0, .inr (7, [.ref a1, .int 2, .int 1, .int (-1), .int (-1), .ref a2])), (a1, .inr (0, [.ref a3, .ref a4, .ref a5, .int 0, .int 190])), (a5, .inr (9, [.int 0, .int 2, .int 20, .int 120, .int 0, .int 0, .int 0, .int 0, .ref a9, .int 0, .ref a10, .ref a11, .int 0, .ref a12, .ref a13, .ref a14, .ref a15]))]) := by
  refine Ct.of (by decide +kernel) (Nat.le_of_ble_eq_true rfl) ?_
  intro p e s m args below meth c A ls C hr hlocks hml hnm w hl
  have hl : lv_has ls 11 [(0, .ref a0), (1, .int 0), (2, .int 0), (3, .int 190), (4, .int (-1))] := hl
  refine lv_aload_n C.1 C.2.1 dX7_single_0 rfl (lv_at hl 0 rfl) ?_
  refine r_get C w 0 rfl rfl 0 (by decide) fl_RX7_25 (v := .ref a1) rfl dX7_single_1 ?_
  refine r_get C w 1 rfl rfl 2 (by decide) fl_RX7_53 (v := .ref a5) rfl dX7_single_4 ?_
  refine lv_astore (lv' := [(5, .ref a5), (0, .ref a0), (1, .int 0), (2, .int 0), (3, .int 190), (4, .int (-1))]) C.1 C.2.1 dX7_single_7 hl (by decide) rfl (fun ls hl => ?_)
  refine lv_iconst (v := 0) C.1 C.2.1 dX7_single_9 (by decide) ?_
  refine lv_istore (lv' := [(6, .int 0), (5, .ref a5), (0, .ref a0), (1, .int 0), (2, .int 0), (3, .int 190), (4, .int (-1))]) C.1 C.2.1 dX7_single_10 hl (by decide) rfl (fun ls hl => ?_)
  refine lv_iload C.1 C.2.1 dX7_single_12 (lv_at hl 0 rfl) ?_
  refine lv_aload C.1 C.2.1 dX7_single_14 (lv_at hl 1 rfl) ?_
  refine r_get C w 2 rfl rfl 5 (by decide) fl_RX7_57 (v := .int 0) rfl dX7_single_16 ?_
  refine b_icmp_ge_t C (tgt := 251) dX7_single_19 (by decide) (by decide) ?_
  refine lv_iconst (v := 0) C.1 C.2.1 dX7_single_251 (by decide) ?_
  exact r_iret C w hlocks () hr rfl rfl trivial [0, 1, 2] rfl rfl ⟨Nat.le_of_ble_eq_true rfl, Nat.le_of_ble_eq_true rfl⟩ dX7_single_252
set_option maxRecDepth 100000 in
set_option maxHeartbeats 4000000 in
theorem c_X7_seek_2 (l : Launch) (D : va_G) (cy : Nat → ClassId) (a0 a1 a2 a3 a4 a5 a9 a10 a11 a12 a13 a14 a15 : Nat) : Ct l D cy yX7_seek cX7_seek 3 none 3 78 0 0 [(a0, .inr (7, [.ref a1, .int 0, .int (-1), .int (-1), .int (-1), .ref a2])), (a1, .inr (0, [.ref a3, .ref a4, .ref a5, .int 0, .int 0])), (a4, .inl (cy 1, 1830, .inl (fun _ => 0))), (a5, .inr (9, [.int 0, .int 2, .int 20, .int 120, .int 0, .int 0, .int 0, .int 0, .ref a9, .int 0, .ref a10, .ref a11, .int 0, .ref a12, .ref a13, .ref a14, .ref a15]))] [.ref a0, .int 2] (fun u : Unit => none) (fun _ => True) (fun u : Unit => [(a4, .inl (cy 1, 1830, .inl (fillF (fun _ => 0) 2 20 (PP 20 2 (20 + 1 - 2))))), (a0, .inr (7, [.ref a1, .int 3, .int 2, .int (-1), .int (-1), .ref a2])), (a1, .inr (0, [.ref a3, .ref a4, .ref a5, .int 0, .int 190])), (a5, .inr (9, [.int 0, .int 2, .int 20, .int 120, .int 0, .int 0, .int 0, .int 0, .ref a9, .int 0, .ref a10, .ref a11, .int 0, .ref a12, .ref a13, .ref a14, .ref a15]))]) := by
  refine Ct.of (by decide +kernel) (Nat.le_of_ble_eq_true rfl) ?_
  intro p e s m args below meth c A ls C hr hlocks hml hnm w hl
  have hl : lv_has ls 3 [(0, .ref a0), (1, .int 2)] := hl
  refine lv_aload_n C.1 C.2.1 dX7_seek_0 rfl (lv_at hl 0 rfl) ?_
  refine r_get C w 0 rfl rfl 3 (by decide) fl_RX7_15 (v := .int (-1)) rfl dX7_seek_1 ?_
  refine lv_iconst (v := (-1)) C.1 C.2.1 dX7_seek_4 (by decide) ?_
  refine b_icmp_ne_f C (tgt := 16) dX7_seek_5 (by decide) (by decide) ?_
  refine lv_aload_n C.1 C.2.1 dX7_seek_8 rfl (lv_at hl 0 rfl) ?_
  refine r_get C w 0 rfl rfl 2 (by decide) fl_RX7_9 (v := .int (-1)) rfl dX7_seek_9 ?_
  refine lv_iload_n C.1 C.2.1 dX7_seek_12 rfl (lv_at hl 1 rfl) ?_
  refine b_icmp_lt_t C (tgt := 17) dX7_seek_13 (by decide) (by decide) ?_
  refine lv_aload_n C.1 C.2.1 dX7_seek_17 rfl (lv_at hl 0 rfl) ?_
  refine r_get C w 0 rfl rfl 0 (by decide) fl_RX7_25 (v := .ref a1) rfl dX7_seek_18 ?_
  refine r_callV C w fv_RX7_29 (c_X0_begin_0 l D cy a1 a3 a4 a5 a9 a10 a11 a12 a13 a14 a15) (hl.1.trans hml.symm) [1, 2, 3] [0] (wr := [(a0, .inr (7, [.ref a1, .int 0, .int (-1), .int (-1), .int (-1), .ref a2]))]) ⟨rfl, rfl, rfl, rfl, by decide⟩ 0 rfl rfl rfl rfl rfl ⟨Nat.le_of_ble_eq_true rfl, Nat.le_of_ble_eq_true rfl, Nat.le_of_ble_eq_true rfl⟩ 0 0 ⟨rfl, rfl, Nat.le_of_ble_eq_true rfl, Nat.le_of_ble_eq_true rfl⟩ dX7_seek_21 (fun u H locs hp w => ?_)
  have w : Wd D A s.heap [(a0, .inr (7, [.ref a1, .int 0, .int (-1), .int (-1), .int (-1), .ref a2])), (a1, .inr (0, [.ref a3, .ref a4, .ref a5, .int 0, .int 190])), (a4, .inl (cy 1, 1830, .inl (fillF (fun _ => 0) 2 20 (PP 20 2 (20 + 1 - 2))))), (a5, .inr (9, [.int 0, .int 2, .int 20, .int 120, .int 0, .int 0, .int 0, .int 0, .ref a9, .int 0, .ref a10, .ref a11, .int 0, .ref a12, .ref a13, .ref a14, .ref a15]))] _ _ := w
  refine r_top (g2 := F0 m 24 ls []) rfl ?_
  refine lv_aload_n C.1 C.2.1 dX7_seek_24 rfl (lv_at hl 0 rfl) ?_
  refine r_get C w 0 rfl rfl 0 (by decide) fl_RX7_25 (v := .ref a1) rfl dX7_seek_25 ?_
  refine r_get C w 1 rfl rfl 4 (by decide) fl_RX7_34 (v := .int 190) rfl dX7_seek_28 ?_
  refine lv_istore_n (lv' := [(2, .int 190), (0, .ref a0), (1, .int 2)]) C.1 C.2.1 dX7_seek_31 rfl hl (by decide) rfl (fun ls hl => ?_)
  refine lv_aload_n C.1 C.2.1 dX7_seek_32 rfl (lv_at hl 1 rfl) ?_
  refine r_get C w 0 rfl rfl 2 (by decide) fl_RX7_9 (v := .int (-1)) rfl dX7_seek_33 ?_
  refine lv_iconst (v := (-1)) C.1 C.2.1 dX7_seek_36 (by decide) ?_
  refine b_icmp_ne_f C (tgt := 63) dX7_seek_37 (by decide) (by decide) ?_
  refine lv_iload_n C.1 C.2.1 dX7_seek_40 rfl (lv_at hl 0 rfl) ?_
  refine lv_iconst (v := 1) C.1 C.2.1 dX7_seek_41 (by decide) ?_
  refine b_icmp_ne_t C (tgt := 63) dX7_seek_42 (by decide) (by decide) ?_
  refine lv_aload_n C.1 C.2.1 dX7_seek_63 rfl (lv_at hl 1 rfl) ?_
  refine lv_aload_n C.1 C.2.1 dX7_seek_64 rfl (lv_at hl 1 rfl) ?_
  refine r_get C w 0 rfl rfl 2 (by decide) fl_RX7_9 (v := .int (-1)) rfl dX7_seek_65 ?_
  refine lv_iconst (v := 0) C.1 C.2.1 dX7_seek_68 (by decide) ?_
  refine r_mmax C (hl.1.trans hml.symm) ml_RX7_40 st_max it_math cd_max (v := 0) (by decide) ⟨Nat.le_of_ble_eq_true rfl, Nat.le_of_ble_eq_true rfl, Nat.le_of_ble_eq_true rfl, Nat.le_of_ble_eq_true rfl⟩ dX7_seek_69 ?_
  refine r_put C w 0 rfl rfl 2 (by decide) fl_RX7_9 rfl (ty := .int) (tyX7_ok 2 (by decide)) rfl rfl (Nat.le_of_ble_eq_true rfl) [(a0, .inr (7, [.ref a1, .int 0, .int 0, .int (-1), .int (-1), .ref a2])), (a1, .inr (0, [.ref a3, .ref a4, .ref a5, .int 0, .int 190])), (a4, .inl (cy 1, 1830, .inl (fillF (fun _ => 0) 2 20 (PP 20 2 (20 + 1 - 2))))), (a5, .inr (9, [.int 0, .int 2, .int 20, .int 120, .int 0, .int 0, .int 0, .int 0, .ref a9, .int 0, .ref a10, .ref a11, .int 0, .ref a12, .ref a13, .ref a14, .ref a15]))] rfl dX7_seek_72 (fun H locs w => ?_)
  refine lv_aload_n C.1 C.2.1 dX7_seek_75 rfl (lv_at hl 1 rfl) ?_
  refine lv_aload_n C.1 C.2.1 dX7_seek_76 rfl (lv_at hl 1 rfl) ?_
  refine r_get C w 0 rfl rfl 2 (by decide) fl_RX7_9 (v := .int 0) rfl dX7_seek_77 ?_
  refine lv_iconst (v := 1) C.1 C.2.1 dX7_seek_80 (by decide) ?_
  refine r_iadd C (v := 1) dX7_seek_81 (by decide) ?_
  refine r_put C w 0 rfl rfl 1 (by decide) fl_RX7_46 rfl (ty := .int) (tyX7_ok 1 (by decide)) rfl rfl (Nat.le_of_ble_eq_true rfl) [(a0, .inr (7, [.ref a1, .int 1, .int 0, .int (-1), .int (-1), .ref a2])), (a1, .inr (0, [.ref a3, .ref a4, .ref a5, .int 0, .int 190])), (a4, .inl (cy 1, 1830, .inl (fillF (fun _ => 0) 2 20 (PP 20 2 (20 + 1 - 2))))), (a5, .inr (9, [.int 0, .int 2, .int 20, .int 120, .int 0, .int 0, .int 0, .int 0, .ref a9, .int 0, .ref a10, .ref a11, .int 0, .ref a12, .ref a13, .ref a14, .ref a15]))] rfl dX7_seek_82 (fun H locs w => ?_)
  refine lv_aload_n C.1 C.2.1 dX7_seek_85 rfl (lv_at hl 1 rfl) ?_
  refine r_get C w 0 rfl rfl 1 (by decide) fl_RX7_46 (v := .int 1) rfl dX7_seek_86 ?_
  refine lv_iload_n C.1 C.2.1 dX7_seek_89 rfl (lv_at hl 2 rfl) ?_
  refine b_icmp_gt_f C (tgt := 149) dX7_seek_90 (by decide) (by decide) ?_
  refine lv_aload_n C.1 C.2.1 dX7_seek_93 rfl (lv_at hl 1 rfl) ?_
  refine r_get C w 0 rfl rfl 1 (by decide) fl_RX7_46 (v := .int 1) rfl dX7_seek_94 ?_
  refine lv_iconst (v := 4) C.1 C.2.1 dX7_seek_97 (by decide) ?_
  refine b_icmp_gt_f C (tgt := 149) dX7_seek_98 (by decide) (by decide) ?_
  refine lv_aload_n C.1 C.2.1 dX7_seek_101 rfl (lv_at hl 1 rfl) ?_
  refine r_get C w 0 rfl rfl 3 (by decide) fl_RX7_15 (v := .int (-1)) rfl dX7_seek_102 ?_
  refine lv_iconst (v := (-1)) C.1 C.2.1 dX7_seek_105 (by decide) ?_
  refine b_icmp_ne_f C (tgt := 149) dX7_seek_106 (by decide) (by decide) ?_
  refine lv_aload_n C.1 C.2.1 dX7_seek_109 rfl (lv_at hl 1 rfl) ?_
  refine lv_iconst (v := 0) C.1 C.2.1 dX7_seek_110 (by decide) ?_
  refine lv_iconst (v := 0) C.1 C.2.1 dX7_seek_111 (by decide) ?_
  refine lv_iload_n C.1 C.2.1 dX7_seek_112 rfl (lv_at hl 0 rfl) ?_
  refine lv_iconst (v := (-1)) C.1 C.2.1 dX7_seek_113 (by decide) ?_
  refine r_callV C w fv_RX7_49 (c_X7_single_0 l D cy a0 a1 a2 a3 a4 a5 a9 a10 a11 a12 a13 a14 a15) (hl.1.trans hml.symm) [0, 1, 3] [2] (wr := [(a4, .inl (cy 1, 1830, .inl (fillF (fun _ => 0) 2 20 (PP 20 2 (20 + 1 - 2)))))]) ⟨rfl, rfl, rfl, rfl, by decide⟩ 0 rfl rfl rfl rfl rfl ⟨Nat.le_of_ble_eq_true rfl, Nat.le_of_ble_eq_true rfl, Nat.le_of_ble_eq_true rfl⟩ 0 0 ⟨rfl, rfl, Nat.le_of_ble_eq_true rfl, Nat.le_of_ble_eq_true rfl⟩ dX7_seek_114 (fun u H locs hp w => ?_)
  have w : Wd D A s.heap [(a4, .inl (cy 1, 1830, .inl (fillF (fun _ => 0) 2 20 (PP 20 2 (20 + 1 - 2))))), (a0, .inr (7, [.ref a1, .int 1, .int 0, .int (-1), .int (-1), .ref a2])), (a1, .inr (0, [.ref a3, .ref a4, .ref a5, .int 0, .int 190])), (a5, .inr (9, [.int 0, .int 2, .int 20, .int 120, .int 0, .int 0, .int 0, .int 0, .ref a9, .int 0, .ref a10, .ref a11, .int 0, .ref a12, .ref a13, .ref a14, .ref a15]))] _ _ := w
  refine r_top (g2 := F0 m 117 ls [.int 0]) rfl ?_
  refine b_if_eq_t C (tgt := 128) dX7_seek_117 (by decide) (by decide) ?_
  refine lv_aload_n C.1 C.2.1 dX7_seek_128 rfl (lv_at hl 1 rfl) ?_
  refine lv_aload_n C.1 C.2.1 dX7_seek_129 rfl (lv_at hl 1 rfl) ?_
  refine r_get C w 1 rfl rfl 1 (by decide) fl_RX7_46 (v := .int 1) rfl dX7_seek_130 ?_
  refine r_put C w 1 rfl rfl 2 (by decide) fl_RX7_9 rfl (ty := .int) (tyX7_ok 2 (by decide)) rfl rfl (Nat.le_of_ble_eq_true rfl) [(a4, .inl (cy 1, 1830, .inl (fillF (fun _ => 0) 2 20 (PP 20 2 (20 + 1 - 2))))), (a0, .inr (7, [.ref a1, .int 1, .int 1, .int (-1), .int (-1), .ref a2])), (a1, .inr (0, [.ref a3, .ref a4, .ref a5, .int 0, .int 190])), (a5, .inr (9, [.int 0, .int 2, .int 20, .int 120, .int 0, .int 0, .int 0, .int 0, .ref a9, .int 0, .ref a10, .ref a11, .int 0, .ref a12, .ref a13, .ref a14, .ref a15]))] rfl dX7_seek_133 (fun H locs w => ?_)
  refine lv_aload_n C.1 C.2.1 dX7_seek_136 rfl (lv_at hl 1 rfl) ?_
  refine lv_dup C.1 C.2.1 dX7_seek_137 rfl ?_
  refine r_get C w 1 rfl rfl 1 (by decide) fl_RX7_46 (v := .int 1) rfl dX7_seek_138 ?_
  refine lv_iconst (v := 1) C.1 C.2.1 dX7_seek_141 (by decide) ?_
  refine r_iadd C (v := 2) dX7_seek_142 (by decide) ?_
  refine r_put C w 1 rfl rfl 1 (by decide) fl_RX7_46 rfl (ty := .int) (tyX7_ok 1 (by decide)) rfl rfl (Nat.le_of_ble_eq_true rfl) [(a4, .inl (cy 1, 1830, .inl (fillF (fun _ => 0) 2 20 (PP 20 2 (20 + 1 - 2))))), (a0, .inr (7, [.ref a1, .int 2, .int 1, .int (-1), .int (-1), .ref a2])), (a1, .inr (0, [.ref a3, .ref a4, .ref a5, .int 0, .int 190])), (a5, .inr (9, [.int 0, .int 2, .int 20, .int 120, .int 0, .int 0, .int 0, .int 0, .ref a9, .int 0, .ref a10, .ref a11, .int 0, .ref a12, .ref a13, .ref a14, .ref a15]))] rfl dX7_seek_143 (fun H locs w => ?_)
  refine lv_goto (tgt := 85) C.1 C.2.1 dX7_seek_146 (by decide) ?_
  refine lv_aload_n C.1 C.2.1 dX7_seek_85 rfl (lv_at hl 1 rfl) ?_
  refine r_get C w 1 rfl rfl 1 (by decide) fl_RX7_46 (v := .int 2) rfl dX7_seek_86 ?_
  refine lv_iload_n C.1 C.2.1 dX7_seek_89 rfl (lv_at hl 2 rfl) ?_
  refine b_icmp_gt_f C (tgt := 149) dX7_seek_90 (by decide) (by decide) ?_
  refine lv_aload_n C.1 C.2.1 dX7_seek_93 rfl (lv_at hl 1 rfl) ?_
  refine r_get C w 1 rfl rfl 1 (by decide) fl_RX7_46 (v := .int 2) rfl dX7_seek_94 ?_
  refine lv_iconst (v := 4) C.1 C.2.1 dX7_seek_97 (by decide) ?_
  refine b_icmp_gt_f C (tgt := 149) dX7_seek_98 (by decide) (by decide) ?_
  refine lv_aload_n C.1 C.2.1 dX7_seek_101 rfl (lv_at hl 1 rfl) ?_
  refine r_get C w 1 rfl rfl 3 (by decide) fl_RX7_15 (v := .int (-1)) rfl dX7_seek_102 ?_
  refine lv_iconst (v := (-1)) C.1 C.2.1 dX7_seek_105 (by decide) ?_
  refine b_icmp_ne_f C (tgt := 149) dX7_seek_106 (by decide) (by decide) ?_
  refine lv_aload_n C.1 C.2.1 dX7_seek_109 rfl (lv_at hl 1 rfl) ?_
  refine lv_iconst (v := 0) C.1 C.2.1 dX7_seek_110 (by decide) ?_
  refine lv_iconst (v := 0) C.1 C.2.1 dX7_seek_111 (by decide) ?_
  refine lv_iload_n C.1 C.2.1 dX7_seek_112 rfl (lv_at hl 0 rfl) ?_
  refine lv_iconst (v := (-1)) C.1 C.2.1 dX7_seek_113 (by decide) ?_
  refine r_callV C w fv_RX7_49 (c_X7_single_1 l D cy a0 a1 a2 a3 a4 a5 a9 a10 a11 a12 a13 a14 a15) (hl.1.trans hml.symm) [1, 2, 3] [0] (wr := [(a4, .inl (cy 1, 1830, .inl (fillF (fun _ => 0) 2 20 (PP 20 2 (20 + 1 - 2)))))]) ⟨rfl, rfl, rfl, rfl, by decide⟩ 0 rfl rfl rfl rfl rfl ⟨Nat.le_of_ble_eq_true rfl, Nat.le_of_ble_eq_true rfl, Nat.le_of_ble_eq_true rfl⟩ 0 0 ⟨rfl, rfl, Nat.le_of_ble_eq_true rfl, Nat.le_of_ble_eq_true rfl⟩ dX7_seek_114 (fun u H locs hp w => ?_)
  have w : Wd D A s.heap [(a4, .inl (cy 1, 1830, .inl (fillF (fun _ => 0) 2 20 (PP 20 2 (20 + 1 - 2))))), (a0, .inr (7, [.ref a1, .int 2, .int 1, .int (-1), .int (-1), .ref a2])), (a1, .inr (0, [.ref a3, .ref a4, .ref a5, .int 0, .int 190])), (a5, .inr (9, [.int 0, .int 2, .int 20, .int 120, .int 0, .int 0, .int 0, .int 0, .ref a9, .int 0, .ref a10, .ref a11, .int 0, .ref a12, .ref a13, .ref a14, .ref a15]))] _ _ := w
  refine r_top (g2 := F0 m 117 ls [.int 0]) rfl ?_
  refine b_if_eq_t C (tgt := 128) dX7_seek_117 (by decide) (by decide) ?_
  refine lv_aload_n C.1 C.2.1 dX7_seek_128 rfl (lv_at hl 1 rfl) ?_
  refine lv_aload_n C.1 C.2.1 dX7_seek_129 rfl (lv_at hl 1 rfl) ?_
  refine r_get C w 1 rfl rfl 1 (by decide) fl_RX7_46 (v := .int 2) rfl dX7_seek_130 ?_
  refine r_put C w 1 rfl rfl 2 (by decide) fl_RX7_9 rfl (ty := .int) (tyX7_ok 2 (by decide)) rfl rfl (Nat.le_of_ble_eq_true rfl) [(a4, .inl (cy 1, 1830, .inl (fillF (fun _ => 0) 2 20 (PP 20 2 (20 + 1 - 2))))), (a0, .inr (7, [.ref a1, .int 2, .int 2, .int (-1), .int (-1), .ref a2])), (a1, .inr (0, [.ref a3, .ref a4, .ref a5, .int 0, .int 190])), (a5, .inr (9, [.int 0, .int 2, .int 20, .int 120, .int 0, .int 0, .int 0, .int 0, .ref a9, .int 0, .ref a10, .ref a11, .int 0, .ref a12, .ref a13, .ref a14, .ref a15]))] rfl dX7_seek_133 (fun H locs w => ?_)
  refine lv_aload_n C.1 C.2.1 dX7_seek_136 rfl (lv_at hl 1 rfl) ?_
  refine lv_dup C.1 C.2.1 dX7_seek_137 rfl ?_
  refine r_get C w 1 rfl rfl 1 (by decide) fl_RX7_46 (v := .int 2) rfl dX7_seek_138 ?_
  refine lv_iconst (v := 1) C.1 C.2.1 dX7_seek_141 (by decide) ?_
  refine r_iadd C (v := 3) dX7_seek_142 (by decide) ?_
  refine r_put C w 1 rfl rfl 1 (by decide) fl_RX7_46 rfl (ty := .int) (tyX7_ok 1 (by decide)) rfl rfl (Nat.le_of_ble_eq_true rfl) [(a4, .inl (cy 1, 1830, .inl (fillF (fun _ => 0) 2 20 (PP 20 2 (20 + 1 - 2))))), (a0, .inr (7, [.ref a1, .int 3, .int 2, .int (-1), .int (-1), .ref a2])), (a1, .inr (0, [.ref a3, .ref a4, .ref a5, .int 0, .int 190])), (a5, .inr (9, [.int 0, .int 2, .int 20, .int 120, .int 0, .int 0, .int 0, .int 0, .ref a9, .int 0, .ref a10, .ref a11, .int 0, .ref a12, .ref a13, .ref a14, .ref a15]))] rfl dX7_seek_143 (fun H locs w => ?_)
  refine lv_goto (tgt := 85) C.1 C.2.1 dX7_seek_146 (by decide) ?_
  refine lv_aload_n C.1 C.2.1 dX7_seek_85 rfl (lv_at hl 1 rfl) ?_
  refine r_get C w 1 rfl rfl 1 (by decide) fl_RX7_46 (v := .int 3) rfl dX7_seek_86 ?_
  refine lv_iload_n C.1 C.2.1 dX7_seek_89 rfl (lv_at hl 2 rfl) ?_
  refine b_icmp_gt_t C (tgt := 149) dX7_seek_90 (by decide) (by decide) ?_
  exact r_vret C w hlocks () hr rfl trivial [0, 1, 2, 3] rfl rfl ⟨Nat.le_of_ble_eq_true rfl, Nat.le_of_ble_eq_true rfl⟩ dX7_seek_149
set_option maxRecDepth 100000 in
set_option maxHeartbeats 4000000 in
theorem c_X7_single_2 (l : Launch) (D : va_G) (cy : Nat → ClassId) (a0 a1 a2 a3 a4 a5 a9 a10 a11 a12 a13 a14 a15 : Nat) : Ct l D cy yX7_single cX7_single 11 (some .boolean) 0 0 0 0 [(a0, .inr (7, [.ref a1, .int 3, .int 2, .int (-1), .int (-1), .ref a2])), (a1, .inr (0, [.ref a3, .ref a4, .ref a5, .int 0, .int 190])), (a5, .inr (9, [.int 0, .int 2, .int 20, .int 120, .int 0, .int 0, .int 0, .int 0, .ref a9, .int 0, .ref a10, .ref a11, .int 0, .ref a12, .ref a13, .ref a14, .ref a15]))] [.ref a0, .int 0, .int 0, .int 190, .int (-1)] (fun u : Unit => some (.int 0)) (fun _ => True) (fun u : Unit => [(a0, .inr (7, [.ref a1, .int 3, .int 2, .int (-1), .int (-1), .ref a2])), (a1, .inr (0, [.ref a3, .ref a4, .ref a5, .int 0, .int 190])), (a5, .inr (9, [.int 0, .int 2, .int 20, .int 120, .int 0, .int 0, .int 0, .int 0, .ref a9, .int 0, .ref a10, .ref a11, .int 0, .ref a12, .ref a13, .ref a14, .ref a15]))]) := by
  refine Ct.of (by decide +kernel) (Nat.le_of_ble_eq_true rfl) ?_
  intro p e s m args below meth c A ls C hr hlocks hml hnm w hl
  have hl : lv_has ls 11 [(0, .ref a0), (1, .int 0), (2, .int 0), (3, .int 190), (4, .int (-1))] := hl
  refine lv_aload_n C.1 C.2.1 dX7_single_0 rfl (lv_at hl 0 rfl) ?_
  refine r_get C w 0 rfl rfl 0 (by decide) fl_RX7_25 (v := .ref a1) rfl dX7_single_1 ?_
  refine r_get C w 1 rfl rfl 2 (by decide) fl_RX7_53 (v := .ref a5) rfl dX7_single_4 ?_
  refine lv_astore (lv' := [(5, .ref a5), (0, .ref a0), (1, .int 0), (2, .int 0), (3, .int 190), (4, .int (-1))]) C.1 C.2.1 dX7_single_7 hl (by decide) rfl (fun ls hl => ?_)
  refine lv_iconst (v := 0) C.1 C.2.1 dX7_single_9 (by decide) ?_
  refine lv_istore (lv' := [(6, .int 0), (5, .ref a5), (0, .ref a0), (1, .int 0), (2, .int 0), (3, .int 190), (4, .int (-1))]) C.1 C.2.1 dX7_single_10 hl (by decide) rfl (fun ls hl => ?_)
  refine lv_iload C.1 C.2.1 dX7_single_12 (lv_at hl 0 rfl) ?_
  refine lv_aload C.1 C.2.1 dX7_single_14 (lv_at hl 1 rfl) ?_
  refine r_get C w 2 rfl rfl 5 (by decide) fl_RX7_57 (v := .int 0) rfl dX7_single_16 ?_
  refine b_icmp_ge_t C (tgt := 251) dX7_single_19 (by decide) (by decide) ?_
  refine lv_iconst (v := 0) C.1 C.2.1 dX7_single_251 (by decide) ?_
  exact r_iret C w hlocks () hr rfl rfl trivial [0, 1, 2] rfl rfl ⟨Nat.le_of_ble_eq_true rfl, Nat.le_of_ble_eq_true rfl⟩ dX7_single_252
set_option maxRecDepth 100000 in
set_option maxHeartbeats 4000000 in
theorem c_X7_seek_3 (l : Launch) (D : va_G) (cy : Nat → ClassId) (a0 a1 a2 a3 a4 a5 a9 a10 a11 a12 a13 a14 a15 : Nat) : Ct l D cy yX7_seek cX7_seek 3 none 3 78 0 0 [(a0, .inr (7, [.ref a1, .int 0, .int (-1), .int (-1), .int (-1), .ref a2])), (a1, .inr (0, [.ref a3, .ref a4, .ref a5, .int 0, .int 0])), (a4, .inl (cy 1, 1830, .inl (fun _ => 0))), (a5, .inr (9, [.int 0, .int 2, .int 20, .int 120, .int 0, .int 0, .int 0, .int 0, .ref a9, .int 0, .ref a10, .ref a11, .int 0, .ref a12, .ref a13, .ref a14, .ref a15]))] [.ref a0, .int 3] (fun u : Unit => none) (fun _ => True) (fun u : Unit => [(a4, .inl (cy 1, 1830, .inl (fillF (fun _ => 0) 2 20 (PP 20 2 (20 + 1 - 2))))), (a0, .inr (7, [.ref a1, .int 4, .int 3, .int (-1), .int (-1), .ref a2])), (a1, .inr (0, [.ref a3, .ref a4, .ref a5, .int 0, .int 190])), (a5, .inr (9, [.int 0, .int 2, .int 20, .int 120, .int 0, .int 0, .int 0, .int 0, .ref a9, .int 0, .ref a10, .ref a11, .int 0, .ref a12, .ref a13, .ref a14, .ref a15]))]) := by
  refine Ct.of (by decide +kernel) (Nat.le_of_ble_eq_true rfl) ?_
  intro p e s m args below meth c A ls C hr hlocks hml hnm w hl
  have hl : lv_has ls 3 [(0, .ref a0), (1, .int 3)] := hl
  refine lv_aload_n C.1 C.2.1 dX7_seek_0 rfl (lv_at hl 0 rfl) ?_
  refine r_get C w 0 rfl rfl 3 (by decide) fl_RX7_15 (v := .int (-1)) rfl dX7_seek_1 ?_
  refine lv_iconst (v := (-1)) C.1 C.2.1 dX7_seek_4 (by decide) ?_
  refine b_icmp_ne_f C (tgt := 16) dX7_seek_5 (by decide) (by decide) ?_
  refine lv_aload_n C.1 C.2.1 dX7_seek_8 rfl (lv_at hl 0 rfl) ?_
  refine r_get C w 0 rfl rfl 2 (by decide) fl_RX7_9 (v := .int (-1)) rfl dX7_seek_9 ?_
  refine lv_iload_n C.1 C.2.1 dX7_seek_12 rfl (lv_at hl 1 rfl) ?_
  refine b_icmp_lt_t C (tgt := 17) dX7_seek_13 (by decide) (by decide) ?_
  refine lv_aload_n C.1 C.2.1 dX7_seek_17 rfl (lv_at hl 0 rfl) ?_
  refine r_get C w 0 rfl rfl 0 (by decide) fl_RX7_25 (v := .ref a1) rfl dX7_seek_18 ?_
  refine r_callV C w fv_RX7_29 (c_X0_begin_0 l D cy a1 a3 a4 a5 a9 a10 a11 a12 a13 a14 a15) (hl.1.trans hml.symm) [1, 2, 3] [0] (wr := [(a0, .inr (7, [.ref a1, .int 0, .int (-1), .int (-1), .int (-1), .ref a2]))]) ⟨rfl, rfl, rfl, rfl, by decide⟩ 0 rfl rfl rfl rfl rfl ⟨Nat.le_of_ble_eq_true rfl, Nat.le_of_ble_eq_true rfl, Nat.le_of_ble_eq_true rfl⟩ 0 0 ⟨rfl, rfl, Nat.le_of_ble_eq_true rfl, Nat.le_of_ble_eq_true rfl⟩ dX7_seek_21 (fun u H locs hp w => ?_)
  have w : Wd D A s.heap [(a0, .inr (7, [.ref a1, .int 0, .int (-1), .int (-1), .int (-1), .ref a2])), (a1, .inr (0, [.ref a3, .ref a4, .ref a5, .int 0, .int 190])), (a4, .inl (cy 1, 1830, .inl (fillF (fun _ => 0) 2 20 (PP 20 2 (20 + 1 - 2))))), (a5, .inr (9, [.int 0, .int 2, .int 20, .int 120, .int 0, .int 0, .int 0, .int 0, .ref a9, .int 0, .ref a10, .ref a11, .int 0, .ref a12, .ref a13, .ref a14, .ref a15]))] _ _ := w
  refine r_top (g2 := F0 m 24 ls []) rfl ?_
  refine lv_aload_n C.1 C.2.1 dX7_seek_24 rfl (lv_at hl 0 rfl) ?_
  refine r_get C w 0 rfl rfl 0 (by decide) fl_RX7_25 (v := .ref a1) rfl dX7_seek_25 ?_
  refine r_get C w 1 rfl rfl 4 (by decide) fl_RX7_34 (v := .int 190) rfl dX7_seek_28 ?_
  refine lv_istore_n (lv' := [(2, .int 190), (0, .ref a0), (1, .int 3)]) C.1 C.2.1 dX7_seek_31 rfl hl (by decide) rfl (fun ls hl => ?_)
  refine lv_aload_n C.1 C.2.1 dX7_seek_32 rfl (lv_at hl 1 rfl) ?_
  refine r_get C w 0 rfl rfl 2 (by decide) fl_RX7_9 (v := .int (-1)) rfl dX7_seek_33 ?_
  refine lv_iconst (v := (-1)) C.1 C.2.1 dX7_seek_36 (by decide) ?_
  refine b_icmp_ne_f C (tgt := 63) dX7_seek_37 (by decide) (by decide) ?_
  refine lv_iload_n C.1 C.2.1 dX7_seek_40 rfl (lv_at hl 0 rfl) ?_
  refine lv_iconst (v := 1) C.1 C.2.1 dX7_seek_41 (by decide) ?_
  refine b_icmp_ne_t C (tgt := 63) dX7_seek_42 (by decide) (by decide) ?_
  refine lv_aload_n C.1 C.2.1 dX7_seek_63 rfl (lv_at hl 1 rfl) ?_
  refine lv_aload_n C.1 C.2.1 dX7_seek_64 rfl (lv_at hl 1 rfl) ?_
  refine r_get C w 0 rfl rfl 2 (by decide) fl_RX7_9 (v := .int (-1)) rfl dX7_seek_65 ?_
  refine lv_iconst (v := 0) C.1 C.2.1 dX7_seek_68 (by decide) ?_
  refine r_mmax C (hl.1.trans hml.symm) ml_RX7_40 st_max it_math cd_max (v := 0) (by decide) ⟨Nat.le_of_ble_eq_true rfl, Nat.le_of_ble_eq_true rfl, Nat.le_of_ble_eq_true rfl, Nat.le_of_ble_eq_true rfl⟩ dX7_seek_69 ?_
  refine r_put C w 0 rfl rfl 2 (by decide) fl_RX7_9 rfl (ty := .int) (tyX7_ok 2 (by decide)) rfl rfl (Nat.le_of_ble_eq_true rfl) [(a0, .inr (7, [.ref a1, .int 0, .int 0, .int (-1), .int (-1), .ref a2])), (a1, .inr (0, [.ref a3, .ref a4, .ref a5, .int 0, .int 190])), (a4, .inl (cy 1, 1830, .inl (fillF (fun _ => 0) 2 20 (PP 20 2 (20 + 1 - 2))))), (a5, .inr (9, [.int 0, .int 2, .int 20, .int 120, .int 0, .int 0, .int 0, .int 0, .ref a9, .int 0, .ref a10, .ref a11, .int 0, .ref a12, .ref a13, .ref a14, .ref a15]))] rfl dX7_seek_72 (fun H locs w => ?_)
  refine lv_aload_n C.1 C.2.1 dX7_seek_75 rfl (lv_at hl 1 rfl) ?_
  refine lv_aload_n C.1 C.2.1 dX7_seek_76 rfl (lv_at hl 1 rfl) ?_
  refine r_get C w 0 rfl rfl 2 (by decide) fl_RX7_9 (v := .int 0) rfl dX7_seek_77 ?_
  refine lv_iconst (v := 1) C.1 C.2.1 dX7_seek_80 (by decide) ?_
  refine r_iadd C (v := 1) dX7_seek_81 (by decide) ?_
  refine r_put C w 0 rfl rfl 1 (by decide) fl_RX7_46 rfl (ty := .int) (tyX7_ok 1 (by decide)) rfl rfl (Nat.le_of_ble_eq_true rfl) [(a0, .inr (7, [.ref a1, .int 1, .int 0, .int (-1), .int (-1), .ref a2])), (a1, .inr (0, [.ref a3, .ref a4, .ref a5, .int 0, .int 190])), (a4, .inl (cy 1, 1830, .inl (fillF (fun _ => 0) 2 20 (PP 20 2 (20 + 1 - 2))))), (a5, .inr (9, [.int 0, .int 2, .int 20, .int 120, .int 0, .int 0, .int 0, .int 0, .ref a9, .int 0, .ref a10, .ref a11, .int 0, .ref a12, .ref a13, .ref a14, .ref a15]))] rfl dX7_seek_82 (fun H locs w => ?_)
  refine lv_aload_n C.1 C.2.1 dX7_seek_85 rfl (lv_at hl 1 rfl) ?_
  refine r_get C w 0 rfl rfl 1 (by decide) fl_RX7_46 (v := .int 1) rfl dX7_seek_86 ?_
  refine lv_iload_n C.1 C.2.1 dX7_seek_89 rfl (lv_at hl 2 rfl) ?_
  refine b_icmp_gt_f C (tgt := 149) dX7_seek_90 (by decide) (by decide) ?_
  refine lv_aload_n C.1 C.2.1 dX7_seek_93 rfl (lv_at hl 1 rfl) ?_
  refine r_get C w 0 rfl rfl 1 (by decide) fl_RX7_46 (v := .int 1) rfl dX7_seek_94 ?_
  refine lv_iconst (v := 4) C.1 C.2.1 dX7_seek_97 (by decide) ?_
  refine b_icmp_gt_f C (tgt := 149) dX7_seek_98 (by decide) (by decide) ?_
  refine lv_aload_n C.1 C.2.1 dX7_seek_101 rfl (lv_at hl 1 rfl) ?_
  refine r_get C w 0 rfl rfl 3 (by decide) fl_RX7_15 (v := .int (-1)) rfl dX7_seek_102 ?_
  refine lv_iconst (v := (-1)) C.1 C.2.1 dX7_seek_105 (by decide) ?_
  refine b_icmp_ne_f C (tgt := 149) dX7_seek_106 (by decide) (by decide) ?_
  refine lv_aload_n C.1 C.2.1 dX7_seek_109 rfl (lv_at hl 1 rfl) ?_
  refine lv_iconst (v := 0) C.1 C.2.1 dX7_seek_110 (by decide) ?_
  refine lv_iconst (v := 0) C.1 C.2.1 dX7_seek_111 (by decide) ?_
  refine lv_iload_n C.1 C.2.1 dX7_seek_112 rfl (lv_at hl 0 rfl) ?_
  refine lv_iconst (v := (-1)) C.1 C.2.1 dX7_seek_113 (by decide) ?_
  refine r_callV C w fv_RX7_49 (c_X7_single_0 l D cy a0 a1 a2 a3 a4 a5 a9 a10 a11 a12 a13 a14 a15) (hl.1.trans hml.symm) [0, 1, 3] [2] (wr := [(a4, .inl (cy 1, 1830, .inl (fillF (fun _ => 0) 2 20 (PP 20 2 (20 + 1 - 2)))))]) ⟨rfl, rfl, rfl, rfl, by decide⟩ 0 rfl rfl rfl rfl rfl ⟨Nat.le_of_ble_eq_true rfl, Nat.le_of_ble_eq_true rfl, Nat.le_of_ble_eq_true rfl⟩ 0 0 ⟨rfl, rfl, Nat.le_of_ble_eq_true rfl, Nat.le_of_ble_eq_true rfl⟩ dX7_seek_114 (fun u H locs hp w => ?_)
  have w : Wd D A s.heap [(a4, .inl (cy 1, 1830, .inl (fillF (fun _ => 0) 2 20 (PP 20 2 (20 + 1 - 2))))), (a0, .inr (7, [.ref a1, .int 1, .int 0, .int (-1), .int (-1), .ref a2])), (a1, .inr (0, [.ref a3, .ref a4, .ref a5, .int 0, .int 190])), (a5, .inr (9, [.int 0, .int 2, .int 20, .int 120, .int 0, .int 0, .int 0, .int 0, .ref a9, .int 0, .ref a10, .ref a11, .int 0, .ref a12, .ref a13, .ref a14, .ref a15]))] _ _ := w
  refine r_top (g2 := F0 m 117 ls [.int 0]) rfl ?_
  refine b_if_eq_t C (tgt := 128) dX7_seek_117 (by decide) (by decide) ?_
  refine lv_aload_n C.1 C.2.1 dX7_seek_128 rfl (lv_at hl 1 rfl) ?_
  refine lv_aload_n C.1 C.2.1 dX7_seek_129 rfl (lv_at hl 1 rfl) ?_
  refine r_get C w 1 rfl rfl 1 (by decide) fl_RX7_46 (v := .int 1) rfl dX7_seek_130 ?_
  refine r_put C w 1 rfl rfl 2 (by decide) fl_RX7_9 rfl (ty := .int) (tyX7_ok 2 (by decide)) rfl rfl (Nat.le_of_ble_eq_true rfl) [(a4, .inl (cy 1, 1830, .inl (fillF (fun _ => 0) 2 20 (PP 20 2 (20 + 1 - 2))))), (a0, .inr (7, [.ref a1, .int 1, .int 1, .int (-1), .int (-1), .ref a2])), (a1, .inr (0, [.ref a3, .ref a4, .ref a5, .int 0, .int 190])), (a5, .inr (9, [.int 0, .int 2, .int 20, .int 120, .int 0, .int 0, .int 0, .int 0, .ref a9, .int 0, .ref a10, .ref a11, .int 0, .ref a12, .ref a13, .ref a14, .ref a15]))] rfl dX7_seek_133 (fun H locs w => ?_)
  refine lv_aload_n C.1 C.2.1 dX7_seek_136 rfl (lv_at hl 1 rfl) ?_
  refine lv_dup C.1 C.2.1 dX7_seek_137 rfl ?_
  refine r_get C w 1 rfl rfl 1 (by decide) fl_RX7_46 (v := .int 1) rfl dX7_seek_138 ?_
  refine lv_iconst (v := 1) C.1 C.2.1 dX7_seek_141 (by decide) ?_
  refine r_iadd C (v := 2) dX7_seek_142 (by decide) ?_
  refine r_put C w 1 rfl rfl 1 (by decide) fl_RX7_46 rfl (ty := .int) (tyX7_ok 1 (by decide)) rfl rfl (Nat.le_of_ble_eq_true rfl) [(a4, .inl (cy 1, 1830, .inl (fillF (fun _ => 0) 2 20 (PP 20 2 (20 + 1 - 2))))), (a0, .inr (7, [.ref a1, .int 2, .int 1, .int (-1), .int (-1), .ref a2])), (a1, .inr (0, [.ref a3, .ref a4, .ref a5, .int 0, .int 190])), (a5, .inr (9, [.int 0, .int 2, .int 20, .int 120, .int 0, .int 0, .int 0, .int 0, .ref a9, .int 0, .ref a10, .ref a11, .int 0, .ref a12, .ref a13, .ref a14, .ref a15]))] rfl dX7_seek_143 (fun H locs w => ?_)
  refine lv_goto (tgt := 85) C.1 C.2.1 dX7_seek_146 (by decide) ?_
  refine lv_aload_n C.1 C.2.1 dX7_seek_85 rfl (lv_at hl 1 rfl) ?_
  refine r_get C w 1 rfl rfl 1 (by decide) fl_RX7_46 (v := .int 2) rfl dX7_seek_86 ?_
  refine lv_iload_n C.1 C.2.1 dX7_seek_89 rfl (lv_at hl 2 rfl) ?_
  refine b_icmp_gt_f C (tgt := 149) dX7_seek_90 (by decide) (by decide) ?_
  refine lv_aload_n C.1 C.2.1 dX7_seek_93 rfl (lv_at hl 1 rfl) ?_
  refine r_get C w 1 rfl rfl 1 (by decide) fl_RX7_46 (v := .int 2) rfl dX7_seek_94 ?_
  refine lv_iconst (v := 4) C.1 C.2.1 dX7_seek_97 (by decide) ?_
  refine b_icmp_gt_f C (tgt := 149) dX7_seek_98 (by decide) (by decide) ?_
  refine lv_aload_n C.1 C.2.1 dX7_seek_101 rfl (lv_at hl 1 rfl) ?_
  refine r_get C w 1 rfl rfl 3 (by decide) fl_RX7_15 (v := .int (-1)) rfl dX7_seek_102 ?_
  refine lv_iconst (v := (-1)) C.1 C.2.1 dX7_seek_105 (by decide) ?_
  refine b_icmp_ne_f C (tgt := 149) dX7_seek_106 (by decide) (by decide) ?_
  refine lv_aload_n C.1 C.2.1 dX7_seek_109 rfl (lv_at hl 1 rfl) ?_
  refine lv_iconst (v := 0) C.1 C.2.1 dX7_seek_110 (by decide) ?_
  refine lv_iconst (v := 0) C.1 C.2.1 dX7_seek_111 (by decide) ?_
  refine lv_iload_n C.1 C.2.1 dX7_seek_112 rfl (lv_at hl 0 rfl) ?_
  refine lv_iconst (v := (-1)) C.1 C.2.1 dX7_seek_113 (by decide) ?_
  refine r_callV C w fv_RX7_49 (c_X7_single_1 l D cy a0 a1 a2 a3 a4 a5 a9 a10 a11 a12 a13 a14 a15) (hl.1.trans hml.symm) [1, 2, 3] [0] (wr := [(a4, .inl (cy 1, 1830, .inl (fillF (fun _ => 0) 2 20 (PP 20 2 (20 + 1 - 2)))))]) ⟨rfl, rfl, rfl, rfl, by decide⟩ 0 rfl rfl rfl rfl rfl ⟨Nat.le_of_ble_eq_true rfl, Nat.le_of_ble_eq_true rfl, Nat.le_of_ble_eq_true rfl⟩ 0 0 ⟨rfl, rfl, Nat.le_of_ble_eq_true rfl, Nat.le_of_ble_eq_true rfl⟩ dX7_seek_114 (fun u H locs hp w => ?_)
  have w : Wd D A s.heap [(a4, .inl (cy 1, 1830, .inl (fillF (fun _ => 0) 2 20 (PP 20 2 (20 + 1 - 2))))), (a0, .inr (7, [.ref a1, .int 2, .int 1, .int (-1), .int (-1), .ref a2])), (a1, .inr (0, [.ref a3, .ref a4, .ref a5, .int 0, .int 190])), (a5, .inr (9, [.int 0, .int 2, .int 20, .int 120, .int 0, .int 0, .int 0, .int 0, .ref a9, .int 0, .ref a10, .ref a11, .int 0, .ref a12, .ref a13, .ref a14, .ref a15]))] _ _ := w
  refine r_top (g2 := F0 m 117 ls [.int 0]) rfl ?_
  refine b_if_eq_t C (tgt := 128) dX7_seek_117 (by decide) (by decide) ?_
  refine lv_aload_n C.1 C.2.1 dX7_seek_128 rfl (lv_at hl 1 rfl) ?_
  refine lv_aload_n C.1 C.2.1 dX7_seek_129 rfl (lv_at hl 1 rfl) ?_
  refine r_get C w 1 rfl rfl 1 (by decide) fl_RX7_46 (v := .int 2) rfl dX7_seek_130 ?_
  refine r_put C w 1 rfl rfl 2 (by decide) fl_RX7_9 rfl (ty := .int) (tyX7_ok 2 (by decide)) rfl rfl (Nat.le_of_ble_eq_true rfl) [(a4, .inl (cy 1, 1830, .inl (fillF (fun _ => 0) 2 20 (PP 20 2 (20 + 1 - 2))))), (a0, .inr (7, [.ref a1, .int 2, .int 2, .int (-1), .int (-1), .ref a2])), (a1, .inr (0, [.ref a3, .ref a4, .ref a5, .int 0, .int 190])), (a5, .inr (9, [.int 0, .int 2, .int 20, .int 120, .int 0, .int 0, .int 0, .int 0, .ref a9, .int 0, .ref a10, .ref a11, .int 0, .ref a12, .ref a13, .ref a14, .ref a15]))] rfl dX7_seek_133 (fun H locs w => ?_)
  refine lv_aload_n C.1 C.2.1 dX7_seek_136 rfl (lv_at hl 1 rfl) ?_
  refine lv_dup C.1 C.2.1 dX7_seek_137 rfl ?_
  refine r_get C w 1 rfl rfl 1 (by decide) fl_RX7_46 (v := .int 2) rfl dX7_seek_138 ?_
  refine lv_iconst (v := 1) C.1 C.2.1 dX7_seek_141 (by decide) ?_
  refine r_iadd C (v := 3) dX7_seek_142 (by decide) ?_
  refine r_put C w 1 rfl rfl 1 (by decide) fl_RX7_46 rfl (ty := .int) (tyX7_ok 1 (by decide)) rfl rfl (Nat.le_of_ble_eq_true rfl) [(a4, .inl (cy 1, 1830, .inl (fillF (fun _ => 0) 2 20 (PP 20 2 (20 + 1 - 2))))), (a0, .inr (7, [.ref a1, .int 3, .int 2, .int (-1), .int (-1), .ref a2])), (a1, .inr (0, [.ref a3, .ref a4, .ref a5, .int 0, .int 190])), (a5, .inr (9, [.int 0, .int 2, .int 20, .int 120, .int 0, .int 0, .int 0, .int 0, .ref a9, .int 0, .ref a10, .ref a11, .int 0, .ref a12, .ref a13, .ref a14, .ref a15]))] rfl dX7_seek_143 (fun H locs w => ?_)
  refine lv_goto (tgt := 85) C.1 C.2.1 dX7_seek_146 (by decide) ?_
  refine lv_aload_n C.1 C.2.1 dX7_seek_85 rfl (lv_at hl 1 rfl) ?_
  refine r_get C w 1 rfl rfl 1 (by decide) fl_RX7_46 (v := .int 3) rfl dX7_seek_86 ?_
  refine lv_iload_n C.1 C.2.1 dX7_seek_89 rfl (lv_at hl 2 rfl) ?_
  refine b_icmp_gt_f C (tgt := 149) dX7_seek_90 (by decide) (by decide) ?_
  refine lv_aload_n C.1 C.2.1 dX7_seek_93 rfl (lv_at hl 1 rfl) ?_
  refine r_get C w 1 rfl rfl 1 (by decide) fl_RX7_46 (v := .int 3) rfl dX7_seek_94 ?_
  refine lv_iconst (v := 4) C.1 C.2.1 dX7_seek_97 (by decide) ?_
  refine b_icmp_gt_f C (tgt := 149) dX7_seek_98 (by decide) (by decide) ?_
  refine lv_aload_n C.1 C.2.1 dX7_seek_101 rfl (lv_at hl 1 rfl) ?_
  refine r_get C w 1 rfl rfl 3 (by decide) fl_RX7_15 (v := .int (-1)) rfl dX7_seek_102 ?_
  refine lv_iconst (v := (-1)) C.1 C.2.1 dX7_seek_105 (by decide) ?_
  refine b_icmp_ne_f C (tgt := 149) dX7_seek_106 (by decide) (by decide) ?_
  refine lv_aload_n C.1 C.2.1 dX7_seek_109 rfl (lv_at hl 1 rfl) ?_
  refine lv_iconst (v := 0) C.1 C.2.1 dX7_seek_110 (by decide) ?_
  refine lv_iconst (v := 0) C.1 C.2.1 dX7_seek_111 (by decide) ?_
  refine lv_iload_n C.1 C.2.1 dX7_seek_112 rfl (lv_at hl 0 rfl) ?_
  refine lv_iconst (v := (-1)) C.1 C.2.1 dX7_seek_113 (by decide) ?_
  refine r_callV C w fv_RX7_49 (c_X7_single_2 l D cy a0 a1 a2 a3 a4 a5 a9 a10 a11 a12 a13 a14 a15) (hl.1.trans hml.symm) [1, 2, 3] [0] (wr := [(a4, .inl (cy 1, 1830, .inl (fillF (fun _ => 0) 2 20 (PP 20 2 (20 + 1 - 2)))))]) ⟨rfl, rfl, rfl, rfl, by decide⟩ 0 rfl rfl rfl rfl rfl ⟨Nat.le_of_ble_eq_true rfl, Nat.le_of_ble_eq_true rfl, Nat.le_of_ble_eq_true rfl⟩ 0 0 ⟨rfl, rfl, Nat.le_of_ble_eq_true rfl, Nat.le_of_ble_eq_true rfl⟩ dX7_seek_114 (fun u H locs hp w => ?_)
  have w : Wd D A s.heap [(a4, .inl (cy 1, 1830, .inl (fillF (fun _ => 0) 2 20 (PP 20 2 (20 + 1 - 2))))), (a0, .inr (7, [.ref a1, .int 3, .int 2, .int (-1), .int (-1), .ref a2])), (a1, .inr (0, [.ref a3, .ref a4, .ref a5, .int 0, .int 190])), (a5, .inr (9, [.int 0, .int 2, .int 20, .int 120, .int 0, .int 0, .int 0, .int 0, .ref a9, .int 0, .ref a10, .ref a11, .int 0, .ref a12, .ref a13, .ref a14, .ref a15]))] _ _ := w
  refine r_top (g2 := F0 m 117 ls [.int 0]) rfl ?_
  refine b_if_eq_t C (tgt := 128) dX7_seek_117 (by decide) (by decide) ?_
  refine lv_aload_n C.1 C.2.1 dX7_seek_128 rfl (lv_at hl 1 rfl) ?_
  refine lv_aload_n C.1 C.2.1 dX7_seek_129 rfl (lv_at hl 1 rfl) ?_
  refine r_get C w 1 rfl rfl 1 (by decide) fl_RX7_46 (v := .int 3) rfl dX7_seek_130 ?_
  refine r_put C w 1 rfl rfl 2 (by decide) fl_RX7_9 rfl (ty := .int) (tyX7_ok 2 (by decide)) rfl rfl (Nat.le_of_ble_eq_true rfl) [(a4, .inl (cy 1, 1830, .inl (fillF (fun _ => 0) 2 20 (PP 20 2 (20 + 1 - 2))))), (a0, .inr (7, [.ref a1, .int 3, .int 3, .int (-1), .int (-1), .ref a2])), (a1, .inr (0, [.ref a3, .ref a4, .ref a5, .int 0, .int 190])), (a5, .inr (9, [.int 0, .int 2, .int 20, .int 120, .int 0, .int 0, .int 0, .int 0, .ref a9, .int 0, .ref a10, .ref a11, .int 0, .ref a12, .ref a13, .ref a14, .ref a15]))] rfl dX7_seek_133 (fun H locs w => ?_)
  refine lv_aload_n C.1 C.2.1 dX7_seek_136 rfl (lv_at hl 1 rfl) ?_
  refine lv_dup C.1 C.2.1 dX7_seek_137 rfl ?_
  refine r_get C w 1 rfl rfl 1 (by decide) fl_RX7_46 (v := .int 3) rfl dX7_seek_138 ?_
  refine lv_iconst (v := 1) C.1 C.2.1 dX7_seek_141 (by decide) ?_
  refine r_iadd C (v := 4) dX7_seek_142 (by decide) ?_
  refine r_put C w 1 rfl rfl 1 (by decide) fl_RX7_46 rfl (ty := .int) (tyX7_ok 1 (by decide)) rfl rfl (Nat.le_of_ble_eq_true rfl) [(a4, .inl (cy 1, 1830, .inl (fillF (fun _ => 0) 2 20 (PP 20 2 (20 + 1 - 2))))), (a0, .inr (7, [.ref a1, .int 4, .int 3, .int (-1), .int (-1), .ref a2])), (a1, .inr (0, [.ref a3, .ref a4, .ref a5, .int 0, .int 190])), (a5, .inr (9, [.int 0, .int 2, .int 20, .int 120, .int 0, .int 0, .int 0, .int 0, .ref a9, .int 0, .ref a10, .ref a11, .int 0, .ref a12, .ref a13, .ref a14, .ref a15]))] rfl dX7_seek_143 (fun H locs w => ?_)
  refine lv_goto (tgt := 85) C.1 C.2.1 dX7_seek_146 (by decide) ?_
  refine lv_aload_n C.1 C.2.1 dX7_seek_85 rfl (lv_at hl 1 rfl) ?_
  refine r_get C w 1 rfl rfl 1 (by decide) fl_RX7_46 (v := .int 4) rfl dX7_seek_86 ?_
  refine lv_iload_n C.1 C.2.1 dX7_seek_89 rfl (lv_at hl 2 rfl) ?_
  refine b_icmp_gt_t C (tgt := 149) dX7_seek_90 (by decide) (by decide) ?_
  exact r_vret C w hlocks () hr rfl trivial [0, 1, 2, 3] rfl rfl ⟨Nat.le_of_ble_eq_true rfl, Nat.le_of_ble_eq_true rfl⟩ dX7_seek_149
set_option maxRecDepth 100000 in
set_option maxHeartbeats 4000000 in
theorem c_X7_single_3 (l : Launch) (D : va_G) (cy : Nat → ClassId) (a0 a1 a2 a3 a4 a5 a9 a10 a11 a12 a13 a14 a15 : Nat) : Ct l D cy yX7_single cX7_single 11 (some .boolean) 0 0 0 0 [(a0, .inr (7, [.ref a1, .int 4, .int 3, .int (-1), .int (-1), .ref a2])), (a1, .inr (0, [.ref a3, .ref a4, .ref a5, .int 0, .int 190])), (a5, .inr (9, [.int 0, .int 2, .int 20, .int 120, .int 0, .int 0, .int 0, .int 0, .ref a9, .int 0, .ref a10, .ref a11, .int 0, .ref a12, .ref a13, .ref a14, .ref a15]))] [.ref a0, .int 0, .int 0, .int 190, .int (-1)] (fun u : Unit => some (.int 0)) (fun _ => True) (fun u : Unit => [(a0, .inr (7, [.ref a1, .int 4, .int 3, .int (-1), .int (-1), .ref a2])), (a1, .inr (0, [.ref a3, .ref a4, .ref a5, .int 0, .int 190])), (a5, .inr (9, [.int 0, .int 2, .int 20, .int 120, .int 0, .int 0, .int 0, .int 0, .ref a9, .int 0, .ref a10, .ref a11, .int 0, .ref a12, .ref a13, .ref a14, .ref a15]))]) := by
  refine Ct.of (by decide +kernel) (Nat.le_of_ble_eq_true rfl) ?_
  intro p e s m args below meth c A ls C hr hlocks hml hnm w hl
  have hl : lv_has ls 11 [(0, .ref a0), (1, .int 0), (2, .int 0), (3, .int 190), (4, .int (-1))] := hl
  refine lv_aload_n C.1 C.2.1 dX7_single_0 rfl (lv_at hl 0 rfl) ?_
  refine r_get C w 0 rfl rfl 0 (by decide) fl_RX7_25 (v := .ref a1) rfl dX7_single_1 ?_
  refine r_get C w 1 rfl rfl 2 (by decide) fl_RX7_53 (v := .ref a5) rfl dX7_single_4 ?_
  refine lv_astore (lv' := [(5, .ref a5), (0, .ref a0), (1, .int 0), (2, .int 0), (3, .int 190), (4, .int (-1))]) C.1 C.2.1 dX7_single_7 hl (by decide) rfl (fun ls hl => ?_)
  refine lv_iconst (v := 0) C.1 C.2.1 dX7_single_9 (by decide) ?_
  refine lv_istore (lv' := [(6, .int 0), (5, .ref a5), (0, .ref a0), (1, .int 0), (2, .int 0), (3, .int 190), (4, .int (-1))]) C.1 C.2.1 dX7_single_10 hl (by decide) rfl (fun ls hl => ?_)
  refine lv_iload C.1 C.2.1 dX7_single_12 (lv_at hl 0 rfl) ?_
  refine lv_aload C.1 C.2.1 dX7_single_14 (lv_at hl 1 rfl) ?_
  refine r_get C w 2 rfl rfl 5 (by decide) fl_RX7_57 (v := .int 0) rfl dX7_single_16 ?_
  refine b_icmp_ge_t C (tgt := 251) dX7_single_19 (by decide) (by decide) ?_
  refine lv_iconst (v := 0) C.1 C.2.1 dX7_single_251 (by decide) ?_
  exact r_iret C w hlocks () hr rfl rfl trivial [0, 1, 2] rfl rfl ⟨Nat.le_of_ble_eq_true rfl, Nat.le_of_ble_eq_true rfl⟩ dX7_single_252
set_option maxRecDepth 100000 in
set_option maxHeartbeats 4000000 in
theorem c_X7_seek_4 (l : Launch) (D : va_G) (cy : Nat → ClassId) (a0 a1 a2 a3 a4 a5 a9 a10 a11 a12 a13 a14 a15 : Nat) : Ct l D cy yX7_seek cX7_seek 3 none 3 78 0 0 [(a0, .inr (7, [.ref a1, .int 0, .int (-1), .int (-1), .int (-1), .ref a2])), (a1, .inr (0, [.ref a3, .ref a4, .ref a5, .int 0, .int 0])), (a4, .inl (cy 1, 1830, .inl (fun _ => 0))), (a5, .inr (9, [.int 0, .int 2, .int 20, .int 120, .int 0, .int 0, .int 0, .int 0, .ref a9, .int 0, .ref a10, .ref a11, .int 0, .ref a12, .ref a13, .ref a14, .ref a15]))] [.ref a0, .int 4] (fun u : Unit => none) (fun _ => True) (fun u : Unit => [(a4, .inl (cy 1, 1830, .inl (fillF (fun _ => 0) 2 20 (PP 20 2 (20 + 1 - 2))))), (a0, .inr (7, [.ref a1, .int 5, .int 4, .int (-1), .int (-1), .ref a2])), (a1, .inr (0, [.ref a3, .ref a4, .ref a5, .int 0, .int 190])), (a5, .inr (9, [.int 0, .int 2, .int 20, .int 120, .int 0, .int 0, .int 0, .int 0, .ref a9, .int 0, .ref a10, .ref a11, .int 0, .ref a12, .ref a13, .ref a14, .ref a15]))]) := by
  refine Ct.of (by decide +kernel) (Nat.le_of_ble_eq_true rfl) ?_
  intro p e s m args below meth c A ls C hr hlocks hml hnm w hl
  have hl : lv_has ls 3 [(0, .ref a0), (1, .int 4)] := hl
  refine lv_aload_n C.1 C.2.1 dX7_seek_0 rfl (lv_at hl 0 rfl) ?_
  refine r_get C w 0 rfl rfl 3 (by decide) fl_RX7_15 (v := .int (-1)) rfl dX7_seek_1 ?_
  refine lv_iconst (v := (-1)) C.1 C.2.1 dX7_seek_4 (by decide) ?_
  refine b_icmp_ne_f C (tgt := 16) dX7_seek_5 (by decide) (by decide) ?_
  refine lv_aload_n C.1 C.2.1 dX7_seek_8 rfl (lv_at hl 0 rfl) ?_
  refine r_get C w 0 rfl rfl 2 (by decide) fl_RX7_9 (v := .int (-1)) rfl dX7_seek_9 ?_
  refine lv_iload_n C.1 C.2.1 dX7_seek_12 rfl (lv_at hl 1 rfl) ?_
  refine b_icmp_lt_t C (tgt := 17) dX7_seek_13 (by decide) (by decide) ?_
  refine lv_aload_n C.1 C.2.1 dX7_seek_17 rfl (lv_at hl 0 rfl) ?_
  refine r_get C w 0 rfl rfl 0 (by decide) fl_RX7_25 (v := .ref a1) rfl dX7_seek_18 ?_
  refine r_callV C w fv_RX7_29 (c_X0_begin_0 l D cy a1 a3 a4 a5 a9 a10 a11 a12 a13 a14 a15) (hl.1.trans hml.symm) [1, 2, 3] [0] (wr := [(a0, .inr (7, [.ref a1, .int 0, .int (-1), .int (-1), .int (-1), .ref a2]))]) ⟨rfl, rfl, rfl, rfl, by decide⟩ 0 rfl rfl rfl rfl rfl ⟨Nat.le_of_ble_eq_true rfl, Nat.le_of_ble_eq_true rfl, Nat.le_of_ble_eq_true rfl⟩ 0 0 ⟨rfl, rfl, Nat.le_of_ble_eq_true rfl, Nat.le_of_ble_eq_true rfl⟩ dX7_seek_21 (fun u H locs hp w => ?_)
  have w : Wd D A s.heap [(a0, .inr (7, [.ref a1, .int 0, .int (-1), .int (-1), .int (-1), .ref a2])), (a1, .inr (0, [.ref a3, .ref a4, .ref a5, .int 0, .int 190])), (a4, .inl (cy 1, 1830, .inl (fillF (fun _ => 0) 2 20 (PP 20 2 (20 + 1 - 2))))), (a5, .inr (9, [.int 0, .int 2, .int 20, .int 120, .int 0, .int 0, .int 0, .int 0, .ref a9, .int 0, .ref a10, .ref a11, .int 0, .ref a12, .ref a13, .ref a14, .ref a15]))] _ _ := w
  refine r_top (g2 := F0 m 24 ls []) rfl ?_
  refine lv_aload_n C.1 C.2.1 dX7_seek_24 rfl (lv_at hl 0 rfl) ?_
  refine r_get C w 0 rfl rfl 0 (by decide) fl_RX7_25 (v := .ref a1) rfl dX7_seek_25 ?_
  refine r_get C w 1 rfl rfl 4 (by decide) fl_RX7_34 (v := .int 190) rfl dX7_seek_28 ?_
  refine lv_istore_n (lv' := [(2, .int 190), (0, .ref a0), (1, .int 4)]) C.1 C.2.1 dX7_seek_31 rfl hl (by decide) rfl (fun ls hl => ?_)
  refine lv_aload_n C.1 C.2.1 dX7_seek_32 rfl (lv_at hl 1 rfl) ?_
  refine r_get C w 0 rfl rfl 2 (by decide) fl_RX7_9 (v := .int (-1)) rfl dX7_seek_33 ?_
  refine lv_iconst (v := (-1)) C.1 C.2.1 dX7_seek_36 (by decide) ?_
  refine b_icmp_ne_f C (tgt := 63) dX7_seek_37 (by decide) (by decide) ?_
  refine lv_iload_n C.1 C.2.1 dX7_seek_40 rfl (lv_at hl 0 rfl) ?_
  refine lv_iconst (v := 1) C.1 C.2.1 dX7_seek_41 (by decide) ?_
  refine b_icmp_ne_t C (tgt := 63) dX7_seek_42 (by decide) (by decide) ?_
  refine lv_aload_n C.1 C.2.1 dX7_seek_63 rfl (lv_at hl 1 rfl) ?_
  refine lv_aload_n C.1 C.2.1 dX7_seek_64 rfl (lv_at hl 1 rfl) ?_
  refine r_get C w 0 rfl rfl 2 (by decide) fl_RX7_9 (v := .int (-1)) rfl dX7_seek_65 ?_
  refine lv_iconst (v := 0) C.1 C.2.1 dX7_seek_68 (by decide) ?_
  refine r_mmax C (hl.1.trans hml.symm) ml_RX7_40 st_max it_math cd_max (v := 0) (by decide) ⟨Nat.le_of_ble_eq_true rfl, Nat.le_of_ble_eq_true rfl, Nat.le_of_ble_eq_true rfl, Nat.le_of_ble_eq_true rfl⟩ dX7_seek_69 ?_
  refine r_put C w 0 rfl rfl 2 (by decide) fl_RX7_9 rfl (ty := .int) (tyX7_ok 2 (by decide)) rfl rfl (Nat.le_of_ble_eq_true rfl) [(a0, .inr (7, [.ref a1, .int 0, .int 0, .int (-1), .int (-1), .ref a2])), (a1, .inr (0, [.ref a3, .ref a4, .ref a5, .int 0, .int 190])), (a4, .inl (cy 1, 1830, .inl (fillF (fun _ => 0) 2 20 (PP 20 2 (20 + 1 - 2))))), (a5, .inr (9, [.int 0, .int 2, .int 20, .int 120, .int 0, .int 0, .int 0, .int 0, .ref a9, .int 0, .ref a10, .ref a11, .int 0, .ref a12, .ref a13, .ref a14, .ref a15]))] rfl dX7_seek_72 (fun H locs w => ?_)
  refine lv_aload_n C.1 C.2.1 dX7_seek_75 rfl (lv_at hl 1 rfl) ?_
  refine lv_aload_n C.1 C.2.1 dX7_seek_76 rfl (lv_at hl 1 rfl) ?_
  refine r_get C w 0 rfl rfl 2 (by decide) fl_RX7_9 (v := .int 0) rfl dX7_seek_77 ?_
  refine lv_iconst (v := 1) C.1 C.2.1 dX7_seek_80 (by decide) ?_
  refine r_iadd C (v := 1) dX7_seek_81 (by decide) ?_
  refine r_put C w 0 rfl rfl 1 (by decide) fl_RX7_46 rfl (ty := .int) (tyX7_ok 1 (by decide)) rfl rfl (Nat.le_of_ble_eq_true rfl) [(a0, .inr (7, [.ref a1, .int 1, .int 0, .int (-1), .int (-1), .ref a2])), (a1, .inr (0, [.ref a3, .ref a4, .ref a5, .int 0, .int 190])), (a4, .inl (cy 1, 1830, .inl (fillF (fun _ => 0) 2 20 (PP 20 2 (20 + 1 - 2))))), (a5, .inr (9, [.int 0, .int 2, .int 20, .int 120, .int 0, .int 0, .int 0, .int 0, .ref a9, .int 0, .ref a10, .ref a11, .int 0, .ref a12, .ref a13, .ref a14, .ref a15]))] rfl dX7_seek_82 (fun H locs w => ?_)
  refine lv_aload_n C.1 C.2.1 dX7_seek_85 rfl (lv_at hl 1 rfl) ?_
  refine r_get C w 0 rfl rfl 1 (by decide) fl_RX7_46 (v := .int 1) rfl dX7_seek_86 ?_
  refine lv_iload_n C.1 C.2.1 dX7_seek_89 rfl (lv_at hl 2 rfl) ?_
  refine b_icmp_gt_f C (tgt := 149) dX7_seek_90 (by decide) (by decide) ?_
  refine lv_aload_n C.1 C.2.1 dX7_seek_93 rfl (lv_at hl 1 rfl) ?_
  refine r_get C w 0 rfl rfl 1 (by decide) fl_RX7_46 (v := .int 1) rfl dX7_seek_94 ?_
  refine lv_iconst (v := 4) C.1 C.2.1 dX7_seek_97 (by decide) ?_
  refine b_icmp_gt_f C (tgt := 149) dX7_seek_98 (by decide) (by decide) ?_
  refine lv_aload_n C.1 C.2.1 dX7_seek_101 rfl (lv_at hl 1 rfl) ?_
  refine r_get C w 0 rfl rfl 3 (by decide) fl_RX7_15 (v := .int (-1)) rfl dX7_seek_102 ?_
  refine lv_iconst (v := (-1)) C.1 C.2.1 dX7_seek_105 (by decide) ?_
  refine b_icmp_ne_f C (tgt := 149) dX7_seek_106 (by decide) (by decide) ?_
  refine lv_aload_n C.1 C.2.1 dX7_seek_109 rfl (lv_at hl 1 rfl) ?_
  refine lv_iconst (v := 0) C.1 C.2.1 dX7_seek_110 (by decide) ?_
  refine lv_iconst (v := 0) C.1 C.2.1 dX7_seek_111 (by decide) ?_
  refine lv_iload_n C.1 C.2.1 dX7_seek_112 rfl (lv_at hl 0 rfl) ?_
  refine lv_iconst (v := (-1)) C.1 C.2.1 dX7_seek_113 (by decide) ?_
  refine r_callV C w fv_RX7_49 (c_X7_single_0 l D cy a0 a1 a2 a3 a4 a5 a9 a10 a11 a12 a13 a14 a15) (hl.1.trans hml.symm) [0, 1, 3] [2] (wr := [(a4, .inl (cy 1, 1830, .inl (fillF (fun _ => 0) 2 20 (PP 20 2 (20 + 1 - 2)))))]) ⟨rfl, rfl, rfl, rfl, by decide⟩ 0 rfl rfl rfl rfl rfl ⟨Nat.le_of_ble_eq_true rfl, Nat.le_of_ble_eq_true rfl, Nat.le_of_ble_eq_true rfl⟩ 0 0 ⟨rfl, rfl, Nat.le_of_ble_eq_true rfl, Nat.le_of_ble_eq_true rfl⟩ dX7_seek_114 (fun u H locs hp w => ?_)
  have w : Wd D A s.heap [(a4, .inl (cy 1, 1830, .inl (fillF (fun _ => 0) 2 20 (PP 20 2 (20 + 1 - 2))))), (a0, .inr (7, [.ref a1, .int 1, .int 0, .int (-1), .int (-1), .ref a2])), (a1, .inr (0, [.ref a3, .ref a4, .ref a5, .int 0, .int 190])), (a5, .inr (9, [.int 0, .int 2, .int 20, .int 120, .int 0, .int 0, .int 0, .int 0, .ref a9, .int 0, .ref a10, .ref a11, .int 0, .ref a12, .ref a13, .ref a14, .ref a15]))] _ _ := w
  refine r_top (g2 := F0 m 117 ls [.int 0]) rfl ?_
  refine b_if_eq_t C (tgt := 128) dX7_seek_117 (by decide) (by decide) ?_
  refine lv_aload_n C.1 C.2.1 dX7_seek_128 rfl (lv_at hl 1 rfl) ?_
  refine lv_aload_n C.1 C.2.1 dX7_seek_129 rfl (lv_at hl 1 rfl) ?_
  refine r_get C w 1 rfl rfl 1 (by decide) fl_RX7_46 (v := .int 1) rfl dX7_seek_130 ?_
  refine r_put C w 1 rfl rfl 2 (by decide) fl_RX7_9 rfl (ty := .int) (tyX7_ok 2 (by decide)) rfl rfl (Nat.le_of_ble_eq_true rfl) [(a4, .inl (cy 1, 1830, .inl (fillF (fun _ => 0) 2 20 (PP 20 2 (20 + 1 - 2))))), (a0, .inr (7, [.ref a1, .int 1, .int 1, .int (-1), .int (-1), .ref a2])), (a1, .inr (0, [.ref a3, .ref a4, .ref a5, .int 0, .int 190])), (a5, .inr (9, [.int 0, .int 2, .int 20, .int 120, .int 0, .int 0, .int 0, .int 0, .ref a9, .int 0, .ref a10, .ref a11, .int 0, .ref a12, .ref a13, .ref a14, .ref a15]))] rfl dX7_seek_133 (fun H locs w => ?_)
  refine lv_aload_n C.1 C.2.1 dX7_seek_136 rfl (lv_at hl 1 rfl) ?_
  refine lv_dup C.1 C.2.1 dX7_seek_137 rfl ?_
  refine r_get C w 1 rfl rfl 1 (by decide) fl_RX7_46 (v := .int 1) rfl dX7_seek_138 ?_
  refine lv_iconst (v := 1) C.1 C.2.1 dX7_seek_141 (by decide) ?_
  refine r_iadd C (v := 2) dX7_seek_142 (by decide) ?_
  refine r_put C w 1 rfl rfl 1 (by decide) fl_RX7_46 rfl (ty := .int) (tyX7_ok 1 (by decide)) rfl rfl (Nat.le_of_ble_eq_true rfl) [(a4, .inl (cy 1, 1830, .inl (fillF (fun _ => 0) 2 20 (PP 20 2 (20 + 1 - 2))))), (a0, .inr (7, [.ref a1, .int 2, .int 1, .int (-1), .int (-1), .ref a2])), (a1, .inr (0, [.ref a3, .ref a4, .ref a5, .int 0, .int 190])), (a5, .inr (9, [.int 0, .int 2, .int 20, .int 120, .int 0, .int 0, .int 0, .int 0, .ref a9, .int 0, .ref a10, .ref a11, .int 0, .ref a12, .ref a13, .ref a14, .ref a15]))] rfl dX7_seek_143 (fun H locs w => ?_)
  refine lv_goto (tgt := 85) C.1 C.2.1 dX7_seek_146 (by decide) ?_
  refine lv_aload_n C.1 C.2.1 dX7_seek_85 rfl (lv_at hl 1 rfl) ?_
  refine r_get C w 1 rfl rfl 1 (by decide) fl_RX7_46 (v := .int 2) rfl dX7_seek_86 ?_
  refine lv_iload_n C.1 C.2.1 dX7_seek_89 rfl (lv_at hl 2 rfl) ?_
  refine b_icmp_gt_f C (tgt := 149) dX7_seek_90 (by decide) (by decide) ?_
  refine lv_aload_n C.1 C.2.1 dX7_seek_93 rfl (lv_at hl 1 rfl) ?_
  refine r_get C w 1 rfl rfl 1 (by decide) fl_RX7_46 (v := .int 2) rfl dX7_seek_94 ?_
  refine lv_iconst (v := 4) C.1 C.2.1 dX7_seek_97 (by decide) ?_
  refine b_icmp_gt_f C (tgt := 149) dX7_seek_98 (by decide) (by decide) ?_
  refine lv_aload_n C.1 C.2.1 dX7_seek_101 rfl (lv_at hl 1 rfl) ?_
  refine r_get C w 1 rfl rfl 3 (by decide) fl_RX7_15 (v := .int (-1)) rfl dX7_seek_102 ?_
  refine lv_iconst (v := (-1)) C.1 C.2.1 dX7_seek_105 (by decide) ?_
  refine b_icmp_ne_f C (tgt := 149) dX7_seek_106 (by decide) (by decide) ?_
  refine lv_aload_n C.1 C.2.1 dX7_seek_109 rfl (lv_at hl 1 rfl) ?_
  refine lv_iconst (v := 0) C.1 C.2.1 dX7_seek_110 (by decide) ?_
  refine lv_iconst (v := 0) C.1 C.2.1 dX7_seek_111 (by decide) ?_
  refine lv_iload_n C.1 C.2.1 dX7_seek_112 rfl (lv_at hl 0 rfl) ?_
  refine lv_iconst (v := (-1)) C.1 C.2.1 dX7_seek_113 (by decide) ?_
  refine r_callV C w fv_RX7_49 (c_X7_single_1 l D cy a0 a1 a2 a3 a4 a5 a9 a10 a11 a12 a13 a14 a15) (hl.1.trans hml.symm) [1, 2, 3] [0] (wr := [(a4, .inl (cy 1, 1830, .inl (fillF (fun _ => 0) 2 20 (PP 20 2 (20 + 1 - 2)))))]) ⟨rfl, rfl, rfl, rfl, by decide⟩ 0 rfl rfl rfl rfl rfl ⟨Nat.le_of_ble_eq_true rfl, Nat.le_of_ble_eq_true rfl, Nat.le_of_ble_eq_true rfl⟩ 0 0 ⟨rfl, rfl, Nat.le_of_ble_eq_true rfl, Nat.le_of_ble_eq_true rfl⟩ dX7_seek_114 (fun u H locs hp w => ?_)
  have w : Wd D A s.heap [(a4, .inl (cy 1, 1830, .inl (fillF (fun _ => 0) 2 20 (PP 20 2 (20 + 1 - 2))))), (a0, .inr (7, [.ref a1, .int 2, .int 1, .int (-1), .int (-1), .ref a2])), (a1, .inr (0, [.ref a3, .ref a4, .ref a5, .int 0, .int 190])), (a5, .inr (9, [.int 0, .int 2, .int 20, .int 120, .int 0, .int 0, .int 0, .int 0, .ref a9, .int 0, .ref a10, .ref a11, .int 0, .ref a12, .ref a13, .ref a14, .ref a15]))] _ _ := w
  refine r_top (g2 := F0 m 117 ls [.int 0]) rfl ?_
  refine b_if_eq_t C (tgt := 128) dX7_seek_117 (by decide) (by decide) ?_
  refine lv_aload_n C.1 C.2.1 dX7_seek_128 rfl (lv_at hl 1 rfl) ?_
  refine lv_aload_n C.1 C.2.1 dX7_seek_129 rfl (lv_at hl 1 rfl) ?_
  refine r_get C w 1 rfl rfl 1 (by decide) fl_RX7_46 (v := .int 2) rfl dX7_seek_130 ?_
  refine r_put C w 1 rfl rfl 2 (by decide) fl_RX7_9 rfl (ty := .int) (tyX7_ok 2 (by decide)) rfl rfl (Nat.le_of_ble_eq_true rfl) [(a4, .inl (cy 1, 1830, .inl (fillF (fun _ => 0) 2 20 (PP 20 2 (20 + 1 - 2))))), (a0, .inr (7, [.ref a1, .int 2, .int 2, .int (-1), .int (-1), .ref a2])), (a1, .inr (0, [.ref a3, .ref a4, .ref a5, .int 0, .int 190])), (a5, .inr (9, [.int 0, .int 2, .int 20, .int 120, .int 0, .int 0, .int 0, .int 0, .ref a9, .int 0, .ref a10, .ref a11, .int 0, .ref a12, .ref a13, .ref a14, .ref a15]))] rfl dX7_seek_133 (fun H locs w => ?_)
  refine lv_aload_n C.1 C.2.1 dX7_seek_136 rfl (lv_at hl 1 rfl) ?_
  refine lv_dup C.1 C.2.1 dX7_seek_137 rfl ?_
  refine r_get C w 1 rfl rfl 1 (by decide) fl_RX7_46 (v := .int 2) rfl dX7_seek_138 ?_
  refine lv_iconst (v := 1) C.1 C.2.1 dX7_seek_141 (by decide) ?_
  refine r_iadd C (v := 3) dX7_seek_142 (by decide) ?_
  refine r_put C w 1 rfl rfl 1 (by decide) fl_RX7_46 rfl (ty := .int) (tyX7_ok 1 (by decide)) rfl rfl (Nat.le_of_ble_eq_true rfl) [(a4, .inl (cy 1, 1830, .inl (fillF (fun _ => 0) 2 20 (PP 20 2 (20 + 1 - 2))))), (a0, .inr (7, [.ref a1, .int 3, .int 2, .int (-1), .int (-1), .ref a2])), (a1, .inr (0, [.ref a3, .ref a4, .ref a5, .int 0, .int 190])), (a5, .inr (9, [.int 0, .int 2, .int 20, .int 120, .int 0, .int 0, .int 0, .int 0, .ref a9, .int 0, .ref a10, .ref a11, .int 0, .ref a12, .ref a13, .ref a14, .ref a15]))] rfl dX7_seek_143 (fun H locs w => ?_)
  refine lv_goto (tgt := 85) C.1 C.2.1 dX7_seek_146 (by decide) ?_
  refine lv_aload_n C.1 C.2.1 dX7_seek_85 rfl (lv_at hl 1 rfl) ?_
  refine r_get C w 1 rfl rfl 1 (by decide) fl_RX7_46 (v := .int 3) rfl dX7_seek_86 ?_
  refine lv_iload_n C.1 C.2.1 dX7_seek_89 rfl (lv_at hl 2 rfl) ?_
  refine b_icmp_gt_f C (tgt := 149) dX7_seek_90 (by decide) (by decide) ?_
  refine lv_aload_n C.1 C.2.1 dX7_seek_93 rfl (lv_at hl 1 rfl) ?_
  refine r_get C w 1 rfl rfl 1 (by decide) fl_RX7_46 (v := .int 3) rfl dX7_seek_94 ?_
  refine lv_iconst (v := 4) C.1 C.2.1 dX7_seek_97 (by decide) ?_
  refine b_icmp_gt_f C (tgt := 149) dX7_seek_98 (by decide) (by decide) ?_
  refine lv_aload_n C.1 C.2.1 dX7_seek_101 rfl (lv_at hl 1 rfl) ?_
  refine r_get C w 1 rfl rfl 3 (by decide) fl_RX7_15 (v := .int (-1)) rfl dX7_seek_102 ?_
  refine lv_iconst (v := (-1)) C.1 C.2.1 dX7_seek_105 (by decide) ?_
  refine b_icmp_ne_f C (tgt := 149) dX7_seek_106 (by decide) (by decide) ?_
  refine lv_aload_n C.1 C.2.1 dX7_seek_109 rfl (lv_at hl 1 rfl) ?_
  refine lv_iconst (v := 0) C.1 C.2.1 dX7_seek_110 (by decide) ?_
  refine lv_iconst (v := 0) C.1 C.2.1 dX7_seek_111 (by decide) ?_
  refine lv_iload_n C.1 C.2.1 dX7_seek_112 rfl (lv_at hl 0 rfl) ?_
  refine lv_iconst (v := (-1)) C.1 C.2.1 dX7_seek_113 (by decide) ?_
  refine r_callV C w fv_RX7_49 (c_X7_single_2 l D cy a0 a1 a2 a3 a4 a5 a9 a10 a11 a12 a13 a14 a15) (hl.1.trans hml.symm) [1, 2, 3] [0] (wr := [(a4, .inl (cy 1, 1830, .inl (fillF (fun _ => 0) 2 20 (PP 20 2 (20 + 1 - 2)))))]) ⟨rfl, rfl, rfl, rfl, by decide⟩ 0 rfl rfl rfl rfl rfl ⟨Nat.le_of_ble_eq_true rfl, Nat.le_of_ble_eq_true rfl, Nat.le_of_ble_eq_true rfl⟩ 0 0 ⟨rfl, rfl, Nat.le_of_ble_eq_true rfl, Nat.le_of_ble_eq_true rfl⟩ dX7_seek_114 (fun u H locs hp w => ?_)
  have w : Wd D A s.heap [(a4, .inl (cy 1, 1830, .inl (fillF (fun _ => 0) 2 20 (PP 20 2 (20 + 1 - 2))))), (a0, .inr (7, [.ref a1, .int 3, .int 2, .int (-1), .int (-1), .ref a2])), (a1, .inr (0, [.ref a3, .ref a4, .ref a5, .int 0, .int 190])), (a5, .inr (9, [.int 0, .int 2, .int 20, .int 120, .int 0, .int 0, .int 0, .int 0, .ref a9, .int 0, .ref a10, .ref a11, .int 0, .ref a12, .ref a13, .ref a14, .ref a15]))] _ _ := w
  refine r_top (g2 := F0 m 117 ls [.int 0]) rfl ?_
  refine b_if_eq_t C (tgt := 128) dX7_seek_117 (by decide) (by decide) ?_
  refine lv_aload_n C.1 C.2.1 dX7_seek_128 rfl (lv_at hl 1 rfl) ?_
  refine lv_aload_n C.1 C.2.1 dX7_seek_129 rfl (lv_at hl 1 rfl) ?_
  refine r_get C w 1 rfl rfl 1 (by decide) fl_RX7_46 (v := .int 3) rfl dX7_seek_130 ?_
  refine r_put C w 1 rfl rfl 2 (by decide) fl_RX7_9 rfl (ty := .int) (tyX7_ok 2 (by decide)) rfl rfl (Nat.le_of_ble_eq_true rfl) [(a4, .inl (cy 1, 1830, .inl (fillF (fun _ => 0) 2 20 (PP 20 2 (20 + 1 - 2))))), (a0, .inr (7, [.ref a1, .int 3, .int 3, .int (-1), .int (-1), .ref a2])), (a1, .inr (0, [.ref a3, .ref a4, .ref a5, .int 0, .int 190])), (a5, .inr (9, [.int 0, .int 2, .int 20, .int 120, .int 0, .int 0, .int 0, .int 0, .ref a9, .int 0, .ref a10, .ref a11, .int 0, .ref a12, .ref a13, .ref a14, .ref a15]))] rfl dX7_seek_133 (fun H locs w => ?_)
  refine lv_aload_n C.1 C.2.1 dX7_seek_136 rfl (lv_at hl 1 rfl) ?_
  refine lv_dup C.1 C.2.1 dX7_seek_137 rfl ?_
  refine r_get C w 1 rfl rfl 1 (by decide) fl_RX7_46 (v := .int 3) rfl dX7_seek_138 ?_
  refine lv_iconst (v := 1) C.1 C.2.1 dX7_seek_141 (by decide) ?_
  refine r_iadd C (v := 4) dX7_seek_142 (by decide) ?_
  refine r_put C w 1 rfl rfl 1 (by decide) fl_RX7_46 rfl (ty := .int) (tyX7_ok 1 (by decide)) rfl rfl (Nat.le_of_ble_eq_true rfl) [(a4, .inl (cy 1, 1830, .inl (fillF (fun _ => 0) 2 20 (PP 20 2 (20 + 1 - 2))))), (a0, .inr (7, [.ref a1, .int 4, .int 3, .int (-1), .int (-1), .ref a2])), (a1, .inr (0, [.ref a3, .ref a4, .ref a5, .int 0, .int 190])), (a5, .inr (9, [.int 0, .int 2, .int 20, .int 120, .int 0, .int 0, .int 0, .int 0, .ref a9, .int 0, .ref a10, .ref a11, .int 0, .ref a12, .ref a13, .ref a14, .ref a15]))] rfl dX7_seek_143 (fun H locs w => ?_)
  refine lv_goto (tgt := 85) C.1 C.2.1 dX7_seek_146 (by decide) ?_
  refine lv_aload_n C.1 C.2.1 dX7_seek_85 rfl (lv_at hl 1 rfl) ?_
  refine r_get C w 1 rfl rfl 1 (by decide) fl_RX7_46 (v := .int 4) rfl dX7_seek_86 ?_
  refine lv_iload_n C.1 C.2.1 dX7_seek_89 rfl (lv_at hl 2 rfl) ?_
  refine b_icmp_gt_f C (tgt := 149) dX7_seek_90 (by decide) (by decide) ?_
  refine lv_aload_n C.1 C.2.1 dX7_seek_93 rfl (lv_at hl 1 rfl) ?_
  refine r_get C w 1 rfl rfl 1 (by decide) fl_RX7_46 (v := .int 4) rfl dX7_seek_94 ?_
  refine lv_iconst (v := 4) C.1 C.2.1 dX7_seek_97 (by decide) ?_
  refine b_icmp_gt_f C (tgt := 149) dX7_seek_98 (by decide) (by decide) ?_
  refine lv_aload_n C.1 C.2.1 dX7_seek_101 rfl (lv_at hl 1 rfl) ?_
  refine r_get C w 1 rfl rfl 3 (by decide) fl_RX7_15 (v := .int (-1)) rfl dX7_seek_102 ?_
  refine lv_iconst (v := (-1)) C.1 C.2.1 dX7_seek_105 (by decide) ?_
  refine b_icmp_ne_f C (tgt := 149) dX7_seek_106 (by decide) (by decide) ?_
  refine lv_aload_n C.1 C.2.1 dX7_seek_109 rfl (lv_at hl 1 rfl) ?_
  refine lv_iconst (v := 0) C.1 C.2.1 dX7_seek_110 (by decide) ?_
  refine lv_iconst (v := 0) C.1 C.2.1 dX7_seek_111 (by decide) ?_
  refine lv_iload_n C.1 C.2.1 dX7_seek_112 rfl (lv_at hl 0 rfl) ?_
  refine lv_iconst (v := (-1)) C.1 C.2.1 dX7_seek_113 (by decide) ?_
  refine r_callV C w fv_RX7_49 (c_X7_single_3 l D cy a0 a1 a2 a3 a4 a5 a9 a10 a11 a12 a13 a14 a15) (hl.1.trans hml.symm) [1, 2, 3] [0] (wr := [(a4, .inl (cy 1, 1830, .inl (fillF (fun _ => 0) 2 20 (PP 20 2 (20 + 1 - 2)))))]) ⟨rfl, rfl, rfl, rfl, by decide⟩ 0 rfl rfl rfl rfl rfl ⟨Nat.le_of_ble_eq_true rfl, Nat.le_of_ble_eq_true rfl, Nat.le_of_ble_eq_true rfl⟩ 0 0 ⟨rfl, rfl, Nat.le_of_ble_eq_true rfl, Nat.le_of_ble_eq_true rfl⟩ dX7_seek_114 (fun u H locs hp w => ?_)
  have w : Wd D A s.heap [(a4, .inl (cy 1, 1830, .inl (fillF (fun _ => 0) 2 20 (PP 20 2 (20 + 1 - 2))))), (a0, .inr (7, [.ref a1, .int 4, .int 3, .int (-1), .int (-1), .ref a2])), (a1, .inr (0, [.ref a3, .ref a4, .ref a5, .int 0, .int 190])), (a5, .inr (9, [.int 0, .int 2, .int 20, .int 120, .int 0, .int 0, .int 0, .int 0, .ref a9, .int 0, .ref a10, .ref a11, .int 0, .ref a12, .ref a13, .ref a14, .ref a15]))] _ _ := w
  refine r_top (g2 := F0 m 117 ls [.int 0]) rfl ?_
  refine b_if_eq_t C (tgt := 128) dX7_seek_117 (by decide) (by decide) ?_
  refine lv_aload_n C.1 C.2.1 dX7_seek_128 rfl (lv_at hl 1 rfl) ?_
  refine lv_aload_n C.1 C.2.1 dX7_seek_129 rfl (lv_at hl 1 rfl) ?_
  refine r_get C w 1 rfl rfl 1 (by decide) fl_RX7_46 (v := .int 4) rfl dX7_seek_130 ?_
  refine r_put C w 1 rfl rfl 2 (by decide) fl_RX7_9 rfl (ty := .int) (tyX7_ok 2 (by decide)) rfl rfl (Nat.le_of_ble_eq_true rfl) [(a4, .inl (cy 1, 1830, .inl (fillF (fun _ => 0) 2 20 (PP 20 2 (20 + 1 - 2))))), (a0, .inr (7, [.ref a1, .int 4, .int 4, .int (-1), .int (-1), .ref a2])), (a1, .inr (0, [.ref a3, .ref a4, .ref a5, .int 0, .int 190])), (a5, .inr (9, [.int 0, .int 2, .int 20, .int 120, .int 0, .int 0, .int 0, .int 0, .ref a9, .int 0, .ref a10, .ref a11, .int 0, .ref a12, .ref a13, .ref a14, .ref a15]))] rfl dX7_seek_133 (fun H locs w => ?_)
  refine lv_aload_n C.1 C.2.1 dX7_seek_136 rfl (lv_at hl 1 rfl) ?_
  refine lv_dup C.1 C.2.1 dX7_seek_137 rfl ?_
  refine r_get C w 1 rfl rfl 1 (by decide) fl_RX7_46 (v := .int 4) rfl dX7_seek_138 ?_
  refine lv_iconst (v := 1) C.1 C.2.1 dX7_seek_141 (by decide) ?_
  refine r_iadd C (v := 5) dX7_seek_142 (by decide) ?_
  refine r_put C w 1 rfl rfl 1 (by decide) fl_RX7_46 rfl (ty := .int) (tyX7_ok 1 (by decide)) rfl rfl (Nat.le_of_ble_eq_true rfl) [(a4, .inl (cy 1, 1830, .inl (fillF (fun _ => 0) 2 20 (PP 20 2 (20 + 1 - 2))))), (a0, .inr (7, [.ref a1, .int 5, .int 4, .int (-1), .int (-1), .ref a2])), (a1, .inr (0, [.ref a3, .ref a4, .ref a5, .int 0, .int 190])), (a5, .inr (9, [.int 0, .int 2, .int 20, .int 120, .int 0, .int 0, .int 0, .int 0, .ref a9, .int 0, .ref a10, .ref a11, .int 0, .ref a12, .ref a13, .ref a14, .ref a15]))] rfl dX7_seek_143 (fun H locs w => ?_)
  refine lv_goto (tgt := 85) C.1 C.2.1 dX7_seek_146 (by decide) ?_
  refine lv_aload_n C.1 C.2.1 dX7_seek_85 rfl (lv_at hl 1 rfl) ?_
  refine r_get C w 1 rfl rfl 1 (by decide) fl_RX7_46 (v := .int 5) rfl dX7_seek_86 ?_
  refine lv_iload_n C.1 C.2.1 dX7_seek_89 rfl (lv_at hl 2 rfl) ?_
  refine b_icmp_gt_t C (tgt := 149) dX7_seek_90 (by decide) (by decide) ?_
  exact r_vret C w hlocks () hr rfl trivial [0, 1, 2, 3] rfl rfl ⟨Nat.le_of_ble_eq_true rfl, Nat.le_of_ble_eq_true rfl⟩ dX7_seek_149
set_option maxRecDepth 100000 in
set_option maxHeartbeats 4000000 in
theorem c_X7_seek_5 (l : Launch) (D : va_G) (cy : Nat → ClassId) (a0 a1 a2 a3 a4 a5 a9 a10 a11 a12 a13 a14 a15 : Nat) (x0 : Int32) (k0 : (-1) < x0) (k1 : ¬ x0 < 1) (k2 : ¬ x0 < 2) (k3 : ¬ x0 < 3) (k4 : ¬ x0 < 4) (k5 : ¬ x0 < 5) : Ct l D cy yX7_seek cX7_seek 3 none 3 78 0 0 [(a0, .inr (7, [.ref a1, .int 0, .int (-1), .int (-1), .int (-1), .ref a2])), (a1, .inr (0, [.ref a3, .ref a4, .ref a5, .int 0, .int 0])), (a4, .inl (cy 1, 1830, .inl (fun _ => 0))), (a5, .inr (9, [.int 0, .int 2, .int 20, .int 120, .int 0, .int 0, .int 0, .int 0, .ref a9, .int 0, .ref a10, .ref a11, .int 0, .ref a12, .ref a13, .ref a14, .ref a15]))] [.ref a0, .int x0] (fun u : Unit => none) (fun _ => True) (fun u : Unit => [(a4, .inl (cy 1, 1830, .inl (fillF (fun _ => 0) 2 20 (PP 20 2 (20 + 1 - 2))))), (a0, .inr (7, [.ref a1, .int 5, .int 4, .int (-1), .int (-1), .ref a2])), (a1, .inr (0, [.ref a3, .ref a4, .ref a5, .int 0, .int 190])), (a5, .inr (9, [.int 0, .int 2, .int 20, .int 120, .int 0, .int 0, .int 0, .int 0, .ref a9, .int 0, .ref a10, .ref a11, .int 0, .ref a12, .ref a13, .ref a14, .ref a15]))]) := by
  refine Ct.of (by decide +kernel) (Nat.le_of_ble_eq_true rfl) ?_
  intro p e s m args below meth c A ls C hr hlocks hml hnm w hl
  have hl : lv_has ls 3 [(0, .ref a0), (1, .int x0)] := hl
  refine lv_aload_n C.1 C.2.1 dX7_seek_0 rfl (lv_at hl 0 rfl) ?_
  refine r_get C w 0 rfl rfl 3 (by decide) fl_RX7_15 (v := .int (-1)) rfl dX7_seek_1 ?_
  refine lv_iconst (v := (-1)) C.1 C.2.1 dX7_seek_4 (by decide) ?_
  refine b_icmp_ne_f C (tgt := 16) dX7_seek_5 (by decide) (by decide) ?_
  refine lv_aload_n C.1 C.2.1 dX7_seek_8 rfl (lv_at hl 0 rfl) ?_
  refine r_get C w 0 rfl rfl 2 (by decide) fl_RX7_9 (v := .int (-1)) rfl dX7_seek_9 ?_
  refine lv_iload_n C.1 C.2.1 dX7_seek_12 rfl (lv_at hl 1 rfl) ?_
  refine b_icmp_lt_t C (tgt := 17) dX7_seek_13 (by decide) k0 ?_
  refine lv_aload_n C.1 C.2.1 dX7_seek_17 rfl (lv_at hl 0 rfl) ?_
  refine r_get C w 0 rfl rfl 0 (by decide) fl_RX7_25 (v := .ref a1) rfl dX7_seek_18 ?_
  refine r_callV C w fv_RX7_29 (c_X0_begin_0 l D cy a1 a3 a4 a5 a9 a10 a11 a12 a13 a14 a15) (hl.1.trans hml.symm) [1, 2, 3] [0] (wr := [(a0, .inr (7, [.ref a1, .int 0, .int (-1), .int (-1), .int (-1), .ref a2]))]) ⟨rfl, rfl, rfl, rfl, by decide⟩ 0 rfl rfl rfl rfl rfl ⟨Nat.le_of_ble_eq_true rfl, Nat.le_of_ble_eq_true rfl, Nat.le_of_ble_eq_true rfl⟩ 0 0 ⟨rfl, rfl, Nat.le_of_ble_eq_true rfl, Nat.le_of_ble_eq_true rfl⟩ dX7_seek_21 (fun u H locs hp w => ?_)
  have w : Wd D A s.heap [(a0, .inr (7, [.ref a1, .int 0, .int (-1), .int (-1), .int (-1), .ref a2])), (a1, .inr (0, [.ref a3, .ref a4, .ref a5, .int 0, .int 190])), (a4, .inl (cy 1, 1830, .inl (fillF (fun _ => 0) 2 20 (PP 20 2 (20 + 1 - 2))))), (a5, .inr (9, [.int 0, .int 2, .int 20, .int 120, .int 0, .int 0, .int 0, .int 0, .ref a9, .int 0, .ref a10, .ref a11, .int 0, .ref a12, .ref a13, .ref a14, .ref a15]))] _ _ := w
  refine r_top (g2 := F0 m 24 ls []) rfl ?_
  refine lv_aload_n C.1 C.2.1 dX7_seek_24 rfl (lv_at hl 0 rfl) ?_
  refine r_get C w 0 rfl rfl 0 (by decide) fl_RX7_25 (v := .ref a1) rfl dX7_seek_25 ?_
  refine r_get C w 1 rfl rfl 4 (by decide) fl_RX7_34 (v := .int 190) rfl dX7_seek_28 ?_
  refine lv_istore_n (lv' := [(2, .int 190), (0, .ref a0), (1, .int x0)]) C.1 C.2.1 dX7_seek_31 rfl hl (by decide) rfl (fun ls hl => ?_)
  refine lv_aload_n C.1 C.2.1 dX7_seek_32 rfl (lv_at hl 1 rfl) ?_
  refine r_get C w 0 rfl rfl 2 (by decide) fl_RX7_9 (v := .int (-1)) rfl dX7_seek_33 ?_
  refine lv_iconst (v := (-1)) C.1 C.2.1 dX7_seek_36 (by decide) ?_
  refine b_icmp_ne_f C (tgt := 63) dX7_seek_37 (by decide) (by decide) ?_
  refine lv_iload_n C.1 C.2.1 dX7_seek_40 rfl (lv_at hl 0 rfl) ?_
  refine lv_iconst (v := 1) C.1 C.2.1 dX7_seek_41 (by decide) ?_
  refine b_icmp_ne_t C (tgt := 63) dX7_seek_42 (by decide) (by decide) ?_
  refine lv_aload_n C.1 C.2.1 dX7_seek_63 rfl (lv_at hl 1 rfl) ?_
  refine lv_aload_n C.1 C.2.1 dX7_seek_64 rfl (lv_at hl 1 rfl) ?_
  refine r_get C w 0 rfl rfl 2 (by decide) fl_RX7_9 (v := .int (-1)) rfl dX7_seek_65 ?_
  refine lv_iconst (v := 0) C.1 C.2.1 dX7_seek_68 (by decide) ?_
  refine r_mmax C (hl.1.trans hml.symm) ml_RX7_40 st_max it_math cd_max (v := 0) (by decide) ⟨Nat.le_of_ble_eq_true rfl, Nat.le_of_ble_eq_true rfl, Nat.le_of_ble_eq_true rfl, Nat.le_of_ble_eq_true rfl⟩ dX7_seek_69 ?_
  refine r_put C w 0 rfl rfl 2 (by decide) fl_RX7_9 rfl (ty := .int) (tyX7_ok 2 (by decide)) rfl rfl (Nat.le_of_ble_eq_true rfl) [(a0, .inr (7, [.ref a1, .int 0, .int 0, .int (-1), .int (-1), .ref a2])), (a1, .inr (0, [.ref a3, .ref a4, .ref a5, .int 0, .int 190])), (a4, .inl (cy 1, 1830, .inl (fillF (fun _ => 0) 2 20 (PP 20 2 (20 + 1 - 2))))), (a5, .inr (9, [.int 0, .int 2, .int 20, .int 120, .int 0, .int 0, .int 0, .int 0, .ref a9, .int 0, .ref a10, .ref a11, .int 0, .ref a12, .ref a13, .ref a14, .ref a15]))] rfl dX7_seek_72 (fun H locs w => ?_)
  refine lv_aload_n C.1 C.2.1 dX7_seek_75 rfl (lv_at hl 1 rfl) ?_
  refine lv_aload_n C.1 C.2.1 dX7_seek_76 rfl (lv_at hl 1 rfl) ?_
  refine r_get C w 0 rfl rfl 2 (by decide) fl_RX7_9 (v := .int 0) rfl dX7_seek_77 ?_
  refine lv_iconst (v := 1) C.1 C.2.1 dX7_seek_80 (by decide) ?_
  refine r_iadd C (v := 1) dX7_seek_81 (by decide) ?_
  refine r_put C w 0 rfl rfl 1 (by decide) fl_RX7_46 rfl (ty := .int) (tyX7_ok 1 (by decide)) rfl rfl (Nat.le_of_ble_eq_true rfl) [(a0, .inr (7, [.ref a1, .int 1, .int 0, .int (-1), .int (-1), .ref a2])), (a1, .inr (0, [.ref a3, .ref a4, .ref a5, .int 0, .int 190])), (a4, .inl (cy 1, 1830, .inl (fillF (fun _ => 0) 2 20 (PP 20 2 (20 + 1 - 2))))), (a5, .inr (9, [.int 0, .int 2, .int 20, .int 120, .int 0, .int 0, .int 0, .int 0, .ref a9, .int 0, .ref a10, .ref a11, .int 0, .ref a12, .ref a13, .ref a14, .ref a15]))] rfl dX7_seek_82 (fun H locs w => ?_)
  refine lv_aload_n C.1 C.2.1 dX7_seek_85 rfl (lv_at hl 1 rfl) ?_
  refine r_get C w 0 rfl rfl 1 (by decide) fl_RX7_46 (v := .int 1) rfl dX7_seek_86 ?_
  refine lv_iload_n C.1 C.2.1 dX7_seek_89 rfl (lv_at hl 2 rfl) ?_
  refine b_icmp_gt_f C (tgt := 149) dX7_seek_90 (by decide) k1 ?_
  refine lv_aload_n C.1 C.2.1 dX7_seek_93 rfl (lv_at hl 1 rfl) ?_
  refine r_get C w 0 rfl rfl 1 (by decide) fl_RX7_46 (v := .int 1) rfl dX7_seek_94 ?_
  refine lv_iconst (v := 4) C.1 C.2.1 dX7_seek_97 (by decide) ?_
  refine b_icmp_gt_f C (tgt := 149) dX7_seek_98 (by decide) (by decide) ?_
  refine lv_aload_n C.1 C.2.1 dX7_seek_101 rfl (lv_at hl 1 rfl) ?_
  refine r_get C w 0 rfl rfl 3 (by decide) fl_RX7_15 (v := .int (-1)) rfl dX7_seek_102 ?_
  refine lv_iconst (v := (-1)) C.1 C.2.1 dX7_seek_105 (by decide) ?_
  refine b_icmp_ne_f C (tgt := 149) dX7_seek_106 (by decide) (by decide) ?_
  refine lv_aload_n C.1 C.2.1 dX7_seek_109 rfl (lv_at hl 1 rfl) ?_
  refine lv_iconst (v := 0) C.1 C.2.1 dX7_seek_110 (by decide) ?_
  refine lv_iconst (v := 0) C.1 C.2.1 dX7_seek_111 (by decide) ?_
  refine lv_iload_n C.1 C.2.1 dX7_seek_112 rfl (lv_at hl 0 rfl) ?_
  refine lv_iconst (v := (-1)) C.1 C.2.1 dX7_seek_113 (by decide) ?_
  refine r_callV C w fv_RX7_49 (c_X7_single_0 l D cy a0 a1 a2 a3 a4 a5 a9 a10 a11 a12 a13 a14 a15) (hl.1.trans hml.symm) [0, 1, 3] [2] (wr := [(a4, .inl (cy 1, 1830, .inl (fillF (fun _ => 0) 2 20 (PP 20 2 (20 + 1 - 2)))))]) ⟨rfl, rfl, rfl, rfl, by decide⟩ 0 rfl rfl rfl rfl rfl ⟨Nat.le_of_ble_eq_true rfl, Nat.le_of_ble_eq_true rfl, Nat.le_of_ble_eq_true rfl⟩ 0 0 ⟨rfl, rfl, Nat.le_of_ble_eq_true rfl, Nat.le_of_ble_eq_true rfl⟩ dX7_seek_114 (fun u H locs hp w => ?_)
  have w : Wd D A s.heap [(a4, .inl (cy 1, 1830, .inl (fillF (fun _ => 0) 2 20 (PP 20 2 (20 + 1 - 2))))), (a0, .inr (7, [.ref a1, .int 1, .int 0, .int (-1), .int (-1), .ref a2])), (a1, .inr (0, [.ref a3, .ref a4, .ref a5, .int 0, .int 190])), (a5, .inr (9, [.int 0, .int 2, .int 20, .int 120, .int 0, .int 0, .int 0, .int 0, .ref a9, .int 0, .ref a10, .ref a11, .int 0, .ref a12, .ref a13, .ref a14, .ref a15]))] _ _ := w
  refine r_top (g2 := F0 m 117 ls [.int 0]) rfl ?_
  refine b_if_eq_t C (tgt := 128) dX7_seek_117 (by decide) (by decide) ?_
  refine lv_aload_n C.1 C.2.1 dX7_seek_128 rfl (lv_at hl 1 rfl) ?_
  refine lv_aload_n C.1 C.2.1 dX7_seek_129 rfl (lv_at hl 1 rfl) ?_
  refine r_get C w 1 rfl rfl 1 (by decide) fl_RX7_46 (v := .int 1) rfl dX7_seek_130 ?_
  refine r_put C w 1 rfl rfl 2 (by decide) fl_RX7_9 rfl (ty := .int) (tyX7_ok 2 (by decide)) rfl rfl (Nat.le_of_ble_eq_true rfl) [(a4, .inl (cy 1, 1830, .inl (fillF (fun _ => 0) 2 20 (PP 20 2 (20 + 1 - 2))))), (a0, .inr (7, [.ref a1, .int 1, .int 1, .int (-1), .int (-1), .ref a2])), (a1, .inr (0, [.ref a3, .ref a4, .ref a5, .int 0, .int 190])), (a5, .inr (9, [.int 0, .int 2, .int 20, .int 120, .int 0, .int 0, .int 0, .int 0, .ref a9, .int 0, .ref a10, .ref a11, .int 0, .ref a12, .ref a13, .ref a14, .ref a15]))] rfl dX7_seek_133 (fun H locs w => ?_)
  refine lv_aload_n C.1 C.2.1 dX7_seek_136 rfl (lv_at hl 1 rfl) ?_
  refine lv_dup C.1 C.2.1 dX7_seek_137 rfl ?_
  refine r_get C w 1 rfl rfl 1 (by decide) fl_RX7_46 (v := .int 1) rfl dX7_seek_138 ?_
  refine lv_iconst (v := 1) C.1 C.2.1 dX7_seek_141 (by decide) ?_
  refine r_iadd C (v := 2) dX7_seek_142 (by decide) ?_
  refine r_put C w 1 rfl rfl 1 (by decide) fl_RX7_46 rfl (ty := .int) (tyX7_ok 1 (by decide)) rfl rfl (Nat.le_of_ble_eq_true rfl) [(a4, .inl (cy 1, 1830, .inl (fillF (fun _ => 0) 2 20 (PP 20 2 (20 + 1 - 2))))), (a0, .inr (7, [.ref a1, .int 2, .int 1, .int (-1), .int (-1), .ref a2])), (a1, .inr (0, [.ref a3, .ref a4, .ref a5, .int 0, .int 190])), (a5, .inr (9, [.int 0, .int 2, .int 20, .int 120, .int 0, .int 0, .int 0, .int 0, .ref a9, .int 0, .ref a10, .ref a11, .int 0, .ref a12, .ref a13, .ref a14, .ref a15]))] rfl dX7_seek_143 (fun H locs w => ?_)
  refine lv_goto (tgt := 85) C.1 C.2.1 dX7_seek_146 (by decide) ?_
  refine lv_aload_n C.1 C.2.1 dX7_seek_85 rfl (lv_at hl 1 rfl) ?_
  refine r_get C w 1 rfl rfl 1 (by decide) fl_RX7_46 (v := .int 2) rfl dX7_seek_86 ?_
  refine lv_iload_n C.1 C.2.1 dX7_seek_89 rfl (lv_at hl 2 rfl) ?_
  refine b_icmp_gt_f C (tgt := 149) dX7_seek_90 (by decide) k2 ?_
  refine lv_aload_n C.1 C.2.1 dX7_seek_93 rfl (lv_at hl 1 rfl) ?_
  refine r_get C w 1 rfl rfl 1 (by decide) fl_RX7_46 (v := .int 2) rfl dX7_seek_94 ?_
  refine lv_iconst (v := 4) C.1 C.2.1 dX7_seek_97 (by decide) ?_
  refine b_icmp_gt_f C (tgt := 149) dX7_seek_98 (by decide) (by decide) ?_
  refine lv_aload_n C.1 C.2.1 dX7_seek_101 rfl (lv_at hl 1 rfl) ?_
  refine r_get C w 1 rfl rfl 3 (by decide) fl_RX7_15 (v := .int (-1)) rfl dX7_seek_102 ?_
  refine lv_iconst (v := (-1)) C.1 C.2.1 dX7_seek_105 (by decide) ?_
  refine b_icmp_ne_f C (tgt := 149) dX7_seek_106 (by decide) (by decide) ?_
  refine lv_aload_n C.1 C.2.1 dX7_seek_109 rfl (lv_at hl 1 rfl) ?_
  refine lv_iconst (v := 0) C.1 C.2.1 dX7_seek_110 (by decide) ?_
  refine lv_iconst (v := 0) C.1 C.2.1 dX7_seek_111 (by decide) ?_
  refine lv_iload_n C.1 C.2.1 dX7_seek_112 rfl (lv_at hl 0 rfl) ?_
  refine lv_iconst (v := (-1)) C.1 C.2.1 dX7_seek_113 (by decide) ?_
  refine r_callV C w fv_RX7_49 (c_X7_single_1 l D cy a0 a1 a2 a3 a4 a5 a9 a10 a11 a12 a13 a14 a15) (hl.1.trans hml.symm) [1, 2, 3] [0] (wr := [(a4, .inl (cy 1, 1830, .inl (fillF (fun _ => 0) 2 20 (PP 20 2 (20 + 1 - 2)))))]) ⟨rfl, rfl, rfl, rfl, by decide⟩ 0 rfl rfl rfl rfl rfl ⟨Nat.le_of_ble_eq_true rfl, Nat.le_of_ble_eq_true rfl, Nat.le_of_ble_eq_true rfl⟩ 0 0 ⟨rfl, rfl, Nat.le_of_ble_eq_true rfl, Nat.le_of_ble_eq_true rfl⟩ dX7_seek_114 (fun u H locs hp w => ?_)
  have w : Wd D A s.heap [(a4, .inl (cy 1, 1830, .inl (fillF (fun _ => 0) 2 20 (PP 20 2 (20 + 1 - 2))))), (a0, .inr (7, [.ref a1, .int 2, .int 1, .int (-1), .int (-1), .ref a2])), (a1, .inr (0, [.ref a3, .ref a4, .ref a5, .int 0, .int 190])), (a5, .inr (9, [.int 0, .int 2, .int 20, .int 120, .int 0, .int 0, .int 0, .int 0, .ref a9, .int 0, .ref a10, .ref a11, .int 0, .ref a12, .ref a13, .ref a14, .ref a15]))] _ _ := w
  refine r_top (g2 := F0 m 117 ls [.int 0]) rfl ?_
  refine b_if_eq_t C (tgt := 128) dX7_seek_117 (by decide) (by decide) ?_
  refine lv_aload_n C.1 C.2.1 dX7_seek_128 rfl (lv_at hl 1 rfl) ?_
  refine lv_aload_n C.1 C.2.1 dX7_seek_129 rfl (lv_at hl 1 rfl) ?_
  refine r_get C w 1 rfl rfl 1 (by decide) fl_RX7_46 (v := .int 2) rfl dX7_seek_130 ?_
  refine r_put C w 1 rfl rfl 2 (by decide) fl_RX7_9 rfl (ty := .int) (tyX7_ok 2 (by decide)) rfl rfl (Nat.le_of_ble_eq_true rfl) [(a4, .inl (cy 1, 1830, .inl (fillF (fun _ => 0) 2 20 (PP 20 2 (20 + 1 - 2))))), (a0, .inr (7, [.ref a1, .int 2, .int 2, .int (-1), .int (-1), .ref a2])), (a1, .inr (0, [.ref a3, .ref a4, .ref a5, .int 0, .int 190])), (a5, .inr (9, [.int 0, .int 2, .int 20, .int 120, .int 0, .int 0, .int 0, .int 0, .ref a9, .int 0, .ref a10, .ref a11, .int 0, .ref a12, .ref a13, .ref a14, .ref a15]))] rfl dX7_seek_133 (fun H locs w => ?_)
  refine lv_aload_n C.1 C.2.1 dX7_seek_136 rfl (lv_at hl 1 rfl) ?_
  refine lv_dup C.1 C.2.1 dX7_seek_137 rfl ?_
  refine r_get C w 1 rfl rfl 1 (by decide) fl_RX7_46 (v := .int 2) rfl dX7_seek_138 ?_
  refine lv_iconst (v := 1) C.1 C.2.1 dX7_seek_141 (by decide) ?_
  refine r_iadd C (v := 3) dX7_seek_142 (by decide) ?_
  refine r_put C w 1 rfl rfl 1 (by decide) fl_RX7_46 rfl (ty := .int) (tyX7_ok 1 (by decide)) rfl rfl (Nat.le_of_ble_eq_true rfl) [(a4, .inl (cy 1, 1830, .inl (fillF (fun _ => 0) 2 20 (PP 20 2 (20 + 1 - 2))))), (a0, .inr (7, [.ref a1, .int 3, .int 2, .int (-1), .int (-1), .ref a2])), (a1, .inr (0, [.ref a3, .ref a4, .ref a5, .int 0, .int 190])), (a5, .inr (9, [.int 0, .int 2, .int 20, .int 120, .int 0, .int 0, .int 0, .int 0, .ref a9, .int 0, .ref a10, .ref a11, .int 0, .ref a12, .ref a13, .ref a14, .ref a15]))] rfl dX7_seek_143 (fun H locs w => ?_)
  refine lv_goto (tgt := 85) C.1 C.2.1 dX7_seek_146 (by decide) ?_
  refine lv_aload_n C.1 C.2.1 dX7_seek_85 rfl (lv_at hl 1 rfl) ?_
  refine r_get C w 1 rfl rfl 1 (by decide) fl_RX7_46 (v := .int 3) rfl dX7_seek_86 ?_
  refine lv_iload_n C.1 C.2.1 dX7_seek_89 rfl (lv_at hl 2 rfl) ?_
  refine b_icmp_gt_f C (tgt := 149) dX7_seek_90 (by decide) k3 ?_
  refine lv_aload_n C.1 C.2.1 dX7_seek_93 rfl (lv_at hl 1 rfl) ?_
  refine r_get C w 1 rfl rfl 1 (by decide) fl_RX7_46 (v := .int 3) rfl dX7_seek_94 ?_
  refine lv_iconst (v := 4) C.1 C.2.1 dX7_seek_97 (by decide) ?_
  refine b_icmp_gt_f C (tgt := 149) dX7_seek_98 (by decide) (by decide) ?_
  refine lv_aload_n C.1 C.2.1 dX7_seek_101 rfl (lv_at hl 1 rfl) ?_
  refine r_get C w 1 rfl rfl 3 (by decide) fl_RX7_15 (v := .int (-1)) rfl dX7_seek_102 ?_
  refine lv_iconst (v := (-1)) C.1 C.2.1 dX7_seek_105 (by decide) ?_
  refine b_icmp_ne_f C (tgt := 149) dX7_seek_106 (by decide) (by decide) ?_
  refine lv_aload_n C.1 C.2.1 dX7_seek_109 rfl (lv_at hl 1 rfl) ?_
  refine lv_iconst (v := 0) C.1 C.2.1 dX7_seek_110 (by decide) ?_
  refine lv_iconst (v := 0) C.1 C.2.1 dX7_seek_111 (by decide) ?_
  refine lv_iload_n C.1 C.2.1 dX7_seek_112 rfl (lv_at hl 0 rfl) ?_
  refine lv_iconst (v := (-1)) C.1 C.2.1 dX7_seek_113 (by decide) ?_
  refine r_callV C w fv_RX7_49 (c_X7_single_2 l D cy a0 a1 a2 a3 a4 a5 a9 a10 a11 a12 a13 a14 a15) (hl.1.trans hml.symm) [1, 2, 3] [0] (wr := [(a4, .inl (cy 1, 1830, .inl (fillF (fun _ => 0) 2 20 (PP 20 2 (20 + 1 - 2)))))]) ⟨rfl, rfl, rfl, rfl, by decide⟩ 0 rfl rfl rfl rfl rfl ⟨Nat.le_of_ble_eq_true rfl, Nat.le_of_ble_eq_true rfl, Nat.le_of_ble_eq_true rfl⟩ 0 0 ⟨rfl, rfl, Nat.le_of_ble_eq_true rfl, Nat.le_of_ble_eq_true rfl⟩ dX7_seek_114 (fun u H locs hp w => ?_)
  have w : Wd D A s.heap [(a4, .inl (cy 1, 1830, .inl (fillF (fun _ => 0) 2 20 (PP 20 2 (20 + 1 - 2))))), (a0, .inr (7, [.ref a1, .int 3, .int 2, .int (-1), .int (-1), .ref a2])), (a1, .inr (0, [.ref a3, .ref a4, .ref a5, .int 0, .int 190])), (a5, .inr (9, [.int 0, .int 2, .int 20, .int 120, .int 0, .int 0, .int 0, .int 0, .ref a9, .int 0, .ref a10, .ref a11, .int 0, .ref a12, .ref a13, .ref a14, .ref a15]))] _ _ := w
  refine r_top (g2 := F0 m 117 ls [.int 0]) rfl ?_
  refine b_if_eq_t C (tgt := 128) dX7_seek_117 (by decide) (by decide) ?_
  refine lv_aload_n C.1 C.2.1 dX7_seek_128 rfl (lv_at hl 1 rfl) ?_
  refine lv_aload_n C.1 C.2.1 dX7_seek_129 rfl (lv_at hl 1 rfl) ?_
  refine r_get C w 1 rfl rfl 1 (by decide) fl_RX7_46 (v := .int 3) rfl dX7_seek_130 ?_
  refine r_put C w 1 rfl rfl 2 (by decide) fl_RX7_9 rfl (ty := .int) (tyX7_ok 2 (by decide)) rfl rfl (Nat.le_of_ble_eq_true rfl) [(a4, .inl (cy 1, 1830, .inl (fillF (fun _ => 0) 2 20 (PP 20 2 (20 + 1 - 2))))), (a0, .inr (7, [.ref a1, .int 3, .int 3, .int (-1), .int (-1), .ref a2])), (a1, .inr (0, [.ref a3, .ref a4, .ref a5, .int 0, .int 190])), (a5, .inr (9, [.int 0, .int 2, .int 20, .int 120, .int 0, .int 0, .int 0, .int 0, .ref a9, .int 0, .ref a10, .ref a11, .int 0, .ref a12, .ref a13, .ref a14, .ref a15]))] rfl dX7_seek_133 (fun H locs w => ?_)
  refine lv_aload_n C.1 C.2.1 dX7_seek_136 rfl (lv_at hl 1 rfl) ?_
  refine lv_dup C.1 C.2.1 dX7_seek_137 rfl ?_
  refine r_get C w 1 rfl rfl 1 (by decide) fl_RX7_46 (v := .int 3) rfl dX7_seek_138 ?_
  refine lv_iconst (v := 1) C.1 C.2.1 dX7_seek_141 (by decide) ?_
  refine r_iadd C (v := 4) dX7_seek_142 (by decide) ?_
  refine r_put C w 1 rfl rfl 1 (by decide) fl_RX7_46 rfl (ty := .int) (tyX7_ok 1 (by decide)) rfl rfl (Nat.le_of_ble_eq_true rfl) [(a4, .inl (cy 1, 1830, .inl (fillF (fun _ => 0) 2 20 (PP 20 2 (20 + 1 - 2))))), (a0, .inr (7, [.ref a1, .int 4, .int 3, .int (-1), .int (-1), .ref a2])), (a1, .inr (0, [.ref a3, .ref a4, .ref a5, .int 0, .int 190])), (a5, .inr (9, [.int 0, .int 2, .int 20, .int 120, .int 0, .int 0, .int 0, .int 0, .ref a9, .int 0, .ref a10, .ref a11, .int 0, .ref a12, .ref a13, .ref a14, .ref a15]))] rfl dX7_seek_143 (fun H locs w => ?_)
  refine lv_goto (tgt := 85) C.1 C.2.1 dX7_seek_146 (by decide) ?_
  refine lv_aload_n C.1 C.2.1 dX7_seek_85 rfl (lv_at hl 1 rfl) ?_
  refine r_get C w 1 rfl rfl 1 (by decide) fl_RX7_46 (v := .int 4) rfl dX7_seek_86 ?_
  refine lv_iload_n C.1 C.2.1 dX7_seek_89 rfl (lv_at hl 2 rfl) ?_
  refine b_icmp_gt_f C (tgt := 149) dX7_seek_90 (by decide) k4 ?_
  refine lv_aload_n C.1 C.2.1 dX7_seek_93 rfl (lv_at hl 1 rfl) ?_
  refine r_get C w 1 rfl rfl 1 (by decide) fl_RX7_46 (v := .int 4) rfl dX7_seek_94 ?_
  refine lv_iconst (v := 4) C.1 C.2.1 dX7_seek_97 (by decide) ?_
  refine b_icmp_gt_f C (tgt := 149) dX7_seek_98 (by decide) (by decide) ?_
  refine lv_aload_n C.1 C.2.1 dX7_seek_101 rfl (lv_at hl 1 rfl) ?_
  refine r_get C w 1 rfl rfl 3 (by decide) fl_RX7_15 (v := .int (-1)) rfl dX7_seek_102 ?_
  refine lv_iconst (v := (-1)) C.1 C.2.1 dX7_seek_105 (by decide) ?_
  refine b_icmp_ne_f C (tgt := 149) dX7_seek_106 (by decide) (by decide) ?_
  refine lv_aload_n C.1 C.2.1 dX7_seek_109 rfl (lv_at hl 1 rfl) ?_
  refine lv_iconst (v := 0) C.1 C.2.1 dX7_seek_110 (by decide) ?_
  refine lv_iconst (v := 0) C.1 C.2.1 dX7_seek_111 (by decide) ?_
  refine lv_iload_n C.1 C.2.1 dX7_seek_112 rfl (lv_at hl 0 rfl) ?_
  refine lv_iconst (v := (-1)) C.1 C.2.1 dX7_seek_113 (by decide) ?_
  refine r_callV C w fv_RX7_49 (c_X7_single_3 l D cy a0 a1 a2 a3 a4 a5 a9 a10 a11 a12 a13 a14 a15) (hl.1.trans hml.symm) [1, 2, 3] [0] (wr := [(a4, .inl (cy 1, 1830, .inl (fillF (fun _ => 0) 2 20 (PP 20 2 (20 + 1 - 2)))))]) ⟨rfl, rfl, rfl, rfl, by decide⟩ 0 rfl rfl rfl rfl rfl ⟨Nat.le_of_ble_eq_true rfl, Nat.le_of_ble_eq_true rfl, Nat.le_of_ble_eq_true rfl⟩ 0 0 ⟨rfl, rfl, Nat.le_of_ble_eq_true rfl, Nat.le_of_ble_eq_true rfl⟩ dX7_seek_114 (fun u H locs hp w => ?_)
  have w : Wd D A s.heap [(a4, .inl (cy 1, 1830, .inl (fillF (fun _ => 0) 2 20 (PP 20 2 (20 + 1 - 2))))), (a0, .inr (7, [.ref a1, .int 4, .int 3, .int (-1), .int (-1), .ref a2])), (a1, .inr (0, [.ref a3, .ref a4, .ref a5, .int 0, .int 190])), (a5, .inr (9, [.int 0, .int 2, .int 20, .int 120, .int 0, .int 0, .int 0, .int 0, .ref a9, .int 0, .ref a10, .ref a11, .int 0, .ref a12, .ref a13, .ref a14, .ref a15]))] _ _ := w
  refine r_top (g2 := F0 m 117 ls [.int 0]) rfl ?_
  refine b_if_eq_t C (tgt := 128) dX7_seek_117 (by decide) (by decide) ?_
  refine lv_aload_n C.1 C.2.1 dX7_seek_128 rfl (lv_at hl 1 rfl) ?_
  refine lv_aload_n C.1 C.2.1 dX7_seek_129 rfl (lv_at hl 1 rfl) ?_
  refine r_get C w 1 rfl rfl 1 (by decide) fl_RX7_46 (v := .int 4) rfl dX7_seek_130 ?_
  refine r_put C w 1 rfl rfl 2 (by decide) fl_RX7_9 rfl (ty := .int) (tyX7_ok 2 (by decide)) rfl rfl (Nat.le_of_ble_eq_true rfl) [(a4, .inl (cy 1, 1830, .inl (fillF (fun _ => 0) 2 20 (PP 20 2 (20 + 1 - 2))))), (a0, .inr (7, [.ref a1, .int 4, .int 4, .int (-1), .int (-1), .ref a2])), (a1, .inr (0, [.ref a3, .ref a4, .ref a5, .int 0, .int 190])), (a5, .inr (9, [.int 0, .int 2, .int 20, .int 120, .int 0, .int 0, .int 0, .int 0, .ref a9, .int 0, .ref a10, .ref a11, .int 0, .ref a12, .ref a13, .ref a14, .ref a15]))] rfl dX7_seek_133 (fun H locs w => ?_)
  refine lv_aload_n C.1 C.2.1 dX7_seek_136 rfl (lv_at hl 1 rfl) ?_
  refine lv_dup C.1 C.2.1 dX7_seek_137 rfl ?_
  refine r_get C w 1 rfl rfl 1 (by decide) fl_RX7_46 (v := .int 4) rfl dX7_seek_138 ?_
  refine lv_iconst (v := 1) C.1 C.2.1 dX7_seek_141 (by decide) ?_
  refine r_iadd C (v := 5) dX7_seek_142 (by decide) ?_
  refine r_put C w 1 rfl rfl 1 (by decide) fl_RX7_46 rfl (ty := .int) (tyX7_ok 1 (by decide)) rfl rfl (Nat.le_of_ble_eq_true rfl) [(a4, .inl (cy 1, 1830, .inl (fillF (fun _ => 0) 2 20 (PP 20 2 (20 + 1 - 2))))), (a0, .inr (7, [.ref a1, .int 5, .int 4, .int (-1), .int (-1), .ref a2])), (a1, .inr (0, [.ref a3, .ref a4, .ref a5, .int 0, .int 190])), (a5, .inr (9, [.int 0, .int 2, .int 20, .int 120, .int 0, .int 0, .int 0, .int 0, .ref a9, .int 0, .ref a10, .ref a11, .int 0, .ref a12, .ref a13, .ref a14, .ref a15]))] rfl dX7_seek_143 (fun H locs w => ?_)
  refine lv_goto (tgt := 85) C.1 C.2.1 dX7_seek_146 (by decide) ?_
  refine lv_aload_n C.1 C.2.1 dX7_seek_85 rfl (lv_at hl 1 rfl) ?_
  refine r_get C w 1 rfl rfl 1 (by decide) fl_RX7_46 (v := .int 5) rfl dX7_seek_86 ?_
  refine lv_iload_n C.1 C.2.1 dX7_seek_89 rfl (lv_at hl 2 rfl) ?_
  refine b_icmp_gt_f C (tgt := 149) dX7_seek_90 (by decide) k5 ?_
  refine lv_aload_n C.1 C.2.1 dX7_seek_93 rfl (lv_at hl 1 rfl) ?_
  refine r_get C w 1 rfl rfl 1 (by decide) fl_RX7_46 (v := .int 5) rfl dX7_seek_94 ?_
  refine lv_iconst (v := 4) C.1 C.2.1 dX7_seek_97 (by decide) ?_
  refine b_icmp_gt_t C (tgt := 149) dX7_seek_98 (by decide) (by decide) ?_
  exact r_vret C w hlocks () hr rfl trivial [0, 1, 2, 3] rfl rfl ⟨Nat.le_of_ble_eq_true rfl, Nat.le_of_ble_eq_true rfl⟩ dX7_seek_149
theorem dX7_seek_16 : decode cX7_seek 16 = .ok (.return_, 1) := by decide +kernel
set_option maxRecDepth 100000 in
set_option maxHeartbeats 4000000 in
theorem c_X7_seek_6 (l : Launch) (D : va_G) (cy : Nat → ClassId) (a0 a1 a2 : Nat) (x0 : Int32) (k0 : ¬ (-1) < x0) : Ct l D cy yX7_seek cX7_seek 3 none 0 0 0 0 [(a0, .inr (7, [.ref a1, .int 0, .int (-1), .int (-1), .int (-1), .ref a2]))] [.ref a0, .int x0] (fun u : Unit => none) (fun _ => True) (fun u : Unit => [(a0, .inr (7, [.ref a1, .int 0, .int (-1), .int (-1), .int (-1), .ref a2]))]) := by
  refine Ct.of (by decide +kernel) (Nat.le_of_ble_eq_true rfl) ?_
  intro p e s m args below meth c A ls C hr hlocks hml hnm w hl
  have hl : lv_has ls 3 [(0, .ref a0), (1, .int x0)] := hl
  refine lv_aload_n C.1 C.2.1 dX7_seek_0 rfl (lv_at hl 0 rfl) ?_
  refine r_get C w 0 rfl rfl 3 (by decide) fl_RX7_15 (v := .int (-1)) rfl dX7_seek_1 ?_
  refine lv_iconst (v := (-1)) C.1 C.2.1 dX7_seek_4 (by decide) ?_
  refine b_icmp_ne_f C (tgt := 16) dX7_seek_5 (by decide) (by decide) ?_
  refine lv_aload_n C.1 C.2.1 dX7_seek_8 rfl (lv_at hl 0 rfl) ?_
  refine r_get C w 0 rfl rfl 2 (by decide) fl_RX7_9 (v := .int (-1)) rfl dX7_seek_9 ?_
  refine lv_iload_n C.1 C.2.1 dX7_seek_12 rfl (lv_at hl 1 rfl) ?_
  refine b_icmp_lt_f C (tgt := 17) dX7_seek_13 (by decide) k0 ?_
  exact r_vret C w hlocks () hr rfl trivial [0] rfl rfl ⟨Nat.le_of_ble_eq_true rfl, Nat.le_of_ble_eq_true rfl⟩ dX7_seek_16
set_option maxRecDepth 100000 in
set_option maxHeartbeats 4000000 in
theorem c_X7_seek_7 (l : Launch) (D : va_G) (cy : Nat → ClassId) (a0 a1 a2 a3 a4 a5 a9 a10 a11 a12 a13 a14 a15 : Nat) : Ct l D cy yX7_seek cX7_seek 3 none 3 78 0 0 [(a0, .inr (7, [.ref a1, .int 0, .int (-1), .int (-1), .int (-1), .ref a2])), (a1, .inr (0, [.ref a3, .ref a4, .ref a5, .int 0, .int 0])), (a4, .inl (cy 1, 1830, .inl (fun _ => 0))), (a5, .inr (9, [.int 0, .int 2, .int 20, .int 120, .int 0, .int 0, .int 0, .int 0, .ref a9, .int 0, .ref a10, .ref a11, .int 0, .ref a12, .ref a13, .ref a14, .ref a15]))] [.ref a0, .int 1] (fun u : Unit => none) (fun _ => True) (fun u : Unit => [(a4, .inl (cy 1, 1830, .inl (fillF (fun _ => 0) 2 20 (PP 20 2 (20 + 1 - 2))))), (a0, .inr (7, [.ref a1, .int 2, .int 1, .int (-1), .int (-1), .ref a2])), (a1, .inr (0, [.ref a3, .ref a4, .ref a5, .int 0, .int 190])), (a5, .inr (9, [.int 0, .int 2, .int 20, .int 120, .int 0, .int 0, .int 0, .int 0, .ref a9, .int 0, .ref a10, .ref a11, .int 0, .ref a12, .ref a13, .ref a14, .ref a15]))]) := by
  refine Ct.of (by decide +kernel) (Nat.le_of_ble_eq_true rfl) ?_
  intro p e s m args below meth c A ls C hr hlocks hml hnm w hl
  have hl : lv_has ls 3 [(0, .ref a0), (1, .int 1)] := hl
  refine lv_aload_n C.1 C.2.1 dX7_seek_0 rfl (lv_at hl 0 rfl) ?_
  refine r_get C w 0 rfl rfl 3 (by decide) fl_RX7_15 (v := .int (-1)) rfl dX7_seek_1 ?_
  refine lv_iconst (v := (-1)) C.1 C.2.1 dX7_seek_4 (by decide) ?_
  refine b_icmp_ne_f C (tgt := 16) dX7_seek_5 (by decide) (by decide) ?_
  refine lv_aload_n C.1 C.2.1 dX7_seek_8 rfl (lv_at hl 0 rfl) ?_
  refine r_get C w 0 rfl rfl 2 (by decide) fl_RX7_9 (v := .int (-1)) rfl dX7_seek_9 ?_
  refine lv_iload_n C.1 C.2.1 dX7_seek_12 rfl (lv_at hl 1 rfl) ?_
  refine b_icmp_lt_t C (tgt := 17) dX7_seek_13 (by decide) (by decide) ?_
  refine lv_aload_n C.1 C.2.1 dX7_seek_17 rfl (lv_at hl 0 rfl) ?_
  refine r_get C w 0 rfl rfl 0 (by decide) fl_RX7_25 (v := .ref a1) rfl dX7_seek_18 ?_
  refine r_callV C w fv_RX7_29 (c_X0_begin_0 l D cy a1 a3 a4 a5 a9 a10 a11 a12 a13 a14 a15) (hl.1.trans hml.symm) [1, 2, 3] [0] (wr := [(a0, .inr (7, [.ref a1, .int 0, .int (-1), .int (-1), .int (-1), .ref a2]))]) ⟨rfl, rfl, rfl, rfl, by decide⟩ 0 rfl rfl rfl rfl rfl ⟨Nat.le_of_ble_eq_true rfl, Nat.le_of_ble_eq_true rfl, Nat.le_of_ble_eq_true rfl⟩ 0 0 ⟨rfl, rfl, Nat.le_of_ble_eq_true rfl, Nat.le_of_ble_eq_true rfl⟩ dX7_seek_21 (fun u H locs hp w => ?_)
  have w : Wd D A s.heap [(a0, .inr (7, [.ref a1, .int 0, .int (-1), .int (-1), .int (-1), .ref a2])), (a1, .inr (0, [.ref a3, .ref a4, .ref a5, .int 0, .int 190])), (a4, .inl (cy 1, 1830, .inl (fillF (fun _ => 0) 2 20 (PP 20 2 (20 + 1 - 2))))), (a5, .inr (9, [.int 0, .int 2, .int 20, .int 120, .int 0, .int 0, .int 0, .int 0, .ref a9, .int 0, .ref a10, .ref a11, .int 0, .ref a12, .ref a13, .ref a14, .ref a15]))] _ _ := w
  refine r_top (g2 := F0 m 24 ls []) rfl ?_
  refine lv_aload_n C.1 C.2.1 dX7_seek_24 rfl (lv_at hl 0 rfl) ?_
  refine r_get C w 0 rfl rfl 0 (by decide) fl_RX7_25 (v := .ref a1) rfl dX7_seek_25 ?_
  refine r_get C w 1 rfl rfl 4 (by decide) fl_RX7_34 (v := .int 190) rfl dX7_seek_28 ?_
  refine lv_istore_n (lv' := [(2, .int 190), (0, .ref a0), (1, .int 1)]) C.1 C.2.1 dX7_seek_31 rfl hl (by decide) rfl (fun ls hl => ?_)
  refine lv_aload_n C.1 C.2.1 dX7_seek_32 rfl (lv_at hl 1 rfl) ?_
  refine r_get C w 0 rfl rfl 2 (by decide) fl_RX7_9 (v := .int (-1)) rfl dX7_seek_33 ?_
  refine lv_iconst (v := (-1)) C.1 C.2.1 dX7_seek_36 (by decide) ?_
  refine b_icmp_ne_f C (tgt := 63) dX7_seek_37 (by decide) (by decide) ?_
  refine lv_iload_n C.1 C.2.1 dX7_seek_40 rfl (lv_at hl 0 rfl) ?_
  refine lv_iconst (v := 1) C.1 C.2.1 dX7_seek_41 (by decide) ?_
  refine b_icmp_ne_t C (tgt := 63) dX7_seek_42 (by decide) (by decide) ?_
  refine lv_aload_n C.1 C.2.1 dX7_seek_63 rfl (lv_at hl 1 rfl) ?_
  refine lv_aload_n C.1 C.2.1 dX7_seek_64 rfl (lv_at hl 1 rfl) ?_
  refine r_get C w 0 rfl rfl 2 (by decide) fl_RX7_9 (v := .int (-1)) rfl dX7_seek_65 ?_
  refine lv_iconst (v := 0) C.1 C.2.1 dX7_seek_68 (by decide) ?_
  refine r_mmax C (hl.1.trans hml.symm) ml_RX7_40 st_max it_math cd_max (v := 0) (by decide) ⟨Nat.le_of_ble_eq_true rfl, Nat.le_of_ble_eq_true rfl, Nat.le_of_ble_eq_true rfl, Nat.le_of_ble_eq_true rfl⟩ dX7_seek_69 ?_
  refine r_put C w 0 rfl rfl 2 (by decide) fl_RX7_9 rfl (ty := .int) (tyX7_ok 2 (by decide)) rfl rfl (Nat.le_of_ble_eq_true rfl) [(a0, .inr (7, [.ref a1, .int 0, .int 0, .int (-1), .int (-1), .ref a2])), (a1, .inr (0, [.ref a3, .ref a4, .ref a5, .int 0, .int 190])), (a4, .inl (cy 1, 1830, .inl (fillF (fun _ => 0) 2 20 (PP 20 2 (20 + 1 - 2))))), (a5, .inr (9, [.int 0, .int 2, .int 20, .int 120, .int 0, .int 0, .int 0, .int 0, .ref a9, .int 0, .ref a10, .ref a11, .int 0, .ref a12, .ref a13, .ref a14, .ref a15]))] rfl dX7_seek_72 (fun H locs w => ?_)
  refine lv_aload_n C.1 C.2.1 dX7_seek_75 rfl (lv_at hl 1 rfl) ?_
  refine lv_aload_n C.1 C.2.1 dX7_seek_76 rfl (lv_at hl 1 rfl) ?_
  refine r_get C w 0 rfl rfl 2 (by decide) fl_RX7_9 (v := .int 0) rfl dX7_seek_77 ?_
  refine lv_iconst (v := 1) C.1 C.2.1 dX7_seek_80 (by decide) ?_
  refine r_iadd C (v := 1) dX7_seek_81 (by decide) ?_
  refine r_put C w 0 rfl rfl 1 (by decide) fl_RX7_46 rfl (ty := .int) (tyX7_ok 1 (by decide)) rfl rfl (Nat.le_of_ble_eq_true rfl) [(a0, .inr (7, [.ref a1, .int 1, .int 0, .int (-1), .int (-1), .ref a2])), (a1, .inr (0, [.ref a3, .ref a4, .ref a5, .int 0, .int 190])), (a4, .inl (cy 1, 1830, .inl (fillF (fun _ => 0) 2 20 (PP 20 2 (20 + 1 - 2))))), (a5, .inr (9, [.int 0, .int 2, .int 20, .int 120, .int 0, .int 0, .int 0, .int 0, .ref a9, .int 0, .ref a10, .ref a11, .int 0, .ref a12, .ref a13, .ref a14, .ref a15]))] rfl dX7_seek_82 (fun H locs w => ?_)
  refine lv_aload_n C.1 C.2.1 dX7_seek_85 rfl (lv_at hl 1 rfl) ?_
  refine r_get C w 0 rfl rfl 1 (by decide) fl_RX7_46 (v := .int 1) rfl dX7_seek_86 ?_
  refine lv_iload_n C.1 C.2.1 dX7_seek_89 rfl (lv_at hl 2 rfl) ?_
  refine b_icmp_gt_f C (tgt := 149) dX7_seek_90 (by decide) (by decide) ?_
  refine lv_aload_n C.1 C.2.1 dX7_seek_93 rfl (lv_at hl 1 rfl) ?_
  refine r_get C w 0 rfl rfl 1 (by decide) fl_RX7_46 (v := .int 1) rfl dX7_seek_94 ?_
  refine lv_iconst (v := 4) C.1 C.2.1 dX7_seek_97 (by decide) ?_
  refine b_icmp_gt_f C (tgt := 149) dX7_seek_98 (by decide) (by decide) ?_
  refine lv_aload_n C.1 C.2.1 dX7_seek_101 rfl (lv_at hl 1 rfl) ?_
  refine r_get C w 0 rfl rfl 3 (by decide) fl_RX7_15 (v := .int (-1)) rfl dX7_seek_102 ?_
  refine lv_iconst (v := (-1)) C.1 C.2.1 dX7_seek_105 (by decide) ?_
  refine b_icmp_ne_f C (tgt := 149) dX7_seek_106 (by decide) (by decide) ?_
  refine lv_aload_n C.1 C.2.1 dX7_seek_109 rfl (lv_at hl 1 rfl) ?_
  refine lv_iconst (v := 0) C.1 C.2.1 dX7_seek_110 (by decide) ?_
  refine lv_iconst (v := 0) C.1 C.2.1 dX7_seek_111 (by decide) ?_
  refine lv_iload_n C.1 C.2.1 dX7_seek_112 rfl (lv_at hl 0 rfl) ?_
  refine lv_iconst (v := (-1)) C.1 C.2.1 dX7_seek_113 (by decide) ?_
  refine r_callV C w fv_RX7_49 (c_X7_single_0 l D cy a0 a1 a2 a3 a4 a5 a9 a10 a11 a12 a13 a14 a15) (hl.1.trans hml.symm) [0, 1, 3] [2] (wr := [(a4, .inl (cy 1, 1830, .inl (fillF (fun _ => 0) 2 20 (PP 20 2 (20 + 1 - 2)))))]) ⟨rfl, rfl, rfl, rfl, by decide⟩ 0 rfl rfl rfl rfl rfl ⟨Nat.le_of_ble_eq_true rfl, Nat.le_of_ble_eq_true rfl, Nat.le_of_ble_eq_true rfl⟩ 0 0 ⟨rfl, rfl, Nat.le_of_ble_eq_true rfl, Nat.le_of_ble_eq_true rfl⟩ dX7_seek_114 (fun u H locs hp w => ?_)
  have w : Wd D A s.heap [(a4, .inl (cy 1, 1830, .inl (fillF (fun _ => 0) 2 20 (PP 20 2 (20 + 1 - 2))))), (a0, .inr (7, [.ref a1, .int 1, .int 0, .int (-1), .int (-1), .ref a2])), (a1, .inr (0, [.ref a3, .ref a4, .ref a5, .int 0, .int 190])), (a5, .inr (9, [.int 0, .int 2, .int 20, .int 120, .int 0, .int 0, .int 0, .int 0, .ref a9, .int 0, .ref a10, .ref a11, .int 0, .ref a12, .ref a13, .ref a14, .ref a15]))] _ _ := w
  refine r_top (g2 := F0 m 117 ls [.int 0]) rfl ?_
  refine b_if_eq_t C (tgt := 128) dX7_seek_117 (by decide) (by decide) ?_
  refine lv_aload_n C.1 C.2.1 dX7_seek_128 rfl (lv_at hl 1 rfl) ?_
  refine lv_aload_n C.1 C.2.1 dX7_seek_129 rfl (lv_at hl 1 rfl) ?_
  refine r_get C w 1 rfl rfl 1 (by decide) fl_RX7_46 (v := .int 1) rfl dX7_seek_130 ?_
  refine r_put C w 1 rfl rfl 2 (by decide) fl_RX7_9 rfl (ty := .int) (tyX7_ok 2 (by decide)) rfl rfl (Nat.le_of_ble_eq_true rfl) [(a4, .inl (cy 1, 1830, .inl (fillF (fun _ => 0) 2 20 (PP 20 2 (20 + 1 - 2))))), (a0, .inr (7, [.ref a1, .int 1, .int 1, .int (-1), .int (-1), .ref a2])), (a1, .inr (0, [.ref a3, .ref a4, .ref a5, .int 0, .int 190])), (a5, .inr (9, [.int 0, .int 2, .int 20, .int 120, .int 0, .int 0, .int 0, .int 0, .ref a9, .int 0, .ref a10, .ref a11, .int 0, .ref a12, .ref a13, .ref a14, .ref a15]))] rfl dX7_seek_133 (fun H locs w => ?_)
  refine lv_aload_n C.1 C.2.1 dX7_seek_136 rfl (lv_at hl 1 rfl) ?_
  refine lv_dup C.1 C.2.1 dX7_seek_137 rfl ?_
  refine r_get C w 1 rfl rfl 1 (by decide) fl_RX7_46 (v := .int 1) rfl dX7_seek_138 ?_
  refine lv_iconst (v := 1) C.1 C.2.1 dX7_seek_141 (by decide) ?_
  refine r_iadd C (v := 2) dX7_seek_142 (by decide) ?_
  refine r_put C w 1 rfl rfl 1 (by decide) fl_RX7_46 rfl (ty := .int) (tyX7_ok 1 (by decide)) rfl rfl (Nat.le_of_ble_eq_true rfl) [(a4, .inl (cy 1, 1830, .inl (fillF (fun _ => 0) 2 20 (PP 20 2 (20 + 1 - 2))))), (a0, .inr (7, [.ref a1, .int 2, .int 1, .int (-1), .int (-1), .ref a2])), (a1, .inr (0, [.ref a3, .ref a4, .ref a5, .int 0, .int 190])), (a5, .inr (9, [.int 0, .int 2, .int 20, .int 120, .int 0, .int 0, .int 0, .int 0, .ref a9, .int 0, .ref a10, .ref a11, .int 0, .ref a12, .ref a13, .ref a14, .ref a15]))] rfl dX7_seek_143 (fun H locs w => ?_)
  refine lv_goto (tgt := 85) C.1 C.2.1 dX7_seek_146 (by decide) ?_
  refine lv_aload_n C.1 C.2.1 dX7_seek_85 rfl (lv_at hl 1 rfl) ?_
  refine r_get C w 1 rfl rfl 1 (by decide) fl_RX7_46 (v := .int 2) rfl dX7_seek_86 ?_
  refine lv_iload_n C.1 C.2.1 dX7_seek_89 rfl (lv_at hl 2 rfl) ?_
  refine b_icmp_gt_t C (tgt := 149) dX7_seek_90 (by decide) (by decide) ?_
  exact r_vret C w hlocks () hr rfl trivial [0, 1, 2, 3] rfl rfl ⟨Nat.le_of_ble_eq_true rfl, Nat.le_of_ble_eq_true rfl⟩ dX7_seek_149
theorem fv_RX11_262 : FV RX11 262 yX7_seek cX7_seek 3 none 1 := ⟨⟨gw_mem (by decide +kernel) (by decide +kernel), gw_mem (by decide +kernel) (by decide +kernel), gw_mem (by decide +kernel) (by decide +kernel), gw_mem (by decide +kernel) (by decide +kernel), gw_mem (by decide +kernel) (by decide +kernel)⟩, ⟨by decide +kernel, by decide +kernel, by decide +kernel⟩⟩
theorem dX11_shortest_73 : decode cX11_shortest 73 = .ok (.aload 5, 2) := by decide +kernel
theorem fl_RX11_264 : Cond.fieldLink RX11 264 "TwoSlips$Shortest" "turns" "I" ∈ gw := gw_mem (by decide +kernel) (by decide +kernel)
theorem dX11_shortest_75 : decode cX11_shortest 75 = .ok (.getfield 264, 3) := by decide +kernel
theorem dX11_shortest_78 : decode cX11_shortest 78 = .ok (.iconst (-1), 1) := by decide +kernel
theorem dX11_shortest_79 : decode cX11_shortest 79 = .ok (.if_icmp .eq 12, 3) := by decide +kernel
theorem dX11_shortest_91 : decode cX11_shortest 91 = .ok (.iconst (-1), 1) := by decide +kernel
theorem dX11_shortest_92 : decode cX11_shortest 92 = .ok (.ireturn, 1) := by decide +kernel
set_option maxRecDepth 100000 in
set_option maxHeartbeats 4000000 in
theorem c_X11_shortest_2 (l : Launch) (D : va_G) (cy : Nat → ClassId) (a0 a1 a2 a3 a4 a5 a6 a11 a12 a13 a14 a15 a16 a17 : Nat) : Ct l D cy yX11_shortest cX11_shortest 6 (some .int) 5 118 36 23817 [(a0, .inr (11, [.ref a1, .int 0, .int 0, .int (-1), .ref a2, .ref a3, .ref a4, .ref a5, .ref a6, .null])), (a6, .inr (9, [.int 0, .int 2, .int 20, .int 120, .int 0, .int 0, .int 0, .int 0, .ref a11, .int 0, .ref a12, .ref a13, .int 0, .ref a14, .ref a15, .ref a16, .ref a17]))] [.ref a0, .int 1, .int 0] (fun u : Nat × Nat × Nat × Nat × Nat × Nat × Nat × Nat × Nat × Nat × Nat × Nat × Nat × Nat × Nat × Nat × Nat × Nat × Nat × Nat × Nat × Nat × Nat × Nat × Nat × Nat × Nat × Nat × Nat × Nat × Nat × Nat × Nat × Nat × Nat × Nat => some (.int (-1))) (fun _ => True) (fun u : Nat × Nat × Nat × Nat × Nat × Nat × Nat × Nat × Nat × Nat × Nat × Nat × Nat × Nat × Nat × Nat × Nat × Nat × Nat × Nat × Nat × Nat × Nat × Nat × Nat × Nat × Nat × Nat × Nat × Nat × Nat × Nat × Nat × Nat × Nat × Nat => [(a0, .inr (11, [.ref a1, .int 0, .int 0, .int (-1), .ref a2, .ref a3, .ref a4, .ref a5, .ref a6, .ref u.1])), (u.2.2.2.2.1, .inl (cy 1, 0, .inl (fun _ => 0))), (u.2.2.2.2.2.2.2.1, .inl (cy 1, 0, .inl (fun _ => 0))), (u.2.2.2.2.2.2.2.2.1, .inl (cy 1, 0, .inl (fun _ => 0))), (u.2.2.2.2.2.2.2.2.2.1, .inl (cy 1, 0, .inl (fun _ => 0))), (u.2.2.2.2.2.2.2.2.2.2.1, .inl (cy 1, 0, .inl (fun _ => 0))), (u.2.2.2.2.2.2.2.2.2.2.2.1, .inl (cy 1, 0, .inl (fun _ => 0))), (u.2.2.2.2.2.2.2.2.2.2.2.2.1, .inl (cy 1, 7201, .inl (fun _ => 0))), (u.2.2.2.2.2.2.2.2.2.2.2.2.2.1, .inl (cy 1, 1830, .inl (fun _ => 0))), (u.2.2.2.2.2.2.2.2.2.2.2.2.2.2.2.2.1, .inl (cy 1, 1830, .inl (fun _ => 0))), (u.2.2.2.2.2.2.2.2.2.2.2.2.2.2.2.2.2.2.1, .inl (cy 1, 1830, .inl (fun _ => 0))), (u.2.2.2.2.2.2.2.2.2.2.2.2.2.2.2.2.2.1, .inr (2, [.ref u.2.1, .ref u.2.2.2.2.2.2.2.2.2.2.2.2.2.2.2.2.2.2.1, .ref u.2.2.2.2.2.2.2.2.2.2.2.2.2.2.2.2.2.2.2.1, .ref a6, .int 0])), (u.2.2.2.2.2.2.2.2.2.2.2.2.2.2.2.2.2.2.2.1, .inl (cy 1, 21, .inl (fun _ => 0))), (u.2.2.2.2.2.2.2.2.2.2.2.2.2.2.2.2.2.2.2.2.2.1, .inr (2, [.ref u.2.1, .ref u.2.2.2.2.2.2.2.2.2.2.2.2.2.2.1, .ref u.2.2.2.2.2.2.2.2.2.2.2.2.2.2.2.2.2.2.2.2.2.2.1, .ref a6, .int 0])), (u.2.2.2.2.2.2.2.2.2.2.2.2.2.2.2.2.2.2.2.2.2.2.1, .inl (cy 1, 21, .inl (fun _ => 0))), (u.2.2.2.2.2.2.2.2.2.2.2.2.2.2.2.2.2.2.2.2.2.2.2.2.1, .inl (cy 1, 6, .inl (fun _ => 0))), (u.2.2.2.2.2.2.2.2.2.2.2.2.2.2.2.2.2.2.2.2.2.2.2.2.2.1, .inl (cy 1, 6, .inl (fun _ => 0))), (u.2.2.2.2.2.2.2.2.2.2.2.2.2.2.2.2.2.2.2.2.2.2.2.2.2.2.2.1, .inl (cy 1, 1830, .inl (fun _ => 0))), (u.2.2.2.2.2.2.2.2.2.2.2.2.2.2.2.2.2.2.2.2.2.2.2.2.2.2.2.2.2.2.1, .inl (cy 1, 5, .inl (fun _ => 0))), (u.2.2.2.2.2.2.2.2.2.2.2.2.2.2.2.2.2.2.2.2.2.2.2.2.2.2.2.2.2.2.2.2.1, .inl (cy 1, 4, .inl (fun _ => 0))), (u.1, .inr (6, [.ref u.2.1, .ref u.2.2.2.2.2.2.2.2.2.2.2.2.2.2.2.1, .int 190, .ref u.2.2.2.2.2.2.2.2.2.2.2.2.2.2.2.2.1, .ref u.2.2.2.2.2.2.2.2.2.2.2.2.2.2.2.2.2.2.2.2.1, .ref u.2.2.2.2.2.2.2.2.2.2.2.2.2.2.2.2.2.2.2.2.2.2.2.2.2.2.1, .ref u.2.2.2.2.2.2.2.2.2.2.2.2.2.2.2.2.2.2.2.2.2.2.2.2.2.2.2.2.1, .ref u.2.2.2.2.2.2.2.2.2.2.2.2.2.2.2.2.2.2.2.2.2.2.2.2.2.2.2.2.2.1, .ref u.2.2.2.2.2.2.2.2.2.2.2.2.2.2.2.2.2.2.2.2.2.2.2.2.2.2.2.2.2.2.2.1, .ref u.2.2.2.2.2.2.2.2.2.2.2.2.2.2.2.2.2.1, .ref a6, .int 1, .int 0])), (u.2.2.2.2.2.2.2.2.2.2.2.2.2.2.2.1, .inl (cy 1, 1830, .inl (fillF (fun _ => 0) 2 20 (PP 20 2 (20 + 1 - 2))))), (u.2.2.2.1, .inl (cy 1, 0, .inl (fun _ => 0))), (u.2.2.2.2.2.2.2.2.2.2.2.2.2.2.2.2.2.2.2.2.2.2.2.2.2.2.2.2.2.2.2.2.2.1, .inl (cy 1, 1830, .inl (learnF 0 1830))), (u.2.2.2.2.2.1, .inl (cy 1, 0, .inl (fun _ => 0))), (u.2.2.2.2.2.2.2.2.2.2.2.2.2.2.2.2.2.2.2.2.2.2.2.2.2.2.2.2.2.2.2.2.2.2.1, .inl (cy 1, 1830, .inl (learnF 2 1830))), (u.2.1, .inr (4, [.ref u.2.2.1, .ref u.2.2.2.2.2.2.2.2.2.2.2.2.1, .int 0, .ref u.2.2.2.2.2.2.2.2.2.2.2.2.2.1])), (u.2.2.1, .inl (cy 5, 9, .inr (.inr (.inr (.inr (va_up (va_up (va_up (va_up (va_up (va_up (va_up (va_up (va_up (va_up (va_up (va_up (fun _ => none) 0 (some u.2.2.2.1)) 1 (some u.2.2.2.2.1)) 2 (some u.2.2.2.2.2.1)) 3 (some u.2.2.2.2.2.2.1)) 4 (some u.2.2.2.2.2.2.2.1)) 5 (some u.2.2.2.2.2.2.2.2.1)) 6 (some u.2.2.2.2.2.2.2.2.2.1)) 7 (some u.2.2.2.2.2.2.2.2.2.2.1)) 8 (some u.2.2.2.2.2.2.2.2.2.2.2.1)) 0 (some u.2.2.2.2.2.2.2.2.2.2.2.2.2.2.2.2.2.2.2.2.2.2.2.2.2.2.2.2.2.2.2.2.2.1)) 2 (some u.2.2.2.2.2.2.2.2.2.2.2.2.2.2.2.2.2.2.2.2.2.2.2.2.2.2.2.2.2.2.2.2.2.2.1)) 3 (some u.2.2.2.2.2.2.2.2.2.2.2.2.2.2.2.2.2.2.2.2.2.2.2.2.2.2.2.2.2.2.2.2.2.2.2))))))), (u.2.2.2.2.2.2.1, .inl (cy 1, 0, .inl (fun _ => 0))), (u.2.2.2.2.2.2.2.2.2.2.2.2.2.2.2.2.2.2.2.2.2.2.2.2.2.2.2.2.2.2.2.2.2.2.2, .inl (cy 1, 1830, .inl (learnF 3 1830))), (u.2.2.2.2.2.2.2.2.2.2.2.2.2.2.2.2.2.2.2.2.1, .inr (1, [.ref u.2.2.2.2.2.2.2.2.2.2.2.2.2.2.2.2.2.2.2.2.2.1, .ref a6, .int (-2), .int (-2), .ref u.2.2.2.2.2.2.2.2.2.2.2.2.2.2.2.2.2.2.2.2.2.2.2.1, .int 0, .int 0, .int 0, .int 0, .int (-1), .int 0, .ref u.2.2.2.2.2.2.2.2.2.2.2.2.2.2.2.2.2.2.2.2.2.2.2.2.1, .ref u.2.2.2.2.2.2.2.2.2.2.2.2.2.2.2.2.2.2.2.2.2.2.2.2.2.1])), (u.2.2.2.2.2.2.2.2.2.2.2.2.2.2.2.2.2.2.2.2.2.2.2.1, .inl (cy 1, 6, .inl (upd (upd (upd (upd (upd (upd (fun _ => 0) 0 (-2)) 1 (-2)) 2 (-2)) 3 (-2)) 4 (-2)) 5 (-2)))), (u.2.2.2.2.2.2.2.2.2.2.2.2.2.2.2.2.2.2.2.2.2.2.2.2.2.2.1, .inr (3, [.ref u.2.1, .ref u.2.2.2.2.2.2.2.2.2.2.2.2.2.2.1, .ref a6, .int (-1), .int (-1), .ref u.2.2.2.2.2.2.2.2.2.2.2.2.2.2.2.2.2.2.2.2.2.2.2.2.2.2.2.1, .int 0, .int 0, .int 0])), (u.2.2.2.2.2.2.2.2.2.2.2.2.2.2.2.2.2.2.2.2.2.2.2.2.2.2.2.2.2.1, .inr (8, [.ref u.2.2.2.2.2.2.2.2.2.2.2.2.2.2.2.2.2.2.2.2.2.2.2.2.2.2.2.2.1, .int (-1), .int 0, .int 0, .int 0, .int 0, .int 0, .ref u.2.2.2.2.2.2.2.2.2.2.2.2.2.2.2.2.2.2.2.2.2.2.2.2.2.2.2.2.2.2.1])), (u.2.2.2.2.2.2.2.2.2.2.2.2.2.2.1, .inl (cy 1, 1830, .inl (fillF (fun _ => 0) 2 20 (PP 20 2 (20 + 1 - 2))))), (u.2.2.2.2.2.2.2.2.2.2.2.2.2.2.2.2.2.2.2.2.2.2.2.2.2.2.2.2.2.2.2.1, .inr (7, [.ref u.2.2.2.2.2.2.2.2.2.2.2.2.2.2.2.2.2.2.2.2.2.2.2.2.2.2.2.2.1, .int 2, .int 1, .int (-1), .int (-1), .ref u.2.2.2.2.2.2.2.2.2.2.2.2.2.2.2.2.2.2.2.2.2.2.2.2.2.2.2.2.2.2.2.2.1])), (u.2.2.2.2.2.2.2.2.2.2.2.2.2.2.2.2.2.2.2.2.2.2.2.2.2.2.2.2.1, .inr (0, [.ref u.2.1, .ref u.2.2.2.2.2.2.2.2.2.2.2.2.2.2.1, .ref a6, .int 0, .int 190])), (a6, .inr (9, [.int 0, .int 2, .int 20, .int 120, .int 0, .int 0, .int 0, .int 0, .ref a11, .int 0, .ref a12, .ref a13, .int 0, .ref a14, .ref a15, .ref a16, .ref a17]))]) := by
  refine Ct.of (by decide +kernel) (Nat.le_of_ble_eq_true rfl) ?_
  intro p e s m args below meth c A ls C hr hlocks hml hnm w hl
  have hl : lv_has ls 6 [(0, .ref a0), (1, .int 1), (2, .int 0)] := hl
  refine lv_iload_n C.1 C.2.1 dX11_shortest_0 rfl (lv_at hl 2 rfl) ?_
  refine lv_bipush (v := 10) C.1 C.2.1 dX11_shortest_1 (by decide) ?_
  refine r_isub C (v := (-10)) dX11_shortest_3 (by decide) ?_
  refine lv_istore_n (lv' := [(3, .int (-10)), (0, .ref a0), (1, .int 1), (2, .int 0)]) C.1 C.2.1 dX11_shortest_4 rfl hl (by decide) rfl (fun ls hl => ?_)
  refine lv_iload_n C.1 C.2.1 dX11_shortest_5 rfl (lv_at hl 3 rfl) ?_
  refine lv_bipush (v := 10) C.1 C.2.1 dX11_shortest_6 (by decide) ?_
  refine b_icmp_lt_t C (tgt := 20) dX11_shortest_8 (by decide) (by decide) ?_
  refine lv_iconst (v := 0) C.1 C.2.1 dX11_shortest_20 (by decide) ?_
  refine lv_istore (lv' := [(4, .int 0), (3, .int (-10)), (0, .ref a0), (1, .int 1), (2, .int 0)]) C.1 C.2.1 dX11_shortest_21 hl (by decide) rfl (fun ls hl => ?_)
  refine lv_iload_n C.1 C.2.1 dX11_shortest_23 rfl (lv_at hl 3 rfl) ?_
  refine lv_iconst (v := 1) C.1 C.2.1 dX11_shortest_24 (by decide) ?_
  refine b_icmp_lt_f C (tgt := 47) dX11_shortest_25 (by decide) (by decide) ?_
  refine lv_iload_n C.1 C.2.1 dX11_shortest_28 rfl (lv_at hl 3 rfl) ?_
  refine lv_iconst (v := 4) C.1 C.2.1 dX11_shortest_29 (by decide) ?_
  refine b_icmp_gt_f C (tgt := 47) dX11_shortest_30 (by decide) (by decide) ?_
  refine lv_iload_n C.1 C.2.1 dX11_shortest_33 rfl (lv_at hl 4 rfl) ?_
  refine b_if_eq_t C (tgt := 58) dX11_shortest_34 (by decide) (by decide) ?_
  refine lv_aload_n C.1 C.2.1 dX11_shortest_58 rfl (lv_at hl 2 rfl) ?_
  refine r_callV C w fv_RX11_100 (c_X11_view_0 l D cy a0 a1 a2 a3 a4 a5 a6 a11 a12 a13 a14 a15 a16 a17) (hl.1.trans hml.symm) [0, 1] [] (wr := []) ⟨rfl, rfl, rfl, rfl, by decide⟩ 0 rfl rfl rfl rfl rfl ⟨Nat.le_of_ble_eq_true rfl, Nat.le_of_ble_eq_true rfl, Nat.le_of_ble_eq_true rfl⟩ 36 23817 ⟨rfl, rfl, Nat.le_of_ble_eq_true rfl, Nat.le_of_ble_eq_true rfl⟩ dX11_shortest_59 (fun u H locs hp w => ?_)
  obtain ⟨n1, n2, n3, n4, n5, n6, n7, n8, n9, n10, n11, n12, n13, n14, n15, n16, n17, n18, n19, n20, n21, n22, n23, n24, n25, n26, n27, n28, n29, n30, n31, n32, n33, n34, n35, n36⟩ := u
  have w : Wd D A s.heap [(a0, .inr (11, [.ref a1, .int 0, .int 0, .int (-1), .ref a2, .ref a3, .ref a4, .ref a5, .ref a6, .ref n1])), (n5, .inl (cy 1, 0, .inl (fun _ => 0))), (n8, .inl (cy 1, 0, .inl (fun _ => 0))), (n9, .inl (cy 1, 0, .inl (fun _ => 0))), (n10, .inl (cy 1, 0, .inl (fun _ => 0))), (n11, .inl (cy 1, 0, .inl (fun _ => 0))), (n12, .inl (cy 1, 0, .inl (fun _ => 0))), (n13, .inl (cy 1, 7201, .inl (fun _ => 0))), (n14, .inl (cy 1, 1830, .inl (fun _ => 0))), (n15, .inl (cy 1, 1830, .inl (fun _ => 0))), (n17, .inl (cy 1, 1830, .inl (fun _ => 0))), (n19, .inl (cy 1, 1830, .inl (fun _ => 0))), (n18, .inr (2, [.ref n2, .ref n19, .ref n20, .ref a6, .int 0])), (n20, .inl (cy 1, 21, .inl (fun _ => 0))), (n22, .inr (2, [.ref n2, .ref n15, .ref n23, .ref a6, .int 0])), (n23, .inl (cy 1, 21, .inl (fun _ => 0))), (n25, .inl (cy 1, 6, .inl (fun _ => 0))), (n26, .inl (cy 1, 6, .inl (fun _ => 0))), (n28, .inl (cy 1, 1830, .inl (fun _ => 0))), (n31, .inl (cy 1, 5, .inl (fun _ => 0))), (n33, .inl (cy 1, 4, .inl (fun _ => 0))), (n1, .inr (6, [.ref n2, .ref n16, .int 190, .ref n17, .ref n21, .ref n27, .ref n29, .ref n30, .ref n32, .ref n18, .ref a6, .int 1, .int 0])), (n16, .inl (cy 1, 1830, .inl (fillF (fun _ => 0) 2 20 (PP 20 2 (20 + 1 - 2))))), (a6, .inr (9, [.int 0, .int 2, .int 20, .int 120, .int 0, .int 0, .int 0, .int 0, .ref a11, .int 0, .ref a12, .ref a13, .int 0, .ref a14, .ref a15, .ref a16, .ref a17])), (n4, .inl (cy 1, 0, .inl (fun _ => 0))), (n34, .inl (cy 1, 1830, .inl (learnF 0 1830))), (n6, .inl (cy 1, 0, .inl (fun _ => 0))), (n35, .inl (cy 1, 1830, .inl (learnF 2 1830))), (n2, .inr (4, [.ref n3, .ref n13, .int 0, .ref n14])), (n3, .inl (cy 5, 9, .inr (.inr (.inr (.inr (va_up (va_up (va_up (va_up (va_up (va_up (va_up (va_up (va_up (va_up (va_up (va_up (fun _ => none) 0 (some n4)) 1 (some n5)) 2 (some n6)) 3 (some n7)) 4 (some n8)) 5 (some n9)) 6 (some n10)) 7 (some n11)) 8 (some n12)) 0 (some n34)) 2 (some n35)) 3 (some n36))))))), (n7, .inl (cy 1, 0, .inl (fun _ => 0))), (n36, .inl (cy 1, 1830, .inl (learnF 3 1830))), (n21, .inr (1, [.ref n22, .ref a6, .int (-2), .int (-2), .ref n24, .int 0, .int 0, .int 0, .int 0, .int (-1), .int 0, .ref n25, .ref n26])), (n24, .inl (cy 1, 6, .inl (upd (upd (upd (upd (upd (upd (fun _ => 0) 0 (-2)) 1 (-2)) 2 (-2)) 3 (-2)) 4 (-2)) 5 (-2)))), (n27, .inr (3, [.ref n2, .ref n15, .ref a6, .int (-1), .int (-1), .ref n28, .int 0, .int 0, .int 0])), (n29, .inr (0, [.ref n2, .ref n15, .ref a6, .int 0, .int 0])), (n30, .inr (8, [.ref n29, .int (-1), .int 0, .int 0, .int 0, .int 0, .int 0, .ref n31])), (n32, .inr (7, [.ref n29, .int 0, .int (-1), .int (-1), .int (-1), .ref n33]))] _ _ := w
  refine r_top (g2 := F0 m 62 ls [.ref n1]) rfl ?_
  refine r_get C w 21 rfl rfl 8 (by decide) fl_RX11_258 (v := .ref n32) rfl dX11_shortest_62 ?_
  refine lv_astore (lv' := [(5, .ref n32), (4, .int 0), (3, .int (-10)), (0, .ref a0), (1, .int 1), (2, .int 0)]) C.1 C.2.1 dX11_shortest_65 hl (by decide) rfl (fun ls hl => ?_)
  refine lv_aload C.1 C.2.1 dX11_shortest_67 (lv_at hl 0 rfl) ?_
  refine lv_iload_n C.1 C.2.1 dX11_shortest_69 rfl (lv_at hl 4 rfl) ?_
  refine r_callV C w fv_RX11_262 (c_X7_seek_7 l D cy n32 n29 n33 n2 n15 a6 a11 a12 a13 a14 a15 a16 a17) (hl.1.trans hml.symm) [37, 35, 9, 23] [0, 1, 2, 3, 4, 5, 6, 7, 8, 10, 11, 12, 13, 14, 15, 16, 17, 18, 19, 20, 21, 22, 24, 25, 26, 27, 28, 29, 30, 31, 32, 33, 34, 36] (wr := [(a0, .inr (11, [.ref a1, .int 0, .int 0, .int (-1), .ref a2, .ref a3, .ref a4, .ref a5, .ref a6, .ref n1])), (n5, .inl (cy 1, 0, .inl (fun _ => 0))), (n8, .inl (cy 1, 0, .inl (fun _ => 0))), (n9, .inl (cy 1, 0, .inl (fun _ => 0))), (n10, .inl (cy 1, 0, .inl (fun _ => 0))), (n11, .inl (cy 1, 0, .inl (fun _ => 0))), (n12, .inl (cy 1, 0, .inl (fun _ => 0))), (n13, .inl (cy 1, 7201, .inl (fun _ => 0))), (n14, .inl (cy 1, 1830, .inl (fun _ => 0))), (n17, .inl (cy 1, 1830, .inl (fun _ => 0))), (n19, .inl (cy 1, 1830, .inl (fun _ => 0))), (n18, .inr (2, [.ref n2, .ref n19, .ref n20, .ref a6, .int 0])), (n20, .inl (cy 1, 21, .inl (fun _ => 0))), (n22, .inr (2, [.ref n2, .ref n15, .ref n23, .ref a6, .int 0])), (n23, .inl (cy 1, 21, .inl (fun _ => 0))), (n25, .inl (cy 1, 6, .inl (fun _ => 0))), (n26, .inl (cy 1, 6, .inl (fun _ => 0))), (n28, .inl (cy 1, 1830, .inl (fun _ => 0))), (n31, .inl (cy 1, 5, .inl (fun _ => 0))), (n33, .inl (cy 1, 4, .inl (fun _ => 0))), (n1, .inr (6, [.ref n2, .ref n16, .int 190, .ref n17, .ref n21, .ref n27, .ref n29, .ref n30, .ref n32, .ref n18, .ref a6, .int 1, .int 0])), (n16, .inl (cy 1, 1830, .inl (fillF (fun _ => 0) 2 20 (PP 20 2 (20 + 1 - 2))))), (n4, .inl (cy 1, 0, .inl (fun _ => 0))), (n34, .inl (cy 1, 1830, .inl (learnF 0 1830))), (n6, .inl (cy 1, 0, .inl (fun _ => 0))), (n35, .inl (cy 1, 1830, .inl (learnF 2 1830))), (n2, .inr (4, [.ref n3, .ref n13, .int 0, .ref n14])), (n3, .inl (cy 5, 9, .inr (.inr (.inr (.inr (va_up (va_up (va_up (va_up (va_up (va_up (va_up (va_up (va_up (va_up (va_up (va_up (fun _ => none) 0 (some n4)) 1 (some n5)) 2 (some n6)) 3 (some n7)) 4 (some n8)) 5 (some n9)) 6 (some n10)) 7 (some n11)) 8 (some n12)) 0 (some n34)) 2 (some n35)) 3 (some n36))))))), (n7, .inl (cy 1, 0, .inl (fun _ => 0))), (n36, .inl (cy 1, 1830, .inl (learnF 3 1830))), (n21, .inr (1, [.ref n22, .ref a6, .int (-2), .int (-2), .ref n24, .int 0, .int 0, .int 0, .int 0, .int (-1), .int 0, .ref n25, .ref n26])), (n24, .inl (cy 1, 6, .inl (upd (upd (upd (upd (upd (upd (fun _ => 0) 0 (-2)) 1 (-2)) 2 (-2)) 3 (-2)) 4 (-2)) 5 (-2)))), (n27, .inr (3, [.ref n2, .ref n15, .ref a6, .int (-1), .int (-1), .ref n28, .int 0, .int 0, .int 0])), (n30, .inr (8, [.ref n29, .int (-1), .int 0, .int 0, .int 0, .int 0, .int 0, .ref n31]))]) ⟨rfl, rfl, rfl, rfl, by decide⟩ 0 rfl rfl rfl rfl rfl ⟨Nat.le_of_ble_eq_true rfl, Nat.le_of_ble_eq_true rfl, Nat.le_of_ble_eq_true rfl⟩ 36 23817 ⟨rfl, rfl, Nat.le_of_ble_eq_true rfl, Nat.le_of_ble_eq_true rfl⟩ dX11_shortest_70 (fun u H locs hp w => ?_)
  have w : Wd D A s.heap [(a0, .inr (11, [.ref a1, .int 0, .int 0, .int (-1), .ref a2, .ref a3, .ref a4, .ref a5, .ref a6, .ref n1])), (n5, .inl (cy 1, 0, .inl (fun _ => 0))), (n8, .inl (cy 1, 0, .inl (fun _ => 0))), (n9, .inl (cy 1, 0, .inl (fun _ => 0))), (n10, .inl (cy 1, 0, .inl (fun _ => 0))), (n11, .inl (cy 1, 0, .inl (fun _ => 0))), (n12, .inl (cy 1, 0, .inl (fun _ => 0))), (n13, .inl (cy 1, 7201, .inl (fun _ => 0))), (n14, .inl (cy 1, 1830, .inl (fun _ => 0))), (n17, .inl (cy 1, 1830, .inl (fun _ => 0))), (n19, .inl (cy 1, 1830, .inl (fun _ => 0))), (n18, .inr (2, [.ref n2, .ref n19, .ref n20, .ref a6, .int 0])), (n20, .inl (cy 1, 21, .inl (fun _ => 0))), (n22, .inr (2, [.ref n2, .ref n15, .ref n23, .ref a6, .int 0])), (n23, .inl (cy 1, 21, .inl (fun _ => 0))), (n25, .inl (cy 1, 6, .inl (fun _ => 0))), (n26, .inl (cy 1, 6, .inl (fun _ => 0))), (n28, .inl (cy 1, 1830, .inl (fun _ => 0))), (n31, .inl (cy 1, 5, .inl (fun _ => 0))), (n33, .inl (cy 1, 4, .inl (fun _ => 0))), (n1, .inr (6, [.ref n2, .ref n16, .int 190, .ref n17, .ref n21, .ref n27, .ref n29, .ref n30, .ref n32, .ref n18, .ref a6, .int 1, .int 0])), (n16, .inl (cy 1, 1830, .inl (fillF (fun _ => 0) 2 20 (PP 20 2 (20 + 1 - 2))))), (n4, .inl (cy 1, 0, .inl (fun _ => 0))), (n34, .inl (cy 1, 1830, .inl (learnF 0 1830))), (n6, .inl (cy 1, 0, .inl (fun _ => 0))), (n35, .inl (cy 1, 1830, .inl (learnF 2 1830))), (n2, .inr (4, [.ref n3, .ref n13, .int 0, .ref n14])), (n3, .inl (cy 5, 9, .inr (.inr (.inr (.inr (va_up (va_up (va_up (va_up (va_up (va_up (va_up (va_up (va_up (va_up (va_up (va_up (fun _ => none) 0 (some n4)) 1 (some n5)) 2 (some n6)) 3 (some n7)) 4 (some n8)) 5 (some n9)) 6 (some n10)) 7 (some n11)) 8 (some n12)) 0 (some n34)) 2 (some n35)) 3 (some n36))))))), (n7, .inl (cy 1, 0, .inl (fun _ => 0))), (n36, .inl (cy 1, 1830, .inl (learnF 3 1830))), (n21, .inr (1, [.ref n22, .ref a6, .int (-2), .int (-2), .ref n24, .int 0, .int 0, .int 0, .int 0, .int (-1), .int 0, .ref n25, .ref n26])), (n24, .inl (cy 1, 6, .inl (upd (upd (upd (upd (upd (upd (fun _ => 0) 0 (-2)) 1 (-2)) 2 (-2)) 3 (-2)) 4 (-2)) 5 (-2)))), (n27, .inr (3, [.ref n2, .ref n15, .ref a6, .int (-1), .int (-1), .ref n28, .int 0, .int 0, .int 0])), (n30, .inr (8, [.ref n29, .int (-1), .int 0, .int 0, .int 0, .int 0, .int 0, .ref n31])), (n15, .inl (cy 1, 1830, .inl (fillF (fun _ => 0) 2 20 (PP 20 2 (20 + 1 - 2))))), (n32, .inr (7, [.ref n29, .int 2, .int 1, .int (-1), .int (-1), .ref n33])), (n29, .inr (0, [.ref n2, .ref n15, .ref a6, .int 0, .int 190])), (a6, .inr (9, [.int 0, .int 2, .int 20, .int 120, .int 0, .int 0, .int 0, .int 0, .ref a11, .int 0, .ref a12, .ref a13, .int 0, .ref a14, .ref a15, .ref a16, .ref a17]))] _ _ := w
  refine r_top (g2 := F0 m 73 ls []) rfl ?_
  refine lv_aload C.1 C.2.1 dX11_shortest_73 (lv_at hl 0 rfl) ?_
  refine r_get C w 35 rfl rfl 3 (by decide) fl_RX11_264 (v := .int (-1)) rfl dX11_shortest_75 ?_
  refine lv_iconst (v := (-1)) C.1 C.2.1 dX11_shortest_78 (by decide) ?_
  refine b_icmp_eq_t C (tgt := 91) dX11_shortest_79 (by decide) (by decide) ?_
  refine lv_iconst (v := (-1)) C.1 C.2.1 dX11_shortest_91 (by decide) ?_
  exact r_iret C w hlocks (n1, n2, n3, n4, n5, n6, n7, n8, n9, n10, n11, n12, n13, n14, n15, n16, n17, n18, n19, n20, n21, n22, n23, n24, n25, n26, n27, n28, n29, n30, n31, n32, n33, n34, n35, n36) hr rfl rfl trivial [0, 1, 2, 3, 4, 5, 6, 7, 8, 9, 10, 11, 12, 13, 14, 15, 16, 17, 18, 19, 20, 21, 22, 23, 24, 25, 26, 27, 28, 29, 30, 31, 32, 33, 34, 35, 36, 37] rfl rfl ⟨Nat.le_of_ble_eq_true rfl, Nat.le_of_ble_eq_true rfl⟩ dX11_shortest_92
set_option maxRecDepth 100000 in
set_option maxHeartbeats 4000000 in
theorem c_X7_seek_8 (l : Launch) (D : va_G) (cy : Nat → ClassId) (a0 a1 a2 a3 a4 a5 a9 a10 a11 a12 a13 a14 a15 : Nat) : Ct l D cy yX7_seek cX7_seek 3 none 3 78 0 0 [(a0, .inr (7, [.ref a1, .int 0, .int (-1), .int (-1), .int (-1), .ref a2])), (a1, .inr (0, [.ref a3, .ref a4, .ref a5, .int 0, .int 0])), (a4, .inl (cy 1, 1830, .inl (fun _ => 0))), (a5, .inr (9, [.int 0, .int 2, .int 20, .int 120, .int 0, .int 0, .int 0, .int 0, .ref a9, .int 0, .ref a10, .ref a11, .int 0, .ref a12, .ref a13, .ref a14, .ref a15]))] [.ref a0, .int 4] (fun u : Unit => none) (fun _ => True) (fun u : Unit => [(a4, .inl (cy 1, 1830, .inl (fillF (fun _ => 0) 2 20 (PP 20 2 (20 + 1 - 2))))), (a0, .inr (7, [.ref a1, .int 5, .int 4, .int (-1), .int (-1), .ref a2])), (a1, .inr (0, [.ref a3, .ref a4, .ref a5, .int 0, .int 190])), (a5, .inr (9, [.int 0, .int 2, .int 20, .int 120, .int 0, .int 0, .int 0, .int 0, .ref a9, .int 0, .ref a10, .ref a11, .int 0, .ref a12, .ref a13, .ref a14, .ref a15]))]) := by
  refine Ct.of (by decide +kernel) (Nat.le_of_ble_eq_true rfl) ?_
  intro p e s m args below meth c A ls C hr hlocks hml hnm w hl
  have hl : lv_has ls 3 [(0, .ref a0), (1, .int 4)] := hl
  refine lv_aload_n C.1 C.2.1 dX7_seek_0 rfl (lv_at hl 0 rfl) ?_
  refine r_get C w 0 rfl rfl 3 (by decide) fl_RX7_15 (v := .int (-1)) rfl dX7_seek_1 ?_
  refine lv_iconst (v := (-1)) C.1 C.2.1 dX7_seek_4 (by decide) ?_
  refine b_icmp_ne_f C (tgt := 16) dX7_seek_5 (by decide) (by decide) ?_
  refine lv_aload_n C.1 C.2.1 dX7_seek_8 rfl (lv_at hl 0 rfl) ?_
  refine r_get C w 0 rfl rfl 2 (by decide) fl_RX7_9 (v := .int (-1)) rfl dX7_seek_9 ?_
  refine lv_iload_n C.1 C.2.1 dX7_seek_12 rfl (lv_at hl 1 rfl) ?_
  refine b_icmp_lt_t C (tgt := 17) dX7_seek_13 (by decide) (by decide) ?_
  refine lv_aload_n C.1 C.2.1 dX7_seek_17 rfl (lv_at hl 0 rfl) ?_
  refine r_get C w 0 rfl rfl 0 (by decide) fl_RX7_25 (v := .ref a1) rfl dX7_seek_18 ?_
  refine r_callV C w fv_RX7_29 (c_X0_begin_0 l D cy a1 a3 a4 a5 a9 a10 a11 a12 a13 a14 a15) (hl.1.trans hml.symm) [1, 2, 3] [0] (wr := [(a0, .inr (7, [.ref a1, .int 0, .int (-1), .int (-1), .int (-1), .ref a2]))]) ⟨rfl, rfl, rfl, rfl, by decide⟩ 0 rfl rfl rfl rfl rfl ⟨Nat.le_of_ble_eq_true rfl, Nat.le_of_ble_eq_true rfl, Nat.le_of_ble_eq_true rfl⟩ 0 0 ⟨rfl, rfl, Nat.le_of_ble_eq_true rfl, Nat.le_of_ble_eq_true rfl⟩ dX7_seek_21 (fun u H locs hp w => ?_)
  have w : Wd D A s.heap [(a0, .inr (7, [.ref a1, .int 0, .int (-1), .int (-1), .int (-1), .ref a2])), (a1, .inr (0, [.ref a3, .ref a4, .ref a5, .int 0, .int 190])), (a4, .inl (cy 1, 1830, .inl (fillF (fun _ => 0) 2 20 (PP 20 2 (20 + 1 - 2))))), (a5, .inr (9, [.int 0, .int 2, .int 20, .int 120, .int 0, .int 0, .int 0, .int 0, .ref a9, .int 0, .ref a10, .ref a11, .int 0, .ref a12, .ref a13, .ref a14, .ref a15]))] _ _ := w
  refine r_top (g2 := F0 m 24 ls []) rfl ?_
  refine lv_aload_n C.1 C.2.1 dX7_seek_24 rfl (lv_at hl 0 rfl) ?_
  refine r_get C w 0 rfl rfl 0 (by decide) fl_RX7_25 (v := .ref a1) rfl dX7_seek_25 ?_
  refine r_get C w 1 rfl rfl 4 (by decide) fl_RX7_34 (v := .int 190) rfl dX7_seek_28 ?_
  refine lv_istore_n (lv' := [(2, .int 190), (0, .ref a0), (1, .int 4)]) C.1 C.2.1 dX7_seek_31 rfl hl (by decide) rfl (fun ls hl => ?_)
  refine lv_aload_n C.1 C.2.1 dX7_seek_32 rfl (lv_at hl 1 rfl) ?_
  refine r_get C w 0 rfl rfl 2 (by decide) fl_RX7_9 (v := .int (-1)) rfl dX7_seek_33 ?_
  refine lv_iconst (v := (-1)) C.1 C.2.1 dX7_seek_36 (by decide) ?_
  refine b_icmp_ne_f C (tgt := 63) dX7_seek_37 (by decide) (by decide) ?_
  refine lv_iload_n C.1 C.2.1 dX7_seek_40 rfl (lv_at hl 0 rfl) ?_
  refine lv_iconst (v := 1) C.1 C.2.1 dX7_seek_41 (by decide) ?_
  refine b_icmp_ne_t C (tgt := 63) dX7_seek_42 (by decide) (by decide) ?_
  refine lv_aload_n C.1 C.2.1 dX7_seek_63 rfl (lv_at hl 1 rfl) ?_
  refine lv_aload_n C.1 C.2.1 dX7_seek_64 rfl (lv_at hl 1 rfl) ?_
  refine r_get C w 0 rfl rfl 2 (by decide) fl_RX7_9 (v := .int (-1)) rfl dX7_seek_65 ?_
  refine lv_iconst (v := 0) C.1 C.2.1 dX7_seek_68 (by decide) ?_
  refine r_mmax C (hl.1.trans hml.symm) ml_RX7_40 st_max it_math cd_max (v := 0) (by decide) ⟨Nat.le_of_ble_eq_true rfl, Nat.le_of_ble_eq_true rfl, Nat.le_of_ble_eq_true rfl, Nat.le_of_ble_eq_true rfl⟩ dX7_seek_69 ?_
  refine r_put C w 0 rfl rfl 2 (by decide) fl_RX7_9 rfl (ty := .int) (tyX7_ok 2 (by decide)) rfl rfl (Nat.le_of_ble_eq_true rfl) [(a0, .inr (7, [.ref a1, .int 0, .int 0, .int (-1), .int (-1), .ref a2])), (a1, .inr (0, [.ref a3, .ref a4, .ref a5, .int 0, .int 190])), (a4, .inl (cy 1, 1830, .inl (fillF (fun _ => 0) 2 20 (PP 20 2 (20 + 1 - 2))))), (a5, .inr (9, [.int 0, .int 2, .int 20, .int 120, .int 0, .int 0, .int 0, .int 0, .ref a9, .int 0, .ref a10, .ref a11, .int 0, .ref a12, .ref a13, .ref a14, .ref a15]))] rfl dX7_seek_72 (fun H locs w => ?_)
  refine lv_aload_n C.1 C.2.1 dX7_seek_75 rfl (lv_at hl 1 rfl) ?_
  refine lv_aload_n C.1 C.2.1 dX7_seek_76 rfl (lv_at hl 1 rfl) ?_
  refine r_get C w 0 rfl rfl 2 (by decide) fl_RX7_9 (v := .int 0) rfl dX7_seek_77 ?_
  refine lv_iconst (v := 1) C.1 C.2.1 dX7_seek_80 (by decide) ?_
  refine r_iadd C (v := 1) dX7_seek_81 (by decide) ?_
  refine r_put C w 0 rfl rfl 1 (by decide) fl_RX7_46 rfl (ty := .int) (tyX7_ok 1 (by decide)) rfl rfl (Nat.le_of_ble_eq_true rfl) [(a0, .inr (7, [.ref a1, .int 1, .int 0, .int (-1), .int (-1), .ref a2])), (a1, .inr (0, [.ref a3, .ref a4, .ref a5, .int 0, .int 190])), (a4, .inl (cy 1, 1830, .inl (fillF (fun _ => 0) 2 20 (PP 20 2 (20 + 1 - 2))))), (a5, .inr (9, [.int 0, .int 2, .int 20, .int 120, .int 0, .int 0, .int 0, .int 0, .ref a9, .int 0, .ref a10, .ref a11, .int 0, .ref a12, .ref a13, .ref a14, .ref a15]))] rfl dX7_seek_82 (fun H locs w => ?_)
  refine lv_aload_n C.1 C.2.1 dX7_seek_85 rfl (lv_at hl 1 rfl) ?_
  refine r_get C w 0 rfl rfl 1 (by decide) fl_RX7_46 (v := .int 1) rfl dX7_seek_86 ?_
  refine lv_iload_n C.1 C.2.1 dX7_seek_89 rfl (lv_at hl 2 rfl) ?_
  refine b_icmp_gt_f C (tgt := 149) dX7_seek_90 (by decide) (by decide) ?_
  refine lv_aload_n C.1 C.2.1 dX7_seek_93 rfl (lv_at hl 1 rfl) ?_
  refine r_get C w 0 rfl rfl 1 (by decide) fl_RX7_46 (v := .int 1) rfl dX7_seek_94 ?_
  refine lv_iconst (v := 4) C.1 C.2.1 dX7_seek_97 (by decide) ?_
  refine b_icmp_gt_f C (tgt := 149) dX7_seek_98 (by decide) (by decide) ?_
  refine lv_aload_n C.1 C.2.1 dX7_seek_101 rfl (lv_at hl 1 rfl) ?_
  refine r_get C w 0 rfl rfl 3 (by decide) fl_RX7_15 (v := .int (-1)) rfl dX7_seek_102 ?_
  refine lv_iconst (v := (-1)) C.1 C.2.1 dX7_seek_105 (by decide) ?_
  refine b_icmp_ne_f C (tgt := 149) dX7_seek_106 (by decide) (by decide) ?_
  refine lv_aload_n C.1 C.2.1 dX7_seek_109 rfl (lv_at hl 1 rfl) ?_
  refine lv_iconst (v := 0) C.1 C.2.1 dX7_seek_110 (by decide) ?_
  refine lv_iconst (v := 0) C.1 C.2.1 dX7_seek_111 (by decide) ?_
  refine lv_iload_n C.1 C.2.1 dX7_seek_112 rfl (lv_at hl 0 rfl) ?_
  refine lv_iconst (v := (-1)) C.1 C.2.1 dX7_seek_113 (by decide) ?_
  refine r_callV C w fv_RX7_49 (c_X7_single_0 l D cy a0 a1 a2 a3 a4 a5 a9 a10 a11 a12 a13 a14 a15) (hl.1.trans hml.symm) [0, 1, 3] [2] (wr := [(a4, .inl (cy 1, 1830, .inl (fillF (fun _ => 0) 2 20 (PP 20 2 (20 + 1 - 2)))))]) ⟨rfl, rfl, rfl, rfl, by decide⟩ 0 rfl rfl rfl rfl rfl ⟨Nat.le_of_ble_eq_true rfl, Nat.le_of_ble_eq_true rfl, Nat.le_of_ble_eq_true rfl⟩ 0 0 ⟨rfl, rfl, Nat.le_of_ble_eq_true rfl, Nat.le_of_ble_eq_true rfl⟩ dX7_seek_114 (fun u H locs hp w => ?_)
  have w : Wd D A s.heap [(a4, .inl (cy 1, 1830, .inl (fillF (fun _ => 0) 2 20 (PP 20 2 (20 + 1 - 2))))), (a0, .inr (7, [.ref a1, .int 1, .int 0, .int (-1), .int (-1), .ref a2])), (a1, .inr (0, [.ref a3, .ref a4, .ref a5, .int 0, .int 190])), (a5, .inr (9, [.int 0, .int 2, .int 20, .int 120, .int 0, .int 0, .int 0, .int 0, .ref a9, .int 0, .ref a10, .ref a11, .int 0, .ref a12, .ref a13, .ref a14, .ref a15]))] _ _ := w
  refine r_top (g2 := F0 m 117 ls [.int 0]) rfl ?_
  refine b_if_eq_t C (tgt := 128) dX7_seek_117 (by decide) (by decide) ?_
  refine lv_aload_n C.1 C.2.1 dX7_seek_128 rfl (lv_at hl 1 rfl) ?_
  refine lv_aload_n C.1 C.2.1 dX7_seek_129 rfl (lv_at hl 1 rfl) ?_
  refine r_get C w 1 rfl rfl 1 (by decide) fl_RX7_46 (v := .int 1) rfl dX7_seek_130 ?_
  refine r_put C w 1 rfl rfl 2 (by decide) fl_RX7_9 rfl (ty := .int) (tyX7_ok 2 (by decide)) rfl rfl (Nat.le_of_ble_eq_true rfl) [(a4, .inl (cy 1, 1830, .inl (fillF (fun _ => 0) 2 20 (PP 20 2 (20 + 1 - 2))))), (a0, .inr (7, [.ref a1, .int 1, .int 1, .int (-1), .int (-1), .ref a2])), (a1, .inr (0, [.ref a3, .ref a4, .ref a5, .int 0, .int 190])), (a5, .inr (9, [.int 0, .int 2, .int 20, .int 120, .int 0, .int 0, .int 0, .int 0, .ref a9, .int 0, .ref a10, .ref a11, .int 0, .ref a12, .ref a13, .ref a14, .ref a15]))] rfl dX7_seek_133 (fun H locs w => ?_)
  refine lv_aload_n C.1 C.2.1 dX7_seek_136 rfl (lv_at hl 1 rfl) ?_
  refine lv_dup C.1 C.2.1 dX7_seek_137 rfl ?_
  refine r_get C w 1 rfl rfl 1 (by decide) fl_RX7_46 (v := .int 1) rfl dX7_seek_138 ?_
  refine lv_iconst (v := 1) C.1 C.2.1 dX7_seek_141 (by decide) ?_
  refine r_iadd C (v := 2) dX7_seek_142 (by decide) ?_
  refine r_put C w 1 rfl rfl 1 (by decide) fl_RX7_46 rfl (ty := .int) (tyX7_ok 1 (by decide)) rfl rfl (Nat.le_of_ble_eq_true rfl) [(a4, .inl (cy 1, 1830, .inl (fillF (fun _ => 0) 2 20 (PP 20 2 (20 + 1 - 2))))), (a0, .inr (7, [.ref a1, .int 2, .int 1, .int (-1), .int (-1), .ref a2])), (a1, .inr (0, [.ref a3, .ref a4, .ref a5, .int 0, .int 190])), (a5, .inr (9, [.int 0, .int 2, .int 20, .int 120, .int 0, .int 0, .int 0, .int 0, .ref a9, .int 0, .ref a10, .ref a11, .int 0, .ref a12, .ref a13, .ref a14, .ref a15]))] rfl dX7_seek_143 (fun H locs w => ?_)
  refine lv_goto (tgt := 85) C.1 C.2.1 dX7_seek_146 (by decide) ?_
  refine lv_aload_n C.1 C.2.1 dX7_seek_85 rfl (lv_at hl 1 rfl) ?_
  refine r_get C w 1 rfl rfl 1 (by decide) fl_RX7_46 (v := .int 2) rfl dX7_seek_86 ?_
  refine lv_iload_n C.1 C.2.1 dX7_seek_89 rfl (lv_at hl 2 rfl) ?_
  refine b_icmp_gt_f C (tgt := 149) dX7_seek_90 (by decide) (by decide) ?_
  refine lv_aload_n C.1 C.2.1 dX7_seek_93 rfl (lv_at hl 1 rfl) ?_
  refine r_get C w 1 rfl rfl 1 (by decide) fl_RX7_46 (v := .int 2) rfl dX7_seek_94 ?_
  refine lv_iconst (v := 4) C.1 C.2.1 dX7_seek_97 (by decide) ?_
  refine b_icmp_gt_f C (tgt := 149) dX7_seek_98 (by decide) (by decide) ?_
  refine lv_aload_n C.1 C.2.1 dX7_seek_101 rfl (lv_at hl 1 rfl) ?_
  refine r_get C w 1 rfl rfl 3 (by decide) fl_RX7_15 (v := .int (-1)) rfl dX7_seek_102 ?_
  refine lv_iconst (v := (-1)) C.1 C.2.1 dX7_seek_105 (by decide) ?_
  refine b_icmp_ne_f C (tgt := 149) dX7_seek_106 (by decide) (by decide) ?_
  refine lv_aload_n C.1 C.2.1 dX7_seek_109 rfl (lv_at hl 1 rfl) ?_
  refine lv_iconst (v := 0) C.1 C.2.1 dX7_seek_110 (by decide) ?_
  refine lv_iconst (v := 0) C.1 C.2.1 dX7_seek_111 (by decide) ?_
  refine lv_iload_n C.1 C.2.1 dX7_seek_112 rfl (lv_at hl 0 rfl) ?_
  refine lv_iconst (v := (-1)) C.1 C.2.1 dX7_seek_113 (by decide) ?_
  refine r_callV C w fv_RX7_49 (c_X7_single_1 l D cy a0 a1 a2 a3 a4 a5 a9 a10 a11 a12 a13 a14 a15) (hl.1.trans hml.symm) [1, 2, 3] [0] (wr := [(a4, .inl (cy 1, 1830, .inl (fillF (fun _ => 0) 2 20 (PP 20 2 (20 + 1 - 2)))))]) ⟨rfl, rfl, rfl, rfl, by decide⟩ 0 rfl rfl rfl rfl rfl ⟨Nat.le_of_ble_eq_true rfl, Nat.le_of_ble_eq_true rfl, Nat.le_of_ble_eq_true rfl⟩ 0 0 ⟨rfl, rfl, Nat.le_of_ble_eq_true rfl, Nat.le_of_ble_eq_true rfl⟩ dX7_seek_114 (fun u H locs hp w => ?_)
  have w : Wd D A s.heap [(a4, .inl (cy 1, 1830, .inl (fillF (fun _ => 0) 2 20 (PP 20 2 (20 + 1 - 2))))), (a0, .inr (7, [.ref a1, .int 2, .int 1, .int (-1), .int (-1), .ref a2])), (a1, .inr (0, [.ref a3, .ref a4, .ref a5, .int 0, .int 190])), (a5, .inr (9, [.int 0, .int 2, .int 20, .int 120, .int 0, .int 0, .int 0, .int 0, .ref a9, .int 0, .ref a10, .ref a11, .int 0, .ref a12, .ref a13, .ref a14, .ref a15]))] _ _ := w
  refine r_top (g2 := F0 m 117 ls [.int 0]) rfl ?_
  refine b_if_eq_t C (tgt := 128) dX7_seek_117 (by decide) (by decide) ?_
  refine lv_aload_n C.1 C.2.1 dX7_seek_128 rfl (lv_at hl 1 rfl) ?_
  refine lv_aload_n C.1 C.2.1 dX7_seek_129 rfl (lv_at hl 1 rfl) ?_
  refine r_get C w 1 rfl rfl 1 (by decide) fl_RX7_46 (v := .int 2) rfl dX7_seek_130 ?_
  refine r_put C w 1 rfl rfl 2 (by decide) fl_RX7_9 rfl (ty := .int) (tyX7_ok 2 (by decide)) rfl rfl (Nat.le_of_ble_eq_true rfl) [(a4, .inl (cy 1, 1830, .inl (fillF (fun _ => 0) 2 20 (PP 20 2 (20 + 1 - 2))))), (a0, .inr (7, [.ref a1, .int 2, .int 2, .int (-1), .int (-1), .ref a2])), (a1, .inr (0, [.ref a3, .ref a4, .ref a5, .int 0, .int 190])), (a5, .inr (9, [.int 0, .int 2, .int 20, .int 120, .int 0, .int 0, .int 0, .int 0, .ref a9, .int 0, .ref a10, .ref a11, .int 0, .ref a12, .ref a13, .ref a14, .ref a15]))] rfl dX7_seek_133 (fun H locs w => ?_)
  refine lv_aload_n C.1 C.2.1 dX7_seek_136 rfl (lv_at hl 1 rfl) ?_
  refine lv_dup C.1 C.2.1 dX7_seek_137 rfl ?_
  refine r_get C w 1 rfl rfl 1 (by decide) fl_RX7_46 (v := .int 2) rfl dX7_seek_138 ?_
  refine lv_iconst (v := 1) C.1 C.2.1 dX7_seek_141 (by decide) ?_
  refine r_iadd C (v := 3) dX7_seek_142 (by decide) ?_
  refine r_put C w 1 rfl rfl 1 (by decide) fl_RX7_46 rfl (ty := .int) (tyX7_ok 1 (by decide)) rfl rfl (Nat.le_of_ble_eq_true rfl) [(a4, .inl (cy 1, 1830, .inl (fillF (fun _ => 0) 2 20 (PP 20 2 (20 + 1 - 2))))), (a0, .inr (7, [.ref a1, .int 3, .int 2, .int (-1), .int (-1), .ref a2])), (a1, .inr (0, [.ref a3, .ref a4, .ref a5, .int 0, .int 190])), (a5, .inr (9, [.int 0, .int 2, .int 20, .int 120, .int 0, .int 0, .int 0, .int 0, .ref a9, .int 0, .ref a10, .ref a11, .int 0, .ref a12, .ref a13, .ref a14, .ref a15]))] rfl dX7_seek_143 (fun H locs w => ?_)
  refine lv_goto (tgt := 85) C.1 C.2.1 dX7_seek_146 (by decide) ?_
  refine lv_aload_n C.1 C.2.1 dX7_seek_85 rfl (lv_at hl 1 rfl) ?_
  refine r_get C w 1 rfl rfl 1 (by decide) fl_RX7_46 (v := .int 3) rfl dX7_seek_86 ?_
  refine lv_iload_n C.1 C.2.1 dX7_seek_89 rfl (lv_at hl 2 rfl) ?_
  refine b_icmp_gt_f C (tgt := 149) dX7_seek_90 (by decide) (by decide) ?_
  refine lv_aload_n C.1 C.2.1 dX7_seek_93 rfl (lv_at hl 1 rfl) ?_
  refine r_get C w 1 rfl rfl 1 (by decide) fl_RX7_46 (v := .int 3) rfl dX7_seek_94 ?_
  refine lv_iconst (v := 4) C.1 C.2.1 dX7_seek_97 (by decide) ?_
  refine b_icmp_gt_f C (tgt := 149) dX7_seek_98 (by decide) (by decide) ?_
  refine lv_aload_n C.1 C.2.1 dX7_seek_101 rfl (lv_at hl 1 rfl) ?_
  refine r_get C w 1 rfl rfl 3 (by decide) fl_RX7_15 (v := .int (-1)) rfl dX7_seek_102 ?_
  refine lv_iconst (v := (-1)) C.1 C.2.1 dX7_seek_105 (by decide) ?_
  refine b_icmp_ne_f C (tgt := 149) dX7_seek_106 (by decide) (by decide) ?_
  refine lv_aload_n C.1 C.2.1 dX7_seek_109 rfl (lv_at hl 1 rfl) ?_
  refine lv_iconst (v := 0) C.1 C.2.1 dX7_seek_110 (by decide) ?_
  refine lv_iconst (v := 0) C.1 C.2.1 dX7_seek_111 (by decide) ?_
  refine lv_iload_n C.1 C.2.1 dX7_seek_112 rfl (lv_at hl 0 rfl) ?_
  refine lv_iconst (v := (-1)) C.1 C.2.1 dX7_seek_113 (by decide) ?_
  refine r_callV C w fv_RX7_49 (c_X7_single_2 l D cy a0 a1 a2 a3 a4 a5 a9 a10 a11 a12 a13 a14 a15) (hl.1.trans hml.symm) [1, 2, 3] [0] (wr := [(a4, .inl (cy 1, 1830, .inl (fillF (fun _ => 0) 2 20 (PP 20 2 (20 + 1 - 2)))))]) ⟨rfl, rfl, rfl, rfl, by decide⟩ 0 rfl rfl rfl rfl rfl ⟨Nat.le_of_ble_eq_true rfl, Nat.le_of_ble_eq_true rfl, Nat.le_of_ble_eq_true rfl⟩ 0 0 ⟨rfl, rfl, Nat.le_of_ble_eq_true rfl, Nat.le_of_ble_eq_true rfl⟩ dX7_seek_114 (fun u H locs hp w => ?_)
  have w : Wd D A s.heap [(a4, .inl (cy 1, 1830, .inl (fillF (fun _ => 0) 2 20 (PP 20 2 (20 + 1 - 2))))), (a0, .inr (7, [.ref a1, .int 3, .int 2, .int (-1), .int (-1), .ref a2])), (a1, .inr (0, [.ref a3, .ref a4, .ref a5, .int 0, .int 190])), (a5, .inr (9, [.int 0, .int 2, .int 20, .int 120, .int 0, .int 0, .int 0, .int 0, .ref a9, .int 0, .ref a10, .ref a11, .int 0, .ref a12, .ref a13, .ref a14, .ref a15]))] _ _ := w
  refine r_top (g2 := F0 m 117 ls [.int 0]) rfl ?_
  refine b_if_eq_t C (tgt := 128) dX7_seek_117 (by decide) (by decide) ?_
  refine lv_aload_n C.1 C.2.1 dX7_seek_128 rfl (lv_at hl 1 rfl) ?_
  refine lv_aload_n C.1 C.2.1 dX7_seek_129 rfl (lv_at hl 1 rfl) ?_
  refine r_get C w 1 rfl rfl 1 (by decide) fl_RX7_46 (v := .int 3) rfl dX7_seek_130 ?_
  refine r_put C w 1 rfl rfl 2 (by decide) fl_RX7_9 rfl (ty := .int) (tyX7_ok 2 (by decide)) rfl rfl (Nat.le_of_ble_eq_true rfl) [(a4, .inl (cy 1, 1830, .inl (fillF (fun _ => 0) 2 20 (PP 20 2 (20 + 1 - 2))))), (a0, .inr (7, [.ref a1, .int 3, .int 3, .int (-1), .int (-1), .ref a2])), (a1, .inr (0, [.ref a3, .ref a4, .ref a5, .int 0, .int 190])), (a5, .inr (9, [.int 0, .int 2, .int 20, .int 120, .int 0, .int 0, .int 0, .int 0, .ref a9, .int 0, .ref a10, .ref a11, .int 0, .ref a12, .ref a13, .ref a14, .ref a15]))] rfl dX7_seek_133 (fun H locs w => ?_)
  refine lv_aload_n C.1 C.2.1 dX7_seek_136 rfl (lv_at hl 1 rfl) ?_
  refine lv_dup C.1 C.2.1 dX7_seek_137 rfl ?_
  refine r_get C w 1 rfl rfl 1 (by decide) fl_RX7_46 (v := .int 3) rfl dX7_seek_138 ?_
  refine lv_iconst (v := 1) C.1 C.2.1 dX7_seek_141 (by decide) ?_
  refine r_iadd C (v := 4) dX7_seek_142 (by decide) ?_
  refine r_put C w 1 rfl rfl 1 (by decide) fl_RX7_46 rfl (ty := .int) (tyX7_ok 1 (by decide)) rfl rfl (Nat.le_of_ble_eq_true rfl) [(a4, .inl (cy 1, 1830, .inl (fillF (fun _ => 0) 2 20 (PP 20 2 (20 + 1 - 2))))), (a0, .inr (7, [.ref a1, .int 4, .int 3, .int (-1), .int (-1), .ref a2])), (a1, .inr (0, [.ref a3, .ref a4, .ref a5, .int 0, .int 190])), (a5, .inr (9, [.int 0, .int 2, .int 20, .int 120, .int 0, .int 0, .int 0, .int 0, .ref a9, .int 0, .ref a10, .ref a11, .int 0, .ref a12, .ref a13, .ref a14, .ref a15]))] rfl dX7_seek_143 (fun H locs w => ?_)
  refine lv_goto (tgt := 85) C.1 C.2.1 dX7_seek_146 (by decide) ?_
  refine lv_aload_n C.1 C.2.1 dX7_seek_85 rfl (lv_at hl 1 rfl) ?_
  refine r_get C w 1 rfl rfl 1 (by decide) fl_RX7_46 (v := .int 4) rfl dX7_seek_86 ?_
  refine lv_iload_n C.1 C.2.1 dX7_seek_89 rfl (lv_at hl 2 rfl) ?_
  refine b_icmp_gt_f C (tgt := 149) dX7_seek_90 (by decide) (by decide) ?_
  refine lv_aload_n C.1 C.2.1 dX7_seek_93 rfl (lv_at hl 1 rfl) ?_
  refine r_get C w 1 rfl rfl 1 (by decide) fl_RX7_46 (v := .int 4) rfl dX7_seek_94 ?_
  refine lv_iconst (v := 4) C.1 C.2.1 dX7_seek_97 (by decide) ?_
  refine b_icmp_gt_f C (tgt := 149) dX7_seek_98 (by decide) (by decide) ?_
  refine lv_aload_n C.1 C.2.1 dX7_seek_101 rfl (lv_at hl 1 rfl) ?_
  refine r_get C w 1 rfl rfl 3 (by decide) fl_RX7_15 (v := .int (-1)) rfl dX7_seek_102 ?_
  refine lv_iconst (v := (-1)) C.1 C.2.1 dX7_seek_105 (by decide) ?_
  refine b_icmp_ne_f C (tgt := 149) dX7_seek_106 (by decide) (by decide) ?_
  refine lv_aload_n C.1 C.2.1 dX7_seek_109 rfl (lv_at hl 1 rfl) ?_
  refine lv_iconst (v := 0) C.1 C.2.1 dX7_seek_110 (by decide) ?_
  refine lv_iconst (v := 0) C.1 C.2.1 dX7_seek_111 (by decide) ?_
  refine lv_iload_n C.1 C.2.1 dX7_seek_112 rfl (lv_at hl 0 rfl) ?_
  refine lv_iconst (v := (-1)) C.1 C.2.1 dX7_seek_113 (by decide) ?_
  refine r_callV C w fv_RX7_49 (c_X7_single_3 l D cy a0 a1 a2 a3 a4 a5 a9 a10 a11 a12 a13 a14 a15) (hl.1.trans hml.symm) [1, 2, 3] [0] (wr := [(a4, .inl (cy 1, 1830, .inl (fillF (fun _ => 0) 2 20 (PP 20 2 (20 + 1 - 2)))))]) ⟨rfl, rfl, rfl, rfl, by decide⟩ 0 rfl rfl rfl rfl rfl ⟨Nat.le_of_ble_eq_true rfl, Nat.le_of_ble_eq_true rfl, Nat.le_of_ble_eq_true rfl⟩ 0 0 ⟨rfl, rfl, Nat.le_of_ble_eq_true rfl, Nat.le_of_ble_eq_true rfl⟩ dX7_seek_114 (fun u H locs hp w => ?_)
  have w : Wd D A s.heap [(a4, .inl (cy 1, 1830, .inl (fillF (fun _ => 0) 2 20 (PP 20 2 (20 + 1 - 2))))), (a0, .inr (7, [.ref a1, .int 4, .int 3, .int (-1), .int (-1), .ref a2])), (a1, .inr (0, [.ref a3, .ref a4, .ref a5, .int 0, .int 190])), (a5, .inr (9, [.int 0, .int 2, .int 20, .int 120, .int 0, .int 0, .int 0, .int 0, .ref a9, .int 0, .ref a10, .ref a11, .int 0, .ref a12, .ref a13, .ref a14, .ref a15]))] _ _ := w
  refine r_top (g2 := F0 m 117 ls [.int 0]) rfl ?_
  refine b_if_eq_t C (tgt := 128) dX7_seek_117 (by decide) (by decide) ?_
  refine lv_aload_n C.1 C.2.1 dX7_seek_128 rfl (lv_at hl 1 rfl) ?_
  refine lv_aload_n C.1 C.2.1 dX7_seek_129 rfl (lv_at hl 1 rfl) ?_
  refine r_get C w 1 rfl rfl 1 (by decide) fl_RX7_46 (v := .int 4) rfl dX7_seek_130 ?_
  refine r_put C w 1 rfl rfl 2 (by decide) fl_RX7_9 rfl (ty := .int) (tyX7_ok 2 (by decide)) rfl rfl (Nat.le_of_ble_eq_true rfl) [(a4, .inl (cy 1, 1830, .inl (fillF (fun _ => 0) 2 20 (PP 20 2 (20 + 1 - 2))))), (a0, .inr (7, [.ref a1, .int 4, .int 4, .int (-1), .int (-1), .ref a2])), (a1, .inr (0, [.ref a3, .ref a4, .ref a5, .int 0, .int 190])), (a5, .inr (9, [.int 0, .int 2, .int 20, .int 120, .int 0, .int 0, .int 0, .int 0, .ref a9, .int 0, .ref a10, .ref a11, .int 0, .ref a12, .ref a13, .ref a14, .ref a15]))] rfl dX7_seek_133 (fun H locs w => ?_)
  refine lv_aload_n C.1 C.2.1 dX7_seek_136 rfl (lv_at hl 1 rfl) ?_
  refine lv_dup C.1 C.2.1 dX7_seek_137 rfl ?_
  refine r_get C w 1 rfl rfl 1 (by decide) fl_RX7_46 (v := .int 4) rfl dX7_seek_138 ?_
  refine lv_iconst (v := 1) C.1 C.2.1 dX7_seek_141 (by decide) ?_
  refine r_iadd C (v := 5) dX7_seek_142 (by decide) ?_
  refine r_put C w 1 rfl rfl 1 (by decide) fl_RX7_46 rfl (ty := .int) (tyX7_ok 1 (by decide)) rfl rfl (Nat.le_of_ble_eq_true rfl) [(a4, .inl (cy 1, 1830, .inl (fillF (fun _ => 0) 2 20 (PP 20 2 (20 + 1 - 2))))), (a0, .inr (7, [.ref a1, .int 5, .int 4, .int (-1), .int (-1), .ref a2])), (a1, .inr (0, [.ref a3, .ref a4, .ref a5, .int 0, .int 190])), (a5, .inr (9, [.int 0, .int 2, .int 20, .int 120, .int 0, .int 0, .int 0, .int 0, .ref a9, .int 0, .ref a10, .ref a11, .int 0, .ref a12, .ref a13, .ref a14, .ref a15]))] rfl dX7_seek_143 (fun H locs w => ?_)
  refine lv_goto (tgt := 85) C.1 C.2.1 dX7_seek_146 (by decide) ?_
  refine lv_aload_n C.1 C.2.1 dX7_seek_85 rfl (lv_at hl 1 rfl) ?_
  refine r_get C w 1 rfl rfl 1 (by decide) fl_RX7_46 (v := .int 5) rfl dX7_seek_86 ?_
  refine lv_iload_n C.1 C.2.1 dX7_seek_89 rfl (lv_at hl 2 rfl) ?_
  refine b_icmp_gt_t C (tgt := 149) dX7_seek_90 (by decide) (by decide) ?_
  exact r_vret C w hlocks () hr rfl trivial [0, 1, 2, 3] rfl rfl ⟨Nat.le_of_ble_eq_true rfl, Nat.le_of_ble_eq_true rfl⟩ dX7_seek_149
set_option maxRecDepth 100000 in
set_option maxHeartbeats 4000000 in
theorem c_X11_shortest_3 (l : Launch) (D : va_G) (cy : Nat → ClassId) (a0 a1 a2 a3 a4 a5 a6 a11 a12 a13 a14 a15 a16 a17 : Nat) : Ct l D cy yX11_shortest cX11_shortest 6 (some .int) 5 118 36 23817 [(a0, .inr (11, [.ref a1, .int 0, .int 0, .int (-1), .ref a2, .ref a3, .ref a4, .ref a5, .ref a6, .null])), (a6, .inr (9, [.int 0, .int 2, .int 20, .int 120, .int 0, .int 0, .int 0, .int 0, .ref a11, .int 0, .ref a12, .ref a13, .int 0, .ref a14, .ref a15, .ref a16, .ref a17]))] [.ref a0, .int 4, .int 0] (fun u : Nat × Nat × Nat × Nat × Nat × Nat × Nat × Nat × Nat × Nat × Nat × Nat × Nat × Nat × Nat × Nat × Nat × Nat × Nat × Nat × Nat × Nat × Nat × Nat × Nat × Nat × Nat × Nat × Nat × Nat × Nat × Nat × Nat × Nat × Nat × Nat => some (.int (-1))) (fun _ => True) (fun u : Nat × Nat × Nat × Nat × Nat × Nat × Nat × Nat × Nat × Nat × Nat × Nat × Nat × Nat × Nat × Nat × Nat × Nat × Nat × Nat × Nat × Nat × Nat × Nat × Nat × Nat × Nat × Nat × Nat × Nat × Nat × Nat × Nat × Nat × Nat × Nat => [(a0, .inr (11, [.ref a1, .int 0, .int 0, .int (-1), .ref a2, .ref a3, .ref a4, .ref a5, .ref a6, .ref u.1])), (u.2.2.2.2.1, .inl (cy 1, 0, .inl (fun _ => 0))), (u.2.2.2.2.2.2.2.1, .inl (cy 1, 0, .inl (fun _ => 0))), (u.2.2.2.2.2.2.2.2.1, .inl (cy 1, 0, .inl (fun _ => 0))), (u.2.2.2.2.2.2.2.2.2.1, .inl (cy 1, 0, .inl (fun _ => 0))), (u.2.2.2.2.2.2.2.2.2.2.1, .inl (cy 1, 0, .inl (fun _ => 0))), (u.2.2.2.2.2.2.2.2.2.2.2.1, .inl (cy 1, 0, .inl (fun _ => 0))), (u.2.2.2.2.2.2.2.2.2.2.2.2.1, .inl (cy 1, 7201, .inl (fun _ => 0))), (u.2.2.2.2.2.2.2.2.2.2.2.2.2.1, .inl (cy 1, 1830, .inl (fun _ => 0))), (u.2.2.2.2.2.2.2.2.2.2.2.2.2.2.2.2.1, .inl (cy 1, 1830, .inl (fun _ => 0))), (u.2.2.2.2.2.2.2.2.2.2.2.2.2.2.2.2.2.2.1, .inl (cy 1, 1830, .inl (fun _ => 0))), (u.2.2.2.2.2.2.2.2.2.2.2.2.2.2.2.2.2.1, .inr (2, [.ref u.2.1, .ref u.2.2.2.2.2.2.2.2.2.2.2.2.2.2.2.2.2.2.1, .ref u.2.2.2.2.2.2.2.2.2.2.2.2.2.2.2.2.2.2.2.1, .ref a6, .int 0])), (u.2.2.2.2.2.2.2.2.2.2.2.2.2.2.2.2.2.2.2.1, .inl (cy 1, 21, .inl (fun _ => 0))), (u.2.2.2.2.2.2.2.2.2.2.2.2.2.2.2.2.2.2.2.2.2.1, .inr (2, [.ref u.2.1, .ref u.2.2.2.2.2.2.2.2.2.2.2.2.2.2.1, .ref u.2.2.2.2.2.2.2.2.2.2.2.2.2.2.2.2.2.2.2.2.2.2.1, .ref a6, .int 0])), (u.2.2.2.2.2.2.2.2.2.2.2.2.2.2.2.2.2.2.2.2.2.2.1, .inl (cy 1, 21, .inl (fun _ => 0))), (u.2.2.2.2.2.2.2.2.2.2.2.2.2.2.2.2.2.2.2.2.2.2.2.2.1, .inl (cy 1, 6, .inl (fun _ => 0))), (u.2.2.2.2.2.2.2.2.2.2.2.2.2.2.2.2.2.2.2.2.2.2.2.2.2.1, .inl (cy 1, 6, .inl (fun _ => 0))), (u.2.2.2.2.2.2.2.2.2.2.2.2.2.2.2.2.2.2.2.2.2.2.2.2.2.2.2.1, .inl (cy 1, 1830, .inl (fun _ => 0))), (u.2.2.2.2.2.2.2.2.2.2.2.2.2.2.2.2.2.2.2.2.2.2.2.2.2.2.2.2.2.2.1, .inl (cy 1, 5, .inl (fun _ => 0))), (u.2.2.2.2.2.2.2.2.2.2.2.2.2.2.2.2.2.2.2.2.2.2.2.2.2.2.2.2.2.2.2.2.1, .inl (cy 1, 4, .inl (fun _ => 0))), (u.1, .inr (6, [.ref u.2.1, .ref u.2.2.2.2.2.2.2.2.2.2.2.2.2.2.2.1, .int 190, .ref u.2.2.2.2.2.2.2.2.2.2.2.2.2.2.2.2.1, .ref u.2.2.2.2.2.2.2.2.2.2.2.2.2.2.2.2.2.2.2.2.1, .ref u.2.2.2.2.2.2.2.2.2.2.2.2.2.2.2.2.2.2.2.2.2.2.2.2.2.2.1, .ref u.2.2.2.2.2.2.2.2.2.2.2.2.2.2.2.2.2.2.2.2.2.2.2.2.2.2.2.2.1, .ref u.2.2.2.2.2.2.2.2.2.2.2.2.2.2.2.2.2.2.2.2.2.2.2.2.2.2.2.2.2.1, .ref u.2.2.2.2.2.2.2.2.2.2.2.2.2.2.2.2.2.2.2.2.2.2.2.2.2.2.2.2.2.2.2.1, .ref u.2.2.2.2.2.2.2.2.2.2.2.2.2.2.2.2.2.1, .ref a6, .int 1, .int 0])), (u.2.2.2.2.2.2.2.2.2.2.2.2.2.2.2.1, .inl (cy 1, 1830, .inl (fillF (fun _ => 0) 2 20 (PP 20 2 (20 + 1 - 2))))), (u.2.2.2.1, .inl (cy 1, 0, .inl (fun _ => 0))), (u.2.2.2.2.2.2.2.2.2.2.2.2.2.2.2.2.2.2.2.2.2.2.2.2.2.2.2.2.2.2.2.2.2.1, .inl (cy 1, 1830, .inl (learnF 0 1830))), (u.2.2.2.2.2.1, .inl (cy 1, 0, .inl (fun _ => 0))), (u.2.2.2.2.2.2.2.2.2.2.2.2.2.2.2.2.2.2.2.2.2.2.2.2.2.2.2.2.2.2.2.2.2.2.1, .inl (cy 1, 1830, .inl (learnF 2 1830))), (u.2.1, .inr (4, [.ref u.2.2.1, .ref u.2.2.2.2.2.2.2.2.2.2.2.2.1, .int 0, .ref u.2.2.2.2.2.2.2.2.2.2.2.2.2.1])), (u.2.2.1, .inl (cy 5, 9, .inr (.inr (.inr (.inr (va_up (va_up (va_up (va_up (va_up (va_up (va_up (va_up (va_up (va_up (va_up (va_up (fun _ => none) 0 (some u.2.2.2.1)) 1 (some u.2.2.2.2.1)) 2 (some u.2.2.2.2.2.1)) 3 (some u.2.2.2.2.2.2.1)) 4 (some u.2.2.2.2.2.2.2.1)) 5 (some u.2.2.2.2.2.2.2.2.1)) 6 (some u.2.2.2.2.2.2.2.2.2.1)) 7 (some u.2.2.2.2.2.2.2.2.2.2.1)) 8 (some u.2.2.2.2.2.2.2.2.2.2.2.1)) 0 (some u.2.2.2.2.2.2.2.2.2.2.2.2.2.2.2.2.2.2.2.2.2.2.2.2.2.2.2.2.2.2.2.2.2.1)) 2 (some u.2.2.2.2.2.2.2.2.2.2.2.2.2.2.2.2.2.2.2.2.2.2.2.2.2.2.2.2.2.2.2.2.2.2.1)) 3 (some u.2.2.2.2.2.2.2.2.2.2.2.2.2.2.2.2.2.2.2.2.2.2.2.2.2.2.2.2.2.2.2.2.2.2.2))))))), (u.2.2.2.2.2.2.1, .inl (cy 1, 0, .inl (fun _ => 0))), (u.2.2.2.2.2.2.2.2.2.2.2.2.2.2.2.2.2.2.2.2.2.2.2.2.2.2.2.2.2.2.2.2.2.2.2, .inl (cy 1, 1830, .inl (learnF 3 1830))), (u.2.2.2.2.2.2.2.2.2.2.2.2.2.2.2.2.2.2.2.2.1, .inr (1, [.ref u.2.2.2.2.2.2.2.2.2.2.2.2.2.2.2.2.2.2.2.2.2.1, .ref a6, .int (-2), .int (-2), .ref u.2.2.2.2.2.2.2.2.2.2.2.2.2.2.2.2.2.2.2.2.2.2.2.1, .int 0, .int 0, .int 0, .int 0, .int (-1), .int 0, .ref u.2.2.2.2.2.2.2.2.2.2.2.2.2.2.2.2.2.2.2.2.2.2.2.2.1, .ref u.2.2.2.2.2.2.2.2.2.2.2.2.2.2.2.2.2.2.2.2.2.2.2.2.2.1])), (u.2.2.2.2.2.2.2.2.2.2.2.2.2.2.2.2.2.2.2.2.2.2.2.1, .inl (cy 1, 6, .inl (upd (upd (upd (upd (upd (upd (fun _ => 0) 0 (-2)) 1 (-2)) 2 (-2)) 3 (-2)) 4 (-2)) 5 (-2)))), (u.2.2.2.2.2.2.2.2.2.2.2.2.2.2.2.2.2.2.2.2.2.2.2.2.2.2.1, .inr (3, [.ref u.2.1, .ref u.2.2.2.2.2.2.2.2.2.2.2.2.2.2.1, .ref a6, .int (-1), .int (-1), .ref u.2.2.2.2.2.2.2.2.2.2.2.2.2.2.2.2.2.2.2.2.2.2.2.2.2.2.2.1, .int 0, .int 0, .int 0])), (u.2.2.2.2.2.2.2.2.2.2.2.2.2.2.2.2.2.2.2.2.2.2.2.2.2.2.2.2.2.1, .inr (8, [.ref u.2.2.2.2.2.2.2.2.2.2.2.2.2.2.2.2.2.2.2.2.2.2.2.2.2.2.2.2.1, .int (-1), .int 0, .int 0, .int 0, .int 0, .int 0, .ref u.2.2.2.2.2.2.2.2.2.2.2.2.2.2.2.2.2.2.2.2.2.2.2.2.2.2.2.2.2.2.1])), (u.2.2.2.2.2.2.2.2.2.2.2.2.2.2.1, .inl (cy 1, 1830, .inl (fillF (fun _ => 0) 2 20 (PP 20 2 (20 + 1 - 2))))), (u.2.2.2.2.2.2.2.2.2.2.2.2.2.2.2.2.2.2.2.2.2.2.2.2.2.2.2.2.2.2.2.1, .inr (7, [.ref u.2.2.2.2.2.2.2.2.2.2.2.2.2.2.2.2.2.2.2.2.2.2.2.2.2.2.2.2.1, .int 5, .int 4, .int (-1), .int (-1), .ref u.2.2.2.2.2.2.2.2.2.2.2.2.2.2.2.2.2.2.2.2.2.2.2.2.2.2.2.2.2.2.2.2.1])), (u.2.2.2.2.2.2.2.2.2.2.2.2.2.2.2.2.2.2.2.2.2.2.2.2.2.2.2.2.1, .inr (0, [.ref u.2.1, .ref u.2.2.2.2.2.2.2.2.2.2.2.2.2.2.1, .ref a6, .int 0, .int 190])), (a6, .inr (9, [.int 0, .int 2, .int 20, .int 120, .int 0, .int 0, .int 0, .int 0, .ref a11, .int 0, .ref a12, .ref a13, .int 0, .ref a14, .ref a15, .ref a16, .ref a17]))]) := by
  refine Ct.of (by decide +kernel) (Nat.le_of_ble_eq_true rfl) ?_
  intro p e s m args below meth c A ls C hr hlocks hml hnm w hl
  have hl : lv_has ls 6 [(0, .ref a0), (1, .int 4), (2, .int 0)] := hl
  refine lv_iload_n C.1 C.2.1 dX11_shortest_0 rfl (lv_at hl 2 rfl) ?_
  refine lv_bipush (v := 10) C.1 C.2.1 dX11_shortest_1 (by decide) ?_
  refine r_isub C (v := (-10)) dX11_shortest_3 (by decide) ?_
  refine lv_istore_n (lv' := [(3, .int (-10)), (0, .ref a0), (1, .int 4), (2, .int 0)]) C.1 C.2.1 dX11_shortest_4 rfl hl (by decide) rfl (fun ls hl => ?_)
  refine lv_iload_n C.1 C.2.1 dX11_shortest_5 rfl (lv_at hl 3 rfl) ?_
  refine lv_bipush (v := 10) C.1 C.2.1 dX11_shortest_6 (by decide) ?_
  refine b_icmp_lt_t C (tgt := 20) dX11_shortest_8 (by decide) (by decide) ?_
  refine lv_iconst (v := 0) C.1 C.2.1 dX11_shortest_20 (by decide) ?_
  refine lv_istore (lv' := [(4, .int 0), (3, .int (-10)), (0, .ref a0), (1, .int 4), (2, .int 0)]) C.1 C.2.1 dX11_shortest_21 hl (by decide) rfl (fun ls hl => ?_)
  refine lv_iload_n C.1 C.2.1 dX11_shortest_23 rfl (lv_at hl 3 rfl) ?_
  refine lv_iconst (v := 1) C.1 C.2.1 dX11_shortest_24 (by decide) ?_
  refine b_icmp_lt_f C (tgt := 47) dX11_shortest_25 (by decide) (by decide) ?_
  refine lv_iload_n C.1 C.2.1 dX11_shortest_28 rfl (lv_at hl 3 rfl) ?_
  refine lv_iconst (v := 4) C.1 C.2.1 dX11_shortest_29 (by decide) ?_
  refine b_icmp_gt_f C (tgt := 47) dX11_shortest_30 (by decide) (by decide) ?_
  refine lv_iload_n C.1 C.2.1 dX11_shortest_33 rfl (lv_at hl 4 rfl) ?_
  refine b_if_eq_t C (tgt := 58) dX11_shortest_34 (by decide) (by decide) ?_
  refine lv_aload_n C.1 C.2.1 dX11_shortest_58 rfl (lv_at hl 2 rfl) ?_
  refine r_callV C w fv_RX11_100 (c_X11_view_0 l D cy a0 a1 a2 a3 a4 a5 a6 a11 a12 a13 a14 a15 a16 a17) (hl.1.trans hml.symm) [0, 1] [] (wr := []) ⟨rfl, rfl, rfl, rfl, by decide⟩ 0 rfl rfl rfl rfl rfl ⟨Nat.le_of_ble_eq_true rfl, Nat.le_of_ble_eq_true rfl, Nat.le_of_ble_eq_true rfl⟩ 36 23817 ⟨rfl, rfl, Nat.le_of_ble_eq_true rfl, Nat.le_of_ble_eq_true rfl⟩ dX11_shortest_59 (fun u H locs hp w => ?_)
  obtain ⟨n1, n2, n3, n4, n5, n6, n7, n8, n9, n10, n11, n12, n13, n14, n15, n16, n17, n18, n19, n20, n21, n22, n23, n24, n25, n26, n27, n28, n29, n30, n31, n32, n33, n34, n35, n36⟩ := u
  have w : Wd D A s.heap [(a0, .inr (11, [.ref a1, .int 0, .int 0, .int (-1), .ref a2, .ref a3, .ref a4, .ref a5, .ref a6, .ref n1])), (n5, .inl (cy 1, 0, .inl (fun _ => 0))), (n8, .inl (cy 1, 0, .inl (fun _ => 0))), (n9, .inl (cy 1, 0, .inl (fun _ => 0))), (n10, .inl (cy 1, 0, .inl (fun _ => 0))), (n11, .inl (cy 1, 0, .inl (fun _ => 0))), (n12, .inl (cy 1, 0, .inl (fun _ => 0))), (n13, .inl (cy 1, 7201, .inl (fun _ => 0))), (n14, .inl (cy 1, 1830, .inl (fun _ => 0))), (n15, .inl (cy 1, 1830, .inl (fun _ => 0))), (n17, .inl (cy 1, 1830, .inl (fun _ => 0))), (n19, .inl (cy 1, 1830, .inl (fun _ => 0))), (n18, .inr (2, [.ref n2, .ref n19, .ref n20, .ref a6, .int 0])), (n20, .inl (cy 1, 21, .inl (fun _ => 0))), (n22, .inr (2, [.ref n2, .ref n15, .ref n23, .ref a6, .int 0])), (n23, .inl (cy 1, 21, .inl (fun _ => 0))), (n25, .inl (cy 1, 6, .inl (fun _ => 0))), (n26, .inl (cy 1, 6, .inl (fun _ => 0))), (n28, .inl (cy 1, 1830, .inl (fun _ => 0))), (n31, .inl (cy 1, 5, .inl (fun _ => 0))), (n33, .inl (cy 1, 4, .inl (fun _ => 0))), (n1, .inr (6, [.ref n2, .ref n16, .int 190, .ref n17, .ref n21, .ref n27, .ref n29, .ref n30, .ref n32, .ref n18, .ref a6, .int 1, .int 0])), (n16, .inl (cy 1, 1830, .inl (fillF (fun _ => 0) 2 20 (PP 20 2 (20 + 1 - 2))))), (a6, .inr (9, [.int 0, .int 2, .int 20, .int 120, .int 0, .int 0, .int 0, .int 0, .ref a11, .int 0, .ref a12, .ref a13, .int 0, .ref a14, .ref a15, .ref a16, .ref a17])), (n4, .inl (cy 1, 0, .inl (fun _ => 0))), (n34, .inl (cy 1, 1830, .inl (learnF 0 1830))), (n6, .inl (cy 1, 0, .inl (fun _ => 0))), (n35, .inl (cy 1, 1830, .inl (learnF 2 1830))), (n2, .inr (4, [.ref n3, .ref n13, .int 0, .ref n14])), (n3, .inl (cy 5, 9, .inr (.inr (.inr (.inr (va_up (va_up (va_up (va_up (va_up (va_up (va_up (va_up (va_up (va_up (va_up (va_up (fun _ => none) 0 (some n4)) 1 (some n5)) 2 (some n6)) 3 (some n7)) 4 (some n8)) 5 (some n9)) 6 (some n10)) 7 (some n11)) 8 (some n12)) 0 (some n34)) 2 (some n35)) 3 (some n36))))))), (n7, .inl (cy 1, 0, .inl (fun _ => 0))), (n36, .inl (cy 1, 1830, .inl (learnF 3 1830))), (n21, .inr (1, [.ref n22, .ref a6, .int (-2), .int (-2), .ref n24, .int 0, .int 0, .int 0, .int 0, .int (-1), .int 0, .ref n25, .ref n26])), (n24, .inl (cy 1, 6, .inl (upd (upd (upd (upd (upd (upd (fun _ => 0) 0 (-2)) 1 (-2)) 2 (-2)) 3 (-2)) 4 (-2)) 5 (-2)))), (n27, .inr (3, [.ref n2, .ref n15, .ref a6, .int (-1), .int (-1), .ref n28, .int 0, .int 0, .int 0])), (n29, .inr (0, [.ref n2, .ref n15, .ref a6, .int 0, .int 0])), (n30, .inr (8, [.ref n29, .int (-1), .int 0, .int 0, .int 0, .int 0, .int 0, .ref n31])), (n32, .inr (7, [.ref n29, .int 0, .int (-1), .int (-1), .int (-1), .ref n33]))] _ _ := w
  refine r_top (g2 := F0 m 62 ls [.ref n1]) rfl ?_
  refine r_get C w 21 rfl rfl 8 (by decide) fl_RX11_258 (v := .ref n32) rfl dX11_shortest_62 ?_
  refine lv_astore (lv' := [(5, .ref n32), (4, .int 0), (3, .int (-10)), (0, .ref a0), (1, .int 4), (2, .int 0)]) C.1 C.2.1 dX11_shortest_65 hl (by decide) rfl (fun ls hl => ?_)
  refine lv_aload C.1 C.2.1 dX11_shortest_67 (lv_at hl 0 rfl) ?_
  refine lv_iload_n C.1 C.2.1 dX11_shortest_69 rfl (lv_at hl 4 rfl) ?_
  refine r_callV C w fv_RX11_262 (c_X7_seek_8 l D cy n32 n29 n33 n2 n15 a6 a11 a12 a13 a14 a15 a16 a17) (hl.1.trans hml.symm) [37, 35, 9, 23] [0, 1, 2, 3, 4, 5, 6, 7, 8, 10, 11, 12, 13, 14, 15, 16, 17, 18, 19, 20, 21, 22, 24, 25, 26, 27, 28, 29, 30, 31, 32, 33, 34, 36] (wr := [(a0, .inr (11, [.ref a1, .int 0, .int 0, .int (-1), .ref a2, .ref a3, .ref a4, .ref a5, .ref a6, .ref n1])), (n5, .inl (cy 1, 0, .inl (fun _ => 0))), (n8, .inl (cy 1, 0, .inl (fun _ => 0))), (n9, .inl (cy 1, 0, .inl (fun _ => 0))), (n10, .inl (cy 1, 0, .inl (fun _ => 0))), (n11, .inl (cy 1, 0, .inl (fun _ => 0))), (n12, .inl (cy 1, 0, .inl (fun _ => 0))), (n13, .inl (cy 1, 7201, .inl (fun _ => 0))), (n14, .inl (cy 1, 1830, .inl (fun _ => 0))), (n17, .inl (cy 1, 1830, .inl (fun _ => 0))), (n19, .inl (cy 1, 1830, .inl (fun _ => 0))), (n18, .inr (2, [.ref n2, .ref n19, .ref n20, .ref a6, .int 0])), (n20, .inl (cy 1, 21, .inl (fun _ => 0))), (n22, .inr (2, [.ref n2, .ref n15, .ref n23, .ref a6, .int 0])), (n23, .inl (cy 1, 21, .inl (fun _ => 0))), (n25, .inl (cy 1, 6, .inl (fun _ => 0))), (n26, .inl (cy 1, 6, .inl (fun _ => 0))), (n28, .inl (cy 1, 1830, .inl (fun _ => 0))), (n31, .inl (cy 1, 5, .inl (fun _ => 0))), (n33, .inl (cy 1, 4, .inl (fun _ => 0))), (n1, .inr (6, [.ref n2, .ref n16, .int 190, .ref n17, .ref n21, .ref n27, .ref n29, .ref n30, .ref n32, .ref n18, .ref a6, .int 1, .int 0])), (n16, .inl (cy 1, 1830, .inl (fillF (fun _ => 0) 2 20 (PP 20 2 (20 + 1 - 2))))), (n4, .inl (cy 1, 0, .inl (fun _ => 0))), (n34, .inl (cy 1, 1830, .inl (learnF 0 1830))), (n6, .inl (cy 1, 0, .inl (fun _ => 0))), (n35, .inl (cy 1, 1830, .inl (learnF 2 1830))), (n2, .inr (4, [.ref n3, .ref n13, .int 0, .ref n14])), (n3, .inl (cy 5, 9, .inr (.inr (.inr (.inr (va_up (va_up (va_up (va_up (va_up (va_up (va_up (va_up (va_up (va_up (va_up (va_up (fun _ => none) 0 (some n4)) 1 (some n5)) 2 (some n6)) 3 (some n7)) 4 (some n8)) 5 (some n9)) 6 (some n10)) 7 (some n11)) 8 (some n12)) 0 (some n34)) 2 (some n35)) 3 (some n36))))))), (n7, .inl (cy 1, 0, .inl (fun _ => 0))), (n36, .inl (cy 1, 1830, .inl (learnF 3 1830))), (n21, .inr (1, [.ref n22, .ref a6, .int (-2), .int (-2), .ref n24, .int 0, .int 0, .int 0, .int 0, .int (-1), .int 0, .ref n25, .ref n26])), (n24, .inl (cy 1, 6, .inl (upd (upd (upd (upd (upd (upd (fun _ => 0) 0 (-2)) 1 (-2)) 2 (-2)) 3 (-2)) 4 (-2)) 5 (-2)))), (n27, .inr (3, [.ref n2, .ref n15, .ref a6, .int (-1), .int (-1), .ref n28, .int 0, .int 0, .int 0])), (n30, .inr (8, [.ref n29, .int (-1), .int 0, .int 0, .int 0, .int 0, .int 0, .ref n31]))]) ⟨rfl, rfl, rfl, rfl, by decide⟩ 0 rfl rfl rfl rfl rfl ⟨Nat.le_of_ble_eq_true rfl, Nat.le_of_ble_eq_true rfl, Nat.le_of_ble_eq_true rfl⟩ 36 23817 ⟨rfl, rfl, Nat.le_of_ble_eq_true rfl, Nat.le_of_ble_eq_true rfl⟩ dX11_shortest_70 (fun u H locs hp w => ?_)
  have w : Wd D A s.heap [(a0, .inr (11, [.ref a1, .int 0, .int 0, .int (-1), .ref a2, .ref a3, .ref a4, .ref a5, .ref a6, .ref n1])), (n5, .inl (cy 1, 0, .inl (fun _ => 0))), (n8, .inl (cy 1, 0, .inl (fun _ => 0))), (n9, .inl (cy 1, 0, .inl (fun _ => 0))), (n10, .inl (cy 1, 0, .inl (fun _ => 0))), (n11, .inl (cy 1, 0, .inl (fun _ => 0))), (n12, .inl (cy 1, 0, .inl (fun _ => 0))), (n13, .inl (cy 1, 7201, .inl (fun _ => 0))), (n14, .inl (cy 1, 1830, .inl (fun _ => 0))), (n17, .inl (cy 1, 1830, .inl (fun _ => 0))), (n19, .inl (cy 1, 1830, .inl (fun _ => 0))), (n18, .inr (2, [.ref n2, .ref n19, .ref n20, .ref a6, .int 0])), (n20, .inl (cy 1, 21, .inl (fun _ => 0))), (n22, .inr (2, [.ref n2, .ref n15, .ref n23, .ref a6, .int 0])), (n23, .inl (cy 1, 21, .inl (fun _ => 0))), (n25, .inl (cy 1, 6, .inl (fun _ => 0))), (n26, .inl (cy 1, 6, .inl (fun _ => 0))), (n28, .inl (cy 1, 1830, .inl (fun _ => 0))), (n31, .inl (cy 1, 5, .inl (fun _ => 0))), (n33, .inl (cy 1, 4, .inl (fun _ => 0))), (n1, .inr (6, [.ref n2, .ref n16, .int 190, .ref n17, .ref n21, .ref n27, .ref n29, .ref n30, .ref n32, .ref n18, .ref a6, .int 1, .int 0])), (n16, .inl (cy 1, 1830, .inl (fillF (fun _ => 0) 2 20 (PP 20 2 (20 + 1 - 2))))), (n4, .inl (cy 1, 0, .inl (fun _ => 0))), (n34, .inl (cy 1, 1830, .inl (learnF 0 1830))), (n6, .inl (cy 1, 0, .inl (fun _ => 0))), (n35, .inl (cy 1, 1830, .inl (learnF 2 1830))), (n2, .inr (4, [.ref n3, .ref n13, .int 0, .ref n14])), (n3, .inl (cy 5, 9, .inr (.inr (.inr (.inr (va_up (va_up (va_up (va_up (va_up (va_up (va_up (va_up (va_up (va_up (va_up (va_up (fun _ => none) 0 (some n4)) 1 (some n5)) 2 (some n6)) 3 (some n7)) 4 (some n8)) 5 (some n9)) 6 (some n10)) 7 (some n11)) 8 (some n12)) 0 (some n34)) 2 (some n35)) 3 (some n36))))))), (n7, .inl (cy 1, 0, .inl (fun _ => 0))), (n36, .inl (cy 1, 1830, .inl (learnF 3 1830))), (n21, .inr (1, [.ref n22, .ref a6, .int (-2), .int (-2), .ref n24, .int 0, .int 0, .int 0, .int 0, .int (-1), .int 0, .ref n25, .ref n26])), (n24, .inl (cy 1, 6, .inl (upd (upd (upd (upd (upd (upd (fun _ => 0) 0 (-2)) 1 (-2)) 2 (-2)) 3 (-2)) 4 (-2)) 5 (-2)))), (n27, .inr (3, [.ref n2, .ref n15, .ref a6, .int (-1), .int (-1), .ref n28, .int 0, .int 0, .int 0])), (n30, .inr (8, [.ref n29, .int (-1), .int 0, .int 0, .int 0, .int 0, .int 0, .ref n31])), (n15, .inl (cy 1, 1830, .inl (fillF (fun _ => 0) 2 20 (PP 20 2 (20 + 1 - 2))))), (n32, .inr (7, [.ref n29, .int 5, .int 4, .int (-1), .int (-1), .ref n33])), (n29, .inr (0, [.ref n2, .ref n15, .ref a6, .int 0, .int 190])), (a6, .inr (9, [.int 0, .int 2, .int 20, .int 120, .int 0, .int 0, .int 0, .int 0, .ref a11, .int 0, .ref a12, .ref a13, .int 0, .ref a14, .ref a15, .ref a16, .ref a17]))] _ _ := w
  refine r_top (g2 := F0 m 73 ls []) rfl ?_
  refine lv_aload C.1 C.2.1 dX11_shortest_73 (lv_at hl 0 rfl) ?_
  refine r_get C w 35 rfl rfl 3 (by decide) fl_RX11_264 (v := .int (-1)) rfl dX11_shortest_75 ?_
  refine lv_iconst (v := (-1)) C.1 C.2.1 dX11_shortest_78 (by decide) ?_
  refine b_icmp_eq_t C (tgt := 91) dX11_shortest_79 (by decide) (by decide) ?_
  refine lv_iconst (v := (-1)) C.1 C.2.1 dX11_shortest_91 (by decide) ?_
  exact r_iret C w hlocks (n1, n2, n3, n4, n5, n6, n7, n8, n9, n10, n11, n12, n13, n14, n15, n16, n17, n18, n19, n20, n21, n22, n23, n24, n25, n26, n27, n28, n29, n30, n31, n32, n33, n34, n35, n36) hr rfl rfl trivial [0, 1, 2, 3, 4, 5, 6, 7, 8, 9, 10, 11, 12, 13, 14, 15, 16, 17, 18, 19, 20, 21, 22, 23, 24, 25, 26, 27, 28, 29, 30, 31, 32, 33, 34, 35, 36, 37] rfl rfl ⟨Nat.le_of_ble_eq_true rfl, Nat.le_of_ble_eq_true rfl⟩ dX11_shortest_92
set_option maxRecDepth 100000 in
set_option maxHeartbeats 4000000 in
theorem c_X7_seek_9 (l : Launch) (D : va_G) (cy : Nat → ClassId) (a0 a1 a2 a3 a4 a5 a9 a10 a11 a12 a13 a14 a15 : Nat) : Ct l D cy yX7_seek cX7_seek 3 none 3 78 0 0 [(a0, .inr (7, [.ref a1, .int 0, .int (-1), .int (-1), .int (-1), .ref a2])), (a1, .inr (0, [.ref a3, .ref a4, .ref a5, .int 0, .int 0])), (a4, .inl (cy 1, 1830, .inl (fun _ => 0))), (a5, .inr (9, [.int 0, .int 2, .int 20, .int 120, .int 0, .int 0, .int 0, .int 0, .ref a9, .int 0, .ref a10, .ref a11, .int 0, .ref a12, .ref a13, .ref a14, .ref a15]))] [.ref a0, .int 3] (fun u : Unit => none) (fun _ => True) (fun u : Unit => [(a4, .inl (cy 1, 1830, .inl (fillF (fun _ => 0) 2 20 (PP 20 2 (20 + 1 - 2))))), (a0, .inr (7, [.ref a1, .int 4, .int 3, .int (-1), .int (-1), .ref a2])), (a1, .inr (0, [.ref a3, .ref a4, .ref a5, .int 0, .int 190])), (a5, .inr (9, [.int 0, .int 2, .int 20, .int 120, .int 0, .int 0, .int 0, .int 0, .ref a9, .int 0, .ref a10, .ref a11, .int 0, .ref a12, .ref a13, .ref a14, .ref a15]))]) := by
  refine Ct.of (by decide +kernel) (Nat.le_of_ble_eq_true rfl) ?_
  intro p e s m args below meth c A ls C hr hlocks hml hnm w hl
  have hl : lv_has ls 3 [(0, .ref a0), (1, .int 3)] := hl
  refine lv_aload_n C.1 C.2.1 dX7_seek_0 rfl (lv_at hl 0 rfl) ?_
  refine r_get C w 0 rfl rfl 3 (by decide) fl_RX7_15 (v := .int (-1)) rfl dX7_seek_1 ?_
  refine lv_iconst (v := (-1)) C.1 C.2.1 dX7_seek_4 (by decide) ?_
  refine b_icmp_ne_f C (tgt := 16) dX7_seek_5 (by decide) (by decide) ?_
  refine lv_aload_n C.1 C.2.1 dX7_seek_8 rfl (lv_at hl 0 rfl) ?_
  refine r_get C w 0 rfl rfl 2 (by decide) fl_RX7_9 (v := .int (-1)) rfl dX7_seek_9 ?_
  refine lv_iload_n C.1 C.2.1 dX7_seek_12 rfl (lv_at hl 1 rfl) ?_
  refine b_icmp_lt_t C (tgt := 17) dX7_seek_13 (by decide) (by decide) ?_
  refine lv_aload_n C.1 C.2.1 dX7_seek_17 rfl (lv_at hl 0 rfl) ?_
  refine r_get C w 0 rfl rfl 0 (by decide) fl_RX7_25 (v := .ref a1) rfl dX7_seek_18 ?_
  refine r_callV C w fv_RX7_29 (c_X0_begin_0 l D cy a1 a3 a4 a5 a9 a10 a11 a12 a13 a14 a15) (hl.1.trans hml.symm) [1, 2, 3] [0] (wr := [(a0, .inr (7, [.ref a1, .int 0, .int (-1), .int (-1), .int (-1), .ref a2]))]) ⟨rfl, rfl, rfl, rfl, by decide⟩ 0 rfl rfl rfl rfl rfl ⟨Nat.le_of_ble_eq_true rfl, Nat.le_of_ble_eq_true rfl, Nat.le_of_ble_eq_true rfl⟩ 0 0 ⟨rfl, rfl, Nat.le_of_ble_eq_true rfl, Nat.le_of_ble_eq_true rfl⟩ dX7_seek_21 (fun u H locs hp w => ?_)
  have w : Wd D A s.heap [(a0, .inr (7, [.ref a1, .int 0, .int (-1), .int (-1), .int (-1), .ref a2])), (a1, .inr (0, [.ref a3, .ref a4, .ref a5, .int 0, .int 190])), (a4, .inl (cy 1, 1830, .inl (fillF (fun _ => 0) 2 20 (PP 20 2 (20 + 1 - 2))))), (a5, .inr (9, [.int 0, .int 2, .int 20, .int 120, .int 0, .int 0, .int 0, .int 0, .ref a9, .int 0, .ref a10, .ref a11, .int 0, .ref a12, .ref a13, .ref a14, .ref a15]))] _ _ := w
  refine r_top (g2 := F0 m 24 ls []) rfl ?_
  refine lv_aload_n C.1 C.2.1 dX7_seek_24 rfl (lv_at hl 0 rfl) ?_
  refine r_get C w 0 rfl rfl 0 (by decide) fl_RX7_25 (v := .ref a1) rfl dX7_seek_25 ?_
  refine r_get C w 1 rfl rfl 4 (by decide) fl_RX7_34 (v := .int 190) rfl dX7_seek_28 ?_
  refine lv_istore_n (lv' := [(2, .int 190), (0, .ref a0), (1, .int 3)]) C.1 C.2.1 dX7_seek_31 rfl hl (by decide) rfl (fun ls hl => ?_)
  refine lv_aload_n C.1 C.2.1 dX7_seek_32 rfl (lv_at hl 1 rfl) ?_
  refine r_get C w 0 rfl rfl 2 (by decide) fl_RX7_9 (v := .int (-1)) rfl dX7_seek_33 ?_
  refine lv_iconst (v := (-1)) C.1 C.2.1 dX7_seek_36 (by decide) ?_
  refine b_icmp_ne_f C (tgt := 63) dX7_seek_37 (by decide) (by decide) ?_
  refine lv_iload_n C.1 C.2.1 dX7_seek_40 rfl (lv_at hl 0 rfl) ?_
  refine lv_iconst (v := 1) C.1 C.2.1 dX7_seek_41 (by decide) ?_
  refine b_icmp_ne_t C (tgt := 63) dX7_seek_42 (by decide) (by decide) ?_
  refine lv_aload_n C.1 C.2.1 dX7_seek_63 rfl (lv_at hl 1 rfl) ?_
  refine lv_aload_n C.1 C.2.1 dX7_seek_64 rfl (lv_at hl 1 rfl) ?_
  refine r_get C w 0 rfl rfl 2 (by decide) fl_RX7_9 (v := .int (-1)) rfl dX7_seek_65 ?_
  refine lv_iconst (v := 0) C.1 C.2.1 dX7_seek_68 (by decide) ?_
  refine r_mmax C (hl.1.trans hml.symm) ml_RX7_40 st_max it_math cd_max (v := 0) (by decide) ⟨Nat.le_of_ble_eq_true rfl, Nat.le_of_ble_eq_true rfl, Nat.le_of_ble_eq_true rfl, Nat.le_of_ble_eq_true rfl⟩ dX7_seek_69 ?_
  refine r_put C w 0 rfl rfl 2 (by decide) fl_RX7_9 rfl (ty := .int) (tyX7_ok 2 (by decide)) rfl rfl (Nat.le_of_ble_eq_true rfl) [(a0, .inr (7, [.ref a1, .int 0, .int 0, .int (-1), .int (-1), .ref a2])), (a1, .inr (0, [.ref a3, .ref a4, .ref a5, .int 0, .int 190])), (a4, .inl (cy 1, 1830, .inl (fillF (fun _ => 0) 2 20 (PP 20 2 (20 + 1 - 2))))), (a5, .inr (9, [.int 0, .int 2, .int 20, .int 120, .int 0, .int 0, .int 0, .int 0, .ref a9, .int 0, .ref a10, .ref a11, .int 0, .ref a12, .ref a13, .ref a14, .ref a15]))] rfl dX7_seek_72 (fun H locs w => ?_)
  refine lv_aload_n C.1 C.2.1 dX7_seek_75 rfl (lv_at hl 1 rfl) ?_
  refine lv_aload_n C.1 C.2.1 dX7_seek_76 rfl (lv_at hl 1 rfl) ?_
  refine r_get C w 0 rfl rfl 2 (by decide) fl_RX7_9 (v := .int 0) rfl dX7_seek_77 ?_
  refine lv_iconst (v := 1) C.1 C.2.1 dX7_seek_80 (by decide) ?_
  refine r_iadd C (v := 1) dX7_seek_81 (by decide) ?_
  refine r_put C w 0 rfl rfl 1 (by decide) fl_RX7_46 rfl (ty := .int) (tyX7_ok 1 (by decide)) rfl rfl (Nat.le_of_ble_eq_true rfl) [(a0, .inr (7, [.ref a1, .int 1, .int 0, .int (-1), .int (-1), .ref a2])), (a1, .inr (0, [.ref a3, .ref a4, .ref a5, .int 0, .int 190])), (a4, .inl (cy 1, 1830, .inl (fillF (fun _ => 0) 2 20 (PP 20 2 (20 + 1 - 2))))), (a5, .inr (9, [.int 0, .int 2, .int 20, .int 120, .int 0, .int 0, .int 0, .int 0, .ref a9, .int 0, .ref a10, .ref a11, .int 0, .ref a12, .ref a13, .ref a14, .ref a15]))] rfl dX7_seek_82 (fun H locs w => ?_)
  refine lv_aload_n C.1 C.2.1 dX7_seek_85 rfl (lv_at hl 1 rfl) ?_
  refine r_get C w 0 rfl rfl 1 (by decide) fl_RX7_46 (v := .int 1) rfl dX7_seek_86 ?_
  refine lv_iload_n C.1 C.2.1 dX7_seek_89 rfl (lv_at hl 2 rfl) ?_
  refine b_icmp_gt_f C (tgt := 149) dX7_seek_90 (by decide) (by decide) ?_
  refine lv_aload_n C.1 C.2.1 dX7_seek_93 rfl (lv_at hl 1 rfl) ?_
  refine r_get C w 0 rfl rfl 1 (by decide) fl_RX7_46 (v := .int 1) rfl dX7_seek_94 ?_
  refine lv_iconst (v := 4) C.1 C.2.1 dX7_seek_97 (by decide) ?_
  refine b_icmp_gt_f C (tgt := 149) dX7_seek_98 (by decide) (by decide) ?_
  refine lv_aload_n C.1 C.2.1 dX7_seek_101 rfl (lv_at hl 1 rfl) ?_
  refine r_get C w 0 rfl rfl 3 (by decide) fl_RX7_15 (v := .int (-1)) rfl dX7_seek_102 ?_
  refine lv_iconst (v := (-1)) C.1 C.2.1 dX7_seek_105 (by decide) ?_
  refine b_icmp_ne_f C (tgt := 149) dX7_seek_106 (by decide) (by decide) ?_
  refine lv_aload_n C.1 C.2.1 dX7_seek_109 rfl (lv_at hl 1 rfl) ?_
  refine lv_iconst (v := 0) C.1 C.2.1 dX7_seek_110 (by decide) ?_
  refine lv_iconst (v := 0) C.1 C.2.1 dX7_seek_111 (by decide) ?_
  refine lv_iload_n C.1 C.2.1 dX7_seek_112 rfl (lv_at hl 0 rfl) ?_
  refine lv_iconst (v := (-1)) C.1 C.2.1 dX7_seek_113 (by decide) ?_
  refine r_callV C w fv_RX7_49 (c_X7_single_0 l D cy a0 a1 a2 a3 a4 a5 a9 a10 a11 a12 a13 a14 a15) (hl.1.trans hml.symm) [0, 1, 3] [2] (wr := [(a4, .inl (cy 1, 1830, .inl (fillF (fun _ => 0) 2 20 (PP 20 2 (20 + 1 - 2)))))]) ⟨rfl, rfl, rfl, rfl, by decide⟩ 0 rfl rfl rfl rfl rfl ⟨Nat.le_of_ble_eq_true rfl, Nat.le_of_ble_eq_true rfl, Nat.le_of_ble_eq_true rfl⟩ 0 0 ⟨rfl, rfl, Nat.le_of_ble_eq_true rfl, Nat.le_of_ble_eq_true rfl⟩ dX7_seek_114 (fun u H locs hp w => ?_)
  have w : Wd D A s.heap [(a4, .inl (cy 1, 1830, .inl (fillF (fun _ => 0) 2 20 (PP 20 2 (20 + 1 - 2))))), (a0, .inr (7, [.ref a1, .int 1, .int 0, .int (-1), .int (-1), .ref a2])), (a1, .inr (0, [.ref a3, .ref a4, .ref a5, .int 0, .int 190])), (a5, .inr (9, [.int 0, .int 2, .int 20, .int 120, .int 0, .int 0, .int 0, .int 0, .ref a9, .int 0, .ref a10, .ref a11, .int 0, .ref a12, .ref a13, .ref a14, .ref a15]))] _ _ := w
  refine r_top (g2 := F0 m 117 ls [.int 0]) rfl ?_
  refine b_if_eq_t C (tgt := 128) dX7_seek_117 (by decide) (by decide) ?_
  refine lv_aload_n C.1 C.2.1 dX7_seek_128 rfl (lv_at hl 1 rfl) ?_
  refine lv_aload_n C.1 C.2.1 dX7_seek_129 rfl (lv_at hl 1 rfl) ?_
  refine r_get C w 1 rfl rfl 1 (by decide) fl_RX7_46 (v := .int 1) rfl dX7_seek_130 ?_
  refine r_put C w 1 rfl rfl 2 (by decide) fl_RX7_9 rfl (ty := .int) (tyX7_ok 2 (by decide)) rfl rfl (Nat.le_of_ble_eq_true rfl) [(a4, .inl (cy 1, 1830, .inl (fillF (fun _ => 0) 2 20 (PP 20 2 (20 + 1 - 2))))), (a0, .inr (7, [.ref a1, .int 1, .int 1, .int (-1), .int (-1), .ref a2])), (a1, .inr (0, [.ref a3, .ref a4, .ref a5, .int 0, .int 190])), (a5, .inr (9, [.int 0, .int 2, .int 20, .int 120, .int 0, .int 0, .int 0, .int 0, .ref a9, .int 0, .ref a10, .ref a11, .int 0, .ref a12, .ref a13, .ref a14, .ref a15]))] rfl dX7_seek_133 (fun H locs w => ?_)
  refine lv_aload_n C.1 C.2.1 dX7_seek_136 rfl (lv_at hl 1 rfl) ?_
  refine lv_dup C.1 C.2.1 dX7_seek_137 rfl ?_
  refine r_get C w 1 rfl rfl 1 (by decide) fl_RX7_46 (v := .int 1) rfl dX7_seek_138 ?_
  refine lv_iconst (v := 1) C.1 C.2.1 dX7_seek_141 (by decide) ?_
  refine r_iadd C (v := 2) dX7_seek_142 (by decide) ?_
  refine r_put C w 1 rfl rfl 1 (by decide) fl_RX7_46 rfl (ty := .int) (tyX7_ok 1 (by decide)) rfl rfl (Nat.le_of_ble_eq_true rfl) [(a4, .inl (cy 1, 1830, .inl (fillF (fun _ => 0) 2 20 (PP 20 2 (20 + 1 - 2))))), (a0, .inr (7, [.ref a1, .int 2, .int 1, .int (-1), .int (-1), .ref a2])), (a1, .inr (0, [.ref a3, .ref a4, .ref a5, .int 0, .int 190])), (a5, .inr (9, [.int 0, .int 2, .int 20, .int 120, .int 0, .int 0, .int 0, .int 0, .ref a9, .int 0, .ref a10, .ref a11, .int 0, .ref a12, .ref a13, .ref a14, .ref a15]))] rfl dX7_seek_143 (fun H locs w => ?_)
  refine lv_goto (tgt := 85) C.1 C.2.1 dX7_seek_146 (by decide) ?_
  refine lv_aload_n C.1 C.2.1 dX7_seek_85 rfl (lv_at hl 1 rfl) ?_
  refine r_get C w 1 rfl rfl 1 (by decide) fl_RX7_46 (v := .int 2) rfl dX7_seek_86 ?_
  refine lv_iload_n C.1 C.2.1 dX7_seek_89 rfl (lv_at hl 2 rfl) ?_
  refine b_icmp_gt_f C (tgt := 149) dX7_seek_90 (by decide) (by decide) ?_
  refine lv_aload_n C.1 C.2.1 dX7_seek_93 rfl (lv_at hl 1 rfl) ?_
  refine r_get C w 1 rfl rfl 1 (by decide) fl_RX7_46 (v := .int 2) rfl dX7_seek_94 ?_
  refine lv_iconst (v := 4) C.1 C.2.1 dX7_seek_97 (by decide) ?_
  refine b_icmp_gt_f C (tgt := 149) dX7_seek_98 (by decide) (by decide) ?_
  refine lv_aload_n C.1 C.2.1 dX7_seek_101 rfl (lv_at hl 1 rfl) ?_
  refine r_get C w 1 rfl rfl 3 (by decide) fl_RX7_15 (v := .int (-1)) rfl dX7_seek_102 ?_
  refine lv_iconst (v := (-1)) C.1 C.2.1 dX7_seek_105 (by decide) ?_
  refine b_icmp_ne_f C (tgt := 149) dX7_seek_106 (by decide) (by decide) ?_
  refine lv_aload_n C.1 C.2.1 dX7_seek_109 rfl (lv_at hl 1 rfl) ?_
  refine lv_iconst (v := 0) C.1 C.2.1 dX7_seek_110 (by decide) ?_
  refine lv_iconst (v := 0) C.1 C.2.1 dX7_seek_111 (by decide) ?_
  refine lv_iload_n C.1 C.2.1 dX7_seek_112 rfl (lv_at hl 0 rfl) ?_
  refine lv_iconst (v := (-1)) C.1 C.2.1 dX7_seek_113 (by decide) ?_
  refine r_callV C w fv_RX7_49 (c_X7_single_1 l D cy a0 a1 a2 a3 a4 a5 a9 a10 a11 a12 a13 a14 a15) (hl.1.trans hml.symm) [1, 2, 3] [0] (wr := [(a4, .inl (cy 1, 1830, .inl (fillF (fun _ => 0) 2 20 (PP 20 2 (20 + 1 - 2)))))]) ⟨rfl, rfl, rfl, rfl, by decide⟩ 0 rfl rfl rfl rfl rfl ⟨Nat.le_of_ble_eq_true rfl, Nat.le_of_ble_eq_true rfl, Nat.le_of_ble_eq_true rfl⟩ 0 0 ⟨rfl, rfl, Nat.le_of_ble_eq_true rfl, Nat.le_of_ble_eq_true rfl⟩ dX7_seek_114 (fun u H locs hp w => ?_)
  have w : Wd D A s.heap [(a4, .inl (cy 1, 1830, .inl (fillF (fun _ => 0) 2 20 (PP 20 2 (20 + 1 - 2))))), (a0, .inr (7, [.ref a1, .int 2, .int 1, .int (-1), .int (-1), .ref a2])), (a1, .inr (0, [.ref a3, .ref a4, .ref a5, .int 0, .int 190])), (a5, .inr (9, [.int 0, .int 2, .int 20, .int 120, .int 0, .int 0, .int 0, .int 0, .ref a9, .int 0, .ref a10, .ref a11, .int 0, .ref a12, .ref a13, .ref a14, .ref a15]))] _ _ := w
  refine r_top (g2 := F0 m 117 ls [.int 0]) rfl ?_
  refine b_if_eq_t C (tgt := 128) dX7_seek_117 (by decide) (by decide) ?_
  refine lv_aload_n C.1 C.2.1 dX7_seek_128 rfl (lv_at hl 1 rfl) ?_
  refine lv_aload_n C.1 C.2.1 dX7_seek_129 rfl (lv_at hl 1 rfl) ?_
  refine r_get C w 1 rfl rfl 1 (by decide) fl_RX7_46 (v := .int 2) rfl dX7_seek_130 ?_
  refine r_put C w 1 rfl rfl 2 (by decide) fl_RX7_9 rfl (ty := .int) (tyX7_ok 2 (by decide)) rfl rfl (Nat.le_of_ble_eq_true rfl) [(a4, .inl (cy 1, 1830, .inl (fillF (fun _ => 0) 2 20 (PP 20 2 (20 + 1 - 2))))), (a0, .inr (7, [.ref a1, .int 2, .int 2, .int (-1), .int (-1), .ref a2])), (a1, .inr (0, [.ref a3, .ref a4, .ref a5, .int 0, .int 190])), (a5, .inr (9, [.int 0, .int 2, .int 20, .int 120, .int 0, .int 0, .int 0, .int 0, .ref a9, .int 0, .ref a10, .ref a11, .int 0, .ref a12, .ref a13, .ref a14, .ref a15]))] rfl dX7_seek_133 (fun H locs w => ?_)
  refine lv_aload_n C.1 C.2.1 dX7_seek_136 rfl (lv_at hl 1 rfl) ?_
  refine lv_dup C.1 C.2.1 dX7_seek_137 rfl ?_
  refine r_get C w 1 rfl rfl 1 (by decide) fl_RX7_46 (v := .int 2) rfl dX7_seek_138 ?_
  refine lv_iconst (v := 1) C.1 C.2.1 dX7_seek_141 (by decide) ?_
  refine r_iadd C (v := 3) dX7_seek_142 (by decide) ?_
  refine r_put C w 1 rfl rfl 1 (by decide) fl_RX7_46 rfl (ty := .int) (tyX7_ok 1 (by decide)) rfl rfl (Nat.le_of_ble_eq_true rfl) [(a4, .inl (cy 1, 1830, .inl (fillF (fun _ => 0) 2 20 (PP 20 2 (20 + 1 - 2))))), (a0, .inr (7, [.ref a1, .int 3, .int 2, .int (-1), .int (-1), .ref a2])), (a1, .inr (0, [.ref a3, .ref a4, .ref a5, .int 0, .int 190])), (a5, .inr (9, [.int 0, .int 2, .int 20, .int 120, .int 0, .int 0, .int 0, .int 0, .ref a9, .int 0, .ref a10, .ref a11, .int 0, .ref a12, .ref a13, .ref a14, .ref a15]))] rfl dX7_seek_143 (fun H locs w => ?_)
  refine lv_goto (tgt := 85) C.1 C.2.1 dX7_seek_146 (by decide) ?_
  refine lv_aload_n C.1 C.2.1 dX7_seek_85 rfl (lv_at hl 1 rfl) ?_
  refine r_get C w 1 rfl rfl 1 (by decide) fl_RX7_46 (v := .int 3) rfl dX7_seek_86 ?_
  refine lv_iload_n C.1 C.2.1 dX7_seek_89 rfl (lv_at hl 2 rfl) ?_
  refine b_icmp_gt_f C (tgt := 149) dX7_seek_90 (by decide) (by decide) ?_
  refine lv_aload_n C.1 C.2.1 dX7_seek_93 rfl (lv_at hl 1 rfl) ?_
  refine r_get C w 1 rfl rfl 1 (by decide) fl_RX7_46 (v := .int 3) rfl dX7_seek_94 ?_
  refine lv_iconst (v := 4) C.1 C.2.1 dX7_seek_97 (by decide) ?_
  refine b_icmp_gt_f C (tgt := 149) dX7_seek_98 (by decide) (by decide) ?_
  refine lv_aload_n C.1 C.2.1 dX7_seek_101 rfl (lv_at hl 1 rfl) ?_
  refine r_get C w 1 rfl rfl 3 (by decide) fl_RX7_15 (v := .int (-1)) rfl dX7_seek_102 ?_
  refine lv_iconst (v := (-1)) C.1 C.2.1 dX7_seek_105 (by decide) ?_
  refine b_icmp_ne_f C (tgt := 149) dX7_seek_106 (by decide) (by decide) ?_
  refine lv_aload_n C.1 C.2.1 dX7_seek_109 rfl (lv_at hl 1 rfl) ?_
  refine lv_iconst (v := 0) C.1 C.2.1 dX7_seek_110 (by decide) ?_
  refine lv_iconst (v := 0) C.1 C.2.1 dX7_seek_111 (by decide) ?_
  refine lv_iload_n C.1 C.2.1 dX7_seek_112 rfl (lv_at hl 0 rfl) ?_
  refine lv_iconst (v := (-1)) C.1 C.2.1 dX7_seek_113 (by decide) ?_
  refine r_callV C w fv_RX7_49 (c_X7_single_2 l D cy a0 a1 a2 a3 a4 a5 a9 a10 a11 a12 a13 a14 a15) (hl.1.trans hml.symm) [1, 2, 3] [0] (wr := [(a4, .inl (cy 1, 1830, .inl (fillF (fun _ => 0) 2 20 (PP 20 2 (20 + 1 - 2)))))]) ⟨rfl, rfl, rfl, rfl, by decide⟩ 0 rfl rfl rfl rfl rfl ⟨Nat.le_of_ble_eq_true rfl, Nat.le_of_ble_eq_true rfl, Nat.le_of_ble_eq_true rfl⟩ 0 0 ⟨rfl, rfl, Nat.le_of_ble_eq_true rfl, Nat.le_of_ble_eq_true rfl⟩ dX7_seek_114 (fun u H locs hp w => ?_)
  have w : Wd D A s.heap [(a4, .inl (cy 1, 1830, .inl (fillF (fun _ => 0) 2 20 (PP 20 2 (20 + 1 - 2))))), (a0, .inr (7, [.ref a1, .int 3, .int 2, .int (-1), .int (-1), .ref a2])), (a1, .inr (0, [.ref a3, .ref a4, .ref a5, .int 0, .int 190])), (a5, .inr (9, [.int 0, .int 2, .int 20, .int 120, .int 0, .int 0, .int 0, .int 0, .ref a9, .int 0, .ref a10, .ref a11, .int 0, .ref a12, .ref a13, .ref a14, .ref a15]))] _ _ := w
  refine r_top (g2 := F0 m 117 ls [.int 0]) rfl ?_
  refine b_if_eq_t C (tgt := 128) dX7_seek_117 (by decide) (by decide) ?_
  refine lv_aload_n C.1 C.2.1 dX7_seek_128 rfl (lv_at hl 1 rfl) ?_
  refine lv_aload_n C.1 C.2.1 dX7_seek_129 rfl (lv_at hl 1 rfl) ?_
  refine r_get C w 1 rfl rfl 1 (by decide) fl_RX7_46 (v := .int 3) rfl dX7_seek_130 ?_
  refine r_put C w 1 rfl rfl 2 (by decide) fl_RX7_9 rfl (ty := .int) (tyX7_ok 2 (by decide)) rfl rfl (Nat.le_of_ble_eq_true rfl) [(a4, .inl (cy 1, 1830, .inl (fillF (fun _ => 0) 2 20 (PP 20 2 (20 + 1 - 2))))), (a0, .inr (7, [.ref a1, .int 3, .int 3, .int (-1), .int (-1), .ref a2])), (a1, .inr (0, [.ref a3, .ref a4, .ref a5, .int 0, .int 190])), (a5, .inr (9, [.int 0, .int 2, .int 20, .int 120, .int 0, .int 0, .int 0, .int 0, .ref a9, .int 0, .ref a10, .ref a11, .int 0, .ref a12, .ref a13, .ref a14, .ref a15]))] rfl dX7_seek_133 (fun H locs w => ?_)
  refine lv_aload_n C.1 C.2.1 dX7_seek_136 rfl (lv_at hl 1 rfl) ?_
  refine lv_dup C.1 C.2.1 dX7_seek_137 rfl ?_
  refine r_get C w 1 rfl rfl 1 (by decide) fl_RX7_46 (v := .int 3) rfl dX7_seek_138 ?_
  refine lv_iconst (v := 1) C.1 C.2.1 dX7_seek_141 (by decide) ?_
  refine r_iadd C (v := 4) dX7_seek_142 (by decide) ?_
  refine r_put C w 1 rfl rfl 1 (by decide) fl_RX7_46 rfl (ty := .int) (tyX7_ok 1 (by decide)) rfl rfl (Nat.le_of_ble_eq_true rfl) [(a4, .inl (cy 1, 1830, .inl (fillF (fun _ => 0) 2 20 (PP 20 2 (20 + 1 - 2))))), (a0, .inr (7, [.ref a1, .int 4, .int 3, .int (-1), .int (-1), .ref a2])), (a1, .inr (0, [.ref a3, .ref a4, .ref a5, .int 0, .int 190])), (a5, .inr (9, [.int 0, .int 2, .int 20, .int 120, .int 0, .int 0, .int 0, .int 0, .ref a9, .int 0, .ref a10, .ref a11, .int 0, .ref a12, .ref a13, .ref a14, .ref a15]))] rfl dX7_seek_143 (fun H locs w => ?_)
  refine lv_goto (tgt := 85) C.1 C.2.1 dX7_seek_146 (by decide) ?_
  refine lv_aload_n C.1 C.2.1 dX7_seek_85 rfl (lv_at hl 1 rfl) ?_
  refine r_get C w 1 rfl rfl 1 (by decide) fl_RX7_46 (v := .int 4) rfl dX7_seek_86 ?_
  refine lv_iload_n C.1 C.2.1 dX7_seek_89 rfl (lv_at hl 2 rfl) ?_
  refine b_icmp_gt_t C (tgt := 149) dX7_seek_90 (by decide) (by decide) ?_
  exact r_vret C w hlocks () hr rfl trivial [0, 1, 2, 3] rfl rfl ⟨Nat.le_of_ble_eq_true rfl, Nat.le_of_ble_eq_true rfl⟩ dX7_seek_149
set_option maxRecDepth 100000 in
set_option maxHeartbeats 4000000 in
theorem c_X11_shortest_4 (l : Launch) (D : va_G) (cy : Nat → ClassId) (a0 a1 a2 a3 a4 a5 a6 a11 a12 a13 a14 a15 a16 a17 : Nat) : Ct l D cy yX11_shortest cX11_shortest 6 (some .int) 5 118 36 23817 [(a0, .inr (11, [.ref a1, .int 0, .int 0, .int (-1), .ref a2, .ref a3, .ref a4, .ref a5, .ref a6, .null])), (a6, .inr (9, [.int 0, .int 2, .int 20, .int 120, .int 0, .int 0, .int 0, .int 0, .ref a11, .int 0, .ref a12, .ref a13, .int 0, .ref a14, .ref a15, .ref a16, .ref a17]))] [.ref a0, .int 3, .int 0] (fun u : Nat × Nat × Nat × Nat × Nat × Nat × Nat × Nat × Nat × Nat × Nat × Nat × Nat × Nat × Nat × Nat × Nat × Nat × Nat × Nat × Nat × Nat × Nat × Nat × Nat × Nat × Nat × Nat × Nat × Nat × Nat × Nat × Nat × Nat × Nat × Nat => some (.int (-1))) (fun _ => True) (fun u : Nat × Nat × Nat × Nat × Nat × Nat × Nat × Nat × Nat × Nat × Nat × Nat × Nat × Nat × Nat × Nat × Nat × Nat × Nat × Nat × Nat × Nat × Nat × Nat × Nat × Nat × Nat × Nat × Nat × Nat × Nat × Nat × Nat × Nat × Nat × Nat => [(a0, .inr (11, [.ref a1, .int 0, .int 0, .int (-1), .ref a2, .ref a3, .ref a4, .ref a5, .ref a6, .ref u.1])), (u.2.2.2.2.1, .inl (cy 1, 0, .inl (fun _ => 0))), (u.2.2.2.2.2.2.2.1, .inl (cy 1, 0, .inl (fun _ => 0))), (u.2.2.2.2.2.2.2.2.1, .inl (cy 1, 0, .inl (fun _ => 0))), (u.2.2.2.2.2.2.2.2.2.1, .inl (cy 1, 0, .inl (fun _ => 0))), (u.2.2.2.2.2.2.2.2.2.2.1, .inl (cy 1, 0, .inl (fun _ => 0))), (u.2.2.2.2.2.2.2.2.2.2.2.1, .inl (cy 1, 0, .inl (fun _ => 0))), (u.2.2.2.2.2.2.2.2.2.2.2.2.1, .inl (cy 1, 7201, .inl (fun _ => 0))), (u.2.2.2.2.2.2.2.2.2.2.2.2.2.1, .inl (cy 1, 1830, .inl (fun _ => 0))), (u.2.2.2.2.2.2.2.2.2.2.2.2.2.2.2.2.1, .inl (cy 1, 1830, .inl (fun _ => 0))), (u.2.2.2.2.2.2.2.2.2.2.2.2.2.2.2.2.2.2.1, .inl (cy 1, 1830, .inl (fun _ => 0))), (u.2.2.2.2.2.2.2.2.2.2.2.2.2.2.2.2.2.1, .inr (2, [.ref u.2.1, .ref u.2.2.2.2.2.2.2.2.2.2.2.2.2.2.2.2.2.2.1, .ref u.2.2.2.2.2.2.2.2.2.2.2.2.2.2.2.2.2.2.2.1, .ref a6, .int 0])), (u.2.2.2.2.2.2.2.2.2.2.2.2.2.2.2.2.2.2.2.1, .inl (cy 1, 21, .inl (fun _ => 0))), (u.2.2.2.2.2.2.2.2.2.2.2.2.2.2.2.2.2.2.2.2.2.1, .inr (2, [.ref u.2.1, .ref u.2.2.2.2.2.2.2.2.2.2.2.2.2.2.1, .ref u.2.2.2.2.2.2.2.2.2.2.2.2.2.2.2.2.2.2.2.2.2.2.1, .ref a6, .int 0])), (u.2.2.2.2.2.2.2.2.2.2.2.2.2.2.2.2.2.2.2.2.2.2.1, .inl (cy 1, 21, .inl (fun _ => 0))), (u.2.2.2.2.2.2.2.2.2.2.2.2.2.2.2.2.2.2.2.2.2.2.2.2.1, .inl (cy 1, 6, .inl (fun _ => 0))), (u.2.2.2.2.2.2.2.2.2.2.2.2.2.2.2.2.2.2.2.2.2.2.2.2.2.1, .inl (cy 1, 6, .inl (fun _ => 0))), (u.2.2.2.2.2.2.2.2.2.2.2.2.2.2.2.2.2.2.2.2.2.2.2.2.2.2.2.1, .inl (cy 1, 1830, .inl (fun _ => 0))), (u.2.2.2.2.2.2.2.2.2.2.2.2.2.2.2.2.2.2.2.2.2.2.2.2.2.2.2.2.2.2.1, .inl (cy 1, 5, .inl (fun _ => 0))), (u.2.2.2.2.2.2.2.2.2.2.2.2.2.2.2.2.2.2.2.2.2.2.2.2.2.2.2.2.2.2.2.2.1, .inl (cy 1, 4, .inl (fun _ => 0))), (u.1, .inr (6, [.ref u.2.1, .ref u.2.2.2.2.2.2.2.2.2.2.2.2.2.2.2.1, .int 190, .ref u.2.2.2.2.2.2.2.2.2.2.2.2.2.2.2.2.1, .ref u.2.2.2.2.2.2.2.2.2.2.2.2.2.2.2.2.2.2.2.2.1, .ref u.2.2.2.2.2.2.2.2.2.2.2.2.2.2.2.2.2.2.2.2.2.2.2.2.2.2.1, .ref u.2.2.2.2.2.2.2.2.2.2.2.2.2.2.2.2.2.2.2.2.2.2.2.2.2.2.2.2.1, .ref u.2.2.2.2.2.2.2.2.2.2.2.2.2.2.2.2.2.2.2.2.2.2.2.2.2.2.2.2.2.1, .ref u.2.2.2.2.2.2.2.2.2.2.2.2.2.2.2.2.2.2.2.2.2.2.2.2.2.2.2.2.2.2.2.1, .ref u.2.2.2.2.2.2.2.2.2.2.2.2.2.2.2.2.2.1, .ref a6, .int 1, .int 0])), (u.2.2.2.2.2.2.2.2.2.2.2.2.2.2.2.1, .inl (cy 1, 1830, .inl (fillF (fun _ => 0) 2 20 (PP 20 2 (20 + 1 - 2))))), (u.2.2.2.1, .inl (cy 1, 0, .inl (fun _ => 0))), (u.2.2.2.2.2.2.2.2.2.2.2.2.2.2.2.2.2.2.2.2.2.2.2.2.2.2.2.2.2.2.2.2.2.1, .inl (cy 1, 1830, .inl (learnF 0 1830))), (u.2.2.2.2.2.1, .inl (cy 1, 0, .inl (fun _ => 0))), (u.2.2.2.2.2.2.2.2.2.2.2.2.2.2.2.2.2.2.2.2.2.2.2.2.2.2.2.2.2.2.2.2.2.2.1, .inl (cy 1, 1830, .inl (learnF 2 1830))), (u.2.1, .inr (4, [.ref u.2.2.1, .ref u.2.2.2.2.2.2.2.2.2.2.2.2.1, .int 0, .ref u.2.2.2.2.2.2.2.2.2.2.2.2.2.1])), (u.2.2.1, .inl (cy 5, 9, .inr (.inr (.inr (.inr (va_up (va_up (va_up (va_up (va_up (va_up (va_up (va_up (va_up (va_up (va_up (va_up (fun _ => none) 0 (some u.2.2.2.1)) 1 (some u.2.2.2.2.1)) 2 (some u.2.2.2.2.2.1)) 3 (some u.2.2.2.2.2.2.1)) 4 (some u.2.2.2.2.2.2.2.1)) 5 (some u.2.2.2.2.2.2.2.2.1)) 6 (some u.2.2.2.2.2.2.2.2.2.1)) 7 (some u.2.2.2.2.2.2.2.2.2.2.1)) 8 (some u.2.2.2.2.2.2.2.2.2.2.2.1)) 0 (some u.2.2.2.2.2.2.2.2.2.2.2.2.2.2.2.2.2.2.2.2.2.2.2.2.2.2.2.2.2.2.2.2.2.1)) 2 (some u.2.2.2.2.2.2.2.2.2.2.2.2.2.2.2.2.2.2.2.2.2.2.2.2.2.2.2.2.2.2.2.2.2.2.1)) 3 (some u.2.2.2.2.2.2.2.2.2.2.2.2.2.2.2.2.2.2.2.2.2.2.2.2.2.2.2.2.2.2.2.2.2.2.2))))))), (u.2.2.2.2.2.2.1, .inl (cy 1, 0, .inl (fun _ => 0))), (u.2.2.2.2.2.2.2.2.2.2.2.2.2.2.2.2.2.2.2.2.2.2.2.2.2.2.2.2.2.2.2.2.2.2.2, .inl (cy 1, 1830, .inl (learnF 3 1830))), (u.2.2.2.2.2.2.2.2.2.2.2.2.2.2.2.2.2.2.2.2.1, .inr (1, [.ref u.2.2.2.2.2.2.2.2.2.2.2.2.2.2.2.2.2.2.2.2.2.1, .ref a6, .int (-2), .int (-2), .ref u.2.2.2.2.2.2.2.2.2.2.2.2.2.2.2.2.2.2.2.2.2.2.2.1, .int 0, .int 0, .int 0, .int 0, .int (-1), .int 0, .ref u.2.2.2.2.2.2.2.2.2.2.2.2.2.2.2.2.2.2.2.2.2.2.2.2.1, .ref u.2.2.2.2.2.2.2.2.2.2.2.2.2.2.2.2.2.2.2.2.2.2.2.2.2.1])), (u.2.2.2.2.2.2.2.2.2.2.2.2.2.2.2.2.2.2.2.2.2.2.2.1, .inl (cy 1, 6, .inl (upd (upd (upd (upd (upd (upd (fun _ => 0) 0 (-2)) 1 (-2)) 2 (-2)) 3 (-2)) 4 (-2)) 5 (-2)))), (u.2.2.2.2.2.2.2.2.2.2.2.2.2.2.2.2.2.2.2.2.2.2.2.2.2.2.1, .inr (3, [.ref u.2.1, .ref u.2.2.2.2.2.2.2.2.2.2.2.2.2.2.1, .ref a6, .int (-1), .int (-1), .ref u.2.2.2.2.2.2.2.2.2.2.2.2.2.2.2.2.2.2.2.2.2.2.2.2.2.2.2.1, .int 0, .int 0, .int 0])), (u.2.2.2.2.2.2.2.2.2.2.2.2.2.2.2.2.2.2.2.2.2.2.2.2.2.2.2.2.2.1, .inr (8, [.ref u.2.2.2.2.2.2.2.2.2.2.2.2.2.2.2.2.2.2.2.2.2.2.2.2.2.2.2.2.1, .int (-1), .int 0, .int 0, .int 0, .int 0, .int 0, .ref u.2.2.2.2.2.2.2.2.2.2.2.2.2.2.2.2.2.2.2.2.2.2.2.2.2.2.2.2.2.2.1])), (u.2.2.2.2.2.2.2.2.2.2.2.2.2.2.1, .inl (cy 1, 1830, .inl (fillF (fun _ => 0) 2 20 (PP 20 2 (20 + 1 - 2))))), (u.2.2.2.2.2.2.2.2.2.2.2.2.2.2.2.2.2.2.2.2.2.2.2.2.2.2.2.2.2.2.2.1, .inr (7, [.ref u.2.2.2.2.2.2.2.2.2.2.2.2.2.2.2.2.2.2.2.2.2.2.2.2.2.2.2.2.1, .int 4, .int 3, .int (-1), .int (-1), .ref u.2.2.2.2.2.2.2.2.2.2.2.2.2.2.2.2.2.2.2.2.2.2.2.2.2.2.2.2.2.2.2.2.1])), (u.2.2.2.2.2.2.2.2.2.2.2.2.2.2.2.2.2.2.2.2.2.2.2.2.2.2.2.2.1, .inr (0, [.ref u.2.1, .ref u.2.2.2.2.2.2.2.2.2.2.2.2.2.2.1, .ref a6, .int 0, .int 190])), (a6, .inr (9, [.int 0, .int 2, .int 20, .int 120, .int 0, .int 0, .int 0, .int 0, .ref a11, .int 0, .ref a12, .ref a13, .int 0, .ref a14, .ref a15, .ref a16, .ref a17]))]) := by
  refine Ct.of (by decide +kernel) (Nat.le_of_ble_eq_true rfl) ?_
  intro p e s m args below meth c A ls C hr hlocks hml hnm w hl
  have hl : lv_has ls 6 [(0, .ref a0), (1, .int 3), (2, .int 0)] := hl
  refine lv_iload_n C.1 C.2.1 dX11_shortest_0 rfl (lv_at hl 2 rfl) ?_
  refine lv_bipush (v := 10) C.1 C.2.1 dX11_shortest_1 (by decide) ?_
  refine r_isub C (v := (-10)) dX11_shortest_3 (by decide) ?_
  refine lv_istore_n (lv' := [(3, .int (-10)), (0, .ref a0), (1, .int 3), (2, .int 0)]) C.1 C.2.1 dX11_shortest_4 rfl hl (by decide) rfl (fun ls hl => ?_)
  refine lv_iload_n C.1 C.2.1 dX11_shortest_5 rfl (lv_at hl 3 rfl) ?_
  refine lv_bipush (v := 10) C.1 C.2.1 dX11_shortest_6 (by decide) ?_
  refine b_icmp_lt_t C (tgt := 20) dX11_shortest_8 (by decide) (by decide) ?_
  refine lv_iconst (v := 0) C.1 C.2.1 dX11_shortest_20 (by decide) ?_
  refine lv_istore (lv' := [(4, .int 0), (3, .int (-10)), (0, .ref a0), (1, .int 3), (2, .int 0)]) C.1 C.2.1 dX11_shortest_21 hl (by decide) rfl (fun ls hl => ?_)
  refine lv_iload_n C.1 C.2.1 dX11_shortest_23 rfl (lv_at hl 3 rfl) ?_
  refine lv_iconst (v := 1) C.1 C.2.1 dX11_shortest_24 (by decide) ?_
  refine b_icmp_lt_f C (tgt := 47) dX11_shortest_25 (by decide) (by decide) ?_
  refine lv_iload_n C.1 C.2.1 dX11_shortest_28 rfl (lv_at hl 3 rfl) ?_
  refine lv_iconst (v := 4) C.1 C.2.1 dX11_shortest_29 (by decide) ?_
  refine b_icmp_gt_f C (tgt := 47) dX11_shortest_30 (by decide) (by decide) ?_
  refine lv_iload_n C.1 C.2.1 dX11_shortest_33 rfl (lv_at hl 4 rfl) ?_
  refine b_if_eq_t C (tgt := 58) dX11_shortest_34 (by decide) (by decide) ?_
  refine lv_aload_n C.1 C.2.1 dX11_shortest_58 rfl (lv_at hl 2 rfl) ?_
  refine r_callV C w fv_RX11_100 (c_X11_view_0 l D cy a0 a1 a2 a3 a4 a5 a6 a11 a12 a13 a14 a15 a16 a17) (hl.1.trans hml.symm) [0, 1] [] (wr := []) ⟨rfl, rfl, rfl, rfl, by decide⟩ 0 rfl rfl rfl rfl rfl ⟨Nat.le_of_ble_eq_true rfl, Nat.le_of_ble_eq_true rfl, Nat.le_of_ble_eq_true rfl⟩ 36 23817 ⟨rfl, rfl, Nat.le_of_ble_eq_true rfl, Nat.le_of_ble_eq_true rfl⟩ dX11_shortest_59 (fun u H locs hp w => ?_)
  obtain ⟨n1, n2, n3, n4, n5, n6, n7, n8, n9, n10, n11, n12, n13, n14, n15, n16, n17, n18, n19, n20, n21, n22, n23, n24, n25, n26, n27, n28, n29, n30, n31, n32, n33, n34, n35, n36⟩ := u
  have w : Wd D A s.heap [(a0, .inr (11, [.ref a1, .int 0, .int 0, .int (-1), .ref a2, .ref a3, .ref a4, .ref a5, .ref a6, .ref n1])), (n5, .inl (cy 1, 0, .inl (fun _ => 0))), (n8, .inl (cy 1, 0, .inl (fun _ => 0))), (n9, .inl (cy 1, 0, .inl (fun _ => 0))), (n10, .inl (cy 1, 0, .inl (fun _ => 0))), (n11, .inl (cy 1, 0, .inl (fun _ => 0))), (n12, .inl (cy 1, 0, .inl (fun _ => 0))), (n13, .inl (cy 1, 7201, .inl (fun _ => 0))), (n14, .inl (cy 1, 1830, .inl (fun _ => 0))), (n15, .inl (cy 1, 1830, .inl (fun _ => 0))), (n17, .inl (cy 1, 1830, .inl (fun _ => 0))), (n19, .inl (cy 1, 1830, .inl (fun _ => 0))), (n18, .inr (2, [.ref n2, .ref n19, .ref n20, .ref a6, .int 0])), (n20, .inl (cy 1, 21, .inl (fun _ => 0))), (n22, .inr (2, [.ref n2, .ref n15, .ref n23, .ref a6, .int 0])), (n23, .inl (cy 1, 21, .inl (fun _ => 0))), (n25, .inl (cy 1, 6, .inl (fun _ => 0))), (n26, .inl (cy 1, 6, .inl (fun _ => 0))), (n28, .inl (cy 1, 1830, .inl (fun _ => 0))), (n31, .inl (cy 1, 5, .inl (fun _ => 0))), (n33, .inl (cy 1, 4, .inl (fun _ => 0))), (n1, .inr (6, [.ref n2, .ref n16, .int 190, .ref n17, .ref n21, .ref n27, .ref n29, .ref n30, .ref n32, .ref n18, .ref a6, .int 1, .int 0])), (n16, .inl (cy 1, 1830, .inl (fillF (fun _ => 0) 2 20 (PP 20 2 (20 + 1 - 2))))), (a6, .inr (9, [.int 0, .int 2, .int 20, .int 120, .int 0, .int 0, .int 0, .int 0, .ref a11, .int 0, .ref a12, .ref a13, .int 0, .ref a14, .ref a15, .ref a16, .ref a17])), (n4, .inl (cy 1, 0, .inl (fun _ => 0))), (n34, .inl (cy 1, 1830, .inl (learnF 0 1830))), (n6, .inl (cy 1, 0, .inl (fun _ => 0))), (n35, .inl (cy 1, 1830, .inl (learnF 2 1830))), (n2, .inr (4, [.ref n3, .ref n13, .int 0, .ref n14])), (n3, .inl (cy 5, 9, .inr (.inr (.inr (.inr (va_up (va_up (va_up (va_up (va_up (va_up (va_up (va_up (va_up (va_up (va_up (va_up (fun _ => none) 0 (some n4)) 1 (some n5)) 2 (some n6)) 3 (some n7)) 4 (some n8)) 5 (some n9)) 6 (some n10)) 7 (some n11)) 8 (some n12)) 0 (some n34)) 2 (some n35)) 3 (some n36))))))), (n7, .inl (cy 1, 0, .inl (fun _ => 0))), (n36, .inl (cy 1, 1830, .inl (learnF 3 1830))), (n21, .inr (1, [.ref n22, .ref a6, .int (-2), .int (-2), .ref n24, .int 0, .int 0, .int 0, .int 0, .int (-1), .int 0, .ref n25, .ref n26])), (n24, .inl (cy 1, 6, .inl (upd (upd (upd (upd (upd (upd (fun _ => 0) 0 (-2)) 1 (-2)) 2 (-2)) 3 (-2)) 4 (-2)) 5 (-2)))), (n27, .inr (3, [.ref n2, .ref n15, .ref a6, .int (-1), .int (-1), .ref n28, .int 0, .int 0, .int 0])), (n29, .inr (0, [.ref n2, .ref n15, .ref a6, .int 0, .int 0])), (n30, .inr (8, [.ref n29, .int (-1), .int 0, .int 0, .int 0, .int 0, .int 0, .ref n31])), (n32, .inr (7, [.ref n29, .int 0, .int (-1), .int (-1), .int (-1), .ref n33]))] _ _ := w
  refine r_top (g2 := F0 m 62 ls [.ref n1]) rfl ?_
  refine r_get C w 21 rfl rfl 8 (by decide) fl_RX11_258 (v := .ref n32) rfl dX11_shortest_62 ?_
  refine lv_astore (lv' := [(5, .ref n32), (4, .int 0), (3, .int (-10)), (0, .ref a0), (1, .int 3), (2, .int 0)]) C.1 C.2.1 dX11_shortest_65 hl (by decide) rfl (fun ls hl => ?_)
  refine lv_aload C.1 C.2.1 dX11_shortest_67 (lv_at hl 0 rfl) ?_
  refine lv_iload_n C.1 C.2.1 dX11_shortest_69 rfl (lv_at hl 4 rfl) ?_
  refine r_callV C w fv_RX11_262 (c_X7_seek_9 l D cy n32 n29 n33 n2 n15 a6 a11 a12 a13 a14 a15 a16 a17) (hl.1.trans hml.symm) [37, 35, 9, 23] [0, 1, 2, 3, 4, 5, 6, 7, 8, 10, 11, 12, 13, 14, 15, 16, 17, 18, 19, 20, 21, 22, 24, 25, 26, 27, 28, 29, 30, 31, 32, 33, 34, 36] (wr := [(a0, .inr (11, [.ref a1, .int 0, .int 0, .int (-1), .ref a2, .ref a3, .ref a4, .ref a5, .ref a6, .ref n1])), (n5, .inl (cy 1, 0, .inl (fun _ => 0))), (n8, .inl (cy 1, 0, .inl (fun _ => 0))), (n9, .inl (cy 1, 0, .inl (fun _ => 0))), (n10, .inl (cy 1, 0, .inl (fun _ => 0))), (n11, .inl (cy 1, 0, .inl (fun _ => 0))), (n12, .inl (cy 1, 0, .inl (fun _ => 0))), (n13, .inl (cy 1, 7201, .inl (fun _ => 0))), (n14, .inl (cy 1, 1830, .inl (fun _ => 0))), (n17, .inl (cy 1, 1830, .inl (fun _ => 0))), (n19, .inl (cy 1, 1830, .inl (fun _ => 0))), (n18, .inr (2, [.ref n2, .ref n19, .ref n20, .ref a6, .int 0])), (n20, .inl (cy 1, 21, .inl (fun _ => 0))), (n22, .inr (2, [.ref n2, .ref n15, .ref n23, .ref a6, .int 0])), (n23, .inl (cy 1, 21, .inl (fun _ => 0))), (n25, .inl (cy 1, 6, .inl (fun _ => 0))), (n26, .inl (cy 1, 6, .inl (fun _ => 0))), (n28, .inl (cy 1, 1830, .inl (fun _ => 0))), (n31, .inl (cy 1, 5, .inl (fun _ => 0))), (n33, .inl (cy 1, 4, .inl (fun _ => 0))), (n1, .inr (6, [.ref n2, .ref n16, .int 190, .ref n17, .ref n21, .ref n27, .ref n29, .ref n30, .ref n32, .ref n18, .ref a6, .int 1, .int 0])), (n16, .inl (cy 1, 1830, .inl (fillF (fun _ => 0) 2 20 (PP 20 2 (20 + 1 - 2))))), (n4, .inl (cy 1, 0, .inl (fun _ => 0))), (n34, .inl (cy 1, 1830, .inl (learnF 0 1830))), (n6, .inl (cy 1, 0, .inl (fun _ => 0))), (n35, .inl (cy 1, 1830, .inl (learnF 2 1830))), (n2, .inr (4, [.ref n3, .ref n13, .int 0, .ref n14])), (n3, .inl (cy 5, 9, .inr (.inr (.inr (.inr (va_up (va_up (va_up (va_up (va_up (va_up (va_up (va_up (va_up (va_up (va_up (va_up (fun _ => none) 0 (some n4)) 1 (some n5)) 2 (some n6)) 3 (some n7)) 4 (some n8)) 5 (some n9)) 6 (some n10)) 7 (some n11)) 8 (some n12)) 0 (some n34)) 2 (some n35)) 3 (some n36))))))), (n7, .inl (cy 1, 0, .inl (fun _ => 0))), (n36, .inl (cy 1, 1830, .inl (learnF 3 1830))), (n21, .inr (1, [.ref n22, .ref a6, .int (-2), .int (-2), .ref n24, .int 0, .int 0, .int 0, .int 0, .int (-1), .int 0, .ref n25, .ref n26])), (n24, .inl (cy 1, 6, .inl (upd (upd (upd (upd (upd (upd (fun _ => 0) 0 (-2)) 1 (-2)) 2 (-2)) 3 (-2)) 4 (-2)) 5 (-2)))), (n27, .inr (3, [.ref n2, .ref n15, .ref a6, .int (-1), .int (-1), .ref n28, .int 0, .int 0, .int 0])), (n30, .inr (8, [.ref n29, .int (-1), .int 0, .int 0, .int 0, .int 0, .int 0, .ref n31]))]) ⟨rfl, rfl, rfl, rfl, by decide⟩ 0 rfl rfl rfl rfl rfl ⟨Nat.le_of_ble_eq_true rfl, Nat.le_of_ble_eq_true rfl, Nat.le_of_ble_eq_true rfl⟩ 36 23817 ⟨rfl, rfl, Nat.le_of_ble_eq_true rfl, Nat.le_of_ble_eq_true rfl⟩ dX11_shortest_70 (fun u H locs hp w => ?_)
  have w : Wd D A s.heap [(a0, .inr (11, [.ref a1, .int 0, .int 0, .int (-1), .ref a2, .ref a3, .ref a4, .ref a5, .ref a6, .ref n1])), (n5, .inl (cy 1, 0, .inl (fun _ => 0))), (n8, .inl (cy 1, 0, .inl (fun _ => 0))), (n9, .inl (cy 1, 0, .inl (fun _ => 0))), (n10, .inl (cy 1, 0, .inl (fun _ => 0))), (n11, .inl (cy 1, 0, .inl (fun _ => 0))), (n12, .inl (cy 1, 0, .inl (fun _ => 0))), (n13, .inl (cy 1, 7201, .inl (fun _ => 0))), (n14, .inl (cy 1, 1830, .inl (fun _ => 0))), (n17, .inl (cy 1, 1830, .inl (fun _ => 0))), (n19, .inl (cy 1, 1830, .inl (fun _ => 0))), (n18, .inr (2, [.ref n2, .ref n19, .ref n20, .ref a6, .int 0])), (n20, .inl (cy 1, 21, .inl (fun _ => 0))), (n22, .inr (2, [.ref n2, .ref n15, .ref n23, .ref a6, .int 0])), (n23, .inl (cy 1, 21, .inl (fun _ => 0))), (n25, .inl (cy 1, 6, .inl (fun _ => 0))), (n26, .inl (cy 1, 6, .inl (fun _ => 0))), (n28, .inl (cy 1, 1830, .inl (fun _ => 0))), (n31, .inl (cy 1, 5, .inl (fun _ => 0))), (n33, .inl (cy 1, 4, .inl (fun _ => 0))), (n1, .inr (6, [.ref n2, .ref n16, .int 190, .ref n17, .ref n21, .ref n27, .ref n29, .ref n30, .ref n32, .ref n18, .ref a6, .int 1, .int 0])), (n16, .inl (cy 1, 1830, .inl (fillF (fun _ => 0) 2 20 (PP 20 2 (20 + 1 - 2))))), (n4, .inl (cy 1, 0, .inl (fun _ => 0))), (n34, .inl (cy 1, 1830, .inl (learnF 0 1830))), (n6, .inl (cy 1, 0, .inl (fun _ => 0))), (n35, .inl (cy 1, 1830, .inl (learnF 2 1830))), (n2, .inr (4, [.ref n3, .ref n13, .int 0, .ref n14])), (n3, .inl (cy 5, 9, .inr (.inr (.inr (.inr (va_up (va_up (va_up (va_up (va_up (va_up (va_up (va_up (va_up (va_up (va_up (va_up (fun _ => none) 0 (some n4)) 1 (some n5)) 2 (some n6)) 3 (some n7)) 4 (some n8)) 5 (some n9)) 6 (some n10)) 7 (some n11)) 8 (some n12)) 0 (some n34)) 2 (some n35)) 3 (some n36))))))), (n7, .inl (cy 1, 0, .inl (fun _ => 0))), (n36, .inl (cy 1, 1830, .inl (learnF 3 1830))), (n21, .inr (1, [.ref n22, .ref a6, .int (-2), .int (-2), .ref n24, .int 0, .int 0, .int 0, .int 0, .int (-1), .int 0, .ref n25, .ref n26])), (n24, .inl (cy 1, 6, .inl (upd (upd (upd (upd (upd (upd (fun _ => 0) 0 (-2)) 1 (-2)) 2 (-2)) 3 (-2)) 4 (-2)) 5 (-2)))), (n27, .inr (3, [.ref n2, .ref n15, .ref a6, .int (-1), .int (-1), .ref n28, .int 0, .int 0, .int 0])), (n30, .inr (8, [.ref n29, .int (-1), .int 0, .int 0, .int 0, .int 0, .int 0, .ref n31])), (n15, .inl (cy 1, 1830, .inl (fillF (fun _ => 0) 2 20 (PP 20 2 (20 + 1 - 2))))), (n32, .inr (7, [.ref n29, .int 4, .int 3, .int (-1), .int (-1), .ref n33])), (n29, .inr (0, [.ref n2, .ref n15, .ref a6, .int 0, .int 190])), (a6, .inr (9, [.int 0, .int 2, .int 20, .int 120, .int 0, .int 0, .int 0, .int 0, .ref a11, .int 0, .ref a12, .ref a13, .int 0, .ref a14, .ref a15, .ref a16, .ref a17]))] _ _ := w
  refine r_top (g2 := F0 m 73 ls []) rfl ?_
  refine lv_aload C.1 C.2.1 dX11_shortest_73 (lv_at hl 0 rfl) ?_
  refine r_get C w 35 rfl rfl 3 (by decide) fl_RX11_264 (v := .int (-1)) rfl dX11_shortest_75 ?_
  refine lv_iconst (v := (-1)) C.1 C.2.1 dX11_shortest_78 (by decide) ?_
  refine b_icmp_eq_t C (tgt := 91) dX11_shortest_79 (by decide) (by decide) ?_
  refine lv_iconst (v := (-1)) C.1 C.2.1 dX11_shortest_91 (by decide) ?_
  exact r_iret C w hlocks (n1, n2, n3, n4, n5, n6, n7, n8, n9, n10, n11, n12, n13, n14, n15, n16, n17, n18, n19, n20, n21, n22, n23, n24, n25, n26, n27, n28, n29, n30, n31, n32, n33, n34, n35, n36) hr rfl rfl trivial [0, 1, 2, 3, 4, 5, 6, 7, 8, 9, 10, 11, 12, 13, 14, 15, 16, 17, 18, 19, 20, 21, 22, 23, 24, 25, 26, 27, 28, 29, 30, 31, 32, 33, 34, 35, 36, 37] rfl rfl ⟨Nat.le_of_ble_eq_true rfl, Nat.le_of_ble_eq_true rfl⟩ dX11_shortest_92
set_option maxRecDepth 100000 in
set_option maxHeartbeats 4000000 in
theorem c_X7_seek_10 (l : Launch) (D : va_G) (cy : Nat → ClassId) (a0 a1 a2 a3 a4 a5 a9 a10 a11 a12 a13 a14 a15 : Nat) : Ct l D cy yX7_seek cX7_seek 3 none 3 78 0 0 [(a0, .inr (7, [.ref a1, .int 0, .int (-1), .int (-1), .int (-1), .ref a2])), (a1, .inr (0, [.ref a3, .ref a4, .ref a5, .int 0, .int 0])), (a4, .inl (cy 1, 1830, .inl (fun _ => 0))), (a5, .inr (9, [.int 0, .int 2, .int 20, .int 120, .int 0, .int 0, .int 0, .int 0, .ref a9, .int 0, .ref a10, .ref a11, .int 0, .ref a12, .ref a13, .ref a14, .ref a15]))] [.ref a0, .int 2] (fun u : Unit => none) (fun _ => True) (fun u : Unit => [(a4, .inl (cy 1, 1830, .inl (fillF (fun _ => 0) 2 20 (PP 20 2 (20 + 1 - 2))))), (a0, .inr (7, [.ref a1, .int 3, .int 2, .int (-1), .int (-1), .ref a2])), (a1, .inr (0, [.ref a3, .ref a4, .ref a5, .int 0, .int 190])), (a5, .inr (9, [.int 0, .int 2, .int 20, .int 120, .int 0, .int 0, .int 0, .int 0, .ref a9, .int 0, .ref a10, .ref a11, .int 0, .ref a12, .ref a13, .ref a14, .ref a15]))]) := by
  refine Ct.of (by decide +kernel) (Nat.le_of_ble_eq_true rfl) ?_
  intro p e s m args below meth c A ls C hr hlocks hml hnm w hl
  have hl : lv_has ls 3 [(0, .ref a0), (1, .int 2)] := hl
  refine lv_aload_n C.1 C.2.1 dX7_seek_0 rfl (lv_at hl 0 rfl) ?_
  refine r_get C w 0 rfl rfl 3 (by decide) fl_RX7_15 (v := .int (-1)) rfl dX7_seek_1 ?_
  refine lv_iconst (v := (-1)) C.1 C.2.1 dX7_seek_4 (by decide) ?_
  refine b_icmp_ne_f C (tgt := 16) dX7_seek_5 (by decide) (by decide) ?_
  refine lv_aload_n C.1 C.2.1 dX7_seek_8 rfl (lv_at hl 0 rfl) ?_
  refine r_get C w 0 rfl rfl 2 (by decide) fl_RX7_9 (v := .int (-1)) rfl dX7_seek_9 ?_
  refine lv_iload_n C.1 C.2.1 dX7_seek_12 rfl (lv_at hl 1 rfl) ?_
  refine b_icmp_lt_t C (tgt := 17) dX7_seek_13 (by decide) (by decide) ?_
  refine lv_aload_n C.1 C.2.1 dX7_seek_17 rfl (lv_at hl 0 rfl) ?_
  refine r_get C w 0 rfl rfl 0 (by decide) fl_RX7_25 (v := .ref a1) rfl dX7_seek_18 ?_
  refine r_callV C w fv_RX7_29 (c_X0_begin_0 l D cy a1 a3 a4 a5 a9 a10 a11 a12 a13 a14 a15) (hl.1.trans hml.symm) [1, 2, 3] [0] (wr := [(a0, .inr (7, [.ref a1, .int 0, .int (-1), .int (-1), .int (-1), .ref a2]))]) ⟨rfl, rfl, rfl, rfl, by decide⟩ 0 rfl rfl rfl rfl rfl ⟨Nat.le_of_ble_eq_true rfl, Nat.le_of_ble_eq_true rfl, Nat.le_of_ble_eq_true rfl⟩ 0 0 ⟨rfl, rfl, Nat.le_of_ble_eq_true rfl, Nat.le_of_ble_eq_true rfl⟩ dX7_seek_21 (fun u H locs hp w => ?_)
  have w : Wd D A s.heap [(a0, .inr (7, [.ref a1, .int 0, .int (-1), .int (-1), .int (-1), .ref a2])), (a1, .inr (0, [.ref a3, .ref a4, .ref a5, .int 0, .int 190])), (a4, .inl (cy 1, 1830, .inl (fillF (fun _ => 0) 2 20 (PP 20 2 (20 + 1 - 2))))), (a5, .inr (9, [.int 0, .int 2, .int 20, .int 120, .int 0, .int 0, .int 0, .int 0, .ref a9, .int 0, .ref a10, .ref a11, .int 0, .ref a12, .ref a13, .ref a14, .ref a15]))] _ _ := w
  refine r_top (g2 := F0 m 24 ls []) rfl ?_
  refine lv_aload_n C.1 C.2.1 dX7_seek_24 rfl (lv_at hl 0 rfl) ?_
  refine r_get C w 0 rfl rfl 0 (by decide) fl_RX7_25 (v := .ref a1) rfl dX7_seek_25 ?_
  refine r_get C w 1 rfl rfl 4 (by decide) fl_RX7_34 (v := .int 190) rfl dX7_seek_28 ?_
  refine lv_istore_n (lv' := [(2, .int 190), (0, .ref a0), (1, .int 2)]) C.1 C.2.1 dX7_seek_31 rfl hl (by decide) rfl (fun ls hl => ?_)
  refine lv_aload_n C.1 C.2.1 dX7_seek_32 rfl (lv_at hl 1 rfl) ?_
  refine r_get C w 0 rfl rfl 2 (by decide) fl_RX7_9 (v := .int (-1)) rfl dX7_seek_33 ?_
  refine lv_iconst (v := (-1)) C.1 C.2.1 dX7_seek_36 (by decide) ?_
  refine b_icmp_ne_f C (tgt := 63) dX7_seek_37 (by decide) (by decide) ?_
  refine lv_iload_n C.1 C.2.1 dX7_seek_40 rfl (lv_at hl 0 rfl) ?_
  refine lv_iconst (v := 1) C.1 C.2.1 dX7_seek_41 (by decide) ?_
  refine b_icmp_ne_t C (tgt := 63) dX7_seek_42 (by decide) (by decide) ?_
  refine lv_aload_n C.1 C.2.1 dX7_seek_63 rfl (lv_at hl 1 rfl) ?_
  refine lv_aload_n C.1 C.2.1 dX7_seek_64 rfl (lv_at hl 1 rfl) ?_
  refine r_get C w 0 rfl rfl 2 (by decide) fl_RX7_9 (v := .int (-1)) rfl dX7_seek_65 ?_
  refine lv_iconst (v := 0) C.1 C.2.1 dX7_seek_68 (by decide) ?_
  refine r_mmax C (hl.1.trans hml.symm) ml_RX7_40 st_max it_math cd_max (v := 0) (by decide) ⟨Nat.le_of_ble_eq_true rfl, Nat.le_of_ble_eq_true rfl, Nat.le_of_ble_eq_true rfl, Nat.le_of_ble_eq_true rfl⟩ dX7_seek_69 ?_
  refine r_put C w 0 rfl rfl 2 (by decide) fl_RX7_9 rfl (ty := .int) (tyX7_ok 2 (by decide)) rfl rfl (Nat.le_of_ble_eq_true rfl) [(a0, .inr (7, [.ref a1, .int 0, .int 0, .int (-1), .int (-1), .ref a2])), (a1, .inr (0, [.ref a3, .ref a4, .ref a5, .int 0, .int 190])), (a4, .inl (cy 1, 1830, .inl (fillF (fun _ => 0) 2 20 (PP 20 2 (20 + 1 - 2))))), (a5, .inr (9, [.int 0, .int 2, .int 20, .int 120, .int 0, .int 0, .int 0, .int 0, .ref a9, .int 0, .ref a10, .ref a11, .int 0, .ref a12, .ref a13, .ref a14, .ref a15]))] rfl dX7_seek_72 (fun H locs w => ?_)
  refine lv_aload_n C.1 C.2.1 dX7_seek_75 rfl (lv_at hl 1 rfl) ?_
  refine lv_aload_n C.1 C.2.1 dX7_seek_76 rfl (lv_at hl 1 rfl) ?_
  refine r_get C w 0 rfl rfl 2 (by decide) fl_RX7_9 (v := .int 0) rfl dX7_seek_77 ?_
  refine lv_iconst (v := 1) C.1 C.2.1 dX7_seek_80 (by decide) ?_
  refine r_iadd C (v := 1) dX7_seek_81 (by decide) ?_
  refine r_put C w 0 rfl rfl 1 (by decide) fl_RX7_46 rfl (ty := .int) (tyX7_ok 1 (by decide)) rfl rfl (Nat.le_of_ble_eq_true rfl) [(a0, .inr (7, [.ref a1, .int 1, .int 0, .int (-1), .int (-1), .ref a2])), (a1, .inr (0, [.ref a3, .ref a4, .ref a5, .int 0, .int 190])), (a4, .inl (cy 1, 1830, .inl (fillF (fun _ => 0) 2 20 (PP 20 2 (20 + 1 - 2))))), (a5, .inr (9, [.int 0, .int 2, .int 20, .int 120, .int 0, .int 0, .int 0, .int 0, .ref a9, .int 0, .ref a10, .ref a11, .int 0, .ref a12, .ref a13, .ref a14, .ref a15]))] rfl dX7_seek_82 (fun H locs w => ?_)
  refine lv_aload_n C.1 C.2.1 dX7_seek_85 rfl (lv_at hl 1 rfl) ?_
  refine r_get C w 0 rfl rfl 1 (by decide) fl_RX7_46 (v := .int 1) rfl dX7_seek_86 ?_
  refine lv_iload_n C.1 C.2.1 dX7_seek_89 rfl (lv_at hl 2 rfl) ?_
  refine b_icmp_gt_f C (tgt := 149) dX7_seek_90 (by decide) (by decide) ?_
  refine lv_aload_n C.1 C.2.1 dX7_seek_93 rfl (lv_at hl 1 rfl) ?_
  refine r_get C w 0 rfl rfl 1 (by decide) fl_RX7_46 (v := .int 1) rfl dX7_seek_94 ?_
  refine lv_iconst (v := 4) C.1 C.2.1 dX7_seek_97 (by decide) ?_
  refine b_icmp_gt_f C (tgt := 149) dX7_seek_98 (by decide) (by decide) ?_
  refine lv_aload_n C.1 C.2.1 dX7_seek_101 rfl (lv_at hl 1 rfl) ?_
  refine r_get C w 0 rfl rfl 3 (by decide) fl_RX7_15 (v := .int (-1)) rfl dX7_seek_102 ?_
  refine lv_iconst (v := (-1)) C.1 C.2.1 dX7_seek_105 (by decide) ?_
  refine b_icmp_ne_f C (tgt := 149) dX7_seek_106 (by decide) (by decide) ?_
  refine lv_aload_n C.1 C.2.1 dX7_seek_109 rfl (lv_at hl 1 rfl) ?_
  refine lv_iconst (v := 0) C.1 C.2.1 dX7_seek_110 (by decide) ?_
  refine lv_iconst (v := 0) C.1 C.2.1 dX7_seek_111 (by decide) ?_
  refine lv_iload_n C.1 C.2.1 dX7_seek_112 rfl (lv_at hl 0 rfl) ?_
  refine lv_iconst (v := (-1)) C.1 C.2.1 dX7_seek_113 (by decide) ?_
  refine r_callV C w fv_RX7_49 (c_X7_single_0 l D cy a0 a1 a2 a3 a4 a5 a9 a10 a11 a12 a13 a14 a15) (hl.1.trans hml.symm) [0, 1, 3] [2] (wr := [(a4, .inl (cy 1, 1830, .inl (fillF (fun _ => 0) 2 20 (PP 20 2 (20 + 1 - 2)))))]) ⟨rfl, rfl, rfl, rfl, by decide⟩ 0 rfl rfl rfl rfl rfl ⟨Nat.le_of_ble_eq_true rfl, Nat.le_of_ble_eq_true rfl, Nat.le_of_ble_eq_true rfl⟩ 0 0 ⟨rfl, rfl, Nat.le_of_ble_eq_true rfl, Nat.le_of_ble_eq_true rfl⟩ dX7_seek_114 (fun u H locs hp w => ?_)
  have w : Wd D A s.heap [(a4, .inl (cy 1, 1830, .inl (fillF (fun _ => 0) 2 20 (PP 20 2 (20 + 1 - 2))))), (a0, .inr (7, [.ref a1, .int 1, .int 0, .int (-1), .int (-1), .ref a2])), (a1, .inr (0, [.ref a3, .ref a4, .ref a5, .int 0, .int 190])), (a5, .inr (9, [.int 0, .int 2, .int 20, .int 120, .int 0, .int 0, .int 0, .int 0, .ref a9, .int 0, .ref a10, .ref a11, .int 0, .ref a12, .ref a13, .ref a14, .ref a15]))] _ _ := w
  refine r_top (g2 := F0 m 117 ls [.int 0]) rfl ?_
  refine b_if_eq_t C (tgt := 128) dX7_seek_117 (by decide) (by decide) ?_
  refine lv_aload_n C.1 C.2.1 dX7_seek_128 rfl (lv_at hl 1 rfl) ?_
  refine lv_aload_n C.1 C.2.1 dX7_seek_129 rfl (lv_at hl 1 rfl) ?_
  refine r_get C w 1 rfl rfl 1 (by decide) fl_RX7_46 (v := .int 1) rfl dX7_seek_130 ?_
  refine r_put C w 1 rfl rfl 2 (by decide) fl_RX7_9 rfl (ty := .int) (tyX7_ok 2 (by decide)) rfl rfl (Nat.le_of_ble_eq_true rfl) [(a4, .inl (cy 1, 1830, .inl (fillF (fun _ => 0) 2 20 (PP 20 2 (20 + 1 - 2))))), (a0, .inr (7, [.ref a1, .int 1, .int 1, .int (-1), .int (-1), .ref a2])), (a1, .inr (0, [.ref a3, .ref a4, .ref a5, .int 0, .int 190])), (a5, .inr (9, [.int 0, .int 2, .int 20, .int 120, .int 0, .int 0, .int 0, .int 0, .ref a9, .int 0, .ref a10, .ref a11, .int 0, .ref a12, .ref a13, .ref a14, .ref a15]))] rfl dX7_seek_133 (fun H locs w => ?_)
  refine lv_aload_n C.1 C.2.1 dX7_seek_136 rfl (lv_at hl 1 rfl) ?_
  refine lv_dup C.1 C.2.1 dX7_seek_137 rfl ?_
  refine r_get C w 1 rfl rfl 1 (by decide) fl_RX7_46 (v := .int 1) rfl dX7_seek_138 ?_
  refine lv_iconst (v := 1) C.1 C.2.1 dX7_seek_141 (by decide) ?_
  refine r_iadd C (v := 2) dX7_seek_142 (by decide) ?_
  refine r_put C w 1 rfl rfl 1 (by decide) fl_RX7_46 rfl (ty := .int) (tyX7_ok 1 (by decide)) rfl rfl (Nat.le_of_ble_eq_true rfl) [(a4, .inl (cy 1, 1830, .inl (fillF (fun _ => 0) 2 20 (PP 20 2 (20 + 1 - 2))))), (a0, .inr (7, [.ref a1, .int 2, .int 1, .int (-1), .int (-1), .ref a2])), (a1, .inr (0, [.ref a3, .ref a4, .ref a5, .int 0, .int 190])), (a5, .inr (9, [.int 0, .int 2, .int 20, .int 120, .int 0, .int 0, .int 0, .int 0, .ref a9, .int 0, .ref a10, .ref a11, .int 0, .ref a12, .ref a13, .ref a14, .ref a15]))] rfl dX7_seek_143 (fun H locs w => ?_)
  refine lv_goto (tgt := 85) C.1 C.2.1 dX7_seek_146 (by decide) ?_
  refine lv_aload_n C.1 C.2.1 dX7_seek_85 rfl (lv_at hl 1 rfl) ?_
  refine r_get C w 1 rfl rfl 1 (by decide) fl_RX7_46 (v := .int 2) rfl dX7_seek_86 ?_
  refine lv_iload_n C.1 C.2.1 dX7_seek_89 rfl (lv_at hl 2 rfl) ?_
  refine b_icmp_gt_f C (tgt := 149) dX7_seek_90 (by decide) (by decide) ?_
  refine lv_aload_n C.1 C.2.1 dX7_seek_93 rfl (lv_at hl 1 rfl) ?_
  refine r_get C w 1 rfl rfl 1 (by decide) fl_RX7_46 (v := .int 2) rfl dX7_seek_94 ?_
  refine lv_iconst (v := 4) C.1 C.2.1 dX7_seek_97 (by decide) ?_
  refine b_icmp_gt_f C (tgt := 149) dX7_seek_98 (by decide) (by decide) ?_
  refine lv_aload_n C.1 C.2.1 dX7_seek_101 rfl (lv_at hl 1 rfl) ?_
  refine r_get C w 1 rfl rfl 3 (by decide) fl_RX7_15 (v := .int (-1)) rfl dX7_seek_102 ?_
  refine lv_iconst (v := (-1)) C.1 C.2.1 dX7_seek_105 (by decide) ?_
  refine b_icmp_ne_f C (tgt := 149) dX7_seek_106 (by decide) (by decide) ?_
  refine lv_aload_n C.1 C.2.1 dX7_seek_109 rfl (lv_at hl 1 rfl) ?_
  refine lv_iconst (v := 0) C.1 C.2.1 dX7_seek_110 (by decide) ?_
  refine lv_iconst (v := 0) C.1 C.2.1 dX7_seek_111 (by decide) ?_
  refine lv_iload_n C.1 C.2.1 dX7_seek_112 rfl (lv_at hl 0 rfl) ?_
  refine lv_iconst (v := (-1)) C.1 C.2.1 dX7_seek_113 (by decide) ?_
  refine r_callV C w fv_RX7_49 (c_X7_single_1 l D cy a0 a1 a2 a3 a4 a5 a9 a10 a11 a12 a13 a14 a15) (hl.1.trans hml.symm) [1, 2, 3] [0] (wr := [(a4, .inl (cy 1, 1830, .inl (fillF (fun _ => 0) 2 20 (PP 20 2 (20 + 1 - 2)))))]) ⟨rfl, rfl, rfl, rfl, by decide⟩ 0 rfl rfl rfl rfl rfl ⟨Nat.le_of_ble_eq_true rfl, Nat.le_of_ble_eq_true rfl, Nat.le_of_ble_eq_true rfl⟩ 0 0 ⟨rfl, rfl, Nat.le_of_ble_eq_true rfl, Nat.le_of_ble_eq_true rfl⟩ dX7_seek_114 (fun u H locs hp w => ?_)
  have w : Wd D A s.heap [(a4, .inl (cy 1, 1830, .inl (fillF (fun _ => 0) 2 20 (PP 20 2 (20 + 1 - 2))))), (a0, .inr (7, [.ref a1, .int 2, .int 1, .int (-1), .int (-1), .ref a2])), (a1, .inr (0, [.ref a3, .ref a4, .ref a5, .int 0, .int 190])), (a5, .inr (9, [.int 0, .int 2, .int 20, .int 120, .int 0, .int 0, .int 0, .int 0, .ref a9, .int 0, .ref a10, .ref a11, .int 0, .ref a12, .ref a13, .ref a14, .ref a15]))] _ _ := w
  refine r_top (g2 := F0 m 117 ls [.int 0]) rfl ?_
  refine b_if_eq_t C (tgt := 128) dX7_seek_117 (by decide) (by decide) ?_
  refine lv_aload_n C.1 C.2.1 dX7_seek_128 rfl (lv_at hl 1 rfl) ?_
  refine lv_aload_n C.1 C.2.1 dX7_seek_129 rfl (lv_at hl 1 rfl) ?_
  refine r_get C w 1 rfl rfl 1 (by decide) fl_RX7_46 (v := .int 2) rfl dX7_seek_130 ?_
  refine r_put C w 1 rfl rfl 2 (by decide) fl_RX7_9 rfl (ty := .int) (tyX7_ok 2 (by decide)) rfl rfl (Nat.le_of_ble_eq_true rfl) [(a4, .inl (cy 1, 1830, .inl (fillF (fun _ => 0) 2 20 (PP 20 2 (20 + 1 - 2))))), (a0, .inr (7, [.ref a1, .int 2, .int 2, .int (-1), .int (-1), .ref a2])), (a1, .inr (0, [.ref a3, .ref a4, .ref a5, .int 0, .int 190])), (a5, .inr (9, [.int 0, .int 2, .int 20, .int 120, .int 0, .int 0, .int 0, .int 0, .ref a9, .int 0, .ref a10, .ref a11, .int 0, .ref a12, .ref a13, .ref a14, .ref a15]))] rfl dX7_seek_133 (fun H locs w => ?_)
  refine lv_aload_n C.1 C.2.1 dX7_seek_136 rfl (lv_at hl 1 rfl) ?_
  refine lv_dup C.1 C.2.1 dX7_seek_137 rfl ?_
  refine r_get C w 1 rfl rfl 1 (by decide) fl_RX7_46 (v := .int 2) rfl dX7_seek_138 ?_
  refine lv_iconst (v := 1) C.1 C.2.1 dX7_seek_141 (by decide) ?_
  refine r_iadd C (v := 3) dX7_seek_142 (by decide) ?_
  refine r_put C w 1 rfl rfl 1 (by decide) fl_RX7_46 rfl (ty := .int) (tyX7_ok 1 (by decide)) rfl rfl (Nat.le_of_ble_eq_true rfl) [(a4, .inl (cy 1, 1830, .inl (fillF (fun _ => 0) 2 20 (PP 20 2 (20 + 1 - 2))))), (a0, .inr (7, [.ref a1, .int 3, .int 2, .int (-1), .int (-1), .ref a2])), (a1, .inr (0, [.ref a3, .ref a4, .ref a5, .int 0, .int 190])), (a5, .inr (9, [.int 0, .int 2, .int 20, .int 120, .int 0, .int 0, .int 0, .int 0, .ref a9, .int 0, .ref a10, .ref a11, .int 0, .ref a12, .ref a13, .ref a14, .ref a15]))] rfl dX7_seek_143 (fun H locs w => ?_)
  refine lv_goto (tgt := 85) C.1 C.2.1 dX7_seek_146 (by decide) ?_
  refine lv_aload_n C.1 C.2.1 dX7_seek_85 rfl (lv_at hl 1 rfl) ?_
  refine r_get C w 1 rfl rfl 1 (by decide) fl_RX7_46 (v := .int 3) rfl dX7_seek_86 ?_
  refine lv_iload_n C.1 C.2.1 dX7_seek_89 rfl (lv_at hl 2 rfl) ?_
  refine b_icmp_gt_t C (tgt := 149) dX7_seek_90 (by decide) (by decide) ?_
  exact r_vret C w hlocks () hr rfl trivial [0, 1, 2, 3] rfl rfl ⟨Nat.le_of_ble_eq_true rfl, Nat.le_of_ble_eq_true rfl⟩ dX7_seek_149
set_option maxRecDepth 100000 in
set_option maxHeartbeats 4000000 in
theorem c_X11_shortest_5 (l : Launch) (D : va_G) (cy : Nat → ClassId) (a0 a1 a2 a3 a4 a5 a6 a11 a12 a13 a14 a15 a16 a17 : Nat) : Ct l D cy yX11_shortest cX11_shortest 6 (some .int) 5 118 36 23817 [(a0, .inr (11, [.ref a1, .int 0, .int 0, .int (-1), .ref a2, .ref a3, .ref a4, .ref a5, .ref a6, .null])), (a6, .inr (9, [.int 0, .int 2, .int 20, .int 120, .int 0, .int 0, .int 0, .int 0, .ref a11, .int 0, .ref a12, .ref a13, .int 0, .ref a14, .ref a15, .ref a16, .ref a17]))] [.ref a0, .int 2, .int 0] (fun u : Nat × Nat × Nat × Nat × Nat × Nat × Nat × Nat × Nat × Nat × Nat × Nat × Nat × Nat × Nat × Nat × Nat × Nat × Nat × Nat × Nat × Nat × Nat × Nat × Nat × Nat × Nat × Nat × Nat × Nat × Nat × Nat × Nat × Nat × Nat × Nat => some (.int (-1))) (fun _ => True) (fun u : Nat × Nat × Nat × Nat × Nat × Nat × Nat × Nat × Nat × Nat × Nat × Nat × Nat × Nat × Nat × Nat × Nat × Nat × Nat × Nat × Nat × Nat × Nat × Nat × Nat × Nat × Nat × Nat × Nat × Nat × Nat × Nat × Nat × Nat × Nat × Nat => [(a0, .inr (11, [.ref a1, .int 0, .int 0, .int (-1), .ref a2, .ref a3, .ref a4, .ref a5, .ref a6, .ref u.1])), (u.2.2.2.2.1, .inl (cy 1, 0, .inl (fun _ => 0))), (u.2.2.2.2.2.2.2.1, .inl (cy 1, 0, .inl (fun _ => 0))), (u.2.2.2.2.2.2.2.2.1, .inl (cy 1, 0, .inl (fun _ => 0))), (u.2.2.2.2.2.2.2.2.2.1, .inl (cy 1, 0, .inl (fun _ => 0))), (u.2.2.2.2.2.2.2.2.2.2.1, .inl (cy 1, 0, .inl (fun _ => 0))), (u.2.2.2.2.2.2.2.2.2.2.2.1, .inl (cy 1, 0, .inl (fun _ => 0))), (u.2.2.2.2.2.2.2.2.2.2.2.2.1, .inl (cy 1, 7201, .inl (fun _ => 0))), (u.2.2.2.2.2.2.2.2.2.2.2.2.2.1, .inl (cy 1, 1830, .inl (fun _ => 0))), (u.2.2.2.2.2.2.2.2.2.2.2.2.2.2.2.2.1, .inl (cy 1, 1830, .inl (fun _ => 0))), (u.2.2.2.2.2.2.2.2.2.2.2.2.2.2.2.2.2.2.1, .inl (cy 1, 1830, .inl (fun _ => 0))), (u.2.2.2.2.2.2.2.2.2.2.2.2.2.2.2.2.2.1, .inr (2, [.ref u.2.1, .ref u.2.2.2.2.2.2.2.2.2.2.2.2.2.2.2.2.2.2.1, .ref u.2.2.2.2.2.2.2.2.2.2.2.2.2.2.2.2.2.2.2.1, .ref a6, .int 0])), (u.2.2.2.2.2.2.2.2.2.2.2.2.2.2.2.2.2.2.2.1, .inl (cy 1, 21, .inl (fun _ => 0))), (u.2.2.2.2.2.2.2.2.2.2.2.2.2.2.2.2.2.2.2.2.2.1, .inr (2, [.ref u.2.1, .ref u.2.2.2.2.2.2.2.2.2.2.2.2.2.2.1, .ref u.2.2.2.2.2.2.2.2.2.2.2.2.2.2.2.2.2.2.2.2.2.2.1, .ref a6, .int 0])), (u.2.2.2.2.2.2.2.2.2.2.2.2.2.2.2.2.2.2.2.2.2.2.1, .inl (cy 1, 21, .inl (fun _ => 0))), (u.2.2.2.2.2.2.2.2.2.2.2.2.2.2.2.2.2.2.2.2.2.2.2.2.1, .inl (cy 1, 6, .inl (fun _ => 0))), (u.2.2.2.2.2.2.2.2.2.2.2.2.2.2.2.2.2.2.2.2.2.2.2.2.2.1, .inl (cy 1, 6, .inl (fun _ => 0))), (u.2.2.2.2.2.2.2.2.2.2.2.2.2.2.2.2.2.2.2.2.2.2.2.2.2.2.2.1, .inl (cy 1, 1830, .inl (fun _ => 0))), (u.2.2.2.2.2.2.2.2.2.2.2.2.2.2.2.2.2.2.2.2.2.2.2.2.2.2.2.2.2.2.1, .inl (cy 1, 5, .inl (fun _ => 0))), (u.2.2.2.2.2.2.2.2.2.2.2.2.2.2.2.2.2.2.2.2.2.2.2.2.2.2.2.2.2.2.2.2.1, .inl (cy 1, 4, .inl (fun _ => 0))), (u.1, .inr (6, [.ref u.2.1, .ref u.2.2.2.2.2.2.2.2.2.2.2.2.2.2.2.1, .int 190, .ref u.2.2.2.2.2.2.2.2.2.2.2.2.2.2.2.2.1, .ref u.2.2.2.2.2.2.2.2.2.2.2.2.2.2.2.2.2.2.2.2.1, .ref u.2.2.2.2.2.2.2.2.2.2.2.2.2.2.2.2.2.2.2.2.2.2.2.2.2.2.1, .ref u.2.2.2.2.2.2.2.2.2.2.2.2.2.2.2.2.2.2.2.2.2.2.2.2.2.2.2.2.1, .ref u.2.2.2.2.2.2.2.2.2.2.2.2.2.2.2.2.2.2.2.2.2.2.2.2.2.2.2.2.2.1, .ref u.2.2.2.2.2.2.2.2.2.2.2.2.2.2.2.2.2.2.2.2.2.2.2.2.2.2.2.2.2.2.2.1, .ref u.2.2.2.2.2.2.2.2.2.2.2.2.2.2.2.2.2.1, .ref a6, .int 1, .int 0])), (u.2.2.2.2.2.2.2.2.2.2.2.2.2.2.2.1, .inl (cy 1, 1830, .inl (fillF (fun _ => 0) 2 20 (PP 20 2 (20 + 1 - 2))))), (u.2.2.2.1, .inl (cy 1, 0, .inl (fun _ => 0))), (u.2.2.2.2.2.2.2.2.2.2.2.2.2.2.2.2.2.2.2.2.2.2.2.2.2.2.2.2.2.2.2.2.2.1, .inl (cy 1, 1830, .inl (learnF 0 1830))), (u.2.2.2.2.2.1, .inl (cy 1, 0, .inl (fun _ => 0))), (u.2.2.2.2.2.2.2.2.2.2.2.2.2.2.2.2.2.2.2.2.2.2.2.2.2.2.2.2.2.2.2.2.2.2.1, .inl (cy 1, 1830, .inl (learnF 2 1830))), (u.2.1, .inr (4, [.ref u.2.2.1, .ref u.2.2.2.2.2.2.2.2.2.2.2.2.1, .int 0, .ref u.2.2.2.2.2.2.2.2.2.2.2.2.2.1])), (u.2.2.1, .inl (cy 5, 9, .inr (.inr (.inr (.inr (va_up (va_up (va_up (va_up (va_up (va_up (va_up (va_up (va_up (va_up (va_up (va_up (fun _ => none) 0 (some u.2.2.2.1)) 1 (some u.2.2.2.2.1)) 2 (some u.2.2.2.2.2.1)) 3 (some u.2.2.2.2.2.2.1)) 4 (some u.2.2.2.2.2.2.2.1)) 5 (some u.2.2.2.2.2.2.2.2.1)) 6 (some u.2.2.2.2.2.2.2.2.2.1)) 7 (some u.2.2.2.2.2.2.2.2.2.2.1)) 8 (some u.2.2.2.2.2.2.2.2.2.2.2.1)) 0 (some u.2.2.2.2.2.2.2.2.2.2.2.2.2.2.2.2.2.2.2.2.2.2.2.2.2.2.2.2.2.2.2.2.2.1)) 2 (some u.2.2.2.2.2.2.2.2.2.2.2.2.2.2.2.2.2.2.2.2.2.2.2.2.2.2.2.2.2.2.2.2.2.2.1)) 3 (some u.2.2.2.2.2.2.2.2.2.2.2.2.2.2.2.2.2.2.2.2.2.2.2.2.2.2.2.2.2.2.2.2.2.2.2))))))), (u.2.2.2.2.2.2.1, .inl (cy 1, 0, .inl (fun _ => 0))), (u.2.2.2.2.2.2.2.2.2.2.2.2.2.2.2.2.2.2.2.2.2.2.2.2.2.2.2.2.2.2.2.2.2.2.2, .inl (cy 1, 1830, .inl (learnF 3 1830))), (u.2.2.2.2.2.2.2.2.2.2.2.2.2.2.2.2.2.2.2.2.1, .inr (1, [.ref u.2.2.2.2.2.2.2.2.2.2.2.2.2.2.2.2.2.2.2.2.2.1, .ref a6, .int (-2), .int (-2), .ref u.2.2.2.2.2.2.2.2.2.2.2.2.2.2.2.2.2.2.2.2.2.2.2.1, .int 0, .int 0, .int 0, .int 0, .int (-1), .int 0, .ref u.2.2.2.2.2.2.2.2.2.2.2.2.2.2.2.2.2.2.2.2.2.2.2.2.1, .ref u.2.2.2.2.2.2.2.2.2.2.2.2.2.2.2.2.2.2.2.2.2.2.2.2.2.1])), (u.2.2.2.2.2.2.2.2.2.2.2.2.2.2.2.2.2.2.2.2.2.2.2.1, .inl (cy 1, 6, .inl (upd (upd (upd (upd (upd (upd (fun _ => 0) 0 (-2)) 1 (-2)) 2 (-2)) 3 (-2)) 4 (-2)) 5 (-2)))), (u.2.2.2.2.2.2.2.2.2.2.2.2.2.2.2.2.2.2.2.2.2.2.2.2.2.2.1, .inr (3, [.ref u.2.1, .ref u.2.2.2.2.2.2.2.2.2.2.2.2.2.2.1, .ref a6, .int (-1), .int (-1), .ref u.2.2.2.2.2.2.2.2.2.2.2.2.2.2.2.2.2.2.2.2.2.2.2.2.2.2.2.1, .int 0, .int 0, .int 0])), (u.2.2.2.2.2.2.2.2.2.2.2.2.2.2.2.2.2.2.2.2.2.2.2.2.2.2.2.2.2.1, .inr (8, [.ref u.2.2.2.2.2.2.2.2.2.2.2.2.2.2.2.2.2.2.2.2.2.2.2.2.2.2.2.2.1, .int (-1), .int 0, .int 0, .int 0, .int 0, .int 0, .ref u.2.2.2.2.2.2.2.2.2.2.2.2.2.2.2.2.2.2.2.2.2.2.2.2.2.2.2.2.2.2.1])), (u.2.2.2.2.2.2.2.2.2.2.2.2.2.2.1, .inl (cy 1, 1830, .inl (fillF (fun _ => 0) 2 20 (PP 20 2 (20 + 1 - 2))))), (u.2.2.2.2.2.2.2.2.2.2.2.2.2.2.2.2.2.2.2.2.2.2.2.2.2.2.2.2.2.2.2.1, .inr (7, [.ref u.2.2.2.2.2.2.2.2.2.2.2.2.2.2.2.2.2.2.2.2.2.2.2.2.2.2.2.2.1, .int 3, .int 2, .int (-1), .int (-1), .ref u.2.2.2.2.2.2.2.2.2.2.2.2.2.2.2.2.2.2.2.2.2.2.2.2.2.2.2.2.2.2.2.2.1])), (u.2.2.2.2.2.2.2.2.2.2.2.2.2.2.2.2.2.2.2.2.2.2.2.2.2.2.2.2.1, .inr (0, [.ref u.2.1, .ref u.2.2.2.2.2.2.2.2.2.2.2.2.2.2.1, .ref a6, .int 0, .int 190])), (a6, .inr (9, [.int 0, .int 2, .int 20, .int 120, .int 0, .int 0, .int 0, .int 0, .ref a11, .int 0, .ref a12, .ref a13, .int 0, .ref a14, .ref a15, .ref a16, .ref a17]))]) := by
  refine Ct.of (by decide +kernel) (Nat.le_of_ble_eq_true rfl) ?_
  intro p e s m args below meth c A ls C hr hlocks hml hnm w hl
  have hl : lv_has ls 6 [(0, .ref a0), (1, .int 2), (2, .int 0)] := hl
  refine lv_iload_n C.1 C.2.1 dX11_shortest_0 rfl (lv_at hl 2 rfl) ?_
  refine lv_bipush (v := 10) C.1 C.2.1 dX11_shortest_1 (by decide) ?_
  refine r_isub C (v := (-10)) dX11_shortest_3 (by decide) ?_
  refine lv_istore_n (lv' := [(3, .int (-10)), (0, .ref a0), (1, .int 2), (2, .int 0)]) C.1 C.2.1 dX11_shortest_4 rfl hl (by decide) rfl (fun ls hl => ?_)
  refine lv_iload_n C.1 C.2.1 dX11_shortest_5 rfl (lv_at hl 3 rfl) ?_
  refine lv_bipush (v := 10) C.1 C.2.1 dX11_shortest_6 (by decide) ?_
  refine b_icmp_lt_t C (tgt := 20) dX11_shortest_8 (by decide) (by decide) ?_
  refine lv_iconst (v := 0) C.1 C.2.1 dX11_shortest_20 (by decide) ?_
  refine lv_istore (lv' := [(4, .int 0), (3, .int (-10)), (0, .ref a0), (1, .int 2), (2, .int 0)]) C.1 C.2.1 dX11_shortest_21 hl (by decide) rfl (fun ls hl => ?_)
  refine lv_iload_n C.1 C.2.1 dX11_shortest_23 rfl (lv_at hl 3 rfl) ?_
  refine lv_iconst (v := 1) C.1 C.2.1 dX11_shortest_24 (by decide) ?_
  refine b_icmp_lt_f C (tgt := 47) dX11_shortest_25 (by decide) (by decide) ?_
  refine lv_iload_n C.1 C.2.1 dX11_shortest_28 rfl (lv_at hl 3 rfl) ?_
  refine lv_iconst (v := 4) C.1 C.2.1 dX11_shortest_29 (by decide) ?_
  refine b_icmp_gt_f C (tgt := 47) dX11_shortest_30 (by decide) (by decide) ?_
  refine lv_iload_n C.1 C.2.1 dX11_shortest_33 rfl (lv_at hl 4 rfl) ?_
  refine b_if_eq_t C (tgt := 58) dX11_shortest_34 (by decide) (by decide) ?_
  refine lv_aload_n C.1 C.2.1 dX11_shortest_58 rfl (lv_at hl 2 rfl) ?_
  refine r_callV C w fv_RX11_100 (c_X11_view_0 l D cy a0 a1 a2 a3 a4 a5 a6 a11 a12 a13 a14 a15 a16 a17) (hl.1.trans hml.symm) [0, 1] [] (wr := []) ⟨rfl, rfl, rfl, rfl, by decide⟩ 0 rfl rfl rfl rfl rfl ⟨Nat.le_of_ble_eq_true rfl, Nat.le_of_ble_eq_true rfl, Nat.le_of_ble_eq_true rfl⟩ 36 23817 ⟨rfl, rfl, Nat.le_of_ble_eq_true rfl, Nat.le_of_ble_eq_true rfl⟩ dX11_shortest_59 (fun u H locs hp w => ?_)
  obtain ⟨n1, n2, n3, n4, n5, n6, n7, n8, n9, n10, n11, n12, n13, n14, n15, n16, n17, n18, n19, n20, n21, n22, n23, n24, n25, n26, n27, n28, n29, n30, n31, n32, n33, n34, n35, n36⟩ := u
  have w : Wd D A s.heap [(a0, .inr (11, [.ref a1, .int 0, .int 0, .int (-1), .ref a2, .ref a3, .ref a4, .ref a5, .ref a6, .ref n1])), (n5, .inl (cy 1, 0, .inl (fun _ => 0))), (n8, .inl (cy 1, 0, .inl (fun _ => 0))), (n9, .inl (cy 1, 0, .inl (fun _ => 0))), (n10, .inl (cy 1, 0, .inl (fun _ => 0))), (n11, .inl (cy 1, 0, .inl (fun _ => 0))), (n12, .inl (cy 1, 0, .inl (fun _ => 0))), (n13, .inl (cy 1, 7201, .inl (fun _ => 0))), (n14, .inl (cy 1, 1830, .inl (fun _ => 0))), (n15, .inl (cy 1, 1830, .inl (fun _ => 0))), (n17, .inl (cy 1, 1830, .inl (fun _ => 0))), (n19, .inl (cy 1, 1830, .inl (fun _ => 0))), (n18, .inr (2, [.ref n2, .ref n19, .ref n20, .ref a6, .int 0])), (n20, .inl (cy 1, 21, .inl (fun _ => 0))), (n22, .inr (2, [.ref n2, .ref n15, .ref n23, .ref a6, .int 0])), (n23, .inl (cy 1, 21, .inl (fun _ => 0))), (n25, .inl (cy 1, 6, .inl (fun _ => 0))), (n26, .inl (cy 1, 6, .inl (fun _ => 0))), (n28, .inl (cy 1, 1830, .inl (fun _ => 0))), (n31, .inl (cy 1, 5, .inl (fun _ => 0))), (n33, .inl (cy 1, 4, .inl (fun _ => 0))), (n1, .inr (6, [.ref n2, .ref n16, .int 190, .ref n17, .ref n21, .ref n27, .ref n29, .ref n30, .ref n32, .ref n18, .ref a6, .int 1, .int 0])), (n16, .inl (cy 1, 1830, .inl (fillF (fun _ => 0) 2 20 (PP 20 2 (20 + 1 - 2))))), (a6, .inr (9, [.int 0, .int 2, .int 20, .int 120, .int 0, .int 0, .int 0, .int 0, .ref a11, .int 0, .ref a12, .ref a13, .int 0, .ref a14, .ref a15, .ref a16, .ref a17])), (n4, .inl (cy 1, 0, .inl (fun _ => 0))), (n34, .inl (cy 1, 1830, .inl (learnF 0 1830))), (n6, .inl (cy 1, 0, .inl (fun _ => 0))), (n35, .inl (cy 1, 1830, .inl (learnF 2 1830))), (n2, .inr (4, [.ref n3, .ref n13, .int 0, .ref n14])), (n3, .inl (cy 5, 9, .inr (.inr (.inr (.inr (va_up (va_up (va_up (va_up (va_up (va_up (va_up (va_up (va_up (va_up (va_up (va_up (fun _ => none) 0 (some n4)) 1 (some n5)) 2 (some n6)) 3 (some n7)) 4 (some n8)) 5 (some n9)) 6 (some n10)) 7 (some n11)) 8 (some n12)) 0 (some n34)) 2 (some n35)) 3 (some n36))))))), (n7, .inl (cy 1, 0, .inl (fun _ => 0))), (n36, .inl (cy 1, 1830, .inl (learnF 3 1830))), (n21, .inr (1, [.ref n22, .ref a6, .int (-2), .int (-2), .ref n24, .int 0, .int 0, .int 0, .int 0, .int (-1), .int 0, .ref n25, .ref n26])), (n24, .inl (cy 1, 6, .inl (upd (upd (upd (upd (upd (upd (fun _ => 0) 0 (-2)) 1 (-2)) 2 (-2)) 3 (-2)) 4 (-2)) 5 (-2)))), (n27, .inr (3, [.ref n2, .ref n15, .ref a6, .int (-1), .int (-1), .ref n28, .int 0, .int 0, .int 0])), (n29, .inr (0, [.ref n2, .ref n15, .ref a6, .int 0, .int 0])), (n30, .inr (8, [.ref n29, .int (-1), .int 0, .int 0, .int 0, .int 0, .int 0, .ref n31])), (n32, .inr (7, [.ref n29, .int 0, .int (-1), .int (-1), .int (-1), .ref n33]))] _ _ := w
  refine r_top (g2 := F0 m 62 ls [.ref n1]) rfl ?_
  refine r_get C w 21 rfl rfl 8 (by decide) fl_RX11_258 (v := .ref n32) rfl dX11_shortest_62 ?_
  refine lv_astore (lv' := [(5, .ref n32), (4, .int 0), (3, .int (-10)), (0, .ref a0), (1, .int 2), (2, .int 0)]) C.1 C.2.1 dX11_shortest_65 hl (by decide) rfl (fun ls hl => ?_)
  refine lv_aload C.1 C.2.1 dX11_shortest_67 (lv_at hl 0 rfl) ?_
  refine lv_iload_n C.1 C.2.1 dX11_shortest_69 rfl (lv_at hl 4 rfl) ?_
  refine r_callV C w fv_RX11_262 (c_X7_seek_10 l D cy n32 n29 n33 n2 n15 a6 a11 a12 a13 a14 a15 a16 a17) (hl.1.trans hml.symm) [37, 35, 9, 23] [0, 1, 2, 3, 4, 5, 6, 7, 8, 10, 11, 12, 13, 14, 15, 16, 17, 18, 19, 20, 21, 22, 24, 25, 26, 27, 28, 29, 30, 31, 32, 33, 34, 36] (wr := [(a0, .inr (11, [.ref a1, .int 0, .int 0, .int (-1), .ref a2, .ref a3, .ref a4, .ref a5, .ref a6, .ref n1])), (n5, .inl (cy 1, 0, .inl (fun _ => 0))), (n8, .inl (cy 1, 0, .inl (fun _ => 0))), (n9, .inl (cy 1, 0, .inl (fun _ => 0))), (n10, .inl (cy 1, 0, .inl (fun _ => 0))), (n11, .inl (cy 1, 0, .inl (fun _ => 0))), (n12, .inl (cy 1, 0, .inl (fun _ => 0))), (n13, .inl (cy 1, 7201, .inl (fun _ => 0))), (n14, .inl (cy 1, 1830, .inl (fun _ => 0))), (n17, .inl (cy 1, 1830, .inl (fun _ => 0))), (n19, .inl (cy 1, 1830, .inl (fun _ => 0))), (n18, .inr (2, [.ref n2, .ref n19, .ref n20, .ref a6, .int 0])), (n20, .inl (cy 1, 21, .inl (fun _ => 0))), (n22, .inr (2, [.ref n2, .ref n15, .ref n23, .ref a6, .int 0])), (n23, .inl (cy 1, 21, .inl (fun _ => 0))), (n25, .inl (cy 1, 6, .inl (fun _ => 0))), (n26, .inl (cy 1, 6, .inl (fun _ => 0))), (n28, .inl (cy 1, 1830, .inl (fun _ => 0))), (n31, .inl (cy 1, 5, .inl (fun _ => 0))), (n33, .inl (cy 1, 4, .inl (fun _ => 0))), (n1, .inr (6, [.ref n2, .ref n16, .int 190, .ref n17, .ref n21, .ref n27, .ref n29, .ref n30, .ref n32, .ref n18, .ref a6, .int 1, .int 0])), (n16, .inl (cy 1, 1830, .inl (fillF (fun _ => 0) 2 20 (PP 20 2 (20 + 1 - 2))))), (n4, .inl (cy 1, 0, .inl (fun _ => 0))), (n34, .inl (cy 1, 1830, .inl (learnF 0 1830))), (n6, .inl (cy 1, 0, .inl (fun _ => 0))), (n35, .inl (cy 1, 1830, .inl (learnF 2 1830))), (n2, .inr (4, [.ref n3, .ref n13, .int 0, .ref n14])), (n3, .inl (cy 5, 9, .inr (.inr (.inr (.inr (va_up (va_up (va_up (va_up (va_up (va_up (va_up (va_up (va_up (va_up (va_up (va_up (fun _ => none) 0 (some n4)) 1 (some n5)) 2 (some n6)) 3 (some n7)) 4 (some n8)) 5 (some n9)) 6 (some n10)) 7 (some n11)) 8 (some n12)) 0 (some n34)) 2 (some n35)) 3 (some n36))))))), (n7, .inl (cy 1, 0, .inl (fun _ => 0))), (n36, .inl (cy 1, 1830, .inl (learnF 3 1830))), (n21, .inr (1, [.ref n22, .ref a6, .int (-2), .int (-2), .ref n24, .int 0, .int 0, .int 0, .int 0, .int (-1), .int 0, .ref n25, .ref n26])), (n24, .inl (cy 1, 6, .inl (upd (upd (upd (upd (upd (upd (fun _ => 0) 0 (-2)) 1 (-2)) 2 (-2)) 3 (-2)) 4 (-2)) 5 (-2)))), (n27, .inr (3, [.ref n2, .ref n15, .ref a6, .int (-1), .int (-1), .ref n28, .int 0, .int 0, .int 0])), (n30, .inr (8, [.ref n29, .int (-1), .int 0, .int 0, .int 0, .int 0, .int 0, .ref n31]))]) ⟨rfl, rfl, rfl, rfl, by decide⟩ 0 rfl rfl rfl rfl rfl ⟨Nat.le_of_ble_eq_true rfl, Nat.le_of_ble_eq_true rfl, Nat.le_of_ble_eq_true rfl⟩ 36 23817 ⟨rfl, rfl, Nat.le_of_ble_eq_true rfl, Nat.le_of_ble_eq_true rfl⟩ dX11_shortest_70 (fun u H locs hp w => ?_)
  have w : Wd D A s.heap [(a0, .inr (11, [.ref a1, .int 0, .int 0, .int (-1), .ref a2, .ref a3, .ref a4, .ref a5, .ref a6, .ref n1])), (n5, .inl (cy 1, 0, .inl (fun _ => 0))), (n8, .inl (cy 1, 0, .inl (fun _ => 0))), (n9, .inl (cy 1, 0, .inl (fun _ => 0))), (n10, .inl (cy 1, 0, .inl (fun _ => 0))), (n11, .inl (cy 1, 0, .inl (fun _ => 0))), (n12, .inl (cy 1, 0, .inl (fun _ => 0))), (n13, .inl (cy 1, 7201, .inl (fun _ => 0))), (n14, .inl (cy 1, 1830, .inl (fun _ => 0))), (n17, .inl (cy 1, 1830, .inl (fun _ => 0))), (n19, .inl (cy 1, 1830, .inl (fun _ => 0))), (n18, .inr (2, [.ref n2, .ref n19, .ref n20, .ref a6, .int 0])), (n20, .inl (cy 1, 21, .inl (fun _ => 0))), (n22, .inr (2, [.ref n2, .ref n15, .ref n23, .ref a6, .int 0])), (n23, .inl (cy 1, 21, .inl (fun _ => 0))), (n25, .inl (cy 1, 6, .inl (fun _ => 0))), (n26, .inl (cy 1, 6, .inl (fun _ => 0))), (n28, .inl (cy 1, 1830, .inl (fun _ => 0))), (n31, .inl (cy 1, 5, .inl (fun _ => 0))), (n33, .inl (cy 1, 4, .inl (fun _ => 0))), (n1, .inr (6, [.ref n2, .ref n16, .int 190, .ref n17, .ref n21, .ref n27, .ref n29, .ref n30, .ref n32, .ref n18, .ref a6, .int 1, .int 0])), (n16, .inl (cy 1, 1830, .inl (fillF (fun _ => 0) 2 20 (PP 20 2 (20 + 1 - 2))))), (n4, .inl (cy 1, 0, .inl (fun _ => 0))), (n34, .inl (cy 1, 1830, .inl (learnF 0 1830))), (n6, .inl (cy 1, 0, .inl (fun _ => 0))), (n35, .inl (cy 1, 1830, .inl (learnF 2 1830))), (n2, .inr (4, [.ref n3, .ref n13, .int 0, .ref n14])), (n3, .inl (cy 5, 9, .inr (.inr (.inr (.inr (va_up (va_up (va_up (va_up (va_up (va_up (va_up (va_up (va_up (va_up (va_up (va_up (fun _ => none) 0 (some n4)) 1 (some n5)) 2 (some n6)) 3 (some n7)) 4 (some n8)) 5 (some n9)) 6 (some n10)) 7 (some n11)) 8 (some n12)) 0 (some n34)) 2 (some n35)) 3 (some n36))))))), (n7, .inl (cy 1, 0, .inl (fun _ => 0))), (n36, .inl (cy 1, 1830, .inl (learnF 3 1830))), (n21, .inr (1, [.ref n22, .ref a6, .int (-2), .int (-2), .ref n24, .int 0, .int 0, .int 0, .int 0, .int (-1), .int 0, .ref n25, .ref n26])), (n24, .inl (cy 1, 6, .inl (upd (upd (upd (upd (upd (upd (fun _ => 0) 0 (-2)) 1 (-2)) 2 (-2)) 3 (-2)) 4 (-2)) 5 (-2)))), (n27, .inr (3, [.ref n2, .ref n15, .ref a6, .int (-1), .int (-1), .ref n28, .int 0, .int 0, .int 0])), (n30, .inr (8, [.ref n29, .int (-1), .int 0, .int 0, .int 0, .int 0, .int 0, .ref n31])), (n15, .inl (cy 1, 1830, .inl (fillF (fun _ => 0) 2 20 (PP 20 2 (20 + 1 - 2))))), (n32, .inr (7, [.ref n29, .int 3, .int 2, .int (-1), .int (-1), .ref n33])), (n29, .inr (0, [.ref n2, .ref n15, .ref a6, .int 0, .int 190])), (a6, .inr (9, [.int 0, .int 2, .int 20, .int 120, .int 0, .int 0, .int 0, .int 0, .ref a11, .int 0, .ref a12, .ref a13, .int 0, .ref a14, .ref a15, .ref a16, .ref a17]))] _ _ := w
  refine r_top (g2 := F0 m 73 ls []) rfl ?_
  refine lv_aload C.1 C.2.1 dX11_shortest_73 (lv_at hl 0 rfl) ?_
  refine r_get C w 35 rfl rfl 3 (by decide) fl_RX11_264 (v := .int (-1)) rfl dX11_shortest_75 ?_
  refine lv_iconst (v := (-1)) C.1 C.2.1 dX11_shortest_78 (by decide) ?_
  refine b_icmp_eq_t C (tgt := 91) dX11_shortest_79 (by decide) (by decide) ?_
  refine lv_iconst (v := (-1)) C.1 C.2.1 dX11_shortest_91 (by decide) ?_
  exact r_iret C w hlocks (n1, n2, n3, n4, n5, n6, n7, n8, n9, n10, n11, n12, n13, n14, n15, n16, n17, n18, n19, n20, n21, n22, n23, n24, n25, n26, n27, n28, n29, n30, n31, n32, n33, n34, n35, n36) hr rfl rfl trivial [0, 1, 2, 3, 4, 5, 6, 7, 8, 9, 10, 11, 12, 13, 14, 15, 16, 17, 18, 19, 20, 21, 22, 23, 24, 25, 26, 27, 28, 29, 30, 31, 32, 33, 34, 35, 36, 37] rfl rfl ⟨Nat.le_of_ble_eq_true rfl, Nat.le_of_ble_eq_true rfl⟩ dX11_shortest_92
theorem dX11_shortest_37 : decode cX11_shortest 37 = .ok (.iload_n 2, 1) := by decide +kernel
theorem dX11_shortest_38 : decode cX11_shortest 38 = .ok (.iconst 1, 1) := by decide +kernel
theorem dX11_shortest_39 : decode cX11_shortest 39 = .ok (.if_icmp .eq 19, 3) := by decide +kernel
set_option maxRecDepth 100000 in
set_option maxHeartbeats 4000000 in
theorem c_X11_shortest_6 (l : Launch) (D : va_G) (cy : Nat → ClassId) (a0 a1 a2 a3 a4 a5 a6 a11 a12 a13 a14 a15 a16 a17 : Nat) : Ct l D cy yX11_shortest cX11_shortest 6 (some .int) 5 118 36 23817 [(a0, .inr (11, [.ref a1, .int 0, .int 0, .int (-1), .ref a2, .ref a3, .ref a4, .ref a5, .ref a6, .null])), (a6, .inr (9, [.int 0, .int 2, .int 20, .int 120, .int 0, .int 0, .int 0, .int 0, .ref a11, .int 0, .ref a12, .ref a13, .int 0, .ref a14, .ref a15, .ref a16, .ref a17]))] [.ref a0, .int 1, .int 1] (fun u : Nat × Nat × Nat × Nat × Nat × Nat × Nat × Nat × Nat × Nat × Nat × Nat × Nat × Nat × Nat × Nat × Nat × Nat × Nat × Nat × Nat × Nat × Nat × Nat × Nat × Nat × Nat × Nat × Nat × Nat × Nat × Nat × Nat × Nat × Nat × Nat => some (.int (-1))) (fun _ => True) (fun u : Nat × Nat × Nat × Nat × Nat × Nat × Nat × Nat × Nat × Nat × Nat × Nat × Nat × Nat × Nat × Nat × Nat × Nat × Nat × Nat × Nat × Nat × Nat × Nat × Nat × Nat × Nat × Nat × Nat × Nat × Nat × Nat × Nat × Nat × Nat × Nat => [(a0, .inr (11, [.ref a1, .int 0, .int 0, .int (-1), .ref a2, .ref a3, .ref a4, .ref a5, .ref a6, .ref u.1])), (u.2.2.2.2.1, .inl (cy 1, 0, .inl (fun _ => 0))), (u.2.2.2.2.2.2.2.1, .inl (cy 1, 0, .inl (fun _ => 0))), (u.2.2.2.2.2.2.2.2.1, .inl (cy 1, 0, .inl (fun _ => 0))), (u.2.2.2.2.2.2.2.2.2.1, .inl (cy 1, 0, .inl (fun _ => 0))), (u.2.2.2.2.2.2.2.2.2.2.1, .inl (cy 1, 0, .inl (fun _ => 0))), (u.2.2.2.2.2.2.2.2.2.2.2.1, .inl (cy 1, 0, .inl (fun _ => 0))), (u.2.2.2.2.2.2.2.2.2.2.2.2.1, .inl (cy 1, 7201, .inl (fun _ => 0))), (u.2.2.2.2.2.2.2.2.2.2.2.2.2.1, .inl (cy 1, 1830, .inl (fun _ => 0))), (u.2.2.2.2.2.2.2.2.2.2.2.2.2.2.2.2.1, .inl (cy 1, 1830, .inl (fun _ => 0))), (u.2.2.2.2.2.2.2.2.2.2.2.2.2.2.2.2.2.2.1, .inl (cy 1, 1830, .inl (fun _ => 0))), (u.2.2.2.2.2.2.2.2.2.2.2.2.2.2.2.2.2.1, .inr (2, [.ref u.2.1, .ref u.2.2.2.2.2.2.2.2.2.2.2.2.2.2.2.2.2.2.1, .ref u.2.2.2.2.2.2.2.2.2.2.2.2.2.2.2.2.2.2.2.1, .ref a6, .int 0])), (u.2.2.2.2.2.2.2.2.2.2.2.2.2.2.2.2.2.2.2.1, .inl (cy 1, 21, .inl (fun _ => 0))), (u.2.2.2.2.2.2.2.2.2.2.2.2.2.2.2.2.2.2.2.2.2.1, .inr (2, [.ref u.2.1, .ref u.2.2.2.2.2.2.2.2.2.2.2.2.2.2.1, .ref u.2.2.2.2.2.2.2.2.2.2.2.2.2.2.2.2.2.2.2.2.2.2.1, .ref a6, .int 0])), (u.2.2.2.2.2.2.2.2.2.2.2.2.2.2.2.2.2.2.2.2.2.2.1, .inl (cy 1, 21, .inl (fun _ => 0))), (u.2.2.2.2.2.2.2.2.2.2.2.2.2.2.2.2.2.2.2.2.2.2.2.2.1, .inl (cy 1, 6, .inl (fun _ => 0))), (u.2.2.2.2.2.2.2.2.2.2.2.2.2.2.2.2.2.2.2.2.2.2.2.2.2.1, .inl (cy 1, 6, .inl (fun _ => 0))), (u.2.2.2.2.2.2.2.2.2.2.2.2.2.2.2.2.2.2.2.2.2.2.2.2.2.2.2.1, .inl (cy 1, 1830, .inl (fun _ => 0))), (u.2.2.2.2.2.2.2.2.2.2.2.2.2.2.2.2.2.2.2.2.2.2.2.2.2.2.2.2.2.2.1, .inl (cy 1, 5, .inl (fun _ => 0))), (u.2.2.2.2.2.2.2.2.2.2.2.2.2.2.2.2.2.2.2.2.2.2.2.2.2.2.2.2.2.2.2.2.1, .inl (cy 1, 4, .inl (fun _ => 0))), (u.1, .inr (6, [.ref u.2.1, .ref u.2.2.2.2.2.2.2.2.2.2.2.2.2.2.2.1, .int 190, .ref u.2.2.2.2.2.2.2.2.2.2.2.2.2.2.2.2.1, .ref u.2.2.2.2.2.2.2.2.2.2.2.2.2.2.2.2.2.2.2.2.1, .ref u.2.2.2.2.2.2.2.2.2.2.2.2.2.2.2.2.2.2.2.2.2.2.2.2.2.2.1, .ref u.2.2.2.2.2.2.2.2.2.2.2.2.2.2.2.2.2.2.2.2.2.2.2.2.2.2.2.2.1, .ref u.2.2.2.2.2.2.2.2.2.2.2.2.2.2.2.2.2.2.2.2.2.2.2.2.2.2.2.2.2.1, .ref u.2.2.2.2.2.2.2.2.2.2.2.2.2.2.2.2.2.2.2.2.2.2.2.2.2.2.2.2.2.2.2.1, .ref u.2.2.2.2.2.2.2.2.2.2.2.2.2.2.2.2.2.1, .ref a6, .int 1, .int 0])), (u.2.2.2.2.2.2.2.2.2.2.2.2.2.2.2.1, .inl (cy 1, 1830, .inl (fillF (fun _ => 0) 2 20 (PP 20 2 (20 + 1 - 2))))), (u.2.2.2.1, .inl (cy 1, 0, .inl (fun _ => 0))), (u.2.2.2.2.2.2.2.2.2.2.2.2.2.2.2.2.2.2.2.2.2.2.2.2.2.2.2.2.2.2.2.2.2.1, .inl (cy 1, 1830, .inl (learnF 0 1830))), (u.2.2.2.2.2.1, .inl (cy 1, 0, .inl (fun _ => 0))), (u.2.2.2.2.2.2.2.2.2.2.2.2.2.2.2.2.2.2.2.2.2.2.2.2.2.2.2.2.2.2.2.2.2.2.1, .inl (cy 1, 1830, .inl (learnF 2 1830))), (u.2.1, .inr (4, [.ref u.2.2.1, .ref u.2.2.2.2.2.2.2.2.2.2.2.2.1, .int 0, .ref u.2.2.2.2.2.2.2.2.2.2.2.2.2.1])), (u.2.2.1, .inl (cy 5, 9, .inr (.inr (.inr (.inr (va_up (va_up (va_up (va_up (va_up (va_up (va_up (va_up (va_up (va_up (va_up (va_up (fun _ => none) 0 (some u.2.2.2.1)) 1 (some u.2.2.2.2.1)) 2 (some u.2.2.2.2.2.1)) 3 (some u.2.2.2.2.2.2.1)) 4 (some u.2.2.2.2.2.2.2.1)) 5 (some u.2.2.2.2.2.2.2.2.1)) 6 (some u.2.2.2.2.2.2.2.2.2.1)) 7 (some u.2.2.2.2.2.2.2.2.2.2.1)) 8 (some u.2.2.2.2.2.2.2.2.2.2.2.1)) 0 (some u.2.2.2.2.2.2.2.2.2.2.2.2.2.2.2.2.2.2.2.2.2.2.2.2.2.2.2.2.2.2.2.2.2.1)) 2 (some u.2.2.2.2.2.2.2.2.2.2.2.2.2.2.2.2.2.2.2.2.2.2.2.2.2.2.2.2.2.2.2.2.2.2.1)) 3 (some u.2.2.2.2.2.2.2.2.2.2.2.2.2.2.2.2.2.2.2.2.2.2.2.2.2.2.2.2.2.2.2.2.2.2.2))))))), (u.2.2.2.2.2.2.1, .inl (cy 1, 0, .inl (fun _ => 0))), (u.2.2.2.2.2.2.2.2.2.2.2.2.2.2.2.2.2.2.2.2.2.2.2.2.2.2.2.2.2.2.2.2.2.2.2, .inl (cy 1, 1830, .inl (learnF 3 1830))), (u.2.2.2.2.2.2.2.2.2.2.2.2.2.2.2.2.2.2.2.2.1, .inr (1, [.ref u.2.2.2.2.2.2.2.2.2.2.2.2.2.2.2.2.2.2.2.2.2.1, .ref a6, .int (-2), .int (-2), .ref u.2.2.2.2.2.2.2.2.2.2.2.2.2.2.2.2.2.2.2.2.2.2.2.1, .int 0, .int 0, .int 0, .int 0, .int (-1), .int 0, .ref u.2.2.2.2.2.2.2.2.2.2.2.2.2.2.2.2.2.2.2.2.2.2.2.2.1, .ref u.2.2.2.2.2.2.2.2.2.2.2.2.2.2.2.2.2.2.2.2.2.2.2.2.2.1])), (u.2.2.2.2.2.2.2.2.2.2.2.2.2.2.2.2.2.2.2.2.2.2.2.1, .inl (cy 1, 6, .inl (upd (upd (upd (upd (upd (upd (fun _ => 0) 0 (-2)) 1 (-2)) 2 (-2)) 3 (-2)) 4 (-2)) 5 (-2)))), (u.2.2.2.2.2.2.2.2.2.2.2.2.2.2.2.2.2.2.2.2.2.2.2.2.2.2.1, .inr (3, [.ref u.2.1, .ref u.2.2.2.2.2.2.2.2.2.2.2.2.2.2.1, .ref a6, .int (-1), .int (-1), .ref u.2.2.2.2.2.2.2.2.2.2.2.2.2.2.2.2.2.2.2.2.2.2.2.2.2.2.2.1, .int 0, .int 0, .int 0])), (u.2.2.2.2.2.2.2.2.2.2.2.2.2.2.2.2.2.2.2.2.2.2.2.2.2.2.2.2.2.1, .inr (8, [.ref u.2.2.2.2.2.2.2.2.2.2.2.2.2.2.2.2.2.2.2.2.2.2.2.2.2.2.2.2.1, .int (-1), .int 0, .int 0, .int 0, .int 0, .int 0, .ref u.2.2.2.2.2.2.2.2.2.2.2.2.2.2.2.2.2.2.2.2.2.2.2.2.2.2.2.2.2.2.1])), (u.2.2.2.2.2.2.2.2.2.2.2.2.2.2.1, .inl (cy 1, 1830, .inl (fillF (fun _ => 0) 2 20 (PP 20 2 (20 + 1 - 2))))), (u.2.2.2.2.2.2.2.2.2.2.2.2.2.2.2.2.2.2.2.2.2.2.2.2.2.2.2.2.2.2.2.1, .inr (7, [.ref u.2.2.2.2.2.2.2.2.2.2.2.2.2.2.2.2.2.2.2.2.2.2.2.2.2.2.2.2.1, .int 2, .int 1, .int (-1), .int (-1), .ref u.2.2.2.2.2.2.2.2.2.2.2.2.2.2.2.2.2.2.2.2.2.2.2.2.2.2.2.2.2.2.2.2.1])), (u.2.2.2.2.2.2.2.2.2.2.2.2.2.2.2.2.2.2.2.2.2.2.2.2.2.2.2.2.1, .inr (0, [.ref u.2.1, .ref u.2.2.2.2.2.2.2.2.2.2.2.2.2.2.1, .ref a6, .int 0, .int 190])), (a6, .inr (9, [.int 0, .int 2, .int 20, .int 120, .int 0, .int 0, .int 0, .int 0, .ref a11, .int 0, .ref a12, .ref a13, .int 0, .ref a14, .ref a15, .ref a16, .ref a17]))]) := by
  refine Ct.of (by decide +kernel) (Nat.le_of_ble_eq_true rfl) ?_
  intro p e s m args below meth c A ls C hr hlocks hml hnm w hl
  have hl : lv_has ls 6 [(0, .ref a0), (1, .int 1), (2, .int 1)] := hl
  refine lv_iload_n C.1 C.2.1 dX11_shortest_0 rfl (lv_at hl 2 rfl) ?_
  refine lv_bipush (v := 10) C.1 C.2.1 dX11_shortest_1 (by decide) ?_
  refine r_isub C (v := (-9)) dX11_shortest_3 (by decide) ?_
  refine lv_istore_n (lv' := [(3, .int (-9)), (0, .ref a0), (1, .int 1), (2, .int 1)]) C.1 C.2.1 dX11_shortest_4 rfl hl (by decide) rfl (fun ls hl => ?_)
  refine lv_iload_n C.1 C.2.1 dX11_shortest_5 rfl (lv_at hl 3 rfl) ?_
  refine lv_bipush (v := 10) C.1 C.2.1 dX11_shortest_6 (by decide) ?_
  refine b_icmp_lt_t C (tgt := 20) dX11_shortest_8 (by decide) (by decide) ?_
  refine lv_iconst (v := 0) C.1 C.2.1 dX11_shortest_20 (by decide) ?_
  refine lv_istore (lv' := [(4, .int 0), (3, .int (-9)), (0, .ref a0), (1, .int 1), (2, .int 1)]) C.1 C.2.1 dX11_shortest_21 hl (by decide) rfl (fun ls hl => ?_)
  refine lv_iload_n C.1 C.2.1 dX11_shortest_23 rfl (lv_at hl 3 rfl) ?_
  refine lv_iconst (v := 1) C.1 C.2.1 dX11_shortest_24 (by decide) ?_
  refine b_icmp_lt_f C (tgt := 47) dX11_shortest_25 (by decide) (by decide) ?_
  refine lv_iload_n C.1 C.2.1 dX11_shortest_28 rfl (lv_at hl 3 rfl) ?_
  refine lv_iconst (v := 4) C.1 C.2.1 dX11_shortest_29 (by decide) ?_
  refine b_icmp_gt_f C (tgt := 47) dX11_shortest_30 (by decide) (by decide) ?_
  refine lv_iload_n C.1 C.2.1 dX11_shortest_33 rfl (lv_at hl 4 rfl) ?_
  refine b_if_eq_f C (tgt := 58) dX11_shortest_34 (by decide) (by decide) ?_
  refine lv_iload_n C.1 C.2.1 dX11_shortest_37 rfl (lv_at hl 4 rfl) ?_
  refine lv_iconst (v := 1) C.1 C.2.1 dX11_shortest_38 (by decide) ?_
  refine b_icmp_eq_t C (tgt := 58) dX11_shortest_39 (by decide) (by decide) ?_
  refine lv_aload_n C.1 C.2.1 dX11_shortest_58 rfl (lv_at hl 2 rfl) ?_
  refine r_callV C w fv_RX11_100 (c_X11_view_0 l D cy a0 a1 a2 a3 a4 a5 a6 a11 a12 a13 a14 a15 a16 a17) (hl.1.trans hml.symm) [0, 1] [] (wr := []) ⟨rfl, rfl, rfl, rfl, by decide⟩ 0 rfl rfl rfl rfl rfl ⟨Nat.le_of_ble_eq_true rfl, Nat.le_of_ble_eq_true rfl, Nat.le_of_ble_eq_true rfl⟩ 36 23817 ⟨rfl, rfl, Nat.le_of_ble_eq_true rfl, Nat.le_of_ble_eq_true rfl⟩ dX11_shortest_59 (fun u H locs hp w => ?_)
  obtain ⟨n1, n2, n3, n4, n5, n6, n7, n8, n9, n10, n11, n12, n13, n14, n15, n16, n17, n18, n19, n20, n21, n22, n23, n24, n25, n26, n27, n28, n29, n30, n31, n32, n33, n34, n35, n36⟩ := u
  have w : Wd D A s.heap [(a0, .inr (11, [.ref a1, .int 0, .int 0, .int (-1), .ref a2, .ref a3, .ref a4, .ref a5, .ref a6, .ref n1])), (n5, .inl (cy 1, 0, .inl (fun _ => 0))), (n8, .inl (cy 1, 0, .inl (fun _ => 0))), (n9, .inl (cy 1, 0, .inl (fun _ => 0))), (n10, .inl (cy 1, 0, .inl (fun _ => 0))), (n11, .inl (cy 1, 0, .inl (fun _ => 0))), (n12, .inl (cy 1, 0, .inl (fun _ => 0))), (n13, .inl (cy 1, 7201, .inl (fun _ => 0))), (n14, .inl (cy 1, 1830, .inl (fun _ => 0))), (n15, .inl (cy 1, 1830, .inl (fun _ => 0))), (n17, .inl (cy 1, 1830, .inl (fun _ => 0))), (n19, .inl (cy 1, 1830, .inl (fun _ => 0))), (n18, .inr (2, [.ref n2, .ref n19, .ref n20, .ref a6, .int 0])), (n20, .inl (cy 1, 21, .inl (fun _ => 0))), (n22, .inr (2, [.ref n2, .ref n15, .ref n23, .ref a6, .int 0])), (n23, .inl (cy 1, 21, .inl (fun _ => 0))), (n25, .inl (cy 1, 6, .inl (fun _ => 0))), (n26, .inl (cy 1, 6, .inl (fun _ => 0))), (n28, .inl (cy 1, 1830, .inl (fun _ => 0))), (n31, .inl (cy 1, 5, .inl (fun _ => 0))), (n33, .inl (cy 1, 4, .inl (fun _ => 0))), (n1, .inr (6, [.ref n2, .ref n16, .int 190, .ref n17, .ref n21, .ref n27, .ref n29, .ref n30, .ref n32, .ref n18, .ref a6, .int 1, .int 0])), (n16, .inl (cy 1, 1830, .inl (fillF (fun _ => 0) 2 20 (PP 20 2 (20 + 1 - 2))))), (a6, .inr (9, [.int 0, .int 2, .int 20, .int 120, .int 0, .int 0, .int 0, .int 0, .ref a11, .int 0, .ref a12, .ref a13, .int 0, .ref a14, .ref a15, .ref a16, .ref a17])), (n4, .inl (cy 1, 0, .inl (fun _ => 0))), (n34, .inl (cy 1, 1830, .inl (learnF 0 1830))), (n6, .inl (cy 1, 0, .inl (fun _ => 0))), (n35, .inl (cy 1, 1830, .inl (learnF 2 1830))), (n2, .inr (4, [.ref n3, .ref n13, .int 0, .ref n14])), (n3, .inl (cy 5, 9, .inr (.inr (.inr (.inr (va_up (va_up (va_up (va_up (va_up (va_up (va_up (va_up (va_up (va_up (va_up (va_up (fun _ => none) 0 (some n4)) 1 (some n5)) 2 (some n6)) 3 (some n7)) 4 (some n8)) 5 (some n9)) 6 (some n10)) 7 (some n11)) 8 (some n12)) 0 (some n34)) 2 (some n35)) 3 (some n36))))))), (n7, .inl (cy 1, 0, .inl (fun _ => 0))), (n36, .inl (cy 1, 1830, .inl (learnF 3 1830))), (n21, .inr (1, [.ref n22, .ref a6, .int (-2), .int (-2), .ref n24, .int 0, .int 0, .int 0, .int 0, .int (-1), .int 0, .ref n25, .ref n26])), (n24, .inl (cy 1, 6, .inl (upd (upd (upd (upd (upd (upd (fun _ => 0) 0 (-2)) 1 (-2)) 2 (-2)) 3 (-2)) 4 (-2)) 5 (-2)))), (n27, .inr (3, [.ref n2, .ref n15, .ref a6, .int (-1), .int (-1), .ref n28, .int 0, .int 0, .int 0])), (n29, .inr (0, [.ref n2, .ref n15, .ref a6, .int 0, .int 0])), (n30, .inr (8, [.ref n29, .int (-1), .int 0, .int 0, .int 0, .int 0, .int 0, .ref n31])), (n32, .inr (7, [.ref n29, .int 0, .int (-1), .int (-1), .int (-1), .ref n33]))] _ _ := w
  refine r_top (g2 := F0 m 62 ls [.ref n1]) rfl ?_
  refine r_get C w 21 rfl rfl 8 (by decide) fl_RX11_258 (v := .ref n32) rfl dX11_shortest_62 ?_
  refine lv_astore (lv' := [(5, .ref n32), (4, .int 0), (3, .int (-9)), (0, .ref a0), (1, .int 1), (2, .int 1)]) C.1 C.2.1 dX11_shortest_65 hl (by decide) rfl (fun ls hl => ?_)
  refine lv_aload C.1 C.2.1 dX11_shortest_67 (lv_at hl 0 rfl) ?_
  refine lv_iload_n C.1 C.2.1 dX11_shortest_69 rfl (lv_at hl 4 rfl) ?_
  refine r_callV C w fv_RX11_262 (c_X7_seek_7 l D cy n32 n29 n33 n2 n15 a6 a11 a12 a13 a14 a15 a16 a17) (hl.1.trans hml.symm) [37, 35, 9, 23] [0, 1, 2, 3, 4, 5, 6, 7, 8, 10, 11, 12, 13, 14, 15, 16, 17, 18, 19, 20, 21, 22, 24, 25, 26, 27, 28, 29, 30, 31, 32, 33, 34, 36] (wr := [(a0, .inr (11, [.ref a1, .int 0, .int 0, .int (-1), .ref a2, .ref a3, .ref a4, .ref a5, .ref a6, .ref n1])), (n5, .inl (cy 1, 0, .inl (fun _ => 0))), (n8, .inl (cy 1, 0, .inl (fun _ => 0))), (n9, .inl (cy 1, 0, .inl (fun _ => 0))), (n10, .inl (cy 1, 0, .inl (fun _ => 0))), (n11, .inl (cy 1, 0, .inl (fun _ => 0))), (n12, .inl (cy 1, 0, .inl (fun _ => 0))), (n13, .inl (cy 1, 7201, .inl (fun _ => 0))), (n14, .inl (cy 1, 1830, .inl (fun _ => 0))), (n17, .inl (cy 1, 1830, .inl (fun _ => 0))), (n19, .inl (cy 1, 1830, .inl (fun _ => 0))), (n18, .inr (2, [.ref n2, .ref n19, .ref n20, .ref a6, .int 0])), (n20, .inl (cy 1, 21, .inl (fun _ => 0))), (n22, .inr (2, [.ref n2, .ref n15, .ref n23, .ref a6, .int 0])), (n23, .inl (cy 1, 21, .inl (fun _ => 0))), (n25, .inl (cy 1, 6, .inl (fun _ => 0))), (n26, .inl (cy 1, 6, .inl (fun _ => 0))), (n28, .inl (cy 1, 1830, .inl (fun _ => 0))), (n31, .inl (cy 1, 5, .inl (fun _ => 0))), (n33, .inl (cy 1, 4, .inl (fun _ => 0))), (n1, .inr (6, [.ref n2, .ref n16, .int 190, .ref n17, .ref n21, .ref n27, .ref n29, .ref n30, .ref n32, .ref n18, .ref a6, .int 1, .int 0])), (n16, .inl (cy 1, 1830, .inl (fillF (fun _ => 0) 2 20 (PP 20 2 (20 + 1 - 2))))), (n4, .inl (cy 1, 0, .inl (fun _ => 0))), (n34, .inl (cy 1, 1830, .inl (learnF 0 1830))), (n6, .inl (cy 1, 0, .inl (fun _ => 0))), (n35, .inl (cy 1, 1830, .inl (learnF 2 1830))), (n2, .inr (4, [.ref n3, .ref n13, .int 0, .ref n14])), (n3, .inl (cy 5, 9, .inr (.inr (.inr (.inr (va_up (va_up (va_up (va_up (va_up (va_up (va_up (va_up (va_up (va_up (va_up (va_up (fun _ => none) 0 (some n4)) 1 (some n5)) 2 (some n6)) 3 (some n7)) 4 (some n8)) 5 (some n9)) 6 (some n10)) 7 (some n11)) 8 (some n12)) 0 (some n34)) 2 (some n35)) 3 (some n36))))))), (n7, .inl (cy 1, 0, .inl (fun _ => 0))), (n36, .inl (cy 1, 1830, .inl (learnF 3 1830))), (n21, .inr (1, [.ref n22, .ref a6, .int (-2), .int (-2), .ref n24, .int 0, .int 0, .int 0, .int 0, .int (-1), .int 0, .ref n25, .ref n26])), (n24, .inl (cy 1, 6, .inl (upd (upd (upd (upd (upd (upd (fun _ => 0) 0 (-2)) 1 (-2)) 2 (-2)) 3 (-2)) 4 (-2)) 5 (-2)))), (n27, .inr (3, [.ref n2, .ref n15, .ref a6, .int (-1), .int (-1), .ref n28, .int 0, .int 0, .int 0])), (n30, .inr (8, [.ref n29, .int (-1), .int 0, .int 0, .int 0, .int 0, .int 0, .ref n31]))]) ⟨rfl, rfl, rfl, rfl, by decide⟩ 0 rfl rfl rfl rfl rfl ⟨Nat.le_of_ble_eq_true rfl, Nat.le_of_ble_eq_true rfl, Nat.le_of_ble_eq_true rfl⟩ 36 23817 ⟨rfl, rfl, Nat.le_of_ble_eq_true rfl, Nat.le_of_ble_eq_true rfl⟩ dX11_shortest_70 (fun u H locs hp w => ?_)
  have w : Wd D A s.heap [(a0, .inr (11, [.ref a1, .int 0, .int 0, .int (-1), .ref a2, .ref a3, .ref a4, .ref a5, .ref a6, .ref n1])), (n5, .inl (cy 1, 0, .inl (fun _ => 0))), (n8, .inl (cy 1, 0, .inl (fun _ => 0))), (n9, .inl (cy 1, 0, .inl (fun _ => 0))), (n10, .inl (cy 1, 0, .inl (fun _ => 0))), (n11, .inl (cy 1, 0, .inl (fun _ => 0))), (n12, .inl (cy 1, 0, .inl (fun _ => 0))), (n13, .inl (cy 1, 7201, .inl (fun _ => 0))), (n14, .inl (cy 1, 1830, .inl (fun _ => 0))), (n17, .inl (cy 1, 1830, .inl (fun _ => 0))), (n19, .inl (cy 1, 1830, .inl (fun _ => 0))), (n18, .inr (2, [.ref n2, .ref n19, .ref n20, .ref a6, .int 0])), (n20, .inl (cy 1, 21, .inl (fun _ => 0))), (n22, .inr (2, [.ref n2, .ref n15, .ref n23, .ref a6, .int 0])), (n23, .inl (cy 1, 21, .inl (fun _ => 0))), (n25, .inl (cy 1, 6, .inl (fun _ => 0))), (n26, .inl (cy 1, 6, .inl (fun _ => 0))), (n28, .inl (cy 1, 1830, .inl (fun _ => 0))), (n31, .inl (cy 1, 5, .inl (fun _ => 0))), (n33, .inl (cy 1, 4, .inl (fun _ => 0))), (n1, .inr (6, [.ref n2, .ref n16, .int 190, .ref n17, .ref n21, .ref n27, .ref n29, .ref n30, .ref n32, .ref n18, .ref a6, .int 1, .int 0])), (n16, .inl (cy 1, 1830, .inl (fillF (fun _ => 0) 2 20 (PP 20 2 (20 + 1 - 2))))), (n4, .inl (cy 1, 0, .inl (fun _ => 0))), (n34, .inl (cy 1, 1830, .inl (learnF 0 1830))), (n6, .inl (cy 1, 0, .inl (fun _ => 0))), (n35, .inl (cy 1, 1830, .inl (learnF 2 1830))), (n2, .inr (4, [.ref n3, .ref n13, .int 0, .ref n14])), (n3, .inl (cy 5, 9, .inr (.inr (.inr (.inr (va_up (va_up (va_up (va_up (va_up (va_up (va_up (va_up (va_up (va_up (va_up (va_up (fun _ => none) 0 (some n4)) 1 (some n5)) 2 (some n6)) 3 (some n7)) 4 (some n8)) 5 (some n9)) 6 (some n10)) 7 (some n11)) 8 (some n12)) 0 (some n34)) 2 (some n35)) 3 (some n36))))))), (n7, .inl (cy 1, 0, .inl (fun _ => 0))), (n36, .inl (cy 1, 1830, .inl (learnF 3 1830))), (n21, .inr (1, [.ref n22, .ref a6, .int (-2), .int (-2), .ref n24, .int 0, .int 0, .int 0, .int 0, .int (-1), .int 0, .ref n25, .ref n26])), (n24, .inl (cy 1, 6, .inl (upd (upd (upd (upd (upd (upd (fun _ => 0) 0 (-2)) 1 (-2)) 2 (-2)) 3 (-2)) 4 (-2)) 5 (-2)))), (n27, .inr (3, [.ref n2, .ref n15, .ref a6, .int (-1), .int (-1), .ref n28, .int 0, .int 0, .int 0])), (n30, .inr (8, [.ref n29, .int (-1), .int 0, .int 0, .int 0, .int 0, .int 0, .ref n31])), (n15, .inl (cy 1, 1830, .inl (fillF (fun _ => 0) 2 20 (PP 20 2 (20 + 1 - 2))))), (n32, .inr (7, [.ref n29, .int 2, .int 1, .int (-1), .int (-1), .ref n33])), (n29, .inr (0, [.ref n2, .ref n15, .ref a6, .int 0, .int 190])), (a6, .inr (9, [.int 0, .int 2, .int 20, .int 120, .int 0, .int 0, .int 0, .int 0, .ref a11, .int 0, .ref a12, .ref a13, .int 0, .ref a14, .ref a15, .ref a16, .ref a17]))] _ _ := w
  refine r_top (g2 := F0 m 73 ls []) rfl ?_
  refine lv_aload C.1 C.2.1 dX11_shortest_73 (lv_at hl 0 rfl) ?_
  refine r_get C w 35 rfl rfl 3 (by decide) fl_RX11_264 (v := .int (-1)) rfl dX11_shortest_75 ?_
  refine lv_iconst (v := (-1)) C.1 C.2.1 dX11_shortest_78 (by decide) ?_
  refine b_icmp_eq_t C (tgt := 91) dX11_shortest_79 (by decide) (by decide) ?_
  refine lv_iconst (v := (-1)) C.1 C.2.1 dX11_shortest_91 (by decide) ?_
  exact r_iret C w hlocks (n1, n2, n3, n4, n5, n6, n7, n8, n9, n10, n11, n12, n13, n14, n15, n16, n17, n18, n19, n20, n21, n22, n23, n24, n25, n26, n27, n28, n29, n30, n31, n32, n33, n34, n35, n36) hr rfl rfl trivial [0, 1, 2, 3, 4, 5, 6, 7, 8, 9, 10, 11, 12, 13, 14, 15, 16, 17, 18, 19, 20, 21, 22, 23, 24, 25, 26, 27, 28, 29, 30, 31, 32, 33, 34, 35, 36, 37] rfl rfl ⟨Nat.le_of_ble_eq_true rfl, Nat.le_of_ble_eq_true rfl⟩ dX11_shortest_92
set_option maxRecDepth 100000 in
set_option maxHeartbeats 4000000 in
theorem c_X11_shortest_7 (l : Launch) (D : va_G) (cy : Nat → ClassId) (a0 a1 a2 a3 a4 a5 a6 a11 a12 a13 a14 a15 a16 a17 : Nat) : Ct l D cy yX11_shortest cX11_shortest 6 (some .int) 5 118 36 23817 [(a0, .inr (11, [.ref a1, .int 0, .int 0, .int (-1), .ref a2, .ref a3, .ref a4, .ref a5, .ref a6, .null])), (a6, .inr (9, [.int 0, .int 2, .int 20, .int 120, .int 0, .int 0, .int 0, .int 0, .ref a11, .int 0, .ref a12, .ref a13, .int 0, .ref a14, .ref a15, .ref a16, .ref a17]))] [.ref a0, .int 4, .int 1] (fun u : Nat × Nat × Nat × Nat × Nat × Nat × Nat × Nat × Nat × Nat × Nat × Nat × Nat × Nat × Nat × Nat × Nat × Nat × Nat × Nat × Nat × Nat × Nat × Nat × Nat × Nat × Nat × Nat × Nat × Nat × Nat × Nat × Nat × Nat × Nat × Nat => some (.int (-1))) (fun _ => True) (fun u : Nat × Nat × Nat × Nat × Nat × Nat × Nat × Nat × Nat × Nat × Nat × Nat × Nat × Nat × Nat × Nat × Nat × Nat × Nat × Nat × Nat × Nat × Nat × Nat × Nat × Nat × Nat × Nat × Nat × Nat × Nat × Nat × Nat × Nat × Nat × Nat => [(a0, .inr (11, [.ref a1, .int 0, .int 0, .int (-1), .ref a2, .ref a3, .ref a4, .ref a5, .ref a6, .ref u.1])), (u.2.2.2.2.1, .inl (cy 1, 0, .inl (fun _ => 0))), (u.2.2.2.2.2.2.2.1, .inl (cy 1, 0, .inl (fun _ => 0))), (u.2.2.2.2.2.2.2.2.1, .inl (cy 1, 0, .inl (fun _ => 0))), (u.2.2.2.2.2.2.2.2.2.1, .inl (cy 1, 0, .inl (fun _ => 0))), (u.2.2.2.2.2.2.2.2.2.2.1, .inl (cy 1, 0, .inl (fun _ => 0))), (u.2.2.2.2.2.2.2.2.2.2.2.1, .inl (cy 1, 0, .inl (fun _ => 0))), (u.2.2.2.2.2.2.2.2.2.2.2.2.1, .inl (cy 1, 7201, .inl (fun _ => 0))), (u.2.2.2.2.2.2.2.2.2.2.2.2.2.1, .inl (cy 1, 1830, .inl (fun _ => 0))), (u.2.2.2.2.2.2.2.2.2.2.2.2.2.2.2.2.1, .inl (cy 1, 1830, .inl (fun _ => 0))), (u.2.2.2.2.2.2.2.2.2.2.2.2.2.2.2.2.2.2.1, .inl (cy 1, 1830, .inl (fun _ => 0))), (u.2.2.2.2.2.2.2.2.2.2.2.2.2.2.2.2.2.1, .inr (2, [.ref u.2.1, .ref u.2.2.2.2.2.2.2.2.2.2.2.2.2.2.2.2.2.2.1, .ref u.2.2.2.2.2.2.2.2.2.2.2.2.2.2.2.2.2.2.2.1, .ref a6, .int 0])), (u.2.2.2.2.2.2.2.2.2.2.2.2.2.2.2.2.2.2.2.1, .inl (cy 1, 21, .inl (fun _ => 0))), (u.2.2.2.2.2.2.2.2.2.2.2.2.2.2.2.2.2.2.2.2.2.1, .inr (2, [.ref u.2.1, .ref u.2.2.2.2.2.2.2.2.2.2.2.2.2.2.1, .ref u.2.2.2.2.2.2.2.2.2.2.2.2.2.2.2.2.2.2.2.2.2.2.1, .ref a6, .int 0])), (u.2.2.2.2.2.2.2.2.2.2.2.2.2.2.2.2.2.2.2.2.2.2.1, .inl (cy 1, 21, .inl (fun _ => 0))), (u.2.2.2.2.2.2.2.2.2.2.2.2.2.2.2.2.2.2.2.2.2.2.2.2.1, .inl (cy 1, 6, .inl (fun _ => 0))), (u.2.2.2.2.2.2.2.2.2.2.2.2.2.2.2.2.2.2.2.2.2.2.2.2.2.1, .inl (cy 1, 6, .inl (fun _ => 0))), (u.2.2.2.2.2.2.2.2.2.2.2.2.2.2.2.2.2.2.2.2.2.2.2.2.2.2.2.1, .inl (cy 1, 1830, .inl (fun _ => 0))), (u.2.2.2.2.2.2.2.2.2.2.2.2.2.2.2.2.2.2.2.2.2.2.2.2.2.2.2.2.2.2.1, .inl (cy 1, 5, .inl (fun _ => 0))), (u.2.2.2.2.2.2.2.2.2.2.2.2.2.2.2.2.2.2.2.2.2.2.2.2.2.2.2.2.2.2.2.2.1, .inl (cy 1, 4, .inl (fun _ => 0))), (u.1, .inr (6, [.ref u.2.1, .ref u.2.2.2.2.2.2.2.2.2.2.2.2.2.2.2.1, .int 190, .ref u.2.2.2.2.2.2.2.2.2.2.2.2.2.2.2.2.1, .ref u.2.2.2.2.2.2.2.2.2.2.2.2.2.2.2.2.2.2.2.2.1, .ref u.2.2.2.2.2.2.2.2.2.2.2.2.2.2.2.2.2.2.2.2.2.2.2.2.2.2.1, .ref u.2.2.2.2.2.2.2.2.2.2.2.2.2.2.2.2.2.2.2.2.2.2.2.2.2.2.2.2.1, .ref u.2.2.2.2.2.2.2.2.2.2.2.2.2.2.2.2.2.2.2.2.2.2.2.2.2.2.2.2.2.1, .ref u.2.2.2.2.2.2.2.2.2.2.2.2.2.2.2.2.2.2.2.2.2.2.2.2.2.2.2.2.2.2.2.1, .ref u.2.2.2.2.2.2.2.2.2.2.2.2.2.2.2.2.2.1, .ref a6, .int 1, .int 0])), (u.2.2.2.2.2.2.2.2.2.2.2.2.2.2.2.1, .inl (cy 1, 1830, .inl (fillF (fun _ => 0) 2 20 (PP 20 2 (20 + 1 - 2))))), (u.2.2.2.1, .inl (cy 1, 0, .inl (fun _ => 0))), (u.2.2.2.2.2.2.2.2.2.2.2.2.2.2.2.2.2.2.2.2.2.2.2.2.2.2.2.2.2.2.2.2.2.1, .inl (cy 1, 1830, .inl (learnF 0 1830))), (u.2.2.2.2.2.1, .inl (cy 1, 0, .inl (fun _ => 0))), (u.2.2.2.2.2.2.2.2.2.2.2.2.2.2.2.2.2.2.2.2.2.2.2.2.2.2.2.2.2.2.2.2.2.2.1, .inl (cy 1, 1830, .inl (learnF 2 1830))), (u.2.1, .inr (4, [.ref u.2.2.1, .ref u.2.2.2.2.2.2.2.2.2.2.2.2.1, .int 0, .ref u.2.2.2.2.2.2.2.2.2.2.2.2.2.1])), (u.2.2.1, .inl (cy 5, 9, .inr (.inr (.inr (.inr (va_up (va_up (va_up (va_up (va_up (va_up (va_up (va_up (va_up (va_up (va_up (va_up (fun _ => none) 0 (some u.2.2.2.1)) 1 (some u.2.2.2.2.1)) 2 (some u.2.2.2.2.2.1)) 3 (some u.2.2.2.2.2.2.1)) 4 (some u.2.2.2.2.2.2.2.1)) 5 (some u.2.2.2.2.2.2.2.2.1)) 6 (some u.2.2.2.2.2.2.2.2.2.1)) 7 (some u.2.2.2.2.2.2.2.2.2.2.1)) 8 (some u.2.2.2.2.2.2.2.2.2.2.2.1)) 0 (some u.2.2.2.2.2.2.2.2.2.2.2.2.2.2.2.2.2.2.2.2.2.2.2.2.2.2.2.2.2.2.2.2.2.1)) 2 (some u.2.2.2.2.2.2.2.2.2.2.2.2.2.2.2.2.2.2.2.2.2.2.2.2.2.2.2.2.2.2.2.2.2.2.1)) 3 (some u.2.2.2.2.2.2.2.2.2.2.2.2.2.2.2.2.2.2.2.2.2.2.2.2.2.2.2.2.2.2.2.2.2.2.2))))))), (u.2.2.2.2.2.2.1, .inl (cy 1, 0, .inl (fun _ => 0))), (u.2.2.2.2.2.2.2.2.2.2.2.2.2.2.2.2.2.2.2.2.2.2.2.2.2.2.2.2.2.2.2.2.2.2.2, .inl (cy 1, 1830, .inl (learnF 3 1830))), (u.2.2.2.2.2.2.2.2.2.2.2.2.2.2.2.2.2.2.2.2.1, .inr (1, [.ref u.2.2.2.2.2.2.2.2.2.2.2.2.2.2.2.2.2.2.2.2.2.1, .ref a6, .int (-2), .int (-2), .ref u.2.2.2.2.2.2.2.2.2.2.2.2.2.2.2.2.2.2.2.2.2.2.2.1, .int 0, .int 0, .int 0, .int 0, .int (-1), .int 0, .ref u.2.2.2.2.2.2.2.2.2.2.2.2.2.2.2.2.2.2.2.2.2.2.2.2.1, .ref u.2.2.2.2.2.2.2.2.2.2.2.2.2.2.2.2.2.2.2.2.2.2.2.2.2.1])), (u.2.2.2.2.2.2.2.2.2.2.2.2.2.2.2.2.2.2.2.2.2.2.2.1, .inl (cy 1, 6, .inl (upd (upd (upd (upd (upd (upd (fun _ => 0) 0 (-2)) 1 (-2)) 2 (-2)) 3 (-2)) 4 (-2)) 5 (-2)))), (u.2.2.2.2.2.2.2.2.2.2.2.2.2.2.2.2.2.2.2.2.2.2.2.2.2.2.1, .inr (3, [.ref u.2.1, .ref u.2.2.2.2.2.2.2.2.2.2.2.2.2.2.1, .ref a6, .int (-1), .int (-1), .ref u.2.2.2.2.2.2.2.2.2.2.2.2.2.2.2.2.2.2.2.2.2.2.2.2.2.2.2.1, .int 0, .int 0, .int 0])), (u.2.2.2.2.2.2.2.2.2.2.2.2.2.2.2.2.2.2.2.2.2.2.2.2.2.2.2.2.2.1, .inr (8, [.ref u.2.2.2.2.2.2.2.2.2.2.2.2.2.2.2.2.2.2.2.2.2.2.2.2.2.2.2.2.1, .int (-1), .int 0, .int 0, .int 0, .int 0, .int 0, .ref u.2.2.2.2.2.2.2.2.2.2.2.2.2.2.2.2.2.2.2.2.2.2.2.2.2.2.2.2.2.2.1])), (u.2.2.2.2.2.2.2.2.2.2.2.2.2.2.1, .inl (cy 1, 1830, .inl (fillF (fun _ => 0) 2 20 (PP 20 2 (20 + 1 - 2))))), (u.2.2.2.2.2.2.2.2.2.2.2.2.2.2.2.2.2.2.2.2.2.2.2.2.2.2.2.2.2.2.2.1, .inr (7, [.ref u.2.2.2.2.2.2.2.2.2.2.2.2.2.2.2.2.2.2.2.2.2.2.2.2.2.2.2.2.1, .int 5, .int 4, .int (-1), .int (-1), .ref u.2.2.2.2.2.2.2.2.2.2.2.2.2.2.2.2.2.2.2.2.2.2.2.2.2.2.2.2.2.2.2.2.1])), (u.2.2.2.2.2.2.2.2.2.2.2.2.2.2.2.2.2.2.2.2.2.2.2.2.2.2.2.2.1, .inr (0, [.ref u.2.1, .ref u.2.2.2.2.2.2.2.2.2.2.2.2.2.2.1, .ref a6, .int 0, .int 190])), (a6, .inr (9, [.int 0, .int 2, .int 20, .int 120, .int 0, .int 0, .int 0, .int 0, .ref a11, .int 0, .ref a12, .ref a13, .int 0, .ref a14, .ref a15, .ref a16, .ref a17]))]) := by
  refine Ct.of (by decide +kernel) (Nat.le_of_ble_eq_true rfl) ?_
  intro p e s m args below meth c A ls C hr hlocks hml hnm w hl
  have hl : lv_has ls 6 [(0, .ref a0), (1, .int 4), (2, .int 1)] := hl
  refine lv_iload_n C.1 C.2.1 dX11_shortest_0 rfl (lv_at hl 2 rfl) ?_
  refine lv_bipush (v := 10) C.1 C.2.1 dX11_shortest_1 (by decide) ?_
  refine r_isub C (v := (-9)) dX11_shortest_3 (by decide) ?_
  refine lv_istore_n (lv' := [(3, .int (-9)), (0, .ref a0), (1, .int 4), (2, .int 1)]) C.1 C.2.1 dX11_shortest_4 rfl hl (by decide) rfl (fun ls hl => ?_)
  refine lv_iload_n C.1 C.2.1 dX11_shortest_5 rfl (lv_at hl 3 rfl) ?_
  refine lv_bipush (v := 10) C.1 C.2.1 dX11_shortest_6 (by decide) ?_
  refine b_icmp_lt_t C (tgt := 20) dX11_shortest_8 (by decide) (by decide) ?_
  refine lv_iconst (v := 0) C.1 C.2.1 dX11_shortest_20 (by decide) ?_
  refine lv_istore (lv' := [(4, .int 0), (3, .int (-9)), (0, .ref a0), (1, .int 4), (2, .int 1)]) C.1 C.2.1 dX11_shortest_21 hl (by decide) rfl (fun ls hl => ?_)
  refine lv_iload_n C.1 C.2.1 dX11_shortest_23 rfl (lv_at hl 3 rfl) ?_
  refine lv_iconst (v := 1) C.1 C.2.1 dX11_shortest_24 (by decide) ?_
  refine b_icmp_lt_f C (tgt := 47) dX11_shortest_25 (by decide) (by decide) ?_
  refine lv_iload_n C.1 C.2.1 dX11_shortest_28 rfl (lv_at hl 3 rfl) ?_
  refine lv_iconst (v := 4) C.1 C.2.1 dX11_shortest_29 (by decide) ?_
  refine b_icmp_gt_f C (tgt := 47) dX11_shortest_30 (by decide) (by decide) ?_
  refine lv_iload_n C.1 C.2.1 dX11_shortest_33 rfl (lv_at hl 4 rfl) ?_
  refine b_if_eq_f C (tgt := 58) dX11_shortest_34 (by decide) (by decide) ?_
  refine lv_iload_n C.1 C.2.1 dX11_shortest_37 rfl (lv_at hl 4 rfl) ?_
  refine lv_iconst (v := 1) C.1 C.2.1 dX11_shortest_38 (by decide) ?_
  refine b_icmp_eq_t C (tgt := 58) dX11_shortest_39 (by decide) (by decide) ?_
  refine lv_aload_n C.1 C.2.1 dX11_shortest_58 rfl (lv_at hl 2 rfl) ?_
  refine r_callV C w fv_RX11_100 (c_X11_view_0 l D cy a0 a1 a2 a3 a4 a5 a6 a11 a12 a13 a14 a15 a16 a17) (hl.1.trans hml.symm) [0, 1] [] (wr := []) ⟨rfl, rfl, rfl, rfl, by decide⟩ 0 rfl rfl rfl rfl rfl ⟨Nat.le_of_ble_eq_true rfl, Nat.le_of_ble_eq_true rfl, Nat.le_of_ble_eq_true rfl⟩ 36 23817 ⟨rfl, rfl, Nat.le_of_ble_eq_true rfl, Nat.le_of_ble_eq_true rfl⟩ dX11_shortest_59 (fun u H locs hp w => ?_)
  obtain ⟨n1, n2, n3, n4, n5, n6, n7, n8, n9, n10, n11, n12, n13, n14, n15, n16, n17, n18, n19, n20, n21, n22, n23, n24, n25, n26, n27, n28, n29, n30, n31, n32, n33, n34, n35, n36⟩ := u
  have w : Wd D A s.heap [(a0, .inr (11, [.ref a1, .int 0, .int 0, .int (-1), .ref a2, .ref a3, .ref a4, .ref a5, .ref a6, .ref n1])), (n5, .inl (cy 1, 0, .inl (fun _ => 0))), (n8, .inl (cy 1, 0, .inl (fun _ => 0))), (n9, .inl (cy 1, 0, .inl (fun _ => 0))), (n10, .inl (cy 1, 0, .inl (fun _ => 0))), (n11, .inl (cy 1, 0, .inl (fun _ => 0))), (n12, .inl (cy 1, 0, .inl (fun _ => 0))), (n13, .inl (cy 1, 7201, .inl (fun _ => 0))), (n14, .inl (cy 1, 1830, .inl (fun _ => 0))), (n15, .inl (cy 1, 1830, .inl (fun _ => 0))), (n17, .inl (cy 1, 1830, .inl (fun _ => 0))), (n19, .inl (cy 1, 1830, .inl (fun _ => 0))), (n18, .inr (2, [.ref n2, .ref n19, .ref n20, .ref a6, .int 0])), (n20, .inl (cy 1, 21, .inl (fun _ => 0))), (n22, .inr (2, [.ref n2, .ref n15, .ref n23, .ref a6, .int 0])), (n23, .inl (cy 1, 21, .inl (fun _ => 0))), (n25, .inl (cy 1, 6, .inl (fun _ => 0))), (n26, .inl (cy 1, 6, .inl (fun _ => 0))), (n28, .inl (cy 1, 1830, .inl (fun _ => 0))), (n31, .inl (cy 1, 5, .inl (fun _ => 0))), (n33, .inl (cy 1, 4, .inl (fun _ => 0))), (n1, .inr (6, [.ref n2, .ref n16, .int 190, .ref n17, .ref n21, .ref n27, .ref n29, .ref n30, .ref n32, .ref n18, .ref a6, .int 1, .int 0])), (n16, .inl (cy 1, 1830, .inl (fillF (fun _ => 0) 2 20 (PP 20 2 (20 + 1 - 2))))), (a6, .inr (9, [.int 0, .int 2, .int 20, .int 120, .int 0, .int 0, .int 0, .int 0, .ref a11, .int 0, .ref a12, .ref a13, .int 0, .ref a14, .ref a15, .ref a16, .ref a17])), (n4, .inl (cy 1, 0, .inl (fun _ => 0))), (n34, .inl (cy 1, 1830, .inl (learnF 0 1830))), (n6, .inl (cy 1, 0, .inl (fun _ => 0))), (n35, .inl (cy 1, 1830, .inl (learnF 2 1830))), (n2, .inr (4, [.ref n3, .ref n13, .int 0, .ref n14])), (n3, .inl (cy 5, 9, .inr (.inr (.inr (.inr (va_up (va_up (va_up (va_up (va_up (va_up (va_up (va_up (va_up (va_up (va_up (va_up (fun _ => none) 0 (some n4)) 1 (some n5)) 2 (some n6)) 3 (some n7)) 4 (some n8)) 5 (some n9)) 6 (some n10)) 7 (some n11)) 8 (some n12)) 0 (some n34)) 2 (some n35)) 3 (some n36))))))), (n7, .inl (cy 1, 0, .inl (fun _ => 0))), (n36, .inl (cy 1, 1830, .inl (learnF 3 1830))), (n21, .inr (1, [.ref n22, .ref a6, .int (-2), .int (-2), .ref n24, .int 0, .int 0, .int 0, .int 0, .int (-1), .int 0, .ref n25, .ref n26])), (n24, .inl (cy 1, 6, .inl (upd (upd (upd (upd (upd (upd (fun _ => 0) 0 (-2)) 1 (-2)) 2 (-2)) 3 (-2)) 4 (-2)) 5 (-2)))), (n27, .inr (3, [.ref n2, .ref n15, .ref a6, .int (-1), .int (-1), .ref n28, .int 0, .int 0, .int 0])), (n29, .inr (0, [.ref n2, .ref n15, .ref a6, .int 0, .int 0])), (n30, .inr (8, [.ref n29, .int (-1), .int 0, .int 0, .int 0, .int 0, .int 0, .ref n31])), (n32, .inr (7, [.ref n29, .int 0, .int (-1), .int (-1), .int (-1), .ref n33]))] _ _ := w
  refine r_top (g2 := F0 m 62 ls [.ref n1]) rfl ?_
  refine r_get C w 21 rfl rfl 8 (by decide) fl_RX11_258 (v := .ref n32) rfl dX11_shortest_62 ?_
  refine lv_astore (lv' := [(5, .ref n32), (4, .int 0), (3, .int (-9)), (0, .ref a0), (1, .int 4), (2, .int 1)]) C.1 C.2.1 dX11_shortest_65 hl (by decide) rfl (fun ls hl => ?_)
  refine lv_aload C.1 C.2.1 dX11_shortest_67 (lv_at hl 0 rfl) ?_
  refine lv_iload_n C.1 C.2.1 dX11_shortest_69 rfl (lv_at hl 4 rfl) ?_
  refine r_callV C w fv_RX11_262 (c_X7_seek_8 l D cy n32 n29 n33 n2 n15 a6 a11 a12 a13 a14 a15 a16 a17) (hl.1.trans hml.symm) [37, 35, 9, 23] [0, 1, 2, 3, 4, 5, 6, 7, 8, 10, 11, 12, 13, 14, 15, 16, 17, 18, 19, 20, 21, 22, 24, 25, 26, 27, 28, 29, 30, 31, 32, 33, 34, 36] (wr := [(a0, .inr (11, [.ref a1, .int 0, .int 0, .int (-1), .ref a2, .ref a3, .ref a4, .ref a5, .ref a6, .ref n1])), (n5, .inl (cy 1, 0, .inl (fun _ => 0))), (n8, .inl (cy 1, 0, .inl (fun _ => 0))), (n9, .inl (cy 1, 0, .inl (fun _ => 0))), (n10, .inl (cy 1, 0, .inl (fun _ => 0))), (n11, .inl (cy 1, 0, .inl (fun _ => 0))), (n12, .inl (cy 1, 0, .inl (fun _ => 0))), (n13, .inl (cy 1, 7201, .inl (fun _ => 0))), (n14, .inl (cy 1, 1830, .inl (fun _ => 0))), (n17, .inl (cy 1, 1830, .inl (fun _ => 0))), (n19, .inl (cy 1, 1830, .inl (fun _ => 0))), (n18, .inr (2, [.ref n2, .ref n19, .ref n20, .ref a6, .int 0])), (n20, .inl (cy 1, 21, .inl (fun _ => 0))), (n22, .inr (2, [.ref n2, .ref n15, .ref n23, .ref a6, .int 0])), (n23, .inl (cy 1, 21, .inl (fun _ => 0))), (n25, .inl (cy 1, 6, .inl (fun _ => 0))), (n26, .inl (cy 1, 6, .inl (fun _ => 0))), (n28, .inl (cy 1, 1830, .inl (fun _ => 0))), (n31, .inl (cy 1, 5, .inl (fun _ => 0))), (n33, .inl (cy 1, 4, .inl (fun _ => 0))), (n1, .inr (6, [.ref n2, .ref n16, .int 190, .ref n17, .ref n21, .ref n27, .ref n29, .ref n30, .ref n32, .ref n18, .ref a6, .int 1, .int 0])), (n16, .inl (cy 1, 1830, .inl (fillF (fun _ => 0) 2 20 (PP 20 2 (20 + 1 - 2))))), (n4, .inl (cy 1, 0, .inl (fun _ => 0))), (n34, .inl (cy 1, 1830, .inl (learnF 0 1830))), (n6, .inl (cy 1, 0, .inl (fun _ => 0))), (n35, .inl (cy 1, 1830, .inl (learnF 2 1830))), (n2, .inr (4, [.ref n3, .ref n13, .int 0, .ref n14])), (n3, .inl (cy 5, 9, .inr (.inr (.inr (.inr (va_up (va_up (va_up (va_up (va_up (va_up (va_up (va_up (va_up (va_up (va_up (va_up (fun _ => none) 0 (some n4)) 1 (some n5)) 2 (some n6)) 3 (some n7)) 4 (some n8)) 5 (some n9)) 6 (some n10)) 7 (some n11)) 8 (some n12)) 0 (some n34)) 2 (some n35)) 3 (some n36))))))), (n7, .inl (cy 1, 0, .inl (fun _ => 0))), (n36, .inl (cy 1, 1830, .inl (learnF 3 1830))), (n21, .inr (1, [.ref n22, .ref a6, .int (-2), .int (-2), .ref n24, .int 0, .int 0, .int 0, .int 0, .int (-1), .int 0, .ref n25, .ref n26])), (n24, .inl (cy 1, 6, .inl (upd (upd (upd (upd (upd (upd (fun _ => 0) 0 (-2)) 1 (-2)) 2 (-2)) 3 (-2)) 4 (-2)) 5 (-2)))), (n27, .inr (3, [.ref n2, .ref n15, .ref a6, .int (-1), .int (-1), .ref n28, .int 0, .int 0, .int 0])), (n30, .inr (8, [.ref n29, .int (-1), .int 0, .int 0, .int 0, .int 0, .int 0, .ref n31]))]) ⟨rfl, rfl, rfl, rfl, by decide⟩ 0 rfl rfl rfl rfl rfl ⟨Nat.le_of_ble_eq_true rfl, Nat.le_of_ble_eq_true rfl, Nat.le_of_ble_eq_true rfl⟩ 36 23817 ⟨rfl, rfl, Nat.le_of_ble_eq_true rfl, Nat.le_of_ble_eq_true rfl⟩ dX11_shortest_70 (fun u H locs hp w => ?_)
  have w : Wd D A s.heap [(a0, .inr (11, [.ref a1, .int 0, .int 0, .int (-1), .ref a2, .ref a3, .ref a4, .ref a5, .ref a6, .ref n1])), (n5, .inl (cy 1, 0, .inl (fun _ => 0))), (n8, .inl (cy 1, 0, .inl (fun _ => 0))), (n9, .inl (cy 1, 0, .inl (fun _ => 0))), (n10, .inl (cy 1, 0, .inl (fun _ => 0))), (n11, .inl (cy 1, 0, .inl (fun _ => 0))), (n12, .inl (cy 1, 0, .inl (fun _ => 0))), (n13, .inl (cy 1, 7201, .inl (fun _ => 0))), (n14, .inl (cy 1, 1830, .inl (fun _ => 0))), (n17, .inl (cy 1, 1830, .inl (fun _ => 0))), (n19, .inl (cy 1, 1830, .inl (fun _ => 0))), (n18, .inr (2, [.ref n2, .ref n19, .ref n20, .ref a6, .int 0])), (n20, .inl (cy 1, 21, .inl (fun _ => 0))), (n22, .inr (2, [.ref n2, .ref n15, .ref n23, .ref a6, .int 0])), (n23, .inl (cy 1, 21, .inl (fun _ => 0))), (n25, .inl (cy 1, 6, .inl (fun _ => 0))), (n26, .inl (cy 1, 6, .inl (fun _ => 0))), (n28, .inl (cy 1, 1830, .inl (fun _ => 0))), (n31, .inl (cy 1, 5, .inl (fun _ => 0))), (n33, .inl (cy 1, 4, .inl (fun _ => 0))), (n1, .inr (6, [.ref n2, .ref n16, .int 190, .ref n17, .ref n21, .ref n27, .ref n29, .ref n30, .ref n32, .ref n18, .ref a6, .int 1, .int 0])), (n16, .inl (cy 1, 1830, .inl (fillF (fun _ => 0) 2 20 (PP 20 2 (20 + 1 - 2))))), (n4, .inl (cy 1, 0, .inl (fun _ => 0))), (n34, .inl (cy 1, 1830, .inl (learnF 0 1830))), (n6, .inl (cy 1, 0, .inl (fun _ => 0))), (n35, .inl (cy 1, 1830, .inl (learnF 2 1830))), (n2, .inr (4, [.ref n3, .ref n13, .int 0, .ref n14])), (n3, .inl (cy 5, 9, .inr (.inr (.inr (.inr (va_up (va_up (va_up (va_up (va_up (va_up (va_up (va_up (va_up (va_up (va_up (va_up (fun _ => none) 0 (some n4)) 1 (some n5)) 2 (some n6)) 3 (some n7)) 4 (some n8)) 5 (some n9)) 6 (some n10)) 7 (some n11)) 8 (some n12)) 0 (some n34)) 2 (some n35)) 3 (some n36))))))), (n7, .inl (cy 1, 0, .inl (fun _ => 0))), (n36, .inl (cy 1, 1830, .inl (learnF 3 1830))), (n21, .inr (1, [.ref n22, .ref a6, .int (-2), .int (-2), .ref n24, .int 0, .int 0, .int 0, .int 0, .int (-1), .int 0, .ref n25, .ref n26])), (n24, .inl (cy 1, 6, .inl (upd (upd (upd (upd (upd (upd (fun _ => 0) 0 (-2)) 1 (-2)) 2 (-2)) 3 (-2)) 4 (-2)) 5 (-2)))), (n27, .inr (3, [.ref n2, .ref n15, .ref a6, .int (-1), .int (-1), .ref n28, .int 0, .int 0, .int 0])), (n30, .inr (8, [.ref n29, .int (-1), .int 0, .int 0, .int 0, .int 0, .int 0, .ref n31])), (n15, .inl (cy 1, 1830, .inl (fillF (fun _ => 0) 2 20 (PP 20 2 (20 + 1 - 2))))), (n32, .inr (7, [.ref n29, .int 5, .int 4, .int (-1), .int (-1), .ref n33])), (n29, .inr (0, [.ref n2, .ref n15, .ref a6, .int 0, .int 190])), (a6, .inr (9, [.int 0, .int 2, .int 20, .int 120, .int 0, .int 0, .int 0, .int 0, .ref a11, .int 0, .ref a12, .ref a13, .int 0, .ref a14, .ref a15, .ref a16, .ref a17]))] _ _ := w
  refine r_top (g2 := F0 m 73 ls []) rfl ?_
  refine lv_aload C.1 C.2.1 dX11_shortest_73 (lv_at hl 0 rfl) ?_
  refine r_get C w 35 rfl rfl 3 (by decide) fl_RX11_264 (v := .int (-1)) rfl dX11_shortest_75 ?_
  refine lv_iconst (v := (-1)) C.1 C.2.1 dX11_shortest_78 (by decide) ?_
  refine b_icmp_eq_t C (tgt := 91) dX11_shortest_79 (by decide) (by decide) ?_
  refine lv_iconst (v := (-1)) C.1 C.2.1 dX11_shortest_91 (by decide) ?_
  exact r_iret C w hlocks (n1, n2, n3, n4, n5, n6, n7, n8, n9, n10, n11, n12, n13, n14, n15, n16, n17, n18, n19, n20, n21, n22, n23, n24, n25, n26, n27, n28, n29, n30, n31, n32, n33, n34, n35, n36) hr rfl rfl trivial [0, 1, 2, 3, 4, 5, 6, 7, 8, 9, 10, 11, 12, 13, 14, 15, 16, 17, 18, 19, 20, 21, 22, 23, 24, 25, 26, 27, 28, 29, 30, 31, 32, 33, 34, 35, 36, 37] rfl rfl ⟨Nat.le_of_ble_eq_true rfl, Nat.le_of_ble_eq_true rfl⟩ dX11_shortest_92
set_option maxRecDepth 100000 in
set_option maxHeartbeats 4000000 in
theorem c_X11_shortest_8 (l : Launch) (D : va_G) (cy : Nat → ClassId) (a0 a1 a2 a3 a4 a5 a6 a11 a12 a13 a14 a15 a16 a17 : Nat) : Ct l D cy yX11_shortest cX11_shortest 6 (some .int) 5 118 36 23817 [(a0, .inr (11, [.ref a1, .int 0, .int 0, .int (-1), .ref a2, .ref a3, .ref a4, .ref a5, .ref a6, .null])), (a6, .inr (9, [.int 0, .int 2, .int 20, .int 120, .int 0, .int 0, .int 0, .int 0, .ref a11, .int 0, .ref a12, .ref a13, .int 0, .ref a14, .ref a15, .ref a16, .ref a17]))] [.ref a0, .int 3, .int 1] (fun u : Nat × Nat × Nat × Nat × Nat × Nat × Nat × Nat × Nat × Nat × Nat × Nat × Nat × Nat × Nat × Nat × Nat × Nat × Nat × Nat × Nat × Nat × Nat × Nat × Nat × Nat × Nat × Nat × Nat × Nat × Nat × Nat × Nat × Nat × Nat × Nat => some (.int (-1))) (fun _ => True) (fun u : Nat × Nat × Nat × Nat × Nat × Nat × Nat × Nat × Nat × Nat × Nat × Nat × Nat × Nat × Nat × Nat × Nat × Nat × Nat × Nat × Nat × Nat × Nat × Nat × Nat × Nat × Nat × Nat × Nat × Nat × Nat × Nat × Nat × Nat × Nat × Nat => [(a0, .inr (11, [.ref a1, .int 0, .int 0, .int (-1), .ref a2, .ref a3, .ref a4, .ref a5, .ref a6, .ref u.1])), (u.2.2.2.2.1, .inl (cy 1, 0, .inl (fun _ => 0))), (u.2.2.2.2.2.2.2.1, .inl (cy 1, 0, .inl (fun _ => 0))), (u.2.2.2.2.2.2.2.2.1, .inl (cy 1, 0, .inl (fun _ => 0))), (u.2.2.2.2.2.2.2.2.2.1, .inl (cy 1, 0, .inl (fun _ => 0))), (u.2.2.2.2.2.2.2.2.2.2.1, .inl (cy 1, 0, .inl (fun _ => 0))), (u.2.2.2.2.2.2.2.2.2.2.2.1, .inl (cy 1, 0, .inl (fun _ => 0))), (u.2.2.2.2.2.2.2.2.2.2.2.2.1, .inl (cy 1, 7201, .inl (fun _ => 0))), (u.2.2.2.2.2.2.2.2.2.2.2.2.2.1, .inl (cy 1, 1830, .inl (fun _ => 0))), (u.2.2.2.2.2.2.2.2.2.2.2.2.2.2.2.2.1, .inl (cy 1, 1830, .inl (fun _ => 0))), (u.2.2.2.2.2.2.2.2.2.2.2.2.2.2.2.2.2.2.1, .inl (cy 1, 1830, .inl (fun _ => 0))), (u.2.2.2.2.2.2.2.2.2.2.2.2.2.2.2.2.2.1, .inr (2, [.ref u.2.1, .ref u.2.2.2.2.2.2.2.2.2.2.2.2.2.2.2.2.2.2.1, .ref u.2.2.2.2.2.2.2.2.2.2.2.2.2.2.2.2.2.2.2.1, .ref a6, .int 0])), (u.2.2.2.2.2.2.2.2.2.2.2.2.2.2.2.2.2.2.2.1, .inl (cy 1, 21, .inl (fun _ => 0))), (u.2.2.2.2.2.2.2.2.2.2.2.2.2.2.2.2.2.2.2.2.2.1, .inr (2, [.ref u.2.1, .ref u.2.2.2.2.2.2.2.2.2.2.2.2.2.2.1, .ref u.2.2.2.2.2.2.2.2.2.2.2.2.2.2.2.2.2.2.2.2.2.2.1, .ref a6, .int 0])), (u.2.2.2.2.2.2.2.2.2.2.2.2.2.2.2.2.2.2.2.2.2.2.1, .inl (cy 1, 21, .inl (fun _ => 0))), (u.2.2.2.2.2.2.2.2.2.2.2.2.2.2.2.2.2.2.2.2.2.2.2.2.1, .inl (cy 1, 6, .inl (fun _ => 0))), (u.2.2.2.2.2.2.2.2.2.2.2.2.2.2.2.2.2.2.2.2.2.2.2.2.2.1, .inl (cy 1, 6, .inl (fun _ => 0))), (u.2.2.2.2.2.2.2.2.2.2.2.2.2.2.2.2.2.2.2.2.2.2.2.2.2.2.2.1, .inl (cy 1, 1830, .inl (fun _ => 0))), (u.2.2.2.2.2.2.2.2.2.2.2.2.2.2.2.2.2.2.2.2.2.2.2.2.2.2.2.2.2.2.1, .inl (cy 1, 5, .inl (fun _ => 0))), (u.2.2.2.2.2.2.2.2.2.2.2.2.2.2.2.2.2.2.2.2.2.2.2.2.2.2.2.2.2.2.2.2.1, .inl (cy 1, 4, .inl (fun _ => 0))), (u.1, .inr (6, [.ref u.2.1, .ref u.2.2.2.2.2.2.2.2.2.2.2.2.2.2.2.1, .int 190, .ref u.2.2.2.2.2.2.2.2.2.2.2.2.2.2.2.2.1, .ref u.2.2.2.2.2.2.2.2.2.2.2.2.2.2.2.2.2.2.2.2.1, .ref u.2.2.2.2.2.2.2.2.2.2.2.2.2.2.2.2.2.2.2.2.2.2.2.2.2.2.1, .ref u.2.2.2.2.2.2.2.2.2.2.2.2.2.2.2.2.2.2.2.2.2.2.2.2.2.2.2.2.1, .ref u.2.2.2.2.2.2.2.2.2.2.2.2.2.2.2.2.2.2.2.2.2.2.2.2.2.2.2.2.2.1, .ref u.2.2.2.2.2.2.2.2.2.2.2.2.2.2.2.2.2.2.2.2.2.2.2.2.2.2.2.2.2.2.2.1, .ref u.2.2.2.2.2.2.2.2.2.2.2.2.2.2.2.2.2.1, .ref a6, .int 1, .int 0])), (u.2.2.2.2.2.2.2.2.2.2.2.2.2.2.2.1, .inl (cy 1, 1830, .inl (fillF (fun _ => 0) 2 20 (PP 20 2 (20 + 1 - 2))))), (u.2.2.2.1, .inl (cy 1, 0, .inl (fun _ => 0))), (u.2.2.2.2.2.2.2.2.2.2.2.2.2.2.2.2.2.2.2.2.2.2.2.2.2.2.2.2.2.2.2.2.2.1, .inl (cy 1, 1830, .inl (learnF 0 1830))), (u.2.2.2.2.2.1, .inl (cy 1, 0, .inl (fun _ => 0))), (u.2.2.2.2.2.2.2.2.2.2.2.2.2.2.2.2.2.2.2.2.2.2.2.2.2.2.2.2.2.2.2.2.2.2.1, .inl (cy 1, 1830, .inl (learnF 2 1830))), (u.2.1, .inr (4, [.ref u.2.2.1, .ref u.2.2.2.2.2.2.2.2.2.2.2.2.1, .int 0, .ref u.2.2.2.2.2.2.2.2.2.2.2.2.2.1])), (u.2.2.1, .inl (cy 5, 9, .inr (.inr (.inr (.inr (va_up (va_up (va_up (va_up (va_up (va_up (va_up (va_up (va_up (va_up (va_up (va_up (fun _ => none) 0 (some u.2.2.2.1)) 1 (some u.2.2.2.2.1)) 2 (some u.2.2.2.2.2.1)) 3 (some u.2.2.2.2.2.2.1)) 4 (some u.2.2.2.2.2.2.2.1)) 5 (some u.2.2.2.2.2.2.2.2.1)) 6 (some u.2.2.2.2.2.2.2.2.2.1)) 7 (some u.2.2.2.2.2.2.2.2.2.2.1)) 8 (some u.2.2.2.2.2.2.2.2.2.2.2.1)) 0 (some u.2.2.2.2.2.2.2.2.2.2.2.2.2.2.2.2.2.2.2.2.2.2.2.2.2.2.2.2.2.2.2.2.2.1)) 2 (some u.2.2.2.2.2.2.2.2.2.2.2.2.2.2.2.2.2.2.2.2.2.2.2.2.2.2.2.2.2.2.2.2.2.2.1)) 3 (some u.2.2.2.2.2.2.2.2.2.2.2.2.2.2.2.2.2.2.2.2.2.2.2.2.2.2.2.2.2.2.2.2.2.2.2))))))), (u.2.2.2.2.2.2.1, .inl (cy 1, 0, .inl (fun _ => 0))), (u.2.2.2.2.2.2.2.2.2.2.2.2.2.2.2.2.2.2.2.2.2.2.2.2.2.2.2.2.2.2.2.2.2.2.2, .inl (cy 1, 1830, .inl (learnF 3 1830))), (u.2.2.2.2.2.2.2.2.2.2.2.2.2.2.2.2.2.2.2.2.1, .inr (1, [.ref u.2.2.2.2.2.2.2.2.2.2.2.2.2.2.2.2.2.2.2.2.2.1, .ref a6, .int (-2), .int (-2), .ref u.2.2.2.2.2.2.2.2.2.2.2.2.2.2.2.2.2.2.2.2.2.2.2.1, .int 0, .int 0, .int 0, .int 0, .int (-1), .int 0, .ref u.2.2.2.2.2.2.2.2.2.2.2.2.2.2.2.2.2.2.2.2.2.2.2.2.1, .ref u.2.2.2.2.2.2.2.2.2.2.2.2.2.2.2.2.2.2.2.2.2.2.2.2.2.1])), (u.2.2.2.2.2.2.2.2.2.2.2.2.2.2.2.2.2.2.2.2.2.2.2.1, .inl (cy 1, 6, .inl (upd (upd (upd (upd (upd (upd (fun _ => 0) 0 (-2)) 1 (-2)) 2 (-2)) 3 (-2)) 4 (-2)) 5 (-2)))), (u.2.2.2.2.2.2.2.2.2.2.2.2.2.2.2.2.2.2.2.2.2.2.2.2.2.2.1, .inr (3, [.ref u.2.1, .ref u.2.2.2.2.2.2.2.2.2.2.2.2.2.2.1, .ref a6, .int (-1), .int (-1), .ref u.2.2.2.2.2.2.2.2.2.2.2.2.2.2.2.2.2.2.2.2.2.2.2.2.2.2.2.1, .int 0, .int 0, .int 0])), (u.2.2.2.2.2.2.2.2.2.2.2.2.2.2.2.2.2.2.2.2.2.2.2.2.2.2.2.2.2.1, .inr (8, [.ref u.2.2.2.2.2.2.2.2.2.2.2.2.2.2.2.2.2.2.2.2.2.2.2.2.2.2.2.2.1, .int (-1), .int 0, .int 0, .int 0, .int 0, .int 0, .ref u.2.2.2.2.2.2.2.2.2.2.2.2.2.2.2.2.2.2.2.2.2.2.2.2.2.2.2.2.2.2.1])), (u.2.2.2.2.2.2.2.2.2.2.2.2.2.2.1, .inl (cy 1, 1830, .inl (fillF (fun _ => 0) 2 20 (PP 20 2 (20 + 1 - 2))))), (u.2.2.2.2.2.2.2.2.2.2.2.2.2.2.2.2.2.2.2.2.2.2.2.2.2.2.2.2.2.2.2.1, .inr (7, [.ref u.2.2.2.2.2.2.2.2.2.2.2.2.2.2.2.2.2.2.2.2.2.2.2.2.2.2.2.2.1, .int 4, .int 3, .int (-1), .int (-1), .ref u.2.2.2.2.2.2.2.2.2.2.2.2.2.2.2.2.2.2.2.2.2.2.2.2.2.2.2.2.2.2.2.2.1])), (u.2.2.2.2.2.2.2.2.2.2.2.2.2.2.2.2.2.2.2.2.2.2.2.2.2.2.2.2.1, .inr (0, [.ref u.2.1, .ref u.2.2.2.2.2.2.2.2.2.2.2.2.2.2.1, .ref a6, .int 0, .int 190])), (a6, .inr (9, [.int 0, .int 2, .int 20, .int 120, .int 0, .int 0, .int 0, .int 0, .ref a11, .int 0, .ref a12, .ref a13, .int 0, .ref a14, .ref a15, .ref a16, .ref a17]))]) := by
  refine Ct.of (by decide +kernel) (Nat.le_of_ble_eq_true rfl) ?_
  intro p e s m args below meth c A ls C hr hlocks hml hnm w hl
  have hl : lv_has ls 6 [(0, .ref a0), (1, .int 3), (2, .int 1)] := hl
  refine lv_iload_n C.1 C.2.1 dX11_shortest_0 rfl (lv_at hl 2 rfl) ?_
  refine lv_bipush (v := 10) C.1 C.2.1 dX11_shortest_1 (by decide) ?_
  refine r_isub C (v := (-9)) dX11_shortest_3 (by decide) ?_
  refine lv_istore_n (lv' := [(3, .int (-9)), (0, .ref a0), (1, .int 3), (2, .int 1)]) C.1 C.2.1 dX11_shortest_4 rfl hl (by decide) rfl (fun ls hl => ?_)
  refine lv_iload_n C.1 C.2.1 dX11_shortest_5 rfl (lv_at hl 3 rfl) ?_
  refine lv_bipush (v := 10) C.1 C.2.1 dX11_shortest_6 (by decide) ?_
  refine b_icmp_lt_t C (tgt := 20) dX11_shortest_8 (by decide) (by decide) ?_
  refine lv_iconst (v := 0) C.1 C.2.1 dX11_shortest_20 (by decide) ?_
  refine lv_istore (lv' := [(4, .int 0), (3, .int (-9)), (0, .ref a0), (1, .int 3), (2, .int 1)]) C.1 C.2.1 dX11_shortest_21 hl (by decide) rfl (fun ls hl => ?_)
  refine lv_iload_n C.1 C.2.1 dX11_shortest_23 rfl (lv_at hl 3 rfl) ?_
  refine lv_iconst (v := 1) C.1 C.2.1 dX11_shortest_24 (by decide) ?_
  refine b_icmp_lt_f C (tgt := 47) dX11_shortest_25 (by decide) (by decide) ?_
  refine lv_iload_n C.1 C.2.1 dX11_shortest_28 rfl (lv_at hl 3 rfl) ?_
  refine lv_iconst (v := 4) C.1 C.2.1 dX11_shortest_29 (by decide) ?_
  refine b_icmp_gt_f C (tgt := 47) dX11_shortest_30 (by decide) (by decide) ?_
  refine lv_iload_n C.1 C.2.1 dX11_shortest_33 rfl (lv_at hl 4 rfl) ?_
  refine b_if_eq_f C (tgt := 58) dX11_shortest_34 (by decide) (by decide) ?_
  refine lv_iload_n C.1 C.2.1 dX11_shortest_37 rfl (lv_at hl 4 rfl) ?_
  refine lv_iconst (v := 1) C.1 C.2.1 dX11_shortest_38 (by decide) ?_
  refine b_icmp_eq_t C (tgt := 58) dX11_shortest_39 (by decide) (by decide) ?_
  refine lv_aload_n C.1 C.2.1 dX11_shortest_58 rfl (lv_at hl 2 rfl) ?_
  refine r_callV C w fv_RX11_100 (c_X11_view_0 l D cy a0 a1 a2 a3 a4 a5 a6 a11 a12 a13 a14 a15 a16 a17) (hl.1.trans hml.symm) [0, 1] [] (wr := []) ⟨rfl, rfl, rfl, rfl, by decide⟩ 0 rfl rfl rfl rfl rfl ⟨Nat.le_of_ble_eq_true rfl, Nat.le_of_ble_eq_true rfl, Nat.le_of_ble_eq_true rfl⟩ 36 23817 ⟨rfl, rfl, Nat.le_of_ble_eq_true rfl, Nat.le_of_ble_eq_true rfl⟩ dX11_shortest_59 (fun u H locs hp w => ?_)
  obtain ⟨n1, n2, n3, n4, n5, n6, n7, n8, n9, n10, n11, n12, n13, n14, n15, n16, n17, n18, n19, n20, n21, n22, n23, n24, n25, n26, n27, n28, n29, n30, n31, n32, n33, n34, n35, n36⟩ := u
  have w : Wd D A s.heap [(a0, .inr (11, [.ref a1, .int 0, .int 0, .int (-1), .ref a2, .ref a3, .ref a4, .ref a5, .ref a6, .ref n1])), (n5, .inl (cy 1, 0, .inl (fun _ => 0))), (n8, .inl (cy 1, 0, .inl (fun _ => 0))), (n9, .inl (cy 1, 0, .inl (fun _ => 0))), (n10, .inl (cy 1, 0, .inl (fun _ => 0))), (n11, .inl (cy 1, 0, .inl (fun _ => 0))), (n12, .inl (cy 1, 0, .inl (fun _ => 0))), (n13, .inl (cy 1, 7201, .inl (fun _ => 0))), (n14, .inl (cy 1, 1830, .inl (fun _ => 0))), (n15, .inl (cy 1, 1830, .inl (fun _ => 0))), (n17, .inl (cy 1, 1830, .inl (fun _ => 0))), (n19, .inl (cy 1, 1830, .inl (fun _ => 0))), (n18, .inr (2, [.ref n2, .ref n19, .ref n20, .ref a6, .int 0])), (n20, .inl (cy 1, 21, .inl (fun _ => 0))), (n22, .inr (2, [.ref n2, .ref n15, .ref n23, .ref a6, .int 0])), (n23, .inl (cy 1, 21, .inl (fun _ => 0))), (n25, .inl (cy 1, 6, .inl (fun _ => 0))), (n26, .inl (cy 1, 6, .inl (fun _ => 0))), (n28, .inl (cy 1, 1830, .inl (fun _ => 0))), (n31, .inl (cy 1, 5, .inl (fun _ => 0))), (n33, .inl (cy 1, 4, .inl (fun _ => 0))), (n1, .inr (6, [.ref n2, .ref n16, .int 190, .ref n17, .ref n21, .ref n27, .ref n29, .ref n30, .ref n32, .ref n18, .ref a6, .int 1, .int 0])), (n16, .inl (cy 1, 1830, .inl (fillF (fun _ => 0) 2 20 (PP 20 2 (20 + 1 - 2))))), (a6, .inr (9, [.int 0, .int 2, .int 20, .int 120, .int 0, .int 0, .int 0, .int 0, .ref a11, .int 0, .ref a12, .ref a13, .int 0, .ref a14, .ref a15, .ref a16, .ref a17])), (n4, .inl (cy 1, 0, .inl (fun _ => 0))), (n34, .inl (cy 1, 1830, .inl (learnF 0 1830))), (n6, .inl (cy 1, 0, .inl (fun _ => 0))), (n35, .inl (cy 1, 1830, .inl (learnF 2 1830))), (n2, .inr (4, [.ref n3, .ref n13, .int 0, .ref n14])), (n3, .inl (cy 5, 9, .inr (.inr (.inr (.inr (va_up (va_up (va_up (va_up (va_up (va_up (va_up (va_up (va_up (va_up (va_up (va_up (fun _ => none) 0 (some n4)) 1 (some n5)) 2 (some n6)) 3 (some n7)) 4 (some n8)) 5 (some n9)) 6 (some n10)) 7 (some n11)) 8 (some n12)) 0 (some n34)) 2 (some n35)) 3 (some n36))))))), (n7, .inl (cy 1, 0, .inl (fun _ => 0))), (n36, .inl (cy 1, 1830, .inl (learnF 3 1830))), (n21, .inr (1, [.ref n22, .ref a6, .int (-2), .int (-2), .ref n24, .int 0, .int 0, .int 0, .int 0, .int (-1), .int 0, .ref n25, .ref n26])), (n24, .inl (cy 1, 6, .inl (upd (upd (upd (upd (upd (upd (fun _ => 0) 0 (-2)) 1 (-2)) 2 (-2)) 3 (-2)) 4 (-2)) 5 (-2)))), (n27, .inr (3, [.ref n2, .ref n15, .ref a6, .int (-1), .int (-1), .ref n28, .int 0, .int 0, .int 0])), (n29, .inr (0, [.ref n2, .ref n15, .ref a6, .int 0, .int 0])), (n30, .inr (8, [.ref n29, .int (-1), .int 0, .int 0, .int 0, .int 0, .int 0, .ref n31])), (n32, .inr (7, [.ref n29, .int 0, .int (-1), .int (-1), .int (-1), .ref n33]))] _ _ := w
  refine r_top (g2 := F0 m 62 ls [.ref n1]) rfl ?_
  refine r_get C w 21 rfl rfl 8 (by decide) fl_RX11_258 (v := .ref n32) rfl dX11_shortest_62 ?_
  refine lv_astore (lv' := [(5, .ref n32), (4, .int 0), (3, .int (-9)), (0, .ref a0), (1, .int 3), (2, .int 1)]) C.1 C.2.1 dX11_shortest_65 hl (by decide) rfl (fun ls hl => ?_)
  refine lv_aload C.1 C.2.1 dX11_shortest_67 (lv_at hl 0 rfl) ?_
  refine lv_iload_n C.1 C.2.1 dX11_shortest_69 rfl (lv_at hl 4 rfl) ?_
  refine r_callV C w fv_RX11_262 (c_X7_seek_9 l D cy n32 n29 n33 n2 n15 a6 a11 a12 a13 a14 a15 a16 a17) (hl.1.trans hml.symm) [37, 35, 9, 23] [0, 1, 2, 3, 4, 5, 6, 7, 8, 10, 11, 12, 13, 14, 15, 16, 17, 18, 19, 20, 21, 22, 24, 25, 26, 27, 28, 29, 30, 31, 32, 33, 34, 36] (wr := [(a0, .inr (11, [.ref a1, .int 0, .int 0, .int (-1), .ref a2, .ref a3, .ref a4, .ref a5, .ref a6, .ref n1])), (n5, .inl (cy 1, 0, .inl (fun _ => 0))), (n8, .inl (cy 1, 0, .inl (fun _ => 0))), (n9, .inl (cy 1, 0, .inl (fun _ => 0))), (n10, .inl (cy 1, 0, .inl (fun _ => 0))), (n11, .inl (cy 1, 0, .inl (fun _ => 0))), (n12, .inl (cy 1, 0, .inl (fun _ => 0))), (n13, .inl (cy 1, 7201, .inl (fun _ => 0))), (n14, .inl (cy 1, 1830, .inl (fun _ => 0))), (n17, .inl (cy 1, 1830, .inl (fun _ => 0))), (n19, .inl (cy 1, 1830, .inl (fun _ => 0))), (n18, .inr (2, [.ref n2, .ref n19, .ref n20, .ref a6, .int 0])), (n20, .inl (cy 1, 21, .inl (fun _ => 0))), (n22, .inr (2, [.ref n2, .ref n15, .ref n23, .ref a6, .int 0])), (n23, .inl (cy 1, 21, .inl (fun _ => 0))), (n25, .inl (cy 1, 6, .inl (fun _ => 0))), (n26, .inl (cy 1, 6, .inl (fun _ => 0))), (n28, .inl (cy 1, 1830, .inl (fun _ => 0))), (n31, .inl (cy 1, 5, .inl (fun _ => 0))), (n33, .inl (cy 1, 4, .inl (fun _ => 0))), (n1, .inr (6, [.ref n2, .ref n16, .int 190, .ref n17, .ref n21, .ref n27, .ref n29, .ref n30, .ref n32, .ref n18, .ref a6, .int 1, .int 0])), (n16, .inl (cy 1, 1830, .inl (fillF (fun _ => 0) 2 20 (PP 20 2 (20 + 1 - 2))))), (n4, .inl (cy 1, 0, .inl (fun _ => 0))), (n34, .inl (cy 1, 1830, .inl (learnF 0 1830))), (n6, .inl (cy 1, 0, .inl (fun _ => 0))), (n35, .inl (cy 1, 1830, .inl (learnF 2 1830))), (n2, .inr (4, [.ref n3, .ref n13, .int 0, .ref n14])), (n3, .inl (cy 5, 9, .inr (.inr (.inr (.inr (va_up (va_up (va_up (va_up (va_up (va_up (va_up (va_up (va_up (va_up (va_up (va_up (fun _ => none) 0 (some n4)) 1 (some n5)) 2 (some n6)) 3 (some n7)) 4 (some n8)) 5 (some n9)) 6 (some n10)) 7 (some n11)) 8 (some n12)) 0 (some n34)) 2 (some n35)) 3 (some n36))))))), (n7, .inl (cy 1, 0, .inl (fun _ => 0))), (n36, .inl (cy 1, 1830, .inl (learnF 3 1830))), (n21, .inr (1, [.ref n22, .ref a6, .int (-2), .int (-2), .ref n24, .int 0, .int 0, .int 0, .int 0, .int (-1), .int 0, .ref n25, .ref n26])), (n24, .inl (cy 1, 6, .inl (upd (upd (upd (upd (upd (upd (fun _ => 0) 0 (-2)) 1 (-2)) 2 (-2)) 3 (-2)) 4 (-2)) 5 (-2)))), (n27, .inr (3, [.ref n2, .ref n15, .ref a6, .int (-1), .int (-1), .ref n28, .int 0, .int 0, .int 0])), (n30, .inr (8, [.ref n29, .int (-1), .int 0, .int 0, .int 0, .int 0, .int 0, .ref n31]))]) ⟨rfl, rfl, rfl, rfl, by decide⟩ 0 rfl rfl rfl rfl rfl ⟨Nat.le_of_ble_eq_true rfl, Nat.le_of_ble_eq_true rfl, Nat.le_of_ble_eq_true rfl⟩ 36 23817 ⟨rfl, rfl, Nat.le_of_ble_eq_true rfl, Nat.le_of_ble_eq_true rfl⟩ dX11_shortest_70 (fun u H locs hp w => ?_)
  have w : Wd D A s.heap [(a0, .inr (11, [.ref a1, .int 0, .int 0, .int (-1), .ref a2, .ref a3, .ref a4, .ref a5, .ref a6, .ref n1])), (n5, .inl (cy 1, 0, .inl (fun _ => 0))), (n8, .inl (cy 1, 0, .inl (fun _ => 0))), (n9, .inl (cy 1, 0, .inl (fun _ => 0))), (n10, .inl (cy 1, 0, .inl (fun _ => 0))), (n11, .inl (cy 1, 0, .inl (fun _ => 0))), (n12, .inl (cy 1, 0, .inl (fun _ => 0))), (n13, .inl (cy 1, 7201, .inl (fun _ => 0))), (n14, .inl (cy 1, 1830, .inl (fun _ => 0))), (n17, .inl (cy 1, 1830, .inl (fun _ => 0))), (n19, .inl (cy 1, 1830, .inl (fun _ => 0))), (n18, .inr (2, [.ref n2, .ref n19, .ref n20, .ref a6, .int 0])), (n20, .inl (cy 1, 21, .inl (fun _ => 0))), (n22, .inr (2, [.ref n2, .ref n15, .ref n23, .ref a6, .int 0])), (n23, .inl (cy 1, 21, .inl (fun _ => 0))), (n25, .inl (cy 1, 6, .inl (fun _ => 0))), (n26, .inl (cy 1, 6, .inl (fun _ => 0))), (n28, .inl (cy 1, 1830, .inl (fun _ => 0))), (n31, .inl (cy 1, 5, .inl (fun _ => 0))), (n33, .inl (cy 1, 4, .inl (fun _ => 0))), (n1, .inr (6, [.ref n2, .ref n16, .int 190, .ref n17, .ref n21, .ref n27, .ref n29, .ref n30, .ref n32, .ref n18, .ref a6, .int 1, .int 0])), (n16, .inl (cy 1, 1830, .inl (fillF (fun _ => 0) 2 20 (PP 20 2 (20 + 1 - 2))))), (n4, .inl (cy 1, 0, .inl (fun _ => 0))), (n34, .inl (cy 1, 1830, .inl (learnF 0 1830))), (n6, .inl (cy 1, 0, .inl (fun _ => 0))), (n35, .inl (cy 1, 1830, .inl (learnF 2 1830))), (n2, .inr (4, [.ref n3, .ref n13, .int 0, .ref n14])), (n3, .inl (cy 5, 9, .inr (.inr (.inr (.inr (va_up (va_up (va_up (va_up (va_up (va_up (va_up (va_up (va_up (va_up (va_up (va_up (fun _ => none) 0 (some n4)) 1 (some n5)) 2 (some n6)) 3 (some n7)) 4 (some n8)) 5 (some n9)) 6 (some n10)) 7 (some n11)) 8 (some n12)) 0 (some n34)) 2 (some n35)) 3 (some n36))))))), (n7, .inl (cy 1, 0, .inl (fun _ => 0))), (n36, .inl (cy 1, 1830, .inl (learnF 3 1830))), (n21, .inr (1, [.ref n22, .ref a6, .int (-2), .int (-2), .ref n24, .int 0, .int 0, .int 0, .int 0, .int (-1), .int 0, .ref n25, .ref n26])), (n24, .inl (cy 1, 6, .inl (upd (upd (upd (upd (upd (upd (fun _ => 0) 0 (-2)) 1 (-2)) 2 (-2)) 3 (-2)) 4 (-2)) 5 (-2)))), (n27, .inr (3, [.ref n2, .ref n15, .ref a6, .int (-1), .int (-1), .ref n28, .int 0, .int 0, .int 0])), (n30, .inr (8, [.ref n29, .int (-1), .int 0, .int 0, .int 0, .int 0, .int 0, .ref n31])), (n15, .inl (cy 1, 1830, .inl (fillF (fun _ => 0) 2 20 (PP 20 2 (20 + 1 - 2))))), (n32, .inr (7, [.ref n29, .int 4, .int 3, .int (-1), .int (-1), .ref n33])), (n29, .inr (0, [.ref n2, .ref n15, .ref a6, .int 0, .int 190])), (a6, .inr (9, [.int 0, .int 2, .int 20, .int 120, .int 0, .int 0, .int 0, .int 0, .ref a11, .int 0, .ref a12, .ref a13, .int 0, .ref a14, .ref a15, .ref a16, .ref a17]))] _ _ := w
  refine r_top (g2 := F0 m 73 ls []) rfl ?_
  refine lv_aload C.1 C.2.1 dX11_shortest_73 (lv_at hl 0 rfl) ?_
  refine r_get C w 35 rfl rfl 3 (by decide) fl_RX11_264 (v := .int (-1)) rfl dX11_shortest_75 ?_
  refine lv_iconst (v := (-1)) C.1 C.2.1 dX11_shortest_78 (by decide) ?_
  refine b_icmp_eq_t C (tgt := 91) dX11_shortest_79 (by decide) (by decide) ?_
  refine lv_iconst (v := (-1)) C.1 C.2.1 dX11_shortest_91 (by decide) ?_
  exact r_iret C w hlocks (n1, n2, n3, n4, n5, n6, n7, n8, n9, n10, n11, n12, n13, n14, n15, n16, n17, n18, n19, n20, n21, n22, n23, n24, n25, n26, n27, n28, n29, n30, n31, n32, n33, n34, n35, n36) hr rfl rfl trivial [0, 1, 2, 3, 4, 5, 6, 7, 8, 9, 10, 11, 12, 13, 14, 15, 16, 17, 18, 19, 20, 21, 22, 23, 24, 25, 26, 27, 28, 29, 30, 31, 32, 33, 34, 35, 36, 37] rfl rfl ⟨Nat.le_of_ble_eq_true rfl, Nat.le_of_ble_eq_true rfl⟩ dX11_shortest_92
set_option maxRecDepth 100000 in
set_option maxHeartbeats 4000000 in
theorem c_X11_shortest_9 (l : Launch) (D : va_G) (cy : Nat → ClassId) (a0 a1 a2 a3 a4 a5 a6 a11 a12 a13 a14 a15 a16 a17 : Nat) : Ct l D cy yX11_shortest cX11_shortest 6 (some .int) 5 118 36 23817 [(a0, .inr (11, [.ref a1, .int 0, .int 0, .int (-1), .ref a2, .ref a3, .ref a4, .ref a5, .ref a6, .null])), (a6, .inr (9, [.int 0, .int 2, .int 20, .int 120, .int 0, .int 0, .int 0, .int 0, .ref a11, .int 0, .ref a12, .ref a13, .int 0, .ref a14, .ref a15, .ref a16, .ref a17]))] [.ref a0, .int 2, .int 1] (fun u : Nat × Nat × Nat × Nat × Nat × Nat × Nat × Nat × Nat × Nat × Nat × Nat × Nat × Nat × Nat × Nat × Nat × Nat × Nat × Nat × Nat × Nat × Nat × Nat × Nat × Nat × Nat × Nat × Nat × Nat × Nat × Nat × Nat × Nat × Nat × Nat => some (.int (-1))) (fun _ => True) (fun u : Nat × Nat × Nat × Nat × Nat × Nat × Nat × Nat × Nat × Nat × Nat × Nat × Nat × Nat × Nat × Nat × Nat × Nat × Nat × Nat × Nat × Nat × Nat × Nat × Nat × Nat × Nat × Nat × Nat × Nat × Nat × Nat × Nat × Nat × Nat × Nat => [(a0, .inr (11, [.ref a1, .int 0, .int 0, .int (-1), .ref a2, .ref a3, .ref a4, .ref a5, .ref a6, .ref u.1])), (u.2.2.2.2.1, .inl (cy 1, 0, .inl (fun _ => 0))), (u.2.2.2.2.2.2.2.1, .inl (cy 1, 0, .inl (fun _ => 0))), (u.2.2.2.2.2.2.2.2.1, .inl (cy 1, 0, .inl (fun _ => 0))), (u.2.2.2.2.2.2.2.2.2.1, .inl (cy 1, 0, .inl (fun _ => 0))), (u.2.2.2.2.2.2.2.2.2.2.1, .inl (cy 1, 0, .inl (fun _ => 0))), (u.2.2.2.2.2.2.2.2.2.2.2.1, .inl (cy 1, 0, .inl (fun _ => 0))), (u.2.2.2.2.2.2.2.2.2.2.2.2.1, .inl (cy 1, 7201, .inl (fun _ => 0))), (u.2.2.2.2.2.2.2.2.2.2.2.2.2.1, .inl (cy 1, 1830, .inl (fun _ => 0))), (u.2.2.2.2.2.2.2.2.2.2.2.2.2.2.2.2.1, .inl (cy 1, 1830, .inl (fun _ => 0))), (u.2.2.2.2.2.2.2.2.2.2.2.2.2.2.2.2.2.2.1, .inl (cy 1, 1830, .inl (fun _ => 0))), (u.2.2.2.2.2.2.2.2.2.2.2.2.2.2.2.2.2.1, .inr (2, [.ref u.2.1, .ref u.2.2.2.2.2.2.2.2.2.2.2.2.2.2.2.2.2.2.1, .ref u.2.2.2.2.2.2.2.2.2.2.2.2.2.2.2.2.2.2.2.1, .ref a6, .int 0])), (u.2.2.2.2.2.2.2.2.2.2.2.2.2.2.2.2.2.2.2.1, .inl (cy 1, 21, .inl (fun _ => 0))), (u.2.2.2.2.2.2.2.2.2.2.2.2.2.2.2.2.2.2.2.2.2.1, .inr (2, [.ref u.2.1, .ref u.2.2.2.2.2.2.2.2.2.2.2.2.2.2.1, .ref u.2.2.2.2.2.2.2.2.2.2.2.2.2.2.2.2.2.2.2.2.2.2.1, .ref a6, .int 0])), (u.2.2.2.2.2.2.2.2.2.2.2.2.2.2.2.2.2.2.2.2.2.2.1, .inl (cy 1, 21, .inl (fun _ => 0))), (u.2.2.2.2.2.2.2.2.2.2.2.2.2.2.2.2.2.2.2.2.2.2.2.2.1, .inl (cy 1, 6, .inl (fun _ => 0))), (u.2.2.2.2.2.2.2.2.2.2.2.2.2.2.2.2.2.2.2.2.2.2.2.2.2.1, .inl (cy 1, 6, .inl (fun _ => 0))), (u.2.2.2.2.2.2.2.2.2.2.2.2.2.2.2.2.2.2.2.2.2.2.2.2.2.2.2.1, .inl (cy 1, 1830, .inl (fun _ => 0))), (u.2.2.2.2.2.2.2.2.2.2.2.2.2.2.2.2.2.2.2.2.2.2.2.2.2.2.2.2.2.2.1, .inl (cy 1, 5, .inl (fun _ => 0))), (u.2.2.2.2.2.2.2.2.2.2.2.2.2.2.2.2.2.2.2.2.2.2.2.2.2.2.2.2.2.2.2.2.1, .inl (cy 1, 4, .inl (fun _ => 0))), (u.1, .inr (6, [.ref u.2.1, .ref u.2.2.2.2.2.2.2.2.2.2.2.2.2.2.2.1, .int 190, .ref u.2.2.2.2.2.2.2.2.2.2.2.2.2.2.2.2.1, .ref u.2.2.2.2.2.2.2.2.2.2.2.2.2.2.2.2.2.2.2.2.1, .ref u.2.2.2.2.2.2.2.2.2.2.2.2.2.2.2.2.2.2.2.2.2.2.2.2.2.2.1, .ref u.2.2.2.2.2.2.2.2.2.2.2.2.2.2.2.2.2.2.2.2.2.2.2.2.2.2.2.2.1, .ref u.2.2.2.2.2.2.2.2.2.2.2.2.2.2.2.2.2.2.2.2.2.2.2.2.2.2.2.2.2.1, .ref u.2.2.2.2.2.2.2.2.2.2.2.2.2.2.2.2.2.2.2.2.2.2.2.2.2.2.2.2.2.2.2.1, .ref u.2.2.2.2.2.2.2.2.2.2.2.2.2.2.2.2.2.1, .ref a6, .int 1, .int 0])), (u.2.2.2.2.2.2.2.2.2.2.2.2.2.2.2.1, .inl (cy 1, 1830, .inl (fillF (fun _ => 0) 2 20 (PP 20 2 (20 + 1 - 2))))), (u.2.2.2.1, .inl (cy 1, 0, .inl (fun _ => 0))), (u.2.2.2.2.2.2.2.2.2.2.2.2.2.2.2.2.2.2.2.2.2.2.2.2.2.2.2.2.2.2.2.2.2.1, .inl (cy 1, 1830, .inl (learnF 0 1830))), (u.2.2.2.2.2.1, .inl (cy 1, 0, .inl (fun _ => 0))), (u.2.2.2.2.2.2.2.2.2.2.2.2.2.2.2.2.2.2.2.2.2.2.2.2.2.2.2.2.2.2.2.2.2.2.1, .inl (cy 1, 1830, .inl (learnF 2 1830))), (u.2.1, .inr (4, [.ref u.2.2.1, .ref u.2.2.2.2.2.2.2.2.2.2.2.2.1, .int 0, .ref u.2.2.2.2.2.2.2.2.2.2.2.2.2.1])), (u.2.2.1, .inl (cy 5, 9, .inr (.inr (.inr (.inr (va_up (va_up (va_up (va_up (va_up (va_up (va_up (va_up (va_up (va_up (va_up (va_up (fun _ => none) 0 (some u.2.2.2.1)) 1 (some u.2.2.2.2.1)) 2 (some u.2.2.2.2.2.1)) 3 (some u.2.2.2.2.2.2.1)) 4 (some u.2.2.2.2.2.2.2.1)) 5 (some u.2.2.2.2.2.2.2.2.1)) 6 (some u.2.2.2.2.2.2.2.2.2.1)) 7 (some u.2.2.2.2.2.2.2.2.2.2.1)) 8 (some u.2.2.2.2.2.2.2.2.2.2.2.1)) 0 (some u.2.2.2.2.2.2.2.2.2.2.2.2.2.2.2.2.2.2.2.2.2.2.2.2.2.2.2.2.2.2.2.2.2.1)) 2 (some u.2.2.2.2.2.2.2.2.2.2.2.2.2.2.2.2.2.2.2.2.2.2.2.2.2.2.2.2.2.2.2.2.2.2.1)) 3 (some u.2.2.2.2.2.2.2.2.2.2.2.2.2.2.2.2.2.2.2.2.2.2.2.2.2.2.2.2.2.2.2.2.2.2.2))))))), (u.2.2.2.2.2.2.1, .inl (cy 1, 0, .inl (fun _ => 0))), (u.2.2.2.2.2.2.2.2.2.2.2.2.2.2.2.2.2.2.2.2.2.2.2.2.2.2.2.2.2.2.2.2.2.2.2, .inl (cy 1, 1830, .inl (learnF 3 1830))), (u.2.2.2.2.2.2.2.2.2.2.2.2.2.2.2.2.2.2.2.2.1, .inr (1, [.ref u.2.2.2.2.2.2.2.2.2.2.2.2.2.2.2.2.2.2.2.2.2.1, .ref a6, .int (-2), .int (-2), .ref u.2.2.2.2.2.2.2.2.2.2.2.2.2.2.2.2.2.2.2.2.2.2.2.1, .int 0, .int 0, .int 0, .int 0, .int (-1), .int 0, .ref u.2.2.2.2.2.2.2.2.2.2.2.2.2.2.2.2.2.2.2.2.2.2.2.2.1, .ref u.2.2.2.2.2.2.2.2.2.2.2.2.2.2.2.2.2.2.2.2.2.2.2.2.2.1])), (u.2.2.2.2.2.2.2.2.2.2.2.2.2.2.2.2.2.2.2.2.2.2.2.1, .inl (cy 1, 6, .inl (upd (upd (upd (upd (upd (upd (fun _ => 0) 0 (-2)) 1 (-2)) 2 (-2)) 3 (-2)) 4 (-2)) 5 (-2)))), (u.2.2.2.2.2.2.2.2.2.2.2.2.2.2.2.2.2.2.2.2.2.2.2.2.2.2.1, .inr (3, [.ref u.2.1, .ref u.2.2.2.2.2.2.2.2.2.2.2.2.2.2.1, .ref a6, .int (-1), .int (-1), .ref u.2.2.2.2.2.2.2.2.2.2.2.2.2.2.2.2.2.2.2.2.2.2.2.2.2.2.2.1, .int 0, .int 0, .int 0])), (u.2.2.2.2.2.2.2.2.2.2.2.2.2.2.2.2.2.2.2.2.2.2.2.2.2.2.2.2.2.1, .inr (8, [.ref u.2.2.2.2.2.2.2.2.2.2.2.2.2.2.2.2.2.2.2.2.2.2.2.2.2.2.2.2.1, .int (-1), .int 0, .int 0, .int 0, .int 0, .int 0, .ref u.2.2.2.2.2.2.2.2.2.2.2.2.2.2.2.2.2.2.2.2.2.2.2.2.2.2.2.2.2.2.1])), (u.2.2.2.2.2.2.2.2.2.2.2.2.2.2.1, .inl (cy 1, 1830, .inl (fillF (fun _ => 0) 2 20 (PP 20 2 (20 + 1 - 2))))), (u.2.2.2.2.2.2.2.2.2.2.2.2.2.2.2.2.2.2.2.2.2.2.2.2.2.2.2.2.2.2.2.1, .inr (7, [.ref u.2.2.2.2.2.2.2.2.2.2.2.2.2.2.2.2.2.2.2.2.2.2.2.2.2.2.2.2.1, .int 3, .int 2, .int (-1), .int (-1), .ref u.2.2.2.2.2.2.2.2.2.2.2.2.2.2.2.2.2.2.2.2.2.2.2.2.2.2.2.2.2.2.2.2.1])), (u.2.2.2.2.2.2.2.2.2.2.2.2.2.2.2.2.2.2.2.2.2.2.2.2.2.2.2.2.1, .inr (0, [.ref u.2.1, .ref u.2.2.2.2.2.2.2.2.2.2.2.2.2.2.1, .ref a6, .int 0, .int 190])), (a6, .inr (9, [.int 0, .int 2, .int 20, .int 120, .int 0, .int 0, .int 0, .int 0, .ref a11, .int 0, .ref a12, .ref a13, .int 0, .ref a14, .ref a15, .ref a16, .ref a17]))]) := by
  refine Ct.of (by decide +kernel) (Nat.le_of_ble_eq_true rfl) ?_
  intro p e s m args below meth c A ls C hr hlocks hml hnm w hl
  have hl : lv_has ls 6 [(0, .ref a0), (1, .int 2), (2, .int 1)] := hl
  refine lv_iload_n C.1 C.2.1 dX11_shortest_0 rfl (lv_at hl 2 rfl) ?_
  refine lv_bipush (v := 10) C.1 C.2.1 dX11_shortest_1 (by decide) ?_
  refine r_isub C (v := (-9)) dX11_shortest_3 (by decide) ?_
  refine lv_istore_n (lv' := [(3, .int (-9)), (0, .ref a0), (1, .int 2), (2, .int 1)]) C.1 C.2.1 dX11_shortest_4 rfl hl (by decide) rfl (fun ls hl => ?_)
  refine lv_iload_n C.1 C.2.1 dX11_shortest_5 rfl (lv_at hl 3 rfl) ?_
  refine lv_bipush (v := 10) C.1 C.2.1 dX11_shortest_6 (by decide) ?_
  refine b_icmp_lt_t C (tgt := 20) dX11_shortest_8 (by decide) (by decide) ?_
  refine lv_iconst (v := 0) C.1 C.2.1 dX11_shortest_20 (by decide) ?_
  refine lv_istore (lv' := [(4, .int 0), (3, .int (-9)), (0, .ref a0), (1, .int 2), (2, .int 1)]) C.1 C.2.1 dX11_shortest_21 hl (by decide) rfl (fun ls hl => ?_)
  refine lv_iload_n C.1 C.2.1 dX11_shortest_23 rfl (lv_at hl 3 rfl) ?_
  refine lv_iconst (v := 1) C.1 C.2.1 dX11_shortest_24 (by decide) ?_
  refine b_icmp_lt_f C (tgt := 47) dX11_shortest_25 (by decide) (by decide) ?_
  refine lv_iload_n C.1 C.2.1 dX11_shortest_28 rfl (lv_at hl 3 rfl) ?_
  refine lv_iconst (v := 4) C.1 C.2.1 dX11_shortest_29 (by decide) ?_
  refine b_icmp_gt_f C (tgt := 47) dX11_shortest_30 (by decide) (by decide) ?_
  refine lv_iload_n C.1 C.2.1 dX11_shortest_33 rfl (lv_at hl 4 rfl) ?_
  refine b_if_eq_f C (tgt := 58) dX11_shortest_34 (by decide) (by decide) ?_
  refine lv_iload_n C.1 C.2.1 dX11_shortest_37 rfl (lv_at hl 4 rfl) ?_
  refine lv_iconst (v := 1) C.1 C.2.1 dX11_shortest_38 (by decide) ?_
  refine b_icmp_eq_t C (tgt := 58) dX11_shortest_39 (by decide) (by decide) ?_
  refine lv_aload_n C.1 C.2.1 dX11_shortest_58 rfl (lv_at hl 2 rfl) ?_
  refine r_callV C w fv_RX11_100 (c_X11_view_0 l D cy a0 a1 a2 a3 a4 a5 a6 a11 a12 a13 a14 a15 a16 a17) (hl.1.trans hml.symm) [0, 1] [] (wr := []) ⟨rfl, rfl, rfl, rfl, by decide⟩ 0 rfl rfl rfl rfl rfl ⟨Nat.le_of_ble_eq_true rfl, Nat.le_of_ble_eq_true rfl, Nat.le_of_ble_eq_true rfl⟩ 36 23817 ⟨rfl, rfl, Nat.le_of_ble_eq_true rfl, Nat.le_of_ble_eq_true rfl⟩ dX11_shortest_59 (fun u H locs hp w => ?_)
  obtain ⟨n1, n2, n3, n4, n5, n6, n7, n8, n9, n10, n11, n12, n13, n14, n15, n16, n17, n18, n19, n20, n21, n22, n23, n24, n25, n26, n27, n28, n29, n30, n31, n32, n33, n34, n35, n36⟩ := u
  have w : Wd D A s.heap [(a0, .inr (11, [.ref a1, .int 0, .int 0, .int (-1), .ref a2, .ref a3, .ref a4, .ref a5, .ref a6, .ref n1])), (n5, .inl (cy 1, 0, .inl (fun _ => 0))), (n8, .inl (cy 1, 0, .inl (fun _ => 0))), (n9, .inl (cy 1, 0, .inl (fun _ => 0))), (n10, .inl (cy 1, 0, .inl (fun _ => 0))), (n11, .inl (cy 1, 0, .inl (fun _ => 0))), (n12, .inl (cy 1, 0, .inl (fun _ => 0))), (n13, .inl (cy 1, 7201, .inl (fun _ => 0))), (n14, .inl (cy 1, 1830, .inl (fun _ => 0))), (n15, .inl (cy 1, 1830, .inl (fun _ => 0))), (n17, .inl (cy 1, 1830, .inl (fun _ => 0))), (n19, .inl (cy 1, 1830, .inl (fun _ => 0))), (n18, .inr (2, [.ref n2, .ref n19, .ref n20, .ref a6, .int 0])), (n20, .inl (cy 1, 21, .inl (fun _ => 0))), (n22, .inr (2, [.ref n2, .ref n15, .ref n23, .ref a6, .int 0])), (n23, .inl (cy 1, 21, .inl (fun _ => 0))), (n25, .inl (cy 1, 6, .inl (fun _ => 0))), (n26, .inl (cy 1, 6, .inl (fun _ => 0))), (n28, .inl (cy 1, 1830, .inl (fun _ => 0))), (n31, .inl (cy 1, 5, .inl (fun _ => 0))), (n33, .inl (cy 1, 4, .inl (fun _ => 0))), (n1, .inr (6, [.ref n2, .ref n16, .int 190, .ref n17, .ref n21, .ref n27, .ref n29, .ref n30, .ref n32, .ref n18, .ref a6, .int 1, .int 0])), (n16, .inl (cy 1, 1830, .inl (fillF (fun _ => 0) 2 20 (PP 20 2 (20 + 1 - 2))))), (a6, .inr (9, [.int 0, .int 2, .int 20, .int 120, .int 0, .int 0, .int 0, .int 0, .ref a11, .int 0, .ref a12, .ref a13, .int 0, .ref a14, .ref a15, .ref a16, .ref a17])), (n4, .inl (cy 1, 0, .inl (fun _ => 0))), (n34, .inl (cy 1, 1830, .inl (learnF 0 1830))), (n6, .inl (cy 1, 0, .inl (fun _ => 0))), (n35, .inl (cy 1, 1830, .inl (learnF 2 1830))), (n2, .inr (4, [.ref n3, .ref n13, .int 0, .ref n14])), (n3, .inl (cy 5, 9, .inr (.inr (.inr (.inr (va_up (va_up (va_up (va_up (va_up (va_up (va_up (va_up (va_up (va_up (va_up (va_up (fun _ => none) 0 (some n4)) 1 (some n5)) 2 (some n6)) 3 (some n7)) 4 (some n8)) 5 (some n9)) 6 (some n10)) 7 (some n11)) 8 (some n12)) 0 (some n34)) 2 (some n35)) 3 (some n36))))))), (n7, .inl (cy 1, 0, .inl (fun _ => 0))), (n36, .inl (cy 1, 1830, .inl (learnF 3 1830))), (n21, .inr (1, [.ref n22, .ref a6, .int (-2), .int (-2), .ref n24, .int 0, .int 0, .int 0, .int 0, .int (-1), .int 0, .ref n25, .ref n26])), (n24, .inl (cy 1, 6, .inl (upd (upd (upd (upd (upd (upd (fun _ => 0) 0 (-2)) 1 (-2)) 2 (-2)) 3 (-2)) 4 (-2)) 5 (-2)))), (n27, .inr (3, [.ref n2, .ref n15, .ref a6, .int (-1), .int (-1), .ref n28, .int 0, .int 0, .int 0])), (n29, .inr (0, [.ref n2, .ref n15, .ref a6, .int 0, .int 0])), (n30, .inr (8, [.ref n29, .int (-1), .int 0, .int 0, .int 0, .int 0, .int 0, .ref n31])), (n32, .inr (7, [.ref n29, .int 0, .int (-1), .int (-1), .int (-1), .ref n33]))] _ _ := w
  refine r_top (g2 := F0 m 62 ls [.ref n1]) rfl ?_
  refine r_get C w 21 rfl rfl 8 (by decide) fl_RX11_258 (v := .ref n32) rfl dX11_shortest_62 ?_
  refine lv_astore (lv' := [(5, .ref n32), (4, .int 0), (3, .int (-9)), (0, .ref a0), (1, .int 2), (2, .int 1)]) C.1 C.2.1 dX11_shortest_65 hl (by decide) rfl (fun ls hl => ?_)
  refine lv_aload C.1 C.2.1 dX11_shortest_67 (lv_at hl 0 rfl) ?_
  refine lv_iload_n C.1 C.2.1 dX11_shortest_69 rfl (lv_at hl 4 rfl) ?_
  refine r_callV C w fv_RX11_262 (c_X7_seek_10 l D cy n32 n29 n33 n2 n15 a6 a11 a12 a13 a14 a15 a16 a17) (hl.1.trans hml.symm) [37, 35, 9, 23] [0, 1, 2, 3, 4, 5, 6, 7, 8, 10, 11, 12, 13, 14, 15, 16, 17, 18, 19, 20, 21, 22, 24, 25, 26, 27, 28, 29, 30, 31, 32, 33, 34, 36] (wr := [(a0, .inr (11, [.ref a1, .int 0, .int 0, .int (-1), .ref a2, .ref a3, .ref a4, .ref a5, .ref a6, .ref n1])), (n5, .inl (cy 1, 0, .inl (fun _ => 0))), (n8, .inl (cy 1, 0, .inl (fun _ => 0))), (n9, .inl (cy 1, 0, .inl (fun _ => 0))), (n10, .inl (cy 1, 0, .inl (fun _ => 0))), (n11, .inl (cy 1, 0, .inl (fun _ => 0))), (n12, .inl (cy 1, 0, .inl (fun _ => 0))), (n13, .inl (cy 1, 7201, .inl (fun _ => 0))), (n14, .inl (cy 1, 1830, .inl (fun _ => 0))), (n17, .inl (cy 1, 1830, .inl (fun _ => 0))), (n19, .inl (cy 1, 1830, .inl (fun _ => 0))), (n18, .inr (2, [.ref n2, .ref n19, .ref n20, .ref a6, .int 0])), (n20, .inl (cy 1, 21, .inl (fun _ => 0))), (n22, .inr (2, [.ref n2, .ref n15, .ref n23, .ref a6, .int 0])), (n23, .inl (cy 1, 21, .inl (fun _ => 0))), (n25, .inl (cy 1, 6, .inl (fun _ => 0))), (n26, .inl (cy 1, 6, .inl (fun _ => 0))), (n28, .inl (cy 1, 1830, .inl (fun _ => 0))), (n31, .inl (cy 1, 5, .inl (fun _ => 0))), (n33, .inl (cy 1, 4, .inl (fun _ => 0))), (n1, .inr (6, [.ref n2, .ref n16, .int 190, .ref n17, .ref n21, .ref n27, .ref n29, .ref n30, .ref n32, .ref n18, .ref a6, .int 1, .int 0])), (n16, .inl (cy 1, 1830, .inl (fillF (fun _ => 0) 2 20 (PP 20 2 (20 + 1 - 2))))), (n4, .inl (cy 1, 0, .inl (fun _ => 0))), (n34, .inl (cy 1, 1830, .inl (learnF 0 1830))), (n6, .inl (cy 1, 0, .inl (fun _ => 0))), (n35, .inl (cy 1, 1830, .inl (learnF 2 1830))), (n2, .inr (4, [.ref n3, .ref n13, .int 0, .ref n14])), (n3, .inl (cy 5, 9, .inr (.inr (.inr (.inr (va_up (va_up (va_up (va_up (va_up (va_up (va_up (va_up (va_up (va_up (va_up (va_up (fun _ => none) 0 (some n4)) 1 (some n5)) 2 (some n6)) 3 (some n7)) 4 (some n8)) 5 (some n9)) 6 (some n10)) 7 (some n11)) 8 (some n12)) 0 (some n34)) 2 (some n35)) 3 (some n36))))))), (n7, .inl (cy 1, 0, .inl (fun _ => 0))), (n36, .inl (cy 1, 1830, .inl (learnF 3 1830))), (n21, .inr (1, [.ref n22, .ref a6, .int (-2), .int (-2), .ref n24, .int 0, .int 0, .int 0, .int 0, .int (-1), .int 0, .ref n25, .ref n26])), (n24, .inl (cy 1, 6, .inl (upd (upd (upd (upd (upd (upd (fun _ => 0) 0 (-2)) 1 (-2)) 2 (-2)) 3 (-2)) 4 (-2)) 5 (-2)))), (n27, .inr (3, [.ref n2, .ref n15, .ref a6, .int (-1), .int (-1), .ref n28, .int 0, .int 0, .int 0])), (n30, .inr (8, [.ref n29, .int (-1), .int 0, .int 0, .int 0, .int 0, .int 0, .ref n31]))]) ⟨rfl, rfl, rfl, rfl, by decide⟩ 0 rfl rfl rfl rfl rfl ⟨Nat.le_of_ble_eq_true rfl, Nat.le_of_ble_eq_true rfl, Nat.le_of_ble_eq_true rfl⟩ 36 23817 ⟨rfl, rfl, Nat.le_of_ble_eq_true rfl, Nat.le_of_ble_eq_true rfl⟩ dX11_shortest_70 (fun u H locs hp w => ?_)
  have w : Wd D A s.heap [(a0, .inr (11, [.ref a1, .int 0, .int 0, .int (-1), .ref a2, .ref a3, .ref a4, .ref a5, .ref a6, .ref n1])), (n5, .inl (cy 1, 0, .inl (fun _ => 0))), (n8, .inl (cy 1, 0, .inl (fun _ => 0))), (n9, .inl (cy 1, 0, .inl (fun _ => 0))), (n10, .inl (cy 1, 0, .inl (fun _ => 0))), (n11, .inl (cy 1, 0, .inl (fun _ => 0))), (n12, .inl (cy 1, 0, .inl (fun _ => 0))), (n13, .inl (cy 1, 7201, .inl (fun _ => 0))), (n14, .inl (cy 1, 1830, .inl (fun _ => 0))), (n17, .inl (cy 1, 1830, .inl (fun _ => 0))), (n19, .inl (cy 1, 1830, .inl (fun _ => 0))), (n18, .inr (2, [.ref n2, .ref n19, .ref n20, .ref a6, .int 0])), (n20, .inl (cy 1, 21, .inl (fun _ => 0))), (n22, .inr (2, [.ref n2, .ref n15, .ref n23, .ref a6, .int 0])), (n23, .inl (cy 1, 21, .inl (fun _ => 0))), (n25, .inl (cy 1, 6, .inl (fun _ => 0))), (n26, .inl (cy 1, 6, .inl (fun _ => 0))), (n28, .inl (cy 1, 1830, .inl (fun _ => 0))), (n31, .inl (cy 1, 5, .inl (fun _ => 0))), (n33, .inl (cy 1, 4, .inl (fun _ => 0))), (n1, .inr (6, [.ref n2, .ref n16, .int 190, .ref n17, .ref n21, .ref n27, .ref n29, .ref n30, .ref n32, .ref n18, .ref a6, .int 1, .int 0])), (n16, .inl (cy 1, 1830, .inl (fillF (fun _ => 0) 2 20 (PP 20 2 (20 + 1 - 2))))), (n4, .inl (cy 1, 0, .inl (fun _ => 0))), (n34, .inl (cy 1, 1830, .inl (learnF 0 1830))), (n6, .inl (cy 1, 0, .inl (fun _ => 0))), (n35, .inl (cy 1, 1830, .inl (learnF 2 1830))), (n2, .inr (4, [.ref n3, .ref n13, .int 0, .ref n14])), (n3, .inl (cy 5, 9, .inr (.inr (.inr (.inr (va_up (va_up (va_up (va_up (va_up (va_up (va_up (va_up (va_up (va_up (va_up (va_up (fun _ => none) 0 (some n4)) 1 (some n5)) 2 (some n6)) 3 (some n7)) 4 (some n8)) 5 (some n9)) 6 (some n10)) 7 (some n11)) 8 (some n12)) 0 (some n34)) 2 (some n35)) 3 (some n36))))))), (n7, .inl (cy 1, 0, .inl (fun _ => 0))), (n36, .inl (cy 1, 1830, .inl (learnF 3 1830))), (n21, .inr (1, [.ref n22, .ref a6, .int (-2), .int (-2), .ref n24, .int 0, .int 0, .int 0, .int 0, .int (-1), .int 0, .ref n25, .ref n26])), (n24, .inl (cy 1, 6, .inl (upd (upd (upd (upd (upd (upd (fun _ => 0) 0 (-2)) 1 (-2)) 2 (-2)) 3 (-2)) 4 (-2)) 5 (-2)))), (n27, .inr (3, [.ref n2, .ref n15, .ref a6, .int (-1), .int (-1), .ref n28, .int 0, .int 0, .int 0])), (n30, .inr (8, [.ref n29, .int (-1), .int 0, .int 0, .int 0, .int 0, .int 0, .ref n31])), (n15, .inl (cy 1, 1830, .inl (fillF (fun _ => 0) 2 20 (PP 20 2 (20 + 1 - 2))))), (n32, .inr (7, [.ref n29, .int 3, .int 2, .int (-1), .int (-1), .ref n33])), (n29, .inr (0, [.ref n2, .ref n15, .ref a6, .int 0, .int 190])), (a6, .inr (9, [.int 0, .int 2, .int 20, .int 120, .int 0, .int 0, .int 0, .int 0, .ref a11, .int 0, .ref a12, .ref a13, .int 0, .ref a14, .ref a15, .ref a16, .ref a17]))] _ _ := w
  refine r_top (g2 := F0 m 73 ls []) rfl ?_
  refine lv_aload C.1 C.2.1 dX11_shortest_73 (lv_at hl 0 rfl) ?_
  refine r_get C w 35 rfl rfl 3 (by decide) fl_RX11_264 (v := .int (-1)) rfl dX11_shortest_75 ?_
  refine lv_iconst (v := (-1)) C.1 C.2.1 dX11_shortest_78 (by decide) ?_
  refine b_icmp_eq_t C (tgt := 91) dX11_shortest_79 (by decide) (by decide) ?_
  refine lv_iconst (v := (-1)) C.1 C.2.1 dX11_shortest_91 (by decide) ?_
  exact r_iret C w hlocks (n1, n2, n3, n4, n5, n6, n7, n8, n9, n10, n11, n12, n13, n14, n15, n16, n17, n18, n19, n20, n21, n22, n23, n24, n25, n26, n27, n28, n29, n30, n31, n32, n33, n34, n35, n36) hr rfl rfl trivial [0, 1, 2, 3, 4, 5, 6, 7, 8, 9, 10, 11, 12, 13, 14, 15, 16, 17, 18, 19, 20, 21, 22, 23, 24, 25, 26, 27, 28, 29, 30, 31, 32, 33, 34, 35, 36, 37] rfl rfl ⟨Nat.le_of_ble_eq_true rfl, Nat.le_of_ble_eq_true rfl⟩ dX11_shortest_92
theorem dX11_shortest_42 : decode cX11_shortest 42 = .ok (.iload 4, 2) := by decide +kernel
theorem dX11_shortest_44 : decode cX11_shortest 44 = .ok (.ifCond .ne 14, 3) := by decide +kernel
set_option maxRecDepth 100000 in
set_option maxHeartbeats 4000000 in
theorem c_X11_shortest_10 (l : Launch) (D : va_G) (cy : Nat → ClassId) (a0 a1 a2 a3 a4 a5 a6 : Nat) (x0 : Int32) (x1 : Int32) (k0 : x1 < 10) (k1 : ¬ x0 < 1) (k2 : ¬ 4 < x0) (k3 : ¬ x1 = 0) (k4 : ¬ x1 = 1) (hst : l.stackTraces = false) : CtX l D cy yX11_shortest cX11_shortest 6 (some .int) 6 82 1 6 [(a0, .inr (11, [.ref a1, .int 0, .int 0, .int (-1), .ref a2, .ref a3, .ref a4, .ref a5, .ref a6, .null]))] [.ref a0, .int x0, .int x1] nIAE := by
  refine CtX.of (by decide +kernel) (Nat.le_of_ble_eq_true rfl) ?_
  intro p e s m args below meth c A ls C hlocks hml htab w hl
  have hl : lv_has ls 6 [(0, .ref a0), (1, .int x0), (2, .int x1)] := hl
  refine lv_iload_n C.1 C.2.1 dX11_shortest_0 rfl (lv_at hl 2 rfl) ?_
  refine lv_bipush (v := 10) C.1 C.2.1 dX11_shortest_1 (by decide) ?_
  refine r_isub C (v := (x1 - 10)) dX11_shortest_3 rfl ?_
  refine lv_istore_n (lv' := [(3, .int (x1 - 10)), (0, .ref a0), (1, .int x0), (2, .int x1)]) C.1 C.2.1 dX11_shortest_4 rfl hl (by decide) rfl (fun ls hl => ?_)
  refine lv_iload_n C.1 C.2.1 dX11_shortest_5 rfl (lv_at hl 3 rfl) ?_
  refine lv_bipush (v := 10) C.1 C.2.1 dX11_shortest_6 (by decide) ?_
  refine b_icmp_lt_t C (tgt := 20) dX11_shortest_8 (by decide) k0 ?_
  refine lv_iconst (v := 0) C.1 C.2.1 dX11_shortest_20 (by decide) ?_
  refine lv_istore (lv' := [(4, .int 0), (3, .int (x1 - 10)), (0, .ref a0), (1, .int x0), (2, .int x1)]) C.1 C.2.1 dX11_shortest_21 hl (by decide) rfl (fun ls hl => ?_)
  refine lv_iload_n C.1 C.2.1 dX11_shortest_23 rfl (lv_at hl 3 rfl) ?_
  refine lv_iconst (v := 1) C.1 C.2.1 dX11_shortest_24 (by decide) ?_
  refine b_icmp_lt_f C (tgt := 47) dX11_shortest_25 (by decide) k1 ?_
  refine lv_iload_n C.1 C.2.1 dX11_shortest_28 rfl (lv_at hl 3 rfl) ?_
  refine lv_iconst (v := 4) C.1 C.2.1 dX11_shortest_29 (by decide) ?_
  refine b_icmp_gt_f C (tgt := 47) dX11_shortest_30 (by decide) k2 ?_
  refine lv_iload_n C.1 C.2.1 dX11_shortest_33 rfl (lv_at hl 4 rfl) ?_
  refine b_if_eq_f C (tgt := 58) dX11_shortest_34 (by decide) k3 ?_
  refine lv_iload_n C.1 C.2.1 dX11_shortest_37 rfl (lv_at hl 4 rfl) ?_
  refine lv_iconst (v := 1) C.1 C.2.1 dX11_shortest_38 (by decide) ?_
  refine b_icmp_eq_f C (tgt := 58) dX11_shortest_39 (by decide) k4 ?_
  refine lv_iload C.1 C.2.1 dX11_shortest_42 (lv_at hl 0 rfl) ?_
  refine b_if_ne_f C (tgt := 58) dX11_shortest_44 (by decide) (by decide) ?_
  exact r_throwSW C hst w ft_52_256_56 (hl.1.trans hml.symm) hlocks htab dX11_shortest_47 dX11_shortest_50 dX11_shortest_51 dX11_shortest_54 dX11_shortest_57 ⟨Nat.le_of_ble_eq_true rfl, Nat.le_of_ble_eq_true rfl, Nat.le_of_ble_eq_true rfl, Nat.le_of_ble_eq_true rfl⟩ ⟨Nat.le_of_ble_eq_true rfl, Nat.le_of_ble_eq_true rfl⟩
theorem dX11_shortest_11 : decode cX11_shortest 11 = .ok (.iload_n 3, 1) := by decide +kernel
theorem dX11_shortest_12 : decode cX11_shortest 12 = .ok (.iconst 4, 1) := by decide +kernel
theorem dX11_shortest_13 : decode cX11_shortest 13 = .ok (.if_icmp .ge 7, 3) := by decide +kernel
set_option maxRecDepth 100000 in
set_option maxHeartbeats 4000000 in
theorem c_X11_shortest_11 (l : Launch) (D : va_G) (cy : Nat → ClassId) (a0 a1 a2 a3 a4 a5 a6 : Nat) (x0 : Int32) (x1 : Int32) (k0 : ¬ x1 < 10) (k1 : 4 ≤ (x1 - 10)) (k2 : x0 < 1) (hst : l.stackTraces = false) : CtX l D cy yX11_shortest cX11_shortest 6 (some .int) 6 82 1 6 [(a0, .inr (11, [.ref a1, .int 0, .int 0, .int (-1), .ref a2, .ref a3, .ref a4, .ref a5, .ref a6, .null]))] [.ref a0, .int x0, .int x1] nIAE := by
  refine CtX.of (by decide +kernel) (Nat.le_of_ble_eq_true rfl) ?_
  intro p e s m args below meth c A ls C hlocks hml htab w hl
  have hl : lv_has ls 6 [(0, .ref a0), (1, .int x0), (2, .int x1)] := hl
  refine lv_iload_n C.1 C.2.1 dX11_shortest_0 rfl (lv_at hl 2 rfl) ?_
  refine lv_bipush (v := 10) C.1 C.2.1 dX11_shortest_1 (by decide) ?_
  refine r_isub C (v := (x1 - 10)) dX11_shortest_3 rfl ?_
  refine lv_istore_n (lv' := [(3, .int (x1 - 10)), (0, .ref a0), (1, .int x0), (2, .int x1)]) C.1 C.2.1 dX11_shortest_4 rfl hl (by decide) rfl (fun ls hl => ?_)
  refine lv_iload_n C.1 C.2.1 dX11_shortest_5 rfl (lv_at hl 3 rfl) ?_
  refine lv_bipush (v := 10) C.1 C.2.1 dX11_shortest_6 (by decide) ?_
  refine b_icmp_lt_f C (tgt := 20) dX11_shortest_8 (by decide) k0 ?_
  refine lv_iload_n C.1 C.2.1 dX11_shortest_11 rfl (lv_at hl 0 rfl) ?_
  refine lv_iconst (v := 4) C.1 C.2.1 dX11_shortest_12 (by decide) ?_
  refine b_icmp_ge_t C (tgt := 20) dX11_shortest_13 (by decide) k1 ?_
  refine lv_iconst (v := 0) C.1 C.2.1 dX11_shortest_20 (by decide) ?_
  refine lv_istore (lv' := [(4, .int 0), (3, .int (x1 - 10)), (0, .ref a0), (1, .int x0), (2, .int x1)]) C.1 C.2.1 dX11_shortest_21 hl (by decide) rfl (fun ls hl => ?_)
  refine lv_iload_n C.1 C.2.1 dX11_shortest_23 rfl (lv_at hl 3 rfl) ?_
  refine lv_iconst (v := 1) C.1 C.2.1 dX11_shortest_24 (by decide) ?_
  refine b_icmp_lt_t C (tgt := 47) dX11_shortest_25 (by decide) k2 ?_
  exact r_throwSW C hst w ft_52_256_56 (hl.1.trans hml.symm) hlocks htab dX11_shortest_47 dX11_shortest_50 dX11_shortest_51 dX11_shortest_54 dX11_shortest_57 ⟨Nat.le_of_ble_eq_true rfl, Nat.le_of_ble_eq_true rfl, Nat.le_of_ble_eq_true rfl, Nat.le_of_ble_eq_true rfl⟩ ⟨Nat.le_of_ble_eq_true rfl, Nat.le_of_ble_eq_true rfl⟩
set_option maxRecDepth 100000 in
set_option maxHeartbeats 4000000 in
theorem c_X11_shortest_12 (l : Launch) (D : va_G) (cy : Nat → ClassId) (a0 a1 a2 a3 a4 a5 a6 : Nat) (x0 : Int32) (x1 : Int32) (k0 : ¬ x1 < 10) (k1 : 4 ≤ (x1 - 10)) (k2 : ¬ x0 < 1) (k3 : 4 < x0) (hst : l.stackTraces = false) : CtX l D cy yX11_shortest cX11_shortest 6 (some .int) 6 82 1 6 [(a0, .inr (11, [.ref a1, .int 0, .int 0, .int (-1), .ref a2, .ref a3, .ref a4, .ref a5, .ref a6, .null]))] [.ref a0, .int x0, .int x1] nIAE := by
  refine CtX.of (by decide +kernel) (Nat.le_of_ble_eq_true rfl) ?_
  intro p e s m args below meth c A ls C hlocks hml htab w hl
  have hl : lv_has ls 6 [(0, .ref a0), (1, .int x0), (2, .int x1)] := hl
  refine lv_iload_n C.1 C.2.1 dX11_shortest_0 rfl (lv_at hl 2 rfl) ?_
  refine lv_bipush (v := 10) C.1 C.2.1 dX11_shortest_1 (by decide) ?_
  refine r_isub C (v := (x1 - 10)) dX11_shortest_3 rfl ?_
  refine lv_istore_n (lv' := [(3, .int (x1 - 10)), (0, .ref a0), (1, .int x0), (2, .int x1)]) C.1 C.2.1 dX11_shortest_4 rfl hl (by decide) rfl (fun ls hl => ?_)
  refine lv_iload_n C.1 C.2.1 dX11_shortest_5 rfl (lv_at hl 3 rfl) ?_
  refine lv_bipush (v := 10) C.1 C.2.1 dX11_shortest_6 (by decide) ?_
  refine b_icmp_lt_f C (tgt := 20) dX11_shortest_8 (by decide) k0 ?_
  refine lv_iload_n C.1 C.2.1 dX11_shortest_11 rfl (lv_at hl 0 rfl) ?_
  refine lv_iconst (v := 4) C.1 C.2.1 dX11_shortest_12 (by decide) ?_
  refine b_icmp_ge_t C (tgt := 20) dX11_shortest_13 (by decide) k1 ?_
  refine lv_iconst (v := 0) C.1 C.2.1 dX11_shortest_20 (by decide) ?_
  refine lv_istore (lv' := [(4, .int 0), (3, .int (x1 - 10)), (0, .ref a0), (1, .int x0), (2, .int x1)]) C.1 C.2.1 dX11_shortest_21 hl (by decide) rfl (fun ls hl => ?_)
  refine lv_iload_n C.1 C.2.1 dX11_shortest_23 rfl (lv_at hl 3 rfl) ?_
  refine lv_iconst (v := 1) C.1 C.2.1 dX11_shortest_24 (by decide) ?_
  refine b_icmp_lt_f C (tgt := 47) dX11_shortest_25 (by decide) k2 ?_
  refine lv_iload_n C.1 C.2.1 dX11_shortest_28 rfl (lv_at hl 3 rfl) ?_
  refine lv_iconst (v := 4) C.1 C.2.1 dX11_shortest_29 (by decide) ?_
  refine b_icmp_gt_t C (tgt := 47) dX11_shortest_30 (by decide) k3 ?_
  exact r_throwSW C hst w ft_52_256_56 (hl.1.trans hml.symm) hlocks htab dX11_shortest_47 dX11_shortest_50 dX11_shortest_51 dX11_shortest_54 dX11_shortest_57 ⟨Nat.le_of_ble_eq_true rfl, Nat.le_of_ble_eq_true rfl, Nat.le_of_ble_eq_true rfl, Nat.le_of_ble_eq_true rfl⟩ ⟨Nat.le_of_ble_eq_true rfl, Nat.le_of_ble_eq_true rfl⟩
set_option maxRecDepth 100000 in
set_option maxHeartbeats 4000000 in
theorem c_X11_shortest_13 (l : Launch) (D : va_G) (cy : Nat → ClassId) (a0 a1 a2 a3 a4 a5 a6 : Nat) (x0 : Int32) (x1 : Int32) (k0 : ¬ x1 < 10) (k1 : 4 ≤ (x1 - 10)) (k2 : ¬ x0 < 1) (k3 : ¬ 4 < x0) (hst : l.stackTraces = false) : CtX l D cy yX11_shortest cX11_shortest 6 (some .int) 6 82 1 6 [(a0, .inr (11, [.ref a1, .int 0, .int 0, .int (-1), .ref a2, .ref a3, .ref a4, .ref a5, .ref a6, .null]))] [.ref a0, .int x0, .int x1] nIAE := by
  refine CtX.of (by decide +kernel) (Nat.le_of_ble_eq_true rfl) ?_
  intro p e s m args below meth c A ls C hlocks hml htab w hl
  have hl : lv_has ls 6 [(0, .ref a0), (1, .int x0), (2, .int x1)] := hl
  refine lv_iload_n C.1 C.2.1 dX11_shortest_0 rfl (lv_at hl 2 rfl) ?_
  refine lv_bipush (v := 10) C.1 C.2.1 dX11_shortest_1 (by decide) ?_
  refine r_isub C (v := (x1 - 10)) dX11_shortest_3 rfl ?_
  refine lv_istore_n (lv' := [(3, .int (x1 - 10)), (0, .ref a0), (1, .int x0), (2, .int x1)]) C.1 C.2.1 dX11_shortest_4 rfl hl (by decide) rfl (fun ls hl => ?_)
  refine lv_iload_n C.1 C.2.1 dX11_shortest_5 rfl (lv_at hl 3 rfl) ?_
  refine lv_bipush (v := 10) C.1 C.2.1 dX11_shortest_6 (by decide) ?_
  refine b_icmp_lt_f C (tgt := 20) dX11_shortest_8 (by decide) k0 ?_
  refine lv_iload_n C.1 C.2.1 dX11_shortest_11 rfl (lv_at hl 0 rfl) ?_
  refine lv_iconst (v := 4) C.1 C.2.1 dX11_shortest_12 (by decide) ?_
  refine b_icmp_ge_t C (tgt := 20) dX11_shortest_13 (by decide) k1 ?_
  refine lv_iconst (v := 0) C.1 C.2.1 dX11_shortest_20 (by decide) ?_
  refine lv_istore (lv' := [(4, .int 0), (3, .int (x1 - 10)), (0, .ref a0), (1, .int x0), (2, .int x1)]) C.1 C.2.1 dX11_shortest_21 hl (by decide) rfl (fun ls hl => ?_)
  refine lv_iload_n C.1 C.2.1 dX11_shortest_23 rfl (lv_at hl 3 rfl) ?_
  refine lv_iconst (v := 1) C.1 C.2.1 dX11_shortest_24 (by decide) ?_
  refine b_icmp_lt_f C (tgt := 47) dX11_shortest_25 (by decide) k2 ?_
  refine lv_iload_n C.1 C.2.1 dX11_shortest_28 rfl (lv_at hl 3 rfl) ?_
  refine lv_iconst (v := 4) C.1 C.2.1 dX11_shortest_29 (by decide) ?_
  refine b_icmp_gt_f C (tgt := 47) dX11_shortest_30 (by decide) k3 ?_
  refine lv_iload_n C.1 C.2.1 dX11_shortest_33 rfl (lv_at hl 4 rfl) ?_
  refine b_if_eq_f C (tgt := 58) dX11_shortest_34 (by decide) (by have h0 := (i_nlt k0); have e0 : (0 : Int32).toInt = 0 := (by decide); have e1 : (10 : Int32).toInt = 10 := (by decide); rw [fa_eq]; omega) ?_
  refine lv_iload_n C.1 C.2.1 dX11_shortest_37 rfl (lv_at hl 4 rfl) ?_
  refine lv_iconst (v := 1) C.1 C.2.1 dX11_shortest_38 (by decide) ?_
  refine b_icmp_eq_f C (tgt := 58) dX11_shortest_39 (by decide) (by have h0 := (i_nlt k0); have e0 : (1 : Int32).toInt = 1 := (by decide); have e1 : (10 : Int32).toInt = 10 := (by decide); rw [fa_eq]; omega) ?_
  refine lv_iload C.1 C.2.1 dX11_shortest_42 (lv_at hl 0 rfl) ?_
  refine b_if_ne_f C (tgt := 58) dX11_shortest_44 (by decide) (by decide) ?_
  exact r_throwSW C hst w ft_52_256_56 (hl.1.trans hml.symm) hlocks htab dX11_shortest_47 dX11_shortest_50 dX11_shortest_51 dX11_shortest_54 dX11_shortest_57 ⟨Nat.le_of_ble_eq_true rfl, Nat.le_of_ble_eq_true rfl, Nat.le_of_ble_eq_true rfl, Nat.le_of_ble_eq_true rfl⟩ ⟨Nat.le_of_ble_eq_true rfl, Nat.le_of_ble_eq_true rfl⟩
theorem dX11_shortest_16 : decode cX11_shortest 16 = .ok (.iconst 1, 1) := by decide +kernel
theorem dX11_shortest_17 : decode cX11_shortest 17 = .ok (.goto 4, 3) := by decide +kernel
set_option maxRecDepth 100000 in
set_option maxHeartbeats 4000000 in
theorem c_X11_shortest_14 (l : Launch) (D : va_G) (cy : Nat → ClassId) (a0 a1 a2 a3 a4 a5 a6 : Nat) (x0 : Int32) (x1 : Int32) (k0 : ¬ x1 < 10) (k1 : ¬ 4 ≤ (x1 - 10)) (k2 : x0 < 1) (hst : l.stackTraces = false) : CtX l D cy yX11_shortest cX11_shortest 6 (some .int) 6 82 1 6 [(a0, .inr (11, [.ref a1, .int 0, .int 0, .int (-1), .ref a2, .ref a3, .ref a4, .ref a5, .ref a6, .null]))] [.ref a0, .int x0, .int x1] nIAE := by
  refine CtX.of (by decide +kernel) (Nat.le_of_ble_eq_true rfl) ?_
  intro p e s m args below meth c A ls C hlocks hml htab w hl
  have hl : lv_has ls 6 [(0, .ref a0), (1, .int x0), (2, .int x1)] := hl
  refine lv_iload_n C.1 C.2.1 dX11_shortest_0 rfl (lv_at hl 2 rfl) ?_
  refine lv_bipush (v := 10) C.1 C.2.1 dX11_shortest_1 (by decide) ?_
  refine r_isub C (v := (x1 - 10)) dX11_shortest_3 rfl ?_
  refine lv_istore_n (lv' := [(3, .int (x1 - 10)), (0, .ref a0), (1, .int x0), (2, .int x1)]) C.1 C.2.1 dX11_shortest_4 rfl hl (by decide) rfl (fun ls hl => ?_)
  refine lv_iload_n C.1 C.2.1 dX11_shortest_5 rfl (lv_at hl 3 rfl) ?_
  refine lv_bipush (v := 10) C.1 C.2.1 dX11_shortest_6 (by decide) ?_
  refine b_icmp_lt_f C (tgt := 20) dX11_shortest_8 (by decide) k0 ?_
  refine lv_iload_n C.1 C.2.1 dX11_shortest_11 rfl (lv_at hl 0 rfl) ?_
  refine lv_iconst (v := 4) C.1 C.2.1 dX11_shortest_12 (by decide) ?_
  refine b_icmp_ge_f C (tgt := 20) dX11_shortest_13 (by decide) k1 ?_
  refine lv_iconst (v := 1) C.1 C.2.1 dX11_shortest_16 (by decide) ?_
  refine lv_goto (tgt := 21) C.1 C.2.1 dX11_shortest_17 (by decide) ?_
  refine lv_istore (lv' := [(4, .int 1), (3, .int (x1 - 10)), (0, .ref a0), (1, .int x0), (2, .int x1)]) C.1 C.2.1 dX11_shortest_21 hl (by decide) rfl (fun ls hl => ?_)
  refine lv_iload_n C.1 C.2.1 dX11_shortest_23 rfl (lv_at hl 3 rfl) ?_
  refine lv_iconst (v := 1) C.1 C.2.1 dX11_shortest_24 (by decide) ?_
  refine b_icmp_lt_t C (tgt := 47) dX11_shortest_25 (by decide) k2 ?_
  exact r_throwSW C hst w ft_52_256_56 (hl.1.trans hml.symm) hlocks htab dX11_shortest_47 dX11_shortest_50 dX11_shortest_51 dX11_shortest_54 dX11_shortest_57 ⟨Nat.le_of_ble_eq_true rfl, Nat.le_of_ble_eq_true rfl, Nat.le_of_ble_eq_true rfl, Nat.le_of_ble_eq_true rfl⟩ ⟨Nat.le_of_ble_eq_true rfl, Nat.le_of_ble_eq_true rfl⟩
set_option maxRecDepth 100000 in
set_option maxHeartbeats 4000000 in
theorem c_X11_shortest_15 (l : Launch) (D : va_G) (cy : Nat → ClassId) (a0 a1 a2 a3 a4 a5 a6 : Nat) (x0 : Int32) (x1 : Int32) (k0 : ¬ x1 < 10) (k1 : ¬ 4 ≤ (x1 - 10)) (k2 : ¬ x0 < 1) (k3 : 4 < x0) (hst : l.stackTraces = false) : CtX l D cy yX11_shortest cX11_shortest 6 (some .int) 6 82 1 6 [(a0, .inr (11, [.ref a1, .int 0, .int 0, .int (-1), .ref a2, .ref a3, .ref a4, .ref a5, .ref a6, .null]))] [.ref a0, .int x0, .int x1] nIAE := by
  refine CtX.of (by decide +kernel) (Nat.le_of_ble_eq_true rfl) ?_
  intro p e s m args below meth c A ls C hlocks hml htab w hl
  have hl : lv_has ls 6 [(0, .ref a0), (1, .int x0), (2, .int x1)] := hl
  refine lv_iload_n C.1 C.2.1 dX11_shortest_0 rfl (lv_at hl 2 rfl) ?_
  refine lv_bipush (v := 10) C.1 C.2.1 dX11_shortest_1 (by decide) ?_
  refine r_isub C (v := (x1 - 10)) dX11_shortest_3 rfl ?_
  refine lv_istore_n (lv' := [(3, .int (x1 - 10)), (0, .ref a0), (1, .int x0), (2, .int x1)]) C.1 C.2.1 dX11_shortest_4 rfl hl (by decide) rfl (fun ls hl => ?_)
  refine lv_iload_n C.1 C.2.1 dX11_shortest_5 rfl (lv_at hl 3 rfl) ?_
  refine lv_bipush (v := 10) C.1 C.2.1 dX11_shortest_6 (by decide) ?_
  refine b_icmp_lt_f C (tgt := 20) dX11_shortest_8 (by decide) k0 ?_
  refine lv_iload_n C.1 C.2.1 dX11_shortest_11 rfl (lv_at hl 0 rfl) ?_
  refine lv_iconst (v := 4) C.1 C.2.1 dX11_shortest_12 (by decide) ?_
  refine b_icmp_ge_f C (tgt := 20) dX11_shortest_13 (by decide) k1 ?_
  refine lv_iconst (v := 1) C.1 C.2.1 dX11_shortest_16 (by decide) ?_
  refine lv_goto (tgt := 21) C.1 C.2.1 dX11_shortest_17 (by decide) ?_
  refine lv_istore (lv' := [(4, .int 1), (3, .int (x1 - 10)), (0, .ref a0), (1, .int x0), (2, .int x1)]) C.1 C.2.1 dX11_shortest_21 hl (by decide) rfl (fun ls hl => ?_)
  refine lv_iload_n C.1 C.2.1 dX11_shortest_23 rfl (lv_at hl 3 rfl) ?_
  refine lv_iconst (v := 1) C.1 C.2.1 dX11_shortest_24 (by decide) ?_
  refine b_icmp_lt_f C (tgt := 47) dX11_shortest_25 (by decide) k2 ?_
  refine lv_iload_n C.1 C.2.1 dX11_shortest_28 rfl (lv_at hl 3 rfl) ?_
  refine lv_iconst (v := 4) C.1 C.2.1 dX11_shortest_29 (by decide) ?_
  refine b_icmp_gt_t C (tgt := 47) dX11_shortest_30 (by decide) k3 ?_
  exact r_throwSW C hst w ft_52_256_56 (hl.1.trans hml.symm) hlocks htab dX11_shortest_47 dX11_shortest_50 dX11_shortest_51 dX11_shortest_54 dX11_shortest_57 ⟨Nat.le_of_ble_eq_true rfl, Nat.le_of_ble_eq_true rfl, Nat.le_of_ble_eq_true rfl, Nat.le_of_ble_eq_true rfl⟩ ⟨Nat.le_of_ble_eq_true rfl, Nat.le_of_ble_eq_true rfl⟩
set_option maxRecDepth 100000 in
set_option maxHeartbeats 4000000 in
theorem c_X11_shortest_16 (l : Launch) (D : va_G) (cy : Nat → ClassId) (a0 a1 a2 a3 a4 a5 a6 a11 a12 a13 a14 a15 a16 a17 : Nat) (x1 : Int32) (k0 : ¬ x1 < 10) (k1 : ¬ 4 ≤ (x1 - 10)) : Ct l D cy yX11_shortest cX11_shortest 6 (some .int) 5 118 36 23817 [(a0, .inr (11, [.ref a1, .int 0, .int 0, .int (-1), .ref a2, .ref a3, .ref a4, .ref a5, .ref a6, .null])), (a6, .inr (9, [.int 0, .int 2, .int 20, .int 120, .int 0, .int 0, .int 0, .int 0, .ref a11, .int 0, .ref a12, .ref a13, .int 0, .ref a14, .ref a15, .ref a16, .ref a17]))] [.ref a0, .int 1, .int x1] (fun u : Nat × Nat × Nat × Nat × Nat × Nat × Nat × Nat × Nat × Nat × Nat × Nat × Nat × Nat × Nat × Nat × Nat × Nat × Nat × Nat × Nat × Nat × Nat × Nat × Nat × Nat × Nat × Nat × Nat × Nat × Nat × Nat × Nat × Nat × Nat × Nat => some (.int (-1))) (fun _ => True) (fun u : Nat × Nat × Nat × Nat × Nat × Nat × Nat × Nat × Nat × Nat × Nat × Nat × Nat × Nat × Nat × Nat × Nat × Nat × Nat × Nat × Nat × Nat × Nat × Nat × Nat × Nat × Nat × Nat × Nat × Nat × Nat × Nat × Nat × Nat × Nat × Nat => [(a0, .inr (11, [.ref a1, .int 0, .int 0, .int (-1), .ref a2, .ref a3, .ref a4, .ref a5, .ref a6, .ref u.1])), (u.2.2.2.2.1, .inl (cy 1, 0, .inl (fun _ => 0))), (u.2.2.2.2.2.2.2.1, .inl (cy 1, 0, .inl (fun _ => 0))), (u.2.2.2.2.2.2.2.2.1, .inl (cy 1, 0, .inl (fun _ => 0))), (u.2.2.2.2.2.2.2.2.2.1, .inl (cy 1, 0, .inl (fun _ => 0))), (u.2.2.2.2.2.2.2.2.2.2.1, .inl (cy 1, 0, .inl (fun _ => 0))), (u.2.2.2.2.2.2.2.2.2.2.2.1, .inl (cy 1, 0, .inl (fun _ => 0))), (u.2.2.2.2.2.2.2.2.2.2.2.2.1, .inl (cy 1, 7201, .inl (fun _ => 0))), (u.2.2.2.2.2.2.2.2.2.2.2.2.2.1, .inl (cy 1, 1830, .inl (fun _ => 0))), (u.2.2.2.2.2.2.2.2.2.2.2.2.2.2.2.2.1, .inl (cy 1, 1830, .inl (fun _ => 0))), (u.2.2.2.2.2.2.2.2.2.2.2.2.2.2.2.2.2.2.1, .inl (cy 1, 1830, .inl (fun _ => 0))), (u.2.2.2.2.2.2.2.2.2.2.2.2.2.2.2.2.2.1, .inr (2, [.ref u.2.1, .ref u.2.2.2.2.2.2.2.2.2.2.2.2.2.2.2.2.2.2.1, .ref u.2.2.2.2.2.2.2.2.2.2.2.2.2.2.2.2.2.2.2.1, .ref a6, .int 0])), (u.2.2.2.2.2.2.2.2.2.2.2.2.2.2.2.2.2.2.2.1, .inl (cy 1, 21, .inl (fun _ => 0))), (u.2.2.2.2.2.2.2.2.2.2.2.2.2.2.2.2.2.2.2.2.2.1, .inr (2, [.ref u.2.1, .ref u.2.2.2.2.2.2.2.2.2.2.2.2.2.2.1, .ref u.2.2.2.2.2.2.2.2.2.2.2.2.2.2.2.2.2.2.2.2.2.2.1, .ref a6, .int 0])), (u.2.2.2.2.2.2.2.2.2.2.2.2.2.2.2.2.2.2.2.2.2.2.1, .inl (cy 1, 21, .inl (fun _ => 0))), (u.2.2.2.2.2.2.2.2.2.2.2.2.2.2.2.2.2.2.2.2.2.2.2.2.1, .inl (cy 1, 6, .inl (fun _ => 0))), (u.2.2.2.2.2.2.2.2.2.2.2.2.2.2.2.2.2.2.2.2.2.2.2.2.2.1, .inl (cy 1, 6, .inl (fun _ => 0))), (u.2.2.2.2.2.2.2.2.2.2.2.2.2.2.2.2.2.2.2.2.2.2.2.2.2.2.2.1, .inl (cy 1, 1830, .inl (fun _ => 0))), (u.2.2.2.2.2.2.2.2.2.2.2.2.2.2.2.2.2.2.2.2.2.2.2.2.2.2.2.2.2.2.1, .inl (cy 1, 5, .inl (fun _ => 0))), (u.2.2.2.2.2.2.2.2.2.2.2.2.2.2.2.2.2.2.2.2.2.2.2.2.2.2.2.2.2.2.2.2.1, .inl (cy 1, 4, .inl (fun _ => 0))), (u.1, .inr (6, [.ref u.2.1, .ref u.2.2.2.2.2.2.2.2.2.2.2.2.2.2.2.1, .int 190, .ref u.2.2.2.2.2.2.2.2.2.2.2.2.2.2.2.2.1, .ref u.2.2.2.2.2.2.2.2.2.2.2.2.2.2.2.2.2.2.2.2.1, .ref u.2.2.2.2.2.2.2.2.2.2.2.2.2.2.2.2.2.2.2.2.2.2.2.2.2.2.1, .ref u.2.2.2.2.2.2.2.2.2.2.2.2.2.2.2.2.2.2.2.2.2.2.2.2.2.2.2.2.1, .ref u.2.2.2.2.2.2.2.2.2.2.2.2.2.2.2.2.2.2.2.2.2.2.2.2.2.2.2.2.2.1, .ref u.2.2.2.2.2.2.2.2.2.2.2.2.2.2.2.2.2.2.2.2.2.2.2.2.2.2.2.2.2.2.2.1, .ref u.2.2.2.2.2.2.2.2.2.2.2.2.2.2.2.2.2.1, .ref a6, .int 1, .int 0])), (u.2.2.2.2.2.2.2.2.2.2.2.2.2.2.2.1, .inl (cy 1, 1830, .inl (fillF (fun _ => 0) 2 20 (PP 20 2 (20 + 1 - 2))))), (u.2.2.2.1, .inl (cy 1, 0, .inl (fun _ => 0))), (u.2.2.2.2.2.2.2.2.2.2.2.2.2.2.2.2.2.2.2.2.2.2.2.2.2.2.2.2.2.2.2.2.2.1, .inl (cy 1, 1830, .inl (learnF 0 1830))), (u.2.2.2.2.2.1, .inl (cy 1, 0, .inl (fun _ => 0))), (u.2.2.2.2.2.2.2.2.2.2.2.2.2.2.2.2.2.2.2.2.2.2.2.2.2.2.2.2.2.2.2.2.2.2.1, .inl (cy 1, 1830, .inl (learnF 2 1830))), (u.2.1, .inr (4, [.ref u.2.2.1, .ref u.2.2.2.2.2.2.2.2.2.2.2.2.1, .int 0, .ref u.2.2.2.2.2.2.2.2.2.2.2.2.2.1])), (u.2.2.1, .inl (cy 5, 9, .inr (.inr (.inr (.inr (va_up (va_up (va_up (va_up (va_up (va_up (va_up (va_up (va_up (va_up (va_up (va_up (fun _ => none) 0 (some u.2.2.2.1)) 1 (some u.2.2.2.2.1)) 2 (some u.2.2.2.2.2.1)) 3 (some u.2.2.2.2.2.2.1)) 4 (some u.2.2.2.2.2.2.2.1)) 5 (some u.2.2.2.2.2.2.2.2.1)) 6 (some u.2.2.2.2.2.2.2.2.2.1)) 7 (some u.2.2.2.2.2.2.2.2.2.2.1)) 8 (some u.2.2.2.2.2.2.2.2.2.2.2.1)) 0 (some u.2.2.2.2.2.2.2.2.2.2.2.2.2.2.2.2.2.2.2.2.2.2.2.2.2.2.2.2.2.2.2.2.2.1)) 2 (some u.2.2.2.2.2.2.2.2.2.2.2.2.2.2.2.2.2.2.2.2.2.2.2.2.2.2.2.2.2.2.2.2.2.2.1)) 3 (some u.2.2.2.2.2.2.2.2.2.2.2.2.2.2.2.2.2.2.2.2.2.2.2.2.2.2.2.2.2.2.2.2.2.2.2))))))), (u.2.2.2.2.2.2.1, .inl (cy 1, 0, .inl (fun _ => 0))), (u.2.2.2.2.2.2.2.2.2.2.2.2.2.2.2.2.2.2.2.2.2.2.2.2.2.2.2.2.2.2.2.2.2.2.2, .inl (cy 1, 1830, .inl (learnF 3 1830))), (u.2.2.2.2.2.2.2.2.2.2.2.2.2.2.2.2.2.2.2.2.1, .inr (1, [.ref u.2.2.2.2.2.2.2.2.2.2.2.2.2.2.2.2.2.2.2.2.2.1, .ref a6, .int (-2), .int (-2), .ref u.2.2.2.2.2.2.2.2.2.2.2.2.2.2.2.2.2.2.2.2.2.2.2.1, .int 0, .int 0, .int 0, .int 0, .int (-1), .int 0, .ref u.2.2.2.2.2.2.2.2.2.2.2.2.2.2.2.2.2.2.2.2.2.2.2.2.1, .ref u.2.2.2.2.2.2.2.2.2.2.2.2.2.2.2.2.2.2.2.2.2.2.2.2.2.1])), (u.2.2.2.2.2.2.2.2.2.2.2.2.2.2.2.2.2.2.2.2.2.2.2.1, .inl (cy 1, 6, .inl (upd (upd (upd (upd (upd (upd (fun _ => 0) 0 (-2)) 1 (-2)) 2 (-2)) 3 (-2)) 4 (-2)) 5 (-2)))), (u.2.2.2.2.2.2.2.2.2.2.2.2.2.2.2.2.2.2.2.2.2.2.2.2.2.2.1, .inr (3, [.ref u.2.1, .ref u.2.2.2.2.2.2.2.2.2.2.2.2.2.2.1, .ref a6, .int (-1), .int (-1), .ref u.2.2.2.2.2.2.2.2.2.2.2.2.2.2.2.2.2.2.2.2.2.2.2.2.2.2.2.1, .int 0, .int 0, .int 0])), (u.2.2.2.2.2.2.2.2.2.2.2.2.2.2.2.2.2.2.2.2.2.2.2.2.2.2.2.2.2.1, .inr (8, [.ref u.2.2.2.2.2.2.2.2.2.2.2.2.2.2.2.2.2.2.2.2.2.2.2.2.2.2.2.2.1, .int (-1), .int 0, .int 0, .int 0, .int 0, .int 0, .ref u.2.2.2.2.2.2.2.2.2.2.2.2.2.2.2.2.2.2.2.2.2.2.2.2.2.2.2.2.2.2.1])), (u.2.2.2.2.2.2.2.2.2.2.2.2.2.2.1, .inl (cy 1, 1830, .inl (fillF (fun _ => 0) 2 20 (PP 20 2 (20 + 1 - 2))))), (u.2.2.2.2.2.2.2.2.2.2.2.2.2.2.2.2.2.2.2.2.2.2.2.2.2.2.2.2.2.2.2.1, .inr (7, [.ref u.2.2.2.2.2.2.2.2.2.2.2.2.2.2.2.2.2.2.2.2.2.2.2.2.2.2.2.2.1, .int 2, .int 1, .int (-1), .int (-1), .ref u.2.2.2.2.2.2.2.2.2.2.2.2.2.2.2.2.2.2.2.2.2.2.2.2.2.2.2.2.2.2.2.2.1])), (u.2.2.2.2.2.2.2.2.2.2.2.2.2.2.2.2.2.2.2.2.2.2.2.2.2.2.2.2.1, .inr (0, [.ref u.2.1, .ref u.2.2.2.2.2.2.2.2.2.2.2.2.2.2.1, .ref a6, .int 0, .int 190])), (a6, .inr (9, [.int 0, .int 2, .int 20, .int 120, .int 0, .int 0, .int 0, .int 0, .ref a11, .int 0, .ref a12, .ref a13, .int 0, .ref a14, .ref a15, .ref a16, .ref a17]))]) := by
  refine Ct.of (by decide +kernel) (Nat.le_of_ble_eq_true rfl) ?_
  intro p e s m args below meth c A ls C hr hlocks hml hnm w hl
  have hl : lv_has ls 6 [(0, .ref a0), (1, .int 1), (2, .int x1)] := hl
  refine lv_iload_n C.1 C.2.1 dX11_shortest_0 rfl (lv_at hl 2 rfl) ?_
  refine lv_bipush (v := 10) C.1 C.2.1 dX11_shortest_1 (by decide) ?_
  refine r_isub C (v := (x1 - 10)) dX11_shortest_3 rfl ?_
  refine lv_istore_n (lv' := [(3, .int (x1 - 10)), (0, .ref a0), (1, .int 1), (2, .int x1)]) C.1 C.2.1 dX11_shortest_4 rfl hl (by decide) rfl (fun ls hl => ?_)
  refine lv_iload_n C.1 C.2.1 dX11_shortest_5 rfl (lv_at hl 3 rfl) ?_
  refine lv_bipush (v := 10) C.1 C.2.1 dX11_shortest_6 (by decide) ?_
  refine b_icmp_lt_f C (tgt := 20) dX11_shortest_8 (by decide) k0 ?_
  refine lv_iload_n C.1 C.2.1 dX11_shortest_11 rfl (lv_at hl 0 rfl) ?_
  refine lv_iconst (v := 4) C.1 C.2.1 dX11_shortest_12 (by decide) ?_
  refine b_icmp_ge_f C (tgt := 20) dX11_shortest_13 (by decide) k1 ?_
  refine lv_iconst (v := 1) C.1 C.2.1 dX11_shortest_16 (by decide) ?_
  refine lv_goto (tgt := 21) C.1 C.2.1 dX11_shortest_17 (by decide) ?_
  refine lv_istore (lv' := [(4, .int 1), (3, .int (x1 - 10)), (0, .ref a0), (1, .int 1), (2, .int x1)]) C.1 C.2.1 dX11_shortest_21 hl (by decide) rfl (fun ls hl => ?_)
  refine lv_iload_n C.1 C.2.1 dX11_shortest_23 rfl (lv_at hl 3 rfl) ?_
  refine lv_iconst (v := 1) C.1 C.2.1 dX11_shortest_24 (by decide) ?_
  refine b_icmp_lt_f C (tgt := 47) dX11_shortest_25 (by decide) (by decide) ?_
  refine lv_iload_n C.1 C.2.1 dX11_shortest_28 rfl (lv_at hl 3 rfl) ?_
  refine lv_iconst (v := 4) C.1 C.2.1 dX11_shortest_29 (by decide) ?_
  refine b_icmp_gt_f C (tgt := 47) dX11_shortest_30 (by decide) (by decide) ?_
  refine lv_iload_n C.1 C.2.1 dX11_shortest_33 rfl (lv_at hl 4 rfl) ?_
  refine b_if_eq_f C (tgt := 58) dX11_shortest_34 (by decide) (by have h0 := (i_nlt k0); have e0 : (0 : Int32).toInt = 0 := (by decide); have e1 : (10 : Int32).toInt = 10 := (by decide); rw [fa_eq]; omega) ?_
  refine lv_iload_n C.1 C.2.1 dX11_shortest_37 rfl (lv_at hl 4 rfl) ?_
  refine lv_iconst (v := 1) C.1 C.2.1 dX11_shortest_38 (by decide) ?_
  refine b_icmp_eq_f C (tgt := 58) dX11_shortest_39 (by decide) (by have h0 := (i_nlt k0); have e0 : (1 : Int32).toInt = 1 := (by decide); have e1 : (10 : Int32).toInt = 10 := (by decide); rw [fa_eq]; omega) ?_
  refine lv_iload C.1 C.2.1 dX11_shortest_42 (lv_at hl 0 rfl) ?_
  refine b_if_ne_t C (tgt := 58) dX11_shortest_44 (by decide) (by decide) ?_
  refine lv_aload_n C.1 C.2.1 dX11_shortest_58 rfl (lv_at hl 2 rfl) ?_
  refine r_callV C w fv_RX11_100 (c_X11_view_0 l D cy a0 a1 a2 a3 a4 a5 a6 a11 a12 a13 a14 a15 a16 a17) (hl.1.trans hml.symm) [0, 1] [] (wr := []) ⟨rfl, rfl, rfl, rfl, by decide⟩ 0 rfl rfl rfl rfl rfl ⟨Nat.le_of_ble_eq_true rfl, Nat.le_of_ble_eq_true rfl, Nat.le_of_ble_eq_true rfl⟩ 36 23817 ⟨rfl, rfl, Nat.le_of_ble_eq_true rfl, Nat.le_of_ble_eq_true rfl⟩ dX11_shortest_59 (fun u H locs hp w => ?_)
  obtain ⟨n1, n2, n3, n4, n5, n6, n7, n8, n9, n10, n11, n12, n13, n14, n15, n16, n17, n18, n19, n20, n21, n22, n23, n24, n25, n26, n27, n28, n29, n30, n31, n32, n33, n34, n35, n36⟩ := u
  have w : Wd D A s.heap [(a0, .inr (11, [.ref a1, .int 0, .int 0, .int (-1), .ref a2, .ref a3, .ref a4, .ref a5, .ref a6, .ref n1])), (n5, .inl (cy 1, 0, .inl (fun _ => 0))), (n8, .inl (cy 1, 0, .inl (fun _ => 0))), (n9, .inl (cy 1, 0, .inl (fun _ => 0))), (n10, .inl (cy 1, 0, .inl (fun _ => 0))), (n11, .inl (cy 1, 0, .inl (fun _ => 0))), (n12, .inl (cy 1, 0, .inl (fun _ => 0))), (n13, .inl (cy 1, 7201, .inl (fun _ => 0))), (n14, .inl (cy 1, 1830, .inl (fun _ => 0))), (n15, .inl (cy 1, 1830, .inl (fun _ => 0))), (n17, .inl (cy 1, 1830, .inl (fun _ => 0))), (n19, .inl (cy 1, 1830, .inl (fun _ => 0))), (n18, .inr (2, [.ref n2, .ref n19, .ref n20, .ref a6, .int 0])), (n20, .inl (cy 1, 21, .inl (fun _ => 0))), (n22, .inr (2, [.ref n2, .ref n15, .ref n23, .ref a6, .int 0])), (n23, .inl (cy 1, 21, .inl (fun _ => 0))), (n25, .inl (cy 1, 6, .inl (fun _ => 0))), (n26, .inl (cy 1, 6, .inl (fun _ => 0))), (n28, .inl (cy 1, 1830, .inl (fun _ => 0))), (n31, .inl (cy 1, 5, .inl (fun _ => 0))), (n33, .inl (cy 1, 4, .inl (fun _ => 0))), (n1, .inr (6, [.ref n2, .ref n16, .int 190, .ref n17, .ref n21, .ref n27, .ref n29, .ref n30, .ref n32, .ref n18, .ref a6, .int 1, .int 0])), (n16, .inl (cy 1, 1830, .inl (fillF (fun _ => 0) 2 20 (PP 20 2 (20 + 1 - 2))))), (a6, .inr (9, [.int 0, .int 2, .int 20, .int 120, .int 0, .int 0, .int 0, .int 0, .ref a11, .int 0, .ref a12, .ref a13, .int 0, .ref a14, .ref a15, .ref a16, .ref a17])), (n4, .inl (cy 1, 0, .inl (fun _ => 0))), (n34, .inl (cy 1, 1830, .inl (learnF 0 1830))), (n6, .inl (cy 1, 0, .inl (fun _ => 0))), (n35, .inl (cy 1, 1830, .inl (learnF 2 1830))), (n2, .inr (4, [.ref n3, .ref n13, .int 0, .ref n14])), (n3, .inl (cy 5, 9, .inr (.inr (.inr (.inr (va_up (va_up (va_up (va_up (va_up (va_up (va_up (va_up (va_up (va_up (va_up (va_up (fun _ => none) 0 (some n4)) 1 (some n5)) 2 (some n6)) 3 (some n7)) 4 (some n8)) 5 (some n9)) 6 (some n10)) 7 (some n11)) 8 (some n12)) 0 (some n34)) 2 (some n35)) 3 (some n36))))))), (n7, .inl (cy 1, 0, .inl (fun _ => 0))), (n36, .inl (cy 1, 1830, .inl (learnF 3 1830))), (n21, .inr (1, [.ref n22, .ref a6, .int (-2), .int (-2), .ref n24, .int 0, .int 0, .int 0, .int 0, .int (-1), .int 0, .ref n25, .ref n26])), (n24, .inl (cy 1, 6, .inl (upd (upd (upd (upd (upd (upd (fun _ => 0) 0 (-2)) 1 (-2)) 2 (-2)) 3 (-2)) 4 (-2)) 5 (-2)))), (n27, .inr (3, [.ref n2, .ref n15, .ref a6, .int (-1), .int (-1), .ref n28, .int 0, .int 0, .int 0])), (n29, .inr (0, [.ref n2, .ref n15, .ref a6, .int 0, .int 0])), (n30, .inr (8, [.ref n29, .int (-1), .int 0, .int 0, .int 0, .int 0, .int 0, .ref n31])), (n32, .inr (7, [.ref n29, .int 0, .int (-1), .int (-1), .int (-1), .ref n33]))] _ _ := w
  refine r_top (g2 := F0 m 62 ls [.ref n1]) rfl ?_
  refine r_get C w 21 rfl rfl 8 (by decide) fl_RX11_258 (v := .ref n32) rfl dX11_shortest_62 ?_
  refine lv_astore (lv' := [(5, .ref n32), (4, .int 1), (3, .int (x1 - 10)), (0, .ref a0), (1, .int 1), (2, .int x1)]) C.1 C.2.1 dX11_shortest_65 hl (by decide) rfl (fun ls hl => ?_)
  refine lv_aload C.1 C.2.1 dX11_shortest_67 (lv_at hl 0 rfl) ?_
  refine lv_iload_n C.1 C.2.1 dX11_shortest_69 rfl (lv_at hl 4 rfl) ?_
  refine r_callV C w fv_RX11_262 (c_X7_seek_7 l D cy n32 n29 n33 n2 n15 a6 a11 a12 a13 a14 a15 a16 a17) (hl.1.trans hml.symm) [37, 35, 9, 23] [0, 1, 2, 3, 4, 5, 6, 7, 8, 10, 11, 12, 13, 14, 15, 16, 17, 18, 19, 20, 21, 22, 24, 25, 26, 27, 28, 29, 30, 31, 32, 33, 34, 36] (wr := [(a0, .inr (11, [.ref a1, .int 0, .int 0, .int (-1), .ref a2, .ref a3, .ref a4, .ref a5, .ref a6, .ref n1])), (n5, .inl (cy 1, 0, .inl (fun _ => 0))), (n8, .inl (cy 1, 0, .inl (fun _ => 0))), (n9, .inl (cy 1, 0, .inl (fun _ => 0))), (n10, .inl (cy 1, 0, .inl (fun _ => 0))), (n11, .inl (cy 1, 0, .inl (fun _ => 0))), (n12, .inl (cy 1, 0, .inl (fun _ => 0))), (n13, .inl (cy 1, 7201, .inl (fun _ => 0))), (n14, .inl (cy 1, 1830, .inl (fun _ => 0))), (n17, .inl (cy 1, 1830, .inl (fun _ => 0))), (n19, .inl (cy 1, 1830, .inl (fun _ => 0))), (n18, .inr (2, [.ref n2, .ref n19, .ref n20, .ref a6, .int 0])), (n20, .inl (cy 1, 21, .inl (fun _ => 0))), (n22, .inr (2, [.ref n2, .ref n15, .ref n23, .ref a6, .int 0])), (n23, .inl (cy 1, 21, .inl (fun _ => 0))), (n25, .inl (cy 1, 6, .inl (fun _ => 0))), (n26, .inl (cy 1, 6, .inl (fun _ => 0))), (n28, .inl (cy 1, 1830, .inl (fun _ => 0))), (n31, .inl (cy 1, 5, .inl (fun _ => 0))), (n33, .inl (cy 1, 4, .inl (fun _ => 0))), (n1, .inr (6, [.ref n2, .ref n16, .int 190, .ref n17, .ref n21, .ref n27, .ref n29, .ref n30, .ref n32, .ref n18, .ref a6, .int 1, .int 0])), (n16, .inl (cy 1, 1830, .inl (fillF (fun _ => 0) 2 20 (PP 20 2 (20 + 1 - 2))))), (n4, .inl (cy 1, 0, .inl (fun _ => 0))), (n34, .inl (cy 1, 1830, .inl (learnF 0 1830))), (n6, .inl (cy 1, 0, .inl (fun _ => 0))), (n35, .inl (cy 1, 1830, .inl (learnF 2 1830))), (n2, .inr (4, [.ref n3, .ref n13, .int 0, .ref n14])), (n3, .inl (cy 5, 9, .inr (.inr (.inr (.inr (va_up (va_up (va_up (va_up (va_up (va_up (va_up (va_up (va_up (va_up (va_up (va_up (fun _ => none) 0 (some n4)) 1 (some n5)) 2 (some n6)) 3 (some n7)) 4 (some n8)) 5 (some n9)) 6 (some n10)) 7 (some n11)) 8 (some n12)) 0 (some n34)) 2 (some n35)) 3 (some n36))))))), (n7, .inl (cy 1, 0, .inl (fun _ => 0))), (n36, .inl (cy 1, 1830, .inl (learnF 3 1830))), (n21, .inr (1, [.ref n22, .ref a6, .int (-2), .int (-2), .ref n24, .int 0, .int 0, .int 0, .int 0, .int (-1), .int 0, .ref n25, .ref n26])), (n24, .inl (cy 1, 6, .inl (upd (upd (upd (upd (upd (upd (fun _ => 0) 0 (-2)) 1 (-2)) 2 (-2)) 3 (-2)) 4 (-2)) 5 (-2)))), (n27, .inr (3, [.ref n2, .ref n15, .ref a6, .int (-1), .int (-1), .ref n28, .int 0, .int 0, .int 0])), (n30, .inr (8, [.ref n29, .int (-1), .int 0, .int 0, .int 0, .int 0, .int 0, .ref n31]))]) ⟨rfl, rfl, rfl, rfl, by decide⟩ 0 rfl rfl rfl rfl rfl ⟨Nat.le_of_ble_eq_true rfl, Nat.le_of_ble_eq_true rfl, Nat.le_of_ble_eq_true rfl⟩ 36 23817 ⟨rfl, rfl, Nat.le_of_ble_eq_true rfl, Nat.le_of_ble_eq_true rfl⟩ dX11_shortest_70 (fun u H locs hp w => ?_)
  have w : Wd D A s.heap [(a0, .inr (11, [.ref a1, .int 0, .int 0, .int (-1), .ref a2, .ref a3, .ref a4, .ref a5, .ref a6, .ref n1])), (n5, .inl (cy 1, 0, .inl (fun _ => 0))), (n8, .inl (cy 1, 0, .inl (fun _ => 0))), (n9, .inl (cy 1, 0, .inl (fun _ => 0))), (n10, .inl (cy 1, 0, .inl (fun _ => 0))), (n11, .inl (cy 1, 0, .inl (fun _ => 0))), (n12, .inl (cy 1, 0, .inl (fun _ => 0))), (n13, .inl (cy 1, 7201, .inl (fun _ => 0))), (n14, .inl (cy 1, 1830, .inl (fun _ => 0))), (n17, .inl (cy 1, 1830, .inl (fun _ => 0))), (n19, .inl (cy 1, 1830, .inl (fun _ => 0))), (n18, .inr (2, [.ref n2, .ref n19, .ref n20, .ref a6, .int 0])), (n20, .inl (cy 1, 21, .inl (fun _ => 0))), (n22, .inr (2, [.ref n2, .ref n15, .ref n23, .ref a6, .int 0])), (n23, .inl (cy 1, 21, .inl (fun _ => 0))), (n25, .inl (cy 1, 6, .inl (fun _ => 0))), (n26, .inl (cy 1, 6, .inl (fun _ => 0))), (n28, .inl (cy 1, 1830, .inl (fun _ => 0))), (n31, .inl (cy 1, 5, .inl (fun _ => 0))), (n33, .inl (cy 1, 4, .inl (fun _ => 0))), (n1, .inr (6, [.ref n2, .ref n16, .int 190, .ref n17, .ref n21, .ref n27, .ref n29, .ref n30, .ref n32, .ref n18, .ref a6, .int 1, .int 0])), (n16, .inl (cy 1, 1830, .inl (fillF (fun _ => 0) 2 20 (PP 20 2 (20 + 1 - 2))))), (n4, .inl (cy 1, 0, .inl (fun _ => 0))), (n34, .inl (cy 1, 1830, .inl (learnF 0 1830))), (n6, .inl (cy 1, 0, .inl (fun _ => 0))), (n35, .inl (cy 1, 1830, .inl (learnF 2 1830))), (n2, .inr (4, [.ref n3, .ref n13, .int 0, .ref n14])), (n3, .inl (cy 5, 9, .inr (.inr (.inr (.inr (va_up (va_up (va_up (va_up (va_up (va_up (va_up (va_up (va_up (va_up (va_up (va_up (fun _ => none) 0 (some n4)) 1 (some n5)) 2 (some n6)) 3 (some n7)) 4 (some n8)) 5 (some n9)) 6 (some n10)) 7 (some n11)) 8 (some n12)) 0 (some n34)) 2 (some n35)) 3 (some n36))))))), (n7, .inl (cy 1, 0, .inl (fun _ => 0))), (n36, .inl (cy 1, 1830, .inl (learnF 3 1830))), (n21, .inr (1, [.ref n22, .ref a6, .int (-2), .int (-2), .ref n24, .int 0, .int 0, .int 0, .int 0, .int (-1), .int 0, .ref n25, .ref n26])), (n24, .inl (cy 1, 6, .inl (upd (upd (upd (upd (upd (upd (fun _ => 0) 0 (-2)) 1 (-2)) 2 (-2)) 3 (-2)) 4 (-2)) 5 (-2)))), (n27, .inr (3, [.ref n2, .ref n15, .ref a6, .int (-1), .int (-1), .ref n28, .int 0, .int 0, .int 0])), (n30, .inr (8, [.ref n29, .int (-1), .int 0, .int 0, .int 0, .int 0, .int 0, .ref n31])), (n15, .inl (cy 1, 1830, .inl (fillF (fun _ => 0) 2 20 (PP 20 2 (20 + 1 - 2))))), (n32, .inr (7, [.ref n29, .int 2, .int 1, .int (-1), .int (-1), .ref n33])), (n29, .inr (0, [.ref n2, .ref n15, .ref a6, .int 0, .int 190])), (a6, .inr (9, [.int 0, .int 2, .int 20, .int 120, .int 0, .int 0, .int 0, .int 0, .ref a11, .int 0, .ref a12, .ref a13, .int 0, .ref a14, .ref a15, .ref a16, .ref a17]))] _ _ := w
  refine r_top (g2 := F0 m 73 ls []) rfl ?_
  refine lv_aload C.1 C.2.1 dX11_shortest_73 (lv_at hl 0 rfl) ?_
  refine r_get C w 35 rfl rfl 3 (by decide) fl_RX11_264 (v := .int (-1)) rfl dX11_shortest_75 ?_
  refine lv_iconst (v := (-1)) C.1 C.2.1 dX11_shortest_78 (by decide) ?_
  refine b_icmp_eq_t C (tgt := 91) dX11_shortest_79 (by decide) (by decide) ?_
  refine lv_iconst (v := (-1)) C.1 C.2.1 dX11_shortest_91 (by decide) ?_
  exact r_iret C w hlocks (n1, n2, n3, n4, n5, n6, n7, n8, n9, n10, n11, n12, n13, n14, n15, n16, n17, n18, n19, n20, n21, n22, n23, n24, n25, n26, n27, n28, n29, n30, n31, n32, n33, n34, n35, n36) hr rfl rfl trivial [0, 1, 2, 3, 4, 5, 6, 7, 8, 9, 10, 11, 12, 13, 14, 15, 16, 17, 18, 19, 20, 21, 22, 23, 24, 25, 26, 27, 28, 29, 30, 31, 32, 33, 34, 35, 36, 37] rfl rfl ⟨Nat.le_of_ble_eq_true rfl, Nat.le_of_ble_eq_true rfl⟩ dX11_shortest_92
set_option maxRecDepth 100000 in
set_option maxHeartbeats 4000000 in
theorem c_X11_shortest_17 (l : Launch) (D : va_G) (cy : Nat → ClassId) (a0 a1 a2 a3 a4 a5 a6 a11 a12 a13 a14 a15 a16 a17 : Nat) (x1 : Int32) (k0 : ¬ x1 < 10) (k1 : ¬ 4 ≤ (x1 - 10)) : Ct l D cy yX11_shortest cX11_shortest 6 (some .int) 5 118 36 23817 [(a0, .inr (11, [.ref a1, .int 0, .int 0, .int (-1), .ref a2, .ref a3, .ref a4, .ref a5, .ref a6, .null])), (a6, .inr (9, [.int 0, .int 2, .int 20, .int 120, .int 0, .int 0, .int 0, .int 0, .ref a11, .int 0, .ref a12, .ref a13, .int 0, .ref a14, .ref a15, .ref a16, .ref a17]))] [.ref a0, .int 4, .int x1] (fun u : Nat × Nat × Nat × Nat × Nat × Nat × Nat × Nat × Nat × Nat × Nat × Nat × Nat × Nat × Nat × Nat × Nat × Nat × Nat × Nat × Nat × Nat × Nat × Nat × Nat × Nat × Nat × Nat × Nat × Nat × Nat × Nat × Nat × Nat × Nat × Nat => some (.int (-1))) (fun _ => True) (fun u : Nat × Nat × Nat × Nat × Nat × Nat × Nat × Nat × Nat × Nat × Nat × Nat × Nat × Nat × Nat × Nat × Nat × Nat × Nat × Nat × Nat × Nat × Nat × Nat × Nat × Nat × Nat × Nat × Nat × Nat × Nat × Nat × Nat × Nat × Nat × Nat => [(a0, .inr (11, [.ref a1, .int 0, .int 0, .int (-1), .ref a2, .ref a3, .ref a4, .ref a5, .ref a6, .ref u.1])), (u.2.2.2.2.1, .inl (cy 1, 0, .inl (fun _ => 0))), (u.2.2.2.2.2.2.2.1, .inl (cy 1, 0, .inl (fun _ => 0))), (u.2.2.2.2.2.2.2.2.1, .inl (cy 1, 0, .inl (fun _ => 0))), (u.2.2.2.2.2.2.2.2.2.1, .inl (cy 1, 0, .inl (fun _ => 0))), (u.2.2.2.2.2.2.2.2.2.2.1, .inl (cy 1, 0, .inl (fun _ => 0))), (u.2.2.2.2.2.2.2.2.2.2.2.1, .inl (cy 1, 0, .inl (fun _ => 0))), (u.2.2.2.2.2.2.2.2.2.2.2.2.1, .inl (cy 1, 7201, .inl (fun _ => 0))), (u.2.2.2.2.2.2.2.2.2.2.2.2.2.1, .inl (cy 1, 1830, .inl (fun _ => 0))), (u.2.2.2.2.2.2.2.2.2.2.2.2.2.2.2.2.1, .inl (cy 1, 1830, .inl (fun _ => 0))), (u.2.2.2.2.2.2.2.2.2.2.2.2.2.2.2.2.2.2.1, .inl (cy 1, 1830, .inl (fun _ => 0))), (u.2.2.2.2.2.2.2.2.2.2.2.2.2.2.2.2.2.1, .inr (2, [.ref u.2.1, .ref u.2.2.2.2.2.2.2.2.2.2.2.2.2.2.2.2.2.2.1, .ref u.2.2.2.2.2.2.2.2.2.2.2.2.2.2.2.2.2.2.2.1, .ref a6, .int 0])), (u.2.2.2.2.2.2.2.2.2.2.2.2.2.2.2.2.2.2.2.1, .inl (cy 1, 21, .inl (fun _ => 0))), (u.2.2.2.2.2.2.2.2.2.2.2.2.2.2.2.2.2.2.2.2.2.1, .inr (2, [.ref u.2.1, .ref u.2.2.2.2.2.2.2.2.2.2.2.2.2.2.1, .ref u.2.2.2.2.2.2.2.2.2.2.2.2.2.2.2.2.2.2.2.2.2.2.1, .ref a6, .int 0])), (u.2.2.2.2.2.2.2.2.2.2.2.2.2.2.2.2.2.2.2.2.2.2.1, .inl (cy 1, 21, .inl (fun _ => 0))), (u.2.2.2.2.2.2.2.2.2.2.2.2.2.2.2.2.2.2.2.2.2.2.2.2.1, .inl (cy 1, 6, .inl (fun _ => 0))), (u.2.2.2.2.2.2.2.2.2.2.2.2.2.2.2.2.2.2.2.2.2.2.2.2.2.1, .inl (cy 1, 6, .inl (fun _ => 0))), (u.2.2.2.2.2.2.2.2.2.2.2.2.2.2.2.2.2.2.2.2.2.2.2.2.2.2.2.1, .inl (cy 1, 1830, .inl (fun _ => 0))), (u.2.2.2.2.2.2.2.2.2.2.2.2.2.2.2.2.2.2.2.2.2.2.2.2.2.2.2.2.2.2.1, .inl (cy 1, 5, .inl (fun _ => 0))), (u.2.2.2.2.2.2.2.2.2.2.2.2.2.2.2.2.2.2.2.2.2.2.2.2.2.2.2.2.2.2.2.2.1, .inl (cy 1, 4, .inl (fun _ => 0))), (u.1, .inr (6, [.ref u.2.1, .ref u.2.2.2.2.2.2.2.2.2.2.2.2.2.2.2.1, .int 190, .ref u.2.2.2.2.2.2.2.2.2.2.2.2.2.2.2.2.1, .ref u.2.2.2.2.2.2.2.2.2.2.2.2.2.2.2.2.2.2.2.2.1, .ref u.2.2.2.2.2.2.2.2.2.2.2.2.2.2.2.2.2.2.2.2.2.2.2.2.2.2.1, .ref u.2.2.2.2.2.2.2.2.2.2.2.2.2.2.2.2.2.2.2.2.2.2.2.2.2.2.2.2.1, .ref u.2.2.2.2.2.2.2.2.2.2.2.2.2.2.2.2.2.2.2.2.2.2.2.2.2.2.2.2.2.1, .ref u.2.2.2.2.2.2.2.2.2.2.2.2.2.2.2.2.2.2.2.2.2.2.2.2.2.2.2.2.2.2.2.1, .ref u.2.2.2.2.2.2.2.2.2.2.2.2.2.2.2.2.2.1, .ref a6, .int 1, .int 0])), (u.2.2.2.2.2.2.2.2.2.2.2.2.2.2.2.1, .inl (cy 1, 1830, .inl (fillF (fun _ => 0) 2 20 (PP 20 2 (20 + 1 - 2))))), (u.2.2.2.1, .inl (cy 1, 0, .inl (fun _ => 0))), (u.2.2.2.2.2.2.2.2.2.2.2.2.2.2.2.2.2.2.2.2.2.2.2.2.2.2.2.2.2.2.2.2.2.1, .inl (cy 1, 1830, .inl (learnF 0 1830))), (u.2.2.2.2.2.1, .inl (cy 1, 0, .inl (fun _ => 0))), (u.2.2.2.2.2.2.2.2.2.2.2.2.2.2.2.2.2.2.2.2.2.2.2.2.2.2.2.2.2.2.2.2.2.2.1, .inl (cy 1, 1830, .inl (learnF 2 1830))), (u.2.1, .inr (4, [.ref u.2.2.1, .ref u.2.2.2.2.2.2.2.2.2.2.2.2.1, .int 0, .ref u.2.2.2.2.2.2.2.2.2.2.2.2.2.1])), (u.2.2.1, .inl (cy 5, 9, .inr (.inr (.inr (.inr (va_up (va_up (va_up (va_up (va_up (va_up (va_up (va_up (va_up (va_up (va_up (va_up (fun _ => none) 0 (some u.2.2.2.1)) 1 (some u.2.2.2.2.1)) 2 (some u.2.2.2.2.2.1)) 3 (some u.2.2.2.2.2.2.1)) 4 (some u.2.2.2.2.2.2.2.1)) 5 (some u.2.2.2.2.2.2.2.2.1)) 6 (some u.2.2.2.2.2.2.2.2.2.1)) 7 (some u.2.2.2.2.2.2.2.2.2.2.1)) 8 (some u.2.2.2.2.2.2.2.2.2.2.2.1)) 0 (some u.2.2.2.2.2.2.2.2.2.2.2.2.2.2.2.2.2.2.2.2.2.2.2.2.2.2.2.2.2.2.2.2.2.1)) 2 (some u.2.2.2.2.2.2.2.2.2.2.2.2.2.2.2.2.2.2.2.2.2.2.2.2.2.2.2.2.2.2.2.2.2.2.1)) 3 (some u.2.2.2.2.2.2.2.2.2.2.2.2.2.2.2.2.2.2.2.2.2.2.2.2.2.2.2.2.2.2.2.2.2.2.2))))))), (u.2.2.2.2.2.2.1, .inl (cy 1, 0, .inl (fun _ => 0))), (u.2.2.2.2.2.2.2.2.2.2.2.2.2.2.2.2.2.2.2.2.2.2.2.2.2.2.2.2.2.2.2.2.2.2.2, .inl (cy 1, 1830, .inl (learnF 3 1830))), (u.2.2.2.2.2.2.2.2.2.2.2.2.2.2.2.2.2.2.2.2.1, .inr (1, [.ref u.2.2.2.2.2.2.2.2.2.2.2.2.2.2.2.2.2.2.2.2.2.1, .ref a6, .int (-2), .int (-2), .ref u.2.2.2.2.2.2.2.2.2.2.2.2.2.2.2.2.2.2.2.2.2.2.2.1, .int 0, .int 0, .int 0, .int 0, .int (-1), .int 0, .ref u.2.2.2.2.2.2.2.2.2.2.2.2.2.2.2.2.2.2.2.2.2.2.2.2.1, .ref u.2.2.2.2.2.2.2.2.2.2.2.2.2.2.2.2.2.2.2.2.2.2.2.2.2.1])), (u.2.2.2.2.2.2.2.2.2.2.2.2.2.2.2.2.2.2.2.2.2.2.2.1, .inl (cy 1, 6, .inl (upd (upd (upd (upd (upd (upd (fun _ => 0) 0 (-2)) 1 (-2)) 2 (-2)) 3 (-2)) 4 (-2)) 5 (-2)))), (u.2.2.2.2.2.2.2.2.2.2.2.2.2.2.2.2.2.2.2.2.2.2.2.2.2.2.1, .inr (3, [.ref u.2.1, .ref u.2.2.2.2.2.2.2.2.2.2.2.2.2.2.1, .ref a6, .int (-1), .int (-1), .ref u.2.2.2.2.2.2.2.2.2.2.2.2.2.2.2.2.2.2.2.2.2.2.2.2.2.2.2.1, .int 0, .int 0, .int 0])), (u.2.2.2.2.2.2.2.2.2.2.2.2.2.2.2.2.2.2.2.2.2.2.2.2.2.2.2.2.2.1, .inr (8, [.ref u.2.2.2.2.2.2.2.2.2.2.2.2.2.2.2.2.2.2.2.2.2.2.2.2.2.2.2.2.1, .int (-1), .int 0, .int 0, .int 0, .int 0, .int 0, .ref u.2.2.2.2.2.2.2.2.2.2.2.2.2.2.2.2.2.2.2.2.2.2.2.2.2.2.2.2.2.2.1])), (u.2.2.2.2.2.2.2.2.2.2.2.2.2.2.1, .inl (cy 1, 1830, .inl (fillF (fun _ => 0) 2 20 (PP 20 2 (20 + 1 - 2))))), (u.2.2.2.2.2.2.2.2.2.2.2.2.2.2.2.2.2.2.2.2.2.2.2.2.2.2.2.2.2.2.2.1, .inr (7, [.ref u.2.2.2.2.2.2.2.2.2.2.2.2.2.2.2.2.2.2.2.2.2.2.2.2.2.2.2.2.1, .int 5, .int 4, .int (-1), .int (-1), .ref u.2.2.2.2.2.2.2.2.2.2.2.2.2.2.2.2.2.2.2.2.2.2.2.2.2.2.2.2.2.2.2.2.1])), (u.2.2.2.2.2.2.2.2.2.2.2.2.2.2.2.2.2.2.2.2.2.2.2.2.2.2.2.2.1, .inr (0, [.ref u.2.1, .ref u.2.2.2.2.2.2.2.2.2.2.2.2.2.2.1, .ref a6, .int 0, .int 190])), (a6, .inr (9, [.int 0, .int 2, .int 20, .int 120, .int 0, .int 0, .int 0, .int 0, .ref a11, .int 0, .ref a12, .ref a13, .int 0, .ref a14, .ref a15, .ref a16, .ref a17]))]) := by
  refine Ct.of (by decide +kernel) (Nat.le_of_ble_eq_true rfl) ?_
  intro p e s m args below meth c A ls C hr hlocks hml hnm w hl
  have hl : lv_has ls 6 [(0, .ref a0), (1, .int 4), (2, .int x1)] := hl
  refine lv_iload_n C.1 C.2.1 dX11_shortest_0 rfl (lv_at hl 2 rfl) ?_
  refine lv_bipush (v := 10) C.1 C.2.1 dX11_shortest_1 (by decide) ?_
  refine r_isub C (v := (x1 - 10)) dX11_shortest_3 rfl ?_
  refine lv_istore_n (lv' := [(3, .int (x1 - 10)), (0, .ref a0), (1, .int 4), (2, .int x1)]) C.1 C.2.1 dX11_shortest_4 rfl hl (by decide) rfl (fun ls hl => ?_)
  refine lv_iload_n C.1 C.2.1 dX11_shortest_5 rfl (lv_at hl 3 rfl) ?_
  refine lv_bipush (v := 10) C.1 C.2.1 dX11_shortest_6 (by decide) ?_
  refine b_icmp_lt_f C (tgt := 20) dX11_shortest_8 (by decide) k0 ?_
  refine lv_iload_n C.1 C.2.1 dX11_shortest_11 rfl (lv_at hl 0 rfl) ?_
  refine lv_iconst (v := 4) C.1 C.2.1 dX11_shortest_12 (by decide) ?_
  refine b_icmp_ge_f C (tgt := 20) dX11_shortest_13 (by decide) k1 ?_
  refine lv_iconst (v := 1) C.1 C.2.1 dX11_shortest_16 (by decide) ?_
  refine lv_goto (tgt := 21) C.1 C.2.1 dX11_shortest_17 (by decide) ?_
  refine lv_istore (lv' := [(4, .int 1), (3, .int (x1 - 10)), (0, .ref a0), (1, .int 4), (2, .int x1)]) C.1 C.2.1 dX11_shortest_21 hl (by decide) rfl (fun ls hl => ?_)
  refine lv_iload_n C.1 C.2.1 dX11_shortest_23 rfl (lv_at hl 3 rfl) ?_
  refine lv_iconst (v := 1) C.1 C.2.1 dX11_shortest_24 (by decide) ?_
  refine b_icmp_lt_f C (tgt := 47) dX11_shortest_25 (by decide) (by decide) ?_
  refine lv_iload_n C.1 C.2.1 dX11_shortest_28 rfl (lv_at hl 3 rfl) ?_
  refine lv_iconst (v := 4) C.1 C.2.1 dX11_shortest_29 (by decide) ?_
  refine b_icmp_gt_f C (tgt := 47) dX11_shortest_30 (by decide) (by decide) ?_
  refine lv_iload_n C.1 C.2.1 dX11_shortest_33 rfl (lv_at hl 4 rfl) ?_
  refine b_if_eq_f C (tgt := 58) dX11_shortest_34 (by decide) (by have h0 := (i_nlt k0); have e0 : (0 : Int32).toInt = 0 := (by decide); have e1 : (10 : Int32).toInt = 10 := (by decide); rw [fa_eq]; omega) ?_
  refine lv_iload_n C.1 C.2.1 dX11_shortest_37 rfl (lv_at hl 4 rfl) ?_
  refine lv_iconst (v := 1) C.1 C.2.1 dX11_shortest_38 (by decide) ?_
  refine b_icmp_eq_f C (tgt := 58) dX11_shortest_39 (by decide) (by have h0 := (i_nlt k0); have e0 : (1 : Int32).toInt = 1 := (by decide); have e1 : (10 : Int32).toInt = 10 := (by decide); rw [fa_eq]; omega) ?_
  refine lv_iload C.1 C.2.1 dX11_shortest_42 (lv_at hl 0 rfl) ?_
  refine b_if_ne_t C (tgt := 58) dX11_shortest_44 (by decide) (by decide) ?_
  refine lv_aload_n C.1 C.2.1 dX11_shortest_58 rfl (lv_at hl 2 rfl) ?_
  refine r_callV C w fv_RX11_100 (c_X11_view_0 l D cy a0 a1 a2 a3 a4 a5 a6 a11 a12 a13 a14 a15 a16 a17) (hl.1.trans hml.symm) [0, 1] [] (wr := []) ⟨rfl, rfl, rfl, rfl, by decide⟩ 0 rfl rfl rfl rfl rfl ⟨Nat.le_of_ble_eq_true rfl, Nat.le_of_ble_eq_true rfl, Nat.le_of_ble_eq_true rfl⟩ 36 23817 ⟨rfl, rfl, Nat.le_of_ble_eq_true rfl, Nat.le_of_ble_eq_true rfl⟩ dX11_shortest_59 (fun u H locs hp w => ?_)
  obtain ⟨n1, n2, n3, n4, n5, n6, n7, n8, n9, n10, n11, n12, n13, n14, n15, n16, n17, n18, n19, n20, n21, n22, n23, n24, n25, n26, n27, n28, n29, n30, n31, n32, n33, n34, n35, n36⟩ := u
  have w : Wd D A s.heap [(a0, .inr (11, [.ref a1, .int 0, .int 0, .int (-1), .ref a2, .ref a3, .ref a4, .ref a5, .ref a6, .ref n1])), (n5, .inl (cy 1, 0, .inl (fun _ => 0))), (n8, .inl (cy 1, 0, .inl (fun _ => 0))), (n9, .inl (cy 1, 0, .inl (fun _ => 0))), (n10, .inl (cy 1, 0, .inl (fun _ => 0))), (n11, .inl (cy 1, 0, .inl (fun _ => 0))), (n12, .inl (cy 1, 0, .inl (fun _ => 0))), (n13, .inl (cy 1, 7201, .inl (fun _ => 0))), (n14, .inl (cy 1, 1830, .inl (fun _ => 0))), (n15, .inl (cy 1, 1830, .inl (fun _ => 0))), (n17, .inl (cy 1, 1830, .inl (fun _ => 0))), (n19, .inl (cy 1, 1830, .inl (fun _ => 0))), (n18, .inr (2, [.ref n2, .ref n19, .ref n20, .ref a6, .int 0])), (n20, .inl (cy 1, 21, .inl (fun _ => 0))), (n22, .inr (2, [.ref n2, .ref n15, .ref n23, .ref a6, .int 0])), (n23, .inl (cy 1, 21, .inl (fun _ => 0))), (n25, .inl (cy 1, 6, .inl (fun _ => 0))), (n26, .inl (cy 1, 6, .inl (fun _ => 0))), (n28, .inl (cy 1, 1830, .inl (fun _ => 0))), (n31, .inl (cy 1, 5, .inl (fun _ => 0))), (n33, .inl (cy 1, 4, .inl (fun _ => 0))), (n1, .inr (6, [.ref n2, .ref n16, .int 190, .ref n17, .ref n21, .ref n27, .ref n29, .ref n30, .ref n32, .ref n18, .ref a6, .int 1, .int 0])), (n16, .inl (cy 1, 1830, .inl (fillF (fun _ => 0) 2 20 (PP 20 2 (20 + 1 - 2))))), (a6, .inr (9, [.int 0, .int 2, .int 20, .int 120, .int 0, .int 0, .int 0, .int 0, .ref a11, .int 0, .ref a12, .ref a13, .int 0, .ref a14, .ref a15, .ref a16, .ref a17])), (n4, .inl (cy 1, 0, .inl (fun _ => 0))), (n34, .inl (cy 1, 1830, .inl (learnF 0 1830))), (n6, .inl (cy 1, 0, .inl (fun _ => 0))), (n35, .inl (cy 1, 1830, .inl (learnF 2 1830))), (n2, .inr (4, [.ref n3, .ref n13, .int 0, .ref n14])), (n3, .inl (cy 5, 9, .inr (.inr (.inr (.inr (va_up (va_up (va_up (va_up (va_up (va_up (va_up (va_up (va_up (va_up (va_up (va_up (fun _ => none) 0 (some n4)) 1 (some n5)) 2 (some n6)) 3 (some n7)) 4 (some n8)) 5 (some n9)) 6 (some n10)) 7 (some n11)) 8 (some n12)) 0 (some n34)) 2 (some n35)) 3 (some n36))))))), (n7, .inl (cy 1, 0, .inl (fun _ => 0))), (n36, .inl (cy 1, 1830, .inl (learnF 3 1830))), (n21, .inr (1, [.ref n22, .ref a6, .int (-2), .int (-2), .ref n24, .int 0, .int 0, .int 0, .int 0, .int (-1), .int 0, .ref n25, .ref n26])), (n24, .inl (cy 1, 6, .inl (upd (upd (upd (upd (upd (upd (fun _ => 0) 0 (-2)) 1 (-2)) 2 (-2)) 3 (-2)) 4 (-2)) 5 (-2)))), (n27, .inr (3, [.ref n2, .ref n15, .ref a6, .int (-1), .int (-1), .ref n28, .int 0, .int 0, .int 0])), (n29, .inr (0, [.ref n2, .ref n15, .ref a6, .int 0, .int 0])), (n30, .inr (8, [.ref n29, .int (-1), .int 0, .int 0, .int 0, .int 0, .int 0, .ref n31])), (n32, .inr (7, [.ref n29, .int 0, .int (-1), .int (-1), .int (-1), .ref n33]))] _ _ := w
  refine r_top (g2 := F0 m 62 ls [.ref n1]) rfl ?_
  refine r_get C w 21 rfl rfl 8 (by decide) fl_RX11_258 (v := .ref n32) rfl dX11_shortest_62 ?_
  refine lv_astore (lv' := [(5, .ref n32), (4, .int 1), (3, .int (x1 - 10)), (0, .ref a0), (1, .int 4), (2, .int x1)]) C.1 C.2.1 dX11_shortest_65 hl (by decide) rfl (fun ls hl => ?_)
  refine lv_aload C.1 C.2.1 dX11_shortest_67 (lv_at hl 0 rfl) ?_
  refine lv_iload_n C.1 C.2.1 dX11_shortest_69 rfl (lv_at hl 4 rfl) ?_
  refine r_callV C w fv_RX11_262 (c_X7_seek_8 l D cy n32 n29 n33 n2 n15 a6 a11 a12 a13 a14 a15 a16 a17) (hl.1.trans hml.symm) [37, 35, 9, 23] [0, 1, 2, 3, 4, 5, 6, 7, 8, 10, 11, 12, 13, 14, 15, 16, 17, 18, 19, 20, 21, 22, 24, 25, 26, 27, 28, 29, 30, 31, 32, 33, 34, 36] (wr := [(a0, .inr (11, [.ref a1, .int 0, .int 0, .int (-1), .ref a2, .ref a3, .ref a4, .ref a5, .ref a6, .ref n1])), (n5, .inl (cy 1, 0, .inl (fun _ => 0))), (n8, .inl (cy 1, 0, .inl (fun _ => 0))), (n9, .inl (cy 1, 0, .inl (fun _ => 0))), (n10, .inl (cy 1, 0, .inl (fun _ => 0))), (n11, .inl (cy 1, 0, .inl (fun _ => 0))), (n12, .inl (cy 1, 0, .inl (fun _ => 0))), (n13, .inl (cy 1, 7201, .inl (fun _ => 0))), (n14, .inl (cy 1, 1830, .inl (fun _ => 0))), (n17, .inl (cy 1, 1830, .inl (fun _ => 0))), (n19, .inl (cy 1, 1830, .inl (fun _ => 0))), (n18, .inr (2, [.ref n2, .ref n19, .ref n20, .ref a6, .int 0])), (n20, .inl (cy 1, 21, .inl (fun _ => 0))), (n22, .inr (2, [.ref n2, .ref n15, .ref n23, .ref a6, .int 0])), (n23, .inl (cy 1, 21, .inl (fun _ => 0))), (n25, .inl (cy 1, 6, .inl (fun _ => 0))), (n26, .inl (cy 1, 6, .inl (fun _ => 0))), (n28, .inl (cy 1, 1830, .inl (fun _ => 0))), (n31, .inl (cy 1, 5, .inl (fun _ => 0))), (n33, .inl (cy 1, 4, .inl (fun _ => 0))), (n1, .inr (6, [.ref n2, .ref n16, .int 190, .ref n17, .ref n21, .ref n27, .ref n29, .ref n30, .ref n32, .ref n18, .ref a6, .int 1, .int 0])), (n16, .inl (cy 1, 1830, .inl (fillF (fun _ => 0) 2 20 (PP 20 2 (20 + 1 - 2))))), (n4, .inl (cy 1, 0, .inl (fun _ => 0))), (n34, .inl (cy 1, 1830, .inl (learnF 0 1830))), (n6, .inl (cy 1, 0, .inl (fun _ => 0))), (n35, .inl (cy 1, 1830, .inl (learnF 2 1830))), (n2, .inr (4, [.ref n3, .ref n13, .int 0, .ref n14])), (n3, .inl (cy 5, 9, .inr (.inr (.inr (.inr (va_up (va_up (va_up (va_up (va_up (va_up (va_up (va_up (va_up (va_up (va_up (va_up (fun _ => none) 0 (some n4)) 1 (some n5)) 2 (some n6)) 3 (some n7)) 4 (some n8)) 5 (some n9)) 6 (some n10)) 7 (some n11)) 8 (some n12)) 0 (some n34)) 2 (some n35)) 3 (some n36))))))), (n7, .inl (cy 1, 0, .inl (fun _ => 0))), (n36, .inl (cy 1, 1830, .inl (learnF 3 1830))), (n21, .inr (1, [.ref n22, .ref a6, .int (-2), .int (-2), .ref n24, .int 0, .int 0, .int 0, .int 0, .int (-1), .int 0, .ref n25, .ref n26])), (n24, .inl (cy 1, 6, .inl (upd (upd (upd (upd (upd (upd (fun _ => 0) 0 (-2)) 1 (-2)) 2 (-2)) 3 (-2)) 4 (-2)) 5 (-2)))), (n27, .inr (3, [.ref n2, .ref n15, .ref a6, .int (-1), .int (-1), .ref n28, .int 0, .int 0, .int 0])), (n30, .inr (8, [.ref n29, .int (-1), .int 0, .int 0, .int 0, .int 0, .int 0, .ref n31]))]) ⟨rfl, rfl, rfl, rfl, by decide⟩ 0 rfl rfl rfl rfl rfl ⟨Nat.le_of_ble_eq_true rfl, Nat.le_of_ble_eq_true rfl, Nat.le_of_ble_eq_true rfl⟩ 36 23817 ⟨rfl, rfl, Nat.le_of_ble_eq_true rfl, Nat.le_of_ble_eq_true rfl⟩ dX11_shortest_70 (fun u H locs hp w => ?_)
  have w : Wd D A s.heap [(a0, .inr (11, [.ref a1, .int 0, .int 0, .int (-1), .ref a2, .ref a3, .ref a4, .ref a5, .ref a6, .ref n1])), (n5, .inl (cy 1, 0, .inl (fun _ => 0))), (n8, .inl (cy 1, 0, .inl (fun _ => 0))), (n9, .inl (cy 1, 0, .inl (fun _ => 0))), (n10, .inl (cy 1, 0, .inl (fun _ => 0))), (n11, .inl (cy 1, 0, .inl (fun _ => 0))), (n12, .inl (cy 1, 0, .inl (fun _ => 0))), (n13, .inl (cy 1, 7201, .inl (fun _ => 0))), (n14, .inl (cy 1, 1830, .inl (fun _ => 0))), (n17, .inl (cy 1, 1830, .inl (fun _ => 0))), (n19, .inl (cy 1, 1830, .inl (fun _ => 0))), (n18, .inr (2, [.ref n2, .ref n19, .ref n20, .ref a6, .int 0])), (n20, .inl (cy 1, 21, .inl (fun _ => 0))), (n22, .inr (2, [.ref n2, .ref n15, .ref n23, .ref a6, .int 0])), (n23, .inl (cy 1, 21, .inl (fun _ => 0))), (n25, .inl (cy 1, 6, .inl (fun _ => 0))), (n26, .inl (cy 1, 6, .inl (fun _ => 0))), (n28, .inl (cy 1, 1830, .inl (fun _ => 0))), (n31, .inl (cy 1, 5, .inl (fun _ => 0))), (n33, .inl (cy 1, 4, .inl (fun _ => 0))), (n1, .inr (6, [.ref n2, .ref n16, .int 190, .ref n17, .ref n21, .ref n27, .ref n29, .ref n30, .ref n32, .ref n18, .ref a6, .int 1, .int 0])), (n16, .inl (cy 1, 1830, .inl (fillF (fun _ => 0) 2 20 (PP 20 2 (20 + 1 - 2))))), (n4, .inl (cy 1, 0, .inl (fun _ => 0))), (n34, .inl (cy 1, 1830, .inl (learnF 0 1830))), (n6, .inl (cy 1, 0, .inl (fun _ => 0))), (n35, .inl (cy 1, 1830, .inl (learnF 2 1830))), (n2, .inr (4, [.ref n3, .ref n13, .int 0, .ref n14])), (n3, .inl (cy 5, 9, .inr (.inr (.inr (.inr (va_up (va_up (va_up (va_up (va_up (va_up (va_up (va_up (va_up (va_up (va_up (va_up (fun _ => none) 0 (some n4)) 1 (some n5)) 2 (some n6)) 3 (some n7)) 4 (some n8)) 5 (some n9)) 6 (some n10)) 7 (some n11)) 8 (some n12)) 0 (some n34)) 2 (some n35)) 3 (some n36))))))), (n7, .inl (cy 1, 0, .inl (fun _ => 0))), (n36, .inl (cy 1, 1830, .inl (learnF 3 1830))), (n21, .inr (1, [.ref n22, .ref a6, .int (-2), .int (-2), .ref n24, .int 0, .int 0, .int 0, .int 0, .int (-1), .int 0, .ref n25, .ref n26])), (n24, .inl (cy 1, 6, .inl (upd (upd (upd (upd (upd (upd (fun _ => 0) 0 (-2)) 1 (-2)) 2 (-2)) 3 (-2)) 4 (-2)) 5 (-2)))), (n27, .inr (3, [.ref n2, .ref n15, .ref a6, .int (-1), .int (-1), .ref n28, .int 0, .int 0, .int 0])), (n30, .inr (8, [.ref n29, .int (-1), .int 0, .int 0, .int 0, .int 0, .int 0, .ref n31])), (n15, .inl (cy 1, 1830, .inl (fillF (fun _ => 0) 2 20 (PP 20 2 (20 + 1 - 2))))), (n32, .inr (7, [.ref n29, .int 5, .int 4, .int (-1), .int (-1), .ref n33])), (n29, .inr (0, [.ref n2, .ref n15, .ref a6, .int 0, .int 190])), (a6, .inr (9, [.int 0, .int 2, .int 20, .int 120, .int 0, .int 0, .int 0, .int 0, .ref a11, .int 0, .ref a12, .ref a13, .int 0, .ref a14, .ref a15, .ref a16, .ref a17]))] _ _ := w
  refine r_top (g2 := F0 m 73 ls []) rfl ?_
  refine lv_aload C.1 C.2.1 dX11_shortest_73 (lv_at hl 0 rfl) ?_
  refine r_get C w 35 rfl rfl 3 (by decide) fl_RX11_264 (v := .int (-1)) rfl dX11_shortest_75 ?_
  refine lv_iconst (v := (-1)) C.1 C.2.1 dX11_shortest_78 (by decide) ?_
  refine b_icmp_eq_t C (tgt := 91) dX11_shortest_79 (by decide) (by decide) ?_
  refine lv_iconst (v := (-1)) C.1 C.2.1 dX11_shortest_91 (by decide) ?_
  exact r_iret C w hlocks (n1, n2, n3, n4, n5, n6, n7, n8, n9, n10, n11, n12, n13, n14, n15, n16, n17, n18, n19, n20, n21, n22, n23, n24, n25, n26, n27, n28, n29, n30, n31, n32, n33, n34, n35, n36) hr rfl rfl trivial [0, 1, 2, 3, 4, 5, 6, 7, 8, 9, 10, 11, 12, 13, 14, 15, 16, 17, 18, 19, 20, 21, 22, 23, 24, 25, 26, 27, 28, 29, 30, 31, 32, 33, 34, 35, 36, 37] rfl rfl ⟨Nat.le_of_ble_eq_true rfl, Nat.le_of_ble_eq_true rfl⟩ dX11_shortest_92
set_option maxRecDepth 100000 in
set_option maxHeartbeats 4000000 in
theorem c_X11_shortest_18 (l : Launch) (D : va_G) (cy : Nat → ClassId) (a0 a1 a2 a3 a4 a5 a6 a11 a12 a13 a14 a15 a16 a17 : Nat) (x1 : Int32) (k0 : ¬ x1 < 10) (k1 : ¬ 4 ≤ (x1 - 10)) : Ct l D cy yX11_shortest cX11_shortest 6 (some .int) 5 118 36 23817 [(a0, .inr (11, [.ref a1, .int 0, .int 0, .int (-1), .ref a2, .ref a3, .ref a4, .ref a5, .ref a6, .null])), (a6, .inr (9, [.int 0, .int 2, .int 20, .int 120, .int 0, .int 0, .int 0, .int 0, .ref a11, .int 0, .ref a12, .ref a13, .int 0, .ref a14, .ref a15, .ref a16, .ref a17]))] [.ref a0, .int 3, .int x1] (fun u : Nat × Nat × Nat × Nat × Nat × Nat × Nat × Nat × Nat × Nat × Nat × Nat × Nat × Nat × Nat × Nat × Nat × Nat × Nat × Nat × Nat × Nat × Nat × Nat × Nat × Nat × Nat × Nat × Nat × Nat × Nat × Nat × Nat × Nat × Nat × Nat => some (.int (-1))) (fun _ => True) (fun u : Nat × Nat × Nat × Nat × Nat × Nat × Nat × Nat × Nat × Nat × Nat × Nat × Nat × Nat × Nat × Nat × Nat × Nat × Nat × Nat × Nat × Nat × Nat × Nat × Nat × Nat × Nat × Nat × Nat × Nat × Nat × Nat × Nat × Nat × Nat × Nat => [(a0, .inr (11, [.ref a1, .int 0, .int 0, .int (-1), .ref a2, .ref a3, .ref a4, .ref a5, .ref a6, .ref u.1])), (u.2.2.2.2.1, .inl (cy 1, 0, .inl (fun _ => 0))), (u.2.2.2.2.2.2.2.1, .inl (cy 1, 0, .inl (fun _ => 0))), (u.2.2.2.2.2.2.2.2.1, .inl (cy 1, 0, .inl (fun _ => 0))), (u.2.2.2.2.2.2.2.2.2.1, .inl (cy 1, 0, .inl (fun _ => 0))), (u.2.2.2.2.2.2.2.2.2.2.1, .inl (cy 1, 0, .inl (fun _ => 0))), (u.2.2.2.2.2.2.2.2.2.2.2.1, .inl (cy 1, 0, .inl (fun _ => 0))), (u.2.2.2.2.2.2.2.2.2.2.2.2.1, .inl (cy 1, 7201, .inl (fun _ => 0))), (u.2.2.2.2.2.2.2.2.2.2.2.2.2.1, .inl (cy 1, 1830, .inl (fun _ => 0))), (u.2.2.2.2.2.2.2.2.2.2.2.2.2.2.2.2.1, .inl (cy 1, 1830, .inl (fun _ => 0))), (u.2.2.2.2.2.2.2.2.2.2.2.2.2.2.2.2.2.2.1, .inl (cy 1, 1830, .inl (fun _ => 0))), (u.2.2.2.2.2.2.2.2.2.2.2.2.2.2.2.2.2.1, .inr (2, [.ref u.2.1, .ref u.2.2.2.2.2.2.2.2.2.2.2.2.2.2.2.2.2.2.1, .ref u.2.2.2.2.2.2.2.2.2.2.2.2.2.2.2.2.2.2.2.1, .ref a6, .int 0])), (u.2.2.2.2.2.2.2.2.2.2.2.2.2.2.2.2.2.2.2.1, .inl (cy 1, 21, .inl (fun _ => 0))), (u.2.2.2.2.2.2.2.2.2.2.2.2.2.2.2.2.2.2.2.2.2.1, .inr (2, [.ref u.2.1, .ref u.2.2.2.2.2.2.2.2.2.2.2.2.2.2.1, .ref u.2.2.2.2.2.2.2.2.2.2.2.2.2.2.2.2.2.2.2.2.2.2.1, .ref a6, .int 0])), (u.2.2.2.2.2.2.2.2.2.2.2.2.2.2.2.2.2.2.2.2.2.2.1, .inl (cy 1, 21, .inl (fun _ => 0))), (u.2.2.2.2.2.2.2.2.2.2.2.2.2.2.2.2.2.2.2.2.2.2.2.2.1, .inl (cy 1, 6, .inl (fun _ => 0))), (u.2.2.2.2.2.2.2.2.2.2.2.2.2.2.2.2.2.2.2.2.2.2.2.2.2.1, .inl (cy 1, 6, .inl (fun _ => 0))), (u.2.2.2.2.2.2.2.2.2.2.2.2.2.2.2.2.2.2.2.2.2.2.2.2.2.2.2.1, .inl (cy 1, 1830, .inl (fun _ => 0))), (u.2.2.2.2.2.2.2.2.2.2.2.2.2.2.2.2.2.2.2.2.2.2.2.2.2.2.2.2.2.2.1, .inl (cy 1, 5, .inl (fun _ => 0))), (u.2.2.2.2.2.2.2.2.2.2.2.2.2.2.2.2.2.2.2.2.2.2.2.2.2.2.2.2.2.2.2.2.1, .inl (cy 1, 4, .inl (fun _ => 0))), (u.1, .inr (6, [.ref u.2.1, .ref u.2.2.2.2.2.2.2.2.2.2.2.2.2.2.2.1, .int 190, .ref u.2.2.2.2.2.2.2.2.2.2.2.2.2.2.2.2.1, .ref u.2.2.2.2.2.2.2.2.2.2.2.2.2.2.2.2.2.2.2.2.1, .ref u.2.2.2.2.2.2.2.2.2.2.2.2.2.2.2.2.2.2.2.2.2.2.2.2.2.2.1, .ref u.2.2.2.2.2.2.2.2.2.2.2.2.2.2.2.2.2.2.2.2.2.2.2.2.2.2.2.2.1, .ref u.2.2.2.2.2.2.2.2.2.2.2.2.2.2.2.2.2.2.2.2.2.2.2.2.2.2.2.2.2.1, .ref u.2.2.2.2.2.2.2.2.2.2.2.2.2.2.2.2.2.2.2.2.2.2.2.2.2.2.2.2.2.2.2.1, .ref u.2.2.2.2.2.2.2.2.2.2.2.2.2.2.2.2.2.1, .ref a6, .int 1, .int 0])), (u.2.2.2.2.2.2.2.2.2.2.2.2.2.2.2.1, .inl (cy 1, 1830, .inl (fillF (fun _ => 0) 2 20 (PP 20 2 (20 + 1 - 2))))), (u.2.2.2.1, .inl (cy 1, 0, .inl (fun _ => 0))), (u.2.2.2.2.2.2.2.2.2.2.2.2.2.2.2.2.2.2.2.2.2.2.2.2.2.2.2.2.2.2.2.2.2.1, .inl (cy 1, 1830, .inl (learnF 0 1830))), (u.2.2.2.2.2.1, .inl (cy 1, 0, .inl (fun _ => 0))), (u.2.2.2.2.2.2.2.2.2.2.2.2.2.2.2.2.2.2.2.2.2.2.2.2.2.2.2.2.2.2.2.2.2.2.1, .inl (cy 1, 1830, .inl (learnF 2 1830))), (u.2.1, .inr (4, [.ref u.2.2.1, .ref u.2.2.2.2.2.2.2.2.2.2.2.2.1, .int 0, .ref u.2.2.2.2.2.2.2.2.2.2.2.2.2.1])), (u.2.2.1, .inl (cy 5, 9, .inr (.inr (.inr (.inr (va_up (va_up (va_up (va_up (va_up (va_up (va_up (va_up (va_up (va_up (va_up (va_up (fun _ => none) 0 (some u.2.2.2.1)) 1 (some u.2.2.2.2.1)) 2 (some u.2.2.2.2.2.1)) 3 (some u.2.2.2.2.2.2.1)) 4 (some u.2.2.2.2.2.2.2.1)) 5 (some u.2.2.2.2.2.2.2.2.1)) 6 (some u.2.2.2.2.2.2.2.2.2.1)) 7 (some u.2.2.2.2.2.2.2.2.2.2.1)) 8 (some u.2.2.2.2.2.2.2.2.2.2.2.1)) 0 (some u.2.2.2.2.2.2.2.2.2.2.2.2.2.2.2.2.2.2.2.2.2.2.2.2.2.2.2.2.2.2.2.2.2.1)) 2 (some u.2.2.2.2.2.2.2.2.2.2.2.2.2.2.2.2.2.2.2.2.2.2.2.2.2.2.2.2.2.2.2.2.2.2.1)) 3 (some u.2.2.2.2.2.2.2.2.2.2.2.2.2.2.2.2.2.2.2.2.2.2.2.2.2.2.2.2.2.2.2.2.2.2.2))))))), (u.2.2.2.2.2.2.1, .inl (cy 1, 0, .inl (fun _ => 0))), (u.2.2.2.2.2.2.2.2.2.2.2.2.2.2.2.2.2.2.2.2.2.2.2.2.2.2.2.2.2.2.2.2.2.2.2, .inl (cy 1, 1830, .inl (learnF 3 1830))), (u.2.2.2.2.2.2.2.2.2.2.2.2.2.2.2.2.2.2.2.2.1, .inr (1, [.ref u.2.2.2.2.2.2.2.2.2.2.2.2.2.2.2.2.2.2.2.2.2.1, .ref a6, .int (-2), .int (-2), .ref u.2.2.2.2.2.2.2.2.2.2.2.2.2.2.2.2.2.2.2.2.2.2.2.1, .int 0, .int 0, .int 0, .int 0, .int (-1), .int 0, .ref u.2.2.2.2.2.2.2.2.2.2.2.2.2.2.2.2.2.2.2.2.2.2.2.2.1, .ref u.2.2.2.2.2.2.2.2.2.2.2.2.2.2.2.2.2.2.2.2.2.2.2.2.2.1])), (u.2.2.2.2.2.2.2.2.2.2.2.2.2.2.2.2.2.2.2.2.2.2.2.1, .inl (cy 1, 6, .inl (upd (upd (upd (upd (upd (upd (fun _ => 0) 0 (-2)) 1 (-2)) 2 (-2)) 3 (-2)) 4 (-2)) 5 (-2)))), (u.2.2.2.2.2.2.2.2.2.2.2.2.2.2.2.2.2.2.2.2.2.2.2.2.2.2.1, .inr (3, [.ref u.2.1, .ref u.2.2.2.2.2.2.2.2.2.2.2.2.2.2.1, .ref a6, .int (-1), .int (-1), .ref u.2.2.2.2.2.2.2.2.2.2.2.2.2.2.2.2.2.2.2.2.2.2.2.2.2.2.2.1, .int 0, .int 0, .int 0])), (u.2.2.2.2.2.2.2.2.2.2.2.2.2.2.2.2.2.2.2.2.2.2.2.2.2.2.2.2.2.1, .inr (8, [.ref u.2.2.2.2.2.2.2.2.2.2.2.2.2.2.2.2.2.2.2.2.2.2.2.2.2.2.2.2.1, .int (-1), .int 0, .int 0, .int 0, .int 0, .int 0, .ref u.2.2.2.2.2.2.2.2.2.2.2.2.2.2.2.2.2.2.2.2.2.2.2.2.2.2.2.2.2.2.1])), (u.2.2.2.2.2.2.2.2.2.2.2.2.2.2.1, .inl (cy 1, 1830, .inl (fillF (fun _ => 0) 2 20 (PP 20 2 (20 + 1 - 2))))), (u.2.2.2.2.2.2.2.2.2.2.2.2.2.2.2.2.2.2.2.2.2.2.2.2.2.2.2.2.2.2.2.1, .inr (7, [.ref u.2.2.2.2.2.2.2.2.2.2.2.2.2.2.2.2.2.2.2.2.2.2.2.2.2.2.2.2.1, .int 4, .int 3, .int (-1), .int (-1), .ref u.2.2.2.2.2.2.2.2.2.2.2.2.2.2.2.2.2.2.2.2.2.2.2.2.2.2.2.2.2.2.2.2.1])), (u.2.2.2.2.2.2.2.2.2.2.2.2.2.2.2.2.2.2.2.2.2.2.2.2.2.2.2.2.1, .inr (0, [.ref u.2.1, .ref u.2.2.2.2.2.2.2.2.2.2.2.2.2.2.1, .ref a6, .int 0, .int 190])), (a6, .inr (9, [.int 0, .int 2, .int 20, .int 120, .int 0, .int 0, .int 0, .int 0, .ref a11, .int 0, .ref a12, .ref a13, .int 0, .ref a14, .ref a15, .ref a16, .ref a17]))]) := by
  refine Ct.of (by decide +kernel) (Nat.le_of_ble_eq_true rfl) ?_
  intro p e s m args below meth c A ls C hr hlocks hml hnm w hl
  have hl : lv_has ls 6 [(0, .ref a0), (1, .int 3), (2, .int x1)] := hl
  refine lv_iload_n C.1 C.2.1 dX11_shortest_0 rfl (lv_at hl 2 rfl) ?_
  refine lv_bipush (v := 10) C.1 C.2.1 dX11_shortest_1 (by decide) ?_
  refine r_isub C (v := (x1 - 10)) dX11_shortest_3 rfl ?_
  refine lv_istore_n (lv' := [(3, .int (x1 - 10)), (0, .ref a0), (1, .int 3), (2, .int x1)]) C.1 C.2.1 dX11_shortest_4 rfl hl (by decide) rfl (fun ls hl => ?_)
  refine lv_iload_n C.1 C.2.1 dX11_shortest_5 rfl (lv_at hl 3 rfl) ?_
  refine lv_bipush (v := 10) C.1 C.2.1 dX11_shortest_6 (by decide) ?_
  refine b_icmp_lt_f C (tgt := 20) dX11_shortest_8 (by decide) k0 ?_
  refine lv_iload_n C.1 C.2.1 dX11_shortest_11 rfl (lv_at hl 0 rfl) ?_
  refine lv_iconst (v := 4) C.1 C.2.1 dX11_shortest_12 (by decide) ?_
  refine b_icmp_ge_f C (tgt := 20) dX11_shortest_13 (by decide) k1 ?_
  refine lv_iconst (v := 1) C.1 C.2.1 dX11_shortest_16 (by decide) ?_
  refine lv_goto (tgt := 21) C.1 C.2.1 dX11_shortest_17 (by decide) ?_
  refine lv_istore (lv' := [(4, .int 1), (3, .int (x1 - 10)), (0, .ref a0), (1, .int 3), (2, .int x1)]) C.1 C.2.1 dX11_shortest_21 hl (by decide) rfl (fun ls hl => ?_)
  refine lv_iload_n C.1 C.2.1 dX11_shortest_23 rfl (lv_at hl 3 rfl) ?_
  refine lv_iconst (v := 1) C.1 C.2.1 dX11_shortest_24 (by decide) ?_
  refine b_icmp_lt_f C (tgt := 47) dX11_shortest_25 (by decide) (by decide) ?_
  refine lv_iload_n C.1 C.2.1 dX11_shortest_28 rfl (lv_at hl 3 rfl) ?_
  refine lv_iconst (v := 4) C.1 C.2.1 dX11_shortest_29 (by decide) ?_
  refine b_icmp_gt_f C (tgt := 47) dX11_shortest_30 (by decide) (by decide) ?_
  refine lv_iload_n C.1 C.2.1 dX11_shortest_33 rfl (lv_at hl 4 rfl) ?_
  refine b_if_eq_f C (tgt := 58) dX11_shortest_34 (by decide) (by have h0 := (i_nlt k0); have e0 : (0 : Int32).toInt = 0 := (by decide); have e1 : (10 : Int32).toInt = 10 := (by decide); rw [fa_eq]; omega) ?_
  refine lv_iload_n C.1 C.2.1 dX11_shortest_37 rfl (lv_at hl 4 rfl) ?_
  refine lv_iconst (v := 1) C.1 C.2.1 dX11_shortest_38 (by decide) ?_
  refine b_icmp_eq_f C (tgt := 58) dX11_shortest_39 (by decide) (by have h0 := (i_nlt k0); have e0 : (1 : Int32).toInt = 1 := (by decide); have e1 : (10 : Int32).toInt = 10 := (by decide); rw [fa_eq]; omega) ?_
  refine lv_iload C.1 C.2.1 dX11_shortest_42 (lv_at hl 0 rfl) ?_
  refine b_if_ne_t C (tgt := 58) dX11_shortest_44 (by decide) (by decide) ?_
  refine lv_aload_n C.1 C.2.1 dX11_shortest_58 rfl (lv_at hl 2 rfl) ?_
  refine r_callV C w fv_RX11_100 (c_X11_view_0 l D cy a0 a1 a2 a3 a4 a5 a6 a11 a12 a13 a14 a15 a16 a17) (hl.1.trans hml.symm) [0, 1] [] (wr := []) ⟨rfl, rfl, rfl, rfl, by decide⟩ 0 rfl rfl rfl rfl rfl ⟨Nat.le_of_ble_eq_true rfl, Nat.le_of_ble_eq_true rfl, Nat.le_of_ble_eq_true rfl⟩ 36 23817 ⟨rfl, rfl, Nat.le_of_ble_eq_true rfl, Nat.le_of_ble_eq_true rfl⟩ dX11_shortest_59 (fun u H locs hp w => ?_)
  obtain ⟨n1, n2, n3, n4, n5, n6, n7, n8, n9, n10, n11, n12, n13, n14, n15, n16, n17, n18, n19, n20, n21, n22, n23, n24, n25, n26, n27, n28, n29, n30, n31, n32, n33, n34, n35, n36⟩ := u
  have w : Wd D A s.heap [(a0, .inr (11, [.ref a1, .int 0, .int 0, .int (-1), .ref a2, .ref a3, .ref a4, .ref a5, .ref a6, .ref n1])), (n5, .inl (cy 1, 0, .inl (fun _ => 0))), (n8, .inl (cy 1, 0, .inl (fun _ => 0))), (n9, .inl (cy 1, 0, .inl (fun _ => 0))), (n10, .inl (cy 1, 0, .inl (fun _ => 0))), (n11, .inl (cy 1, 0, .inl (fun _ => 0))), (n12, .inl (cy 1, 0, .inl (fun _ => 0))), (n13, .inl (cy 1, 7201, .inl (fun _ => 0))), (n14, .inl (cy 1, 1830, .inl (fun _ => 0))), (n15, .inl (cy 1, 1830, .inl (fun _ => 0))), (n17, .inl (cy 1, 1830, .inl (fun _ => 0))), (n19, .inl (cy 1, 1830, .inl (fun _ => 0))), (n18, .inr (2, [.ref n2, .ref n19, .ref n20, .ref a6, .int 0])), (n20, .inl (cy 1, 21, .inl (fun _ => 0))), (n22, .inr (2, [.ref n2, .ref n15, .ref n23, .ref a6, .int 0])), (n23, .inl (cy 1, 21, .inl (fun _ => 0))), (n25, .inl (cy 1, 6, .inl (fun _ => 0))), (n26, .inl (cy 1, 6, .inl (fun _ => 0))), (n28, .inl (cy 1, 1830, .inl (fun _ => 0))), (n31, .inl (cy 1, 5, .inl (fun _ => 0))), (n33, .inl (cy 1, 4, .inl (fun _ => 0))), (n1, .inr (6, [.ref n2, .ref n16, .int 190, .ref n17, .ref n21, .ref n27, .ref n29, .ref n30, .ref n32, .ref n18, .ref a6, .int 1, .int 0])), (n16, .inl (cy 1, 1830, .inl (fillF (fun _ => 0) 2 20 (PP 20 2 (20 + 1 - 2))))), (a6, .inr (9, [.int 0, .int 2, .int 20, .int 120, .int 0, .int 0, .int 0, .int 0, .ref a11, .int 0, .ref a12, .ref a13, .int 0, .ref a14, .ref a15, .ref a16, .ref a17])), (n4, .inl (cy 1, 0, .inl (fun _ => 0))), (n34, .inl (cy 1, 1830, .inl (learnF 0 1830))), (n6, .inl (cy 1, 0, .inl (fun _ => 0))), (n35, .inl (cy 1, 1830, .inl (learnF 2 1830))), (n2, .inr (4, [.ref n3, .ref n13, .int 0, .ref n14])), (n3, .inl (cy 5, 9, .inr (.inr (.inr (.inr (va_up (va_up (va_up (va_up (va_up (va_up (va_up (va_up (va_up (va_up (va_up (va_up (fun _ => none) 0 (some n4)) 1 (some n5)) 2 (some n6)) 3 (some n7)) 4 (some n8)) 5 (some n9)) 6 (some n10)) 7 (some n11)) 8 (some n12)) 0 (some n34)) 2 (some n35)) 3 (some n36))))))), (n7, .inl (cy 1, 0, .inl (fun _ => 0))), (n36, .inl (cy 1, 1830, .inl (learnF 3 1830))), (n21, .inr (1, [.ref n22, .ref a6, .int (-2), .int (-2), .ref n24, .int 0, .int 0, .int 0, .int 0, .int (-1), .int 0, .ref n25, .ref n26])), (n24, .inl (cy 1, 6, .inl (upd (upd (upd (upd (upd (upd (fun _ => 0) 0 (-2)) 1 (-2)) 2 (-2)) 3 (-2)) 4 (-2)) 5 (-2)))), (n27, .inr (3, [.ref n2, .ref n15, .ref a6, .int (-1), .int (-1), .ref n28, .int 0, .int 0, .int 0])), (n29, .inr (0, [.ref n2, .ref n15, .ref a6, .int 0, .int 0])), (n30, .inr (8, [.ref n29, .int (-1), .int 0, .int 0, .int 0, .int 0, .int 0, .ref n31])), (n32, .inr (7, [.ref n29, .int 0, .int (-1), .int (-1), .int (-1), .ref n33]))] _ _ := w
  refine r_top (g2 := F0 m 62 ls [.ref n1]) rfl ?_
  refine r_get C w 21 rfl rfl 8 (by decide) fl_RX11_258 (v := .ref n32) rfl dX11_shortest_62 ?_
  refine lv_astore (lv' := [(5, .ref n32), (4, .int 1), (3, .int (x1 - 10)), (0, .ref a0), (1, .int 3), (2, .int x1)]) C.1 C.2.1 dX11_shortest_65 hl (by decide) rfl (fun ls hl => ?_)
  refine lv_aload C.1 C.2.1 dX11_shortest_67 (lv_at hl 0 rfl) ?_
  refine lv_iload_n C.1 C.2.1 dX11_shortest_69 rfl (lv_at hl 4 rfl) ?_
  refine r_callV C w fv_RX11_262 (c_X7_seek_9 l D cy n32 n29 n33 n2 n15 a6 a11 a12 a13 a14 a15 a16 a17) (hl.1.trans hml.symm) [37, 35, 9, 23] [0, 1, 2, 3, 4, 5, 6, 7, 8, 10, 11, 12, 13, 14, 15, 16, 17, 18, 19, 20, 21, 22, 24, 25, 26, 27, 28, 29, 30, 31, 32, 33, 34, 36] (wr := [(a0, .inr (11, [.ref a1, .int 0, .int 0, .int (-1), .ref a2, .ref a3, .ref a4, .ref a5, .ref a6, .ref n1])), (n5, .inl (cy 1, 0, .inl (fun _ => 0))), (n8, .inl (cy 1, 0, .inl (fun _ => 0))), (n9, .inl (cy 1, 0, .inl (fun _ => 0))), (n10, .inl (cy 1, 0, .inl (fun _ => 0))), (n11, .inl (cy 1, 0, .inl (fun _ => 0))), (n12, .inl (cy 1, 0, .inl (fun _ => 0))), (n13, .inl (cy 1, 7201, .inl (fun _ => 0))), (n14, .inl (cy 1, 1830, .inl (fun _ => 0))), (n17, .inl (cy 1, 1830, .inl (fun _ => 0))), (n19, .inl (cy 1, 1830, .inl (fun _ => 0))), (n18, .inr (2, [.ref n2, .ref n19, .ref n20, .ref a6, .int 0])), (n20, .inl (cy 1, 21, .inl (fun _ => 0))), (n22, .inr (2, [.ref n2, .ref n15, .ref n23, .ref a6, .int 0])), (n23, .inl (cy 1, 21, .inl (fun _ => 0))), (n25, .inl (cy 1, 6, .inl (fun _ => 0))), (n26, .inl (cy 1, 6, .inl (fun _ => 0))), (n28, .inl (cy 1, 1830, .inl (fun _ => 0))), (n31, .inl (cy 1, 5, .inl (fun _ => 0))), (n33, .inl (cy 1, 4, .inl (fun _ => 0))), (n1, .inr (6, [.ref n2, .ref n16, .int 190, .ref n17, .ref n21, .ref n27, .ref n29, .ref n30, .ref n32, .ref n18, .ref a6, .int 1, .int 0])), (n16, .inl (cy 1, 1830, .inl (fillF (fun _ => 0) 2 20 (PP 20 2 (20 + 1 - 2))))), (n4, .inl (cy 1, 0, .inl (fun _ => 0))), (n34, .inl (cy 1, 1830, .inl (learnF 0 1830))), (n6, .inl (cy 1, 0, .inl (fun _ => 0))), (n35, .inl (cy 1, 1830, .inl (learnF 2 1830))), (n2, .inr (4, [.ref n3, .ref n13, .int 0, .ref n14])), (n3, .inl (cy 5, 9, .inr (.inr (.inr (.inr (va_up (va_up (va_up (va_up (va_up (va_up (va_up (va_up (va_up (va_up (va_up (va_up (fun _ => none) 0 (some n4)) 1 (some n5)) 2 (some n6)) 3 (some n7)) 4 (some n8)) 5 (some n9)) 6 (some n10)) 7 (some n11)) 8 (some n12)) 0 (some n34)) 2 (some n35)) 3 (some n36))))))), (n7, .inl (cy 1, 0, .inl (fun _ => 0))), (n36, .inl (cy 1, 1830, .inl (learnF 3 1830))), (n21, .inr (1, [.ref n22, .ref a6, .int (-2), .int (-2), .ref n24, .int 0, .int 0, .int 0, .int 0, .int (-1), .int 0, .ref n25, .ref n26])), (n24, .inl (cy 1, 6, .inl (upd (upd (upd (upd (upd (upd (fun _ => 0) 0 (-2)) 1 (-2)) 2 (-2)) 3 (-2)) 4 (-2)) 5 (-2)))), (n27, .inr (3, [.ref n2, .ref n15, .ref a6, .int (-1), .int (-1), .ref n28, .int 0, .int 0, .int 0])), (n30, .inr (8, [.ref n29, .int (-1), .int 0, .int 0, .int 0, .int 0, .int 0, .ref n31]))]) ⟨rfl, rfl, rfl, rfl, by decide⟩ 0 rfl rfl rfl rfl rfl ⟨Nat.le_of_ble_eq_true rfl, Nat.le_of_ble_eq_true rfl, Nat.le_of_ble_eq_true rfl⟩ 36 23817 ⟨rfl, rfl, Nat.le_of_ble_eq_true rfl, Nat.le_of_ble_eq_true rfl⟩ dX11_shortest_70 (fun u H locs hp w => ?_)
  have w : Wd D A s.heap [(a0, .inr (11, [.ref a1, .int 0, .int 0, .int (-1), .ref a2, .ref a3, .ref a4, .ref a5, .ref a6, .ref n1])), (n5, .inl (cy 1, 0, .inl (fun _ => 0))), (n8, .inl (cy 1, 0, .inl (fun _ => 0))), (n9, .inl (cy 1, 0, .inl (fun _ => 0))), (n10, .inl (cy 1, 0, .inl (fun _ => 0))), (n11, .inl (cy 1, 0, .inl (fun _ => 0))), (n12, .inl (cy 1, 0, .inl (fun _ => 0))), (n13, .inl (cy 1, 7201, .inl (fun _ => 0))), (n14, .inl (cy 1, 1830, .inl (fun _ => 0))), (n17, .inl (cy 1, 1830, .inl (fun _ => 0))), (n19, .inl (cy 1, 1830, .inl (fun _ => 0))), (n18, .inr (2, [.ref n2, .ref n19, .ref n20, .ref a6, .int 0])), (n20, .inl (cy 1, 21, .inl (fun _ => 0))), (n22, .inr (2, [.ref n2, .ref n15, .ref n23, .ref a6, .int 0])), (n23, .inl (cy 1, 21, .inl (fun _ => 0))), (n25, .inl (cy 1, 6, .inl (fun _ => 0))), (n26, .inl (cy 1, 6, .inl (fun _ => 0))), (n28, .inl (cy 1, 1830, .inl (fun _ => 0))), (n31, .inl (cy 1, 5, .inl (fun _ => 0))), (n33, .inl (cy 1, 4, .inl (fun _ => 0))), (n1, .inr (6, [.ref n2, .ref n16, .int 190, .ref n17, .ref n21, .ref n27, .ref n29, .ref n30, .ref n32, .ref n18, .ref a6, .int 1, .int 0])), (n16, .inl (cy 1, 1830, .inl (fillF (fun _ => 0) 2 20 (PP 20 2 (20 + 1 - 2))))), (n4, .inl (cy 1, 0, .inl (fun _ => 0))), (n34, .inl (cy 1, 1830, .inl (learnF 0 1830))), (n6, .inl (cy 1, 0, .inl (fun _ => 0))), (n35, .inl (cy 1, 1830, .inl (learnF 2 1830))), (n2, .inr (4, [.ref n3, .ref n13, .int 0, .ref n14])), (n3, .inl (cy 5, 9, .inr (.inr (.inr (.inr (va_up (va_up (va_up (va_up (va_up (va_up (va_up (va_up (va_up (va_up (va_up (va_up (fun _ => none) 0 (some n4)) 1 (some n5)) 2 (some n6)) 3 (some n7)) 4 (some n8)) 5 (some n9)) 6 (some n10)) 7 (some n11)) 8 (some n12)) 0 (some n34)) 2 (some n35)) 3 (some n36))))))), (n7, .inl (cy 1, 0, .inl (fun _ => 0))), (n36, .inl (cy 1, 1830, .inl (learnF 3 1830))), (n21, .inr (1, [.ref n22, .ref a6, .int (-2), .int (-2), .ref n24, .int 0, .int 0, .int 0, .int 0, .int (-1), .int 0, .ref n25, .ref n26])), (n24, .inl (cy 1, 6, .inl (upd (upd (upd (upd (upd (upd (fun _ => 0) 0 (-2)) 1 (-2)) 2 (-2)) 3 (-2)) 4 (-2)) 5 (-2)))), (n27, .inr (3, [.ref n2, .ref n15, .ref a6, .int (-1), .int (-1), .ref n28, .int 0, .int 0, .int 0])), (n30, .inr (8, [.ref n29, .int (-1), .int 0, .int 0, .int 0, .int 0, .int 0, .ref n31])), (n15, .inl (cy 1, 1830, .inl (fillF (fun _ => 0) 2 20 (PP 20 2 (20 + 1 - 2))))), (n32, .inr (7, [.ref n29, .int 4, .int 3, .int (-1), .int (-1), .ref n33])), (n29, .inr (0, [.ref n2, .ref n15, .ref a6, .int 0, .int 190])), (a6, .inr (9, [.int 0, .int 2, .int 20, .int 120, .int 0, .int 0, .int 0, .int 0, .ref a11, .int 0, .ref a12, .ref a13, .int 0, .ref a14, .ref a15, .ref a16, .ref a17]))] _ _ := w
  refine r_top (g2 := F0 m 73 ls []) rfl ?_
  refine lv_aload C.1 C.2.1 dX11_shortest_73 (lv_at hl 0 rfl) ?_
  refine r_get C w 35 rfl rfl 3 (by decide) fl_RX11_264 (v := .int (-1)) rfl dX11_shortest_75 ?_
  refine lv_iconst (v := (-1)) C.1 C.2.1 dX11_shortest_78 (by decide) ?_
  refine b_icmp_eq_t C (tgt := 91) dX11_shortest_79 (by decide) (by decide) ?_
  refine lv_iconst (v := (-1)) C.1 C.2.1 dX11_shortest_91 (by decide) ?_
  exact r_iret C w hlocks (n1, n2, n3, n4, n5, n6, n7, n8, n9, n10, n11, n12, n13, n14, n15, n16, n17, n18, n19, n20, n21, n22, n23, n24, n25, n26, n27, n28, n29, n30, n31, n32, n33, n34, n35, n36) hr rfl rfl trivial [0, 1, 2, 3, 4, 5, 6, 7, 8, 9, 10, 11, 12, 13, 14, 15, 16, 17, 18, 19, 20, 21, 22, 23, 24, 25, 26, 27, 28, 29, 30, 31, 32, 33, 34, 35, 36, 37] rfl rfl ⟨Nat.le_of_ble_eq_true rfl, Nat.le_of_ble_eq_true rfl⟩ dX11_shortest_92
set_option maxRecDepth 100000 in
set_option maxHeartbeats 4000000 in
theorem c_X11_shortest_19 (l : Launch) (D : va_G) (cy : Nat → ClassId) (a0 a1 a2 a3 a4 a5 a6 a11 a12 a13 a14 a15 a16 a17 : Nat) (x1 : Int32) (k0 : ¬ x1 < 10) (k1 : ¬ 4 ≤ (x1 - 10)) : Ct l D cy yX11_shortest cX11_shortest 6 (some .int) 5 118 36 23817 [(a0, .inr (11, [.ref a1, .int 0, .int 0, .int (-1), .ref a2, .ref a3, .ref a4, .ref a5, .ref a6, .null])), (a6, .inr (9, [.int 0, .int 2, .int 20, .int 120, .int 0, .int 0, .int 0, .int 0, .ref a11, .int 0, .ref a12, .ref a13, .int 0, .ref a14, .ref a15, .ref a16, .ref a17]))] [.ref a0, .int 2, .int x1] (fun u : Nat × Nat × Nat × Nat × Nat × Nat × Nat × Nat × Nat × Nat × Nat × Nat × Nat × Nat × Nat × Nat × Nat × Nat × Nat × Nat × Nat × Nat × Nat × Nat × Nat × Nat × Nat × Nat × Nat × Nat × Nat × Nat × Nat × Nat × Nat × Nat => some (.int (-1))) (fun _ => True) (fun u : Nat × Nat × Nat × Nat × Nat × Nat × Nat × Nat × Nat × Nat × Nat × Nat × Nat × Nat × Nat × Nat × Nat × Nat × Nat × Nat × Nat × Nat × Nat × Nat × Nat × Nat × Nat × Nat × Nat × Nat × Nat × Nat × Nat × Nat × Nat × Nat => [(a0, .inr (11, [.ref a1, .int 0, .int 0, .int (-1), .ref a2, .ref a3, .ref a4, .ref a5, .ref a6, .ref u.1])), (u.2.2.2.2.1, .inl (cy 1, 0, .inl (fun _ => 0))), (u.2.2.2.2.2.2.2.1, .inl (cy 1, 0, .inl (fun _ => 0))), (u.2.2.2.2.2.2.2.2.1, .inl (cy 1, 0, .inl (fun _ => 0))), (u.2.2.2.2.2.2.2.2.2.1, .inl (cy 1, 0, .inl (fun _ => 0))), (u.2.2.2.2.2.2.2.2.2.2.1, .inl (cy 1, 0, .inl (fun _ => 0))), (u.2.2.2.2.2.2.2.2.2.2.2.1, .inl (cy 1, 0, .inl (fun _ => 0))), (u.2.2.2.2.2.2.2.2.2.2.2.2.1, .inl (cy 1, 7201, .inl (fun _ => 0))), (u.2.2.2.2.2.2.2.2.2.2.2.2.2.1, .inl (cy 1, 1830, .inl (fun _ => 0))), (u.2.2.2.2.2.2.2.2.2.2.2.2.2.2.2.2.1, .inl (cy 1, 1830, .inl (fun _ => 0))), (u.2.2.2.2.2.2.2.2.2.2.2.2.2.2.2.2.2.2.1, .inl (cy 1, 1830, .inl (fun _ => 0))), (u.2.2.2.2.2.2.2.2.2.2.2.2.2.2.2.2.2.1, .inr (2, [.ref u.2.1, .ref u.2.2.2.2.2.2.2.2.2.2.2.2.2.2.2.2.2.2.1, .ref u.2.2.2.2.2.2.2.2.2.2.2.2.2.2.2.2.2.2.2.1, .ref a6, .int 0])), (u.2.2.2.2.2.2.2.2.2.2.2.2.2.2.2.2.2.2.2.1, .inl (cy 1, 21, .inl (fun _ => 0))), (u.2.2.2.2.2.2.2.2.2.2.2.2.2.2.2.2.2.2.2.2.2.1, .inr (2, [.ref u.2.1, .ref u.2.2.2.2.2.2.2.2.2.2.2.2.2.2.1, .ref u.2.2.2.2.2.2.2.2.2.2.2.2.2.2.2.2.2.2.2.2.2.2.1, .ref a6, .int 0])), (u.2.2.2.2.2.2.2.2.2.2.2.2.2.2.2.2.2.2.2.2.2.2.1, .inl (cy 1, 21, .inl (fun _ => 0))), (u.2.2.2.2.2.2.2.2.2.2.2.2.2.2.2.2.2.2.2.2.2.2.2.2.1, .inl (cy 1, 6, .inl (fun _ => 0))), (u.2.2.2.2.2.2.2.2.2.2.2.2.2.2.2.2.2.2.2.2.2.2.2.2.2.1, .inl (cy 1, 6, .inl (fun _ => 0))), (u.2.2.2.2.2.2.2.2.2.2.2.2.2.2.2.2.2.2.2.2.2.2.2.2.2.2.2.1, .inl (cy 1, 1830, .inl (fun _ => 0))), (u.2.2.2.2.2.2.2.2.2.2.2.2.2.2.2.2.2.2.2.2.2.2.2.2.2.2.2.2.2.2.1, .inl (cy 1, 5, .inl (fun _ => 0))), (u.2.2.2.2.2.2.2.2.2.2.2.2.2.2.2.2.2.2.2.2.2.2.2.2.2.2.2.2.2.2.2.2.1, .inl (cy 1, 4, .inl (fun _ => 0))), (u.1, .inr (6, [.ref u.2.1, .ref u.2.2.2.2.2.2.2.2.2.2.2.2.2.2.2.1, .int 190, .ref u.2.2.2.2.2.2.2.2.2.2.2.2.2.2.2.2.1, .ref u.2.2.2.2.2.2.2.2.2.2.2.2.2.2.2.2.2.2.2.2.1, .ref u.2.2.2.2.2.2.2.2.2.2.2.2.2.2.2.2.2.2.2.2.2.2.2.2.2.2.1, .ref u.2.2.2.2.2.2.2.2.2.2.2.2.2.2.2.2.2.2.2.2.2.2.2.2.2.2.2.2.1, .ref u.2.2.2.2.2.2.2.2.2.2.2.2.2.2.2.2.2.2.2.2.2.2.2.2.2.2.2.2.2.1, .ref u.2.2.2.2.2.2.2.2.2.2.2.2.2.2.2.2.2.2.2.2.2.2.2.2.2.2.2.2.2.2.2.1, .ref u.2.2.2.2.2.2.2.2.2.2.2.2.2.2.2.2.2.1, .ref a6, .int 1, .int 0])), (u.2.2.2.2.2.2.2.2.2.2.2.2.2.2.2.1, .inl (cy 1, 1830, .inl (fillF (fun _ => 0) 2 20 (PP 20 2 (20 + 1 - 2))))), (u.2.2.2.1, .inl (cy 1, 0, .inl (fun _ => 0))), (u.2.2.2.2.2.2.2.2.2.2.2.2.2.2.2.2.2.2.2.2.2.2.2.2.2.2.2.2.2.2.2.2.2.1, .inl (cy 1, 1830, .inl (learnF 0 1830))), (u.2.2.2.2.2.1, .inl (cy 1, 0, .inl (fun _ => 0))), (u.2.2.2.2.2.2.2.2.2.2.2.2.2.2.2.2.2.2.2.2.2.2.2.2.2.2.2.2.2.2.2.2.2.2.1, .inl (cy 1, 1830, .inl (learnF 2 1830))), (u.2.1, .inr (4, [.ref u.2.2.1, .ref u.2.2.2.2.2.2.2.2.2.2.2.2.1, .int 0, .ref u.2.2.2.2.2.2.2.2.2.2.2.2.2.1])), (u.2.2.1, .inl (cy 5, 9, .inr (.inr (.inr (.inr (va_up (va_up (va_up (va_up (va_up (va_up (va_up (va_up (va_up (va_up (va_up (va_up (fun _ => none) 0 (some u.2.2.2.1)) 1 (some u.2.2.2.2.1)) 2 (some u.2.2.2.2.2.1)) 3 (some u.2.2.2.2.2.2.1)) 4 (some u.2.2.2.2.2.2.2.1)) 5 (some u.2.2.2.2.2.2.2.2.1)) 6 (some u.2.2.2.2.2.2.2.2.2.1)) 7 (some u.2.2.2.2.2.2.2.2.2.2.1)) 8 (some u.2.2.2.2.2.2.2.2.2.2.2.1)) 0 (some u.2.2.2.2.2.2.2.2.2.2.2.2.2.2.2.2.2.2.2.2.2.2.2.2.2.2.2.2.2.2.2.2.2.1)) 2 (some u.2.2.2.2.2.2.2.2.2.2.2.2.2.2.2.2.2.2.2.2.2.2.2.2.2.2.2.2.2.2.2.2.2.2.1)) 3 (some u.2.2.2.2.2.2.2.2.2.2.2.2.2.2.2.2.2.2.2.2.2.2.2.2.2.2.2.2.2.2.2.2.2.2.2))))))), (u.2.2.2.2.2.2.1, .inl (cy 1, 0, .inl (fun _ => 0))), (u.2.2.2.2.2.2.2.2.2.2.2.2.2.2.2.2.2.2.2.2.2.2.2.2.2.2.2.2.2.2.2.2.2.2.2, .inl (cy 1, 1830, .inl (learnF 3 1830))), (u.2.2.2.2.2.2.2.2.2.2.2.2.2.2.2.2.2.2.2.2.1, .inr (1, [.ref u.2.2.2.2.2.2.2.2.2.2.2.2.2.2.2.2.2.2.2.2.2.1, .ref a6, .int (-2), .int (-2), .ref u.2.2.2.2.2.2.2.2.2.2.2.2.2.2.2.2.2.2.2.2.2.2.2.1, .int 0, .int 0, .int 0, .int 0, .int (-1), .int 0, .ref u.2.2.2.2.2.2.2.2.2.2.2.2.2.2.2.2.2.2.2.2.2.2.2.2.1, .ref u.2.2.2.2.2.2.2.2.2.2.2.2.2.2.2.2.2.2.2.2.2.2.2.2.2.1])), (u.2.2.2.2.2.2.2.2.2.2.2.2.2.2.2.2.2.2.2.2.2.2.2.1, .inl (cy 1, 6, .inl (upd (upd (upd (upd (upd (upd (fun _ => 0) 0 (-2)) 1 (-2)) 2 (-2)) 3 (-2)) 4 (-2)) 5 (-2)))), (u.2.2.2.2.2.2.2.2.2.2.2.2.2.2.2.2.2.2.2.2.2.2.2.2.2.2.1, .inr (3, [.ref u.2.1, .ref u.2.2.2.2.2.2.2.2.2.2.2.2.2.2.1, .ref a6, .int (-1), .int (-1), .ref u.2.2.2.2.2.2.2.2.2.2.2.2.2.2.2.2.2.2.2.2.2.2.2.2.2.2.2.1, .int 0, .int 0, .int 0])), (u.2.2.2.2.2.2.2.2.2.2.2.2.2.2.2.2.2.2.2.2.2.2.2.2.2.2.2.2.2.1, .inr (8, [.ref u.2.2.2.2.2.2.2.2.2.2.2.2.2.2.2.2.2.2.2.2.2.2.2.2.2.2.2.2.1, .int (-1), .int 0, .int 0, .int 0, .int 0, .int 0, .ref u.2.2.2.2.2.2.2.2.2.2.2.2.2.2.2.2.2.2.2.2.2.2.2.2.2.2.2.2.2.2.1])), (u.2.2.2.2.2.2.2.2.2.2.2.2.2.2.1, .inl (cy 1, 1830, .inl (fillF (fun _ => 0) 2 20 (PP 20 2 (20 + 1 - 2))))), (u.2.2.2.2.2.2.2.2.2.2.2.2.2.2.2.2.2.2.2.2.2.2.2.2.2.2.2.2.2.2.2.1, .inr (7, [.ref u.2.2.2.2.2.2.2.2.2.2.2.2.2.2.2.2.2.2.2.2.2.2.2.2.2.2.2.2.1, .int 3, .int 2, .int (-1), .int (-1), .ref u.2.2.2.2.2.2.2.2.2.2.2.2.2.2.2.2.2.2.2.2.2.2.2.2.2.2.2.2.2.2.2.2.1])), (u.2.2.2.2.2.2.2.2.2.2.2.2.2.2.2.2.2.2.2.2.2.2.2.2.2.2.2.2.1, .inr (0, [.ref u.2.1, .ref u.2.2.2.2.2.2.2.2.2.2.2.2.2.2.1, .ref a6, .int 0, .int 190])), (a6, .inr (9, [.int 0, .int 2, .int 20, .int 120, .int 0, .int 0, .int 0, .int 0, .ref a11, .int 0, .ref a12, .ref a13, .int 0, .ref a14, .ref a15, .ref a16, .ref a17]))]) := by
  refine Ct.of (by decide +kernel) (Nat.le_of_ble_eq_true rfl) ?_
  intro p e s m args below meth c A ls C hr hlocks hml hnm w hl
  have hl : lv_has ls 6 [(0, .ref a0), (1, .int 2), (2, .int x1)] := hl
  refine lv_iload_n C.1 C.2.1 dX11_shortest_0 rfl (lv_at hl 2 rfl) ?_
  refine lv_bipush (v := 10) C.1 C.2.1 dX11_shortest_1 (by decide) ?_
  refine r_isub C (v := (x1 - 10)) dX11_shortest_3 rfl ?_
  refine lv_istore_n (lv' := [(3, .int (x1 - 10)), (0, .ref a0), (1, .int 2), (2, .int x1)]) C.1 C.2.1 dX11_shortest_4 rfl hl (by decide) rfl (fun ls hl => ?_)
  refine lv_iload_n C.1 C.2.1 dX11_shortest_5 rfl (lv_at hl 3 rfl) ?_
  refine lv_bipush (v := 10) C.1 C.2.1 dX11_shortest_6 (by decide) ?_
  refine b_icmp_lt_f C (tgt := 20) dX11_shortest_8 (by decide) k0 ?_
  refine lv_iload_n C.1 C.2.1 dX11_shortest_11 rfl (lv_at hl 0 rfl) ?_
  refine lv_iconst (v := 4) C.1 C.2.1 dX11_shortest_12 (by decide) ?_
  refine b_icmp_ge_f C (tgt := 20) dX11_shortest_13 (by decide) k1 ?_
  refine lv_iconst (v := 1) C.1 C.2.1 dX11_shortest_16 (by decide) ?_
  refine lv_goto (tgt := 21) C.1 C.2.1 dX11_shortest_17 (by decide) ?_
  refine lv_istore (lv' := [(4, .int 1), (3, .int (x1 - 10)), (0, .ref a0), (1, .int 2), (2, .int x1)]) C.1 C.2.1 dX11_shortest_21 hl (by decide) rfl (fun ls hl => ?_)
  refine lv_iload_n C.1 C.2.1 dX11_shortest_23 rfl (lv_at hl 3 rfl) ?_
  refine lv_iconst (v := 1) C.1 C.2.1 dX11_shortest_24 (by decide) ?_
  refine b_icmp_lt_f C (tgt := 47) dX11_shortest_25 (by decide) (by decide) ?_
  refine lv_iload_n C.1 C.2.1 dX11_shortest_28 rfl (lv_at hl 3 rfl) ?_
  refine lv_iconst (v := 4) C.1 C.2.1 dX11_shortest_29 (by decide) ?_
  refine b_icmp_gt_f C (tgt := 47) dX11_shortest_30 (by decide) (by decide) ?_
  refine lv_iload_n C.1 C.2.1 dX11_shortest_33 rfl (lv_at hl 4 rfl) ?_
  refine b_if_eq_f C (tgt := 58) dX11_shortest_34 (by decide) (by have h0 := (i_nlt k0); have e0 : (0 : Int32).toInt = 0 := (by decide); have e1 : (10 : Int32).toInt = 10 := (by decide); rw [fa_eq]; omega) ?_
  refine lv_iload_n C.1 C.2.1 dX11_shortest_37 rfl (lv_at hl 4 rfl) ?_
  refine lv_iconst (v := 1) C.1 C.2.1 dX11_shortest_38 (by decide) ?_
  refine b_icmp_eq_f C (tgt := 58) dX11_shortest_39 (by decide) (by have h0 := (i_nlt k0); have e0 : (1 : Int32).toInt = 1 := (by decide); have e1 : (10 : Int32).toInt = 10 := (by decide); rw [fa_eq]; omega) ?_
  refine lv_iload C.1 C.2.1 dX11_shortest_42 (lv_at hl 0 rfl) ?_
  refine b_if_ne_t C (tgt := 58) dX11_shortest_44 (by decide) (by decide) ?_
  refine lv_aload_n C.1 C.2.1 dX11_shortest_58 rfl (lv_at hl 2 rfl) ?_
  refine r_callV C w fv_RX11_100 (c_X11_view_0 l D cy a0 a1 a2 a3 a4 a5 a6 a11 a12 a13 a14 a15 a16 a17) (hl.1.trans hml.symm) [0, 1] [] (wr := []) ⟨rfl, rfl, rfl, rfl, by decide⟩ 0 rfl rfl rfl rfl rfl ⟨Nat.le_of_ble_eq_true rfl, Nat.le_of_ble_eq_true rfl, Nat.le_of_ble_eq_true rfl⟩ 36 23817 ⟨rfl, rfl, Nat.le_of_ble_eq_true rfl, Nat.le_of_ble_eq_true rfl⟩ dX11_shortest_59 (fun u H locs hp w => ?_)
  obtain ⟨n1, n2, n3, n4, n5, n6, n7, n8, n9, n10, n11, n12, n13, n14, n15, n16, n17, n18, n19, n20, n21, n22, n23, n24, n25, n26, n27, n28, n29, n30, n31, n32, n33, n34, n35, n36⟩ := u
  have w : Wd D A s.heap [(a0, .inr (11, [.ref a1, .int 0, .int 0, .int (-1), .ref a2, .ref a3, .ref a4, .ref a5, .ref a6, .ref n1])), (n5, .inl (cy 1, 0, .inl (fun _ => 0))), (n8, .inl (cy 1, 0, .inl (fun _ => 0))), (n9, .inl (cy 1, 0, .inl (fun _ => 0))), (n10, .inl (cy 1, 0, .inl (fun _ => 0))), (n11, .inl (cy 1, 0, .inl (fun _ => 0))), (n12, .inl (cy 1, 0, .inl (fun _ => 0))), (n13, .inl (cy 1, 7201, .inl (fun _ => 0))), (n14, .inl (cy 1, 1830, .inl (fun _ => 0))), (n15, .inl (cy 1, 1830, .inl (fun _ => 0))), (n17, .inl (cy 1, 1830, .inl (fun _ => 0))), (n19, .inl (cy 1, 1830, .inl (fun _ => 0))), (n18, .inr (2, [.ref n2, .ref n19, .ref n20, .ref a6, .int 0])), (n20, .inl (cy 1, 21, .inl (fun _ => 0))), (n22, .inr (2, [.ref n2, .ref n15, .ref n23, .ref a6, .int 0])), (n23, .inl (cy 1, 21, .inl (fun _ => 0))), (n25, .inl (cy 1, 6, .inl (fun _ => 0))), (n26, .inl (cy 1, 6, .inl (fun _ => 0))), (n28, .inl (cy 1, 1830, .inl (fun _ => 0))), (n31, .inl (cy 1, 5, .inl (fun _ => 0))), (n33, .inl (cy 1, 4, .inl (fun _ => 0))), (n1, .inr (6, [.ref n2, .ref n16, .int 190, .ref n17, .ref n21, .ref n27, .ref n29, .ref n30, .ref n32, .ref n18, .ref a6, .int 1, .int 0])), (n16, .inl (cy 1, 1830, .inl (fillF (fun _ => 0) 2 20 (PP 20 2 (20 + 1 - 2))))), (a6, .inr (9, [.int 0, .int 2, .int 20, .int 120, .int 0, .int 0, .int 0, .int 0, .ref a11, .int 0, .ref a12, .ref a13, .int 0, .ref a14, .ref a15, .ref a16, .ref a17])), (n4, .inl (cy 1, 0, .inl (fun _ => 0))), (n34, .inl (cy 1, 1830, .inl (learnF 0 1830))), (n6, .inl (cy 1, 0, .inl (fun _ => 0))), (n35, .inl (cy 1, 1830, .inl (learnF 2 1830))), (n2, .inr (4, [.ref n3, .ref n13, .int 0, .ref n14])), (n3, .inl (cy 5, 9, .inr (.inr (.inr (.inr (va_up (va_up (va_up (va_up (va_up (va_up (va_up (va_up (va_up (va_up (va_up (va_up (fun _ => none) 0 (some n4)) 1 (some n5)) 2 (some n6)) 3 (some n7)) 4 (some n8)) 5 (some n9)) 6 (some n10)) 7 (some n11)) 8 (some n12)) 0 (some n34)) 2 (some n35)) 3 (some n36))))))), (n7, .inl (cy 1, 0, .inl (fun _ => 0))), (n36, .inl (cy 1, 1830, .inl (learnF 3 1830))), (n21, .inr (1, [.ref n22, .ref a6, .int (-2), .int (-2), .ref n24, .int 0, .int 0, .int 0, .int 0, .int (-1), .int 0, .ref n25, .ref n26])), (n24, .inl (cy 1, 6, .inl (upd (upd (upd (upd (upd (upd (fun _ => 0) 0 (-2)) 1 (-2)) 2 (-2)) 3 (-2)) 4 (-2)) 5 (-2)))), (n27, .inr (3, [.ref n2, .ref n15, .ref a6, .int (-1), .int (-1), .ref n28, .int 0, .int 0, .int 0])), (n29, .inr (0, [.ref n2, .ref n15, .ref a6, .int 0, .int 0])), (n30, .inr (8, [.ref n29, .int (-1), .int 0, .int 0, .int 0, .int 0, .int 0, .ref n31])), (n32, .inr (7, [.ref n29, .int 0, .int (-1), .int (-1), .int (-1), .ref n33]))] _ _ := w
  refine r_top (g2 := F0 m 62 ls [.ref n1]) rfl ?_
  refine r_get C w 21 rfl rfl 8 (by decide) fl_RX11_258 (v := .ref n32) rfl dX11_shortest_62 ?_
  refine lv_astore (lv' := [(5, .ref n32), (4, .int 1), (3, .int (x1 - 10)), (0, .ref a0), (1, .int 2), (2, .int x1)]) C.1 C.2.1 dX11_shortest_65 hl (by decide) rfl (fun ls hl => ?_)
  refine lv_aload C.1 C.2.1 dX11_shortest_67 (lv_at hl 0 rfl) ?_
  refine lv_iload_n C.1 C.2.1 dX11_shortest_69 rfl (lv_at hl 4 rfl) ?_
  refine r_callV C w fv_RX11_262 (c_X7_seek_10 l D cy n32 n29 n33 n2 n15 a6 a11 a12 a13 a14 a15 a16 a17) (hl.1.trans hml.symm) [37, 35, 9, 23] [0, 1, 2, 3, 4, 5, 6, 7, 8, 10, 11, 12, 13, 14, 15, 16, 17, 18, 19, 20, 21, 22, 24, 25, 26, 27, 28, 29, 30, 31, 32, 33, 34, 36] (wr := [(a0, .inr (11, [.ref a1, .int 0, .int 0, .int (-1), .ref a2, .ref a3, .ref a4, .ref a5, .ref a6, .ref n1])), (n5, .inl (cy 1, 0, .inl (fun _ => 0))), (n8, .inl (cy 1, 0, .inl (fun _ => 0))), (n9, .inl (cy 1, 0, .inl (fun _ => 0))), (n10, .inl (cy 1, 0, .inl (fun _ => 0))), (n11, .inl (cy 1, 0, .inl (fun _ => 0))), (n12, .inl (cy 1, 0, .inl (fun _ => 0))), (n13, .inl (cy 1, 7201, .inl (fun _ => 0))), (n14, .inl (cy 1, 1830, .inl (fun _ => 0))), (n17, .inl (cy 1, 1830, .inl (fun _ => 0))), (n19, .inl (cy 1, 1830, .inl (fun _ => 0))), (n18, .inr (2, [.ref n2, .ref n19, .ref n20, .ref a6, .int 0])), (n20, .inl (cy 1, 21, .inl (fun _ => 0))), (n22, .inr (2, [.ref n2, .ref n15, .ref n23, .ref a6, .int 0])), (n23, .inl (cy 1, 21, .inl (fun _ => 0))), (n25, .inl (cy 1, 6, .inl (fun _ => 0))), (n26, .inl (cy 1, 6, .inl (fun _ => 0))), (n28, .inl (cy 1, 1830, .inl (fun _ => 0))), (n31, .inl (cy 1, 5, .inl (fun _ => 0))), (n33, .inl (cy 1, 4, .inl (fun _ => 0))), (n1, .inr (6, [.ref n2, .ref n16, .int 190, .ref n17, .ref n21, .ref n27, .ref n29, .ref n30, .ref n32, .ref n18, .ref a6, .int 1, .int 0])), (n16, .inl (cy 1, 1830, .inl (fillF (fun _ => 0) 2 20 (PP 20 2 (20 + 1 - 2))))), (n4, .inl (cy 1, 0, .inl (fun _ => 0))), (n34, .inl (cy 1, 1830, .inl (learnF 0 1830))), (n6, .inl (cy 1, 0, .inl (fun _ => 0))), (n35, .inl (cy 1, 1830, .inl (learnF 2 1830))), (n2, .inr (4, [.ref n3, .ref n13, .int 0, .ref n14])), (n3, .inl (cy 5, 9, .inr (.inr (.inr (.inr (va_up (va_up (va_up (va_up (va_up (va_up (va_up (va_up (va_up (va_up (va_up (va_up (fun _ => none) 0 (some n4)) 1 (some n5)) 2 (some n6)) 3 (some n7)) 4 (some n8)) 5 (some n9)) 6 (some n10)) 7 (some n11)) 8 (some n12)) 0 (some n34)) 2 (some n35)) 3 (some n36))))))), (n7, .inl (cy 1, 0, .inl (fun _ => 0))), (n36, .inl (cy 1, 1830, .inl (learnF 3 1830))), (n21, .inr (1, [.ref n22, .ref a6, .int (-2), .int (-2), .ref n24, .int 0, .int 0, .int 0, .int 0, .int (-1), .int 0, .ref n25, .ref n26])), (n24, .inl (cy 1, 6, .inl (upd (upd (upd (upd (upd (upd (fun _ => 0) 0 (-2)) 1 (-2)) 2 (-2)) 3 (-2)) 4 (-2)) 5 (-2)))), (n27, .inr (3, [.ref n2, .ref n15, .ref a6, .int (-1), .int (-1), .ref n28, .int 0, .int 0, .int 0])), (n30, .inr (8, [.ref n29, .int (-1), .int 0, .int 0, .int 0, .int 0, .int 0, .ref n31]))]) ⟨rfl, rfl, rfl, rfl, by decide⟩ 0 rfl rfl rfl rfl rfl ⟨Nat.le_of_ble_eq_true rfl, Nat.le_of_ble_eq_true rfl, Nat.le_of_ble_eq_true rfl⟩ 36 23817 ⟨rfl, rfl, Nat.le_of_ble_eq_true rfl, Nat.le_of_ble_eq_true rfl⟩ dX11_shortest_70 (fun u H locs hp w => ?_)
  have w : Wd D A s.heap [(a0, .inr (11, [.ref a1, .int 0, .int 0, .int (-1), .ref a2, .ref a3, .ref a4, .ref a5, .ref a6, .ref n1])), (n5, .inl (cy 1, 0, .inl (fun _ => 0))), (n8, .inl (cy 1, 0, .inl (fun _ => 0))), (n9, .inl (cy 1, 0, .inl (fun _ => 0))), (n10, .inl (cy 1, 0, .inl (fun _ => 0))), (n11, .inl (cy 1, 0, .inl (fun _ => 0))), (n12, .inl (cy 1, 0, .inl (fun _ => 0))), (n13, .inl (cy 1, 7201, .inl (fun _ => 0))), (n14, .inl (cy 1, 1830, .inl (fun _ => 0))), (n17, .inl (cy 1, 1830, .inl (fun _ => 0))), (n19, .inl (cy 1, 1830, .inl (fun _ => 0))), (n18, .inr (2, [.ref n2, .ref n19, .ref n20, .ref a6, .int 0])), (n20, .inl (cy 1, 21, .inl (fun _ => 0))), (n22, .inr (2, [.ref n2, .ref n15, .ref n23, .ref a6, .int 0])), (n23, .inl (cy 1, 21, .inl (fun _ => 0))), (n25, .inl (cy 1, 6, .inl (fun _ => 0))), (n26, .inl (cy 1, 6, .inl (fun _ => 0))), (n28, .inl (cy 1, 1830, .inl (fun _ => 0))), (n31, .inl (cy 1, 5, .inl (fun _ => 0))), (n33, .inl (cy 1, 4, .inl (fun _ => 0))), (n1, .inr (6, [.ref n2, .ref n16, .int 190, .ref n17, .ref n21, .ref n27, .ref n29, .ref n30, .ref n32, .ref n18, .ref a6, .int 1, .int 0])), (n16, .inl (cy 1, 1830, .inl (fillF (fun _ => 0) 2 20 (PP 20 2 (20 + 1 - 2))))), (n4, .inl (cy 1, 0, .inl (fun _ => 0))), (n34, .inl (cy 1, 1830, .inl (learnF 0 1830))), (n6, .inl (cy 1, 0, .inl (fun _ => 0))), (n35, .inl (cy 1, 1830, .inl (learnF 2 1830))), (n2, .inr (4, [.ref n3, .ref n13, .int 0, .ref n14])), (n3, .inl (cy 5, 9, .inr (.inr (.inr (.inr (va_up (va_up (va_up (va_up (va_up (va_up (va_up (va_up (va_up (va_up (va_up (va_up (fun _ => none) 0 (some n4)) 1 (some n5)) 2 (some n6)) 3 (some n7)) 4 (some n8)) 5 (some n9)) 6 (some n10)) 7 (some n11)) 8 (some n12)) 0 (some n34)) 2 (some n35)) 3 (some n36))))))), (n7, .inl (cy 1, 0, .inl (fun _ => 0))), (n36, .inl (cy 1, 1830, .inl (learnF 3 1830))), (n21, .inr (1, [.ref n22, .ref a6, .int (-2), .int (-2), .ref n24, .int 0, .int 0, .int 0, .int 0, .int (-1), .int 0, .ref n25, .ref n26])), (n24, .inl (cy 1, 6, .inl (upd (upd (upd (upd (upd (upd (fun _ => 0) 0 (-2)) 1 (-2)) 2 (-2)) 3 (-2)) 4 (-2)) 5 (-2)))), (n27, .inr (3, [.ref n2, .ref n15, .ref a6, .int (-1), .int (-1), .ref n28, .int 0, .int 0, .int 0])), (n30, .inr (8, [.ref n29, .int (-1), .int 0, .int 0, .int 0, .int 0, .int 0, .ref n31])), (n15, .inl (cy 1, 1830, .inl (fillF (fun _ => 0) 2 20 (PP 20 2 (20 + 1 - 2))))), (n32, .inr (7, [.ref n29, .int 3, .int 2, .int (-1), .int (-1), .ref n33])), (n29, .inr (0, [.ref n2, .ref n15, .ref a6, .int 0, .int 190])), (a6, .inr (9, [.int 0, .int 2, .int 20, .int 120, .int 0, .int 0, .int 0, .int 0, .ref a11, .int 0, .ref a12, .ref a13, .int 0, .ref a14, .ref a15, .ref a16, .ref a17]))] _ _ := w
  refine r_top (g2 := F0 m 73 ls []) rfl ?_
  refine lv_aload C.1 C.2.1 dX11_shortest_73 (lv_at hl 0 rfl) ?_
  refine r_get C w 35 rfl rfl 3 (by decide) fl_RX11_264 (v := .int (-1)) rfl dX11_shortest_75 ?_
  refine lv_iconst (v := (-1)) C.1 C.2.1 dX11_shortest_78 (by decide) ?_
  refine b_icmp_eq_t C (tgt := 91) dX11_shortest_79 (by decide) (by decide) ?_
  refine lv_iconst (v := (-1)) C.1 C.2.1 dX11_shortest_91 (by decide) ?_
  exact r_iret C w hlocks (n1, n2, n3, n4, n5, n6, n7, n8, n9, n10, n11, n12, n13, n14, n15, n16, n17, n18, n19, n20, n21, n22, n23, n24, n25, n26, n27, n28, n29, n30, n31, n32, n33, n34, n35, n36) hr rfl rfl trivial [0, 1, 2, 3, 4, 5, 6, 7, 8, 9, 10, 11, 12, 13, 14, 15, 16, 17, 18, 19, 20, 21, 22, 23, 24, 25, 26, 27, 28, 29, 30, 31, 32, 33, 34, 35, 36, 37] rfl rfl ⟨Nat.le_of_ble_eq_true rfl, Nat.le_of_ble_eq_true rfl⟩ dX11_shortest_92
