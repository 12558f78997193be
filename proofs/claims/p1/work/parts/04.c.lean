theorem dX12_feed_0 : decode cX12_feed 0 = .ok (.aload_n 0, 1) := by decide +kernel
theorem dX12_feed_1 : decode cX12_feed 1 = .ok (.iconst 0, 1) := by decide +kernel
theorem dX12_feed_2 : decode cX12_feed 2 = .ok (.putfield 71, 3) := by decide +kernel
theorem fl_RX12_71 : Cond.fieldLink RX12 71 "TwoSlipsModel" "thrown" "I" ∈ gw := gw_mem (by decide +kernel) (by decide +kernel)
theorem dX12_feed_5 : decode cX12_feed 5 = .ok (.aload_n 0, 1) := by decide +kernel
theorem fl_RX12_74 : Cond.fieldLink RX12 74 "TwoSlipsModel" "taped" "I" ∈ gw := gw_mem (by decide +kernel) (by decide +kernel)
theorem dX12_feed_6 : decode cX12_feed 6 = .ok (.getfield 74, 3) := by decide +kernel
theorem dX12_feed_9 : decode cX12_feed 9 = .ok (.bipush 20, 2) := by decide +kernel
theorem dX12_feed_11 : decode cX12_feed 11 = .ok (.iadd, 1) := by decide +kernel
theorem dX12_feed_12 : decode cX12_feed 12 = .ok (.sipush 900, 3) := by decide +kernel
theorem dX12_feed_15 : decode cX12_feed 15 = .ok (.if_icmp .le 5, 3) := by decide +kernel
theorem dX12_feed_20 : decode cX12_feed 20 = .ok (.iconst 0, 1) := by decide +kernel
theorem dX12_feed_21 : decode cX12_feed 21 = .ok (.istore 6, 2) := by decide +kernel
theorem dX12_feed_23 : decode cX12_feed 23 = .ok (.iload 6, 2) := by decide +kernel
theorem dX12_feed_25 : decode cX12_feed 25 = .ok (.bipush 20, 2) := by decide +kernel
theorem dX12_feed_27 : decode cX12_feed 27 = .ok (.if_icmp .ge 93, 3) := by decide +kernel
theorem dX12_feed_30 : decode cX12_feed 30 = .ok (.iload 6, 2) := by decide +kernel
theorem dX12_feed_32 : decode cX12_feed 32 = .ok (.iconst 4, 1) := by decide +kernel
theorem dX12_feed_33 : decode cX12_feed 33 = .ok (.if_icmp .ge 7, 3) := by decide +kernel
theorem dX12_feed_36 : decode cX12_feed 36 = .ok (.iload_n 1, 1) := by decide +kernel
theorem dX12_feed_37 : decode cX12_feed 37 = .ok (.goto 39, 3) := by decide +kernel
theorem dX12_feed_76 : decode cX12_feed 76 = .ok (.istore 7, 2) := by decide +kernel
theorem dX12_feed_78 : decode cX12_feed 78 = .ok (.aload_n 0, 1) := by decide +kernel
theorem dX12_feed_79 : decode cX12_feed 79 = .ok (.getfield 26, 3) := by decide +kernel
theorem dX12_feed_82 : decode cX12_feed 82 = .ok (.aload_n 0, 1) := by decide +kernel
theorem dX12_feed_83 : decode cX12_feed 83 = .ok (.getfield 74, 3) := by decide +kernel
theorem dX12_feed_86 : decode cX12_feed 86 = .ok (.iload 7, 2) := by decide +kernel
theorem dX12_feed_88 : decode cX12_feed 88 = .ok (.bipush 24, 2) := by decide +kernel
theorem dX12_feed_90 : decode cX12_feed 90 = .ok (.bipush 8, 2) := by decide +kernel
theorem dX12_feed_92 : decode cX12_feed 92 = .ok (.iload 6, 2) := by decide +kernel
theorem dX12_feed_94 : decode cX12_feed 94 = .ok (.iconst 3, 1) := by decide +kernel
theorem dX12_feed_95 : decode cX12_feed 95 = .ok (.iand, 1) := by decide +kernel
theorem dX12_feed_96 : decode cX12_feed 96 = .ok (.imul, 1) := by decide +kernel
theorem dX12_feed_97 : decode cX12_feed 97 = .ok (.isub, 1) := by decide +kernel
theorem dX12_feed_98 : decode cX12_feed 98 = .ok (.iushr, 1) := by decide +kernel
theorem dX12_feed_99 : decode cX12_feed 99 = .ok (.sipush 255, 3) := by decide +kernel
theorem dX12_feed_102 : decode cX12_feed 102 = .ok (.iand, 1) := by decide +kernel
theorem dX12_feed_103 : decode cX12_feed 103 = .ok (.iastore, 1) := by decide +kernel
theorem dX12_feed_104 : decode cX12_feed 104 = .ok (.aload_n 0, 1) := by decide +kernel
theorem dX12_feed_105 : decode cX12_feed 105 = .ok (.dup, 1) := by decide +kernel
theorem dX12_feed_106 : decode cX12_feed 106 = .ok (.getfield 74, 3) := by decide +kernel
theorem dX12_feed_109 : decode cX12_feed 109 = .ok (.iconst 1, 1) := by decide +kernel
theorem dX12_feed_110 : decode cX12_feed 110 = .ok (.iadd, 1) := by decide +kernel
theorem dX12_feed_111 : decode cX12_feed 111 = .ok (.putfield 74, 3) := by decide +kernel
theorem dX12_feed_114 : decode cX12_feed 114 = .ok (.iinc 6 1, 3) := by decide +kernel
theorem dX12_feed_117 : decode cX12_feed 117 = .ok (.goto (-94), 3) := by decide +kernel
theorem dX12_feed_40 : decode cX12_feed 40 = .ok (.iload 6, 2) := by decide +kernel
theorem dX12_feed_42 : decode cX12_feed 42 = .ok (.bipush 8, 2) := by decide +kernel
theorem dX12_feed_44 : decode cX12_feed 44 = .ok (.if_icmp .ge 7, 3) := by decide +kernel
theorem dX12_feed_47 : decode cX12_feed 47 = .ok (.iload_n 2, 1) := by decide +kernel
theorem dX12_feed_48 : decode cX12_feed 48 = .ok (.goto 28, 3) := by decide +kernel
theorem dX12_feed_51 : decode cX12_feed 51 = .ok (.iload 6, 2) := by decide +kernel
theorem dX12_feed_53 : decode cX12_feed 53 = .ok (.bipush 12, 2) := by decide +kernel
theorem dX12_feed_55 : decode cX12_feed 55 = .ok (.if_icmp .ge 7, 3) := by decide +kernel
theorem dX12_feed_58 : decode cX12_feed 58 = .ok (.iload_n 3, 1) := by decide +kernel
theorem dX12_feed_59 : decode cX12_feed 59 = .ok (.goto 17, 3) := by decide +kernel
theorem dX12_feed_62 : decode cX12_feed 62 = .ok (.iload 6, 2) := by decide +kernel
theorem dX12_feed_64 : decode cX12_feed 64 = .ok (.bipush 16, 2) := by decide +kernel
theorem dX12_feed_66 : decode cX12_feed 66 = .ok (.if_icmp .ge 8, 3) := by decide +kernel
theorem dX12_feed_69 : decode cX12_feed 69 = .ok (.iload 4, 2) := by decide +kernel
theorem dX12_feed_71 : decode cX12_feed 71 = .ok (.goto 5, 3) := by decide +kernel
theorem dX12_feed_74 : decode cX12_feed 74 = .ok (.iload 5, 2) := by decide +kernel
theorem dX12_feed_120 : decode cX12_feed 120 = .ok (.aload_n 0, 1) := by decide +kernel
theorem dX12_feed_121 : decode cX12_feed 121 = .ok (.getfield 74, 3) := by decide +kernel
theorem dX12_feed_124 : decode cX12_feed 124 = .ok (.ireturn, 1) := by decide +kernel
set_option maxRecDepth 100000 in
set_option maxHeartbeats 4000000 in
theorem c_X12_feed_0 (l : Launch) (D : va_G) (cy : Nat → ClassId) (a0 a1 a2 a3 a4 a5 a6 a7 a8 a9 a10 a11 a12 a13 a14 a15 a16 a17 : Nat) (x0 : Int32) (x1 : Int32) (x2 : Int32) (x3 : Int32) (x4 : Int32) : Ct l D cy yX12_feed cX12_feed 8 (some .int) 0 0 0 0 [(a0, .inr (12, [.ref a1, .ref a2, .ref a3, .ref a4, .ref a5, .int 0, .ref a6, .int 0, .int 0, .int 0, .int 0, .int 0, .int 0, .int 0, .int 0, .int 0, .int 0, .int (-1), .ref a7, .ref a8, .int 0, .ref a9, .int 0, .ref a10, .ref a11, .ref a12, .ref a13, .ref a14, .int 0, .ref a15, .ref a16, .ref a17])), (a6, .inl (cy 1, 900, .inl (fun _ => 0)))] [.ref a0, .int x0, .int x1, .int x2, .int x3, .int x4] (fun u : Unit => some (.int 20)) (fun _ => True) (fun u : Unit => [(a0, .inr (12, [.ref a1, .ref a2, .ref a3, .ref a4, .ref a5, .int 0, .ref a6, .int 20, .int 0, .int 0, .int 0, .int 0, .int 0, .int 0, .int 0, .int 0, .int 0, .int (-1), .ref a7, .ref a8, .int 0, .ref a9, .int 0, .ref a10, .ref a11, .ref a12, .ref a13, .ref a14, .int 0, .ref a15, .ref a16, .ref a17])), (a6, .inl (cy 1, 900, .inl (upd (upd (upd (upd (upd (upd (upd (upd (upd (upd (upd (upd (upd (upd (upd (upd (upd (upd (upd (upd (fun _ => 0) 0 (((x0).toUInt32 >>> ((24 : Int32).toUInt32 &&& Int32.toUInt32 31)).toInt32 &&& 255)) 1 (((x0).toUInt32 >>> ((16 : Int32).toUInt32 &&& Int32.toUInt32 31)).toInt32 &&& 255)) 2 (((x0).toUInt32 >>> ((8 : Int32).toUInt32 &&& Int32.toUInt32 31)).toInt32 &&& 255)) 3 (((x0).toUInt32 >>> ((0 : Int32).toUInt32 &&& Int32.toUInt32 31)).toInt32 &&& 255)) 4 (((x1).toUInt32 >>> ((24 : Int32).toUInt32 &&& Int32.toUInt32 31)).toInt32 &&& 255)) 5 (((x1).toUInt32 >>> ((16 : Int32).toUInt32 &&& Int32.toUInt32 31)).toInt32 &&& 255)) 6 (((x1).toUInt32 >>> ((8 : Int32).toUInt32 &&& Int32.toUInt32 31)).toInt32 &&& 255)) 7 (((x1).toUInt32 >>> ((0 : Int32).toUInt32 &&& Int32.toUInt32 31)).toInt32 &&& 255)) 8 (((x2).toUInt32 >>> ((24 : Int32).toUInt32 &&& Int32.toUInt32 31)).toInt32 &&& 255)) 9 (((x2).toUInt32 >>> ((16 : Int32).toUInt32 &&& Int32.toUInt32 31)).toInt32 &&& 255)) 10 (((x2).toUInt32 >>> ((8 : Int32).toUInt32 &&& Int32.toUInt32 31)).toInt32 &&& 255)) 11 (((x2).toUInt32 >>> ((0 : Int32).toUInt32 &&& Int32.toUInt32 31)).toInt32 &&& 255)) 12 (((x3).toUInt32 >>> ((24 : Int32).toUInt32 &&& Int32.toUInt32 31)).toInt32 &&& 255)) 13 (((x3).toUInt32 >>> ((16 : Int32).toUInt32 &&& Int32.toUInt32 31)).toInt32 &&& 255)) 14 (((x3).toUInt32 >>> ((8 : Int32).toUInt32 &&& Int32.toUInt32 31)).toInt32 &&& 255)) 15 (((x3).toUInt32 >>> ((0 : Int32).toUInt32 &&& Int32.toUInt32 31)).toInt32 &&& 255)) 16 (((x4).toUInt32 >>> ((24 : Int32).toUInt32 &&& Int32.toUInt32 31)).toInt32 &&& 255)) 17 (((x4).toUInt32 >>> ((16 : Int32).toUInt32 &&& Int32.toUInt32 31)).toInt32 &&& 255)) 18 (((x4).toUInt32 >>> ((8 : Int32).toUInt32 &&& Int32.toUInt32 31)).toInt32 &&& 255)) 19 (((x4).toUInt32 >>> ((0 : Int32).toUInt32 &&& Int32.toUInt32 31)).toInt32 &&& 255))))]) := by
  refine Ct.of (by decide +kernel) (Nat.le_of_ble_eq_true rfl) ?_
  intro p e s m args below meth c A ls C hr hlocks hml hnm w hl
  have hl : lv_has ls 8 [(0, .ref a0), (1, .int x0), (2, .int x1), (3, .int x2), (4, .int x3), (5, .int x4)] := hl
  refine lv_aload_n C.1 C.2.1 dX12_feed_0 rfl (lv_at hl 0 rfl) ?_
  refine lv_iconst (v := 0) C.1 C.2.1 dX12_feed_1 (by decide) ?_
  refine r_put C w 0 rfl rfl 5 (by decide) fl_RX12_71 rfl (ty := .int) (tyX12_ok 5 (by decide)) rfl rfl (Nat.le_of_ble_eq_true rfl) [(a0, .inr (12, [.ref a1, .ref a2, .ref a3, .ref a4, .ref a5, .int 0, .ref a6, .int 0, .int 0, .int 0, .int 0, .int 0, .int 0, .int 0, .int 0, .int 0, .int 0, .int (-1), .ref a7, .ref a8, .int 0, .ref a9, .int 0, .ref a10, .ref a11, .ref a12, .ref a13, .ref a14, .int 0, .ref a15, .ref a16, .ref a17])), (a6, .inl (cy 1, 900, .inl (fun _ => 0)))] rfl dX12_feed_2 (fun H locs w => ?_)
  refine lv_aload_n C.1 C.2.1 dX12_feed_5 rfl (lv_at hl 0 rfl) ?_
  refine r_get C w 0 rfl rfl 7 (by decide) fl_RX12_74 (v := .int 0) rfl dX12_feed_6 ?_
  refine lv_bipush (v := 20) C.1 C.2.1 dX12_feed_9 (by decide) ?_
  refine r_iadd C (v := 20) dX12_feed_11 (by decide) ?_
  refine lv_sipush (v := 900) C.1 C.2.1 dX12_feed_12 (by decide) ?_
  refine b_icmp_le_t C (tgt := 20) dX12_feed_15 (by decide) (by decide) ?_
  refine lv_iconst (v := 0) C.1 C.2.1 dX12_feed_20 (by decide) ?_
  refine lv_istore (lv' := [(6, .int 0), (0, .ref a0), (1, .int x0), (2, .int x1), (3, .int x2), (4, .int x3), (5, .int x4)]) C.1 C.2.1 dX12_feed_21 hl (by decide) rfl (fun ls hl => ?_)
  refine lv_iload C.1 C.2.1 dX12_feed_23 (lv_at hl 0 rfl) ?_
  refine lv_bipush (v := 20) C.1 C.2.1 dX12_feed_25 (by decide) ?_
  refine b_icmp_ge_f C (tgt := 120) dX12_feed_27 (by decide) (by decide) ?_
  refine lv_iload C.1 C.2.1 dX12_feed_30 (lv_at hl 0 rfl) ?_
  refine lv_iconst (v := 4) C.1 C.2.1 dX12_feed_32 (by decide) ?_
  refine b_icmp_ge_f C (tgt := 40) dX12_feed_33 (by decide) (by decide) ?_
  refine lv_iload_n C.1 C.2.1 dX12_feed_36 rfl (lv_at hl 2 rfl) ?_
  refine lv_goto (tgt := 76) C.1 C.2.1 dX12_feed_37 (by decide) ?_
  refine lv_istore (lv' := [(7, .int x0), (6, .int 0), (0, .ref a0), (1, .int x0), (2, .int x1), (3, .int x2), (4, .int x3), (5, .int x4)]) C.1 C.2.1 dX12_feed_76 hl (by decide) rfl (fun ls hl => ?_)
  refine lv_aload_n C.1 C.2.1 dX12_feed_78 rfl (lv_at hl 2 rfl) ?_
  refine r_get C w 0 rfl rfl 6 (by decide) fl_RX12_26 (v := .ref a6) rfl dX12_feed_79 ?_
  refine lv_aload_n C.1 C.2.1 dX12_feed_82 rfl (lv_at hl 2 rfl) ?_
  refine r_get C w 0 rfl rfl 7 (by decide) fl_RX12_74 (v := .int 0) rfl dX12_feed_83 ?_
  refine lv_iload C.1 C.2.1 dX12_feed_86 (lv_at hl 0 rfl) ?_
  refine lv_bipush (v := 24) C.1 C.2.1 dX12_feed_88 (by decide) ?_
  refine lv_bipush (v := 8) C.1 C.2.1 dX12_feed_90 (by decide) ?_
  refine lv_iload C.1 C.2.1 dX12_feed_92 (lv_at hl 1 rfl) ?_
  refine lv_iconst (v := 3) C.1 C.2.1 dX12_feed_94 (by decide) ?_
  refine r_iand C (v := 0) dX12_feed_95 (by decide) ?_
  refine r_imul C (v := 0) dX12_feed_96 (by decide) ?_
  refine r_isub C (v := 24) dX12_feed_97 (by decide) ?_
  refine lv_iushr (v := ((x0).toUInt32 >>> ((24 : Int32).toUInt32 &&& Int32.toUInt32 31)).toInt32) C.1 C.2.1 dX12_feed_98 rfl ?_
  refine lv_sipush (v := 255) C.1 C.2.1 dX12_feed_99 (by decide) ?_
  refine r_iand C (v := (((x0).toUInt32 >>> ((24 : Int32).toUInt32 &&& Int32.toUInt32 31)).toInt32 &&& 255)) dX12_feed_102 rfl ?_
  refine r_iast C w 1 rfl (vinD (by decide)) (upd (fun _ => 0) 0 (((x0).toUInt32 >>> ((24 : Int32).toUInt32 &&& Int32.toUInt32 31)).toInt32 &&& 255)) rfl [(a0, .inr (12, [.ref a1, .ref a2, .ref a3, .ref a4, .ref a5, .int 0, .ref a6, .int 0, .int 0, .int 0, .int 0, .int 0, .int 0, .int 0, .int 0, .int 0, .int 0, .int (-1), .ref a7, .ref a8, .int 0, .ref a9, .int 0, .ref a10, .ref a11, .ref a12, .ref a13, .ref a14, .int 0, .ref a15, .ref a16, .ref a17])), (a6, .inl (cy 1, 900, .inl (upd (fun _ => 0) 0 (((x0).toUInt32 >>> ((24 : Int32).toUInt32 &&& Int32.toUInt32 31)).toInt32 &&& 255))))] rfl dX12_feed_103 (fun H locs w => ?_)
  refine lv_aload_n C.1 C.2.1 dX12_feed_104 rfl (lv_at hl 2 rfl) ?_
  refine lv_dup C.1 C.2.1 dX12_feed_105 rfl ?_
  refine r_get C w 0 rfl rfl 7 (by decide) fl_RX12_74 (v := .int 0) rfl dX12_feed_106 ?_
  refine lv_iconst (v := 1) C.1 C.2.1 dX12_feed_109 (by decide) ?_
  refine r_iadd C (v := 1) dX12_feed_110 (by decide) ?_
  refine r_put C w 0 rfl rfl 7 (by decide) fl_RX12_74 rfl (ty := .int) (tyX12_ok 7 (by decide)) rfl rfl (Nat.le_of_ble_eq_true rfl) [(a0, .inr (12, [.ref a1, .ref a2, .ref a3, .ref a4, .ref a5, .int 0, .ref a6, .int 1, .int 0, .int 0, .int 0, .int 0, .int 0, .int 0, .int 0, .int 0, .int 0, .int (-1), .ref a7, .ref a8, .int 0, .ref a9, .int 0, .ref a10, .ref a11, .ref a12, .ref a13, .ref a14, .int 0, .ref a15, .ref a16, .ref a17])), (a6, .inl (cy 1, 900, .inl (upd (fun _ => 0) 0 (((x0).toUInt32 >>> ((24 : Int32).toUInt32 &&& Int32.toUInt32 31)).toInt32 &&& 255))))] rfl dX12_feed_111 (fun H locs w => ?_)
  refine lv_iinc (v := 1) (lv' := [(6, .int 1), (7, .int x0), (0, .ref a0), (1, .int x0), (2, .int x1), (3, .int x2), (4, .int x3), (5, .int x4)]) C.1 C.2.1 dX12_feed_114 hl (k := 1) rfl (by decide) (by decide) rfl (fun ls hl => ?_)
  refine lv_goto (tgt := 23) C.1 C.2.1 dX12_feed_117 (by decide) ?_
  refine lv_iload C.1 C.2.1 dX12_feed_23 (lv_at hl 0 rfl) ?_
  refine lv_bipush (v := 20) C.1 C.2.1 dX12_feed_25 (by decide) ?_
  refine b_icmp_ge_f C (tgt := 120) dX12_feed_27 (by decide) (by decide) ?_
  refine lv_iload C.1 C.2.1 dX12_feed_30 (lv_at hl 0 rfl) ?_
  refine lv_iconst (v := 4) C.1 C.2.1 dX12_feed_32 (by decide) ?_
  refine b_icmp_ge_f C (tgt := 40) dX12_feed_33 (by decide) (by decide) ?_
  refine lv_iload_n C.1 C.2.1 dX12_feed_36 rfl (lv_at hl 3 rfl) ?_
  refine lv_goto (tgt := 76) C.1 C.2.1 dX12_feed_37 (by decide) ?_
  refine lv_istore (lv' := [(7, .int x0), (6, .int 1), (0, .ref a0), (1, .int x0), (2, .int x1), (3, .int x2), (4, .int x3), (5, .int x4)]) C.1 C.2.1 dX12_feed_76 hl (by decide) rfl (fun ls hl => ?_)
  refine lv_aload_n C.1 C.2.1 dX12_feed_78 rfl (lv_at hl 2 rfl) ?_
  refine r_get C w 0 rfl rfl 6 (by decide) fl_RX12_26 (v := .ref a6) rfl dX12_feed_79 ?_
  refine lv_aload_n C.1 C.2.1 dX12_feed_82 rfl (lv_at hl 2 rfl) ?_
  refine r_get C w 0 rfl rfl 7 (by decide) fl_RX12_74 (v := .int 1) rfl dX12_feed_83 ?_
  refine lv_iload C.1 C.2.1 dX12_feed_86 (lv_at hl 0 rfl) ?_
  refine lv_bipush (v := 24) C.1 C.2.1 dX12_feed_88 (by decide) ?_
  refine lv_bipush (v := 8) C.1 C.2.1 dX12_feed_90 (by decide) ?_
  refine lv_iload C.1 C.2.1 dX12_feed_92 (lv_at hl 1 rfl) ?_
  refine lv_iconst (v := 3) C.1 C.2.1 dX12_feed_94 (by decide) ?_
  refine r_iand C (v := 1) dX12_feed_95 (by decide) ?_
  refine r_imul C (v := 8) dX12_feed_96 (by decide) ?_
  refine r_isub C (v := 16) dX12_feed_97 (by decide) ?_
  refine lv_iushr (v := ((x0).toUInt32 >>> ((16 : Int32).toUInt32 &&& Int32.toUInt32 31)).toInt32) C.1 C.2.1 dX12_feed_98 rfl ?_
  refine lv_sipush (v := 255) C.1 C.2.1 dX12_feed_99 (by decide) ?_
  refine r_iand C (v := (((x0).toUInt32 >>> ((16 : Int32).toUInt32 &&& Int32.toUInt32 31)).toInt32 &&& 255)) dX12_feed_102 rfl ?_
  refine r_iast C w 1 rfl (vinD (by decide)) (upd (upd (fun _ => 0) 0 (((x0).toUInt32 >>> ((24 : Int32).toUInt32 &&& Int32.toUInt32 31)).toInt32 &&& 255)) 1 (((x0).toUInt32 >>> ((16 : Int32).toUInt32 &&& Int32.toUInt32 31)).toInt32 &&& 255)) rfl [(a0, .inr (12, [.ref a1, .ref a2, .ref a3, .ref a4, .ref a5, .int 0, .ref a6, .int 1, .int 0, .int 0, .int 0, .int 0, .int 0, .int 0, .int 0, .int 0, .int 0, .int (-1), .ref a7, .ref a8, .int 0, .ref a9, .int 0, .ref a10, .ref a11, .ref a12, .ref a13, .ref a14, .int 0, .ref a15, .ref a16, .ref a17])), (a6, .inl (cy 1, 900, .inl (upd (upd (fun _ => 0) 0 (((x0).toUInt32 >>> ((24 : Int32).toUInt32 &&& Int32.toUInt32 31)).toInt32 &&& 255)) 1 (((x0).toUInt32 >>> ((16 : Int32).toUInt32 &&& Int32.toUInt32 31)).toInt32 &&& 255))))] rfl dX12_feed_103 (fun H locs w => ?_)
  refine lv_aload_n C.1 C.2.1 dX12_feed_104 rfl (lv_at hl 2 rfl) ?_
  refine lv_dup C.1 C.2.1 dX12_feed_105 rfl ?_
  refine r_get C w 0 rfl rfl 7 (by decide) fl_RX12_74 (v := .int 1) rfl dX12_feed_106 ?_
  refine lv_iconst (v := 1) C.1 C.2.1 dX12_feed_109 (by decide) ?_
  refine r_iadd C (v := 2) dX12_feed_110 (by decide) ?_
  refine r_put C w 0 rfl rfl 7 (by decide) fl_RX12_74 rfl (ty := .int) (tyX12_ok 7 (by decide)) rfl rfl (Nat.le_of_ble_eq_true rfl) [(a0, .inr (12, [.ref a1, .ref a2, .ref a3, .ref a4, .ref a5, .int 0, .ref a6, .int 2, .int 0, .int 0, .int 0, .int 0, .int 0, .int 0, .int 0, .int 0, .int 0, .int (-1), .ref a7, .ref a8, .int 0, .ref a9, .int 0, .ref a10, .ref a11, .ref a12, .ref a13, .ref a14, .int 0, .ref a15, .ref a16, .ref a17])), (a6, .inl (cy 1, 900, .inl (upd (upd (fun _ => 0) 0 (((x0).toUInt32 >>> ((24 : Int32).toUInt32 &&& Int32.toUInt32 31)).toInt32 &&& 255)) 1 (((x0).toUInt32 >>> ((16 : Int32).toUInt32 &&& Int32.toUInt32 31)).toInt32 &&& 255))))] rfl dX12_feed_111 (fun H locs w => ?_)
  refine lv_iinc (v := 2) (lv' := [(6, .int 2), (7, .int x0), (0, .ref a0), (1, .int x0), (2, .int x1), (3, .int x2), (4, .int x3), (5, .int x4)]) C.1 C.2.1 dX12_feed_114 hl (k := 1) rfl (by decide) (by decide) rfl (fun ls hl => ?_)
  refine lv_goto (tgt := 23) C.1 C.2.1 dX12_feed_117 (by decide) ?_
  refine lv_iload C.1 C.2.1 dX12_feed_23 (lv_at hl 0 rfl) ?_
  refine lv_bipush (v := 20) C.1 C.2.1 dX12_feed_25 (by decide) ?_
  refine b_icmp_ge_f C (tgt := 120) dX12_feed_27 (by decide) (by decide) ?_
  refine lv_iload C.1 C.2.1 dX12_feed_30 (lv_at hl 0 rfl) ?_
  refine lv_iconst (v := 4) C.1 C.2.1 dX12_feed_32 (by decide) ?_
  refine b_icmp_ge_f C (tgt := 40) dX12_feed_33 (by decide) (by decide) ?_
  refine lv_iload_n C.1 C.2.1 dX12_feed_36 rfl (lv_at hl 3 rfl) ?_
  refine lv_goto (tgt := 76) C.1 C.2.1 dX12_feed_37 (by decide) ?_
  refine lv_istore (lv' := [(7, .int x0), (6, .int 2), (0, .ref a0), (1, .int x0), (2, .int x1), (3, .int x2), (4, .int x3), (5, .int x4)]) C.1 C.2.1 dX12_feed_76 hl (by decide) rfl (fun ls hl => ?_)
  refine lv_aload_n C.1 C.2.1 dX12_feed_78 rfl (lv_at hl 2 rfl) ?_
  refine r_get C w 0 rfl rfl 6 (by decide) fl_RX12_26 (v := .ref a6) rfl dX12_feed_79 ?_
  refine lv_aload_n C.1 C.2.1 dX12_feed_82 rfl (lv_at hl 2 rfl) ?_
  refine r_get C w 0 rfl rfl 7 (by decide) fl_RX12_74 (v := .int 2) rfl dX12_feed_83 ?_
  refine lv_iload C.1 C.2.1 dX12_feed_86 (lv_at hl 0 rfl) ?_
  refine lv_bipush (v := 24) C.1 C.2.1 dX12_feed_88 (by decide) ?_
  refine lv_bipush (v := 8) C.1 C.2.1 dX12_feed_90 (by decide) ?_
  refine lv_iload C.1 C.2.1 dX12_feed_92 (lv_at hl 1 rfl) ?_
  refine lv_iconst (v := 3) C.1 C.2.1 dX12_feed_94 (by decide) ?_
  refine r_iand C (v := 2) dX12_feed_95 (by decide) ?_
  refine r_imul C (v := 16) dX12_feed_96 (by decide) ?_
  refine r_isub C (v := 8) dX12_feed_97 (by decide) ?_
  refine lv_iushr (v := ((x0).toUInt32 >>> ((8 : Int32).toUInt32 &&& Int32.toUInt32 31)).toInt32) C.1 C.2.1 dX12_feed_98 rfl ?_
  refine lv_sipush (v := 255) C.1 C.2.1 dX12_feed_99 (by decide) ?_
  refine r_iand C (v := (((x0).toUInt32 >>> ((8 : Int32).toUInt32 &&& Int32.toUInt32 31)).toInt32 &&& 255)) dX12_feed_102 rfl ?_
  refine r_iast C w 1 rfl (vinD (by decide)) (upd (upd (upd (fun _ => 0) 0 (((x0).toUInt32 >>> ((24 : Int32).toUInt32 &&& Int32.toUInt32 31)).toInt32 &&& 255)) 1 (((x0).toUInt32 >>> ((16 : Int32).toUInt32 &&& Int32.toUInt32 31)).toInt32 &&& 255)) 2 (((x0).toUInt32 >>> ((8 : Int32).toUInt32 &&& Int32.toUInt32 31)).toInt32 &&& 255)) rfl [(a0, .inr (12, [.ref a1, .ref a2, .ref a3, .ref a4, .ref a5, .int 0, .ref a6, .int 2, .int 0, .int 0, .int 0, .int 0, .int 0, .int 0, .int 0, .int 0, .int 0, .int (-1), .ref a7, .ref a8, .int 0, .ref a9, .int 0, .ref a10, .ref a11, .ref a12, .ref a13, .ref a14, .int 0, .ref a15, .ref a16, .ref a17])), (a6, .inl (cy 1, 900, .inl (upd (upd (upd (fun _ => 0) 0 (((x0).toUInt32 >>> ((24 : Int32).toUInt32 &&& Int32.toUInt32 31)).toInt32 &&& 255)) 1 (((x0).toUInt32 >>> ((16 : Int32).toUInt32 &&& Int32.toUInt32 31)).toInt32 &&& 255)) 2 (((x0).toUInt32 >>> ((8 : Int32).toUInt32 &&& Int32.toUInt32 31)).toInt32 &&& 255))))] rfl dX12_feed_103 (fun H locs w => ?_)
  refine lv_aload_n C.1 C.2.1 dX12_feed_104 rfl (lv_at hl 2 rfl) ?_
  refine lv_dup C.1 C.2.1 dX12_feed_105 rfl ?_
  refine r_get C w 0 rfl rfl 7 (by decide) fl_RX12_74 (v := .int 2) rfl dX12_feed_106 ?_
  refine lv_iconst (v := 1) C.1 C.2.1 dX12_feed_109 (by decide) ?_
  refine r_iadd C (v := 3) dX12_feed_110 (by decide) ?_
  refine r_put C w 0 rfl rfl 7 (by decide) fl_RX12_74 rfl (ty := .int) (tyX12_ok 7 (by decide)) rfl rfl (Nat.le_of_ble_eq_true rfl) [(a0, .inr (12, [.ref a1, .ref a2, .ref a3, .ref a4, .ref a5, .int 0, .ref a6, .int 3, .int 0, .int 0, .int 0, .int 0, .int 0, .int 0, .int 0, .int 0, .int 0, .int (-1), .ref a7, .ref a8, .int 0, .ref a9, .int 0, .ref a10, .ref a11, .ref a12, .ref a13, .ref a14, .int 0, .ref a15, .ref a16, .ref a17])), (a6, .inl (cy 1, 900, .inl (upd (upd (upd (fun _ => 0) 0 (((x0).toUInt32 >>> ((24 : Int32).toUInt32 &&& Int32.toUInt32 31)).toInt32 &&& 255)) 1 (((x0).toUInt32 >>> ((16 : Int32).toUInt32 &&& Int32.toUInt32 31)).toInt32 &&& 255)) 2 (((x0).toUInt32 >>> ((8 : Int32).toUInt32 &&& Int32.toUInt32 31)).toInt32 &&& 255))))] rfl dX12_feed_111 (fun H locs w => ?_)
  refine lv_iinc (v := 3) (lv' := [(6, .int 3), (7, .int x0), (0, .ref a0), (1, .int x0), (2, .int x1), (3, .int x2), (4, .int x3), (5, .int x4)]) C.1 C.2.1 dX12_feed_114 hl (k := 1) rfl (by decide) (by decide) rfl (fun ls hl => ?_)
  refine lv_goto (tgt := 23) C.1 C.2.1 dX12_feed_117 (by decide) ?_
  refine lv_iload C.1 C.2.1 dX12_feed_23 (lv_at hl 0 rfl) ?_
  refine lv_bipush (v := 20) C.1 C.2.1 dX12_feed_25 (by decide) ?_
  refine b_icmp_ge_f C (tgt := 120) dX12_feed_27 (by decide) (by decide) ?_
  refine lv_iload C.1 C.2.1 dX12_feed_30 (lv_at hl 0 rfl) ?_
  refine lv_iconst (v := 4) C.1 C.2.1 dX12_feed_32 (by decide) ?_
  refine b_icmp_ge_f C (tgt := 40) dX12_feed_33 (by decide) (by decide) ?_
  refine lv_iload_n C.1 C.2.1 dX12_feed_36 rfl (lv_at hl 3 rfl) ?_
  refine lv_goto (tgt := 76) C.1 C.2.1 dX12_feed_37 (by decide) ?_
  refine lv_istore (lv' := [(7, .int x0), (6, .int 3), (0, .ref a0), (1, .int x0), (2, .int x1), (3, .int x2), (4, .int x3), (5, .int x4)]) C.1 C.2.1 dX12_feed_76 hl (by decide) rfl (fun ls hl => ?_)
  refine lv_aload_n C.1 C.2.1 dX12_feed_78 rfl (lv_at hl 2 rfl) ?_
  refine r_get C w 0 rfl rfl 6 (by decide) fl_RX12_26 (v := .ref a6) rfl dX12_feed_79 ?_
  refine lv_aload_n C.1 C.2.1 dX12_feed_82 rfl (lv_at hl 2 rfl) ?_
  refine r_get C w 0 rfl rfl 7 (by decide) fl_RX12_74 (v := .int 3) rfl dX12_feed_83 ?_
  refine lv_iload C.1 C.2.1 dX12_feed_86 (lv_at hl 0 rfl) ?_
  refine lv_bipush (v := 24) C.1 C.2.1 dX12_feed_88 (by decide) ?_
  refine lv_bipush (v := 8) C.1 C.2.1 dX12_feed_90 (by decide) ?_
  refine lv_iload C.1 C.2.1 dX12_feed_92 (lv_at hl 1 rfl) ?_
  refine lv_iconst (v := 3) C.1 C.2.1 dX12_feed_94 (by decide) ?_
  refine r_iand C (v := 3) dX12_feed_95 (by decide) ?_
  refine r_imul C (v := 24) dX12_feed_96 (by decide) ?_
  refine r_isub C (v := 0) dX12_feed_97 (by decide) ?_
  refine lv_iushr (v := ((x0).toUInt32 >>> ((0 : Int32).toUInt32 &&& Int32.toUInt32 31)).toInt32) C.1 C.2.1 dX12_feed_98 rfl ?_
  refine lv_sipush (v := 255) C.1 C.2.1 dX12_feed_99 (by decide) ?_
  refine r_iand C (v := (((x0).toUInt32 >>> ((0 : Int32).toUInt32 &&& Int32.toUInt32 31)).toInt32 &&& 255)) dX12_feed_102 rfl ?_
  refine r_iast C w 1 rfl (vinD (by decide)) (upd (upd (upd (upd (fun _ => 0) 0 (((x0).toUInt32 >>> ((24 : Int32).toUInt32 &&& Int32.toUInt32 31)).toInt32 &&& 255)) 1 (((x0).toUInt32 >>> ((16 : Int32).toUInt32 &&& Int32.toUInt32 31)).toInt32 &&& 255)) 2 (((x0).toUInt32 >>> ((8 : Int32).toUInt32 &&& Int32.toUInt32 31)).toInt32 &&& 255)) 3 (((x0).toUInt32 >>> ((0 : Int32).toUInt32 &&& Int32.toUInt32 31)).toInt32 &&& 255)) rfl [(a0, .inr (12, [.ref a1, .ref a2, .ref a3, .ref a4, .ref a5, .int 0, .ref a6, .int 3, .int 0, .int 0, .int 0, .int 0, .int 0, .int 0, .int 0, .int 0, .int 0, .int (-1), .ref a7, .ref a8, .int 0, .ref a9, .int 0, .ref a10, .ref a11, .ref a12, .ref a13, .ref a14, .int 0, .ref a15, .ref a16, .ref a17])), (a6, .inl (cy 1, 900, .inl (upd (upd (upd (upd (fun _ => 0) 0 (((x0).toUInt32 >>> ((24 : Int32).toUInt32 &&& Int32.toUInt32 31)).toInt32 &&& 255)) 1 (((x0).toUInt32 >>> ((16 : Int32).toUInt32 &&& Int32.toUInt32 31)).toInt32 &&& 255)) 2 (((x0).toUInt32 >>> ((8 : Int32).toUInt32 &&& Int32.toUInt32 31)).toInt32 &&& 255)) 3 (((x0).toUInt32 >>> ((0 : Int32).toUInt32 &&& Int32.toUInt32 31)).toInt32 &&& 255))))] rfl dX12_feed_103 (fun H locs w => ?_)
  refine lv_aload_n C.1 C.2.1 dX12_feed_104 rfl (lv_at hl 2 rfl) ?_
  refine lv_dup C.1 C.2.1 dX12_feed_105 rfl ?_
  refine r_get C w 0 rfl rfl 7 (by decide) fl_RX12_74 (v := .int 3) rfl dX12_feed_106 ?_
  refine lv_iconst (v := 1) C.1 C.2.1 dX12_feed_109 (by decide) ?_
  refine r_iadd C (v := 4) dX12_feed_110 (by decide) ?_
  refine r_put C w 0 rfl rfl 7 (by decide) fl_RX12_74 rfl (ty := .int) (tyX12_ok 7 (by decide)) rfl rfl (Nat.le_of_ble_eq_true rfl) [(a0, .inr (12, [.ref a1, .ref a2, .ref a3, .ref a4, .ref a5, .int 0, .ref a6, .int 4, .int 0, .int 0, .int 0, .int 0, .int 0, .int 0, .int 0, .int 0, .int 0, .int (-1), .ref a7, .ref a8, .int 0, .ref a9, .int 0, .ref a10, .ref a11, .ref a12, .ref a13, .ref a14, .int 0, .ref a15, .ref a16, .ref a17])), (a6, .inl (cy 1, 900, .inl (upd (upd (upd (upd (fun _ => 0) 0 (((x0).toUInt32 >>> ((24 : Int32).toUInt32 &&& Int32.toUInt32 31)).toInt32 &&& 255)) 1 (((x0).toUInt32 >>> ((16 : Int32).toUInt32 &&& Int32.toUInt32 31)).toInt32 &&& 255)) 2 (((x0).toUInt32 >>> ((8 : Int32).toUInt32 &&& Int32.toUInt32 31)).toInt32 &&& 255)) 3 (((x0).toUInt32 >>> ((0 : Int32).toUInt32 &&& Int32.toUInt32 31)).toInt32 &&& 255))))] rfl dX12_feed_111 (fun H locs w => ?_)
  refine lv_iinc (v := 4) (lv' := [(6, .int 4), (7, .int x0), (0, .ref a0), (1, .int x0), (2, .int x1), (3, .int x2), (4, .int x3), (5, .int x4)]) C.1 C.2.1 dX12_feed_114 hl (k := 1) rfl (by decide) (by decide) rfl (fun ls hl => ?_)
  refine lv_goto (tgt := 23) C.1 C.2.1 dX12_feed_117 (by decide) ?_
  refine lv_iload C.1 C.2.1 dX12_feed_23 (lv_at hl 0 rfl) ?_
  refine lv_bipush (v := 20) C.1 C.2.1 dX12_feed_25 (by decide) ?_
  refine b_icmp_ge_f C (tgt := 120) dX12_feed_27 (by decide) (by decide) ?_
  refine lv_iload C.1 C.2.1 dX12_feed_30 (lv_at hl 0 rfl) ?_
  refine lv_iconst (v := 4) C.1 C.2.1 dX12_feed_32 (by decide) ?_
  refine b_icmp_ge_t C (tgt := 40) dX12_feed_33 (by decide) (by decide) ?_
  refine lv_iload C.1 C.2.1 dX12_feed_40 (lv_at hl 0 rfl) ?_
  refine lv_bipush (v := 8) C.1 C.2.1 dX12_feed_42 (by decide) ?_
  refine b_icmp_ge_f C (tgt := 51) dX12_feed_44 (by decide) (by decide) ?_
  refine lv_iload_n C.1 C.2.1 dX12_feed_47 rfl (lv_at hl 4 rfl) ?_
  refine lv_goto (tgt := 76) C.1 C.2.1 dX12_feed_48 (by decide) ?_
  refine lv_istore (lv' := [(7, .int x1), (6, .int 4), (0, .ref a0), (1, .int x0), (2, .int x1), (3, .int x2), (4, .int x3), (5, .int x4)]) C.1 C.2.1 dX12_feed_76 hl (by decide) rfl (fun ls hl => ?_)
  refine lv_aload_n C.1 C.2.1 dX12_feed_78 rfl (lv_at hl 2 rfl) ?_
  refine r_get C w 0 rfl rfl 6 (by decide) fl_RX12_26 (v := .ref a6) rfl dX12_feed_79 ?_
  refine lv_aload_n C.1 C.2.1 dX12_feed_82 rfl (lv_at hl 2 rfl) ?_
  refine r_get C w 0 rfl rfl 7 (by decide) fl_RX12_74 (v := .int 4) rfl dX12_feed_83 ?_
  refine lv_iload C.1 C.2.1 dX12_feed_86 (lv_at hl 0 rfl) ?_
  refine lv_bipush (v := 24) C.1 C.2.1 dX12_feed_88 (by decide) ?_
  refine lv_bipush (v := 8) C.1 C.2.1 dX12_feed_90 (by decide) ?_
  refine lv_iload C.1 C.2.1 dX12_feed_92 (lv_at hl 1 rfl) ?_
  refine lv_iconst (v := 3) C.1 C.2.1 dX12_feed_94 (by decide) ?_
  refine r_iand C (v := 0) dX12_feed_95 (by decide) ?_
  refine r_imul C (v := 0) dX12_feed_96 (by decide) ?_
  refine r_isub C (v := 24) dX12_feed_97 (by decide) ?_
  refine lv_iushr (v := ((x1).toUInt32 >>> ((24 : Int32).toUInt32 &&& Int32.toUInt32 31)).toInt32) C.1 C.2.1 dX12_feed_98 rfl ?_
  refine lv_sipush (v := 255) C.1 C.2.1 dX12_feed_99 (by decide) ?_
  refine r_iand C (v := (((x1).toUInt32 >>> ((24 : Int32).toUInt32 &&& Int32.toUInt32 31)).toInt32 &&& 255)) dX12_feed_102 rfl ?_
  refine r_iast C w 1 rfl (vinD (by decide)) (upd (upd (upd (upd (upd (fun _ => 0) 0 (((x0).toUInt32 >>> ((24 : Int32).toUInt32 &&& Int32.toUInt32 31)).toInt32 &&& 255)) 1 (((x0).toUInt32 >>> ((16 : Int32).toUInt32 &&& Int32.toUInt32 31)).toInt32 &&& 255)) 2 (((x0).toUInt32 >>> ((8 : Int32).toUInt32 &&& Int32.toUInt32 31)).toInt32 &&& 255)) 3 (((x0).toUInt32 >>> ((0 : Int32).toUInt32 &&& Int32.toUInt32 31)).toInt32 &&& 255)) 4 (((x1).toUInt32 >>> ((24 : Int32).toUInt32 &&& Int32.toUInt32 31)).toInt32 &&& 255)) rfl [(a0, .inr (12, [.ref a1, .ref a2, .ref a3, .ref a4, .ref a5, .int 0, .ref a6, .int 4, .int 0, .int 0, .int 0, .int 0, .int 0, .int 0, .int 0, .int 0, .int 0, .int (-1), .ref a7, .ref a8, .int 0, .ref a9, .int 0, .ref a10, .ref a11, .ref a12, .ref a13, .ref a14, .int 0, .ref a15, .ref a16, .ref a17])), (a6, .inl (cy 1, 900, .inl (upd (upd (upd (upd (upd (fun _ => 0) 0 (((x0).toUInt32 >>> ((24 : Int32).toUInt32 &&& Int32.toUInt32 31)).toInt32 &&& 255)) 1 (((x0).toUInt32 >>> ((16 : Int32).toUInt32 &&& Int32.toUInt32 31)).toInt32 &&& 255)) 2 (((x0).toUInt32 >>> ((8 : Int32).toUInt32 &&& Int32.toUInt32 31)).toInt32 &&& 255)) 3 (((x0).toUInt32 >>> ((0 : Int32).toUInt32 &&& Int32.toUInt32 31)).toInt32 &&& 255)) 4 (((x1).toUInt32 >>> ((24 : Int32).toUInt32 &&& Int32.toUInt32 31)).toInt32 &&& 255))))] rfl dX12_feed_103 (fun H locs w => ?_)
  refine lv_aload_n C.1 C.2.1 dX12_feed_104 rfl (lv_at hl 2 rfl) ?_
  refine lv_dup C.1 C.2.1 dX12_feed_105 rfl ?_
  refine r_get C w 0 rfl rfl 7 (by decide) fl_RX12_74 (v := .int 4) rfl dX12_feed_106 ?_
  refine lv_iconst (v := 1) C.1 C.2.1 dX12_feed_109 (by decide) ?_
  refine r_iadd C (v := 5) dX12_feed_110 (by decide) ?_
  refine r_put C w 0 rfl rfl 7 (by decide) fl_RX12_74 rfl (ty := .int) (tyX12_ok 7 (by decide)) rfl rfl (Nat.le_of_ble_eq_true rfl) [(a0, .inr (12, [.ref a1, .ref a2, .ref a3, .ref a4, .ref a5, .int 0, .ref a6, .int 5, .int 0, .int 0, .int 0, .int 0, .int 0, .int 0, .int 0, .int 0, .int 0, .int (-1), .ref a7, .ref a8, .int 0, .ref a9, .int 0, .ref a10, .ref a11, .ref a12, .ref a13, .ref a14, .int 0, .ref a15, .ref a16, .ref a17])), (a6, .inl (cy 1, 900, .inl (upd (upd (upd (upd (upd (fun _ => 0) 0 (((x0).toUInt32 >>> ((24 : Int32).toUInt32 &&& Int32.toUInt32 31)).toInt32 &&& 255)) 1 (((x0).toUInt32 >>> ((16 : Int32).toUInt32 &&& Int32.toUInt32 31)).toInt32 &&& 255)) 2 (((x0).toUInt32 >>> ((8 : Int32).toUInt32 &&& Int32.toUInt32 31)).toInt32 &&& 255)) 3 (((x0).toUInt32 >>> ((0 : Int32).toUInt32 &&& Int32.toUInt32 31)).toInt32 &&& 255)) 4 (((x1).toUInt32 >>> ((24 : Int32).toUInt32 &&& Int32.toUInt32 31)).toInt32 &&& 255))))] rfl dX12_feed_111 (fun H locs w => ?_)
  refine lv_iinc (v := 5) (lv' := [(6, .int 5), (7, .int x1), (0, .ref a0), (1, .int x0), (2, .int x1), (3, .int x2), (4, .int x3), (5, .int x4)]) C.1 C.2.1 dX12_feed_114 hl (k := 1) rfl (by decide) (by decide) rfl (fun ls hl => ?_)
  refine lv_goto (tgt := 23) C.1 C.2.1 dX12_feed_117 (by decide) ?_
  refine lv_iload C.1 C.2.1 dX12_feed_23 (lv_at hl 0 rfl) ?_
  refine lv_bipush (v := 20) C.1 C.2.1 dX12_feed_25 (by decide) ?_
  refine b_icmp_ge_f C (tgt := 120) dX12_feed_27 (by decide) (by decide) ?_
  refine lv_iload C.1 C.2.1 dX12_feed_30 (lv_at hl 0 rfl) ?_
  refine lv_iconst (v := 4) C.1 C.2.1 dX12_feed_32 (by decide) ?_
  refine b_icmp_ge_t C (tgt := 40) dX12_feed_33 (by decide) (by decide) ?_
  refine lv_iload C.1 C.2.1 dX12_feed_40 (lv_at hl 0 rfl) ?_
  refine lv_bipush (v := 8) C.1 C.2.1 dX12_feed_42 (by decide) ?_
  refine b_icmp_ge_f C (tgt := 51) dX12_feed_44 (by decide) (by decide) ?_
  refine lv_iload_n C.1 C.2.1 dX12_feed_47 rfl (lv_at hl 4 rfl) ?_
  refine lv_goto (tgt := 76) C.1 C.2.1 dX12_feed_48 (by decide) ?_
  refine lv_istore (lv' := [(7, .int x1), (6, .int 5), (0, .ref a0), (1, .int x0), (2, .int x1), (3, .int x2), (4, .int x3), (5, .int x4)]) C.1 C.2.1 dX12_feed_76 hl (by decide) rfl (fun ls hl => ?_)
  refine lv_aload_n C.1 C.2.1 dX12_feed_78 rfl (lv_at hl 2 rfl) ?_
  refine r_get C w 0 rfl rfl 6 (by decide) fl_RX12_26 (v := .ref a6) rfl dX12_feed_79 ?_
  refine lv_aload_n C.1 C.2.1 dX12_feed_82 rfl (lv_at hl 2 rfl) ?_
  refine r_get C w 0 rfl rfl 7 (by decide) fl_RX12_74 (v := .int 5) rfl dX12_feed_83 ?_
  refine lv_iload C.1 C.2.1 dX12_feed_86 (lv_at hl 0 rfl) ?_
  refine lv_bipush (v := 24) C.1 C.2.1 dX12_feed_88 (by decide) ?_
  refine lv_bipush (v := 8) C.1 C.2.1 dX12_feed_90 (by decide) ?_
  refine lv_iload C.1 C.2.1 dX12_feed_92 (lv_at hl 1 rfl) ?_
  refine lv_iconst (v := 3) C.1 C.2.1 dX12_feed_94 (by decide) ?_
  refine r_iand C (v := 1) dX12_feed_95 (by decide) ?_
  refine r_imul C (v := 8) dX12_feed_96 (by decide) ?_
  refine r_isub C (v := 16) dX12_feed_97 (by decide) ?_
  refine lv_iushr (v := ((x1).toUInt32 >>> ((16 : Int32).toUInt32 &&& Int32.toUInt32 31)).toInt32) C.1 C.2.1 dX12_feed_98 rfl ?_
  refine lv_sipush (v := 255) C.1 C.2.1 dX12_feed_99 (by decide) ?_
  refine r_iand C (v := (((x1).toUInt32 >>> ((16 : Int32).toUInt32 &&& Int32.toUInt32 31)).toInt32 &&& 255)) dX12_feed_102 rfl ?_
  refine r_iast C w 1 rfl (vinD (by decide)) (upd (upd (upd (upd (upd (upd (fun _ => 0) 0 (((x0).toUInt32 >>> ((24 : Int32).toUInt32 &&& Int32.toUInt32 31)).toInt32 &&& 255)) 1 (((x0).toUInt32 >>> ((16 : Int32).toUInt32 &&& Int32.toUInt32 31)).toInt32 &&& 255)) 2 (((x0).toUInt32 >>> ((8 : Int32).toUInt32 &&& Int32.toUInt32 31)).toInt32 &&& 255)) 3 (((x0).toUInt32 >>> ((0 : Int32).toUInt32 &&& Int32.toUInt32 31)).toInt32 &&& 255)) 4 (((x1).toUInt32 >>> ((24 : Int32).toUInt32 &&& Int32.toUInt32 31)).toInt32 &&& 255)) 5 (((x1).toUInt32 >>> ((16 : Int32).toUInt32 &&& Int32.toUInt32 31)).toInt32 &&& 255)) rfl [(a0, .inr (12, [.ref a1, .ref a2, .ref a3, .ref a4, .ref a5, .int 0, .ref a6, .int 5, .int 0, .int 0, .int 0, .int 0, .int 0, .int 0, .int 0, .int 0, .int 0, .int (-1), .ref a7, .ref a8, .int 0, .ref a9, .int 0, .ref a10, .ref a11, .ref a12, .ref a13, .ref a14, .int 0, .ref a15, .ref a16, .ref a17])), (a6, .inl (cy 1, 900, .inl (upd (upd (upd (upd (upd (upd (fun _ => 0) 0 (((x0).toUInt32 >>> ((24 : Int32).toUInt32 &&& Int32.toUInt32 31)).toInt32 &&& 255)) 1 (((x0).toUInt32 >>> ((16 : Int32).toUInt32 &&& Int32.toUInt32 31)).toInt32 &&& 255)) 2 (((x0).toUInt32 >>> ((8 : Int32).toUInt32 &&& Int32.toUInt32 31)).toInt32 &&& 255)) 3 (((x0).toUInt32 >>> ((0 : Int32).toUInt32 &&& Int32.toUInt32 31)).toInt32 &&& 255)) 4 (((x1).toUInt32 >>> ((24 : Int32).toUInt32 &&& Int32.toUInt32 31)).toInt32 &&& 255)) 5 (((x1).toUInt32 >>> ((16 : Int32).toUInt32 &&& Int32.toUInt32 31)).toInt32 &&& 255))))] rfl dX12_feed_103 (fun H locs w => ?_)
  refine lv_aload_n C.1 C.2.1 dX12_feed_104 rfl (lv_at hl 2 rfl) ?_
  refine lv_dup C.1 C.2.1 dX12_feed_105 rfl ?_
  refine r_get C w 0 rfl rfl 7 (by decide) fl_RX12_74 (v := .int 5) rfl dX12_feed_106 ?_
  refine lv_iconst (v := 1) C.1 C.2.1 dX12_feed_109 (by decide) ?_
  refine r_iadd C (v := 6) dX12_feed_110 (by decide) ?_
  refine r_put C w 0 rfl rfl 7 (by decide) fl_RX12_74 rfl (ty := .int) (tyX12_ok 7 (by decide)) rfl rfl (Nat.le_of_ble_eq_true rfl) [(a0, .inr (12, [.ref a1, .ref a2, .ref a3, .ref a4, .ref a5, .int 0, .ref a6, .int 6, .int 0, .int 0, .int 0, .int 0, .int 0, .int 0, .int 0, .int 0, .int 0, .int (-1), .ref a7, .ref a8, .int 0, .ref a9, .int 0, .ref a10, .ref a11, .ref a12, .ref a13, .ref a14, .int 0, .ref a15, .ref a16, .ref a17])), (a6, .inl (cy 1, 900, .inl (upd (upd (upd (upd (upd (upd (fun _ => 0) 0 (((x0).toUInt32 >>> ((24 : Int32).toUInt32 &&& Int32.toUInt32 31)).toInt32 &&& 255)) 1 (((x0).toUInt32 >>> ((16 : Int32).toUInt32 &&& Int32.toUInt32 31)).toInt32 &&& 255)) 2 (((x0).toUInt32 >>> ((8 : Int32).toUInt32 &&& Int32.toUInt32 31)).toInt32 &&& 255)) 3 (((x0).toUInt32 >>> ((0 : Int32).toUInt32 &&& Int32.toUInt32 31)).toInt32 &&& 255)) 4 (((x1).toUInt32 >>> ((24 : Int32).toUInt32 &&& Int32.toUInt32 31)).toInt32 &&& 255)) 5 (((x1).toUInt32 >>> ((16 : Int32).toUInt32 &&& Int32.toUInt32 31)).toInt32 &&& 255))))] rfl dX12_feed_111 (fun H locs w => ?_)
  refine lv_iinc (v := 6) (lv' := [(6, .int 6), (7, .int x1), (0, .ref a0), (1, .int x0), (2, .int x1), (3, .int x2), (4, .int x3), (5, .int x4)]) C.1 C.2.1 dX12_feed_114 hl (k := 1) rfl (by decide) (by decide) rfl (fun ls hl => ?_)
  refine lv_goto (tgt := 23) C.1 C.2.1 dX12_feed_117 (by decide) ?_
  refine lv_iload C.1 C.2.1 dX12_feed_23 (lv_at hl 0 rfl) ?_
  refine lv_bipush (v := 20) C.1 C.2.1 dX12_feed_25 (by decide) ?_
  refine b_icmp_ge_f C (tgt := 120) dX12_feed_27 (by decide) (by decide) ?_
  refine lv_iload C.1 C.2.1 dX12_feed_30 (lv_at hl 0 rfl) ?_
  refine lv_iconst (v := 4) C.1 C.2.1 dX12_feed_32 (by decide) ?_
  refine b_icmp_ge_t C (tgt := 40) dX12_feed_33 (by decide) (by decide) ?_
  refine lv_iload C.1 C.2.1 dX12_feed_40 (lv_at hl 0 rfl) ?_
  refine lv_bipush (v := 8) C.1 C.2.1 dX12_feed_42 (by decide) ?_
  refine b_icmp_ge_f C (tgt := 51) dX12_feed_44 (by decide) (by decide) ?_
  refine lv_iload_n C.1 C.2.1 dX12_feed_47 rfl (lv_at hl 4 rfl) ?_
  refine lv_goto (tgt := 76) C.1 C.2.1 dX12_feed_48 (by decide) ?_
  refine lv_istore (lv' := [(7, .int x1), (6, .int 6), (0, .ref a0), (1, .int x0), (2, .int x1), (3, .int x2), (4, .int x3), (5, .int x4)]) C.1 C.2.1 dX12_feed_76 hl (by decide) rfl (fun ls hl => ?_)
  refine lv_aload_n C.1 C.2.1 dX12_feed_78 rfl (lv_at hl 2 rfl) ?_
  refine r_get C w 0 rfl rfl 6 (by decide) fl_RX12_26 (v := .ref a6) rfl dX12_feed_79 ?_
  refine lv_aload_n C.1 C.2.1 dX12_feed_82 rfl (lv_at hl 2 rfl) ?_
  refine r_get C w 0 rfl rfl 7 (by decide) fl_RX12_74 (v := .int 6) rfl dX12_feed_83 ?_
  refine lv_iload C.1 C.2.1 dX12_feed_86 (lv_at hl 0 rfl) ?_
  refine lv_bipush (v := 24) C.1 C.2.1 dX12_feed_88 (by decide) ?_
  refine lv_bipush (v := 8) C.1 C.2.1 dX12_feed_90 (by decide) ?_
  refine lv_iload C.1 C.2.1 dX12_feed_92 (lv_at hl 1 rfl) ?_
  refine lv_iconst (v := 3) C.1 C.2.1 dX12_feed_94 (by decide) ?_
  refine r_iand C (v := 2) dX12_feed_95 (by decide) ?_
  refine r_imul C (v := 16) dX12_feed_96 (by decide) ?_
  refine r_isub C (v := 8) dX12_feed_97 (by decide) ?_
  refine lv_iushr (v := ((x1).toUInt32 >>> ((8 : Int32).toUInt32 &&& Int32.toUInt32 31)).toInt32) C.1 C.2.1 dX12_feed_98 rfl ?_
  refine lv_sipush (v := 255) C.1 C.2.1 dX12_feed_99 (by decide) ?_
  refine r_iand C (v := (((x1).toUInt32 >>> ((8 : Int32).toUInt32 &&& Int32.toUInt32 31)).toInt32 &&& 255)) dX12_feed_102 rfl ?_
  refine r_iast C w 1 rfl (vinD (by decide)) (upd (upd (upd (upd (upd (upd (upd (fun _ => 0) 0 (((x0).toUInt32 >>> ((24 : Int32).toUInt32 &&& Int32.toUInt32 31)).toInt32 &&& 255)) 1 (((x0).toUInt32 >>> ((16 : Int32).toUInt32 &&& Int32.toUInt32 31)).toInt32 &&& 255)) 2 (((x0).toUInt32 >>> ((8 : Int32).toUInt32 &&& Int32.toUInt32 31)).toInt32 &&& 255)) 3 (((x0).toUInt32 >>> ((0 : Int32).toUInt32 &&& Int32.toUInt32 31)).toInt32 &&& 255)) 4 (((x1).toUInt32 >>> ((24 : Int32).toUInt32 &&& Int32.toUInt32 31)).toInt32 &&& 255)) 5 (((x1).toUInt32 >>> ((16 : Int32).toUInt32 &&& Int32.toUInt32 31)).toInt32 &&& 255)) 6 (((x1).toUInt32 >>> ((8 : Int32).toUInt32 &&& Int32.toUInt32 31)).toInt32 &&& 255)) rfl [(a0, .inr (12, [.ref a1, .ref a2, .ref a3, .ref a4, .ref a5, .int 0, .ref a6, .int 6, .int 0, .int 0, .int 0, .int 0, .int 0, .int 0, .int 0, .int 0, .int 0, .int (-1), .ref a7, .ref a8, .int 0, .ref a9, .int 0, .ref a10, .ref a11, .ref a12, .ref a13, .ref a14, .int 0, .ref a15, .ref a16, .ref a17])), (a6, .inl (cy 1, 900, .inl (upd (upd (upd (upd (upd (upd (upd (fun _ => 0) 0 (((x0).toUInt32 >>> ((24 : Int32).toUInt32 &&& Int32.toUInt32 31)).toInt32 &&& 255)) 1 (((x0).toUInt32 >>> ((16 : Int32).toUInt32 &&& Int32.toUInt32 31)).toInt32 &&& 255)) 2 (((x0).toUInt32 >>> ((8 : Int32).toUInt32 &&& Int32.toUInt32 31)).toInt32 &&& 255)) 3 (((x0).toUInt32 >>> ((0 : Int32).toUInt32 &&& Int32.toUInt32 31)).toInt32 &&& 255)) 4 (((x1).toUInt32 >>> ((24 : Int32).toUInt32 &&& Int32.toUInt32 31)).toInt32 &&& 255)) 5 (((x1).toUInt32 >>> ((16 : Int32).toUInt32 &&& Int32.toUInt32 31)).toInt32 &&& 255)) 6 (((x1).toUInt32 >>> ((8 : Int32).toUInt32 &&& Int32.toUInt32 31)).toInt32 &&& 255))))] rfl dX12_feed_103 (fun H locs w => ?_)
  refine lv_aload_n C.1 C.2.1 dX12_feed_104 rfl (lv_at hl 2 rfl) ?_
  refine lv_dup C.1 C.2.1 dX12_feed_105 rfl ?_
  refine r_get C w 0 rfl rfl 7 (by decide) fl_RX12_74 (v := .int 6) rfl dX12_feed_106 ?_
  refine lv_iconst (v := 1) C.1 C.2.1 dX12_feed_109 (by decide) ?_
  refine r_iadd C (v := 7) dX12_feed_110 (by decide) ?_
  refine r_put C w 0 rfl rfl 7 (by decide) fl_RX12_74 rfl (ty := .int) (tyX12_ok 7 (by decide)) rfl rfl (Nat.le_of_ble_eq_true rfl) [(a0, .inr (12, [.ref a1, .ref a2, .ref a3, .ref a4, .ref a5, .int 0, .ref a6, .int 7, .int 0, .int 0, .int 0, .int 0, .int 0, .int 0, .int 0, .int 0, .int 0, .int (-1), .ref a7, .ref a8, .int 0, .ref a9, .int 0, .ref a10, .ref a11, .ref a12, .ref a13, .ref a14, .int 0, .ref a15, .ref a16, .ref a17])), (a6, .inl (cy 1, 900, .inl (upd (upd (upd (upd (upd (upd (upd (fun _ => 0) 0 (((x0).toUInt32 >>> ((24 : Int32).toUInt32 &&& Int32.toUInt32 31)).toInt32 &&& 255)) 1 (((x0).toUInt32 >>> ((16 : Int32).toUInt32 &&& Int32.toUInt32 31)).toInt32 &&& 255)) 2 (((x0).toUInt32 >>> ((8 : Int32).toUInt32 &&& Int32.toUInt32 31)).toInt32 &&& 255)) 3 (((x0).toUInt32 >>> ((0 : Int32).toUInt32 &&& Int32.toUInt32 31)).toInt32 &&& 255)) 4 (((x1).toUInt32 >>> ((24 : Int32).toUInt32 &&& Int32.toUInt32 31)).toInt32 &&& 255)) 5 (((x1).toUInt32 >>> ((16 : Int32).toUInt32 &&& Int32.toUInt32 31)).toInt32 &&& 255)) 6 (((x1).toUInt32 >>> ((8 : Int32).toUInt32 &&& Int32.toUInt32 31)).toInt32 &&& 255))))] rfl dX12_feed_111 (fun H locs w => ?_)
  refine lv_iinc (v := 7) (lv' := [(6, .int 7), (7, .int x1), (0, .ref a0), (1, .int x0), (2, .int x1), (3, .int x2), (4, .int x3), (5, .int x4)]) C.1 C.2.1 dX12_feed_114 hl (k := 1) rfl (by decide) (by decide) rfl (fun ls hl => ?_)
  refine lv_goto (tgt := 23) C.1 C.2.1 dX12_feed_117 (by decide) ?_
  refine lv_iload C.1 C.2.1 dX12_feed_23 (lv_at hl 0 rfl) ?_
  refine lv_bipush (v := 20) C.1 C.2.1 dX12_feed_25 (by decide) ?_
  refine b_icmp_ge_f C (tgt := 120) dX12_feed_27 (by decide) (by decide) ?_
  refine lv_iload C.1 C.2.1 dX12_feed_30 (lv_at hl 0 rfl) ?_
  refine lv_iconst (v := 4) C.1 C.2.1 dX12_feed_32 (by decide) ?_
  refine b_icmp_ge_t C (tgt := 40) dX12_feed_33 (by decide) (by decide) ?_
  refine lv_iload C.1 C.2.1 dX12_feed_40 (lv_at hl 0 rfl) ?_
  refine lv_bipush (v := 8) C.1 C.2.1 dX12_feed_42 (by decide) ?_
  refine b_icmp_ge_f C (tgt := 51) dX12_feed_44 (by decide) (by decide) ?_
  refine lv_iload_n C.1 C.2.1 dX12_feed_47 rfl (lv_at hl 4 rfl) ?_
  refine lv_goto (tgt := 76) C.1 C.2.1 dX12_feed_48 (by decide) ?_
  refine lv_istore (lv' := [(7, .int x1), (6, .int 7), (0, .ref a0), (1, .int x0), (2, .int x1), (3, .int x2), (4, .int x3), (5, .int x4)]) C.1 C.2.1 dX12_feed_76 hl (by decide) rfl (fun ls hl => ?_)
  refine lv_aload_n C.1 C.2.1 dX12_feed_78 rfl (lv_at hl 2 rfl) ?_
  refine r_get C w 0 rfl rfl 6 (by decide) fl_RX12_26 (v := .ref a6) rfl dX12_feed_79 ?_
  refine lv_aload_n C.1 C.2.1 dX12_feed_82 rfl (lv_at hl 2 rfl) ?_
  refine r_get C w 0 rfl rfl 7 (by decide) fl_RX12_74 (v := .int 7) rfl dX12_feed_83 ?_
  refine lv_iload C.1 C.2.1 dX12_feed_86 (lv_at hl 0 rfl) ?_
  refine lv_bipush (v := 24) C.1 C.2.1 dX12_feed_88 (by decide) ?_
  refine lv_bipush (v := 8) C.1 C.2.1 dX12_feed_90 (by decide) ?_
  refine lv_iload C.1 C.2.1 dX12_feed_92 (lv_at hl 1 rfl) ?_
  refine lv_iconst (v := 3) C.1 C.2.1 dX12_feed_94 (by decide) ?_
  refine r_iand C (v := 3) dX12_feed_95 (by decide) ?_
  refine r_imul C (v := 24) dX12_feed_96 (by decide) ?_
  refine r_isub C (v := 0) dX12_feed_97 (by decide) ?_
  refine lv_iushr (v := ((x1).toUInt32 >>> ((0 : Int32).toUInt32 &&& Int32.toUInt32 31)).toInt32) C.1 C.2.1 dX12_feed_98 rfl ?_
  refine lv_sipush (v := 255) C.1 C.2.1 dX12_feed_99 (by decide) ?_
  refine r_iand C (v := (((x1).toUInt32 >>> ((0 : Int32).toUInt32 &&& Int32.toUInt32 31)).toInt32 &&& 255)) dX12_feed_102 rfl ?_
  refine r_iast C w 1 rfl (vinD (by decide)) (upd (upd (upd (upd (upd (upd (upd (upd (fun _ => 0) 0 (((x0).toUInt32 >>> ((24 : Int32).toUInt32 &&& Int32.toUInt32 31)).toInt32 &&& 255)) 1 (((x0).toUInt32 >>> ((16 : Int32).toUInt32 &&& Int32.toUInt32 31)).toInt32 &&& 255)) 2 (((x0).toUInt32 >>> ((8 : Int32).toUInt32 &&& Int32.toUInt32 31)).toInt32 &&& 255)) 3 (((x0).toUInt32 >>> ((0 : Int32).toUInt32 &&& Int32.toUInt32 31)).toInt32 &&& 255)) 4 (((x1).toUInt32 >>> ((24 : Int32).toUInt32 &&& Int32.toUInt32 31)).toInt32 &&& 255)) 5 (((x1).toUInt32 >>> ((16 : Int32).toUInt32 &&& Int32.toUInt32 31)).toInt32 &&& 255)) 6 (((x1).toUInt32 >>> ((8 : Int32).toUInt32 &&& Int32.toUInt32 31)).toInt32 &&& 255)) 7 (((x1).toUInt32 >>> ((0 : Int32).toUInt32 &&& Int32.toUInt32 31)).toInt32 &&& 255)) rfl [(a0, .inr (12, [.ref a1, .ref a2, .ref a3, .ref a4, .ref a5, .int 0, .ref a6, .int 7, .int 0, .int 0, .int 0, .int 0, .int 0, .int 0, .int 0, .int 0, .int 0, .int (-1), .ref a7, .ref a8, .int 0, .ref a9, .int 0, .ref a10, .ref a11, .ref a12, .ref a13, .ref a14, .int 0, .ref a15, .ref a16, .ref a17])), (a6, .inl (cy 1, 900, .inl (upd (upd (upd (upd (upd (upd (upd (upd (fun _ => 0) 0 (((x0).toUInt32 >>> ((24 : Int32).toUInt32 &&& Int32.toUInt32 31)).toInt32 &&& 255)) 1 (((x0).toUInt32 >>> ((16 : Int32).toUInt32 &&& Int32.toUInt32 31)).toInt32 &&& 255)) 2 (((x0).toUInt32 >>> ((8 : Int32).toUInt32 &&& Int32.toUInt32 31)).toInt32 &&& 255)) 3 (((x0).toUInt32 >>> ((0 : Int32).toUInt32 &&& Int32.toUInt32 31)).toInt32 &&& 255)) 4 (((x1).toUInt32 >>> ((24 : Int32).toUInt32 &&& Int32.toUInt32 31)).toInt32 &&& 255)) 5 (((x1).toUInt32 >>> ((16 : Int32).toUInt32 &&& Int32.toUInt32 31)).toInt32 &&& 255)) 6 (((x1).toUInt32 >>> ((8 : Int32).toUInt32 &&& Int32.toUInt32 31)).toInt32 &&& 255)) 7 (((x1).toUInt32 >>> ((0 : Int32).toUInt32 &&& Int32.toUInt32 31)).toInt32 &&& 255))))] rfl dX12_feed_103 (fun H locs w => ?_)
  refine lv_aload_n C.1 C.2.1 dX12_feed_104 rfl (lv_at hl 2 rfl) ?_
  refine lv_dup C.1 C.2.1 dX12_feed_105 rfl ?_
  refine r_get C w 0 rfl rfl 7 (by decide) fl_RX12_74 (v := .int 7) rfl dX12_feed_106 ?_
  refine lv_iconst (v := 1) C.1 C.2.1 dX12_feed_109 (by decide) ?_
  refine r_iadd C (v := 8) dX12_feed_110 (by decide) ?_
  refine r_put C w 0 rfl rfl 7 (by decide) fl_RX12_74 rfl (ty := .int) (tyX12_ok 7 (by decide)) rfl rfl (Nat.le_of_ble_eq_true rfl) [(a0, .inr (12, [.ref a1, .ref a2, .ref a3, .ref a4, .ref a5, .int 0, .ref a6, .int 8, .int 0, .int 0, .int 0, .int 0, .int 0, .int 0, .int 0, .int 0, .int 0, .int (-1), .ref a7, .ref a8, .int 0, .ref a9, .int 0, .ref a10, .ref a11, .ref a12, .ref a13, .ref a14, .int 0, .ref a15, .ref a16, .ref a17])), (a6, .inl (cy 1, 900, .inl (upd (upd (upd (upd (upd (upd (upd (upd (fun _ => 0) 0 (((x0).toUInt32 >>> ((24 : Int32).toUInt32 &&& Int32.toUInt32 31)).toInt32 &&& 255)) 1 (((x0).toUInt32 >>> ((16 : Int32).toUInt32 &&& Int32.toUInt32 31)).toInt32 &&& 255)) 2 (((x0).toUInt32 >>> ((8 : Int32).toUInt32 &&& Int32.toUInt32 31)).toInt32 &&& 255)) 3 (((x0).toUInt32 >>> ((0 : Int32).toUInt32 &&& Int32.toUInt32 31)).toInt32 &&& 255)) 4 (((x1).toUInt32 >>> ((24 : Int32).toUInt32 &&& Int32.toUInt32 31)).toInt32 &&& 255)) 5 (((x1).toUInt32 >>> ((16 : Int32).toUInt32 &&& Int32.toUInt32 31)).toInt32 &&& 255)) 6 (((x1).toUInt32 >>> ((8 : Int32).toUInt32 &&& Int32.toUInt32 31)).toInt32 &&& 255)) 7 (((x1).toUInt32 >>> ((0 : Int32).toUInt32 &&& Int32.toUInt32 31)).toInt32 &&& 255))))] rfl dX12_feed_111 (fun H locs w => ?_)
  refine lv_iinc (v := 8) (lv' := [(6, .int 8), (7, .int x1), (0, .ref a0), (1, .int x0), (2, .int x1), (3, .int x2), (4, .int x3), (5, .int x4)]) C.1 C.2.1 dX12_feed_114 hl (k := 1) rfl (by decide) (by decide) rfl (fun ls hl => ?_)
  refine lv_goto (tgt := 23) C.1 C.2.1 dX12_feed_117 (by decide) ?_
  refine lv_iload C.1 C.2.1 dX12_feed_23 (lv_at hl 0 rfl) ?_
  refine lv_bipush (v := 20) C.1 C.2.1 dX12_feed_25 (by decide) ?_
  refine b_icmp_ge_f C (tgt := 120) dX12_feed_27 (by decide) (by decide) ?_
  refine lv_iload C.1 C.2.1 dX12_feed_30 (lv_at hl 0 rfl) ?_
  refine lv_iconst (v := 4) C.1 C.2.1 dX12_feed_32 (by decide) ?_
  refine b_icmp_ge_t C (tgt := 40) dX12_feed_33 (by decide) (by decide) ?_
  refine lv_iload C.1 C.2.1 dX12_feed_40 (lv_at hl 0 rfl) ?_
  refine lv_bipush (v := 8) C.1 C.2.1 dX12_feed_42 (by decide) ?_
  refine b_icmp_ge_t C (tgt := 51) dX12_feed_44 (by decide) (by decide) ?_
  refine lv_iload C.1 C.2.1 dX12_feed_51 (lv_at hl 0 rfl) ?_
  refine lv_bipush (v := 12) C.1 C.2.1 dX12_feed_53 (by decide) ?_
  refine b_icmp_ge_f C (tgt := 62) dX12_feed_55 (by decide) (by decide) ?_
  refine lv_iload_n C.1 C.2.1 dX12_feed_58 rfl (lv_at hl 5 rfl) ?_
  refine lv_goto (tgt := 76) C.1 C.2.1 dX12_feed_59 (by decide) ?_
  refine lv_istore (lv' := [(7, .int x2), (6, .int 8), (0, .ref a0), (1, .int x0), (2, .int x1), (3, .int x2), (4, .int x3), (5, .int x4)]) C.1 C.2.1 dX12_feed_76 hl (by decide) rfl (fun ls hl => ?_)
  refine lv_aload_n C.1 C.2.1 dX12_feed_78 rfl (lv_at hl 2 rfl) ?_
  refine r_get C w 0 rfl rfl 6 (by decide) fl_RX12_26 (v := .ref a6) rfl dX12_feed_79 ?_
  refine lv_aload_n C.1 C.2.1 dX12_feed_82 rfl (lv_at hl 2 rfl) ?_
  refine r_get C w 0 rfl rfl 7 (by decide) fl_RX12_74 (v := .int 8) rfl dX12_feed_83 ?_
  refine lv_iload C.1 C.2.1 dX12_feed_86 (lv_at hl 0 rfl) ?_
  refine lv_bipush (v := 24) C.1 C.2.1 dX12_feed_88 (by decide) ?_
  refine lv_bipush (v := 8) C.1 C.2.1 dX12_feed_90 (by decide) ?_
  refine lv_iload C.1 C.2.1 dX12_feed_92 (lv_at hl 1 rfl) ?_
  refine lv_iconst (v := 3) C.1 C.2.1 dX12_feed_94 (by decide) ?_
  refine r_iand C (v := 0) dX12_feed_95 (by decide) ?_
  refine r_imul C (v := 0) dX12_feed_96 (by decide) ?_
  refine r_isub C (v := 24) dX12_feed_97 (by decide) ?_
  refine lv_iushr (v := ((x2).toUInt32 >>> ((24 : Int32).toUInt32 &&& Int32.toUInt32 31)).toInt32) C.1 C.2.1 dX12_feed_98 rfl ?_
  refine lv_sipush (v := 255) C.1 C.2.1 dX12_feed_99 (by decide) ?_
  refine r_iand C (v := (((x2).toUInt32 >>> ((24 : Int32).toUInt32 &&& Int32.toUInt32 31)).toInt32 &&& 255)) dX12_feed_102 rfl ?_
  refine r_iast C w 1 rfl (vinD (by decide)) (upd (upd (upd (upd (upd (upd (upd (upd (upd (fun _ => 0) 0 (((x0).toUInt32 >>> ((24 : Int32).toUInt32 &&& Int32.toUInt32 31)).toInt32 &&& 255)) 1 (((x0).toUInt32 >>> ((16 : Int32).toUInt32 &&& Int32.toUInt32 31)).toInt32 &&& 255)) 2 (((x0).toUInt32 >>> ((8 : Int32).toUInt32 &&& Int32.toUInt32 31)).toInt32 &&& 255)) 3 (((x0).toUInt32 >>> ((0 : Int32).toUInt32 &&& Int32.toUInt32 31)).toInt32 &&& 255)) 4 (((x1).toUInt32 >>> ((24 : Int32).toUInt32 &&& Int32.toUInt32 31)).toInt32 &&& 255)) 5 (((x1).toUInt32 >>> ((16 : Int32).toUInt32 &&& Int32.toUInt32 31)).toInt32 &&& 255)) 6 (((x1).toUInt32 >>> ((8 : Int32).toUInt32 &&& Int32.toUInt32 31)).toInt32 &&& 255)) 7 (((x1).toUInt32 >>> ((0 : Int32).toUInt32 &&& Int32.toUInt32 31)).toInt32 &&& 255)) 8 (((x2).toUInt32 >>> ((24 : Int32).toUInt32 &&& Int32.toUInt32 31)).toInt32 &&& 255)) rfl [(a0, .inr (12, [.ref a1, .ref a2, .ref a3, .ref a4, .ref a5, .int 0, .ref a6, .int 8, .int 0, .int 0, .int 0, .int 0, .int 0, .int 0, .int 0, .int 0, .int 0, .int (-1), .ref a7, .ref a8, .int 0, .ref a9, .int 0, .ref a10, .ref a11, .ref a12, .ref a13, .ref a14, .int 0, .ref a15, .ref a16, .ref a17])), (a6, .inl (cy 1, 900, .inl (upd (upd (upd (upd (upd (upd (upd (upd (upd (fun _ => 0) 0 (((x0).toUInt32 >>> ((24 : Int32).toUInt32 &&& Int32.toUInt32 31)).toInt32 &&& 255)) 1 (((x0).toUInt32 >>> ((16 : Int32).toUInt32 &&& Int32.toUInt32 31)).toInt32 &&& 255)) 2 (((x0).toUInt32 >>> ((8 : Int32).toUInt32 &&& Int32.toUInt32 31)).toInt32 &&& 255)) 3 (((x0).toUInt32 >>> ((0 : Int32).toUInt32 &&& Int32.toUInt32 31)).toInt32 &&& 255)) 4 (((x1).toUInt32 >>> ((24 : Int32).toUInt32 &&& Int32.toUInt32 31)).toInt32 &&& 255)) 5 (((x1).toUInt32 >>> ((16 : Int32).toUInt32 &&& Int32.toUInt32 31)).toInt32 &&& 255)) 6 (((x1).toUInt32 >>> ((8 : Int32).toUInt32 &&& Int32.toUInt32 31)).toInt32 &&& 255)) 7 (((x1).toUInt32 >>> ((0 : Int32).toUInt32 &&& Int32.toUInt32 31)).toInt32 &&& 255)) 8 (((x2).toUInt32 >>> ((24 : Int32).toUInt32 &&& Int32.toUInt32 31)).toInt32 &&& 255))))] rfl dX12_feed_103 (fun H locs w => ?_)
  refine lv_aload_n C.1 C.2.1 dX12_feed_104 rfl (lv_at hl 2 rfl) ?_
  refine lv_dup C.1 C.2.1 dX12_feed_105 rfl ?_
  refine r_get C w 0 rfl rfl 7 (by decide) fl_RX12_74 (v := .int 8) rfl dX12_feed_106 ?_
  refine lv_iconst (v := 1) C.1 C.2.1 dX12_feed_109 (by decide) ?_
  refine r_iadd C (v := 9) dX12_feed_110 (by decide) ?_
  refine r_put C w 0 rfl rfl 7 (by decide) fl_RX12_74 rfl (ty := .int) (tyX12_ok 7 (by decide)) rfl rfl (Nat.le_of_ble_eq_true rfl) [(a0, .inr (12, [.ref a1, .ref a2, .ref a3, .ref a4, .ref a5, .int 0, .ref a6, .int 9, .int 0, .int 0, .int 0, .int 0, .int 0, .int 0, .int 0, .int 0, .int 0, .int (-1), .ref a7, .ref a8, .int 0, .ref a9, .int 0, .ref a10, .ref a11, .ref a12, .ref a13, .ref a14, .int 0, .ref a15, .ref a16, .ref a17])), (a6, .inl (cy 1, 900, .inl (upd (upd (upd (upd (upd (upd (upd (upd (upd (fun _ => 0) 0 (((x0).toUInt32 >>> ((24 : Int32).toUInt32 &&& Int32.toUInt32 31)).toInt32 &&& 255)) 1 (((x0).toUInt32 >>> ((16 : Int32).toUInt32 &&& Int32.toUInt32 31)).toInt32 &&& 255)) 2 (((x0).toUInt32 >>> ((8 : Int32).toUInt32 &&& Int32.toUInt32 31)).toInt32 &&& 255)) 3 (((x0).toUInt32 >>> ((0 : Int32).toUInt32 &&& Int32.toUInt32 31)).toInt32 &&& 255)) 4 (((x1).toUInt32 >>> ((24 : Int32).toUInt32 &&& Int32.toUInt32 31)).toInt32 &&& 255)) 5 (((x1).toUInt32 >>> ((16 : Int32).toUInt32 &&& Int32.toUInt32 31)).toInt32 &&& 255)) 6 (((x1).toUInt32 >>> ((8 : Int32).toUInt32 &&& Int32.toUInt32 31)).toInt32 &&& 255)) 7 (((x1).toUInt32 >>> ((0 : Int32).toUInt32 &&& Int32.toUInt32 31)).toInt32 &&& 255)) 8 (((x2).toUInt32 >>> ((24 : Int32).toUInt32 &&& Int32.toUInt32 31)).toInt32 &&& 255))))] rfl dX12_feed_111 (fun H locs w => ?_)
  refine lv_iinc (v := 9) (lv' := [(6, .int 9), (7, .int x2), (0, .ref a0), (1, .int x0), (2, .int x1), (3, .int x2), (4, .int x3), (5, .int x4)]) C.1 C.2.1 dX12_feed_114 hl (k := 1) rfl (by decide) (by decide) rfl (fun ls hl => ?_)
  refine lv_goto (tgt := 23) C.1 C.2.1 dX12_feed_117 (by decide) ?_
  refine lv_iload C.1 C.2.1 dX12_feed_23 (lv_at hl 0 rfl) ?_
  refine lv_bipush (v := 20) C.1 C.2.1 dX12_feed_25 (by decide) ?_
  refine b_icmp_ge_f C (tgt := 120) dX12_feed_27 (by decide) (by decide) ?_
  refine lv_iload C.1 C.2.1 dX12_feed_30 (lv_at hl 0 rfl) ?_
  refine lv_iconst (v := 4) C.1 C.2.1 dX12_feed_32 (by decide) ?_
  refine b_icmp_ge_t C (tgt := 40) dX12_feed_33 (by decide) (by decide) ?_
  refine lv_iload C.1 C.2.1 dX12_feed_40 (lv_at hl 0 rfl) ?_
  refine lv_bipush (v := 8) C.1 C.2.1 dX12_feed_42 (by decide) ?_
  refine b_icmp_ge_t C (tgt := 51) dX12_feed_44 (by decide) (by decide) ?_
  refine lv_iload C.1 C.2.1 dX12_feed_51 (lv_at hl 0 rfl) ?_
  refine lv_bipush (v := 12) C.1 C.2.1 dX12_feed_53 (by decide) ?_
  refine b_icmp_ge_f C (tgt := 62) dX12_feed_55 (by decide) (by decide) ?_
  refine lv_iload_n C.1 C.2.1 dX12_feed_58 rfl (lv_at hl 5 rfl) ?_
  refine lv_goto (tgt := 76) C.1 C.2.1 dX12_feed_59 (by decide) ?_
  refine lv_istore (lv' := [(7, .int x2), (6, .int 9), (0, .ref a0), (1, .int x0), (2, .int x1), (3, .int x2), (4, .int x3), (5, .int x4)]) C.1 C.2.1 dX12_feed_76 hl (by decide) rfl (fun ls hl => ?_)
  refine lv_aload_n C.1 C.2.1 dX12_feed_78 rfl (lv_at hl 2 rfl) ?_
  refine r_get C w 0 rfl rfl 6 (by decide) fl_RX12_26 (v := .ref a6) rfl dX12_feed_79 ?_
  refine lv_aload_n C.1 C.2.1 dX12_feed_82 rfl (lv_at hl 2 rfl) ?_
  refine r_get C w 0 rfl rfl 7 (by decide) fl_RX12_74 (v := .int 9) rfl dX12_feed_83 ?_
  refine lv_iload C.1 C.2.1 dX12_feed_86 (lv_at hl 0 rfl) ?_
  refine lv_bipush (v := 24) C.1 C.2.1 dX12_feed_88 (by decide) ?_
  refine lv_bipush (v := 8) C.1 C.2.1 dX12_feed_90 (by decide) ?_
  refine lv_iload C.1 C.2.1 dX12_feed_92 (lv_at hl 1 rfl) ?_
  refine lv_iconst (v := 3) C.1 C.2.1 dX12_feed_94 (by decide) ?_
  refine r_iand C (v := 1) dX12_feed_95 (by decide) ?_
  refine r_imul C (v := 8) dX12_feed_96 (by decide) ?_
  refine r_isub C (v := 16) dX12_feed_97 (by decide) ?_
  refine lv_iushr (v := ((x2).toUInt32 >>> ((16 : Int32).toUInt32 &&& Int32.toUInt32 31)).toInt32) C.1 C.2.1 dX12_feed_98 rfl ?_
  refine lv_sipush (v := 255) C.1 C.2.1 dX12_feed_99 (by decide) ?_
  refine r_iand C (v := (((x2).toUInt32 >>> ((16 : Int32).toUInt32 &&& Int32.toUInt32 31)).toInt32 &&& 255)) dX12_feed_102 rfl ?_
  refine r_iast C w 1 rfl (vinD (by decide)) (upd (upd (upd (upd (upd (upd (upd (upd (upd (upd (fun _ => 0) 0 (((x0).toUInt32 >>> ((24 : Int32).toUInt32 &&& Int32.toUInt32 31)).toInt32 &&& 255)) 1 (((x0).toUInt32 >>> ((16 : Int32).toUInt32 &&& Int32.toUInt32 31)).toInt32 &&& 255)) 2 (((x0).toUInt32 >>> ((8 : Int32).toUInt32 &&& Int32.toUInt32 31)).toInt32 &&& 255)) 3 (((x0).toUInt32 >>> ((0 : Int32).toUInt32 &&& Int32.toUInt32 31)).toInt32 &&& 255)) 4 (((x1).toUInt32 >>> ((24 : Int32).toUInt32 &&& Int32.toUInt32 31)).toInt32 &&& 255)) 5 (((x1).toUInt32 >>> ((16 : Int32).toUInt32 &&& Int32.toUInt32 31)).toInt32 &&& 255)) 6 (((x1).toUInt32 >>> ((8 : Int32).toUInt32 &&& Int32.toUInt32 31)).toInt32 &&& 255)) 7 (((x1).toUInt32 >>> ((0 : Int32).toUInt32 &&& Int32.toUInt32 31)).toInt32 &&& 255)) 8 (((x2).toUInt32 >>> ((24 : Int32).toUInt32 &&& Int32.toUInt32 31)).toInt32 &&& 255)) 9 (((x2).toUInt32 >>> ((16 : Int32).toUInt32 &&& Int32.toUInt32 31)).toInt32 &&& 255)) rfl [(a0, .inr (12, [.ref a1, .ref a2, .ref a3, .ref a4, .ref a5, .int 0, .ref a6, .int 9, .int 0, .int 0, .int 0, .int 0, .int 0, .int 0, .int 0, .int 0, .int 0, .int (-1), .ref a7, .ref a8, .int 0, .ref a9, .int 0, .ref a10, .ref a11, .ref a12, .ref a13, .ref a14, .int 0, .ref a15, .ref a16, .ref a17])), (a6, .inl (cy 1, 900, .inl (upd (upd (upd (upd (upd (upd (upd (upd (upd (upd (fun _ => 0) 0 (((x0).toUInt32 >>> ((24 : Int32).toUInt32 &&& Int32.toUInt32 31)).toInt32 &&& 255)) 1 (((x0).toUInt32 >>> ((16 : Int32).toUInt32 &&& Int32.toUInt32 31)).toInt32 &&& 255)) 2 (((x0).toUInt32 >>> ((8 : Int32).toUInt32 &&& Int32.toUInt32 31)).toInt32 &&& 255)) 3 (((x0).toUInt32 >>> ((0 : Int32).toUInt32 &&& Int32.toUInt32 31)).toInt32 &&& 255)) 4 (((x1).toUInt32 >>> ((24 : Int32).toUInt32 &&& Int32.toUInt32 31)).toInt32 &&& 255)) 5 (((x1).toUInt32 >>> ((16 : Int32).toUInt32 &&& Int32.toUInt32 31)).toInt32 &&& 255)) 6 (((x1).toUInt32 >>> ((8 : Int32).toUInt32 &&& Int32.toUInt32 31)).toInt32 &&& 255)) 7 (((x1).toUInt32 >>> ((0 : Int32).toUInt32 &&& Int32.toUInt32 31)).toInt32 &&& 255)) 8 (((x2).toUInt32 >>> ((24 : Int32).toUInt32 &&& Int32.toUInt32 31)).toInt32 &&& 255)) 9 (((x2).toUInt32 >>> ((16 : Int32).toUInt32 &&& Int32.toUInt32 31)).toInt32 &&& 255))))] rfl dX12_feed_103 (fun H locs w => ?_)
  refine lv_aload_n C.1 C.2.1 dX12_feed_104 rfl (lv_at hl 2 rfl) ?_
  refine lv_dup C.1 C.2.1 dX12_feed_105 rfl ?_
  refine r_get C w 0 rfl rfl 7 (by decide) fl_RX12_74 (v := .int 9) rfl dX12_feed_106 ?_
  refine lv_iconst (v := 1) C.1 C.2.1 dX12_feed_109 (by decide) ?_
  refine r_iadd C (v := 10) dX12_feed_110 (by decide) ?_
  refine r_put C w 0 rfl rfl 7 (by decide) fl_RX12_74 rfl (ty := .int) (tyX12_ok 7 (by decide)) rfl rfl (Nat.le_of_ble_eq_true rfl) [(a0, .inr (12, [.ref a1, .ref a2, .ref a3, .ref a4, .ref a5, .int 0, .ref a6, .int 10, .int 0, .int 0, .int 0, .int 0, .int 0, .int 0, .int 0, .int 0, .int 0, .int (-1), .ref a7, .ref a8, .int 0, .ref a9, .int 0, .ref a10, .ref a11, .ref a12, .ref a13, .ref a14, .int 0, .ref a15, .ref a16, .ref a17])), (a6, .inl (cy 1, 900, .inl (upd (upd (upd (upd (upd (upd (upd (upd (upd (upd (fun _ => 0) 0 (((x0).toUInt32 >>> ((24 : Int32).toUInt32 &&& Int32.toUInt32 31)).toInt32 &&& 255)) 1 (((x0).toUInt32 >>> ((16 : Int32).toUInt32 &&& Int32.toUInt32 31)).toInt32 &&& 255)) 2 (((x0).toUInt32 >>> ((8 : Int32).toUInt32 &&& Int32.toUInt32 31)).toInt32 &&& 255)) 3 (((x0).toUInt32 >>> ((0 : Int32).toUInt32 &&& Int32.toUInt32 31)).toInt32 &&& 255)) 4 (((x1).toUInt32 >>> ((24 : Int32).toUInt32 &&& Int32.toUInt32 31)).toInt32 &&& 255)) 5 (((x1).toUInt32 >>> ((16 : Int32).toUInt32 &&& Int32.toUInt32 31)).toInt32 &&& 255)) 6 (((x1).toUInt32 >>> ((8 : Int32).toUInt32 &&& Int32.toUInt32 31)).toInt32 &&& 255)) 7 (((x1).toUInt32 >>> ((0 : Int32).toUInt32 &&& Int32.toUInt32 31)).toInt32 &&& 255)) 8 (((x2).toUInt32 >>> ((24 : Int32).toUInt32 &&& Int32.toUInt32 31)).toInt32 &&& 255)) 9 (((x2).toUInt32 >>> ((16 : Int32).toUInt32 &&& Int32.toUInt32 31)).toInt32 &&& 255))))] rfl dX12_feed_111 (fun H locs w => ?_)
  refine lv_iinc (v := 10) (lv' := [(6, .int 10), (7, .int x2), (0, .ref a0), (1, .int x0), (2, .int x1), (3, .int x2), (4, .int x3), (5, .int x4)]) C.1 C.2.1 dX12_feed_114 hl (k := 1) rfl (by decide) (by decide) rfl (fun ls hl => ?_)
  refine lv_goto (tgt := 23) C.1 C.2.1 dX12_feed_117 (by decide) ?_
  refine lv_iload C.1 C.2.1 dX12_feed_23 (lv_at hl 0 rfl) ?_
  refine lv_bipush (v := 20) C.1 C.2.1 dX12_feed_25 (by decide) ?_
  refine b_icmp_ge_f C (tgt := 120) dX12_feed_27 (by decide) (by decide) ?_
  refine lv_iload C.1 C.2.1 dX12_feed_30 (lv_at hl 0 rfl) ?_
  refine lv_iconst (v := 4) C.1 C.2.1 dX12_feed_32 (by decide) ?_
  refine b_icmp_ge_t C (tgt := 40) dX12_feed_33 (by decide) (by decide) ?_
  refine lv_iload C.1 C.2.1 dX12_feed_40 (lv_at hl 0 rfl) ?_
  refine lv_bipush (v := 8) C.1 C.2.1 dX12_feed_42 (by decide) ?_
  refine b_icmp_ge_t C (tgt := 51) dX12_feed_44 (by decide) (by decide) ?_
  refine lv_iload C.1 C.2.1 dX12_feed_51 (lv_at hl 0 rfl) ?_
  refine lv_bipush (v := 12) C.1 C.2.1 dX12_feed_53 (by decide) ?_
  refine b_icmp_ge_f C (tgt := 62) dX12_feed_55 (by decide) (by decide) ?_
  refine lv_iload_n C.1 C.2.1 dX12_feed_58 rfl (lv_at hl 5 rfl) ?_
  refine lv_goto (tgt := 76) C.1 C.2.1 dX12_feed_59 (by decide) ?_
  refine lv_istore (lv' := [(7, .int x2), (6, .int 10), (0, .ref a0), (1, .int x0), (2, .int x1), (3, .int x2), (4, .int x3), (5, .int x4)]) C.1 C.2.1 dX12_feed_76 hl (by decide) rfl (fun ls hl => ?_)
  refine lv_aload_n C.1 C.2.1 dX12_feed_78 rfl (lv_at hl 2 rfl) ?_
  refine r_get C w 0 rfl rfl 6 (by decide) fl_RX12_26 (v := .ref a6) rfl dX12_feed_79 ?_
  refine lv_aload_n C.1 C.2.1 dX12_feed_82 rfl (lv_at hl 2 rfl) ?_
  refine r_get C w 0 rfl rfl 7 (by decide) fl_RX12_74 (v := .int 10) rfl dX12_feed_83 ?_
  refine lv_iload C.1 C.2.1 dX12_feed_86 (lv_at hl 0 rfl) ?_
  refine lv_bipush (v := 24) C.1 C.2.1 dX12_feed_88 (by decide) ?_
  refine lv_bipush (v := 8) C.1 C.2.1 dX12_feed_90 (by decide) ?_
  refine lv_iload C.1 C.2.1 dX12_feed_92 (lv_at hl 1 rfl) ?_
  refine lv_iconst (v := 3) C.1 C.2.1 dX12_feed_94 (by decide) ?_
  refine r_iand C (v := 2) dX12_feed_95 (by decide) ?_
  refine r_imul C (v := 16) dX12_feed_96 (by decide) ?_
  refine r_isub C (v := 8) dX12_feed_97 (by decide) ?_
  refine lv_iushr (v := ((x2).toUInt32 >>> ((8 : Int32).toUInt32 &&& Int32.toUInt32 31)).toInt32) C.1 C.2.1 dX12_feed_98 rfl ?_
  refine lv_sipush (v := 255) C.1 C.2.1 dX12_feed_99 (by decide) ?_
  refine r_iand C (v := (((x2).toUInt32 >>> ((8 : Int32).toUInt32 &&& Int32.toUInt32 31)).toInt32 &&& 255)) dX12_feed_102 rfl ?_
  refine r_iast C w 1 rfl (vinD (by decide)) (upd (upd (upd (upd (upd (upd (upd (upd (upd (upd (upd (fun _ => 0) 0 (((x0).toUInt32 >>> ((24 : Int32).toUInt32 &&& Int32.toUInt32 31)).toInt32 &&& 255)) 1 (((x0).toUInt32 >>> ((16 : Int32).toUInt32 &&& Int32.toUInt32 31)).toInt32 &&& 255)) 2 (((x0).toUInt32 >>> ((8 : Int32).toUInt32 &&& Int32.toUInt32 31)).toInt32 &&& 255)) 3 (((x0).toUInt32 >>> ((0 : Int32).toUInt32 &&& Int32.toUInt32 31)).toInt32 &&& 255)) 4 (((x1).toUInt32 >>> ((24 : Int32).toUInt32 &&& Int32.toUInt32 31)).toInt32 &&& 255)) 5 (((x1).toUInt32 >>> ((16 : Int32).toUInt32 &&& Int32.toUInt32 31)).toInt32 &&& 255)) 6 (((x1).toUInt32 >>> ((8 : Int32).toUInt32 &&& Int32.toUInt32 31)).toInt32 &&& 255)) 7 (((x1).toUInt32 >>> ((0 : Int32).toUInt32 &&& Int32.toUInt32 31)).toInt32 &&& 255)) 8 (((x2).toUInt32 >>> ((24 : Int32).toUInt32 &&& Int32.toUInt32 31)).toInt32 &&& 255)) 9 (((x2).toUInt32 >>> ((16 : Int32).toUInt32 &&& Int32.toUInt32 31)).toInt32 &&& 255)) 10 (((x2).toUInt32 >>> ((8 : Int32).toUInt32 &&& Int32.toUInt32 31)).toInt32 &&& 255)) rfl [(a0, .inr (12, [.ref a1, .ref a2, .ref a3, .ref a4, .ref a5, .int 0, .ref a6, .int 10, .int 0, .int 0, .int 0, .int 0, .int 0, .int 0, .int 0, .int 0, .int 0, .int (-1), .ref a7, .ref a8, .int 0, .ref a9, .int 0, .ref a10, .ref a11, .ref a12, .ref a13, .ref a14, .int 0, .ref a15, .ref a16, .ref a17])), (a6, .inl (cy 1, 900, .inl (upd (upd (upd (upd (upd (upd (upd (upd (upd (upd (upd (fun _ => 0) 0 (((x0).toUInt32 >>> ((24 : Int32).toUInt32 &&& Int32.toUInt32 31)).toInt32 &&& 255)) 1 (((x0).toUInt32 >>> ((16 : Int32).toUInt32 &&& Int32.toUInt32 31)).toInt32 &&& 255)) 2 (((x0).toUInt32 >>> ((8 : Int32).toUInt32 &&& Int32.toUInt32 31)).toInt32 &&& 255)) 3 (((x0).toUInt32 >>> ((0 : Int32).toUInt32 &&& Int32.toUInt32 31)).toInt32 &&& 255)) 4 (((x1).toUInt32 >>> ((24 : Int32).toUInt32 &&& Int32.toUInt32 31)).toInt32 &&& 255)) 5 (((x1).toUInt32 >>> ((16 : Int32).toUInt32 &&& Int32.toUInt32 31)).toInt32 &&& 255)) 6 (((x1).toUInt32 >>> ((8 : Int32).toUInt32 &&& Int32.toUInt32 31)).toInt32 &&& 255)) 7 (((x1).toUInt32 >>> ((0 : Int32).toUInt32 &&& Int32.toUInt32 31)).toInt32 &&& 255)) 8 (((x2).toUInt32 >>> ((24 : Int32).toUInt32 &&& Int32.toUInt32 31)).toInt32 &&& 255)) 9 (((x2).toUInt32 >>> ((16 : Int32).toUInt32 &&& Int32.toUInt32 31)).toInt32 &&& 255)) 10 (((x2).toUInt32 >>> ((8 : Int32).toUInt32 &&& Int32.toUInt32 31)).toInt32 &&& 255))))] rfl dX12_feed_103 (fun H locs w => ?_)
  refine lv_aload_n C.1 C.2.1 dX12_feed_104 rfl (lv_at hl 2 rfl) ?_
  refine lv_dup C.1 C.2.1 dX12_feed_105 rfl ?_
  refine r_get C w 0 rfl rfl 7 (by decide) fl_RX12_74 (v := .int 10) rfl dX12_feed_106 ?_
  refine lv_iconst (v := 1) C.1 C.2.1 dX12_feed_109 (by decide) ?_
  refine r_iadd C (v := 11) dX12_feed_110 (by decide) ?_
  refine r_put C w 0 rfl rfl 7 (by decide) fl_RX12_74 rfl (ty := .int) (tyX12_ok 7 (by decide)) rfl rfl (Nat.le_of_ble_eq_true rfl) [(a0, .inr (12, [.ref a1, .ref a2, .ref a3, .ref a4, .ref a5, .int 0, .ref a6, .int 11, .int 0, .int 0, .int 0, .int 0, .int 0, .int 0, .int 0, .int 0, .int 0, .int (-1), .ref a7, .ref a8, .int 0, .ref a9, .int 0, .ref a10, .ref a11, .ref a12, .ref a13, .ref a14, .int 0, .ref a15, .ref a16, .ref a17])), (a6, .inl (cy 1, 900, .inl (upd (upd (upd (upd (upd (upd (upd (upd (upd (upd (upd (fun _ => 0) 0 (((x0).toUInt32 >>> ((24 : Int32).toUInt32 &&& Int32.toUInt32 31)).toInt32 &&& 255)) 1 (((x0).toUInt32 >>> ((16 : Int32).toUInt32 &&& Int32.toUInt32 31)).toInt32 &&& 255)) 2 (((x0).toUInt32 >>> ((8 : Int32).toUInt32 &&& Int32.toUInt32 31)).toInt32 &&& 255)) 3 (((x0).toUInt32 >>> ((0 : Int32).toUInt32 &&& Int32.toUInt32 31)).toInt32 &&& 255)) 4 (((x1).toUInt32 >>> ((24 : Int32).toUInt32 &&& Int32.toUInt32 31)).toInt32 &&& 255)) 5 (((x1).toUInt32 >>> ((16 : Int32).toUInt32 &&& Int32.toUInt32 31)).toInt32 &&& 255)) 6 (((x1).toUInt32 >>> ((8 : Int32).toUInt32 &&& Int32.toUInt32 31)).toInt32 &&& 255)) 7 (((x1).toUInt32 >>> ((0 : Int32).toUInt32 &&& Int32.toUInt32 31)).toInt32 &&& 255)) 8 (((x2).toUInt32 >>> ((24 : Int32).toUInt32 &&& Int32.toUInt32 31)).toInt32 &&& 255)) 9 (((x2).toUInt32 >>> ((16 : Int32).toUInt32 &&& Int32.toUInt32 31)).toInt32 &&& 255)) 10 (((x2).toUInt32 >>> ((8 : Int32).toUInt32 &&& Int32.toUInt32 31)).toInt32 &&& 255))))] rfl dX12_feed_111 (fun H locs w => ?_)
  refine lv_iinc (v := 11) (lv' := [(6, .int 11), (7, .int x2), (0, .ref a0), (1, .int x0), (2, .int x1), (3, .int x2), (4, .int x3), (5, .int x4)]) C.1 C.2.1 dX12_feed_114 hl (k := 1) rfl (by decide) (by decide) rfl (fun ls hl => ?_)
  refine lv_goto (tgt := 23) C.1 C.2.1 dX12_feed_117 (by decide) ?_
  refine lv_iload C.1 C.2.1 dX12_feed_23 (lv_at hl 0 rfl) ?_
  refine lv_bipush (v := 20) C.1 C.2.1 dX12_feed_25 (by decide) ?_
  refine b_icmp_ge_f C (tgt := 120) dX12_feed_27 (by decide) (by decide) ?_
  refine lv_iload C.1 C.2.1 dX12_feed_30 (lv_at hl 0 rfl) ?_
  refine lv_iconst (v := 4) C.1 C.2.1 dX12_feed_32 (by decide) ?_
  refine b_icmp_ge_t C (tgt := 40) dX12_feed_33 (by decide) (by decide) ?_
  refine lv_iload C.1 C.2.1 dX12_feed_40 (lv_at hl 0 rfl) ?_
  refine lv_bipush (v := 8) C.1 C.2.1 dX12_feed_42 (by decide) ?_
  refine b_icmp_ge_t C (tgt := 51) dX12_feed_44 (by decide) (by decide) ?_
  refine lv_iload C.1 C.2.1 dX12_feed_51 (lv_at hl 0 rfl) ?_
  refine lv_bipush (v := 12) C.1 C.2.1 dX12_feed_53 (by decide) ?_
  refine b_icmp_ge_f C (tgt := 62) dX12_feed_55 (by decide) (by decide) ?_
  refine lv_iload_n C.1 C.2.1 dX12_feed_58 rfl (lv_at hl 5 rfl) ?_
  refine lv_goto (tgt := 76) C.1 C.2.1 dX12_feed_59 (by decide) ?_
  refine lv_istore (lv' := [(7, .int x2), (6, .int 11), (0, .ref a0), (1, .int x0), (2, .int x1), (3, .int x2), (4, .int x3), (5, .int x4)]) C.1 C.2.1 dX12_feed_76 hl (by decide) rfl (fun ls hl => ?_)
  refine lv_aload_n C.1 C.2.1 dX12_feed_78 rfl (lv_at hl 2 rfl) ?_
  refine r_get C w 0 rfl rfl 6 (by decide) fl_RX12_26 (v := .ref a6) rfl dX12_feed_79 ?_
  refine lv_aload_n C.1 C.2.1 dX12_feed_82 rfl (lv_at hl 2 rfl) ?_
  refine r_get C w 0 rfl rfl 7 (by decide) fl_RX12_74 (v := .int 11) rfl dX12_feed_83 ?_
  refine lv_iload C.1 C.2.1 dX12_feed_86 (lv_at hl 0 rfl) ?_
  refine lv_bipush (v := 24) C.1 C.2.1 dX12_feed_88 (by decide) ?_
  refine lv_bipush (v := 8) C.1 C.2.1 dX12_feed_90 (by decide) ?_
  refine lv_iload C.1 C.2.1 dX12_feed_92 (lv_at hl 1 rfl) ?_
  refine lv_iconst (v := 3) C.1 C.2.1 dX12_feed_94 (by decide) ?_
  refine r_iand C (v := 3) dX12_feed_95 (by decide) ?_
  refine r_imul C (v := 24) dX12_feed_96 (by decide) ?_
  refine r_isub C (v := 0) dX12_feed_97 (by decide) ?_
  refine lv_iushr (v := ((x2).toUInt32 >>> ((0 : Int32).toUInt32 &&& Int32.toUInt32 31)).toInt32) C.1 C.2.1 dX12_feed_98 rfl ?_
  refine lv_sipush (v := 255) C.1 C.2.1 dX12_feed_99 (by decide) ?_
  refine r_iand C (v := (((x2).toUInt32 >>> ((0 : Int32).toUInt32 &&& Int32.toUInt32 31)).toInt32 &&& 255)) dX12_feed_102 rfl ?_
  refine r_iast C w 1 rfl (vinD (by decide)) (upd (upd (upd (upd (upd (upd (upd (upd (upd (upd (upd (upd (fun _ => 0) 0 (((x0).toUInt32 >>> ((24 : Int32).toUInt32 &&& Int32.toUInt32 31)).toInt32 &&& 255)) 1 (((x0).toUInt32 >>> ((16 : Int32).toUInt32 &&& Int32.toUInt32 31)).toInt32 &&& 255)) 2 (((x0).toUInt32 >>> ((8 : Int32).toUInt32 &&& Int32.toUInt32 31)).toInt32 &&& 255)) 3 (((x0).toUInt32 >>> ((0 : Int32).toUInt32 &&& Int32.toUInt32 31)).toInt32 &&& 255)) 4 (((x1).toUInt32 >>> ((24 : Int32).toUInt32 &&& Int32.toUInt32 31)).toInt32 &&& 255)) 5 (((x1).toUInt32 >>> ((16 : Int32).toUInt32 &&& Int32.toUInt32 31)).toInt32 &&& 255)) 6 (((x1).toUInt32 >>> ((8 : Int32).toUInt32 &&& Int32.toUInt32 31)).toInt32 &&& 255)) 7 (((x1).toUInt32 >>> ((0 : Int32).toUInt32 &&& Int32.toUInt32 31)).toInt32 &&& 255)) 8 (((x2).toUInt32 >>> ((24 : Int32).toUInt32 &&& Int32.toUInt32 31)).toInt32 &&& 255)) 9 (((x2).toUInt32 >>> ((16 : Int32).toUInt32 &&& Int32.toUInt32 31)).toInt32 &&& 255)) 10 (((x2).toUInt32 >>> ((8 : Int32).toUInt32 &&& Int32.toUInt32 31)).toInt32 &&& 255)) 11 (((x2).toUInt32 >>> ((0 : Int32).toUInt32 &&& Int32.toUInt32 31)).toInt32 &&& 255)) rfl [(a0, .inr (12, [.ref a1, .ref a2, .ref a3, .ref a4, .ref a5, .int 0, .ref a6, .int 11, .int 0, .int 0, .int 0, .int 0, .int 0, .int 0, .int 0, .int 0, .int 0, .int (-1), .ref a7, .ref a8, .int 0, .ref a9, .int 0, .ref a10, .ref a11, .ref a12, .ref a13, .ref a14, .int 0, .ref a15, .ref a16, .ref a17])), (a6, .inl (cy 1, 900, .inl (upd (upd (upd (upd (upd (upd (upd (upd (upd (upd (upd (upd (fun _ => 0) 0 (((x0).toUInt32 >>> ((24 : Int32).toUInt32 &&& Int32.toUInt32 31)).toInt32 &&& 255)) 1 (((x0).toUInt32 >>> ((16 : Int32).toUInt32 &&& Int32.toUInt32 31)).toInt32 &&& 255)) 2 (((x0).toUInt32 >>> ((8 : Int32).toUInt32 &&& Int32.toUInt32 31)).toInt32 &&& 255)) 3 (((x0).toUInt32 >>> ((0 : Int32).toUInt32 &&& Int32.toUInt32 31)).toInt32 &&& 255)) 4 (((x1).toUInt32 >>> ((24 : Int32).toUInt32 &&& Int32.toUInt32 31)).toInt32 &&& 255)) 5 (((x1).toUInt32 >>> ((16 : Int32).toUInt32 &&& Int32.toUInt32 31)).toInt32 &&& 255)) 6 (((x1).toUInt32 >>> ((8 : Int32).toUInt32 &&& Int32.toUInt32 31)).toInt32 &&& 255)) 7 (((x1).toUInt32 >>> ((0 : Int32).toUInt32 &&& Int32.toUInt32 31)).toInt32 &&& 255)) 8 (((x2).toUInt32 >>> ((24 : Int32).toUInt32 &&& Int32.toUInt32 31)).toInt32 &&& 255)) 9 (((x2).toUInt32 >>> ((16 : Int32).toUInt32 &&& Int32.toUInt32 31)).toInt32 &&& 255)) 10 (((x2).toUInt32 >>> ((8 : Int32).toUInt32 &&& Int32.toUInt32 31)).toInt32 &&& 255)) 11 (((x2).toUInt32 >>> ((0 : Int32).toUInt32 &&& Int32.toUInt32 31)).toInt32 &&& 255))))] rfl dX12_feed_103 (fun H locs w => ?_)
  refine lv_aload_n C.1 C.2.1 dX12_feed_104 rfl (lv_at hl 2 rfl) ?_
  refine lv_dup C.1 C.2.1 dX12_feed_105 rfl ?_
  refine r_get C w 0 rfl rfl 7 (by decide) fl_RX12_74 (v := .int 11) rfl dX12_feed_106 ?_
  refine lv_iconst (v := 1) C.1 C.2.1 dX12_feed_109 (by decide) ?_
  refine r_iadd C (v := 12) dX12_feed_110 (by decide) ?_
  refine r_put C w 0 rfl rfl 7 (by decide) fl_RX12_74 rfl (ty := .int) (tyX12_ok 7 (by decide)) rfl rfl (Nat.le_of_ble_eq_true rfl) [(a0, .inr (12, [.ref a1, .ref a2, .ref a3, .ref a4, .ref a5, .int 0, .ref a6, .int 12, .int 0, .int 0, .int 0, .int 0, .int 0, .int 0, .int 0, .int 0, .int 0, .int (-1), .ref a7, .ref a8, .int 0, .ref a9, .int 0, .ref a10, .ref a11, .ref a12, .ref a13, .ref a14, .int 0, .ref a15, .ref a16, .ref a17])), (a6, .inl (cy 1, 900, .inl (upd (upd (upd (upd (upd (upd (upd (upd (upd (upd (upd (upd (fun _ => 0) 0 (((x0).toUInt32 >>> ((24 : Int32).toUInt32 &&& Int32.toUInt32 31)).toInt32 &&& 255)) 1 (((x0).toUInt32 >>> ((16 : Int32).toUInt32 &&& Int32.toUInt32 31)).toInt32 &&& 255)) 2 (((x0).toUInt32 >>> ((8 : Int32).toUInt32 &&& Int32.toUInt32 31)).toInt32 &&& 255)) 3 (((x0).toUInt32 >>> ((0 : Int32).toUInt32 &&& Int32.toUInt32 31)).toInt32 &&& 255)) 4 (((x1).toUInt32 >>> ((24 : Int32).toUInt32 &&& Int32.toUInt32 31)).toInt32 &&& 255)) 5 (((x1).toUInt32 >>> ((16 : Int32).toUInt32 &&& Int32.toUInt32 31)).toInt32 &&& 255)) 6 (((x1).toUInt32 >>> ((8 : Int32).toUInt32 &&& Int32.toUInt32 31)).toInt32 &&& 255)) 7 (((x1).toUInt32 >>> ((0 : Int32).toUInt32 &&& Int32.toUInt32 31)).toInt32 &&& 255)) 8 (((x2).toUInt32 >>> ((24 : Int32).toUInt32 &&& Int32.toUInt32 31)).toInt32 &&& 255)) 9 (((x2).toUInt32 >>> ((16 : Int32).toUInt32 &&& Int32.toUInt32 31)).toInt32 &&& 255)) 10 (((x2).toUInt32 >>> ((8 : Int32).toUInt32 &&& Int32.toUInt32 31)).toInt32 &&& 255)) 11 (((x2).toUInt32 >>> ((0 : Int32).toUInt32 &&& Int32.toUInt32 31)).toInt32 &&& 255))))] rfl dX12_feed_111 (fun H locs w => ?_)
  refine lv_iinc (v := 12) (lv' := [(6, .int 12), (7, .int x2), (0, .ref a0), (1, .int x0), (2, .int x1), (3, .int x2), (4, .int x3), (5, .int x4)]) C.1 C.2.1 dX12_feed_114 hl (k := 1) rfl (by decide) (by decide) rfl (fun ls hl => ?_)
  refine lv_goto (tgt := 23) C.1 C.2.1 dX12_feed_117 (by decide) ?_
  refine lv_iload C.1 C.2.1 dX12_feed_23 (lv_at hl 0 rfl) ?_
  refine lv_bipush (v := 20) C.1 C.2.1 dX12_feed_25 (by decide) ?_
  refine b_icmp_ge_f C (tgt := 120) dX12_feed_27 (by decide) (by decide) ?_
  refine lv_iload C.1 C.2.1 dX12_feed_30 (lv_at hl 0 rfl) ?_
  refine lv_iconst (v := 4) C.1 C.2.1 dX12_feed_32 (by decide) ?_
  refine b_icmp_ge_t C (tgt := 40) dX12_feed_33 (by decide) (by decide) ?_
  refine lv_iload C.1 C.2.1 dX12_feed_40 (lv_at hl 0 rfl) ?_
  refine lv_bipush (v := 8) C.1 C.2.1 dX12_feed_42 (by decide) ?_
  refine b_icmp_ge_t C (tgt := 51) dX12_feed_44 (by decide) (by decide) ?_
  refine lv_iload C.1 C.2.1 dX12_feed_51 (lv_at hl 0 rfl) ?_
  refine lv_bipush (v := 12) C.1 C.2.1 dX12_feed_53 (by decide) ?_
  refine b_icmp_ge_t C (tgt := 62) dX12_feed_55 (by decide) (by decide) ?_
  refine lv_iload C.1 C.2.1 dX12_feed_62 (lv_at hl 0 rfl) ?_
  refine lv_bipush (v := 16) C.1 C.2.1 dX12_feed_64 (by decide) ?_
  refine b_icmp_ge_f C (tgt := 74) dX12_feed_66 (by decide) (by decide) ?_
  refine lv_iload C.1 C.2.1 dX12_feed_69 (lv_at hl 6 rfl) ?_
  refine lv_goto (tgt := 76) C.1 C.2.1 dX12_feed_71 (by decide) ?_
  refine lv_istore (lv' := [(7, .int x3), (6, .int 12), (0, .ref a0), (1, .int x0), (2, .int x1), (3, .int x2), (4, .int x3), (5, .int x4)]) C.1 C.2.1 dX12_feed_76 hl (by decide) rfl (fun ls hl => ?_)
  refine lv_aload_n C.1 C.2.1 dX12_feed_78 rfl (lv_at hl 2 rfl) ?_
  refine r_get C w 0 rfl rfl 6 (by decide) fl_RX12_26 (v := .ref a6) rfl dX12_feed_79 ?_
  refine lv_aload_n C.1 C.2.1 dX12_feed_82 rfl (lv_at hl 2 rfl) ?_
  refine r_get C w 0 rfl rfl 7 (by decide) fl_RX12_74 (v := .int 12) rfl dX12_feed_83 ?_
  refine lv_iload C.1 C.2.1 dX12_feed_86 (lv_at hl 0 rfl) ?_
  refine lv_bipush (v := 24) C.1 C.2.1 dX12_feed_88 (by decide) ?_
  refine lv_bipush (v := 8) C.1 C.2.1 dX12_feed_90 (by decide) ?_
  refine lv_iload C.1 C.2.1 dX12_feed_92 (lv_at hl 1 rfl) ?_
  refine lv_iconst (v := 3) C.1 C.2.1 dX12_feed_94 (by decide) ?_
  refine r_iand C (v := 0) dX12_feed_95 (by decide) ?_
  refine r_imul C (v := 0) dX12_feed_96 (by decide) ?_
  refine r_isub C (v := 24) dX12_feed_97 (by decide) ?_
  refine lv_iushr (v := ((x3).toUInt32 >>> ((24 : Int32).toUInt32 &&& Int32.toUInt32 31)).toInt32) C.1 C.2.1 dX12_feed_98 rfl ?_
  refine lv_sipush (v := 255) C.1 C.2.1 dX12_feed_99 (by decide) ?_
  refine r_iand C (v := (((x3).toUInt32 >>> ((24 : Int32).toUInt32 &&& Int32.toUInt32 31)).toInt32 &&& 255)) dX12_feed_102 rfl ?_
  refine r_iast C w 1 rfl (vinD (by decide)) (upd (upd (upd (upd (upd (upd (upd (upd (upd (upd (upd (upd (upd (fun _ => 0) 0 (((x0).toUInt32 >>> ((24 : Int32).toUInt32 &&& Int32.toUInt32 31)).toInt32 &&& 255)) 1 (((x0).toUInt32 >>> ((16 : Int32).toUInt32 &&& Int32.toUInt32 31)).toInt32 &&& 255)) 2 (((x0).toUInt32 >>> ((8 : Int32).toUInt32 &&& Int32.toUInt32 31)).toInt32 &&& 255)) 3 (((x0).toUInt32 >>> ((0 : Int32).toUInt32 &&& Int32.toUInt32 31)).toInt32 &&& 255)) 4 (((x1).toUInt32 >>> ((24 : Int32).toUInt32 &&& Int32.toUInt32 31)).toInt32 &&& 255)) 5 (((x1).toUInt32 >>> ((16 : Int32).toUInt32 &&& Int32.toUInt32 31)).toInt32 &&& 255)) 6 (((x1).toUInt32 >>> ((8 : Int32).toUInt32 &&& Int32.toUInt32 31)).toInt32 &&& 255)) 7 (((x1).toUInt32 >>> ((0 : Int32).toUInt32 &&& Int32.toUInt32 31)).toInt32 &&& 255)) 8 (((x2).toUInt32 >>> ((24 : Int32).toUInt32 &&& Int32.toUInt32 31)).toInt32 &&& 255)) 9 (((x2).toUInt32 >>> ((16 : Int32).toUInt32 &&& Int32.toUInt32 31)).toInt32 &&& 255)) 10 (((x2).toUInt32 >>> ((8 : Int32).toUInt32 &&& Int32.toUInt32 31)).toInt32 &&& 255)) 11 (((x2).toUInt32 >>> ((0 : Int32).toUInt32 &&& Int32.toUInt32 31)).toInt32 &&& 255)) 12 (((x3).toUInt32 >>> ((24 : Int32).toUInt32 &&& Int32.toUInt32 31)).toInt32 &&& 255)) rfl [(a0, .inr (12, [.ref a1, .ref a2, .ref a3, .ref a4, .ref a5, .int 0, .ref a6, .int 12, .int 0, .int 0, .int 0, .int 0, .int 0, .int 0, .int 0, .int 0, .int 0, .int (-1), .ref a7, .ref a8, .int 0, .ref a9, .int 0, .ref a10, .ref a11, .ref a12, .ref a13, .ref a14, .int 0, .ref a15, .ref a16, .ref a17])), (a6, .inl (cy 1, 900, .inl (upd (upd (upd (upd (upd (upd (upd (upd (upd (upd (upd (upd (upd (fun _ => 0) 0 (((x0).toUInt32 >>> ((24 : Int32).toUInt32 &&& Int32.toUInt32 31)).toInt32 &&& 255)) 1 (((x0).toUInt32 >>> ((16 : Int32).toUInt32 &&& Int32.toUInt32 31)).toInt32 &&& 255)) 2 (((x0).toUInt32 >>> ((8 : Int32).toUInt32 &&& Int32.toUInt32 31)).toInt32 &&& 255)) 3 (((x0).toUInt32 >>> ((0 : Int32).toUInt32 &&& Int32.toUInt32 31)).toInt32 &&& 255)) 4 (((x1).toUInt32 >>> ((24 : Int32).toUInt32 &&& Int32.toUInt32 31)).toInt32 &&& 255)) 5 (((x1).toUInt32 >>> ((16 : Int32).toUInt32 &&& Int32.toUInt32 31)).toInt32 &&& 255)) 6 (((x1).toUInt32 >>> ((8 : Int32).toUInt32 &&& Int32.toUInt32 31)).toInt32 &&& 255)) 7 (((x1).toUInt32 >>> ((0 : Int32).toUInt32 &&& Int32.toUInt32 31)).toInt32 &&& 255)) 8 (((x2).toUInt32 >>> ((24 : Int32).toUInt32 &&& Int32.toUInt32 31)).toInt32 &&& 255)) 9 (((x2).toUInt32 >>> ((16 : Int32).toUInt32 &&& Int32.toUInt32 31)).toInt32 &&& 255)) 10 (((x2).toUInt32 >>> ((8 : Int32).toUInt32 &&& Int32.toUInt32 31)).toInt32 &&& 255)) 11 (((x2).toUInt32 >>> ((0 : Int32).toUInt32 &&& Int32.toUInt32 31)).toInt32 &&& 255)) 12 (((x3).toUInt32 >>> ((24 : Int32).toUInt32 &&& Int32.toUInt32 31)).toInt32 &&& 255))))] rfl dX12_feed_103 (fun H locs w => ?_)
  refine lv_aload_n C.1 C.2.1 dX12_feed_104 rfl (lv_at hl 2 rfl) ?_
  refine lv_dup C.1 C.2.1 dX12_feed_105 rfl ?_
  refine r_get C w 0 rfl rfl 7 (by decide) fl_RX12_74 (v := .int 12) rfl dX12_feed_106 ?_
  refine lv_iconst (v := 1) C.1 C.2.1 dX12_feed_109 (by decide) ?_
  refine r_iadd C (v := 13) dX12_feed_110 (by decide) ?_
  refine r_put C w 0 rfl rfl 7 (by decide) fl_RX12_74 rfl (ty := .int) (tyX12_ok 7 (by decide)) rfl rfl (Nat.le_of_ble_eq_true rfl) [(a0, .inr (12, [.ref a1, .ref a2, .ref a3, .ref a4, .ref a5, .int 0, .ref a6, .int 13, .int 0, .int 0, .int 0, .int 0, .int 0, .int 0, .int 0, .int 0, .int 0, .int (-1), .ref a7, .ref a8, .int 0, .ref a9, .int 0, .ref a10, .ref a11, .ref a12, .ref a13, .ref a14, .int 0, .ref a15, .ref a16, .ref a17])), (a6, .inl (cy 1, 900, .inl (upd (upd (upd (upd (upd (upd (upd (upd (upd (upd (upd (upd (upd (fun _ => 0) 0 (((x0).toUInt32 >>> ((24 : Int32).toUInt32 &&& Int32.toUInt32 31)).toInt32 &&& 255)) 1 (((x0).toUInt32 >>> ((16 : Int32).toUInt32 &&& Int32.toUInt32 31)).toInt32 &&& 255)) 2 (((x0).toUInt32 >>> ((8 : Int32).toUInt32 &&& Int32.toUInt32 31)).toInt32 &&& 255)) 3 (((x0).toUInt32 >>> ((0 : Int32).toUInt32 &&& Int32.toUInt32 31)).toInt32 &&& 255)) 4 (((x1).toUInt32 >>> ((24 : Int32).toUInt32 &&& Int32.toUInt32 31)).toInt32 &&& 255)) 5 (((x1).toUInt32 >>> ((16 : Int32).toUInt32 &&& Int32.toUInt32 31)).toInt32 &&& 255)) 6 (((x1).toUInt32 >>> ((8 : Int32).toUInt32 &&& Int32.toUInt32 31)).toInt32 &&& 255)) 7 (((x1).toUInt32 >>> ((0 : Int32).toUInt32 &&& Int32.toUInt32 31)).toInt32 &&& 255)) 8 (((x2).toUInt32 >>> ((24 : Int32).toUInt32 &&& Int32.toUInt32 31)).toInt32 &&& 255)) 9 (((x2).toUInt32 >>> ((16 : Int32).toUInt32 &&& Int32.toUInt32 31)).toInt32 &&& 255)) 10 (((x2).toUInt32 >>> ((8 : Int32).toUInt32 &&& Int32.toUInt32 31)).toInt32 &&& 255)) 11 (((x2).toUInt32 >>> ((0 : Int32).toUInt32 &&& Int32.toUInt32 31)).toInt32 &&& 255)) 12 (((x3).toUInt32 >>> ((24 : Int32).toUInt32 &&& Int32.toUInt32 31)).toInt32 &&& 255))))] rfl dX12_feed_111 (fun H locs w => ?_)
  refine lv_iinc (v := 13) (lv' := [(6, .int 13), (7, .int x3), (0, .ref a0), (1, .int x0), (2, .int x1), (3, .int x2), (4, .int x3), (5, .int x4)]) C.1 C.2.1 dX12_feed_114 hl (k := 1) rfl (by decide) (by decide) rfl (fun ls hl => ?_)
  refine lv_goto (tgt := 23) C.1 C.2.1 dX12_feed_117 (by decide) ?_
  refine lv_iload C.1 C.2.1 dX12_feed_23 (lv_at hl 0 rfl) ?_
  refine lv_bipush (v := 20) C.1 C.2.1 dX12_feed_25 (by decide) ?_
  refine b_icmp_ge_f C (tgt := 120) dX12_feed_27 (by decide) (by decide) ?_
  refine lv_iload C.1 C.2.1 dX12_feed_30 (lv_at hl 0 rfl) ?_
  refine lv_iconst (v := 4) C.1 C.2.1 dX12_feed_32 (by decide) ?_
  refine b_icmp_ge_t C (tgt := 40) dX12_feed_33 (by decide) (by decide) ?_
  refine lv_iload C.1 C.2.1 dX12_feed_40 (lv_at hl 0 rfl) ?_
  refine lv_bipush (v := 8) C.1 C.2.1 dX12_feed_42 (by decide) ?_
  refine b_icmp_ge_t C (tgt := 51) dX12_feed_44 (by decide) (by decide) ?_
  refine lv_iload C.1 C.2.1 dX12_feed_51 (lv_at hl 0 rfl) ?_
  refine lv_bipush (v := 12) C.1 C.2.1 dX12_feed_53 (by decide) ?_
  refine b_icmp_ge_t C (tgt := 62) dX12_feed_55 (by decide) (by decide) ?_
  refine lv_iload C.1 C.2.1 dX12_feed_62 (lv_at hl 0 rfl) ?_
  refine lv_bipush (v := 16) C.1 C.2.1 dX12_feed_64 (by decide) ?_
  refine b_icmp_ge_f C (tgt := 74) dX12_feed_66 (by decide) (by decide) ?_
  refine lv_iload C.1 C.2.1 dX12_feed_69 (lv_at hl 6 rfl) ?_
  refine lv_goto (tgt := 76) C.1 C.2.1 dX12_feed_71 (by decide) ?_
  refine lv_istore (lv' := [(7, .int x3), (6, .int 13), (0, .ref a0), (1, .int x0), (2, .int x1), (3, .int x2), (4, .int x3), (5, .int x4)]) C.1 C.2.1 dX12_feed_76 hl (by decide) rfl (fun ls hl => ?_)
  refine lv_aload_n C.1 C.2.1 dX12_feed_78 rfl (lv_at hl 2 rfl) ?_
  refine r_get C w 0 rfl rfl 6 (by decide) fl_RX12_26 (v := .ref a6) rfl dX12_feed_79 ?_
  refine lv_aload_n C.1 C.2.1 dX12_feed_82 rfl (lv_at hl 2 rfl) ?_
  refine r_get C w 0 rfl rfl 7 (by decide) fl_RX12_74 (v := .int 13) rfl dX12_feed_83 ?_
  refine lv_iload C.1 C.2.1 dX12_feed_86 (lv_at hl 0 rfl) ?_
  refine lv_bipush (v := 24) C.1 C.2.1 dX12_feed_88 (by decide) ?_
  refine lv_bipush (v := 8) C.1 C.2.1 dX12_feed_90 (by decide) ?_
  refine lv_iload C.1 C.2.1 dX12_feed_92 (lv_at hl 1 rfl) ?_
  refine lv_iconst (v := 3) C.1 C.2.1 dX12_feed_94 (by decide) ?_
  refine r_iand C (v := 1) dX12_feed_95 (by decide) ?_
  refine r_imul C (v := 8) dX12_feed_96 (by decide) ?_
  refine r_isub C (v := 16) dX12_feed_97 (by decide) ?_
  refine lv_iushr (v := ((x3).toUInt32 >>> ((16 : Int32).toUInt32 &&& Int32.toUInt32 31)).toInt32) C.1 C.2.1 dX12_feed_98 rfl ?_
  refine lv_sipush (v := 255) C.1 C.2.1 dX12_feed_99 (by decide) ?_
  refine r_iand C (v := (((x3).toUInt32 >>> ((16 : Int32).toUInt32 &&& Int32.toUInt32 31)).toInt32 &&& 255)) dX12_feed_102 rfl ?_
  refine r_iast C w 1 rfl (vinD (by decide)) (upd (upd (upd (upd (upd (upd (upd (upd (upd (upd (upd (upd (upd (upd (fun _ => 0) 0 (((x0).toUInt32 >>> ((24 : Int32).toUInt32 &&& Int32.toUInt32 31)).toInt32 &&& 255)) 1 (((x0).toUInt32 >>> ((16 : Int32).toUInt32 &&& Int32.toUInt32 31)).toInt32 &&& 255)) 2 (((x0).toUInt32 >>> ((8 : Int32).toUInt32 &&& Int32.toUInt32 31)).toInt32 &&& 255)) 3 (((x0).toUInt32 >>> ((0 : Int32).toUInt32 &&& Int32.toUInt32 31)).toInt32 &&& 255)) 4 (((x1).toUInt32 >>> ((24 : Int32).toUInt32 &&& Int32.toUInt32 31)).toInt32 &&& 255)) 5 (((x1).toUInt32 >>> ((16 : Int32).toUInt32 &&& Int32.toUInt32 31)).toInt32 &&& 255)) 6 (((x1).toUInt32 >>> ((8 : Int32).toUInt32 &&& Int32.toUInt32 31)).toInt32 &&& 255)) 7 (((x1).toUInt32 >>> ((0 : Int32).toUInt32 &&& Int32.toUInt32 31)).toInt32 &&& 255)) 8 (((x2).toUInt32 >>> ((24 : Int32).toUInt32 &&& Int32.toUInt32 31)).toInt32 &&& 255)) 9 (((x2).toUInt32 >>> ((16 : Int32).toUInt32 &&& Int32.toUInt32 31)).toInt32 &&& 255)) 10 (((x2).toUInt32 >>> ((8 : Int32).toUInt32 &&& Int32.toUInt32 31)).toInt32 &&& 255)) 11 (((x2).toUInt32 >>> ((0 : Int32).toUInt32 &&& Int32.toUInt32 31)).toInt32 &&& 255)) 12 (((x3).toUInt32 >>> ((24 : Int32).toUInt32 &&& Int32.toUInt32 31)).toInt32 &&& 255)) 13 (((x3).toUInt32 >>> ((16 : Int32).toUInt32 &&& Int32.toUInt32 31)).toInt32 &&& 255)) rfl [(a0, .inr (12, [.ref a1, .ref a2, .ref a3, .ref a4, .ref a5, .int 0, .ref a6, .int 13, .int 0, .int 0, .int 0, .int 0, .int 0, .int 0, .int 0, .int 0, .int 0, .int (-1), .ref a7, .ref a8, .int 0, .ref a9, .int 0, .ref a10, .ref a11, .ref a12, .ref a13, .ref a14, .int 0, .ref a15, .ref a16, .ref a17])), (a6, .inl (cy 1, 900, .inl (upd (upd (upd (upd (upd (upd (upd (upd (upd (upd (upd (upd (upd (upd (fun _ => 0) 0 (((x0).toUInt32 >>> ((24 : Int32).toUInt32 &&& Int32.toUInt32 31)).toInt32 &&& 255)) 1 (((x0).toUInt32 >>> ((16 : Int32).toUInt32 &&& Int32.toUInt32 31)).toInt32 &&& 255)) 2 (((x0).toUInt32 >>> ((8 : Int32).toUInt32 &&& Int32.toUInt32 31)).toInt32 &&& 255)) 3 (((x0).toUInt32 >>> ((0 : Int32).toUInt32 &&& Int32.toUInt32 31)).toInt32 &&& 255)) 4 (((x1).toUInt32 >>> ((24 : Int32).toUInt32 &&& Int32.toUInt32 31)).toInt32 &&& 255)) 5 (((x1).toUInt32 >>> ((16 : Int32).toUInt32 &&& Int32.toUInt32 31)).toInt32 &&& 255)) 6 (((x1).toUInt32 >>> ((8 : Int32).toUInt32 &&& Int32.toUInt32 31)).toInt32 &&& 255)) 7 (((x1).toUInt32 >>> ((0 : Int32).toUInt32 &&& Int32.toUInt32 31)).toInt32 &&& 255)) 8 (((x2).toUInt32 >>> ((24 : Int32).toUInt32 &&& Int32.toUInt32 31)).toInt32 &&& 255)) 9 (((x2).toUInt32 >>> ((16 : Int32).toUInt32 &&& Int32.toUInt32 31)).toInt32 &&& 255)) 10 (((x2).toUInt32 >>> ((8 : Int32).toUInt32 &&& Int32.toUInt32 31)).toInt32 &&& 255)) 11 (((x2).toUInt32 >>> ((0 : Int32).toUInt32 &&& Int32.toUInt32 31)).toInt32 &&& 255)) 12 (((x3).toUInt32 >>> ((24 : Int32).toUInt32 &&& Int32.toUInt32 31)).toInt32 &&& 255)) 13 (((x3).toUInt32 >>> ((16 : Int32).toUInt32 &&& Int32.toUInt32 31)).toInt32 &&& 255))))] rfl dX12_feed_103 (fun H locs w => ?_)
  refine lv_aload_n C.1 C.2.1 dX12_feed_104 rfl (lv_at hl 2 rfl) ?_
  refine lv_dup C.1 C.2.1 dX12_feed_105 rfl ?_
  refine r_get C w 0 rfl rfl 7 (by decide) fl_RX12_74 (v := .int 13) rfl dX12_feed_106 ?_
  refine lv_iconst (v := 1) C.1 C.2.1 dX12_feed_109 (by decide) ?_
  refine r_iadd C (v := 14) dX12_feed_110 (by decide) ?_
  refine r_put C w 0 rfl rfl 7 (by decide) fl_RX12_74 rfl (ty := .int) (tyX12_ok 7 (by decide)) rfl rfl (Nat.le_of_ble_eq_true rfl) [(a0, .inr (12, [.ref a1, .ref a2, .ref a3, .ref a4, .ref a5, .int 0, .ref a6, .int 14, .int 0, .int 0, .int 0, .int 0, .int 0, .int 0, .int 0, .int 0, .int 0, .int (-1), .ref a7, .ref a8, .int 0, .ref a9, .int 0, .ref a10, .ref a11, .ref a12, .ref a13, .ref a14, .int 0, .ref a15, .ref a16, .ref a17])), (a6, .inl (cy 1, 900, .inl (upd (upd (upd (upd (upd (upd (upd (upd (upd (upd (upd (upd (upd (upd (fun _ => 0) 0 (((x0).toUInt32 >>> ((24 : Int32).toUInt32 &&& Int32.toUInt32 31)).toInt32 &&& 255)) 1 (((x0).toUInt32 >>> ((16 : Int32).toUInt32 &&& Int32.toUInt32 31)).toInt32 &&& 255)) 2 (((x0).toUInt32 >>> ((8 : Int32).toUInt32 &&& Int32.toUInt32 31)).toInt32 &&& 255)) 3 (((x0).toUInt32 >>> ((0 : Int32).toUInt32 &&& Int32.toUInt32 31)).toInt32 &&& 255)) 4 (((x1).toUInt32 >>> ((24 : Int32).toUInt32 &&& Int32.toUInt32 31)).toInt32 &&& 255)) 5 (((x1).toUInt32 >>> ((16 : Int32).toUInt32 &&& Int32.toUInt32 31)).toInt32 &&& 255)) 6 (((x1).toUInt32 >>> ((8 : Int32).toUInt32 &&& Int32.toUInt32 31)).toInt32 &&& 255)) 7 (((x1).toUInt32 >>> ((0 : Int32).toUInt32 &&& Int32.toUInt32 31)).toInt32 &&& 255)) 8 (((x2).toUInt32 >>> ((24 : Int32).toUInt32 &&& Int32.toUInt32 31)).toInt32 &&& 255)) 9 (((x2).toUInt32 >>> ((16 : Int32).toUInt32 &&& Int32.toUInt32 31)).toInt32 &&& 255)) 10 (((x2).toUInt32 >>> ((8 : Int32).toUInt32 &&& Int32.toUInt32 31)).toInt32 &&& 255)) 11 (((x2).toUInt32 >>> ((0 : Int32).toUInt32 &&& Int32.toUInt32 31)).toInt32 &&& 255)) 12 (((x3).toUInt32 >>> ((24 : Int32).toUInt32 &&& Int32.toUInt32 31)).toInt32 &&& 255)) 13 (((x3).toUInt32 >>> ((16 : Int32).toUInt32 &&& Int32.toUInt32 31)).toInt32 &&& 255))))] rfl dX12_feed_111 (fun H locs w => ?_)
  refine lv_iinc (v := 14) (lv' := [(6, .int 14), (7, .int x3), (0, .ref a0), (1, .int x0), (2, .int x1), (3, .int x2), (4, .int x3), (5, .int x4)]) C.1 C.2.1 dX12_feed_114 hl (k := 1) rfl (by decide) (by decide) rfl (fun ls hl => ?_)
  refine lv_goto (tgt := 23) C.1 C.2.1 dX12_feed_117 (by decide) ?_
  refine lv_iload C.1 C.2.1 dX12_feed_23 (lv_at hl 0 rfl) ?_
  refine lv_bipush (v := 20) C.1 C.2.1 dX12_feed_25 (by decide) ?_
  refine b_icmp_ge_f C (tgt := 120) dX12_feed_27 (by decide) (by decide) ?_
  refine lv_iload C.1 C.2.1 dX12_feed_30 (lv_at hl 0 rfl) ?_
  refine lv_iconst (v := 4) C.1 C.2.1 dX12_feed_32 (by decide) ?_
  refine b_icmp_ge_t C (tgt := 40) dX12_feed_33 (by decide) (by decide) ?_
  refine lv_iload C.1 C.2.1 dX12_feed_40 (lv_at hl 0 rfl) ?_
  refine lv_bipush (v := 8) C.1 C.2.1 dX12_feed_42 (by decide) ?_
  refine b_icmp_ge_t C (tgt := 51) dX12_feed_44 (by decide) (by decide) ?_
  refine lv_iload C.1 C.2.1 dX12_feed_51 (lv_at hl 0 rfl) ?_
  refine lv_bipush (v := 12) C.1 C.2.1 dX12_feed_53 (by decide) ?_
  refine b_icmp_ge_t C (tgt := 62) dX12_feed_55 (by decide) (by decide) ?_
  refine lv_iload C.1 C.2.1 dX12_feed_62 (lv_at hl 0 rfl) ?_
  refine lv_bipush (v := 16) C.1 C.2.1 dX12_feed_64 (by decide) ?_
  refine b_icmp_ge_f C (tgt := 74) dX12_feed_66 (by decide) (by decide) ?_
  refine lv_iload C.1 C.2.1 dX12_feed_69 (lv_at hl 6 rfl) ?_
  refine lv_goto (tgt := 76) C.1 C.2.1 dX12_feed_71 (by decide) ?_
  refine lv_istore (lv' := [(7, .int x3), (6, .int 14), (0, .ref a0), (1, .int x0), (2, .int x1), (3, .int x2), (4, .int x3), (5, .int x4)]) C.1 C.2.1 dX12_feed_76 hl (by decide) rfl (fun ls hl => ?_)
  refine lv_aload_n C.1 C.2.1 dX12_feed_78 rfl (lv_at hl 2 rfl) ?_
  refine r_get C w 0 rfl rfl 6 (by decide) fl_RX12_26 (v := .ref a6) rfl dX12_feed_79 ?_
  refine lv_aload_n C.1 C.2.1 dX12_feed_82 rfl (lv_at hl 2 rfl) ?_
  refine r_get C w 0 rfl rfl 7 (by decide) fl_RX12_74 (v := .int 14) rfl dX12_feed_83 ?_
  refine lv_iload C.1 C.2.1 dX12_feed_86 (lv_at hl 0 rfl) ?_
  refine lv_bipush (v := 24) C.1 C.2.1 dX12_feed_88 (by decide) ?_
  refine lv_bipush (v := 8) C.1 C.2.1 dX12_feed_90 (by decide) ?_
  refine lv_iload C.1 C.2.1 dX12_feed_92 (lv_at hl 1 rfl) ?_
  refine lv_iconst (v := 3) C.1 C.2.1 dX12_feed_94 (by decide) ?_
  refine r_iand C (v := 2) dX12_feed_95 (by decide) ?_
  refine r_imul C (v := 16) dX12_feed_96 (by decide) ?_
  refine r_isub C (v := 8) dX12_feed_97 (by decide) ?_
  refine lv_iushr (v := ((x3).toUInt32 >>> ((8 : Int32).toUInt32 &&& Int32.toUInt32 31)).toInt32) C.1 C.2.1 dX12_feed_98 rfl ?_
  refine lv_sipush (v := 255) C.1 C.2.1 dX12_feed_99 (by decide) ?_
  refine r_iand C (v := (((x3).toUInt32 >>> ((8 : Int32).toUInt32 &&& Int32.toUInt32 31)).toInt32 &&& 255)) dX12_feed_102 rfl ?_
  refine r_iast C w 1 rfl (vinD (by decide)) (upd (upd (upd (upd (upd (upd (upd (upd (upd (upd (upd (upd (upd (upd (upd (fun _ => 0) 0 (((x0).toUInt32 >>> ((24 : Int32).toUInt32 &&& Int32.toUInt32 31)).toInt32 &&& 255)) 1 (((x0).toUInt32 >>> ((16 : Int32).toUInt32 &&& Int32.toUInt32 31)).toInt32 &&& 255)) 2 (((x0).toUInt32 >>> ((8 : Int32).toUInt32 &&& Int32.toUInt32 31)).toInt32 &&& 255)) 3 (((x0).toUInt32 >>> ((0 : Int32).toUInt32 &&& Int32.toUInt32 31)).toInt32 &&& 255)) 4 (((x1).toUInt32 >>> ((24 : Int32).toUInt32 &&& Int32.toUInt32 31)).toInt32 &&& 255)) 5 (((x1).toUInt32 >>> ((16 : Int32).toUInt32 &&& Int32.toUInt32 31)).toInt32 &&& 255)) 6 (((x1).toUInt32 >>> ((8 : Int32).toUInt32 &&& Int32.toUInt32 31)).toInt32 &&& 255)) 7 (((x1).toUInt32 >>> ((0 : Int32).toUInt32 &&& Int32.toUInt32 31)).toInt32 &&& 255)) 8 (((x2).toUInt32 >>> ((24 : Int32).toUInt32 &&& Int32.toUInt32 31)).toInt32 &&& 255)) 9 (((x2).toUInt32 >>> ((16 : Int32).toUInt32 &&& Int32.toUInt32 31)).toInt32 &&& 255)) 10 (((x2).toUInt32 >>> ((8 : Int32).toUInt32 &&& Int32.toUInt32 31)).toInt32 &&& 255)) 11 (((x2).toUInt32 >>> ((0 : Int32).toUInt32 &&& Int32.toUInt32 31)).toInt32 &&& 255)) 12 (((x3).toUInt32 >>> ((24 : Int32).toUInt32 &&& Int32.toUInt32 31)).toInt32 &&& 255)) 13 (((x3).toUInt32 >>> ((16 : Int32).toUInt32 &&& Int32.toUInt32 31)).toInt32 &&& 255)) 14 (((x3).toUInt32 >>> ((8 : Int32).toUInt32 &&& Int32.toUInt32 31)).toInt32 &&& 255)) rfl [(a0, .inr (12, [.ref a1, .ref a2, .ref a3, .ref a4, .ref a5, .int 0, .ref a6, .int 14, .int 0, .int 0, .int 0, .int 0, .int 0, .int 0, .int 0, .int 0, .int 0, .int (-1), .ref a7, .ref a8, .int 0, .ref a9, .int 0, .ref a10, .ref a11, .ref a12, .ref a13, .ref a14, .int 0, .ref a15, .ref a16, .ref a17])), (a6, .inl (cy 1, 900, .inl (upd (upd (upd (upd (upd (upd (upd (upd (upd (upd (upd (upd (upd (upd (upd (fun _ => 0) 0 (((x0).toUInt32 >>> ((24 : Int32).toUInt32 &&& Int32.toUInt32 31)).toInt32 &&& 255)) 1 (((x0).toUInt32 >>> ((16 : Int32).toUInt32 &&& Int32.toUInt32 31)).toInt32 &&& 255)) 2 (((x0).toUInt32 >>> ((8 : Int32).toUInt32 &&& Int32.toUInt32 31)).toInt32 &&& 255)) 3 (((x0).toUInt32 >>> ((0 : Int32).toUInt32 &&& Int32.toUInt32 31)).toInt32 &&& 255)) 4 (((x1).toUInt32 >>> ((24 : Int32).toUInt32 &&& Int32.toUInt32 31)).toInt32 &&& 255)) 5 (((x1).toUInt32 >>> ((16 : Int32).toUInt32 &&& Int32.toUInt32 31)).toInt32 &&& 255)) 6 (((x1).toUInt32 >>> ((8 : Int32).toUInt32 &&& Int32.toUInt32 31)).toInt32 &&& 255)) 7 (((x1).toUInt32 >>> ((0 : Int32).toUInt32 &&& Int32.toUInt32 31)).toInt32 &&& 255)) 8 (((x2).toUInt32 >>> ((24 : Int32).toUInt32 &&& Int32.toUInt32 31)).toInt32 &&& 255)) 9 (((x2).toUInt32 >>> ((16 : Int32).toUInt32 &&& Int32.toUInt32 31)).toInt32 &&& 255)) 10 (((x2).toUInt32 >>> ((8 : Int32).toUInt32 &&& Int32.toUInt32 31)).toInt32 &&& 255)) 11 (((x2).toUInt32 >>> ((0 : Int32).toUInt32 &&& Int32.toUInt32 31)).toInt32 &&& 255)) 12 (((x3).toUInt32 >>> ((24 : Int32).toUInt32 &&& Int32.toUInt32 31)).toInt32 &&& 255)) 13 (((x3).toUInt32 >>> ((16 : Int32).toUInt32 &&& Int32.toUInt32 31)).toInt32 &&& 255)) 14 (((x3).toUInt32 >>> ((8 : Int32).toUInt32 &&& Int32.toUInt32 31)).toInt32 &&& 255))))] rfl dX12_feed_103 (fun H locs w => ?_)
  refine lv_aload_n C.1 C.2.1 dX12_feed_104 rfl (lv_at hl 2 rfl) ?_
  refine lv_dup C.1 C.2.1 dX12_feed_105 rfl ?_
  refine r_get C w 0 rfl rfl 7 (by decide) fl_RX12_74 (v := .int 14) rfl dX12_feed_106 ?_
  refine lv_iconst (v := 1) C.1 C.2.1 dX12_feed_109 (by decide) ?_
  refine r_iadd C (v := 15) dX12_feed_110 (by decide) ?_
  refine r_put C w 0 rfl rfl 7 (by decide) fl_RX12_74 rfl (ty := .int) (tyX12_ok 7 (by decide)) rfl rfl (Nat.le_of_ble_eq_true rfl) [(a0, .inr (12, [.ref a1, .ref a2, .ref a3, .ref a4, .ref a5, .int 0, .ref a6, .int 15, .int 0, .int 0, .int 0, .int 0, .int 0, .int 0, .int 0, .int 0, .int 0, .int (-1), .ref a7, .ref a8, .int 0, .ref a9, .int 0, .ref a10, .ref a11, .ref a12, .ref a13, .ref a14, .int 0, .ref a15, .ref a16, .ref a17])), (a6, .inl (cy 1, 900, .inl (upd (upd (upd (upd (upd (upd (upd (upd (upd (upd (upd (upd (upd (upd (upd (fun _ => 0) 0 (((x0).toUInt32 >>> ((24 : Int32).toUInt32 &&& Int32.toUInt32 31)).toInt32 &&& 255)) 1 (((x0).toUInt32 >>> ((16 : Int32).toUInt32 &&& Int32.toUInt32 31)).toInt32 &&& 255)) 2 (((x0).toUInt32 >>> ((8 : Int32).toUInt32 &&& Int32.toUInt32 31)).toInt32 &&& 255)) 3 (((x0).toUInt32 >>> ((0 : Int32).toUInt32 &&& Int32.toUInt32 31)).toInt32 &&& 255)) 4 (((x1).toUInt32 >>> ((24 : Int32).toUInt32 &&& Int32.toUInt32 31)).toInt32 &&& 255)) 5 (((x1).toUInt32 >>> ((16 : Int32).toUInt32 &&& Int32.toUInt32 31)).toInt32 &&& 255)) 6 (((x1).toUInt32 >>> ((8 : Int32).toUInt32 &&& Int32.toUInt32 31)).toInt32 &&& 255)) 7 (((x1).toUInt32 >>> ((0 : Int32).toUInt32 &&& Int32.toUInt32 31)).toInt32 &&& 255)) 8 (((x2).toUInt32 >>> ((24 : Int32).toUInt32 &&& Int32.toUInt32 31)).toInt32 &&& 255)) 9 (((x2).toUInt32 >>> ((16 : Int32).toUInt32 &&& Int32.toUInt32 31)).toInt32 &&& 255)) 10 (((x2).toUInt32 >>> ((8 : Int32).toUInt32 &&& Int32.toUInt32 31)).toInt32 &&& 255)) 11 (((x2).toUInt32 >>> ((0 : Int32).toUInt32 &&& Int32.toUInt32 31)).toInt32 &&& 255)) 12 (((x3).toUInt32 >>> ((24 : Int32).toUInt32 &&& Int32.toUInt32 31)).toInt32 &&& 255)) 13 (((x3).toUInt32 >>> ((16 : Int32).toUInt32 &&& Int32.toUInt32 31)).toInt32 &&& 255)) 14 (((x3).toUInt32 >>> ((8 : Int32).toUInt32 &&& Int32.toUInt32 31)).toInt32 &&& 255))))] rfl dX12_feed_111 (fun H locs w => ?_)
  refine lv_iinc (v := 15) (lv' := [(6, .int 15), (7, .int x3), (0, .ref a0), (1, .int x0), (2, .int x1), (3, .int x2), (4, .int x3), (5, .int x4)]) C.1 C.2.1 dX12_feed_114 hl (k := 1) rfl (by decide) (by decide) rfl (fun ls hl => ?_)
  refine lv_goto (tgt := 23) C.1 C.2.1 dX12_feed_117 (by decide) ?_
  refine lv_iload C.1 C.2.1 dX12_feed_23 (lv_at hl 0 rfl) ?_
  refine lv_bipush (v := 20) C.1 C.2.1 dX12_feed_25 (by decide) ?_
  refine b_icmp_ge_f C (tgt := 120) dX12_feed_27 (by decide) (by decide) ?_
  refine lv_iload C.1 C.2.1 dX12_feed_30 (lv_at hl 0 rfl) ?_
  refine lv_iconst (v := 4) C.1 C.2.1 dX12_feed_32 (by decide) ?_
  refine b_icmp_ge_t C (tgt := 40) dX12_feed_33 (by decide) (by decide) ?_
  refine lv_iload C.1 C.2.1 dX12_feed_40 (lv_at hl 0 rfl) ?_
  refine lv_bipush (v := 8) C.1 C.2.1 dX12_feed_42 (by decide) ?_
  refine b_icmp_ge_t C (tgt := 51) dX12_feed_44 (by decide) (by decide) ?_
  refine lv_iload C.1 C.2.1 dX12_feed_51 (lv_at hl 0 rfl) ?_
  refine lv_bipush (v := 12) C.1 C.2.1 dX12_feed_53 (by decide) ?_
  refine b_icmp_ge_t C (tgt := 62) dX12_feed_55 (by decide) (by decide) ?_
  refine lv_iload C.1 C.2.1 dX12_feed_62 (lv_at hl 0 rfl) ?_
  refine lv_bipush (v := 16) C.1 C.2.1 dX12_feed_64 (by decide) ?_
  refine b_icmp_ge_f C (tgt := 74) dX12_feed_66 (by decide) (by decide) ?_
  refine lv_iload C.1 C.2.1 dX12_feed_69 (lv_at hl 6 rfl) ?_
  refine lv_goto (tgt := 76) C.1 C.2.1 dX12_feed_71 (by decide) ?_
  refine lv_istore (lv' := [(7, .int x3), (6, .int 15), (0, .ref a0), (1, .int x0), (2, .int x1), (3, .int x2), (4, .int x3), (5, .int x4)]) C.1 C.2.1 dX12_feed_76 hl (by decide) rfl (fun ls hl => ?_)
  refine lv_aload_n C.1 C.2.1 dX12_feed_78 rfl (lv_at hl 2 rfl) ?_
  refine r_get C w 0 rfl rfl 6 (by decide) fl_RX12_26 (v := .ref a6) rfl dX12_feed_79 ?_
  refine lv_aload_n C.1 C.2.1 dX12_feed_82 rfl (lv_at hl 2 rfl) ?_
  refine r_get C w 0 rfl rfl 7 (by decide) fl_RX12_74 (v := .int 15) rfl dX12_feed_83 ?_
  refine lv_iload C.1 C.2.1 dX12_feed_86 (lv_at hl 0 rfl) ?_
  refine lv_bipush (v := 24) C.1 C.2.1 dX12_feed_88 (by decide) ?_
  refine lv_bipush (v := 8) C.1 C.2.1 dX12_feed_90 (by decide) ?_
  refine lv_iload C.1 C.2.1 dX12_feed_92 (lv_at hl 1 rfl) ?_
  refine lv_iconst (v := 3) C.1 C.2.1 dX12_feed_94 (by decide) ?_
  refine r_iand C (v := 3) dX12_feed_95 (by decide) ?_
  refine r_imul C (v := 24) dX12_feed_96 (by decide) ?_
  refine r_isub C (v := 0) dX12_feed_97 (by decide) ?_
  refine lv_iushr (v := ((x3).toUInt32 >>> ((0 : Int32).toUInt32 &&& Int32.toUInt32 31)).toInt32) C.1 C.2.1 dX12_feed_98 rfl ?_
  refine lv_sipush (v := 255) C.1 C.2.1 dX12_feed_99 (by decide) ?_
  refine r_iand C (v := (((x3).toUInt32 >>> ((0 : Int32).toUInt32 &&& Int32.toUInt32 31)).toInt32 &&& 255)) dX12_feed_102 rfl ?_
  refine r_iast C w 1 rfl (vinD (by decide)) (upd (upd (upd (upd (upd (upd (upd (upd (upd (upd (upd (upd (upd (upd (upd (upd (fun _ => 0) 0 (((x0).toUInt32 >>> ((24 : Int32).toUInt32 &&& Int32.toUInt32 31)).toInt32 &&& 255)) 1 (((x0).toUInt32 >>> ((16 : Int32).toUInt32 &&& Int32.toUInt32 31)).toInt32 &&& 255)) 2 (((x0).toUInt32 >>> ((8 : Int32).toUInt32 &&& Int32.toUInt32 31)).toInt32 &&& 255)) 3 (((x0).toUInt32 >>> ((0 : Int32).toUInt32 &&& Int32.toUInt32 31)).toInt32 &&& 255)) 4 (((x1).toUInt32 >>> ((24 : Int32).toUInt32 &&& Int32.toUInt32 31)).toInt32 &&& 255)) 5 (((x1).toUInt32 >>> ((16 : Int32).toUInt32 &&& Int32.toUInt32 31)).toInt32 &&& 255)) 6 (((x1).toUInt32 >>> ((8 : Int32).toUInt32 &&& Int32.toUInt32 31)).toInt32 &&& 255)) 7 (((x1).toUInt32 >>> ((0 : Int32).toUInt32 &&& Int32.toUInt32 31)).toInt32 &&& 255)) 8 (((x2).toUInt32 >>> ((24 : Int32).toUInt32 &&& Int32.toUInt32 31)).toInt32 &&& 255)) 9 (((x2).toUInt32 >>> ((16 : Int32).toUInt32 &&& Int32.toUInt32 31)).toInt32 &&& 255)) 10 (((x2).toUInt32 >>> ((8 : Int32).toUInt32 &&& Int32.toUInt32 31)).toInt32 &&& 255)) 11 (((x2).toUInt32 >>> ((0 : Int32).toUInt32 &&& Int32.toUInt32 31)).toInt32 &&& 255)) 12 (((x3).toUInt32 >>> ((24 : Int32).toUInt32 &&& Int32.toUInt32 31)).toInt32 &&& 255)) 13 (((x3).toUInt32 >>> ((16 : Int32).toUInt32 &&& Int32.toUInt32 31)).toInt32 &&& 255)) 14 (((x3).toUInt32 >>> ((8 : Int32).toUInt32 &&& Int32.toUInt32 31)).toInt32 &&& 255)) 15 (((x3).toUInt32 >>> ((0 : Int32).toUInt32 &&& Int32.toUInt32 31)).toInt32 &&& 255)) rfl [(a0, .inr (12, [.ref a1, .ref a2, .ref a3, .ref a4, .ref a5, .int 0, .ref a6, .int 15, .int 0, .int 0, .int 0, .int 0, .int 0, .int 0, .int 0, .int 0, .int 0, .int (-1), .ref a7, .ref a8, .int 0, .ref a9, .int 0, .ref a10, .ref a11, .ref a12, .ref a13, .ref a14, .int 0, .ref a15, .ref a16, .ref a17])), (a6, .inl (cy 1, 900, .inl (upd (upd (upd (upd (upd (upd (upd (upd (upd (upd (upd (upd (upd (upd (upd (upd (fun _ => 0) 0 (((x0).toUInt32 >>> ((24 : Int32).toUInt32 &&& Int32.toUInt32 31)).toInt32 &&& 255)) 1 (((x0).toUInt32 >>> ((16 : Int32).toUInt32 &&& Int32.toUInt32 31)).toInt32 &&& 255)) 2 (((x0).toUInt32 >>> ((8 : Int32).toUInt32 &&& Int32.toUInt32 31)).toInt32 &&& 255)) 3 (((x0).toUInt32 >>> ((0 : Int32).toUInt32 &&& Int32.toUInt32 31)).toInt32 &&& 255)) 4 (((x1).toUInt32 >>> ((24 : Int32).toUInt32 &&& Int32.toUInt32 31)).toInt32 &&& 255)) 5 (((x1).toUInt32 >>> ((16 : Int32).toUInt32 &&& Int32.toUInt32 31)).toInt32 &&& 255)) 6 (((x1).toUInt32 >>> ((8 : Int32).toUInt32 &&& Int32.toUInt32 31)).toInt32 &&& 255)) 7 (((x1).toUInt32 >>> ((0 : Int32).toUInt32 &&& Int32.toUInt32 31)).toInt32 &&& 255)) 8 (((x2).toUInt32 >>> ((24 : Int32).toUInt32 &&& Int32.toUInt32 31)).toInt32 &&& 255)) 9 (((x2).toUInt32 >>> ((16 : Int32).toUInt32 &&& Int32.toUInt32 31)).toInt32 &&& 255)) 10 (((x2).toUInt32 >>> ((8 : Int32).toUInt32 &&& Int32.toUInt32 31)).toInt32 &&& 255)) 11 (((x2).toUInt32 >>> ((0 : Int32).toUInt32 &&& Int32.toUInt32 31)).toInt32 &&& 255)) 12 (((x3).toUInt32 >>> ((24 : Int32).toUInt32 &&& Int32.toUInt32 31)).toInt32 &&& 255)) 13 (((x3).toUInt32 >>> ((16 : Int32).toUInt32 &&& Int32.toUInt32 31)).toInt32 &&& 255)) 14 (((x3).toUInt32 >>> ((8 : Int32).toUInt32 &&& Int32.toUInt32 31)).toInt32 &&& 255)) 15 (((x3).toUInt32 >>> ((0 : Int32).toUInt32 &&& Int32.toUInt32 31)).toInt32 &&& 255))))] rfl dX12_feed_103 (fun H locs w => ?_)
  refine lv_aload_n C.1 C.2.1 dX12_feed_104 rfl (lv_at hl 2 rfl) ?_
  refine lv_dup C.1 C.2.1 dX12_feed_105 rfl ?_
  refine r_get C w 0 rfl rfl 7 (by decide) fl_RX12_74 (v := .int 15) rfl dX12_feed_106 ?_
  refine lv_iconst (v := 1) C.1 C.2.1 dX12_feed_109 (by decide) ?_
  refine r_iadd C (v := 16) dX12_feed_110 (by decide) ?_
  refine r_put C w 0 rfl rfl 7 (by decide) fl_RX12_74 rfl (ty := .int) (tyX12_ok 7 (by decide)) rfl rfl (Nat.le_of_ble_eq_true rfl) [(a0, .inr (12, [.ref a1, .ref a2, .ref a3, .ref a4, .ref a5, .int 0, .ref a6, .int 16, .int 0, .int 0, .int 0, .int 0, .int 0, .int 0, .int 0, .int 0, .int 0, .int (-1), .ref a7, .ref a8, .int 0, .ref a9, .int 0, .ref a10, .ref a11, .ref a12, .ref a13, .ref a14, .int 0, .ref a15, .ref a16, .ref a17])), (a6, .inl (cy 1, 900, .inl (upd (upd (upd (upd (upd (upd (upd (upd (upd (upd (upd (upd (upd (upd (upd (upd (fun _ => 0) 0 (((x0).toUInt32 >>> ((24 : Int32).toUInt32 &&& Int32.toUInt32 31)).toInt32 &&& 255)) 1 (((x0).toUInt32 >>> ((16 : Int32).toUInt32 &&& Int32.toUInt32 31)).toInt32 &&& 255)) 2 (((x0).toUInt32 >>> ((8 : Int32).toUInt32 &&& Int32.toUInt32 31)).toInt32 &&& 255)) 3 (((x0).toUInt32 >>> ((0 : Int32).toUInt32 &&& Int32.toUInt32 31)).toInt32 &&& 255)) 4 (((x1).toUInt32 >>> ((24 : Int32).toUInt32 &&& Int32.toUInt32 31)).toInt32 &&& 255)) 5 (((x1).toUInt32 >>> ((16 : Int32).toUInt32 &&& Int32.toUInt32 31)).toInt32 &&& 255)) 6 (((x1).toUInt32 >>> ((8 : Int32).toUInt32 &&& Int32.toUInt32 31)).toInt32 &&& 255)) 7 (((x1).toUInt32 >>> ((0 : Int32).toUInt32 &&& Int32.toUInt32 31)).toInt32 &&& 255)) 8 (((x2).toUInt32 >>> ((24 : Int32).toUInt32 &&& Int32.toUInt32 31)).toInt32 &&& 255)) 9 (((x2).toUInt32 >>> ((16 : Int32).toUInt32 &&& Int32.toUInt32 31)).toInt32 &&& 255)) 10 (((x2).toUInt32 >>> ((8 : Int32).toUInt32 &&& Int32.toUInt32 31)).toInt32 &&& 255)) 11 (((x2).toUInt32 >>> ((0 : Int32).toUInt32 &&& Int32.toUInt32 31)).toInt32 &&& 255)) 12 (((x3).toUInt32 >>> ((24 : Int32).toUInt32 &&& Int32.toUInt32 31)).toInt32 &&& 255)) 13 (((x3).toUInt32 >>> ((16 : Int32).toUInt32 &&& Int32.toUInt32 31)).toInt32 &&& 255)) 14 (((x3).toUInt32 >>> ((8 : Int32).toUInt32 &&& Int32.toUInt32 31)).toInt32 &&& 255)) 15 (((x3).toUInt32 >>> ((0 : Int32).toUInt32 &&& Int32.toUInt32 31)).toInt32 &&& 255))))] rfl dX12_feed_111 (fun H locs w => ?_)
  refine lv_iinc (v := 16) (lv' := [(6, .int 16), (7, .int x3), (0, .ref a0), (1, .int x0), (2, .int x1), (3, .int x2), (4, .int x3), (5, .int x4)]) C.1 C.2.1 dX12_feed_114 hl (k := 1) rfl (by decide) (by decide) rfl (fun ls hl => ?_)
  refine lv_goto (tgt := 23) C.1 C.2.1 dX12_feed_117 (by decide) ?_
  refine lv_iload C.1 C.2.1 dX12_feed_23 (lv_at hl 0 rfl) ?_
  refine lv_bipush (v := 20) C.1 C.2.1 dX12_feed_25 (by decide) ?_
  refine b_icmp_ge_f C (tgt := 120) dX12_feed_27 (by decide) (by decide) ?_
  refine lv_iload C.1 C.2.1 dX12_feed_30 (lv_at hl 0 rfl) ?_
  refine lv_iconst (v := 4) C.1 C.2.1 dX12_feed_32 (by decide) ?_
  refine b_icmp_ge_t C (tgt := 40) dX12_feed_33 (by decide) (by decide) ?_
  refine lv_iload C.1 C.2.1 dX12_feed_40 (lv_at hl 0 rfl) ?_
  refine lv_bipush (v := 8) C.1 C.2.1 dX12_feed_42 (by decide) ?_
  refine b_icmp_ge_t C (tgt := 51) dX12_feed_44 (by decide) (by decide) ?_
  refine lv_iload C.1 C.2.1 dX12_feed_51 (lv_at hl 0 rfl) ?_
  refine lv_bipush (v := 12) C.1 C.2.1 dX12_feed_53 (by decide) ?_
  refine b_icmp_ge_t C (tgt := 62) dX12_feed_55 (by decide) (by decide) ?_
  refine lv_iload C.1 C.2.1 dX12_feed_62 (lv_at hl 0 rfl) ?_
  refine lv_bipush (v := 16) C.1 C.2.1 dX12_feed_64 (by decide) ?_
  refine b_icmp_ge_t C (tgt := 74) dX12_feed_66 (by decide) (by decide) ?_
  refine lv_iload C.1 C.2.1 dX12_feed_74 (lv_at hl 7 rfl) ?_
  refine lv_istore (lv' := [(7, .int x4), (6, .int 16), (0, .ref a0), (1, .int x0), (2, .int x1), (3, .int x2), (4, .int x3), (5, .int x4)]) C.1 C.2.1 dX12_feed_76 hl (by decide) rfl (fun ls hl => ?_)
  refine lv_aload_n C.1 C.2.1 dX12_feed_78 rfl (lv_at hl 2 rfl) ?_
  refine r_get C w 0 rfl rfl 6 (by decide) fl_RX12_26 (v := .ref a6) rfl dX12_feed_79 ?_
  refine lv_aload_n C.1 C.2.1 dX12_feed_82 rfl (lv_at hl 2 rfl) ?_
  refine r_get C w 0 rfl rfl 7 (by decide) fl_RX12_74 (v := .int 16) rfl dX12_feed_83 ?_
  refine lv_iload C.1 C.2.1 dX12_feed_86 (lv_at hl 0 rfl) ?_
  refine lv_bipush (v := 24) C.1 C.2.1 dX12_feed_88 (by decide) ?_
  refine lv_bipush (v := 8) C.1 C.2.1 dX12_feed_90 (by decide) ?_
  refine lv_iload C.1 C.2.1 dX12_feed_92 (lv_at hl 1 rfl) ?_
  refine lv_iconst (v := 3) C.1 C.2.1 dX12_feed_94 (by decide) ?_
  refine r_iand C (v := 0) dX12_feed_95 (by decide) ?_
  refine r_imul C (v := 0) dX12_feed_96 (by decide) ?_
  refine r_isub C (v := 24) dX12_feed_97 (by decide) ?_
  refine lv_iushr (v := ((x4).toUInt32 >>> ((24 : Int32).toUInt32 &&& Int32.toUInt32 31)).toInt32) C.1 C.2.1 dX12_feed_98 rfl ?_
  refine lv_sipush (v := 255) C.1 C.2.1 dX12_feed_99 (by decide) ?_
  refine r_iand C (v := (((x4).toUInt32 >>> ((24 : Int32).toUInt32 &&& Int32.toUInt32 31)).toInt32 &&& 255)) dX12_feed_102 rfl ?_
  refine r_iast C w 1 rfl (vinD (by decide)) (upd (upd (upd (upd (upd (upd (upd (upd (upd (upd (upd (upd (upd (upd (upd (upd (upd (fun _ => 0) 0 (((x0).toUInt32 >>> ((24 : Int32).toUInt32 &&& Int32.toUInt32 31)).toInt32 &&& 255)) 1 (((x0).toUInt32 >>> ((16 : Int32).toUInt32 &&& Int32.toUInt32 31)).toInt32 &&& 255)) 2 (((x0).toUInt32 >>> ((8 : Int32).toUInt32 &&& Int32.toUInt32 31)).toInt32 &&& 255)) 3 (((x0).toUInt32 >>> ((0 : Int32).toUInt32 &&& Int32.toUInt32 31)).toInt32 &&& 255)) 4 (((x1).toUInt32 >>> ((24 : Int32).toUInt32 &&& Int32.toUInt32 31)).toInt32 &&& 255)) 5 (((x1).toUInt32 >>> ((16 : Int32).toUInt32 &&& Int32.toUInt32 31)).toInt32 &&& 255)) 6 (((x1).toUInt32 >>> ((8 : Int32).toUInt32 &&& Int32.toUInt32 31)).toInt32 &&& 255)) 7 (((x1).toUInt32 >>> ((0 : Int32).toUInt32 &&& Int32.toUInt32 31)).toInt32 &&& 255)) 8 (((x2).toUInt32 >>> ((24 : Int32).toUInt32 &&& Int32.toUInt32 31)).toInt32 &&& 255)) 9 (((x2).toUInt32 >>> ((16 : Int32).toUInt32 &&& Int32.toUInt32 31)).toInt32 &&& 255)) 10 (((x2).toUInt32 >>> ((8 : Int32).toUInt32 &&& Int32.toUInt32 31)).toInt32 &&& 255)) 11 (((x2).toUInt32 >>> ((0 : Int32).toUInt32 &&& Int32.toUInt32 31)).toInt32 &&& 255)) 12 (((x3).toUInt32 >>> ((24 : Int32).toUInt32 &&& Int32.toUInt32 31)).toInt32 &&& 255)) 13 (((x3).toUInt32 >>> ((16 : Int32).toUInt32 &&& Int32.toUInt32 31)).toInt32 &&& 255)) 14 (((x3).toUInt32 >>> ((8 : Int32).toUInt32 &&& Int32.toUInt32 31)).toInt32 &&& 255)) 15 (((x3).toUInt32 >>> ((0 : Int32).toUInt32 &&& Int32.toUInt32 31)).toInt32 &&& 255)) 16 (((x4).toUInt32 >>> ((24 : Int32).toUInt32 &&& Int32.toUInt32 31)).toInt32 &&& 255)) rfl [(a0, .inr (12, [.ref a1, .ref a2, .ref a3, .ref a4, .ref a5, .int 0, .ref a6, .int 16, .int 0, .int 0, .int 0, .int 0, .int 0, .int 0, .int 0, .int 0, .int 0, .int (-1), .ref a7, .ref a8, .int 0, .ref a9, .int 0, .ref a10, .ref a11, .ref a12, .ref a13, .ref a14, .int 0, .ref a15, .ref a16, .ref a17])), (a6, .inl (cy 1, 900, .inl (upd (upd (upd (upd (upd (upd (upd (upd (upd (upd (upd (upd (upd (upd (upd (upd (upd (fun _ => 0) 0 (((x0).toUInt32 >>> ((24 : Int32).toUInt32 &&& Int32.toUInt32 31)).toInt32 &&& 255)) 1 (((x0).toUInt32 >>> ((16 : Int32).toUInt32 &&& Int32.toUInt32 31)).toInt32 &&& 255)) 2 (((x0).toUInt32 >>> ((8 : Int32).toUInt32 &&& Int32.toUInt32 31)).toInt32 &&& 255)) 3 (((x0).toUInt32 >>> ((0 : Int32).toUInt32 &&& Int32.toUInt32 31)).toInt32 &&& 255)) 4 (((x1).toUInt32 >>> ((24 : Int32).toUInt32 &&& Int32.toUInt32 31)).toInt32 &&& 255)) 5 (((x1).toUInt32 >>> ((16 : Int32).toUInt32 &&& Int32.toUInt32 31)).toInt32 &&& 255)) 6 (((x1).toUInt32 >>> ((8 : Int32).toUInt32 &&& Int32.toUInt32 31)).toInt32 &&& 255)) 7 (((x1).toUInt32 >>> ((0 : Int32).toUInt32 &&& Int32.toUInt32 31)).toInt32 &&& 255)) 8 (((x2).toUInt32 >>> ((24 : Int32).toUInt32 &&& Int32.toUInt32 31)).toInt32 &&& 255)) 9 (((x2).toUInt32 >>> ((16 : Int32).toUInt32 &&& Int32.toUInt32 31)).toInt32 &&& 255)) 10 (((x2).toUInt32 >>> ((8 : Int32).toUInt32 &&& Int32.toUInt32 31)).toInt32 &&& 255)) 11 (((x2).toUInt32 >>> ((0 : Int32).toUInt32 &&& Int32.toUInt32 31)).toInt32 &&& 255)) 12 (((x3).toUInt32 >>> ((24 : Int32).toUInt32 &&& Int32.toUInt32 31)).toInt32 &&& 255)) 13 (((x3).toUInt32 >>> ((16 : Int32).toUInt32 &&& Int32.toUInt32 31)).toInt32 &&& 255)) 14 (((x3).toUInt32 >>> ((8 : Int32).toUInt32 &&& Int32.toUInt32 31)).toInt32 &&& 255)) 15 (((x3).toUInt32 >>> ((0 : Int32).toUInt32 &&& Int32.toUInt32 31)).toInt32 &&& 255)) 16 (((x4).toUInt32 >>> ((24 : Int32).toUInt32 &&& Int32.toUInt32 31)).toInt32 &&& 255))))] rfl dX12_feed_103 (fun H locs w => ?_)
  refine lv_aload_n C.1 C.2.1 dX12_feed_104 rfl (lv_at hl 2 rfl) ?_
  refine lv_dup C.1 C.2.1 dX12_feed_105 rfl ?_
  refine r_get C w 0 rfl rfl 7 (by decide) fl_RX12_74 (v := .int 16) rfl dX12_feed_106 ?_
  refine lv_iconst (v := 1) C.1 C.2.1 dX12_feed_109 (by decide) ?_
  refine r_iadd C (v := 17) dX12_feed_110 (by decide) ?_
  refine r_put C w 0 rfl rfl 7 (by decide) fl_RX12_74 rfl (ty := .int) (tyX12_ok 7 (by decide)) rfl rfl (Nat.le_of_ble_eq_true rfl) [(a0, .inr (12, [.ref a1, .ref a2, .ref a3, .ref a4, .ref a5, .int 0, .ref a6, .int 17, .int 0, .int 0, .int 0, .int 0, .int 0, .int 0, .int 0, .int 0, .int 0, .int (-1), .ref a7, .ref a8, .int 0, .ref a9, .int 0, .ref a10, .ref a11, .ref a12, .ref a13, .ref a14, .int 0, .ref a15, .ref a16, .ref a17])), (a6, .inl (cy 1, 900, .inl (upd (upd (upd (upd (upd (upd (upd (upd (upd (upd (upd (upd (upd (upd (upd (upd (upd (fun _ => 0) 0 (((x0).toUInt32 >>> ((24 : Int32).toUInt32 &&& Int32.toUInt32 31)).toInt32 &&& 255)) 1 (((x0).toUInt32 >>> ((16 : Int32).toUInt32 &&& Int32.toUInt32 31)).toInt32 &&& 255)) 2 (((x0).toUInt32 >>> ((8 : Int32).toUInt32 &&& Int32.toUInt32 31)).toInt32 &&& 255)) 3 (((x0).toUInt32 >>> ((0 : Int32).toUInt32 &&& Int32.toUInt32 31)).toInt32 &&& 255)) 4 (((x1).toUInt32 >>> ((24 : Int32).toUInt32 &&& Int32.toUInt32 31)).toInt32 &&& 255)) 5 (((x1).toUInt32 >>> ((16 : Int32).toUInt32 &&& Int32.toUInt32 31)).toInt32 &&& 255)) 6 (((x1).toUInt32 >>> ((8 : Int32).toUInt32 &&& Int32.toUInt32 31)).toInt32 &&& 255)) 7 (((x1).toUInt32 >>> ((0 : Int32).toUInt32 &&& Int32.toUInt32 31)).toInt32 &&& 255)) 8 (((x2).toUInt32 >>> ((24 : Int32).toUInt32 &&& Int32.toUInt32 31)).toInt32 &&& 255)) 9 (((x2).toUInt32 >>> ((16 : Int32).toUInt32 &&& Int32.toUInt32 31)).toInt32 &&& 255)) 10 (((x2).toUInt32 >>> ((8 : Int32).toUInt32 &&& Int32.toUInt32 31)).toInt32 &&& 255)) 11 (((x2).toUInt32 >>> ((0 : Int32).toUInt32 &&& Int32.toUInt32 31)).toInt32 &&& 255)) 12 (((x3).toUInt32 >>> ((24 : Int32).toUInt32 &&& Int32.toUInt32 31)).toInt32 &&& 255)) 13 (((x3).toUInt32 >>> ((16 : Int32).toUInt32 &&& Int32.toUInt32 31)).toInt32 &&& 255)) 14 (((x3).toUInt32 >>> ((8 : Int32).toUInt32 &&& Int32.toUInt32 31)).toInt32 &&& 255)) 15 (((x3).toUInt32 >>> ((0 : Int32).toUInt32 &&& Int32.toUInt32 31)).toInt32 &&& 255)) 16 (((x4).toUInt32 >>> ((24 : Int32).toUInt32 &&& Int32.toUInt32 31)).toInt32 &&& 255))))] rfl dX12_feed_111 (fun H locs w => ?_)
  refine lv_iinc (v := 17) (lv' := [(6, .int 17), (7, .int x4), (0, .ref a0), (1, .int x0), (2, .int x1), (3, .int x2), (4, .int x3), (5, .int x4)]) C.1 C.2.1 dX12_feed_114 hl (k := 1) rfl (by decide) (by decide) rfl (fun ls hl => ?_)
  refine lv_goto (tgt := 23) C.1 C.2.1 dX12_feed_117 (by decide) ?_
  refine lv_iload C.1 C.2.1 dX12_feed_23 (lv_at hl 0 rfl) ?_
  refine lv_bipush (v := 20) C.1 C.2.1 dX12_feed_25 (by decide) ?_
  refine b_icmp_ge_f C (tgt := 120) dX12_feed_27 (by decide) (by decide) ?_
  refine lv_iload C.1 C.2.1 dX12_feed_30 (lv_at hl 0 rfl) ?_
  refine lv_iconst (v := 4) C.1 C.2.1 dX12_feed_32 (by decide) ?_
  refine b_icmp_ge_t C (tgt := 40) dX12_feed_33 (by decide) (by decide) ?_
  refine lv_iload C.1 C.2.1 dX12_feed_40 (lv_at hl 0 rfl) ?_
  refine lv_bipush (v := 8) C.1 C.2.1 dX12_feed_42 (by decide) ?_
  refine b_icmp_ge_t C (tgt := 51) dX12_feed_44 (by decide) (by decide) ?_
  refine lv_iload C.1 C.2.1 dX12_feed_51 (lv_at hl 0 rfl) ?_
  refine lv_bipush (v := 12) C.1 C.2.1 dX12_feed_53 (by decide) ?_
  refine b_icmp_ge_t C (tgt := 62) dX12_feed_55 (by decide) (by decide) ?_
  refine lv_iload C.1 C.2.1 dX12_feed_62 (lv_at hl 0 rfl) ?_
  refine lv_bipush (v := 16) C.1 C.2.1 dX12_feed_64 (by decide) ?_
  refine b_icmp_ge_t C (tgt := 74) dX12_feed_66 (by decide) (by decide) ?_
  refine lv_iload C.1 C.2.1 dX12_feed_74 (lv_at hl 7 rfl) ?_
  refine lv_istore (lv' := [(7, .int x4), (6, .int 17), (0, .ref a0), (1, .int x0), (2, .int x1), (3, .int x2), (4, .int x3), (5, .int x4)]) C.1 C.2.1 dX12_feed_76 hl (by decide) rfl (fun ls hl => ?_)
  refine lv_aload_n C.1 C.2.1 dX12_feed_78 rfl (lv_at hl 2 rfl) ?_
  refine r_get C w 0 rfl rfl 6 (by decide) fl_RX12_26 (v := .ref a6) rfl dX12_feed_79 ?_
  refine lv_aload_n C.1 C.2.1 dX12_feed_82 rfl (lv_at hl 2 rfl) ?_
  refine r_get C w 0 rfl rfl 7 (by decide) fl_RX12_74 (v := .int 17) rfl dX12_feed_83 ?_
  refine lv_iload C.1 C.2.1 dX12_feed_86 (lv_at hl 0 rfl) ?_
  refine lv_bipush (v := 24) C.1 C.2.1 dX12_feed_88 (by decide) ?_
  refine lv_bipush (v := 8) C.1 C.2.1 dX12_feed_90 (by decide) ?_
  refine lv_iload C.1 C.2.1 dX12_feed_92 (lv_at hl 1 rfl) ?_
  refine lv_iconst (v := 3) C.1 C.2.1 dX12_feed_94 (by decide) ?_
  refine r_iand C (v := 1) dX12_feed_95 (by decide) ?_
  refine r_imul C (v := 8) dX12_feed_96 (by decide) ?_
  refine r_isub C (v := 16) dX12_feed_97 (by decide) ?_
  refine lv_iushr (v := ((x4).toUInt32 >>> ((16 : Int32).toUInt32 &&& Int32.toUInt32 31)).toInt32) C.1 C.2.1 dX12_feed_98 rfl ?_
  refine lv_sipush (v := 255) C.1 C.2.1 dX12_feed_99 (by decide) ?_
  refine r_iand C (v := (((x4).toUInt32 >>> ((16 : Int32).toUInt32 &&& Int32.toUInt32 31)).toInt32 &&& 255)) dX12_feed_102 rfl ?_
  refine r_iast C w 1 rfl (vinD (by decide)) (upd (upd (upd (upd (upd (upd (upd (upd (upd (upd (upd (upd (upd (upd (upd (upd (upd (upd (fun _ => 0) 0 (((x0).toUInt32 >>> ((24 : Int32).toUInt32 &&& Int32.toUInt32 31)).toInt32 &&& 255)) 1 (((x0).toUInt32 >>> ((16 : Int32).toUInt32 &&& Int32.toUInt32 31)).toInt32 &&& 255)) 2 (((x0).toUInt32 >>> ((8 : Int32).toUInt32 &&& Int32.toUInt32 31)).toInt32 &&& 255)) 3 (((x0).toUInt32 >>> ((0 : Int32).toUInt32 &&& Int32.toUInt32 31)).toInt32 &&& 255)) 4 (((x1).toUInt32 >>> ((24 : Int32).toUInt32 &&& Int32.toUInt32 31)).toInt32 &&& 255)) 5 (((x1).toUInt32 >>> ((16 : Int32).toUInt32 &&& Int32.toUInt32 31)).toInt32 &&& 255)) 6 (((x1).toUInt32 >>> ((8 : Int32).toUInt32 &&& Int32.toUInt32 31)).toInt32 &&& 255)) 7 (((x1).toUInt32 >>> ((0 : Int32).toUInt32 &&& Int32.toUInt32 31)).toInt32 &&& 255)) 8 (((x2).toUInt32 >>> ((24 : Int32).toUInt32 &&& Int32.toUInt32 31)).toInt32 &&& 255)) 9 (((x2).toUInt32 >>> ((16 : Int32).toUInt32 &&& Int32.toUInt32 31)).toInt32 &&& 255)) 10 (((x2).toUInt32 >>> ((8 : Int32).toUInt32 &&& Int32.toUInt32 31)).toInt32 &&& 255)) 11 (((x2).toUInt32 >>> ((0 : Int32).toUInt32 &&& Int32.toUInt32 31)).toInt32 &&& 255)) 12 (((x3).toUInt32 >>> ((24 : Int32).toUInt32 &&& Int32.toUInt32 31)).toInt32 &&& 255)) 13 (((x3).toUInt32 >>> ((16 : Int32).toUInt32 &&& Int32.toUInt32 31)).toInt32 &&& 255)) 14 (((x3).toUInt32 >>> ((8 : Int32).toUInt32 &&& Int32.toUInt32 31)).toInt32 &&& 255)) 15 (((x3).toUInt32 >>> ((0 : Int32).toUInt32 &&& Int32.toUInt32 31)).toInt32 &&& 255)) 16 (((x4).toUInt32 >>> ((24 : Int32).toUInt32 &&& Int32.toUInt32 31)).toInt32 &&& 255)) 17 (((x4).toUInt32 >>> ((16 : Int32).toUInt32 &&& Int32.toUInt32 31)).toInt32 &&& 255)) rfl [(a0, .inr (12, [.ref a1, .ref a2, .ref a3, .ref a4, .ref a5, .int 0, .ref a6, .int 17, .int 0, .int 0, .int 0, .int 0, .int 0, .int 0, .int 0, .int 0, .int 0, .int (-1), .ref a7, .ref a8, .int 0, .ref a9, .int 0, .ref a10, .ref a11, .ref a12, .ref a13, .ref a14, .int 0, .ref a15, .ref a16, .ref a17])), (a6, .inl (cy 1, 900, .inl (upd (upd (upd (upd (upd (upd (upd (upd (upd (upd (upd (upd (upd (upd (upd (upd (upd (upd (fun _ => 0) 0 (((x0).toUInt32 >>> ((24 : Int32).toUInt32 &&& Int32.toUInt32 31)).toInt32 &&& 255)) 1 (((x0).toUInt32 >>> ((16 : Int32).toUInt32 &&& Int32.toUInt32 31)).toInt32 &&& 255)) 2 (((x0).toUInt32 >>> ((8 : Int32).toUInt32 &&& Int32.toUInt32 31)).toInt32 &&& 255)) 3 (((x0).toUInt32 >>> ((0 : Int32).toUInt32 &&& Int32.toUInt32 31)).toInt32 &&& 255)) 4 (((x1).toUInt32 >>> ((24 : Int32).toUInt32 &&& Int32.toUInt32 31)).toInt32 &&& 255)) 5 (((x1).toUInt32 >>> ((16 : Int32).toUInt32 &&& Int32.toUInt32 31)).toInt32 &&& 255)) 6 (((x1).toUInt32 >>> ((8 : Int32).toUInt32 &&& Int32.toUInt32 31)).toInt32 &&& 255)) 7 (((x1).toUInt32 >>> ((0 : Int32).toUInt32 &&& Int32.toUInt32 31)).toInt32 &&& 255)) 8 (((x2).toUInt32 >>> ((24 : Int32).toUInt32 &&& Int32.toUInt32 31)).toInt32 &&& 255)) 9 (((x2).toUInt32 >>> ((16 : Int32).toUInt32 &&& Int32.toUInt32 31)).toInt32 &&& 255)) 10 (((x2).toUInt32 >>> ((8 : Int32).toUInt32 &&& Int32.toUInt32 31)).toInt32 &&& 255)) 11 (((x2).toUInt32 >>> ((0 : Int32).toUInt32 &&& Int32.toUInt32 31)).toInt32 &&& 255)) 12 (((x3).toUInt32 >>> ((24 : Int32).toUInt32 &&& Int32.toUInt32 31)).toInt32 &&& 255)) 13 (((x3).toUInt32 >>> ((16 : Int32).toUInt32 &&& Int32.toUInt32 31)).toInt32 &&& 255)) 14 (((x3).toUInt32 >>> ((8 : Int32).toUInt32 &&& Int32.toUInt32 31)).toInt32 &&& 255)) 15 (((x3).toUInt32 >>> ((0 : Int32).toUInt32 &&& Int32.toUInt32 31)).toInt32 &&& 255)) 16 (((x4).toUInt32 >>> ((24 : Int32).toUInt32 &&& Int32.toUInt32 31)).toInt32 &&& 255)) 17 (((x4).toUInt32 >>> ((16 : Int32).toUInt32 &&& Int32.toUInt32 31)).toInt32 &&& 255))))] rfl dX12_feed_103 (fun H locs w => ?_)
  refine lv_aload_n C.1 C.2.1 dX12_feed_104 rfl (lv_at hl 2 rfl) ?_
  refine lv_dup C.1 C.2.1 dX12_feed_105 rfl ?_
  refine r_get C w 0 rfl rfl 7 (by decide) fl_RX12_74 (v := .int 17) rfl dX12_feed_106 ?_
  refine lv_iconst (v := 1) C.1 C.2.1 dX12_feed_109 (by decide) ?_
  refine r_iadd C (v := 18) dX12_feed_110 (by decide) ?_
  refine r_put C w 0 rfl rfl 7 (by decide) fl_RX12_74 rfl (ty := .int) (tyX12_ok 7 (by decide)) rfl rfl (Nat.le_of_ble_eq_true rfl) [(a0, .inr (12, [.ref a1, .ref a2, .ref a3, .ref a4, .ref a5, .int 0, .ref a6, .int 18, .int 0, .int 0, .int 0, .int 0, .int 0, .int 0, .int 0, .int 0, .int 0, .int (-1), .ref a7, .ref a8, .int 0, .ref a9, .int 0, .ref a10, .ref a11, .ref a12, .ref a13, .ref a14, .int 0, .ref a15, .ref a16, .ref a17])), (a6, .inl (cy 1, 900, .inl (upd (upd (upd (upd (upd (upd (upd (upd (upd (upd (upd (upd (upd (upd (upd (upd (upd (upd (fun _ => 0) 0 (((x0).toUInt32 >>> ((24 : Int32).toUInt32 &&& Int32.toUInt32 31)).toInt32 &&& 255)) 1 (((x0).toUInt32 >>> ((16 : Int32).toUInt32 &&& Int32.toUInt32 31)).toInt32 &&& 255)) 2 (((x0).toUInt32 >>> ((8 : Int32).toUInt32 &&& Int32.toUInt32 31)).toInt32 &&& 255)) 3 (((x0).toUInt32 >>> ((0 : Int32).toUInt32 &&& Int32.toUInt32 31)).toInt32 &&& 255)) 4 (((x1).toUInt32 >>> ((24 : Int32).toUInt32 &&& Int32.toUInt32 31)).toInt32 &&& 255)) 5 (((x1).toUInt32 >>> ((16 : Int32).toUInt32 &&& Int32.toUInt32 31)).toInt32 &&& 255)) 6 (((x1).toUInt32 >>> ((8 : Int32).toUInt32 &&& Int32.toUInt32 31)).toInt32 &&& 255)) 7 (((x1).toUInt32 >>> ((0 : Int32).toUInt32 &&& Int32.toUInt32 31)).toInt32 &&& 255)) 8 (((x2).toUInt32 >>> ((24 : Int32).toUInt32 &&& Int32.toUInt32 31)).toInt32 &&& 255)) 9 (((x2).toUInt32 >>> ((16 : Int32).toUInt32 &&& Int32.toUInt32 31)).toInt32 &&& 255)) 10 (((x2).toUInt32 >>> ((8 : Int32).toUInt32 &&& Int32.toUInt32 31)).toInt32 &&& 255)) 11 (((x2).toUInt32 >>> ((0 : Int32).toUInt32 &&& Int32.toUInt32 31)).toInt32 &&& 255)) 12 (((x3).toUInt32 >>> ((24 : Int32).toUInt32 &&& Int32.toUInt32 31)).toInt32 &&& 255)) 13 (((x3).toUInt32 >>> ((16 : Int32).toUInt32 &&& Int32.toUInt32 31)).toInt32 &&& 255)) 14 (((x3).toUInt32 >>> ((8 : Int32).toUInt32 &&& Int32.toUInt32 31)).toInt32 &&& 255)) 15 (((x3).toUInt32 >>> ((0 : Int32).toUInt32 &&& Int32.toUInt32 31)).toInt32 &&& 255)) 16 (((x4).toUInt32 >>> ((24 : Int32).toUInt32 &&& Int32.toUInt32 31)).toInt32 &&& 255)) 17 (((x4).toUInt32 >>> ((16 : Int32).toUInt32 &&& Int32.toUInt32 31)).toInt32 &&& 255))))] rfl dX12_feed_111 (fun H locs w => ?_)
  refine lv_iinc (v := 18) (lv' := [(6, .int 18), (7, .int x4), (0, .ref a0), (1, .int x0), (2, .int x1), (3, .int x2), (4, .int x3), (5, .int x4)]) C.1 C.2.1 dX12_feed_114 hl (k := 1) rfl (by decide) (by decide) rfl (fun ls hl => ?_)
  refine lv_goto (tgt := 23) C.1 C.2.1 dX12_feed_117 (by decide) ?_
  refine lv_iload C.1 C.2.1 dX12_feed_23 (lv_at hl 0 rfl) ?_
  refine lv_bipush (v := 20) C.1 C.2.1 dX12_feed_25 (by decide) ?_
  refine b_icmp_ge_f C (tgt := 120) dX12_feed_27 (by decide) (by decide) ?_
  refine lv_iload C.1 C.2.1 dX12_feed_30 (lv_at hl 0 rfl) ?_
  refine lv_iconst (v := 4) C.1 C.2.1 dX12_feed_32 (by decide) ?_
  refine b_icmp_ge_t C (tgt := 40) dX12_feed_33 (by decide) (by decide) ?_
  refine lv_iload C.1 C.2.1 dX12_feed_40 (lv_at hl 0 rfl) ?_
  refine lv_bipush (v := 8) C.1 C.2.1 dX12_feed_42 (by decide) ?_
  refine b_icmp_ge_t C (tgt := 51) dX12_feed_44 (by decide) (by decide) ?_
  refine lv_iload C.1 C.2.1 dX12_feed_51 (lv_at hl 0 rfl) ?_
  refine lv_bipush (v := 12) C.1 C.2.1 dX12_feed_53 (by decide) ?_
  refine b_icmp_ge_t C (tgt := 62) dX12_feed_55 (by decide) (by decide) ?_
  refine lv_iload C.1 C.2.1 dX12_feed_62 (lv_at hl 0 rfl) ?_
  refine lv_bipush (v := 16) C.1 C.2.1 dX12_feed_64 (by decide) ?_
  refine b_icmp_ge_t C (tgt := 74) dX12_feed_66 (by decide) (by decide) ?_
  refine lv_iload C.1 C.2.1 dX12_feed_74 (lv_at hl 7 rfl) ?_
  refine lv_istore (lv' := [(7, .int x4), (6, .int 18), (0, .ref a0), (1, .int x0), (2, .int x1), (3, .int x2), (4, .int x3), (5, .int x4)]) C.1 C.2.1 dX12_feed_76 hl (by decide) rfl (fun ls hl => ?_)
  refine lv_aload_n C.1 C.2.1 dX12_feed_78 rfl (lv_at hl 2 rfl) ?_
  refine r_get C w 0 rfl rfl 6 (by decide) fl_RX12_26 (v := .ref a6) rfl dX12_feed_79 ?_
  refine lv_aload_n C.1 C.2.1 dX12_feed_82 rfl (lv_at hl 2 rfl) ?_
  refine r_get C w 0 rfl rfl 7 (by decide) fl_RX12_74 (v := .int 18) rfl dX12_feed_83 ?_
  refine lv_iload C.1 C.2.1 dX12_feed_86 (lv_at hl 0 rfl) ?_
  refine lv_bipush (v := 24) C.1 C.2.1 dX12_feed_88 (by decide) ?_
  refine lv_bipush (v := 8) C.1 C.2.1 dX12_feed_90 (by decide) ?_
  refine lv_iload C.1 C.2.1 dX12_feed_92 (lv_at hl 1 rfl) ?_
  refine lv_iconst (v := 3) C.1 C.2.1 dX12_feed_94 (by decide) ?_
  refine r_iand C (v := 2) dX12_feed_95 (by decide) ?_
  refine r_imul C (v := 16) dX12_feed_96 (by decide) ?_
  refine r_isub C (v := 8) dX12_feed_97 (by decide) ?_
  refine lv_iushr (v := ((x4).toUInt32 >>> ((8 : Int32).toUInt32 &&& Int32.toUInt32 31)).toInt32) C.1 C.2.1 dX12_feed_98 rfl ?_
  refine lv_sipush (v := 255) C.1 C.2.1 dX12_feed_99 (by decide) ?_
  refine r_iand C (v := (((x4).toUInt32 >>> ((8 : Int32).toUInt32 &&& Int32.toUInt32 31)).toInt32 &&& 255)) dX12_feed_102 rfl ?_
  refine r_iast C w 1 rfl (vinD (by decide)) (upd (upd (upd (upd (upd (upd (upd (upd (upd (upd (upd (upd (upd (upd (upd (upd (upd (upd (upd (fun _ => 0) 0 (((x0).toUInt32 >>> ((24 : Int32).toUInt32 &&& Int32.toUInt32 31)).toInt32 &&& 255)) 1 (((x0).toUInt32 >>> ((16 : Int32).toUInt32 &&& Int32.toUInt32 31)).toInt32 &&& 255)) 2 (((x0).toUInt32 >>> ((8 : Int32).toUInt32 &&& Int32.toUInt32 31)).toInt32 &&& 255)) 3 (((x0).toUInt32 >>> ((0 : Int32).toUInt32 &&& Int32.toUInt32 31)).toInt32 &&& 255)) 4 (((x1).toUInt32 >>> ((24 : Int32).toUInt32 &&& Int32.toUInt32 31)).toInt32 &&& 255)) 5 (((x1).toUInt32 >>> ((16 : Int32).toUInt32 &&& Int32.toUInt32 31)).toInt32 &&& 255)) 6 (((x1).toUInt32 >>> ((8 : Int32).toUInt32 &&& Int32.toUInt32 31)).toInt32 &&& 255)) 7 (((x1).toUInt32 >>> ((0 : Int32).toUInt32 &&& Int32.toUInt32 31)).toInt32 &&& 255)) 8 (((x2).toUInt32 >>> ((24 : Int32).toUInt32 &&& Int32.toUInt32 31)).toInt32 &&& 255)) 9 (((x2).toUInt32 >>> ((16 : Int32).toUInt32 &&& Int32.toUInt32 31)).toInt32 &&& 255)) 10 (((x2).toUInt32 >>> ((8 : Int32).toUInt32 &&& Int32.toUInt32 31)).toInt32 &&& 255)) 11 (((x2).toUInt32 >>> ((0 : Int32).toUInt32 &&& Int32.toUInt32 31)).toInt32 &&& 255)) 12 (((x3).toUInt32 >>> ((24 : Int32).toUInt32 &&& Int32.toUInt32 31)).toInt32 &&& 255)) 13 (((x3).toUInt32 >>> ((16 : Int32).toUInt32 &&& Int32.toUInt32 31)).toInt32 &&& 255)) 14 (((x3).toUInt32 >>> ((8 : Int32).toUInt32 &&& Int32.toUInt32 31)).toInt32 &&& 255)) 15 (((x3).toUInt32 >>> ((0 : Int32).toUInt32 &&& Int32.toUInt32 31)).toInt32 &&& 255)) 16 (((x4).toUInt32 >>> ((24 : Int32).toUInt32 &&& Int32.toUInt32 31)).toInt32 &&& 255)) 17 (((x4).toUInt32 >>> ((16 : Int32).toUInt32 &&& Int32.toUInt32 31)).toInt32 &&& 255)) 18 (((x4).toUInt32 >>> ((8 : Int32).toUInt32 &&& Int32.toUInt32 31)).toInt32 &&& 255)) rfl [(a0, .inr (12, [.ref a1, .ref a2, .ref a3, .ref a4, .ref a5, .int 0, .ref a6, .int 18, .int 0, .int 0, .int 0, .int 0, .int 0, .int 0, .int 0, .int 0, .int 0, .int (-1), .ref a7, .ref a8, .int 0, .ref a9, .int 0, .ref a10, .ref a11, .ref a12, .ref a13, .ref a14, .int 0, .ref a15, .ref a16, .ref a17])), (a6, .inl (cy 1, 900, .inl (upd (upd (upd (upd (upd (upd (upd (upd (upd (upd (upd (upd (upd (upd (upd (upd (upd (upd (upd (fun _ => 0) 0 (((x0).toUInt32 >>> ((24 : Int32).toUInt32 &&& Int32.toUInt32 31)).toInt32 &&& 255)) 1 (((x0).toUInt32 >>> ((16 : Int32).toUInt32 &&& Int32.toUInt32 31)).toInt32 &&& 255)) 2 (((x0).toUInt32 >>> ((8 : Int32).toUInt32 &&& Int32.toUInt32 31)).toInt32 &&& 255)) 3 (((x0).toUInt32 >>> ((0 : Int32).toUInt32 &&& Int32.toUInt32 31)).toInt32 &&& 255)) 4 (((x1).toUInt32 >>> ((24 : Int32).toUInt32 &&& Int32.toUInt32 31)).toInt32 &&& 255)) 5 (((x1).toUInt32 >>> ((16 : Int32).toUInt32 &&& Int32.toUInt32 31)).toInt32 &&& 255)) 6 (((x1).toUInt32 >>> ((8 : Int32).toUInt32 &&& Int32.toUInt32 31)).toInt32 &&& 255)) 7 (((x1).toUInt32 >>> ((0 : Int32).toUInt32 &&& Int32.toUInt32 31)).toInt32 &&& 255)) 8 (((x2).toUInt32 >>> ((24 : Int32).toUInt32 &&& Int32.toUInt32 31)).toInt32 &&& 255)) 9 (((x2).toUInt32 >>> ((16 : Int32).toUInt32 &&& Int32.toUInt32 31)).toInt32 &&& 255)) 10 (((x2).toUInt32 >>> ((8 : Int32).toUInt32 &&& Int32.toUInt32 31)).toInt32 &&& 255)) 11 (((x2).toUInt32 >>> ((0 : Int32).toUInt32 &&& Int32.toUInt32 31)).toInt32 &&& 255)) 12 (((x3).toUInt32 >>> ((24 : Int32).toUInt32 &&& Int32.toUInt32 31)).toInt32 &&& 255)) 13 (((x3).toUInt32 >>> ((16 : Int32).toUInt32 &&& Int32.toUInt32 31)).toInt32 &&& 255)) 14 (((x3).toUInt32 >>> ((8 : Int32).toUInt32 &&& Int32.toUInt32 31)).toInt32 &&& 255)) 15 (((x3).toUInt32 >>> ((0 : Int32).toUInt32 &&& Int32.toUInt32 31)).toInt32 &&& 255)) 16 (((x4).toUInt32 >>> ((24 : Int32).toUInt32 &&& Int32.toUInt32 31)).toInt32 &&& 255)) 17 (((x4).toUInt32 >>> ((16 : Int32).toUInt32 &&& Int32.toUInt32 31)).toInt32 &&& 255)) 18 (((x4).toUInt32 >>> ((8 : Int32).toUInt32 &&& Int32.toUInt32 31)).toInt32 &&& 255))))] rfl dX12_feed_103 (fun H locs w => ?_)
  refine lv_aload_n C.1 C.2.1 dX12_feed_104 rfl (lv_at hl 2 rfl) ?_
  refine lv_dup C.1 C.2.1 dX12_feed_105 rfl ?_
  refine r_get C w 0 rfl rfl 7 (by decide) fl_RX12_74 (v := .int 18) rfl dX12_feed_106 ?_
  refine lv_iconst (v := 1) C.1 C.2.1 dX12_feed_109 (by decide) ?_
  refine r_iadd C (v := 19) dX12_feed_110 (by decide) ?_
  refine r_put C w 0 rfl rfl 7 (by decide) fl_RX12_74 rfl (ty := .int) (tyX12_ok 7 (by decide)) rfl rfl (Nat.le_of_ble_eq_true rfl) [(a0, .inr (12, [.ref a1, .ref a2, .ref a3, .ref a4, .ref a5, .int 0, .ref a6, .int 19, .int 0, .int 0, .int 0, .int 0, .int 0, .int 0, .int 0, .int 0, .int 0, .int (-1), .ref a7, .ref a8, .int 0, .ref a9, .int 0, .ref a10, .ref a11, .ref a12, .ref a13, .ref a14, .int 0, .ref a15, .ref a16, .ref a17])), (a6, .inl (cy 1, 900, .inl (upd (upd (upd (upd (upd (upd (upd (upd (upd (upd (upd (upd (upd (upd (upd (upd (upd (upd (upd (fun _ => 0) 0 (((x0).toUInt32 >>> ((24 : Int32).toUInt32 &&& Int32.toUInt32 31)).toInt32 &&& 255)) 1 (((x0).toUInt32 >>> ((16 : Int32).toUInt32 &&& Int32.toUInt32 31)).toInt32 &&& 255)) 2 (((x0).toUInt32 >>> ((8 : Int32).toUInt32 &&& Int32.toUInt32 31)).toInt32 &&& 255)) 3 (((x0).toUInt32 >>> ((0 : Int32).toUInt32 &&& Int32.toUInt32 31)).toInt32 &&& 255)) 4 (((x1).toUInt32 >>> ((24 : Int32).toUInt32 &&& Int32.toUInt32 31)).toInt32 &&& 255)) 5 (((x1).toUInt32 >>> ((16 : Int32).toUInt32 &&& Int32.toUInt32 31)).toInt32 &&& 255)) 6 (((x1).toUInt32 >>> ((8 : Int32).toUInt32 &&& Int32.toUInt32 31)).toInt32 &&& 255)) 7 (((x1).toUInt32 >>> ((0 : Int32).toUInt32 &&& Int32.toUInt32 31)).toInt32 &&& 255)) 8 (((x2).toUInt32 >>> ((24 : Int32).toUInt32 &&& Int32.toUInt32 31)).toInt32 &&& 255)) 9 (((x2).toUInt32 >>> ((16 : Int32).toUInt32 &&& Int32.toUInt32 31)).toInt32 &&& 255)) 10 (((x2).toUInt32 >>> ((8 : Int32).toUInt32 &&& Int32.toUInt32 31)).toInt32 &&& 255)) 11 (((x2).toUInt32 >>> ((0 : Int32).toUInt32 &&& Int32.toUInt32 31)).toInt32 &&& 255)) 12 (((x3).toUInt32 >>> ((24 : Int32).toUInt32 &&& Int32.toUInt32 31)).toInt32 &&& 255)) 13 (((x3).toUInt32 >>> ((16 : Int32).toUInt32 &&& Int32.toUInt32 31)).toInt32 &&& 255)) 14 (((x3).toUInt32 >>> ((8 : Int32).toUInt32 &&& Int32.toUInt32 31)).toInt32 &&& 255)) 15 (((x3).toUInt32 >>> ((0 : Int32).toUInt32 &&& Int32.toUInt32 31)).toInt32 &&& 255)) 16 (((x4).toUInt32 >>> ((24 : Int32).toUInt32 &&& Int32.toUInt32 31)).toInt32 &&& 255)) 17 (((x4).toUInt32 >>> ((16 : Int32).toUInt32 &&& Int32.toUInt32 31)).toInt32 &&& 255)) 18 (((x4).toUInt32 >>> ((8 : Int32).toUInt32 &&& Int32.toUInt32 31)).toInt32 &&& 255))))] rfl dX12_feed_111 (fun H locs w => ?_)
  refine lv_iinc (v := 19) (lv' := [(6, .int 19), (7, .int x4), (0, .ref a0), (1, .int x0), (2, .int x1), (3, .int x2), (4, .int x3), (5, .int x4)]) C.1 C.2.1 dX12_feed_114 hl (k := 1) rfl (by decide) (by decide) rfl (fun ls hl => ?_)
  refine lv_goto (tgt := 23) C.1 C.2.1 dX12_feed_117 (by decide) ?_
  refine lv_iload C.1 C.2.1 dX12_feed_23 (lv_at hl 0 rfl) ?_
  refine lv_bipush (v := 20) C.1 C.2.1 dX12_feed_25 (by decide) ?_
  refine b_icmp_ge_f C (tgt := 120) dX12_feed_27 (by decide) (by decide) ?_
  refine lv_iload C.1 C.2.1 dX12_feed_30 (lv_at hl 0 rfl) ?_
  refine lv_iconst (v := 4) C.1 C.2.1 dX12_feed_32 (by decide) ?_
  refine b_icmp_ge_t C (tgt := 40) dX12_feed_33 (by decide) (by decide) ?_
  refine lv_iload C.1 C.2.1 dX12_feed_40 (lv_at hl 0 rfl) ?_
  refine lv_bipush (v := 8) C.1 C.2.1 dX12_feed_42 (by decide) ?_
  refine b_icmp_ge_t C (tgt := 51) dX12_feed_44 (by decide) (by decide) ?_
  refine lv_iload C.1 C.2.1 dX12_feed_51 (lv_at hl 0 rfl) ?_
  refine lv_bipush (v := 12) C.1 C.2.1 dX12_feed_53 (by decide) ?_
  refine b_icmp_ge_t C (tgt := 62) dX12_feed_55 (by decide) (by decide) ?_
  refine lv_iload C.1 C.2.1 dX12_feed_62 (lv_at hl 0 rfl) ?_
  refine lv_bipush (v := 16) C.1 C.2.1 dX12_feed_64 (by decide) ?_
  refine b_icmp_ge_t C (tgt := 74) dX12_feed_66 (by decide) (by decide) ?_
  refine lv_iload C.1 C.2.1 dX12_feed_74 (lv_at hl 7 rfl) ?_
  refine lv_istore (lv' := [(7, .int x4), (6, .int 19), (0, .ref a0), (1, .int x0), (2, .int x1), (3, .int x2), (4, .int x3), (5, .int x4)]) C.1 C.2.1 dX12_feed_76 hl (by decide) rfl (fun ls hl => ?_)
  refine lv_aload_n C.1 C.2.1 dX12_feed_78 rfl (lv_at hl 2 rfl) ?_
  refine r_get C w 0 rfl rfl 6 (by decide) fl_RX12_26 (v := .ref a6) rfl dX12_feed_79 ?_
  refine lv_aload_n C.1 C.2.1 dX12_feed_82 rfl (lv_at hl 2 rfl) ?_
  refine r_get C w 0 rfl rfl 7 (by decide) fl_RX12_74 (v := .int 19) rfl dX12_feed_83 ?_
  refine lv_iload C.1 C.2.1 dX12_feed_86 (lv_at hl 0 rfl) ?_
  refine lv_bipush (v := 24) C.1 C.2.1 dX12_feed_88 (by decide) ?_
  refine lv_bipush (v := 8) C.1 C.2.1 dX12_feed_90 (by decide) ?_
  refine lv_iload C.1 C.2.1 dX12_feed_92 (lv_at hl 1 rfl) ?_
  refine lv_iconst (v := 3) C.1 C.2.1 dX12_feed_94 (by decide) ?_
  refine r_iand C (v := 3) dX12_feed_95 (by decide) ?_
  refine r_imul C (v := 24) dX12_feed_96 (by decide) ?_
  refine r_isub C (v := 0) dX12_feed_97 (by decide) ?_
  refine lv_iushr (v := ((x4).toUInt32 >>> ((0 : Int32).toUInt32 &&& Int32.toUInt32 31)).toInt32) C.1 C.2.1 dX12_feed_98 rfl ?_
  refine lv_sipush (v := 255) C.1 C.2.1 dX12_feed_99 (by decide) ?_
  refine r_iand C (v := (((x4).toUInt32 >>> ((0 : Int32).toUInt32 &&& Int32.toUInt32 31)).toInt32 &&& 255)) dX12_feed_102 rfl ?_
  refine r_iast C w 1 rfl (vinD (by decide)) (upd (upd (upd (upd (upd (upd (upd (upd (upd (upd (upd (upd (upd (upd (upd (upd (upd (upd (upd (upd (fun _ => 0) 0 (((x0).toUInt32 >>> ((24 : Int32).toUInt32 &&& Int32.toUInt32 31)).toInt32 &&& 255)) 1 (((x0).toUInt32 >>> ((16 : Int32).toUInt32 &&& Int32.toUInt32 31)).toInt32 &&& 255)) 2 (((x0).toUInt32 >>> ((8 : Int32).toUInt32 &&& Int32.toUInt32 31)).toInt32 &&& 255)) 3 (((x0).toUInt32 >>> ((0 : Int32).toUInt32 &&& Int32.toUInt32 31)).toInt32 &&& 255)) 4 (((x1).toUInt32 >>> ((24 : Int32).toUInt32 &&& Int32.toUInt32 31)).toInt32 &&& 255)) 5 (((x1).toUInt32 >>> ((16 : Int32).toUInt32 &&& Int32.toUInt32 31)).toInt32 &&& 255)) 6 (((x1).toUInt32 >>> ((8 : Int32).toUInt32 &&& Int32.toUInt32 31)).toInt32 &&& 255)) 7 (((x1).toUInt32 >>> ((0 : Int32).toUInt32 &&& Int32.toUInt32 31)).toInt32 &&& 255)) 8 (((x2).toUInt32 >>> ((24 : Int32).toUInt32 &&& Int32.toUInt32 31)).toInt32 &&& 255)) 9 (((x2).toUInt32 >>> ((16 : Int32).toUInt32 &&& Int32.toUInt32 31)).toInt32 &&& 255)) 10 (((x2).toUInt32 >>> ((8 : Int32).toUInt32 &&& Int32.toUInt32 31)).toInt32 &&& 255)) 11 (((x2).toUInt32 >>> ((0 : Int32).toUInt32 &&& Int32.toUInt32 31)).toInt32 &&& 255)) 12 (((x3).toUInt32 >>> ((24 : Int32).toUInt32 &&& Int32.toUInt32 31)).toInt32 &&& 255)) 13 (((x3).toUInt32 >>> ((16 : Int32).toUInt32 &&& Int32.toUInt32 31)).toInt32 &&& 255)) 14 (((x3).toUInt32 >>> ((8 : Int32).toUInt32 &&& Int32.toUInt32 31)).toInt32 &&& 255)) 15 (((x3).toUInt32 >>> ((0 : Int32).toUInt32 &&& Int32.toUInt32 31)).toInt32 &&& 255)) 16 (((x4).toUInt32 >>> ((24 : Int32).toUInt32 &&& Int32.toUInt32 31)).toInt32 &&& 255)) 17 (((x4).toUInt32 >>> ((16 : Int32).toUInt32 &&& Int32.toUInt32 31)).toInt32 &&& 255)) 18 (((x4).toUInt32 >>> ((8 : Int32).toUInt32 &&& Int32.toUInt32 31)).toInt32 &&& 255)) 19 (((x4).toUInt32 >>> ((0 : Int32).toUInt32 &&& Int32.toUInt32 31)).toInt32 &&& 255)) rfl [(a0, .inr (12, [.ref a1, .ref a2, .ref a3, .ref a4, .ref a5, .int 0, .ref a6, .int 19, .int 0, .int 0, .int 0, .int 0, .int 0, .int 0, .int 0, .int 0, .int 0, .int (-1), .ref a7, .ref a8, .int 0, .ref a9, .int 0, .ref a10, .ref a11, .ref a12, .ref a13, .ref a14, .int 0, .ref a15, .ref a16, .ref a17])), (a6, .inl (cy 1, 900, .inl (upd (upd (upd (upd (upd (upd (upd (upd (upd (upd (upd (upd (upd (upd (upd (upd (upd (upd (upd (upd (fun _ => 0) 0 (((x0).toUInt32 >>> ((24 : Int32).toUInt32 &&& Int32.toUInt32 31)).toInt32 &&& 255)) 1 (((x0).toUInt32 >>> ((16 : Int32).toUInt32 &&& Int32.toUInt32 31)).toInt32 &&& 255)) 2 (((x0).toUInt32 >>> ((8 : Int32).toUInt32 &&& Int32.toUInt32 31)).toInt32 &&& 255)) 3 (((x0).toUInt32 >>> ((0 : Int32).toUInt32 &&& Int32.toUInt32 31)).toInt32 &&& 255)) 4 (((x1).toUInt32 >>> ((24 : Int32).toUInt32 &&& Int32.toUInt32 31)).toInt32 &&& 255)) 5 (((x1).toUInt32 >>> ((16 : Int32).toUInt32 &&& Int32.toUInt32 31)).toInt32 &&& 255)) 6 (((x1).toUInt32 >>> ((8 : Int32).toUInt32 &&& Int32.toUInt32 31)).toInt32 &&& 255)) 7 (((x1).toUInt32 >>> ((0 : Int32).toUInt32 &&& Int32.toUInt32 31)).toInt32 &&& 255)) 8 (((x2).toUInt32 >>> ((24 : Int32).toUInt32 &&& Int32.toUInt32 31)).toInt32 &&& 255)) 9 (((x2).toUInt32 >>> ((16 : Int32).toUInt32 &&& Int32.toUInt32 31)).toInt32 &&& 255)) 10 (((x2).toUInt32 >>> ((8 : Int32).toUInt32 &&& Int32.toUInt32 31)).toInt32 &&& 255)) 11 (((x2).toUInt32 >>> ((0 : Int32).toUInt32 &&& Int32.toUInt32 31)).toInt32 &&& 255)) 12 (((x3).toUInt32 >>> ((24 : Int32).toUInt32 &&& Int32.toUInt32 31)).toInt32 &&& 255)) 13 (((x3).toUInt32 >>> ((16 : Int32).toUInt32 &&& Int32.toUInt32 31)).toInt32 &&& 255)) 14 (((x3).toUInt32 >>> ((8 : Int32).toUInt32 &&& Int32.toUInt32 31)).toInt32 &&& 255)) 15 (((x3).toUInt32 >>> ((0 : Int32).toUInt32 &&& Int32.toUInt32 31)).toInt32 &&& 255)) 16 (((x4).toUInt32 >>> ((24 : Int32).toUInt32 &&& Int32.toUInt32 31)).toInt32 &&& 255)) 17 (((x4).toUInt32 >>> ((16 : Int32).toUInt32 &&& Int32.toUInt32 31)).toInt32 &&& 255)) 18 (((x4).toUInt32 >>> ((8 : Int32).toUInt32 &&& Int32.toUInt32 31)).toInt32 &&& 255)) 19 (((x4).toUInt32 >>> ((0 : Int32).toUInt32 &&& Int32.toUInt32 31)).toInt32 &&& 255))))] rfl dX12_feed_103 (fun H locs w => ?_)
  refine lv_aload_n C.1 C.2.1 dX12_feed_104 rfl (lv_at hl 2 rfl) ?_
  refine lv_dup C.1 C.2.1 dX12_feed_105 rfl ?_
  refine r_get C w 0 rfl rfl 7 (by decide) fl_RX12_74 (v := .int 19) rfl dX12_feed_106 ?_
  refine lv_iconst (v := 1) C.1 C.2.1 dX12_feed_109 (by decide) ?_
  refine r_iadd C (v := 20) dX12_feed_110 (by decide) ?_
  refine r_put C w 0 rfl rfl 7 (by decide) fl_RX12_74 rfl (ty := .int) (tyX12_ok 7 (by decide)) rfl rfl (Nat.le_of_ble_eq_true rfl) [(a0, .inr (12, [.ref a1, .ref a2, .ref a3, .ref a4, .ref a5, .int 0, .ref a6, .int 20, .int 0, .int 0, .int 0, .int 0, .int 0, .int 0, .int 0, .int 0, .int 0, .int (-1), .ref a7, .ref a8, .int 0, .ref a9, .int 0, .ref a10, .ref a11, .ref a12, .ref a13, .ref a14, .int 0, .ref a15, .ref a16, .ref a17])), (a6, .inl (cy 1, 900, .inl (upd (upd (upd (upd (upd (upd (upd (upd (upd (upd (upd (upd (upd (upd (upd (upd (upd (upd (upd (upd (fun _ => 0) 0 (((x0).toUInt32 >>> ((24 : Int32).toUInt32 &&& Int32.toUInt32 31)).toInt32 &&& 255)) 1 (((x0).toUInt32 >>> ((16 : Int32).toUInt32 &&& Int32.toUInt32 31)).toInt32 &&& 255)) 2 (((x0).toUInt32 >>> ((8 : Int32).toUInt32 &&& Int32.toUInt32 31)).toInt32 &&& 255)) 3 (((x0).toUInt32 >>> ((0 : Int32).toUInt32 &&& Int32.toUInt32 31)).toInt32 &&& 255)) 4 (((x1).toUInt32 >>> ((24 : Int32).toUInt32 &&& Int32.toUInt32 31)).toInt32 &&& 255)) 5 (((x1).toUInt32 >>> ((16 : Int32).toUInt32 &&& Int32.toUInt32 31)).toInt32 &&& 255)) 6 (((x1).toUInt32 >>> ((8 : Int32).toUInt32 &&& Int32.toUInt32 31)).toInt32 &&& 255)) 7 (((x1).toUInt32 >>> ((0 : Int32).toUInt32 &&& Int32.toUInt32 31)).toInt32 &&& 255)) 8 (((x2).toUInt32 >>> ((24 : Int32).toUInt32 &&& Int32.toUInt32 31)).toInt32 &&& 255)) 9 (((x2).toUInt32 >>> ((16 : Int32).toUInt32 &&& Int32.toUInt32 31)).toInt32 &&& 255)) 10 (((x2).toUInt32 >>> ((8 : Int32).toUInt32 &&& Int32.toUInt32 31)).toInt32 &&& 255)) 11 (((x2).toUInt32 >>> ((0 : Int32).toUInt32 &&& Int32.toUInt32 31)).toInt32 &&& 255)) 12 (((x3).toUInt32 >>> ((24 : Int32).toUInt32 &&& Int32.toUInt32 31)).toInt32 &&& 255)) 13 (((x3).toUInt32 >>> ((16 : Int32).toUInt32 &&& Int32.toUInt32 31)).toInt32 &&& 255)) 14 (((x3).toUInt32 >>> ((8 : Int32).toUInt32 &&& Int32.toUInt32 31)).toInt32 &&& 255)) 15 (((x3).toUInt32 >>> ((0 : Int32).toUInt32 &&& Int32.toUInt32 31)).toInt32 &&& 255)) 16 (((x4).toUInt32 >>> ((24 : Int32).toUInt32 &&& Int32.toUInt32 31)).toInt32 &&& 255)) 17 (((x4).toUInt32 >>> ((16 : Int32).toUInt32 &&& Int32.toUInt32 31)).toInt32 &&& 255)) 18 (((x4).toUInt32 >>> ((8 : Int32).toUInt32 &&& Int32.toUInt32 31)).toInt32 &&& 255)) 19 (((x4).toUInt32 >>> ((0 : Int32).toUInt32 &&& Int32.toUInt32 31)).toInt32 &&& 255))))] rfl dX12_feed_111 (fun H locs w => ?_)
  refine lv_iinc (v := 20) (lv' := [(6, .int 20), (7, .int x4), (0, .ref a0), (1, .int x0), (2, .int x1), (3, .int x2), (4, .int x3), (5, .int x4)]) C.1 C.2.1 dX12_feed_114 hl (k := 1) rfl (by decide) (by decide) rfl (fun ls hl => ?_)
  refine lv_goto (tgt := 23) C.1 C.2.1 dX12_feed_117 (by decide) ?_
  refine lv_iload C.1 C.2.1 dX12_feed_23 (lv_at hl 0 rfl) ?_
  refine lv_bipush (v := 20) C.1 C.2.1 dX12_feed_25 (by decide) ?_
  refine b_icmp_ge_t C (tgt := 120) dX12_feed_27 (by decide) (by decide) ?_
  refine lv_aload_n C.1 C.2.1 dX12_feed_120 rfl (lv_at hl 2 rfl) ?_
  refine r_get C w 0 rfl rfl 7 (by decide) fl_RX12_74 (v := .int 20) rfl dX12_feed_121 ?_
  exact r_iret C w hlocks () hr rfl rfl trivial [0, 1] rfl rfl ⟨Nat.le_of_ble_eq_true rfl, Nat.le_of_ble_eq_true rfl⟩ dX12_feed_124
theorem dX12_talk_0 : decode cX12_talk 0 = .ok (.aload_n 0, 1) := by decide +kernel
theorem dX12_talk_1 : decode cX12_talk 1 = .ok (.iconst 0, 1) := by decide +kernel
theorem dX12_talk_2 : decode cX12_talk 2 = .ok (.putfield 71, 3) := by decide +kernel
theorem dX12_talk_5 : decode cX12_talk 5 = .ok (.iload_n 1, 1) := by decide +kernel
theorem dX12_talk_6 : decode cX12_talk 6 = .ok (.i2l, 1) := by decide +kernel
theorem dX12_talk_7 : decode cX12_talk 7 = .ok (.lconst 0, 1) := by decide +kernel
theorem dX12_talk_8 : decode cX12_talk 8 = .ok (.aload_n 0, 1) := by decide +kernel
theorem dX12_talk_9 : decode cX12_talk 9 = .ok (.getfield 74, 3) := by decide +kernel
theorem dX12_talk_12 : decode cX12_talk 12 = .ok (.i2l, 1) := by decide +kernel
theorem dX12_talk_13 : decode cX12_talk 13 = .ok (.invokestatic 133, 3) := by decide +kernel
theorem dX12_within_0 : decode cX12_within 0 = .ok (.lload_n 0, 1) := by decide +kernel
theorem dX12_within_1 : decode cX12_within 1 = .ok (.lload_n 2, 1) := by decide +kernel
theorem dX12_within_2 : decode cX12_within 2 = .ok (.lcmp, 1) := by decide +kernel
theorem dX12_within_3 : decode cX12_within 3 = .ok (.ifCond .lt 14, 3) := by decide +kernel
theorem dX12_within_17 : decode cX12_within 17 = .ok (.iconst 0, 1) := by decide +kernel
theorem dX12_within_18 : decode cX12_within 18 = .ok (.ireturn, 1) := by decide +kernel
set_option maxRecDepth 100000 in
set_option maxHeartbeats 4000000 in
theorem c_X12_within_0 (l : Launch) (D : va_G) (cy : Nat → ClassId) (x0 : Int32) (k0 : x0 < 0) : Ct l D cy yX12_within cX12_within 6 (some .boolean) 0 0 0 0 [] [.long (Int32.toInt64 x0), .long 0, .long 0] (fun u : Unit => some (.int 0)) (fun _ => True) (fun u : Unit => []) := by
  refine Ct.of (by decide +kernel) (Nat.le_of_ble_eq_true rfl) ?_
  intro p e s m args below meth c A ls C hr hlocks hml hnm w hl
  have hl : lv_has ls 6 [(0, .long (Int32.toInt64 x0)), (2, .long 0), (4, .long 0)] := hl
  refine lv_lload_n C.1 C.2.1 dX12_within_0 rfl (lv_at hl 0 rfl) ?_
  refine lv_lload_n C.1 C.2.1 dX12_within_1 rfl (lv_at hl 1 rfl) ?_
  refine r_lcmp C (v := (lg_cmp (Int32.toInt64 x0) 0)) dX12_within_2 rfl ?_
  refine b_if_lt_t C (tgt := 17) dX12_within_3 (by decide) (cmp_lt (x := x0) (y := 0) k0) ?_
  refine lv_iconst (v := 0) C.1 C.2.1 dX12_within_17 (by decide) ?_
  exact r_iret C w hlocks () hr rfl rfl trivial [] rfl rfl ⟨Nat.le_of_ble_eq_true rfl, Nat.le_of_ble_eq_true rfl⟩ dX12_within_18
theorem dX12_within_6 : decode cX12_within 6 = .ok (.lload_n 0, 1) := by decide +kernel
theorem dX12_within_7 : decode cX12_within 7 = .ok (.lload 4, 2) := by decide +kernel
theorem dX12_within_9 : decode cX12_within 9 = .ok (.lcmp, 1) := by decide +kernel
theorem dX12_within_10 : decode cX12_within 10 = .ok (.ifCond .gt 7, 3) := by decide +kernel
set_option maxRecDepth 100000 in
set_option maxHeartbeats 4000000 in
theorem c_X12_within_1 (l : Launch) (D : va_G) (cy : Nat → ClassId) (x0 : Int32) (k0 : ¬ x0 < 0) (k1 : 0 < x0) : Ct l D cy yX12_within cX12_within 6 (some .boolean) 0 0 0 0 [] [.long (Int32.toInt64 x0), .long 0, .long 0] (fun u : Unit => some (.int 0)) (fun _ => True) (fun u : Unit => []) := by
  refine Ct.of (by decide +kernel) (Nat.le_of_ble_eq_true rfl) ?_
  intro p e s m args below meth c A ls C hr hlocks hml hnm w hl
  have hl : lv_has ls 6 [(0, .long (Int32.toInt64 x0)), (2, .long 0), (4, .long 0)] := hl
  refine lv_lload_n C.1 C.2.1 dX12_within_0 rfl (lv_at hl 0 rfl) ?_
  refine lv_lload_n C.1 C.2.1 dX12_within_1 rfl (lv_at hl 1 rfl) ?_
  refine r_lcmp C (v := (lg_cmp (Int32.toInt64 x0) 0)) dX12_within_2 rfl ?_
  refine b_if_lt_f C (tgt := 17) dX12_within_3 (by decide) (cmp_nlt (x := x0) (y := 0) k0) ?_
  refine lv_lload_n C.1 C.2.1 dX12_within_6 rfl (lv_at hl 0 rfl) ?_
  refine lv_lload C.1 C.2.1 dX12_within_7 (lv_at hl 2 rfl) ?_
  refine r_lcmp C (v := (lg_cmp (Int32.toInt64 x0) 0)) dX12_within_9 rfl ?_
  refine b_if_gt_t C (tgt := 17) dX12_within_10 (by decide) (cmp_gt (x := x0) (y := 0) k1) ?_
  refine lv_iconst (v := 0) C.1 C.2.1 dX12_within_17 (by decide) ?_
  exact r_iret C w hlocks () hr rfl rfl trivial [] rfl rfl ⟨Nat.le_of_ble_eq_true rfl, Nat.le_of_ble_eq_true rfl⟩ dX12_within_18
theorem dX12_within_13 : decode cX12_within 13 = .ok (.iconst 1, 1) := by decide +kernel
theorem dX12_within_14 : decode cX12_within 14 = .ok (.goto 4, 3) := by decide +kernel
set_option maxRecDepth 100000 in
set_option maxHeartbeats 4000000 in
theorem c_X12_within_2 (l : Launch) (D : va_G) (cy : Nat → ClassId) : Ct l D cy yX12_within cX12_within 6 (some .boolean) 0 0 0 0 [] [.long 0, .long 0, .long 0] (fun u : Unit => some (.int 1)) (fun _ => True) (fun u : Unit => []) := by
  refine Ct.of (by decide +kernel) (Nat.le_of_ble_eq_true rfl) ?_
  intro p e s m args below meth c A ls C hr hlocks hml hnm w hl
  have hl : lv_has ls 6 [(0, .long 0), (2, .long 0), (4, .long 0)] := hl
  refine lv_lload_n C.1 C.2.1 dX12_within_0 rfl (lv_at hl 0 rfl) ?_
  refine lv_lload_n C.1 C.2.1 dX12_within_1 rfl (lv_at hl 1 rfl) ?_
  refine r_lcmp C (v := 0) dX12_within_2 (by decide) ?_
  refine b_if_lt_f C (tgt := 17) dX12_within_3 (by decide) (by decide) ?_
  refine lv_lload_n C.1 C.2.1 dX12_within_6 rfl (lv_at hl 0 rfl) ?_
  refine lv_lload C.1 C.2.1 dX12_within_7 (lv_at hl 2 rfl) ?_
  refine r_lcmp C (v := 0) dX12_within_9 (by decide) ?_
  refine b_if_gt_f C (tgt := 17) dX12_within_10 (by decide) (by decide) ?_
  refine lv_iconst (v := 1) C.1 C.2.1 dX12_within_13 (by decide) ?_
  refine lv_goto (tgt := 18) C.1 C.2.1 dX12_within_14 (by decide) ?_
  exact r_iret C w hlocks () hr rfl rfl trivial [] rfl rfl ⟨Nat.le_of_ble_eq_true rfl, Nat.le_of_ble_eq_true rfl⟩ dX12_within_18
theorem fs_RX12_133 : FS RX12 133 yX12_within cX12_within 6 (some .boolean) 3 := ⟨⟨gw_mem (by decide +kernel) (by decide +kernel), gw_mem (by decide +kernel) (by decide +kernel), gw_mem (by decide +kernel) (by decide +kernel), gw_mem (by decide +kernel) (by decide +kernel)⟩, ⟨by decide +kernel, by decide +kernel, by decide +kernel⟩⟩
theorem dX12_talk_16 : decode cX12_talk 16 = .ok (.ifCond .ne 9, 3) := by decide +kernel
theorem dX12_talk_19 : decode cX12_talk 19 = .ok (.aload_n 0, 1) := by decide +kernel
theorem dX12_talk_20 : decode cX12_talk 20 = .ok (.iconst 1, 1) := by decide +kernel
theorem dX12_talk_21 : decode cX12_talk 21 = .ok (.invokevirtual 237, 3) := by decide +kernel
theorem dX12_fails_0 : decode cX12_fails 0 = .ok (.aload_n 0, 1) := by decide +kernel
theorem dX12_fails_1 : decode cX12_fails 1 = .ok (.iload_n 1, 1) := by decide +kernel
theorem dX12_fails_2 : decode cX12_fails 2 = .ok (.putfield 71, 3) := by decide +kernel
theorem dX12_fails_5 : decode cX12_fails 5 = .ok (.iconst 0, 1) := by decide +kernel
theorem dX12_fails_6 : decode cX12_fails 6 = .ok (.ireturn, 1) := by decide +kernel
set_option maxRecDepth 100000 in
set_option maxHeartbeats 4000000 in
theorem c_X12_fails_0 (l : Launch) (D : va_G) (cy : Nat → ClassId) (a0 a1 a2 a3 a4 a5 a6 a7 a8 a9 a10 a11 a12 a13 a14 a15 a16 a17 : Nat) : Ct l D cy yX12_fails cX12_fails 2 (some .int) 0 0 0 0 [(a0, .inr (12, [.ref a1, .ref a2, .ref a3, .ref a4, .ref a5, .int 0, .ref a6, .int 0, .int 0, .int 0, .int 0, .int 0, .int 0, .int 0, .int 0, .int 0, .int 0, .int (-1), .ref a7, .ref a8, .int 0, .ref a9, .int 0, .ref a10, .ref a11, .ref a12, .ref a13, .ref a14, .int 0, .ref a15, .ref a16, .ref a17]))] [.ref a0, .int 1] (fun u : Unit => some (.int 0)) (fun _ => True) (fun u : Unit => [(a0, .inr (12, [.ref a1, .ref a2, .ref a3, .ref a4, .ref a5, .int 1, .ref a6, .int 0, .int 0, .int 0, .int 0, .int 0, .int 0, .int 0, .int 0, .int 0, .int 0, .int (-1), .ref a7, .ref a8, .int 0, .ref a9, .int 0, .ref a10, .ref a11, .ref a12, .ref a13, .ref a14, .int 0, .ref a15, .ref a16, .ref a17]))]) := by
  refine Ct.of (by decide +kernel) (Nat.le_of_ble_eq_true rfl) ?_
  intro p e s m args below meth c A ls C hr hlocks hml hnm w hl
  have hl : lv_has ls 2 [(0, .ref a0), (1, .int 1)] := hl
  refine lv_aload_n C.1 C.2.1 dX12_fails_0 rfl (lv_at hl 0 rfl) ?_
  refine lv_iload_n C.1 C.2.1 dX12_fails_1 rfl (lv_at hl 1 rfl) ?_
  refine r_put C w 0 rfl rfl 5 (by decide) fl_RX12_71 rfl (ty := .int) (tyX12_ok 5 (by decide)) rfl rfl (Nat.le_of_ble_eq_true rfl) [(a0, .inr (12, [.ref a1, .ref a2, .ref a3, .ref a4, .ref a5, .int 1, .ref a6, .int 0, .int 0, .int 0, .int 0, .int 0, .int 0, .int 0, .int 0, .int 0, .int 0, .int (-1), .ref a7, .ref a8, .int 0, .ref a9, .int 0, .ref a10, .ref a11, .ref a12, .ref a13, .ref a14, .int 0, .ref a15, .ref a16, .ref a17]))] rfl dX12_fails_2 (fun H locs w => ?_)
  refine lv_iconst (v := 0) C.1 C.2.1 dX12_fails_5 (by decide) ?_
  exact r_iret C w hlocks () hr rfl rfl trivial [0] rfl rfl ⟨Nat.le_of_ble_eq_true rfl, Nat.le_of_ble_eq_true rfl⟩ dX12_fails_6
theorem fv_RX12_237 : FV RX12 237 yX12_fails cX12_fails 2 (some .int) 1 := ⟨⟨gw_mem (by decide +kernel) (by decide +kernel), gw_mem (by decide +kernel) (by decide +kernel), gw_mem (by decide +kernel) (by decide +kernel), gw_mem (by decide +kernel) (by decide +kernel), gw_mem (by decide +kernel) (by decide +kernel)⟩, ⟨by decide +kernel, by decide +kernel, by decide +kernel⟩⟩
theorem dX12_talk_24 : decode cX12_talk 24 = .ok (.ireturn, 1) := by decide +kernel
set_option maxRecDepth 100000 in
set_option maxHeartbeats 4000000 in
theorem c_X12_talk_0 (l : Launch) (D : va_G) (cy : Nat → ClassId) (a0 a1 a2 a3 a4 a5 a6 a7 a8 a9 a10 a11 a12 a13 a14 a15 a16 a17 : Nat) (x0 : Int32) (k0 : x0 < 0) : Ct l D cy yX12_talk cX12_talk 2 (some .int) 1 25 0 0 [(a0, .inr (12, [.ref a1, .ref a2, .ref a3, .ref a4, .ref a5, .int 0, .ref a6, .int 0, .int 0, .int 0, .int 0, .int 0, .int 0, .int 0, .int 0, .int 0, .int 0, .int (-1), .ref a7, .ref a8, .int 0, .ref a9, .int 0, .ref a10, .ref a11, .ref a12, .ref a13, .ref a14, .int 0, .ref a15, .ref a16, .ref a17]))] [.ref a0, .int x0] (fun u : Unit => some (.int 0)) (fun _ => True) (fun u : Unit => [(a0, .inr (12, [.ref a1, .ref a2, .ref a3, .ref a4, .ref a5, .int 1, .ref a6, .int 0, .int 0, .int 0, .int 0, .int 0, .int 0, .int 0, .int 0, .int 0, .int 0, .int (-1), .ref a7, .ref a8, .int 0, .ref a9, .int 0, .ref a10, .ref a11, .ref a12, .ref a13, .ref a14, .int 0, .ref a15, .ref a16, .ref a17]))]) := by
  refine Ct.of (by decide +kernel) (Nat.le_of_ble_eq_true rfl) ?_
  intro p e s m args below meth c A ls C hr hlocks hml hnm w hl
  have hl : lv_has ls 2 [(0, .ref a0), (1, .int x0)] := hl
  refine lv_aload_n C.1 C.2.1 dX12_talk_0 rfl (lv_at hl 0 rfl) ?_
  refine lv_iconst (v := 0) C.1 C.2.1 dX12_talk_1 (by decide) ?_
  refine r_put C w 0 rfl rfl 5 (by decide) fl_RX12_71 rfl (ty := .int) (tyX12_ok 5 (by decide)) rfl rfl (Nat.le_of_ble_eq_true rfl) [(a0, .inr (12, [.ref a1, .ref a2, .ref a3, .ref a4, .ref a5, .int 0, .ref a6, .int 0, .int 0, .int 0, .int 0, .int 0, .int 0, .int 0, .int 0, .int 0, .int 0, .int (-1), .ref a7, .ref a8, .int 0, .ref a9, .int 0, .ref a10, .ref a11, .ref a12, .ref a13, .ref a14, .int 0, .ref a15, .ref a16, .ref a17]))] rfl dX12_talk_2 (fun H locs w => ?_)
  refine lv_iload_n C.1 C.2.1 dX12_talk_5 rfl (lv_at hl 1 rfl) ?_
  refine lv_i2l (v := (Int32.toInt64 x0)) C.1 C.2.1 dX12_talk_6 rfl ?_
  refine lv_lconst (v := 0) C.1 C.2.1 dX12_talk_7 (by decide) ?_
  refine lv_aload_n C.1 C.2.1 dX12_talk_8 rfl (lv_at hl 0 rfl) ?_
  refine r_get C w 0 rfl rfl 7 (by decide) fl_RX12_74 (v := .int 0) rfl dX12_talk_9 ?_
  refine lv_i2l (v := 0) C.1 C.2.1 dX12_talk_12 (by decide) ?_
  refine r_callS C w fs_RX12_133 (c_X12_within_0 l D cy x0 k0) (hl.1.trans hml.symm) [] [0] (wr := [(a0, .inr (12, [.ref a1, .ref a2, .ref a3, .ref a4, .ref a5, .int 0, .ref a6, .int 0, .int 0, .int 0, .int 0, .int 0, .int 0, .int 0, .int 0, .int 0, .int 0, .int (-1), .ref a7, .ref a8, .int 0, .ref a9, .int 0, .ref a10, .ref a11, .ref a12, .ref a13, .ref a14, .int 0, .ref a15, .ref a16, .ref a17]))]) ⟨rfl, rfl, rfl, rfl, by decide⟩ rfl rfl ⟨Nat.le_of_ble_eq_true rfl, Nat.le_of_ble_eq_true rfl, Nat.le_of_ble_eq_true rfl⟩ 0 0 ⟨rfl, rfl, Nat.le_of_ble_eq_true rfl, Nat.le_of_ble_eq_true rfl⟩ dX12_talk_13 (fun u H locs hp w => ?_)
  have w : Wd D A s.heap [(a0, .inr (12, [.ref a1, .ref a2, .ref a3, .ref a4, .ref a5, .int 0, .ref a6, .int 0, .int 0, .int 0, .int 0, .int 0, .int 0, .int 0, .int 0, .int 0, .int 0, .int (-1), .ref a7, .ref a8, .int 0, .ref a9, .int 0, .ref a10, .ref a11, .ref a12, .ref a13, .ref a14, .int 0, .ref a15, .ref a16, .ref a17]))] _ _ := w
  refine r_top (g2 := F0 m 16 ls [.int 0]) rfl ?_
  refine b_if_ne_f C (tgt := 25) dX12_talk_16 (by decide) (by decide) ?_
  refine lv_aload_n C.1 C.2.1 dX12_talk_19 rfl (lv_at hl 0 rfl) ?_
  refine lv_iconst (v := 1) C.1 C.2.1 dX12_talk_20 (by decide) ?_
  refine r_callV C w fv_RX12_237 (c_X12_fails_0 l D cy a0 a1 a2 a3 a4 a5 a6 a7 a8 a9 a10 a11 a12 a13 a14 a15 a16 a17) (hl.1.trans hml.symm) [0] [] (wr := []) ⟨rfl, rfl, rfl, rfl, by decide⟩ 0 rfl rfl rfl rfl rfl ⟨Nat.le_of_ble_eq_true rfl, Nat.le_of_ble_eq_true rfl, Nat.le_of_ble_eq_true rfl⟩ 0 0 ⟨rfl, rfl, Nat.le_of_ble_eq_true rfl, Nat.le_of_ble_eq_true rfl⟩ dX12_talk_21 (fun u H locs hp w => ?_)
  have w : Wd D A s.heap [(a0, .inr (12, [.ref a1, .ref a2, .ref a3, .ref a4, .ref a5, .int 1, .ref a6, .int 0, .int 0, .int 0, .int 0, .int 0, .int 0, .int 0, .int 0, .int 0, .int 0, .int (-1), .ref a7, .ref a8, .int 0, .ref a9, .int 0, .ref a10, .ref a11, .ref a12, .ref a13, .ref a14, .int 0, .ref a15, .ref a16, .ref a17]))] _ _ := w
  refine r_top (g2 := F0 m 24 ls [.int 0]) rfl ?_
  exact r_iret C w hlocks () hr rfl rfl trivial [0] rfl rfl ⟨Nat.le_of_ble_eq_true rfl, Nat.le_of_ble_eq_true rfl⟩ dX12_talk_24
set_option maxRecDepth 100000 in
set_option maxHeartbeats 4000000 in
theorem c_X12_within_3 (l : Launch) (D : va_G) (cy : Nat → ClassId) : Ct l D cy yX12_within cX12_within 6 (some .boolean) 0 0 0 0 [] [.long 0, .long 0, .long 0] (fun u : Unit => some (.int 1)) (fun _ => True) (fun u : Unit => []) := by
  refine Ct.of (by decide +kernel) (Nat.le_of_ble_eq_true rfl) ?_
  intro p e s m args below meth c A ls C hr hlocks hml hnm w hl
  have hl : lv_has ls 6 [(0, .long 0), (2, .long 0), (4, .long 0)] := hl
  refine lv_lload_n C.1 C.2.1 dX12_within_0 rfl (lv_at hl 0 rfl) ?_
  refine lv_lload_n C.1 C.2.1 dX12_within_1 rfl (lv_at hl 1 rfl) ?_
  refine r_lcmp C (v := 0) dX12_within_2 (by decide) ?_
  refine b_if_lt_f C (tgt := 17) dX12_within_3 (by decide) (by decide) ?_
  refine lv_lload_n C.1 C.2.1 dX12_within_6 rfl (lv_at hl 0 rfl) ?_
  refine lv_lload C.1 C.2.1 dX12_within_7 (lv_at hl 2 rfl) ?_
  refine r_lcmp C (v := 0) dX12_within_9 (by decide) ?_
  refine b_if_gt_f C (tgt := 17) dX12_within_10 (by decide) (by decide) ?_
  refine lv_iconst (v := 1) C.1 C.2.1 dX12_within_13 (by decide) ?_
  refine lv_goto (tgt := 18) C.1 C.2.1 dX12_within_14 (by decide) ?_
  exact r_iret C w hlocks () hr rfl rfl trivial [] rfl rfl ⟨Nat.le_of_ble_eq_true rfl, Nat.le_of_ble_eq_true rfl⟩ dX12_within_18
theorem dX12_talk_25 : decode cX12_talk 25 = .ok (.aload_n 0, 1) := by decide +kernel
theorem dX12_talk_26 : decode cX12_talk 26 = .ok (.iload_n 1, 1) := by decide +kernel
theorem dX12_talk_27 : decode cX12_talk 27 = .ok (.putfield 77, 3) := by decide +kernel
theorem fl_RX12_77 : Cond.fieldLink RX12 77 "TwoSlipsModel" "size" "I" ∈ gw := gw_mem (by decide +kernel) (by decide +kernel)
theorem dX12_talk_30 : decode cX12_talk 30 = .ok (.aload_n 0, 1) := by decide +kernel
theorem dX12_talk_31 : decode cX12_talk 31 = .ok (.iconst 0, 1) := by decide +kernel
theorem dX12_talk_32 : decode cX12_talk 32 = .ok (.putfield 74, 3) := by decide +kernel
theorem dX12_talk_35 : decode cX12_talk 35 = .ok (.aload_n 0, 1) := by decide +kernel
theorem dX12_talk_36 : decode cX12_talk 36 = .ok (.iconst 0, 1) := by decide +kernel
theorem dX12_talk_37 : decode cX12_talk 37 = .ok (.putfield 80, 3) := by decide +kernel
theorem fl_RX12_80 : Cond.fieldLink RX12 80 "TwoSlipsModel" "at" "I" ∈ gw := gw_mem (by decide +kernel) (by decide +kernel)
theorem dX12_talk_40 : decode cX12_talk 40 = .ok (.aload_n 0, 1) := by decide +kernel
theorem dX12_talk_41 : decode cX12_talk 41 = .ok (.iconst 0, 1) := by decide +kernel
theorem dX12_talk_42 : decode cX12_talk 42 = .ok (.putfield 103, 3) := by decide +kernel
theorem fl_RX12_103 : Cond.fieldLink RX12 103 "TwoSlipsModel" "bad" "I" ∈ gw := gw_mem (by decide +kernel) (by decide +kernel)
theorem dX12_talk_45 : decode cX12_talk 45 = .ok (.aload_n 0, 1) := by decide +kernel
theorem dX12_talk_46 : decode cX12_talk 46 = .ok (.iconst 0, 1) := by decide +kernel
theorem dX12_talk_47 : decode cX12_talk 47 = .ok (.putfield 141, 3) := by decide +kernel
theorem fl_RX12_141 : Cond.fieldLink RX12 141 "TwoSlipsModel" "open" "I" ∈ gw := gw_mem (by decide +kernel) (by decide +kernel)
theorem dX12_talk_50 : decode cX12_talk 50 = .ok (.aload_n 0, 1) := by decide +kernel
theorem dX12_talk_51 : decode cX12_talk 51 = .ok (.getfield 13, 3) := by decide +kernel
theorem dX12_talk_54 : decode cX12_talk 54 = .ok (.invokestatic 67, 3) := by decide +kernel
theorem dX12_talk_57 : decode cX12_talk 57 = .ok (.aload_n 0, 1) := by decide +kernel
theorem dX12_talk_58 : decode cX12_talk 58 = .ok (.invokevirtual 123, 3) := by decide +kernel
theorem dX12_reads_0 : decode cX12_reads 0 = .ok (.aload_n 0, 1) := by decide +kernel
theorem dX12_reads_1 : decode cX12_reads 1 = .ok (.getfield 80, 3) := by decide +kernel
theorem dX12_reads_4 : decode cX12_reads 4 = .ok (.aload_n 0, 1) := by decide +kernel
theorem dX12_reads_5 : decode cX12_reads 5 = .ok (.getfield 77, 3) := by decide +kernel
theorem dX12_reads_8 : decode cX12_reads 8 = .ok (.if_icmp .ge 44, 3) := by decide +kernel
theorem dX12_reads_52 : decode cX12_reads 52 = .ok (.aload_n 0, 1) := by decide +kernel
theorem dX12_reads_53 : decode cX12_reads 53 = .ok (.aload_n 0, 1) := by decide +kernel
theorem dX12_reads_54 : decode cX12_reads 54 = .ok (.getfield 80, 3) := by decide +kernel
theorem dX12_reads_57 : decode cX12_reads 57 = .ok (.putfield 83, 3) := by decide +kernel
theorem fl_RX12_83 : Cond.fieldLink RX12 83 "TwoSlipsModel" "begin" "I" ∈ gw := gw_mem (by decide +kernel) (by decide +kernel)
theorem dX12_reads_60 : decode cX12_reads 60 = .ok (.aload_n 0, 1) := by decide +kernel
theorem dX12_reads_61 : decode cX12_reads 61 = .ok (.getfield 80, 3) := by decide +kernel
theorem dX12_reads_64 : decode cX12_reads 64 = .ok (.aload_n 0, 1) := by decide +kernel
theorem dX12_reads_65 : decode cX12_reads 65 = .ok (.getfield 77, 3) := by decide +kernel
theorem dX12_reads_68 : decode cX12_reads 68 = .ok (.if_icmp .lt 9, 3) := by decide +kernel
theorem dX12_reads_71 : decode cX12_reads 71 = .ok (.aload_n 0, 1) := by decide +kernel
theorem dX12_reads_72 : decode cX12_reads 72 = .ok (.iconst 0, 1) := by decide +kernel
theorem dX12_reads_73 : decode cX12_reads 73 = .ok (.putfield 86, 3) := by decide +kernel
theorem fl_RX12_86 : Cond.fieldLink RX12 86 "TwoSlipsModel" "token" "I" ∈ gw := gw_mem (by decide +kernel) (by decide +kernel)
theorem dX12_reads_76 : decode cX12_reads 76 = .ok (.return_, 1) := by decide +kernel
set_option maxRecDepth 100000 in
set_option maxHeartbeats 4000000 in
theorem c_X12_reads_0 (l : Launch) (D : va_G) (cy : Nat → ClassId) (a0 a1 a2 a3 a4 a5 a6 a7 a8 a9 a10 a11 a12 a13 a14 a15 a16 a17 : Nat) : Ct l D cy yX12_reads cX12_reads 2 none 0 0 0 0 [(a0, .inr (12, [.ref a1, .ref a2, .ref a3, .ref a4, .ref a5, .int 0, .ref a6, .int 0, .int 0, .int 0, .int 0, .int 0, .int 0, .int 0, .int 0, .int 0, .int 0, .int (-1), .ref a7, .ref a8, .int 0, .ref a9, .int 0, .ref a10, .ref a11, .ref a12, .ref a13, .ref a14, .int 0, .ref a15, .ref a16, .ref a17]))] [.ref a0] (fun u : Unit => none) (fun _ => True) (fun u : Unit => [(a0, .inr (12, [.ref a1, .ref a2, .ref a3, .ref a4, .ref a5, .int 0, .ref a6, .int 0, .int 0, .int 0, .int 0, .int 0, .int 0, .int 0, .int 0, .int 0, .int 0, .int (-1), .ref a7, .ref a8, .int 0, .ref a9, .int 0, .ref a10, .ref a11, .ref a12, .ref a13, .ref a14, .int 0, .ref a15, .ref a16, .ref a17]))]) := by
  refine Ct.of (by decide +kernel) (Nat.le_of_ble_eq_true rfl) ?_
  intro p e s m args below meth c A ls C hr hlocks hml hnm w hl
  have hl : lv_has ls 2 [(0, .ref a0)] := hl
  refine lv_aload_n C.1 C.2.1 dX12_reads_0 rfl (lv_at hl 0 rfl) ?_
  refine r_get C w 0 rfl rfl 9 (by decide) fl_RX12_80 (v := .int 0) rfl dX12_reads_1 ?_
  refine lv_aload_n C.1 C.2.1 dX12_reads_4 rfl (lv_at hl 0 rfl) ?_
  refine r_get C w 0 rfl rfl 8 (by decide) fl_RX12_77 (v := .int 0) rfl dX12_reads_5 ?_
  refine b_icmp_ge_t C (tgt := 52) dX12_reads_8 (by decide) (by decide) ?_
  refine lv_aload_n C.1 C.2.1 dX12_reads_52 rfl (lv_at hl 0 rfl) ?_
  refine lv_aload_n C.1 C.2.1 dX12_reads_53 rfl (lv_at hl 0 rfl) ?_
  refine r_get C w 0 rfl rfl 9 (by decide) fl_RX12_80 (v := .int 0) rfl dX12_reads_54 ?_
  refine r_put C w 0 rfl rfl 10 (by decide) fl_RX12_83 rfl (ty := .int) (tyX12_ok 10 (by decide)) rfl rfl (Nat.le_of_ble_eq_true rfl) [(a0, .inr (12, [.ref a1, .ref a2, .ref a3, .ref a4, .ref a5, .int 0, .ref a6, .int 0, .int 0, .int 0, .int 0, .int 0, .int 0, .int 0, .int 0, .int 0, .int 0, .int (-1), .ref a7, .ref a8, .int 0, .ref a9, .int 0, .ref a10, .ref a11, .ref a12, .ref a13, .ref a14, .int 0, .ref a15, .ref a16, .ref a17]))] rfl dX12_reads_57 (fun H locs w => ?_)
  refine lv_aload_n C.1 C.2.1 dX12_reads_60 rfl (lv_at hl 0 rfl) ?_
  refine r_get C w 0 rfl rfl 9 (by decide) fl_RX12_80 (v := .int 0) rfl dX12_reads_61 ?_
  refine lv_aload_n C.1 C.2.1 dX12_reads_64 rfl (lv_at hl 0 rfl) ?_
  refine r_get C w 0 rfl rfl 8 (by decide) fl_RX12_77 (v := .int 0) rfl dX12_reads_65 ?_
  refine b_icmp_lt_f C (tgt := 77) dX12_reads_68 (by decide) (by decide) ?_
  refine lv_aload_n C.1 C.2.1 dX12_reads_71 rfl (lv_at hl 0 rfl) ?_
  refine lv_iconst (v := 0) C.1 C.2.1 dX12_reads_72 (by decide) ?_
  refine r_put C w 0 rfl rfl 11 (by decide) fl_RX12_86 rfl (ty := .int) (tyX12_ok 11 (by decide)) rfl rfl (Nat.le_of_ble_eq_true rfl) [(a0, .inr (12, [.ref a1, .ref a2, .ref a3, .ref a4, .ref a5, .int 0, .ref a6, .int 0, .int 0, .int 0, .int 0, .int 0, .int 0, .int 0, .int 0, .int 0, .int 0, .int (-1), .ref a7, .ref a8, .int 0, .ref a9, .int 0, .ref a10, .ref a11, .ref a12, .ref a13, .ref a14, .int 0, .ref a15, .ref a16, .ref a17]))] rfl dX12_reads_73 (fun H locs w => ?_)
  exact r_vret C w hlocks () hr rfl trivial [0] rfl rfl ⟨Nat.le_of_ble_eq_true rfl, Nat.le_of_ble_eq_true rfl⟩ dX12_reads_76
theorem fv_RX12_123 : FV RX12 123 yX12_reads cX12_reads 2 none 0 := ⟨⟨gw_mem (by decide +kernel) (by decide +kernel), gw_mem (by decide +kernel) (by decide +kernel), gw_mem (by decide +kernel) (by decide +kernel), gw_mem (by decide +kernel) (by decide +kernel), gw_mem (by decide +kernel) (by decide +kernel)⟩, ⟨by decide +kernel, by decide +kernel, by decide +kernel⟩⟩
theorem dX12_talk_61 : decode cX12_talk 61 = .ok (.aload_n 0, 1) := by decide +kernel
theorem dX12_talk_62 : decode cX12_talk 62 = .ok (.getfield 103, 3) := by decide +kernel
theorem dX12_talk_65 : decode cX12_talk 65 = .ok (.ifCond .ne 17, 3) := by decide +kernel
theorem dX12_talk_68 : decode cX12_talk 68 = .ok (.aload_n 0, 1) := by decide +kernel
theorem dX12_talk_69 : decode cX12_talk 69 = .ok (.getfield 86, 3) := by decide +kernel
theorem dX12_talk_72 : decode cX12_talk 72 = .ok (.ifCond .eq 10, 3) := by decide +kernel
theorem dX12_talk_82 : decode cX12_talk 82 = .ok (.aload_n 0, 1) := by decide +kernel
theorem dX12_talk_83 : decode cX12_talk 83 = .ok (.aload_n 0, 1) := by decide +kernel
theorem dX12_talk_84 : decode cX12_talk 84 = .ok (.getfield 103, 3) := by decide +kernel
theorem dX12_talk_87 : decode cX12_talk 87 = .ok (.putfield 243, 3) := by decide +kernel
theorem fl_RX12_243 : Cond.fieldLink RX12 243 "TwoSlipsModel" "faultKind" "I" ∈ gw := gw_mem (by decide +kernel) (by decide +kernel)
theorem dX12_talk_90 : decode cX12_talk 90 = .ok (.aload_n 0, 1) := by decide +kernel
theorem dX12_talk_91 : decode cX12_talk 91 = .ok (.aload_n 0, 1) := by decide +kernel
theorem dX12_talk_92 : decode cX12_talk 92 = .ok (.getfield 103, 3) := by decide +kernel
theorem dX12_talk_95 : decode cX12_talk 95 = .ok (.ifCond .ne 7, 3) := by decide +kernel
theorem dX12_talk_98 : decode cX12_talk 98 = .ok (.iconst (-1), 1) := by decide +kernel
theorem dX12_talk_99 : decode cX12_talk 99 = .ok (.goto 7, 3) := by decide +kernel
theorem dX12_talk_106 : decode cX12_talk 106 = .ok (.putfield 29, 3) := by decide +kernel
theorem dX12_talk_109 : decode cX12_talk 109 = .ok (.aload_n 0, 1) := by decide +kernel
theorem dX12_talk_110 : decode cX12_talk 110 = .ok (.getfield 103, 3) := by decide +kernel
theorem dX12_talk_113 : decode cX12_talk 113 = .ok (.ifCond .eq 11, 3) := by decide +kernel
theorem dX12_talk_124 : decode cX12_talk 124 = .ok (.aload_n 0, 1) := by decide +kernel
theorem dX12_talk_125 : decode cX12_talk 125 = .ok (.getfield 13, 3) := by decide +kernel
theorem dX12_talk_128 : decode cX12_talk 128 = .ok (.aload_n 0, 1) := by decide +kernel
theorem dX12_talk_129 : decode cX12_talk 129 = .ok (.getfield 9, 3) := by decide +kernel
theorem dX12_talk_132 : decode cX12_talk 132 = .ok (.invokestatic 246, 3) := by decide +kernel
theorem dX12_copies_0 : decode cX12_copies 0 = .ok (.iconst 0, 1) := by decide +kernel
theorem dX12_copies_1 : decode cX12_copies 1 = .ok (.istore_n 2, 1) := by decide +kernel
theorem dX12_copies_2 : decode cX12_copies 2 = .ok (.iload_n 2, 1) := by decide +kernel
theorem dX12_copies_3 : decode cX12_copies 3 = .ok (.sipush 1868, 3) := by decide +kernel
theorem dX12_copies_6 : decode cX12_copies 6 = .ok (.if_icmp .ge 15, 3) := by decide +kernel
theorem dX12_copies_9 : decode cX12_copies 9 = .ok (.aload_n 1, 1) := by decide +kernel
theorem dX12_copies_10 : decode cX12_copies 10 = .ok (.iload_n 2, 1) := by decide +kernel
theorem dX12_copies_11 : decode cX12_copies 11 = .ok (.aload_n 0, 1) := by decide +kernel
theorem dX12_copies_12 : decode cX12_copies 12 = .ok (.iload_n 2, 1) := by decide +kernel
theorem dX12_copies_13 : decode cX12_copies 13 = .ok (.iaload, 1) := by decide +kernel
theorem dX12_copies_14 : decode cX12_copies 14 = .ok (.iastore, 1) := by decide +kernel
theorem dX12_copies_15 : decode cX12_copies 15 = .ok (.iinc 2 1, 3) := by decide +kernel
theorem dX12_copies_18 : decode cX12_copies 18 = .ok (.goto (-16), 3) := by decide +kernel
set_option maxRecDepth 100000 in
set_option maxHeartbeats 4000000 in
theorem lp_X12_copies_1 {p : Program} {l : Launch} {e : Env} {R : Room} {s : State} {m : MethodId} {args : Array Value} {below : List Frame} {meth : Method} {c : Code} {cells slots : Nat} {Q : State → Prop} {D : va_G} {cy : Nat → ClassId} {A : Nat → Prop} {H : Heap} {locs : List Loc} {ls : Array Slot} (a0 a1 : Nat) (F G : Nat → Int32) (hFG : ∀ j, 1868 ≤ j → F j = G j) (C : Cx p s m args c cX12_copies RX12 D cy A) (hml : c.maxLocals = 3) (w : Wd D A s.heap [(a0, .inl (cy 1, 1868, .inl (F))), (a1, .inl (cy 1, 1868, .inl (G)))] H locs) (hl : lv_has ls 3 [(0, .ref a0), (1, .ref a1), (2, .int 0)])
    (kk : ∀ (H : Heap) (locs : List Loc) (ls : Array Slot), Wd D A s.heap [(a0, .inl (cy 1, 1868, .inl (F))), (a1, .inl (cy 1, 1868, .inl (F)))] H locs → lv_has ls 3 [(0, .ref a0), (1, .ref a1)] → W p l e R s m args below meth c H locs cells slots Q (F0 m 21 ls [])) : W p l e R s m args below meth c H locs cells slots Q (F0 m 2 ls []) := by
  have lp : ∀ (k n : Nat) (i : Int32) (H : Heap) (locs : List Loc) (ls : Array Slot), n + k = 1868 → i = nI n → Wd D A s.heap [(a0, .inl (cy 1, 1868, .inl (F))), (a1, .inl (cy 1, 1868, .inl (fun j => if j < n then F j else G j)))] H locs → lv_has ls 3 [(0, .ref a0), (1, .ref a1), (2, .int i)] → W p l e R s m args below meth c H locs cells slots Q (F0 m 2 ls []) := by
    intro k
    induction k with
    | zero =>
      intro n i H locs ls h4 ei w hl
      have hx : n = 1868 := by omega
      subst hx
      have c1 : (1868 : Int32) ≤ i := by rw [ei]; decide
      refine lv_iload_n C.1 C.2.1 dX12_copies_2 rfl (lv_at hl 2 rfl) ?_
      refine lv_sipush (v := 1868) C.1 C.2.1 dX12_copies_3 (by decide) ?_
      refine b_icmp_ge_t C (tgt := 21) dX12_copies_6 (by decide) c1 ?_
      rw [cp_all hFG] at w
      exact kk _ _ _ w (lv_sub hl [0, 1] rfl)
    | succ k ih =>
      intro n i H locs ls h4 ei w hl
      have c1 : ¬ (1868 : Int32) ≤ i := by rw [ei]; exact nI_ge (b := 1868) (by omega) (by decide)
      have hin : vp_in i 1868 := by rw [ei]; exact vp_in_nI (by omega) (by decide)
      have hst : upd (fun j => if j < n then F j else G j) i.toNatClampNeg (F i.toNatClampNeg) = fun j => if j < n + 1 then F j else G j := by rw [ei]; exact cp_step (by omega)
      refine lv_iload_n C.1 C.2.1 dX12_copies_2 rfl (lv_at hl 2 rfl) ?_
      refine lv_sipush (v := 1868) C.1 C.2.1 dX12_copies_3 (by decide) ?_
      refine b_icmp_ge_f C (tgt := 21) dX12_copies_6 (by decide) c1 ?_
      refine lv_aload_n C.1 C.2.1 dX12_copies_9 rfl (lv_at hl 1 rfl) ?_
      refine lv_iload_n C.1 C.2.1 dX12_copies_10 rfl (lv_at hl 2 rfl) ?_
      refine lv_aload_n C.1 C.2.1 dX12_copies_11 rfl (lv_at hl 0 rfl) ?_
      refine lv_iload_n C.1 C.2.1 dX12_copies_12 rfl (lv_at hl 2 rfl) ?_
      refine r_iald C w 0 rfl (v := (F i.toNatClampNeg)) hin rfl dX12_copies_13 ?_
      refine r_iast C w 1 rfl hin (fun j => if j < n + 1 then F j else G j) hst [(a0, .inl (cy 1, 1868, .inl (F))), (a1, .inl (cy 1, 1868, .inl (fun j => if j < n + 1 then F j else G j)))] rfl dX12_copies_14 (fun H locs w => ?_)
      refine lv_iinc (v := (i + 1)) (lv' := [(2, .int (i + 1)), (0, .ref a0), (1, .ref a1)]) C.1 C.2.1 dX12_copies_15 hl (k := 2) rfl rfl (by decide) rfl (fun ls hl => ?_)
      refine lv_goto (tgt := 2) C.1 C.2.1 dX12_copies_18 (by decide) ?_
      exact ih (n + 1) (i + 1) _ _ _ (by omega) (by rw [ei]; exact nI_1 _) w (lv_sub hl [1, 2, 0] rfl)
  refine lp 1868 0 0 _ _ _ rfl rfl ?_ hl
  have e0 : (fun j => if j < 0 then F j else G j) = G := by
    funext j
    exact if_neg (Nat.not_lt_zero j)
  rw [e0]
  exact w
theorem dX12_copies_21 : decode cX12_copies 21 = .ok (.return_, 1) := by decide +kernel
set_option maxRecDepth 100000 in
set_option maxHeartbeats 4000000 in
theorem c_X12_copies_0 (l : Launch) (D : va_G) (cy : Nat → ClassId) (a0 a1 : Nat) : Ct l D cy yX12_copies cX12_copies 3 none 0 0 0 0 [(a0, .inl (cy 1, 1868, .inl (upd (upd (upd (fun _ => 0) 1 2) 2 20) 3 120))), (a1, .inl (cy 1, 1868, .inl (upd (upd (upd (fun _ => 0) 1 2) 2 20) 3 120)))] [.ref a0, .ref a1] (fun u : Unit => none) (fun _ => True) (fun u : Unit => [(a0, .inl (cy 1, 1868, .inl (upd (upd (upd (fun _ => 0) 1 2) 2 20) 3 120))), (a1, .inl (cy 1, 1868, .inl (upd (upd (upd (fun _ => 0) 1 2) 2 20) 3 120)))]) := by
  refine Ct.of (by decide +kernel) (Nat.le_of_ble_eq_true rfl) ?_
  intro p e s m args below meth c A ls C hr hlocks hml hnm w hl
  have hl : lv_has ls 3 [(0, .ref a0), (1, .ref a1)] := hl
  refine lv_iconst (v := 0) C.1 C.2.1 dX12_copies_0 (by decide) ?_
  refine lv_istore_n (lv' := [(2, .int 0), (0, .ref a0), (1, .ref a1)]) C.1 C.2.1 dX12_copies_1 rfl hl (by decide) rfl (fun ls hl => ?_)
  refine lp_X12_copies_1 a0 a1 (upd (upd (upd (fun _ => 0) 1 2) 2 20) 3 120) (upd (upd (upd (fun _ => 0) 1 2) 2 20) 3 120) (fun _ _ => rfl) C hml (w.re rfl) (lv_sub hl [1, 2, 0] rfl) (fun H locs ls w hl => ?_)
  have w : Wd D A s.heap [(a0, .inl (cy 1, 1868, .inl (upd (upd (upd (fun _ => 0) 1 2) 2 20) 3 120))), (a1, .inl (cy 1, 1868, .inl (upd (upd (upd (fun _ => 0) 1 2) 2 20) 3 120)))] _ _ := w
  exact r_vret C w hlocks () hr rfl trivial [0, 1] rfl rfl ⟨Nat.le_of_ble_eq_true rfl, Nat.le_of_ble_eq_true rfl⟩ dX12_copies_21
theorem fs_RX12_246 : FS RX12 246 yX12_copies cX12_copies 3 none 2 := ⟨⟨gw_mem (by decide +kernel) (by decide +kernel), gw_mem (by decide +kernel) (by decide +kernel), gw_mem (by decide +kernel) (by decide +kernel), gw_mem (by decide +kernel) (by decide +kernel)⟩, ⟨by decide +kernel, by decide +kernel, by decide +kernel⟩⟩
theorem dX12_talk_135 : decode cX12_talk 135 = .ok (.aload_n 0, 1) := by decide +kernel
theorem dX12_talk_136 : decode cX12_talk 136 = .ok (.getfield 9, 3) := by decide +kernel
theorem dX12_talk_139 : decode cX12_talk 139 = .ok (.iconst 0, 1) := by decide +kernel
theorem dX12_talk_140 : decode cX12_talk 140 = .ok (.iaload, 1) := by decide +kernel
theorem dX12_talk_141 : decode cX12_talk 141 = .ok (.ireturn, 1) := by decide +kernel
set_option maxRecDepth 100000 in
set_option maxHeartbeats 4000000 in
theorem c_X12_talk_1 (l : Launch) (D : va_G) (cy : Nat → ClassId) (a0 a1 a2 a3 a4 a5 a6 a7 a8 a9 a10 a11 a12 a13 a14 a15 a16 a17 : Nat) : Ct l D cy yX12_talk cX12_talk 2 (some .int) 1 25 0 0 [(a0, .inr (12, [.ref a1, .ref a2, .ref a3, .ref a4, .ref a5, .int 0, .ref a6, .int 0, .int 0, .int 0, .int 0, .int 0, .int 0, .int 0, .int 0, .int 0, .int 0, .int (-1), .ref a7, .ref a8, .int 0, .ref a9, .int 0, .ref a10, .ref a11, .ref a12, .ref a13, .ref a14, .int 0, .ref a15, .ref a16, .ref a17])), (a1, .inl (cy 1, 1868, .inl (upd (upd (upd (fun _ => 0) 1 2) 2 20) 3 120))), (a2, .inl (cy 1, 1868, .inl (fun _ => 0)))] [.ref a0, .int 0] (fun u : Unit => some (.int 0)) (fun _ => True) (fun u : Unit => [(a0, .inr (12, [.ref a1, .ref a2, .ref a3, .ref a4, .ref a5, .int 0, .ref a6, .int 0, .int 0, .int 0, .int 0, .int 0, .int 0, .int 0, .int 0, .int 0, .int 0, .int (-1), .ref a7, .ref a8, .int 0, .ref a9, .int 0, .ref a10, .ref a11, .ref a12, .ref a13, .ref a14, .int 0, .ref a15, .ref a16, .ref a17])), (a2, .inl (cy 1, 1868, .inl (upd (upd (upd (fun _ => 0) 1 2) 2 20) 3 120))), (a1, .inl (cy 1, 1868, .inl (upd (upd (upd (fun _ => 0) 1 2) 2 20) 3 120)))]) := by
  refine Ct.of (by decide +kernel) (Nat.le_of_ble_eq_true rfl) ?_
  intro p e s m args below meth c A ls C hr hlocks hml hnm w hl
  have hl : lv_has ls 2 [(0, .ref a0), (1, .int 0)] := hl
  refine lv_aload_n C.1 C.2.1 dX12_talk_0 rfl (lv_at hl 0 rfl) ?_
  refine lv_iconst (v := 0) C.1 C.2.1 dX12_talk_1 (by decide) ?_
  refine r_put C w 0 rfl rfl 5 (by decide) fl_RX12_71 rfl (ty := .int) (tyX12_ok 5 (by decide)) rfl rfl (Nat.le_of_ble_eq_true rfl) [(a0, .inr (12, [.ref a1, .ref a2, .ref a3, .ref a4, .ref a5, .int 0, .ref a6, .int 0, .int 0, .int 0, .int 0, .int 0, .int 0, .int 0, .int 0, .int 0, .int 0, .int (-1), .ref a7, .ref a8, .int 0, .ref a9, .int 0, .ref a10, .ref a11, .ref a12, .ref a13, .ref a14, .int 0, .ref a15, .ref a16, .ref a17])), (a1, .inl (cy 1, 1868, .inl (upd (upd (upd (fun _ => 0) 1 2) 2 20) 3 120))), (a2, .inl (cy 1, 1868, .inl (fun _ => 0)))] rfl dX12_talk_2 (fun H locs w => ?_)
  refine lv_iload_n C.1 C.2.1 dX12_talk_5 rfl (lv_at hl 1 rfl) ?_
  refine lv_i2l (v := 0) C.1 C.2.1 dX12_talk_6 (by decide) ?_
  refine lv_lconst (v := 0) C.1 C.2.1 dX12_talk_7 (by decide) ?_
  refine lv_aload_n C.1 C.2.1 dX12_talk_8 rfl (lv_at hl 0 rfl) ?_
  refine r_get C w 0 rfl rfl 7 (by decide) fl_RX12_74 (v := .int 0) rfl dX12_talk_9 ?_
  refine lv_i2l (v := 0) C.1 C.2.1 dX12_talk_12 (by decide) ?_
  refine r_callS C w fs_RX12_133 (c_X12_within_3 l D cy) (hl.1.trans hml.symm) [] [0, 1, 2] (wr := [(a0, .inr (12, [.ref a1, .ref a2, .ref a3, .ref a4, .ref a5, .int 0, .ref a6, .int 0, .int 0, .int 0, .int 0, .int 0, .int 0, .int 0, .int 0, .int 0, .int 0, .int (-1), .ref a7, .ref a8, .int 0, .ref a9, .int 0, .ref a10, .ref a11, .ref a12, .ref a13, .ref a14, .int 0, .ref a15, .ref a16, .ref a17])), (a1, .inl (cy 1, 1868, .inl (upd (upd (upd (fun _ => 0) 1 2) 2 20) 3 120))), (a2, .inl (cy 1, 1868, .inl (fun _ => 0)))]) ⟨rfl, rfl, rfl, rfl, by decide⟩ rfl rfl ⟨Nat.le_of_ble_eq_true rfl, Nat.le_of_ble_eq_true rfl, Nat.le_of_ble_eq_true rfl⟩ 0 0 ⟨rfl, rfl, Nat.le_of_ble_eq_true rfl, Nat.le_of_ble_eq_true rfl⟩ dX12_talk_13 (fun u H locs hp w => ?_)
  have w : Wd D A s.heap [(a0, .inr (12, [.ref a1, .ref a2, .ref a3, .ref a4, .ref a5, .int 0, .ref a6, .int 0, .int 0, .int 0, .int 0, .int 0, .int 0, .int 0, .int 0, .int 0, .int 0, .int (-1), .ref a7, .ref a8, .int 0, .ref a9, .int 0, .ref a10, .ref a11, .ref a12, .ref a13, .ref a14, .int 0, .ref a15, .ref a16, .ref a17])), (a1, .inl (cy 1, 1868, .inl (upd (upd (upd (fun _ => 0) 1 2) 2 20) 3 120))), (a2, .inl (cy 1, 1868, .inl (fun _ => 0)))] _ _ := w
  refine r_top (g2 := F0 m 16 ls [.int 1]) rfl ?_
  refine b_if_ne_t C (tgt := 25) dX12_talk_16 (by decide) (by decide) ?_
  refine lv_aload_n C.1 C.2.1 dX12_talk_25 rfl (lv_at hl 0 rfl) ?_
  refine lv_iload_n C.1 C.2.1 dX12_talk_26 rfl (lv_at hl 1 rfl) ?_
  refine r_put C w 0 rfl rfl 8 (by decide) fl_RX12_77 rfl (ty := .int) (tyX12_ok 8 (by decide)) rfl rfl (Nat.le_of_ble_eq_true rfl) [(a0, .inr (12, [.ref a1, .ref a2, .ref a3, .ref a4, .ref a5, .int 0, .ref a6, .int 0, .int 0, .int 0, .int 0, .int 0, .int 0, .int 0, .int 0, .int 0, .int 0, .int (-1), .ref a7, .ref a8, .int 0, .ref a9, .int 0, .ref a10, .ref a11, .ref a12, .ref a13, .ref a14, .int 0, .ref a15, .ref a16, .ref a17])), (a1, .inl (cy 1, 1868, .inl (upd (upd (upd (fun _ => 0) 1 2) 2 20) 3 120))), (a2, .inl (cy 1, 1868, .inl (fun _ => 0)))] rfl dX12_talk_27 (fun H locs w => ?_)
  refine lv_aload_n C.1 C.2.1 dX12_talk_30 rfl (lv_at hl 0 rfl) ?_
  refine lv_iconst (v := 0) C.1 C.2.1 dX12_talk_31 (by decide) ?_
  refine r_put C w 0 rfl rfl 7 (by decide) fl_RX12_74 rfl (ty := .int) (tyX12_ok 7 (by decide)) rfl rfl (Nat.le_of_ble_eq_true rfl) [(a0, .inr (12, [.ref a1, .ref a2, .ref a3, .ref a4, .ref a5, .int 0, .ref a6, .int 0, .int 0, .int 0, .int 0, .int 0, .int 0, .int 0, .int 0, .int 0, .int 0, .int (-1), .ref a7, .ref a8, .int 0, .ref a9, .int 0, .ref a10, .ref a11, .ref a12, .ref a13, .ref a14, .int 0, .ref a15, .ref a16, .ref a17])), (a1, .inl (cy 1, 1868, .inl (upd (upd (upd (fun _ => 0) 1 2) 2 20) 3 120))), (a2, .inl (cy 1, 1868, .inl (fun _ => 0)))] rfl dX12_talk_32 (fun H locs w => ?_)
  refine lv_aload_n C.1 C.2.1 dX12_talk_35 rfl (lv_at hl 0 rfl) ?_
  refine lv_iconst (v := 0) C.1 C.2.1 dX12_talk_36 (by decide) ?_
  refine r_put C w 0 rfl rfl 9 (by decide) fl_RX12_80 rfl (ty := .int) (tyX12_ok 9 (by decide)) rfl rfl (Nat.le_of_ble_eq_true rfl) [(a0, .inr (12, [.ref a1, .ref a2, .ref a3, .ref a4, .ref a5, .int 0, .ref a6, .int 0, .int 0, .int 0, .int 0, .int 0, .int 0, .int 0, .int 0, .int 0, .int 0, .int (-1), .ref a7, .ref a8, .int 0, .ref a9, .int 0, .ref a10, .ref a11, .ref a12, .ref a13, .ref a14, .int 0, .ref a15, .ref a16, .ref a17])), (a1, .inl (cy 1, 1868, .inl (upd (upd (upd (fun _ => 0) 1 2) 2 20) 3 120))), (a2, .inl (cy 1, 1868, .inl (fun _ => 0)))] rfl dX12_talk_37 (fun H locs w => ?_)
  refine lv_aload_n C.1 C.2.1 dX12_talk_40 rfl (lv_at hl 0 rfl) ?_
  refine lv_iconst (v := 0) C.1 C.2.1 dX12_talk_41 (by decide) ?_
  refine r_put C w 0 rfl rfl 14 (by decide) fl_RX12_103 rfl (ty := .int) (tyX12_ok 14 (by decide)) rfl rfl (Nat.le_of_ble_eq_true rfl) [(a0, .inr (12, [.ref a1, .ref a2, .ref a3, .ref a4, .ref a5, .int 0, .ref a6, .int 0, .int 0, .int 0, .int 0, .int 0, .int 0, .int 0, .int 0, .int 0, .int 0, .int (-1), .ref a7, .ref a8, .int 0, .ref a9, .int 0, .ref a10, .ref a11, .ref a12, .ref a13, .ref a14, .int 0, .ref a15, .ref a16, .ref a17])), (a1, .inl (cy 1, 1868, .inl (upd (upd (upd (fun _ => 0) 1 2) 2 20) 3 120))), (a2, .inl (cy 1, 1868, .inl (fun _ => 0)))] rfl dX12_talk_42 (fun H locs w => ?_)
  refine lv_aload_n C.1 C.2.1 dX12_talk_45 rfl (lv_at hl 0 rfl) ?_
  refine lv_iconst (v := 0) C.1 C.2.1 dX12_talk_46 (by decide) ?_
  refine r_put C w 0 rfl rfl 13 (by decide) fl_RX12_141 rfl (ty := .int) (tyX12_ok 13 (by decide)) rfl rfl (Nat.le_of_ble_eq_true rfl) [(a0, .inr (12, [.ref a1, .ref a2, .ref a3, .ref a4, .ref a5, .int 0, .ref a6, .int 0, .int 0, .int 0, .int 0, .int 0, .int 0, .int 0, .int 0, .int 0, .int 0, .int (-1), .ref a7, .ref a8, .int 0, .ref a9, .int 0, .ref a10, .ref a11, .ref a12, .ref a13, .ref a14, .int 0, .ref a15, .ref a16, .ref a17])), (a1, .inl (cy 1, 1868, .inl (upd (upd (upd (fun _ => 0) 1 2) 2 20) 3 120))), (a2, .inl (cy 1, 1868, .inl (fun _ => 0)))] rfl dX12_talk_47 (fun H locs w => ?_)
  refine lv_aload_n C.1 C.2.1 dX12_talk_50 rfl (lv_at hl 0 rfl) ?_
  refine r_get C w 0 rfl rfl 1 (by decide) fl_RX12_13 (v := .ref a2) rfl dX12_talk_51 ?_
  refine r_callS C w fs_RX12_67 (c_X12_begins_0 l D cy a2) (hl.1.trans hml.symm) [2] [0, 1] (wr := [(a0, .inr (12, [.ref a1, .ref a2, .ref a3, .ref a4, .ref a5, .int 0, .ref a6, .int 0, .int 0, .int 0, .int 0, .int 0, .int 0, .int 0, .int 0, .int 0, .int 0, .int (-1), .ref a7, .ref a8, .int 0, .ref a9, .int 0, .ref a10, .ref a11, .ref a12, .ref a13, .ref a14, .int 0, .ref a15, .ref a16, .ref a17])), (a1, .inl (cy 1, 1868, .inl (upd (upd (upd (fun _ => 0) 1 2) 2 20) 3 120)))]) ⟨rfl, rfl, rfl, rfl, by decide⟩ rfl rfl ⟨Nat.le_of_ble_eq_true rfl, Nat.le_of_ble_eq_true rfl, Nat.le_of_ble_eq_true rfl⟩ 0 0 ⟨rfl, rfl, Nat.le_of_ble_eq_true rfl, Nat.le_of_ble_eq_true rfl⟩ dX12_talk_54 (fun u H locs hp w => ?_)
  have w : Wd D A s.heap [(a0, .inr (12, [.ref a1, .ref a2, .ref a3, .ref a4, .ref a5, .int 0, .ref a6, .int 0, .int 0, .int 0, .int 0, .int 0, .int 0, .int 0, .int 0, .int 0, .int 0, .int (-1), .ref a7, .ref a8, .int 0, .ref a9, .int 0, .ref a10, .ref a11, .ref a12, .ref a13, .ref a14, .int 0, .ref a15, .ref a16, .ref a17])), (a1, .inl (cy 1, 1868, .inl (upd (upd (upd (fun _ => 0) 1 2) 2 20) 3 120))), (a2, .inl (cy 1, 1868, .inl (upd (upd (upd (fun _ => 0) 1 2) 2 20) 3 120)))] _ _ := w
  refine r_top (g2 := F0 m 57 ls []) rfl ?_
  refine lv_aload_n C.1 C.2.1 dX12_talk_57 rfl (lv_at hl 0 rfl) ?_
  refine r_callV C w fv_RX12_123 (c_X12_reads_0 l D cy a0 a1 a2 a3 a4 a5 a6 a7 a8 a9 a10 a11 a12 a13 a14 a15 a16 a17) (hl.1.trans hml.symm) [0] [1, 2] (wr := [(a1, .inl (cy 1, 1868, .inl (upd (upd (upd (fun _ => 0) 1 2) 2 20) 3 120))), (a2, .inl (cy 1, 1868, .inl (upd (upd (upd (fun _ => 0) 1 2) 2 20) 3 120)))]) ⟨rfl, rfl, rfl, rfl, by decide⟩ 0 rfl rfl rfl rfl rfl ⟨Nat.le_of_ble_eq_true rfl, Nat.le_of_ble_eq_true rfl, Nat.le_of_ble_eq_true rfl⟩ 0 0 ⟨rfl, rfl, Nat.le_of_ble_eq_true rfl, Nat.le_of_ble_eq_true rfl⟩ dX12_talk_58 (fun u H locs hp w => ?_)
  have w : Wd D A s.heap [(a1, .inl (cy 1, 1868, .inl (upd (upd (upd (fun _ => 0) 1 2) 2 20) 3 120))), (a2, .inl (cy 1, 1868, .inl (upd (upd (upd (fun _ => 0) 1 2) 2 20) 3 120))), (a0, .inr (12, [.ref a1, .ref a2, .ref a3, .ref a4, .ref a5, .int 0, .ref a6, .int 0, .int 0, .int 0, .int 0, .int 0, .int 0, .int 0, .int 0, .int 0, .int 0, .int (-1), .ref a7, .ref a8, .int 0, .ref a9, .int 0, .ref a10, .ref a11, .ref a12, .ref a13, .ref a14, .int 0, .ref a15, .ref a16, .ref a17]))] _ _ := w
  refine r_top (g2 := F0 m 61 ls []) rfl ?_
  refine lv_aload_n C.1 C.2.1 dX12_talk_61 rfl (lv_at hl 0 rfl) ?_
  refine r_get C w 2 rfl rfl 14 (by decide) fl_RX12_103 (v := .int 0) rfl dX12_talk_62 ?_
  refine b_if_ne_f C (tgt := 82) dX12_talk_65 (by decide) (by decide) ?_
  refine lv_aload_n C.1 C.2.1 dX12_talk_68 rfl (lv_at hl 0 rfl) ?_
  refine r_get C w 2 rfl rfl 11 (by decide) fl_RX12_86 (v := .int 0) rfl dX12_talk_69 ?_
  refine b_if_eq_t C (tgt := 82) dX12_talk_72 (by decide) (by decide) ?_
  refine lv_aload_n C.1 C.2.1 dX12_talk_82 rfl (lv_at hl 0 rfl) ?_
  refine lv_aload_n C.1 C.2.1 dX12_talk_83 rfl (lv_at hl 0 rfl) ?_
  refine r_get C w 2 rfl rfl 14 (by decide) fl_RX12_103 (v := .int 0) rfl dX12_talk_84 ?_
  refine r_put C w 2 rfl rfl 16 (by decide) fl_RX12_243 rfl (ty := .int) (tyX12_ok 16 (by decide)) rfl rfl (Nat.le_of_ble_eq_true rfl) [(a1, .inl (cy 1, 1868, .inl (upd (upd (upd (fun _ => 0) 1 2) 2 20) 3 120))), (a2, .inl (cy 1, 1868, .inl (upd (upd (upd (fun _ => 0) 1 2) 2 20) 3 120))), (a0, .inr (12, [.ref a1, .ref a2, .ref a3, .ref a4, .ref a5, .int 0, .ref a6, .int 0, .int 0, .int 0, .int 0, .int 0, .int 0, .int 0, .int 0, .int 0, .int 0, .int (-1), .ref a7, .ref a8, .int 0, .ref a9, .int 0, .ref a10, .ref a11, .ref a12, .ref a13, .ref a14, .int 0, .ref a15, .ref a16, .ref a17]))] rfl dX12_talk_87 (fun H locs w => ?_)
  refine lv_aload_n C.1 C.2.1 dX12_talk_90 rfl (lv_at hl 0 rfl) ?_
  refine lv_aload_n C.1 C.2.1 dX12_talk_91 rfl (lv_at hl 0 rfl) ?_
  refine r_get C w 2 rfl rfl 14 (by decide) fl_RX12_103 (v := .int 0) rfl dX12_talk_92 ?_
  refine b_if_ne_f C (tgt := 102) dX12_talk_95 (by decide) (by decide) ?_
  refine lv_iconst (v := (-1)) C.1 C.2.1 dX12_talk_98 (by decide) ?_
  refine lv_goto (tgt := 106) C.1 C.2.1 dX12_talk_99 (by decide) ?_
  refine r_put C w 2 rfl rfl 17 (by decide) fl_RX12_29 rfl (ty := .int) (tyX12_ok 17 (by decide)) rfl rfl (Nat.le_of_ble_eq_true rfl) [(a1, .inl (cy 1, 1868, .inl (upd (upd (upd (fun _ => 0) 1 2) 2 20) 3 120))), (a2, .inl (cy 1, 1868, .inl (upd (upd (upd (fun _ => 0) 1 2) 2 20) 3 120))), (a0, .inr (12, [.ref a1, .ref a2, .ref a3, .ref a4, .ref a5, .int 0, .ref a6, .int 0, .int 0, .int 0, .int 0, .int 0, .int 0, .int 0, .int 0, .int 0, .int 0, .int (-1), .ref a7, .ref a8, .int 0, .ref a9, .int 0, .ref a10, .ref a11, .ref a12, .ref a13, .ref a14, .int 0, .ref a15, .ref a16, .ref a17]))] rfl dX12_talk_106 (fun H locs w => ?_)
  refine lv_aload_n C.1 C.2.1 dX12_talk_109 rfl (lv_at hl 0 rfl) ?_
  refine r_get C w 2 rfl rfl 14 (by decide) fl_RX12_103 (v := .int 0) rfl dX12_talk_110 ?_
  refine b_if_eq_t C (tgt := 124) dX12_talk_113 (by decide) (by decide) ?_
  refine lv_aload_n C.1 C.2.1 dX12_talk_124 rfl (lv_at hl 0 rfl) ?_
  refine r_get C w 2 rfl rfl 1 (by decide) fl_RX12_13 (v := .ref a2) rfl dX12_talk_125 ?_
  refine lv_aload_n C.1 C.2.1 dX12_talk_128 rfl (lv_at hl 0 rfl) ?_
  refine r_get C w 2 rfl rfl 0 (by decide) fl_RX12_9 (v := .ref a1) rfl dX12_talk_129 ?_
  refine r_callS C w fs_RX12_246 (c_X12_copies_0 l D cy a2 a1) (hl.1.trans hml.symm) [1, 0] [2] (wr := [(a0, .inr (12, [.ref a1, .ref a2, .ref a3, .ref a4, .ref a5, .int 0, .ref a6, .int 0, .int 0, .int 0, .int 0, .int 0, .int 0, .int 0, .int 0, .int 0, .int 0, .int (-1), .ref a7, .ref a8, .int 0, .ref a9, .int 0, .ref a10, .ref a11, .ref a12, .ref a13, .ref a14, .int 0, .ref a15, .ref a16, .ref a17]))]) ⟨rfl, rfl, rfl, rfl, by decide⟩ rfl rfl ⟨Nat.le_of_ble_eq_true rfl, Nat.le_of_ble_eq_true rfl, Nat.le_of_ble_eq_true rfl⟩ 0 0 ⟨rfl, rfl, Nat.le_of_ble_eq_true rfl, Nat.le_of_ble_eq_true rfl⟩ dX12_talk_132 (fun u H locs hp w => ?_)
  have w : Wd D A s.heap [(a0, .inr (12, [.ref a1, .ref a2, .ref a3, .ref a4, .ref a5, .int 0, .ref a6, .int 0, .int 0, .int 0, .int 0, .int 0, .int 0, .int 0, .int 0, .int 0, .int 0, .int (-1), .ref a7, .ref a8, .int 0, .ref a9, .int 0, .ref a10, .ref a11, .ref a12, .ref a13, .ref a14, .int 0, .ref a15, .ref a16, .ref a17])), (a2, .inl (cy 1, 1868, .inl (upd (upd (upd (fun _ => 0) 1 2) 2 20) 3 120))), (a1, .inl (cy 1, 1868, .inl (upd (upd (upd (fun _ => 0) 1 2) 2 20) 3 120)))] _ _ := w
  refine r_top (g2 := F0 m 135 ls []) rfl ?_
  refine lv_aload_n C.1 C.2.1 dX12_talk_135 rfl (lv_at hl 0 rfl) ?_
  refine r_get C w 0 rfl rfl 0 (by decide) fl_RX12_9 (v := .ref a1) rfl dX12_talk_136 ?_
  refine lv_iconst (v := 0) C.1 C.2.1 dX12_talk_139 (by decide) ?_
  refine r_iald C w 2 rfl (v := 0) (vinD (by decide)) rfl dX12_talk_140 ?_
  exact r_iret C w hlocks () hr rfl rfl trivial [0, 1, 2] rfl rfl ⟨Nat.le_of_ble_eq_true rfl, Nat.le_of_ble_eq_true rfl⟩ dX12_talk_141
set_option maxRecDepth 100000 in
set_option maxHeartbeats 4000000 in
theorem c_X12_talk_2 (l : Launch) (D : va_G) (cy : Nat → ClassId) (a0 a1 a2 a3 a4 a5 a6 a7 a8 a9 a10 a11 a12 a13 a14 a15 a16 a17 : Nat) (x0 : Int32) (k0 : ¬ x0 < 0) (k1 : 0 < x0) : Ct l D cy yX12_talk cX12_talk 2 (some .int) 1 25 0 0 [(a0, .inr (12, [.ref a1, .ref a2, .ref a3, .ref a4, .ref a5, .int 0, .ref a6, .int 0, .int 0, .int 0, .int 0, .int 0, .int 0, .int 0, .int 0, .int 0, .int 0, .int (-1), .ref a7, .ref a8, .int 0, .ref a9, .int 0, .ref a10, .ref a11, .ref a12, .ref a13, .ref a14, .int 0, .ref a15, .ref a16, .ref a17]))] [.ref a0, .int x0] (fun u : Unit => some (.int 0)) (fun _ => True) (fun u : Unit => [(a0, .inr (12, [.ref a1, .ref a2, .ref a3, .ref a4, .ref a5, .int 1, .ref a6, .int 0, .int 0, .int 0, .int 0, .int 0, .int 0, .int 0, .int 0, .int 0, .int 0, .int (-1), .ref a7, .ref a8, .int 0, .ref a9, .int 0, .ref a10, .ref a11, .ref a12, .ref a13, .ref a14, .int 0, .ref a15, .ref a16, .ref a17]))]) := by
  refine Ct.of (by decide +kernel) (Nat.le_of_ble_eq_true rfl) ?_
  intro p e s m args below meth c A ls C hr hlocks hml hnm w hl
  have hl : lv_has ls 2 [(0, .ref a0), (1, .int x0)] := hl
  refine lv_aload_n C.1 C.2.1 dX12_talk_0 rfl (lv_at hl 0 rfl) ?_
  refine lv_iconst (v := 0) C.1 C.2.1 dX12_talk_1 (by decide) ?_
  refine r_put C w 0 rfl rfl 5 (by decide) fl_RX12_71 rfl (ty := .int) (tyX12_ok 5 (by decide)) rfl rfl (Nat.le_of_ble_eq_true rfl) [(a0, .inr (12, [.ref a1, .ref a2, .ref a3, .ref a4, .ref a5, .int 0, .ref a6, .int 0, .int 0, .int 0, .int 0, .int 0, .int 0, .int 0, .int 0, .int 0, .int 0, .int (-1), .ref a7, .ref a8, .int 0, .ref a9, .int 0, .ref a10, .ref a11, .ref a12, .ref a13, .ref a14, .int 0, .ref a15, .ref a16, .ref a17]))] rfl dX12_talk_2 (fun H locs w => ?_)
  refine lv_iload_n C.1 C.2.1 dX12_talk_5 rfl (lv_at hl 1 rfl) ?_
  refine lv_i2l (v := (Int32.toInt64 x0)) C.1 C.2.1 dX12_talk_6 rfl ?_
  refine lv_lconst (v := 0) C.1 C.2.1 dX12_talk_7 (by decide) ?_
  refine lv_aload_n C.1 C.2.1 dX12_talk_8 rfl (lv_at hl 0 rfl) ?_
  refine r_get C w 0 rfl rfl 7 (by decide) fl_RX12_74 (v := .int 0) rfl dX12_talk_9 ?_
  refine lv_i2l (v := 0) C.1 C.2.1 dX12_talk_12 (by decide) ?_
  refine r_callS C w fs_RX12_133 (c_X12_within_1 l D cy x0 k0 k1) (hl.1.trans hml.symm) [] [0] (wr := [(a0, .inr (12, [.ref a1, .ref a2, .ref a3, .ref a4, .ref a5, .int 0, .ref a6, .int 0, .int 0, .int 0, .int 0, .int 0, .int 0, .int 0, .int 0, .int 0, .int 0, .int (-1), .ref a7, .ref a8, .int 0, .ref a9, .int 0, .ref a10, .ref a11, .ref a12, .ref a13, .ref a14, .int 0, .ref a15, .ref a16, .ref a17]))]) ⟨rfl, rfl, rfl, rfl, by decide⟩ rfl rfl ⟨Nat.le_of_ble_eq_true rfl, Nat.le_of_ble_eq_true rfl, Nat.le_of_ble_eq_true rfl⟩ 0 0 ⟨rfl, rfl, Nat.le_of_ble_eq_true rfl, Nat.le_of_ble_eq_true rfl⟩ dX12_talk_13 (fun u H locs hp w => ?_)
  have w : Wd D A s.heap [(a0, .inr (12, [.ref a1, .ref a2, .ref a3, .ref a4, .ref a5, .int 0, .ref a6, .int 0, .int 0, .int 0, .int 0, .int 0, .int 0, .int 0, .int 0, .int 0, .int 0, .int (-1), .ref a7, .ref a8, .int 0, .ref a9, .int 0, .ref a10, .ref a11, .ref a12, .ref a13, .ref a14, .int 0, .ref a15, .ref a16, .ref a17]))] _ _ := w
  refine r_top (g2 := F0 m 16 ls [.int 0]) rfl ?_
  refine b_if_ne_f C (tgt := 25) dX12_talk_16 (by decide) (by decide) ?_
  refine lv_aload_n C.1 C.2.1 dX12_talk_19 rfl (lv_at hl 0 rfl) ?_
  refine lv_iconst (v := 1) C.1 C.2.1 dX12_talk_20 (by decide) ?_
  refine r_callV C w fv_RX12_237 (c_X12_fails_0 l D cy a0 a1 a2 a3 a4 a5 a6 a7 a8 a9 a10 a11 a12 a13 a14 a15 a16 a17) (hl.1.trans hml.symm) [0] [] (wr := []) ⟨rfl, rfl, rfl, rfl, by decide⟩ 0 rfl rfl rfl rfl rfl ⟨Nat.le_of_ble_eq_true rfl, Nat.le_of_ble_eq_true rfl, Nat.le_of_ble_eq_true rfl⟩ 0 0 ⟨rfl, rfl, Nat.le_of_ble_eq_true rfl, Nat.le_of_ble_eq_true rfl⟩ dX12_talk_21 (fun u H locs hp w => ?_)
  have w : Wd D A s.heap [(a0, .inr (12, [.ref a1, .ref a2, .ref a3, .ref a4, .ref a5, .int 1, .ref a6, .int 0, .int 0, .int 0, .int 0, .int 0, .int 0, .int 0, .int 0, .int 0, .int 0, .int (-1), .ref a7, .ref a8, .int 0, .ref a9, .int 0, .ref a10, .ref a11, .ref a12, .ref a13, .ref a14, .int 0, .ref a15, .ref a16, .ref a17]))] _ _ := w
  refine r_top (g2 := F0 m 24 ls [.int 0]) rfl ?_
  exact r_iret C w hlocks () hr rfl rfl trivial [0] rfl rfl ⟨Nat.le_of_ble_eq_true rfl, Nat.le_of_ble_eq_true rfl⟩ dX12_talk_24
theorem dX12_fault_0 : decode cX12_fault 0 = .ok (.aload_n 0, 1) := by decide +kernel
theorem dX12_fault_1 : decode cX12_fault 1 = .ok (.iconst 0, 1) := by decide +kernel
theorem dX12_fault_2 : decode cX12_fault 2 = .ok (.putfield 71, 3) := by decide +kernel
theorem dX12_fault_5 : decode cX12_fault 5 = .ok (.iload_n 1, 1) := by decide +kernel
theorem dX12_fault_6 : decode cX12_fault 6 = .ok (.ifCond .ne 10, 3) := by decide +kernel
theorem dX12_fault_16 : decode cX12_fault 16 = .ok (.iload_n 1, 1) := by decide +kernel
theorem dX12_fault_17 : decode cX12_fault 17 = .ok (.iconst 1, 1) := by decide +kernel
theorem dX12_fault_18 : decode cX12_fault 18 = .ok (.if_icmp .ne 10, 3) := by decide +kernel
theorem dX12_fault_28 : decode cX12_fault 28 = .ok (.iconst (-1), 1) := by decide +kernel
theorem dX12_fault_29 : decode cX12_fault 29 = .ok (.ireturn, 1) := by decide +kernel
set_option maxRecDepth 100000 in
set_option maxHeartbeats 4000000 in
theorem c_X12_fault_0 (l : Launch) (D : va_G) (cy : Nat → ClassId) (a0 a1 a2 a3 a4 a5 a6 a7 a8 a9 a10 a11 a12 a13 a14 a15 a16 a17 : Nat) (x0 : Int32) (k0 : ¬ x0 = 0) (k1 : ¬ x0 = 1) : Ct l D cy yX12_fault cX12_fault 2 (some .int) 0 0 0 0 [(a0, .inr (12, [.ref a1, .ref a2, .ref a3, .ref a4, .ref a5, .int 0, .ref a6, .int 0, .int 0, .int 0, .int 0, .int 0, .int 0, .int 0, .int 0, .int 0, .int 0, .int (-1), .ref a7, .ref a8, .int 0, .ref a9, .int 0, .ref a10, .ref a11, .ref a12, .ref a13, .ref a14, .int 0, .ref a15, .ref a16, .ref a17]))] [.ref a0, .int x0] (fun u : Unit => some (.int (-1))) (fun _ => True) (fun u : Unit => [(a0, .inr (12, [.ref a1, .ref a2, .ref a3, .ref a4, .ref a5, .int 0, .ref a6, .int 0, .int 0, .int 0, .int 0, .int 0, .int 0, .int 0, .int 0, .int 0, .int 0, .int (-1), .ref a7, .ref a8, .int 0, .ref a9, .int 0, .ref a10, .ref a11, .ref a12, .ref a13, .ref a14, .int 0, .ref a15, .ref a16, .ref a17]))]) := by
  refine Ct.of (by decide +kernel) (Nat.le_of_ble_eq_true rfl) ?_
  intro p e s m args below meth c A ls C hr hlocks hml hnm w hl
  have hl : lv_has ls 2 [(0, .ref a0), (1, .int x0)] := hl
  refine lv_aload_n C.1 C.2.1 dX12_fault_0 rfl (lv_at hl 0 rfl) ?_
  refine lv_iconst (v := 0) C.1 C.2.1 dX12_fault_1 (by decide) ?_
  refine r_put C w 0 rfl rfl 5 (by decide) fl_RX12_71 rfl (ty := .int) (tyX12_ok 5 (by decide)) rfl rfl (Nat.le_of_ble_eq_true rfl) [(a0, .inr (12, [.ref a1, .ref a2, .ref a3, .ref a4, .ref a5, .int 0, .ref a6, .int 0, .int 0, .int 0, .int 0, .int 0, .int 0, .int 0, .int 0, .int 0, .int 0, .int (-1), .ref a7, .ref a8, .int 0, .ref a9, .int 0, .ref a10, .ref a11, .ref a12, .ref a13, .ref a14, .int 0, .ref a15, .ref a16, .ref a17]))] rfl dX12_fault_2 (fun H locs w => ?_)
  refine lv_iload_n C.1 C.2.1 dX12_fault_5 rfl (lv_at hl 1 rfl) ?_
  refine b_if_ne_t C (tgt := 16) dX12_fault_6 (by decide) k0 ?_
  refine lv_iload_n C.1 C.2.1 dX12_fault_16 rfl (lv_at hl 1 rfl) ?_
  refine lv_iconst (v := 1) C.1 C.2.1 dX12_fault_17 (by decide) ?_
  refine b_icmp_ne_t C (tgt := 28) dX12_fault_18 (by decide) k1 ?_
  refine lv_iconst (v := (-1)) C.1 C.2.1 dX12_fault_28 (by decide) ?_
  exact r_iret C w hlocks () hr rfl rfl trivial [0] rfl rfl ⟨Nat.le_of_ble_eq_true rfl, Nat.le_of_ble_eq_true rfl⟩ dX12_fault_29
theorem dX12_fault_21 : decode cX12_fault 21 = .ok (.aload_n 0, 1) := by decide +kernel
theorem dX12_fault_22 : decode cX12_fault 22 = .ok (.getfield 29, 3) := by decide +kernel
theorem dX12_fault_25 : decode cX12_fault 25 = .ok (.goto 4, 3) := by decide +kernel
set_option maxRecDepth 100000 in
set_option maxHeartbeats 4000000 in
theorem c_X12_fault_1 (l : Launch) (D : va_G) (cy : Nat → ClassId) (a0 a1 a2 a3 a4 a5 a6 a7 a8 a9 a10 a11 a12 a13 a14 a15 a16 a17 : Nat) : Ct l D cy yX12_fault cX12_fault 2 (some .int) 0 0 0 0 [(a0, .inr (12, [.ref a1, .ref a2, .ref a3, .ref a4, .ref a5, .int 0, .ref a6, .int 0, .int 0, .int 0, .int 0, .int 0, .int 0, .int 0, .int 0, .int 0, .int 0, .int (-1), .ref a7, .ref a8, .int 0, .ref a9, .int 0, .ref a10, .ref a11, .ref a12, .ref a13, .ref a14, .int 0, .ref a15, .ref a16, .ref a17]))] [.ref a0, .int 1] (fun u : Unit => some (.int (-1))) (fun _ => True) (fun u : Unit => [(a0, .inr (12, [.ref a1, .ref a2, .ref a3, .ref a4, .ref a5, .int 0, .ref a6, .int 0, .int 0, .int 0, .int 0, .int 0, .int 0, .int 0, .int 0, .int 0, .int 0, .int (-1), .ref a7, .ref a8, .int 0, .ref a9, .int 0, .ref a10, .ref a11, .ref a12, .ref a13, .ref a14, .int 0, .ref a15, .ref a16, .ref a17]))]) := by
  refine Ct.of (by decide +kernel) (Nat.le_of_ble_eq_true rfl) ?_
  intro p e s m args below meth c A ls C hr hlocks hml hnm w hl
  have hl : lv_has ls 2 [(0, .ref a0), (1, .int 1)] := hl
  refine lv_aload_n C.1 C.2.1 dX12_fault_0 rfl (lv_at hl 0 rfl) ?_
  refine lv_iconst (v := 0) C.1 C.2.1 dX12_fault_1 (by decide) ?_
  refine r_put C w 0 rfl rfl 5 (by decide) fl_RX12_71 rfl (ty := .int) (tyX12_ok 5 (by decide)) rfl rfl (Nat.le_of_ble_eq_true rfl) [(a0, .inr (12, [.ref a1, .ref a2, .ref a3, .ref a4, .ref a5, .int 0, .ref a6, .int 0, .int 0, .int 0, .int 0, .int 0, .int 0, .int 0, .int 0, .int 0, .int 0, .int (-1), .ref a7, .ref a8, .int 0, .ref a9, .int 0, .ref a10, .ref a11, .ref a12, .ref a13, .ref a14, .int 0, .ref a15, .ref a16, .ref a17]))] rfl dX12_fault_2 (fun H locs w => ?_)
  refine lv_iload_n C.1 C.2.1 dX12_fault_5 rfl (lv_at hl 1 rfl) ?_
  refine b_if_ne_t C (tgt := 16) dX12_fault_6 (by decide) (by decide) ?_
  refine lv_iload_n C.1 C.2.1 dX12_fault_16 rfl (lv_at hl 1 rfl) ?_
  refine lv_iconst (v := 1) C.1 C.2.1 dX12_fault_17 (by decide) ?_
  refine b_icmp_ne_f C (tgt := 28) dX12_fault_18 (by decide) (by decide) ?_
  refine lv_aload_n C.1 C.2.1 dX12_fault_21 rfl (lv_at hl 0 rfl) ?_
  refine r_get C w 0 rfl rfl 17 (by decide) fl_RX12_29 (v := .int (-1)) rfl dX12_fault_22 ?_
  refine lv_goto (tgt := 29) C.1 C.2.1 dX12_fault_25 (by decide) ?_
  exact r_iret C w hlocks () hr rfl rfl trivial [0] rfl rfl ⟨Nat.le_of_ble_eq_true rfl, Nat.le_of_ble_eq_true rfl⟩ dX12_fault_29
theorem dX12_fault_9 : decode cX12_fault 9 = .ok (.aload_n 0, 1) := by decide +kernel
theorem dX12_fault_10 : decode cX12_fault 10 = .ok (.getfield 243, 3) := by decide +kernel
theorem dX12_fault_13 : decode cX12_fault 13 = .ok (.goto 16, 3) := by decide +kernel
set_option maxRecDepth 100000 in
set_option maxHeartbeats 4000000 in
theorem c_X12_fault_2 (l : Launch) (D : va_G) (cy : Nat → ClassId) (a0 a1 a2 a3 a4 a5 a6 a7 a8 a9 a10 a11 a12 a13 a14 a15 a16 a17 : Nat) : Ct l D cy yX12_fault cX12_fault 2 (some .int) 0 0 0 0 [(a0, .inr (12, [.ref a1, .ref a2, .ref a3, .ref a4, .ref a5, .int 0, .ref a6, .int 0, .int 0, .int 0, .int 0, .int 0, .int 0, .int 0, .int 0, .int 0, .int 0, .int (-1), .ref a7, .ref a8, .int 0, .ref a9, .int 0, .ref a10, .ref a11, .ref a12, .ref a13, .ref a14, .int 0, .ref a15, .ref a16, .ref a17]))] [.ref a0, .int 0] (fun u : Unit => some (.int 0)) (fun _ => True) (fun u : Unit => [(a0, .inr (12, [.ref a1, .ref a2, .ref a3, .ref a4, .ref a5, .int 0, .ref a6, .int 0, .int 0, .int 0, .int 0, .int 0, .int 0, .int 0, .int 0, .int 0, .int 0, .int (-1), .ref a7, .ref a8, .int 0, .ref a9, .int 0, .ref a10, .ref a11, .ref a12, .ref a13, .ref a14, .int 0, .ref a15, .ref a16, .ref a17]))]) := by
  refine Ct.of (by decide +kernel) (Nat.le_of_ble_eq_true rfl) ?_
  intro p e s m args below meth c A ls C hr hlocks hml hnm w hl
  have hl : lv_has ls 2 [(0, .ref a0), (1, .int 0)] := hl
  refine lv_aload_n C.1 C.2.1 dX12_fault_0 rfl (lv_at hl 0 rfl) ?_
  refine lv_iconst (v := 0) C.1 C.2.1 dX12_fault_1 (by decide) ?_
  refine r_put C w 0 rfl rfl 5 (by decide) fl_RX12_71 rfl (ty := .int) (tyX12_ok 5 (by decide)) rfl rfl (Nat.le_of_ble_eq_true rfl) [(a0, .inr (12, [.ref a1, .ref a2, .ref a3, .ref a4, .ref a5, .int 0, .ref a6, .int 0, .int 0, .int 0, .int 0, .int 0, .int 0, .int 0, .int 0, .int 0, .int 0, .int (-1), .ref a7, .ref a8, .int 0, .ref a9, .int 0, .ref a10, .ref a11, .ref a12, .ref a13, .ref a14, .int 0, .ref a15, .ref a16, .ref a17]))] rfl dX12_fault_2 (fun H locs w => ?_)
  refine lv_iload_n C.1 C.2.1 dX12_fault_5 rfl (lv_at hl 1 rfl) ?_
  refine b_if_ne_f C (tgt := 16) dX12_fault_6 (by decide) (by decide) ?_
  refine lv_aload_n C.1 C.2.1 dX12_fault_9 rfl (lv_at hl 0 rfl) ?_
  refine r_get C w 0 rfl rfl 16 (by decide) fl_RX12_243 (v := .int 0) rfl dX12_fault_10 ?_
  refine lv_goto (tgt := 29) C.1 C.2.1 dX12_fault_13 (by decide) ?_
  exact r_iret C w hlocks () hr rfl rfl trivial [0] rfl rfl ⟨Nat.le_of_ble_eq_true rfl, Nat.le_of_ble_eq_true rfl⟩ dX12_fault_29
theorem dX12_told_0 : decode cX12_told 0 = .ok (.aload_n 0, 1) := by decide +kernel
theorem dX12_told_1 : decode cX12_told 1 = .ok (.aload_n 0, 1) := by decide +kernel
theorem dX12_told_2 : decode cX12_told 2 = .ok (.iload_n 1, 1) := by decide +kernel
theorem dX12_told_3 : decode cX12_told 3 = .ok (.invokevirtual 270, 3) := by decide +kernel
theorem dX12_isSpeaker_0 : decode cX12_isSpeaker 0 = .ok (.iload_n 1, 1) := by decide +kernel
theorem dX12_isSpeaker_1 : decode cX12_isSpeaker 1 = .ok (.i2l, 1) := by decide +kernel
theorem dX12_isSpeaker_2 : decode cX12_isSpeaker 2 = .ok (.lconst 0, 1) := by decide +kernel
theorem dX12_isSpeaker_3 : decode cX12_isSpeaker 3 = .ok (.aload_n 0, 1) := by decide +kernel
theorem dX12_isSpeaker_4 : decode cX12_isSpeaker 4 = .ok (.getfield 9, 3) := by decide +kernel
theorem dX12_isSpeaker_7 : decode cX12_isSpeaker 7 = .ok (.iconst 5, 1) := by decide +kernel
theorem dX12_isSpeaker_8 : decode cX12_isSpeaker 8 = .ok (.iaload, 1) := by decide +kernel
theorem dX12_isSpeaker_9 : decode cX12_isSpeaker 9 = .ok (.iconst 1, 1) := by decide +kernel
theorem dX12_isSpeaker_10 : decode cX12_isSpeaker 10 = .ok (.isub, 1) := by decide +kernel
theorem dX12_isSpeaker_11 : decode cX12_isSpeaker 11 = .ok (.i2l, 1) := by decide +kernel
theorem dX12_isSpeaker_12 : decode cX12_isSpeaker 12 = .ok (.invokestatic 133, 3) := by decide +kernel
set_option maxRecDepth 100000 in
set_option maxHeartbeats 4000000 in
theorem c_X12_within_4 (l : Launch) (D : va_G) (cy : Nat → ClassId) (x0 : Int32) (k0 : x0 < 0) : Ct l D cy yX12_within cX12_within 6 (some .boolean) 0 0 0 0 [] [.long (Int32.toInt64 x0), .long 0, .long (-1)] (fun u : Unit => some (.int 0)) (fun _ => True) (fun u : Unit => []) := by
  refine Ct.of (by decide +kernel) (Nat.le_of_ble_eq_true rfl) ?_
  intro p e s m args below meth c A ls C hr hlocks hml hnm w hl
  have hl : lv_has ls 6 [(0, .long (Int32.toInt64 x0)), (2, .long 0), (4, .long (-1))] := hl
  refine lv_lload_n C.1 C.2.1 dX12_within_0 rfl (lv_at hl 0 rfl) ?_
  refine lv_lload_n C.1 C.2.1 dX12_within_1 rfl (lv_at hl 1 rfl) ?_
  refine r_lcmp C (v := (lg_cmp (Int32.toInt64 x0) 0)) dX12_within_2 rfl ?_
  refine b_if_lt_t C (tgt := 17) dX12_within_3 (by decide) (cmp_lt (x := x0) (y := 0) k0) ?_
  refine lv_iconst (v := 0) C.1 C.2.1 dX12_within_17 (by decide) ?_
  exact r_iret C w hlocks () hr rfl rfl trivial [] rfl rfl ⟨Nat.le_of_ble_eq_true rfl, Nat.le_of_ble_eq_true rfl⟩ dX12_within_18
set_option maxRecDepth 100000 in
set_option maxHeartbeats 4000000 in
theorem c_X12_within_5 (l : Launch) (D : va_G) (cy : Nat → ClassId) (x0 : Int32) (k0 : ¬ x0 < 0) : Ct l D cy yX12_within cX12_within 6 (some .boolean) 0 0 0 0 [] [.long (Int32.toInt64 x0), .long 0, .long (-1)] (fun u : Unit => some (.int 0)) (fun _ => True) (fun u : Unit => []) := by
  refine Ct.of (by decide +kernel) (Nat.le_of_ble_eq_true rfl) ?_
  intro p e s m args below meth c A ls C hr hlocks hml hnm w hl
  have hl : lv_has ls 6 [(0, .long (Int32.toInt64 x0)), (2, .long 0), (4, .long (-1))] := hl
  refine lv_lload_n C.1 C.2.1 dX12_within_0 rfl (lv_at hl 0 rfl) ?_
  refine lv_lload_n C.1 C.2.1 dX12_within_1 rfl (lv_at hl 1 rfl) ?_
  refine r_lcmp C (v := (lg_cmp (Int32.toInt64 x0) 0)) dX12_within_2 rfl ?_
  refine b_if_lt_f C (tgt := 17) dX12_within_3 (by decide) (cmp_nlt (x := x0) (y := 0) k0) ?_
  refine lv_lload_n C.1 C.2.1 dX12_within_6 rfl (lv_at hl 0 rfl) ?_
  refine lv_lload C.1 C.2.1 dX12_within_7 (lv_at hl 2 rfl) ?_
  refine r_lcmp C (v := (lg_cmp (Int32.toInt64 x0) (-1))) dX12_within_9 rfl ?_
  refine b_if_gt_t C (tgt := 17) dX12_within_10 (by decide) (cmp_gt (x := x0) (y := (-1)) (by have h0 := (i_nlt k0); have e0 : (-1 : Int32).toInt = -1 := (by decide); have e1 : (0 : Int32).toInt = 0 := (by decide); rw [fa_lt]; omega)) ?_
  refine lv_iconst (v := 0) C.1 C.2.1 dX12_within_17 (by decide) ?_
  exact r_iret C w hlocks () hr rfl rfl trivial [] rfl rfl ⟨Nat.le_of_ble_eq_true rfl, Nat.le_of_ble_eq_true rfl⟩ dX12_within_18
theorem dX12_isSpeaker_15 : decode cX12_isSpeaker 15 = .ok (.ireturn, 1) := by decide +kernel
set_option maxRecDepth 100000 in
set_option maxHeartbeats 4000000 in
theorem c_X12_isSpeaker_0 (l : Launch) (D : va_G) (cy : Nat → ClassId) (a0 a1 a2 a3 a4 a5 a6 a7 a8 a9 a10 a11 a12 a13 a14 a15 a16 a17 : Nat) (x0 : Int32) (k0 : x0 < 0) : Ct l D cy yX12_isSpeaker cX12_isSpeaker 2 (some .boolean) 1 25 0 0 [(a0, .inr (12, [.ref a1, .ref a2, .ref a3, .ref a4, .ref a5, .int 0, .ref a6, .int 0, .int 0, .int 0, .int 0, .int 0, .int 0, .int 0, .int 0, .int 0, .int 0, .int (-1), .ref a7, .ref a8, .int 0, .ref a9, .int 0, .ref a10, .ref a11, .ref a12, .ref a13, .ref a14, .int 0, .ref a15, .ref a16, .ref a17])), (a1, .inl (cy 1, 1868, .inl (upd (upd (upd (fun _ => 0) 1 2) 2 20) 3 120)))] [.ref a0, .int x0] (fun u : Unit => some (.int 0)) (fun _ => True) (fun u : Unit => [(a0, .inr (12, [.ref a1, .ref a2, .ref a3, .ref a4, .ref a5, .int 0, .ref a6, .int 0, .int 0, .int 0, .int 0, .int 0, .int 0, .int 0, .int 0, .int 0, .int 0, .int (-1), .ref a7, .ref a8, .int 0, .ref a9, .int 0, .ref a10, .ref a11, .ref a12, .ref a13, .ref a14, .int 0, .ref a15, .ref a16, .ref a17])), (a1, .inl (cy 1, 1868, .inl (upd (upd (upd (fun _ => 0) 1 2) 2 20) 3 120)))]) := by
  refine Ct.of (by decide +kernel) (Nat.le_of_ble_eq_true rfl) ?_
  intro p e s m args below meth c A ls C hr hlocks hml hnm w hl
  have hl : lv_has ls 2 [(0, .ref a0), (1, .int x0)] := hl
  refine lv_iload_n C.1 C.2.1 dX12_isSpeaker_0 rfl (lv_at hl 1 rfl) ?_
  refine lv_i2l (v := (Int32.toInt64 x0)) C.1 C.2.1 dX12_isSpeaker_1 rfl ?_
  refine lv_lconst (v := 0) C.1 C.2.1 dX12_isSpeaker_2 (by decide) ?_
  refine lv_aload_n C.1 C.2.1 dX12_isSpeaker_3 rfl (lv_at hl 0 rfl) ?_
  refine r_get C w 0 rfl rfl 0 (by decide) fl_RX12_9 (v := .ref a1) rfl dX12_isSpeaker_4 ?_
  refine lv_iconst (v := 5) C.1 C.2.1 dX12_isSpeaker_7 (by decide) ?_
  refine r_iald C w 1 rfl (v := 0) (vinD (by decide)) rfl dX12_isSpeaker_8 ?_
  refine lv_iconst (v := 1) C.1 C.2.1 dX12_isSpeaker_9 (by decide) ?_
  refine r_isub C (v := (-1)) dX12_isSpeaker_10 (by decide) ?_
  refine lv_i2l (v := (-1)) C.1 C.2.1 dX12_isSpeaker_11 (by decide) ?_
  refine r_callS C w fs_RX12_133 (c_X12_within_4 l D cy x0 k0) (hl.1.trans hml.symm) [] [0, 1] (wr := [(a0, .inr (12, [.ref a1, .ref a2, .ref a3, .ref a4, .ref a5, .int 0, .ref a6, .int 0, .int 0, .int 0, .int 0, .int 0, .int 0, .int 0, .int 0, .int 0, .int 0, .int (-1), .ref a7, .ref a8, .int 0, .ref a9, .int 0, .ref a10, .ref a11, .ref a12, .ref a13, .ref a14, .int 0, .ref a15, .ref a16, .ref a17])), (a1, .inl (cy 1, 1868, .inl (upd (upd (upd (fun _ => 0) 1 2) 2 20) 3 120)))]) ⟨rfl, rfl, rfl, rfl, by decide⟩ rfl rfl ⟨Nat.le_of_ble_eq_true rfl, Nat.le_of_ble_eq_true rfl, Nat.le_of_ble_eq_true rfl⟩ 0 0 ⟨rfl, rfl, Nat.le_of_ble_eq_true rfl, Nat.le_of_ble_eq_true rfl⟩ dX12_isSpeaker_12 (fun u H locs hp w => ?_)
  have w : Wd D A s.heap [(a0, .inr (12, [.ref a1, .ref a2, .ref a3, .ref a4, .ref a5, .int 0, .ref a6, .int 0, .int 0, .int 0, .int 0, .int 0, .int 0, .int 0, .int 0, .int 0, .int 0, .int (-1), .ref a7, .ref a8, .int 0, .ref a9, .int 0, .ref a10, .ref a11, .ref a12, .ref a13, .ref a14, .int 0, .ref a15, .ref a16, .ref a17])), (a1, .inl (cy 1, 1868, .inl (upd (upd (upd (fun _ => 0) 1 2) 2 20) 3 120)))] _ _ := w
  refine r_top (g2 := F0 m 15 ls [.int 0]) rfl ?_
  exact r_iret C w hlocks () hr rfl rfl trivial [0, 1] rfl rfl ⟨Nat.le_of_ble_eq_true rfl, Nat.le_of_ble_eq_true rfl⟩ dX12_isSpeaker_15
set_option maxRecDepth 100000 in
set_option maxHeartbeats 4000000 in
theorem c_X12_isSpeaker_1 (l : Launch) (D : va_G) (cy : Nat → ClassId) (a0 a1 a2 a3 a4 a5 a6 a7 a8 a9 a10 a11 a12 a13 a14 a15 a16 a17 : Nat) (x0 : Int32) (k0 : ¬ x0 < 0) : Ct l D cy yX12_isSpeaker cX12_isSpeaker 2 (some .boolean) 1 25 0 0 [(a0, .inr (12, [.ref a1, .ref a2, .ref a3, .ref a4, .ref a5, .int 0, .ref a6, .int 0, .int 0, .int 0, .int 0, .int 0, .int 0, .int 0, .int 0, .int 0, .int 0, .int (-1), .ref a7, .ref a8, .int 0, .ref a9, .int 0, .ref a10, .ref a11, .ref a12, .ref a13, .ref a14, .int 0, .ref a15, .ref a16, .ref a17])), (a1, .inl (cy 1, 1868, .inl (upd (upd (upd (fun _ => 0) 1 2) 2 20) 3 120)))] [.ref a0, .int x0] (fun u : Unit => some (.int 0)) (fun _ => True) (fun u : Unit => [(a0, .inr (12, [.ref a1, .ref a2, .ref a3, .ref a4, .ref a5, .int 0, .ref a6, .int 0, .int 0, .int 0, .int 0, .int 0, .int 0, .int 0, .int 0, .int 0, .int 0, .int (-1), .ref a7, .ref a8, .int 0, .ref a9, .int 0, .ref a10, .ref a11, .ref a12, .ref a13, .ref a14, .int 0, .ref a15, .ref a16, .ref a17])), (a1, .inl (cy 1, 1868, .inl (upd (upd (upd (fun _ => 0) 1 2) 2 20) 3 120)))]) := by
  refine Ct.of (by decide +kernel) (Nat.le_of_ble_eq_true rfl) ?_
  intro p e s m args below meth c A ls C hr hlocks hml hnm w hl
  have hl : lv_has ls 2 [(0, .ref a0), (1, .int x0)] := hl
  refine lv_iload_n C.1 C.2.1 dX12_isSpeaker_0 rfl (lv_at hl 1 rfl) ?_
  refine lv_i2l (v := (Int32.toInt64 x0)) C.1 C.2.1 dX12_isSpeaker_1 rfl ?_
  refine lv_lconst (v := 0) C.1 C.2.1 dX12_isSpeaker_2 (by decide) ?_
  refine lv_aload_n C.1 C.2.1 dX12_isSpeaker_3 rfl (lv_at hl 0 rfl) ?_
  refine r_get C w 0 rfl rfl 0 (by decide) fl_RX12_9 (v := .ref a1) rfl dX12_isSpeaker_4 ?_
  refine lv_iconst (v := 5) C.1 C.2.1 dX12_isSpeaker_7 (by decide) ?_
  refine r_iald C w 1 rfl (v := 0) (vinD (by decide)) rfl dX12_isSpeaker_8 ?_
  refine lv_iconst (v := 1) C.1 C.2.1 dX12_isSpeaker_9 (by decide) ?_
  refine r_isub C (v := (-1)) dX12_isSpeaker_10 (by decide) ?_
  refine lv_i2l (v := (-1)) C.1 C.2.1 dX12_isSpeaker_11 (by decide) ?_
  refine r_callS C w fs_RX12_133 (c_X12_within_5 l D cy x0 k0) (hl.1.trans hml.symm) [] [0, 1] (wr := [(a0, .inr (12, [.ref a1, .ref a2, .ref a3, .ref a4, .ref a5, .int 0, .ref a6, .int 0, .int 0, .int 0, .int 0, .int 0, .int 0, .int 0, .int 0, .int 0, .int 0, .int (-1), .ref a7, .ref a8, .int 0, .ref a9, .int 0, .ref a10, .ref a11, .ref a12, .ref a13, .ref a14, .int 0, .ref a15, .ref a16, .ref a17])), (a1, .inl (cy 1, 1868, .inl (upd (upd (upd (fun _ => 0) 1 2) 2 20) 3 120)))]) ⟨rfl, rfl, rfl, rfl, by decide⟩ rfl rfl ⟨Nat.le_of_ble_eq_true rfl, Nat.le_of_ble_eq_true rfl, Nat.le_of_ble_eq_true rfl⟩ 0 0 ⟨rfl, rfl, Nat.le_of_ble_eq_true rfl, Nat.le_of_ble_eq_true rfl⟩ dX12_isSpeaker_12 (fun u H locs hp w => ?_)
  have w : Wd D A s.heap [(a0, .inr (12, [.ref a1, .ref a2, .ref a3, .ref a4, .ref a5, .int 0, .ref a6, .int 0, .int 0, .int 0, .int 0, .int 0, .int 0, .int 0, .int 0, .int 0, .int 0, .int (-1), .ref a7, .ref a8, .int 0, .ref a9, .int 0, .ref a10, .ref a11, .ref a12, .ref a13, .ref a14, .int 0, .ref a15, .ref a16, .ref a17])), (a1, .inl (cy 1, 1868, .inl (upd (upd (upd (fun _ => 0) 1 2) 2 20) 3 120)))] _ _ := w
  refine r_top (g2 := F0 m 15 ls [.int 0]) rfl ?_
  exact r_iret C w hlocks () hr rfl rfl trivial [0, 1] rfl rfl ⟨Nat.le_of_ble_eq_true rfl, Nat.le_of_ble_eq_true rfl⟩ dX12_isSpeaker_15
theorem fv_RX12_270 : FV RX12 270 yX12_isSpeaker cX12_isSpeaker 2 (some .boolean) 1 := ⟨⟨gw_mem (by decide +kernel) (by decide +kernel), gw_mem (by decide +kernel) (by decide +kernel), gw_mem (by decide +kernel) (by decide +kernel), gw_mem (by decide +kernel) (by decide +kernel), gw_mem (by decide +kernel) (by decide +kernel)⟩, ⟨by decide +kernel, by decide +kernel, by decide +kernel⟩⟩
theorem dX12_told_6 : decode cX12_told 6 = .ok (.ifCond .eq 15, 3) := by decide +kernel
theorem dX12_told_21 : decode cX12_told 21 = .ok (.iconst 1, 1) := by decide +kernel
theorem dX12_told_22 : decode cX12_told 22 = .ok (.putfield 71, 3) := by decide +kernel
theorem dX12_told_25 : decode cX12_told 25 = .ok (.aload_n 0, 1) := by decide +kernel
theorem dX12_told_26 : decode cX12_told 26 = .ok (.getfield 71, 3) := by decide +kernel
theorem dX12_told_29 : decode cX12_told 29 = .ok (.ifCond .le 7, 3) := by decide +kernel
theorem dX12_told_32 : decode cX12_told 32 = .ok (.iconst 0, 1) := by decide +kernel
theorem dX12_told_33 : decode cX12_told 33 = .ok (.goto 9, 3) := by decide +kernel
theorem dX12_told_42 : decode cX12_told 42 = .ok (.ireturn, 1) := by decide +kernel
set_option maxRecDepth 100000 in
set_option maxHeartbeats 4000000 in
theorem c_X12_told_0 (l : Launch) (D : va_G) (cy : Nat → ClassId) (a0 a1 a2 a3 a4 a5 a6 a7 a8 a9 a10 a11 a12 a13 a14 a15 a16 a17 : Nat) (x0 : Int32) (x1 : Int32) (k0 : x0 < 0) : Ct l D cy yX12_told cX12_told 3 (some .int) 2 46 0 0 [(a0, .inr (12, [.ref a1, .ref a2, .ref a3, .ref a4, .ref a5, .int 0, .ref a6, .int 0, .int 0, .int 0, .int 0, .int 0, .int 0, .int 0, .int 0, .int 0, .int 0, .int (-1), .ref a7, .ref a8, .int 0, .ref a9, .int 0, .ref a10, .ref a11, .ref a12, .ref a13, .ref a14, .int 0, .ref a15, .ref a16, .ref a17])), (a1, .inl (cy 1, 1868, .inl (upd (upd (upd (fun _ => 0) 1 2) 2 20) 3 120)))] [.ref a0, .int x0, .int x1] (fun u : Unit => some (.int 0)) (fun _ => True) (fun u : Unit => [(a0, .inr (12, [.ref a1, .ref a2, .ref a3, .ref a4, .ref a5, .int 1, .ref a6, .int 0, .int 0, .int 0, .int 0, .int 0, .int 0, .int 0, .int 0, .int 0, .int 0, .int (-1), .ref a7, .ref a8, .int 0, .ref a9, .int 0, .ref a10, .ref a11, .ref a12, .ref a13, .ref a14, .int 0, .ref a15, .ref a16, .ref a17])), (a1, .inl (cy 1, 1868, .inl (upd (upd (upd (fun _ => 0) 1 2) 2 20) 3 120)))]) := by
  refine Ct.of (by decide +kernel) (Nat.le_of_ble_eq_true rfl) ?_
  intro p e s m args below meth c A ls C hr hlocks hml hnm w hl
  have hl : lv_has ls 3 [(0, .ref a0), (1, .int x0), (2, .int x1)] := hl
  refine lv_aload_n C.1 C.2.1 dX12_told_0 rfl (lv_at hl 0 rfl) ?_
  refine lv_aload_n C.1 C.2.1 dX12_told_1 rfl (lv_at hl 0 rfl) ?_
  refine lv_iload_n C.1 C.2.1 dX12_told_2 rfl (lv_at hl 1 rfl) ?_
  refine r_callV C w fv_RX12_270 (c_X12_isSpeaker_0 l D cy a0 a1 a2 a3 a4 a5 a6 a7 a8 a9 a10 a11 a12 a13 a14 a15 a16 a17 x0 k0) (hl.1.trans hml.symm) [0, 1] [] (wr := []) ⟨rfl, rfl, rfl, rfl, by decide⟩ 0 rfl rfl rfl rfl rfl ⟨Nat.le_of_ble_eq_true rfl, Nat.le_of_ble_eq_true rfl, Nat.le_of_ble_eq_true rfl⟩ 0 0 ⟨rfl, rfl, Nat.le_of_ble_eq_true rfl, Nat.le_of_ble_eq_true rfl⟩ dX12_told_3 (fun u H locs hp w => ?_)
  have w : Wd D A s.heap [(a0, .inr (12, [.ref a1, .ref a2, .ref a3, .ref a4, .ref a5, .int 0, .ref a6, .int 0, .int 0, .int 0, .int 0, .int 0, .int 0, .int 0, .int 0, .int 0, .int 0, .int (-1), .ref a7, .ref a8, .int 0, .ref a9, .int 0, .ref a10, .ref a11, .ref a12, .ref a13, .ref a14, .int 0, .ref a15, .ref a16, .ref a17])), (a1, .inl (cy 1, 1868, .inl (upd (upd (upd (fun _ => 0) 1 2) 2 20) 3 120)))] _ _ := w
  refine r_top (g2 := F0 m 6 ls [.int 0, .ref a0]) rfl ?_
  refine b_if_eq_t C (tgt := 21) dX12_told_6 (by decide) (by decide) ?_
  refine lv_iconst (v := 1) C.1 C.2.1 dX12_told_21 (by decide) ?_
  refine r_put C w 0 rfl rfl 5 (by decide) fl_RX12_71 rfl (ty := .int) (tyX12_ok 5 (by decide)) rfl rfl (Nat.le_of_ble_eq_true rfl) [(a0, .inr (12, [.ref a1, .ref a2, .ref a3, .ref a4, .ref a5, .int 1, .ref a6, .int 0, .int 0, .int 0, .int 0, .int 0, .int 0, .int 0, .int 0, .int 0, .int 0, .int (-1), .ref a7, .ref a8, .int 0, .ref a9, .int 0, .ref a10, .ref a11, .ref a12, .ref a13, .ref a14, .int 0, .ref a15, .ref a16, .ref a17])), (a1, .inl (cy 1, 1868, .inl (upd (upd (upd (fun _ => 0) 1 2) 2 20) 3 120)))] rfl dX12_told_22 (fun H locs w => ?_)
  refine lv_aload_n C.1 C.2.1 dX12_told_25 rfl (lv_at hl 0 rfl) ?_
  refine r_get C w 0 rfl rfl 5 (by decide) fl_RX12_71 (v := .int 1) rfl dX12_told_26 ?_
  refine b_if_le_f C (tgt := 36) dX12_told_29 (by decide) (by decide) ?_
  refine lv_iconst (v := 0) C.1 C.2.1 dX12_told_32 (by decide) ?_
  refine lv_goto (tgt := 42) C.1 C.2.1 dX12_told_33 (by decide) ?_
  exact r_iret C w hlocks () hr rfl rfl trivial [0, 1] rfl rfl ⟨Nat.le_of_ble_eq_true rfl, Nat.le_of_ble_eq_true rfl⟩ dX12_told_42
set_option maxRecDepth 100000 in
set_option maxHeartbeats 4000000 in
theorem c_X12_told_1 (l : Launch) (D : va_G) (cy : Nat → ClassId) (a0 a1 a2 a3 a4 a5 a6 a7 a8 a9 a10 a11 a12 a13 a14 a15 a16 a17 : Nat) (x0 : Int32) (x1 : Int32) (k0 : ¬ x0 < 0) : Ct l D cy yX12_told cX12_told 3 (some .int) 2 46 0 0 [(a0, .inr (12, [.ref a1, .ref a2, .ref a3, .ref a4, .ref a5, .int 0, .ref a6, .int 0, .int 0, .int 0, .int 0, .int 0, .int 0, .int 0, .int 0, .int 0, .int 0, .int (-1), .ref a7, .ref a8, .int 0, .ref a9, .int 0, .ref a10, .ref a11, .ref a12, .ref a13, .ref a14, .int 0, .ref a15, .ref a16, .ref a17])), (a1, .inl (cy 1, 1868, .inl (upd (upd (upd (fun _ => 0) 1 2) 2 20) 3 120)))] [.ref a0, .int x0, .int x1] (fun u : Unit => some (.int 0)) (fun _ => True) (fun u : Unit => [(a0, .inr (12, [.ref a1, .ref a2, .ref a3, .ref a4, .ref a5, .int 1, .ref a6, .int 0, .int 0, .int 0, .int 0, .int 0, .int 0, .int 0, .int 0, .int 0, .int 0, .int (-1), .ref a7, .ref a8, .int 0, .ref a9, .int 0, .ref a10, .ref a11, .ref a12, .ref a13, .ref a14, .int 0, .ref a15, .ref a16, .ref a17])), (a1, .inl (cy 1, 1868, .inl (upd (upd (upd (fun _ => 0) 1 2) 2 20) 3 120)))]) := by
  refine Ct.of (by decide +kernel) (Nat.le_of_ble_eq_true rfl) ?_
  intro p e s m args below meth c A ls C hr hlocks hml hnm w hl
  have hl : lv_has ls 3 [(0, .ref a0), (1, .int x0), (2, .int x1)] := hl
  refine lv_aload_n C.1 C.2.1 dX12_told_0 rfl (lv_at hl 0 rfl) ?_
  refine lv_aload_n C.1 C.2.1 dX12_told_1 rfl (lv_at hl 0 rfl) ?_
  refine lv_iload_n C.1 C.2.1 dX12_told_2 rfl (lv_at hl 1 rfl) ?_
  refine r_callV C w fv_RX12_270 (c_X12_isSpeaker_1 l D cy a0 a1 a2 a3 a4 a5 a6 a7 a8 a9 a10 a11 a12 a13 a14 a15 a16 a17 x0 k0) (hl.1.trans hml.symm) [0, 1] [] (wr := []) ⟨rfl, rfl, rfl, rfl, by decide⟩ 0 rfl rfl rfl rfl rfl ⟨Nat.le_of_ble_eq_true rfl, Nat.le_of_ble_eq_true rfl, Nat.le_of_ble_eq_true rfl⟩ 0 0 ⟨rfl, rfl, Nat.le_of_ble_eq_true rfl, Nat.le_of_ble_eq_true rfl⟩ dX12_told_3 (fun u H locs hp w => ?_)
  have w : Wd D A s.heap [(a0, .inr (12, [.ref a1, .ref a2, .ref a3, .ref a4, .ref a5, .int 0, .ref a6, .int 0, .int 0, .int 0, .int 0, .int 0, .int 0, .int 0, .int 0, .int 0, .int 0, .int (-1), .ref a7, .ref a8, .int 0, .ref a9, .int 0, .ref a10, .ref a11, .ref a12, .ref a13, .ref a14, .int 0, .ref a15, .ref a16, .ref a17])), (a1, .inl (cy 1, 1868, .inl (upd (upd (upd (fun _ => 0) 1 2) 2 20) 3 120)))] _ _ := w
  refine r_top (g2 := F0 m 6 ls [.int 0, .ref a0]) rfl ?_
  refine b_if_eq_t C (tgt := 21) dX12_told_6 (by decide) (by decide) ?_
  refine lv_iconst (v := 1) C.1 C.2.1 dX12_told_21 (by decide) ?_
  refine r_put C w 0 rfl rfl 5 (by decide) fl_RX12_71 rfl (ty := .int) (tyX12_ok 5 (by decide)) rfl rfl (Nat.le_of_ble_eq_true rfl) [(a0, .inr (12, [.ref a1, .ref a2, .ref a3, .ref a4, .ref a5, .int 1, .ref a6, .int 0, .int 0, .int 0, .int 0, .int 0, .int 0, .int 0, .int 0, .int 0, .int 0, .int (-1), .ref a7, .ref a8, .int 0, .ref a9, .int 0, .ref a10, .ref a11, .ref a12, .ref a13, .ref a14, .int 0, .ref a15, .ref a16, .ref a17])), (a1, .inl (cy 1, 1868, .inl (upd (upd (upd (fun _ => 0) 1 2) 2 20) 3 120)))] rfl dX12_told_22 (fun H locs w => ?_)
  refine lv_aload_n C.1 C.2.1 dX12_told_25 rfl (lv_at hl 0 rfl) ?_
  refine r_get C w 0 rfl rfl 5 (by decide) fl_RX12_71 (v := .int 1) rfl dX12_told_26 ?_
  refine b_if_le_f C (tgt := 36) dX12_told_29 (by decide) (by decide) ?_
  refine lv_iconst (v := 0) C.1 C.2.1 dX12_told_32 (by decide) ?_
  refine lv_goto (tgt := 42) C.1 C.2.1 dX12_told_33 (by decide) ?_
  exact r_iret C w hlocks () hr rfl rfl trivial [0, 1] rfl rfl ⟨Nat.le_of_ble_eq_true rfl, Nat.le_of_ble_eq_true rfl⟩ dX12_told_42
theorem dX12_speaker_0 : decode cX12_speaker 0 = .ok (.aload_n 0, 1) := by decide +kernel
theorem dX12_speaker_1 : decode cX12_speaker 1 = .ok (.aload_n 0, 1) := by decide +kernel
theorem dX12_speaker_2 : decode cX12_speaker 2 = .ok (.iload_n 1, 1) := by decide +kernel
theorem dX12_speaker_3 : decode cX12_speaker 3 = .ok (.invokevirtual 270, 3) := by decide +kernel
theorem dX12_speaker_6 : decode cX12_speaker 6 = .ok (.ifCond .ne 7, 3) := by decide +kernel
theorem dX12_speaker_9 : decode cX12_speaker 9 = .ok (.iconst 1, 1) := by decide +kernel
theorem dX12_speaker_10 : decode cX12_speaker 10 = .ok (.goto 20, 3) := by decide +kernel
theorem dX12_speaker_30 : decode cX12_speaker 30 = .ok (.putfield 71, 3) := by decide +kernel
theorem dX12_speaker_33 : decode cX12_speaker 33 = .ok (.aload_n 0, 1) := by decide +kernel
theorem dX12_speaker_34 : decode cX12_speaker 34 = .ok (.getfield 71, 3) := by decide +kernel
theorem dX12_speaker_37 : decode cX12_speaker 37 = .ok (.ifCond .le 5, 3) := by decide +kernel
theorem dX12_speaker_40 : decode cX12_speaker 40 = .ok (.iconst 0, 1) := by decide +kernel
theorem dX12_speaker_41 : decode cX12_speaker 41 = .ok (.ireturn, 1) := by decide +kernel
set_option maxRecDepth 100000 in
set_option maxHeartbeats 4000000 in
theorem c_X12_speaker_0 (l : Launch) (D : va_G) (cy : Nat → ClassId) (a0 a1 a2 a3 a4 a5 a6 a7 a8 a9 a10 a11 a12 a13 a14 a15 a16 a17 : Nat) (x0 : Int32) (x1 : Int32) (k0 : x0 < 0) : Ct l D cy yX12_speaker cX12_speaker 3 (some .int) 2 46 0 0 [(a0, .inr (12, [.ref a1, .ref a2, .ref a3, .ref a4, .ref a5, .int 0, .ref a6, .int 0, .int 0, .int 0, .int 0, .int 0, .int 0, .int 0, .int 0, .int 0, .int 0, .int (-1), .ref a7, .ref a8, .int 0, .ref a9, .int 0, .ref a10, .ref a11, .ref a12, .ref a13, .ref a14, .int 0, .ref a15, .ref a16, .ref a17])), (a1, .inl (cy 1, 1868, .inl (upd (upd (upd (fun _ => 0) 1 2) 2 20) 3 120)))] [.ref a0, .int x0, .int x1] (fun u : Unit => some (.int 0)) (fun _ => True) (fun u : Unit => [(a0, .inr (12, [.ref a1, .ref a2, .ref a3, .ref a4, .ref a5, .int 1, .ref a6, .int 0, .int 0, .int 0, .int 0, .int 0, .int 0, .int 0, .int 0, .int 0, .int 0, .int (-1), .ref a7, .ref a8, .int 0, .ref a9, .int 0, .ref a10, .ref a11, .ref a12, .ref a13, .ref a14, .int 0, .ref a15, .ref a16, .ref a17])), (a1, .inl (cy 1, 1868, .inl (upd (upd (upd (fun _ => 0) 1 2) 2 20) 3 120)))]) := by
  refine Ct.of (by decide +kernel) (Nat.le_of_ble_eq_true rfl) ?_
  intro p e s m args below meth c A ls C hr hlocks hml hnm w hl
  have hl : lv_has ls 3 [(0, .ref a0), (1, .int x0), (2, .int x1)] := hl
  refine lv_aload_n C.1 C.2.1 dX12_speaker_0 rfl (lv_at hl 0 rfl) ?_
  refine lv_aload_n C.1 C.2.1 dX12_speaker_1 rfl (lv_at hl 0 rfl) ?_
  refine lv_iload_n C.1 C.2.1 dX12_speaker_2 rfl (lv_at hl 1 rfl) ?_
  refine r_callV C w fv_RX12_270 (c_X12_isSpeaker_0 l D cy a0 a1 a2 a3 a4 a5 a6 a7 a8 a9 a10 a11 a12 a13 a14 a15 a16 a17 x0 k0) (hl.1.trans hml.symm) [0, 1] [] (wr := []) ⟨rfl, rfl, rfl, rfl, by decide⟩ 0 rfl rfl rfl rfl rfl ⟨Nat.le_of_ble_eq_true rfl, Nat.le_of_ble_eq_true rfl, Nat.le_of_ble_eq_true rfl⟩ 0 0 ⟨rfl, rfl, Nat.le_of_ble_eq_true rfl, Nat.le_of_ble_eq_true rfl⟩ dX12_speaker_3 (fun u H locs hp w => ?_)
  have w : Wd D A s.heap [(a0, .inr (12, [.ref a1, .ref a2, .ref a3, .ref a4, .ref a5, .int 0, .ref a6, .int 0, .int 0, .int 0, .int 0, .int 0, .int 0, .int 0, .int 0, .int 0, .int 0, .int (-1), .ref a7, .ref a8, .int 0, .ref a9, .int 0, .ref a10, .ref a11, .ref a12, .ref a13, .ref a14, .int 0, .ref a15, .ref a16, .ref a17])), (a1, .inl (cy 1, 1868, .inl (upd (upd (upd (fun _ => 0) 1 2) 2 20) 3 120)))] _ _ := w
  refine r_top (g2 := F0 m 6 ls [.int 0, .ref a0]) rfl ?_
  refine b_if_ne_f C (tgt := 13) dX12_speaker_6 (by decide) (by decide) ?_
  refine lv_iconst (v := 1) C.1 C.2.1 dX12_speaker_9 (by decide) ?_
  refine lv_goto (tgt := 30) C.1 C.2.1 dX12_speaker_10 (by decide) ?_
  refine r_put C w 0 rfl rfl 5 (by decide) fl_RX12_71 rfl (ty := .int) (tyX12_ok 5 (by decide)) rfl rfl (Nat.le_of_ble_eq_true rfl) [(a0, .inr (12, [.ref a1, .ref a2, .ref a3, .ref a4, .ref a5, .int 1, .ref a6, .int 0, .int 0, .int 0, .int 0, .int 0, .int 0, .int 0, .int 0, .int 0, .int 0, .int (-1), .ref a7, .ref a8, .int 0, .ref a9, .int 0, .ref a10, .ref a11, .ref a12, .ref a13, .ref a14, .int 0, .ref a15, .ref a16, .ref a17])), (a1, .inl (cy 1, 1868, .inl (upd (upd (upd (fun _ => 0) 1 2) 2 20) 3 120)))] rfl dX12_speaker_30 (fun H locs w => ?_)
  refine lv_aload_n C.1 C.2.1 dX12_speaker_33 rfl (lv_at hl 0 rfl) ?_
  refine r_get C w 0 rfl rfl 5 (by decide) fl_RX12_71 (v := .int 1) rfl dX12_speaker_34 ?_
  refine b_if_le_f C (tgt := 42) dX12_speaker_37 (by decide) (by decide) ?_
  refine lv_iconst (v := 0) C.1 C.2.1 dX12_speaker_40 (by decide) ?_
  exact r_iret C w hlocks () hr rfl rfl trivial [0, 1] rfl rfl ⟨Nat.le_of_ble_eq_true rfl, Nat.le_of_ble_eq_true rfl⟩ dX12_speaker_41
set_option maxRecDepth 100000 in
set_option maxHeartbeats 4000000 in
theorem c_X12_speaker_1 (l : Launch) (D : va_G) (cy : Nat → ClassId) (a0 a1 a2 a3 a4 a5 a6 a7 a8 a9 a10 a11 a12 a13 a14 a15 a16 a17 : Nat) (x0 : Int32) (x1 : Int32) (k0 : ¬ x0 < 0) : Ct l D cy yX12_speaker cX12_speaker 3 (some .int) 2 46 0 0 [(a0, .inr (12, [.ref a1, .ref a2, .ref a3, .ref a4, .ref a5, .int 0, .ref a6, .int 0, .int 0, .int 0, .int 0, .int 0, .int 0, .int 0, .int 0, .int 0, .int 0, .int (-1), .ref a7, .ref a8, .int 0, .ref a9, .int 0, .ref a10, .ref a11, .ref a12, .ref a13, .ref a14, .int 0, .ref a15, .ref a16, .ref a17])), (a1, .inl (cy 1, 1868, .inl (upd (upd (upd (fun _ => 0) 1 2) 2 20) 3 120)))] [.ref a0, .int x0, .int x1] (fun u : Unit => some (.int 0)) (fun _ => True) (fun u : Unit => [(a0, .inr (12, [.ref a1, .ref a2, .ref a3, .ref a4, .ref a5, .int 1, .ref a6, .int 0, .int 0, .int 0, .int 0, .int 0, .int 0, .int 0, .int 0, .int 0, .int 0, .int (-1), .ref a7, .ref a8, .int 0, .ref a9, .int 0, .ref a10, .ref a11, .ref a12, .ref a13, .ref a14, .int 0, .ref a15, .ref a16, .ref a17])), (a1, .inl (cy 1, 1868, .inl (upd (upd (upd (fun _ => 0) 1 2) 2 20) 3 120)))]) := by
  refine Ct.of (by decide +kernel) (Nat.le_of_ble_eq_true rfl) ?_
  intro p e s m args below meth c A ls C hr hlocks hml hnm w hl
  have hl : lv_has ls 3 [(0, .ref a0), (1, .int x0), (2, .int x1)] := hl
  refine lv_aload_n C.1 C.2.1 dX12_speaker_0 rfl (lv_at hl 0 rfl) ?_
  refine lv_aload_n C.1 C.2.1 dX12_speaker_1 rfl (lv_at hl 0 rfl) ?_
  refine lv_iload_n C.1 C.2.1 dX12_speaker_2 rfl (lv_at hl 1 rfl) ?_
  refine r_callV C w fv_RX12_270 (c_X12_isSpeaker_1 l D cy a0 a1 a2 a3 a4 a5 a6 a7 a8 a9 a10 a11 a12 a13 a14 a15 a16 a17 x0 k0) (hl.1.trans hml.symm) [0, 1] [] (wr := []) ⟨rfl, rfl, rfl, rfl, by decide⟩ 0 rfl rfl rfl rfl rfl ⟨Nat.le_of_ble_eq_true rfl, Nat.le_of_ble_eq_true rfl, Nat.le_of_ble_eq_true rfl⟩ 0 0 ⟨rfl, rfl, Nat.le_of_ble_eq_true rfl, Nat.le_of_ble_eq_true rfl⟩ dX12_speaker_3 (fun u H locs hp w => ?_)
  have w : Wd D A s.heap [(a0, .inr (12, [.ref a1, .ref a2, .ref a3, .ref a4, .ref a5, .int 0, .ref a6, .int 0, .int 0, .int 0, .int 0, .int 0, .int 0, .int 0, .int 0, .int 0, .int 0, .int (-1), .ref a7, .ref a8, .int 0, .ref a9, .int 0, .ref a10, .ref a11, .ref a12, .ref a13, .ref a14, .int 0, .ref a15, .ref a16, .ref a17])), (a1, .inl (cy 1, 1868, .inl (upd (upd (upd (fun _ => 0) 1 2) 2 20) 3 120)))] _ _ := w
  refine r_top (g2 := F0 m 6 ls [.int 0, .ref a0]) rfl ?_
  refine b_if_ne_f C (tgt := 13) dX12_speaker_6 (by decide) (by decide) ?_
  refine lv_iconst (v := 1) C.1 C.2.1 dX12_speaker_9 (by decide) ?_
  refine lv_goto (tgt := 30) C.1 C.2.1 dX12_speaker_10 (by decide) ?_
  refine r_put C w 0 rfl rfl 5 (by decide) fl_RX12_71 rfl (ty := .int) (tyX12_ok 5 (by decide)) rfl rfl (Nat.le_of_ble_eq_true rfl) [(a0, .inr (12, [.ref a1, .ref a2, .ref a3, .ref a4, .ref a5, .int 1, .ref a6, .int 0, .int 0, .int 0, .int 0, .int 0, .int 0, .int 0, .int 0, .int 0, .int 0, .int (-1), .ref a7, .ref a8, .int 0, .ref a9, .int 0, .ref a10, .ref a11, .ref a12, .ref a13, .ref a14, .int 0, .ref a15, .ref a16, .ref a17])), (a1, .inl (cy 1, 1868, .inl (upd (upd (upd (fun _ => 0) 1 2) 2 20) 3 120)))] rfl dX12_speaker_30 (fun H locs w => ?_)
  refine lv_aload_n C.1 C.2.1 dX12_speaker_33 rfl (lv_at hl 0 rfl) ?_
  refine r_get C w 0 rfl rfl 5 (by decide) fl_RX12_71 (v := .int 1) rfl dX12_speaker_34 ?_
  refine b_if_le_f C (tgt := 42) dX12_speaker_37 (by decide) (by decide) ?_
  refine lv_iconst (v := 0) C.1 C.2.1 dX12_speaker_40 (by decide) ?_
  exact r_iret C w hlocks () hr rfl rfl trivial [0, 1] rfl rfl ⟨Nat.le_of_ble_eq_true rfl, Nat.le_of_ble_eq_true rfl⟩ dX12_speaker_41
theorem dX12_turn_0 : decode cX12_turn 0 = .ok (.aload_n 0, 1) := by decide +kernel
theorem dX12_turn_1 : decode cX12_turn 1 = .ok (.iconst 0, 1) := by decide +kernel
theorem dX12_turn_2 : decode cX12_turn 2 = .ok (.putfield 71, 3) := by decide +kernel
theorem dX12_turn_5 : decode cX12_turn 5 = .ok (.aload_n 0, 1) := by decide +kernel
theorem dX12_turn_6 : decode cX12_turn 6 = .ok (.iload_n 1, 1) := by decide +kernel
theorem dX12_turn_7 : decode cX12_turn 7 = .ok (.invokevirtual 284, 3) := by decide +kernel
theorem dX12_isTurn_0 : decode cX12_isTurn 0 = .ok (.iload_n 1, 1) := by decide +kernel
theorem dX12_isTurn_1 : decode cX12_isTurn 1 = .ok (.i2l, 1) := by decide +kernel
theorem dX12_isTurn_2 : decode cX12_isTurn 2 = .ok (.lconst 0, 1) := by decide +kernel
theorem dX12_isTurn_3 : decode cX12_isTurn 3 = .ok (.aload_n 0, 1) := by decide +kernel
theorem dX12_isTurn_4 : decode cX12_isTurn 4 = .ok (.getfield 9, 3) := by decide +kernel
theorem dX12_isTurn_7 : decode cX12_isTurn 7 = .ok (.bipush 6, 2) := by decide +kernel
theorem dX12_isTurn_9 : decode cX12_isTurn 9 = .ok (.iaload, 1) := by decide +kernel
theorem dX12_isTurn_10 : decode cX12_isTurn 10 = .ok (.iconst 1, 1) := by decide +kernel
theorem dX12_isTurn_11 : decode cX12_isTurn 11 = .ok (.isub, 1) := by decide +kernel
theorem dX12_isTurn_12 : decode cX12_isTurn 12 = .ok (.i2l, 1) := by decide +kernel
theorem dX12_isTurn_13 : decode cX12_isTurn 13 = .ok (.invokestatic 133, 3) := by decide +kernel
theorem dX12_isTurn_16 : decode cX12_isTurn 16 = .ok (.ireturn, 1) := by decide +kernel
set_option maxRecDepth 100000 in
set_option maxHeartbeats 4000000 in
theorem c_X12_isTurn_0 (l : Launch) (D : va_G) (cy : Nat → ClassId) (a0 a1 a2 a3 a4 a5 a6 a7 a8 a9 a10 a11 a12 a13 a14 a15 a16 a17 : Nat) (x0 : Int32) (k0 : x0 < 0) : Ct l D cy yX12_isTurn cX12_isTurn 2 (some .boolean) 1 25 0 0 [(a0, .inr (12, [.ref a1, .ref a2, .ref a3, .ref a4, .ref a5, .int 0, .ref a6, .int 0, .int 0, .int 0, .int 0, .int 0, .int 0, .int 0, .int 0, .int 0, .int 0, .int (-1), .ref a7, .ref a8, .int 0, .ref a9, .int 0, .ref a10, .ref a11, .ref a12, .ref a13, .ref a14, .int 0, .ref a15, .ref a16, .ref a17])), (a1, .inl (cy 1, 1868, .inl (upd (upd (upd (fun _ => 0) 1 2) 2 20) 3 120)))] [.ref a0, .int x0] (fun u : Unit => some (.int 0)) (fun _ => True) (fun u : Unit => [(a0, .inr (12, [.ref a1, .ref a2, .ref a3, .ref a4, .ref a5, .int 0, .ref a6, .int 0, .int 0, .int 0, .int 0, .int 0, .int 0, .int 0, .int 0, .int 0, .int 0, .int (-1), .ref a7, .ref a8, .int 0, .ref a9, .int 0, .ref a10, .ref a11, .ref a12, .ref a13, .ref a14, .int 0, .ref a15, .ref a16, .ref a17])), (a1, .inl (cy 1, 1868, .inl (upd (upd (upd (fun _ => 0) 1 2) 2 20) 3 120)))]) := by
  refine Ct.of (by decide +kernel) (Nat.le_of_ble_eq_true rfl) ?_
  intro p e s m args below meth c A ls C hr hlocks hml hnm w hl
  have hl : lv_has ls 2 [(0, .ref a0), (1, .int x0)] := hl
  refine lv_iload_n C.1 C.2.1 dX12_isTurn_0 rfl (lv_at hl 1 rfl) ?_
  refine lv_i2l (v := (Int32.toInt64 x0)) C.1 C.2.1 dX12_isTurn_1 rfl ?_
  refine lv_lconst (v := 0) C.1 C.2.1 dX12_isTurn_2 (by decide) ?_
  refine lv_aload_n C.1 C.2.1 dX12_isTurn_3 rfl (lv_at hl 0 rfl) ?_
  refine r_get C w 0 rfl rfl 0 (by decide) fl_RX12_9 (v := .ref a1) rfl dX12_isTurn_4 ?_
  refine lv_bipush (v := 6) C.1 C.2.1 dX12_isTurn_7 (by decide) ?_
  refine r_iald C w 1 rfl (v := 0) (vinD (by decide)) rfl dX12_isTurn_9 ?_
  refine lv_iconst (v := 1) C.1 C.2.1 dX12_isTurn_10 (by decide) ?_
  refine r_isub C (v := (-1)) dX12_isTurn_11 (by decide) ?_
  refine lv_i2l (v := (-1)) C.1 C.2.1 dX12_isTurn_12 (by decide) ?_
  refine r_callS C w fs_RX12_133 (c_X12_within_4 l D cy x0 k0) (hl.1.trans hml.symm) [] [0, 1] (wr := [(a0, .inr (12, [.ref a1, .ref a2, .ref a3, .ref a4, .ref a5, .int 0, .ref a6, .int 0, .int 0, .int 0, .int 0, .int 0, .int 0, .int 0, .int 0, .int 0, .int 0, .int (-1), .ref a7, .ref a8, .int 0, .ref a9, .int 0, .ref a10, .ref a11, .ref a12, .ref a13, .ref a14, .int 0, .ref a15, .ref a16, .ref a17])), (a1, .inl (cy 1, 1868, .inl (upd (upd (upd (fun _ => 0) 1 2) 2 20) 3 120)))]) ⟨rfl, rfl, rfl, rfl, by decide⟩ rfl rfl ⟨Nat.le_of_ble_eq_true rfl, Nat.le_of_ble_eq_true rfl, Nat.le_of_ble_eq_true rfl⟩ 0 0 ⟨rfl, rfl, Nat.le_of_ble_eq_true rfl, Nat.le_of_ble_eq_true rfl⟩ dX12_isTurn_13 (fun u H locs hp w => ?_)
  have w : Wd D A s.heap [(a0, .inr (12, [.ref a1, .ref a2, .ref a3, .ref a4, .ref a5, .int 0, .ref a6, .int 0, .int 0, .int 0, .int 0, .int 0, .int 0, .int 0, .int 0, .int 0, .int 0, .int (-1), .ref a7, .ref a8, .int 0, .ref a9, .int 0, .ref a10, .ref a11, .ref a12, .ref a13, .ref a14, .int 0, .ref a15, .ref a16, .ref a17])), (a1, .inl (cy 1, 1868, .inl (upd (upd (upd (fun _ => 0) 1 2) 2 20) 3 120)))] _ _ := w
  refine r_top (g2 := F0 m 16 ls [.int 0]) rfl ?_
  exact r_iret C w hlocks () hr rfl rfl trivial [0, 1] rfl rfl ⟨Nat.le_of_ble_eq_true rfl, Nat.le_of_ble_eq_true rfl⟩ dX12_isTurn_16
set_option maxRecDepth 100000 in
set_option maxHeartbeats 4000000 in
theorem c_X12_isTurn_1 (l : Launch) (D : va_G) (cy : Nat → ClassId) (a0 a1 a2 a3 a4 a5 a6 a7 a8 a9 a10 a11 a12 a13 a14 a15 a16 a17 : Nat) (x0 : Int32) (k0 : ¬ x0 < 0) : Ct l D cy yX12_isTurn cX12_isTurn 2 (some .boolean) 1 25 0 0 [(a0, .inr (12, [.ref a1, .ref a2, .ref a3, .ref a4, .ref a5, .int 0, .ref a6, .int 0, .int 0, .int 0, .int 0, .int 0, .int 0, .int 0, .int 0, .int 0, .int 0, .int (-1), .ref a7, .ref a8, .int 0, .ref a9, .int 0, .ref a10, .ref a11, .ref a12, .ref a13, .ref a14, .int 0, .ref a15, .ref a16, .ref a17])), (a1, .inl (cy 1, 1868, .inl (upd (upd (upd (fun _ => 0) 1 2) 2 20) 3 120)))] [.ref a0, .int x0] (fun u : Unit => some (.int 0)) (fun _ => True) (fun u : Unit => [(a0, .inr (12, [.ref a1, .ref a2, .ref a3, .ref a4, .ref a5, .int 0, .ref a6, .int 0, .int 0, .int 0, .int 0, .int 0, .int 0, .int 0, .int 0, .int 0, .int 0, .int (-1), .ref a7, .ref a8, .int 0, .ref a9, .int 0, .ref a10, .ref a11, .ref a12, .ref a13, .ref a14, .int 0, .ref a15, .ref a16, .ref a17])), (a1, .inl (cy 1, 1868, .inl (upd (upd (upd (fun _ => 0) 1 2) 2 20) 3 120)))]) := by
  refine Ct.of (by decide +kernel) (Nat.le_of_ble_eq_true rfl) ?_
  intro p e s m args below meth c A ls C hr hlocks hml hnm w hl
  have hl : lv_has ls 2 [(0, .ref a0), (1, .int x0)] := hl
  refine lv_iload_n C.1 C.2.1 dX12_isTurn_0 rfl (lv_at hl 1 rfl) ?_
  refine lv_i2l (v := (Int32.toInt64 x0)) C.1 C.2.1 dX12_isTurn_1 rfl ?_
  refine lv_lconst (v := 0) C.1 C.2.1 dX12_isTurn_2 (by decide) ?_
  refine lv_aload_n C.1 C.2.1 dX12_isTurn_3 rfl (lv_at hl 0 rfl) ?_
  refine r_get C w 0 rfl rfl 0 (by decide) fl_RX12_9 (v := .ref a1) rfl dX12_isTurn_4 ?_
  refine lv_bipush (v := 6) C.1 C.2.1 dX12_isTurn_7 (by decide) ?_
  refine r_iald C w 1 rfl (v := 0) (vinD (by decide)) rfl dX12_isTurn_9 ?_
  refine lv_iconst (v := 1) C.1 C.2.1 dX12_isTurn_10 (by decide) ?_
  refine r_isub C (v := (-1)) dX12_isTurn_11 (by decide) ?_
  refine lv_i2l (v := (-1)) C.1 C.2.1 dX12_isTurn_12 (by decide) ?_
  refine r_callS C w fs_RX12_133 (c_X12_within_5 l D cy x0 k0) (hl.1.trans hml.symm) [] [0, 1] (wr := [(a0, .inr (12, [.ref a1, .ref a2, .ref a3, .ref a4, .ref a5, .int 0, .ref a6, .int 0, .int 0, .int 0, .int 0, .int 0, .int 0, .int 0, .int 0, .int 0, .int 0, .int (-1), .ref a7, .ref a8, .int 0, .ref a9, .int 0, .ref a10, .ref a11, .ref a12, .ref a13, .ref a14, .int 0, .ref a15, .ref a16, .ref a17])), (a1, .inl (cy 1, 1868, .inl (upd (upd (upd (fun _ => 0) 1 2) 2 20) 3 120)))]) ⟨rfl, rfl, rfl, rfl, by decide⟩ rfl rfl ⟨Nat.le_of_ble_eq_true rfl, Nat.le_of_ble_eq_true rfl, Nat.le_of_ble_eq_true rfl⟩ 0 0 ⟨rfl, rfl, Nat.le_of_ble_eq_true rfl, Nat.le_of_ble_eq_true rfl⟩ dX12_isTurn_13 (fun u H locs hp w => ?_)
  have w : Wd D A s.heap [(a0, .inr (12, [.ref a1, .ref a2, .ref a3, .ref a4, .ref a5, .int 0, .ref a6, .int 0, .int 0, .int 0, .int 0, .int 0, .int 0, .int 0, .int 0, .int 0, .int 0, .int (-1), .ref a7, .ref a8, .int 0, .ref a9, .int 0, .ref a10, .ref a11, .ref a12, .ref a13, .ref a14, .int 0, .ref a15, .ref a16, .ref a17])), (a1, .inl (cy 1, 1868, .inl (upd (upd (upd (fun _ => 0) 1 2) 2 20) 3 120)))] _ _ := w
  refine r_top (g2 := F0 m 16 ls [.int 0]) rfl ?_
  exact r_iret C w hlocks () hr rfl rfl trivial [0, 1] rfl rfl ⟨Nat.le_of_ble_eq_true rfl, Nat.le_of_ble_eq_true rfl⟩ dX12_isTurn_16
theorem fv_RX12_284 : FV RX12 284 yX12_isTurn cX12_isTurn 2 (some .boolean) 1 := ⟨⟨gw_mem (by decide +kernel) (by decide +kernel), gw_mem (by decide +kernel) (by decide +kernel), gw_mem (by decide +kernel) (by decide +kernel), gw_mem (by decide +kernel) (by decide +kernel), gw_mem (by decide +kernel) (by decide +kernel)⟩, ⟨by decide +kernel, by decide +kernel, by decide +kernel⟩⟩
theorem dX12_turn_10 : decode cX12_turn 10 = .ok (.ifCond .eq 11, 3) := by decide +kernel
theorem dX12_turn_21 : decode cX12_turn 21 = .ok (.aload_n 0, 1) := by decide +kernel
theorem dX12_turn_22 : decode cX12_turn 22 = .ok (.iconst 1, 1) := by decide +kernel
theorem dX12_turn_23 : decode cX12_turn 23 = .ok (.invokevirtual 237, 3) := by decide +kernel
theorem dX12_turn_26 : decode cX12_turn 26 = .ok (.ireturn, 1) := by decide +kernel
set_option maxRecDepth 100000 in
set_option maxHeartbeats 4000000 in
theorem c_X12_turn_0 (l : Launch) (D : va_G) (cy : Nat → ClassId) (a0 a1 a2 a3 a4 a5 a6 a7 a8 a9 a10 a11 a12 a13 a14 a15 a16 a17 : Nat) (x0 : Int32) (k0 : x0 < 0) : Ct l D cy yX12_turn cX12_turn 2 (some .int) 2 46 0 0 [(a0, .inr (12, [.ref a1, .ref a2, .ref a3, .ref a4, .ref a5, .int 0, .ref a6, .int 0, .int 0, .int 0, .int 0, .int 0, .int 0, .int 0, .int 0, .int 0, .int 0, .int (-1), .ref a7, .ref a8, .int 0, .ref a9, .int 0, .ref a10, .ref a11, .ref a12, .ref a13, .ref a14, .int 0, .ref a15, .ref a16, .ref a17])), (a1, .inl (cy 1, 1868, .inl (upd (upd (upd (fun _ => 0) 1 2) 2 20) 3 120)))] [.ref a0, .int x0] (fun u : Unit => some (.int 0)) (fun _ => True) (fun u : Unit => [(a1, .inl (cy 1, 1868, .inl (upd (upd (upd (fun _ => 0) 1 2) 2 20) 3 120))), (a0, .inr (12, [.ref a1, .ref a2, .ref a3, .ref a4, .ref a5, .int 1, .ref a6, .int 0, .int 0, .int 0, .int 0, .int 0, .int 0, .int 0, .int 0, .int 0, .int 0, .int (-1), .ref a7, .ref a8, .int 0, .ref a9, .int 0, .ref a10, .ref a11, .ref a12, .ref a13, .ref a14, .int 0, .ref a15, .ref a16, .ref a17]))]) := by
  refine Ct.of (by decide +kernel) (Nat.le_of_ble_eq_true rfl) ?_
  intro p e s m args below meth c A ls C hr hlocks hml hnm w hl
  have hl : lv_has ls 2 [(0, .ref a0), (1, .int x0)] := hl
  refine lv_aload_n C.1 C.2.1 dX12_turn_0 rfl (lv_at hl 0 rfl) ?_
  refine lv_iconst (v := 0) C.1 C.2.1 dX12_turn_1 (by decide) ?_
  refine r_put C w 0 rfl rfl 5 (by decide) fl_RX12_71 rfl (ty := .int) (tyX12_ok 5 (by decide)) rfl rfl (Nat.le_of_ble_eq_true rfl) [(a0, .inr (12, [.ref a1, .ref a2, .ref a3, .ref a4, .ref a5, .int 0, .ref a6, .int 0, .int 0, .int 0, .int 0, .int 0, .int 0, .int 0, .int 0, .int 0, .int 0, .int (-1), .ref a7, .ref a8, .int 0, .ref a9, .int 0, .ref a10, .ref a11, .ref a12, .ref a13, .ref a14, .int 0, .ref a15, .ref a16, .ref a17])), (a1, .inl (cy 1, 1868, .inl (upd (upd (upd (fun _ => 0) 1 2) 2 20) 3 120)))] rfl dX12_turn_2 (fun H locs w => ?_)
  refine lv_aload_n C.1 C.2.1 dX12_turn_5 rfl (lv_at hl 0 rfl) ?_
  refine lv_iload_n C.1 C.2.1 dX12_turn_6 rfl (lv_at hl 1 rfl) ?_
  refine r_callV C w fv_RX12_284 (c_X12_isTurn_0 l D cy a0 a1 a2 a3 a4 a5 a6 a7 a8 a9 a10 a11 a12 a13 a14 a15 a16 a17 x0 k0) (hl.1.trans hml.symm) [0, 1] [] (wr := []) ⟨rfl, rfl, rfl, rfl, by decide⟩ 0 rfl rfl rfl rfl rfl ⟨Nat.le_of_ble_eq_true rfl, Nat.le_of_ble_eq_true rfl, Nat.le_of_ble_eq_true rfl⟩ 0 0 ⟨rfl, rfl, Nat.le_of_ble_eq_true rfl, Nat.le_of_ble_eq_true rfl⟩ dX12_turn_7 (fun u H locs hp w => ?_)
  have w : Wd D A s.heap [(a0, .inr (12, [.ref a1, .ref a2, .ref a3, .ref a4, .ref a5, .int 0, .ref a6, .int 0, .int 0, .int 0, .int 0, .int 0, .int 0, .int 0, .int 0, .int 0, .int 0, .int (-1), .ref a7, .ref a8, .int 0, .ref a9, .int 0, .ref a10, .ref a11, .ref a12, .ref a13, .ref a14, .int 0, .ref a15, .ref a16, .ref a17])), (a1, .inl (cy 1, 1868, .inl (upd (upd (upd (fun _ => 0) 1 2) 2 20) 3 120)))] _ _ := w
  refine r_top (g2 := F0 m 10 ls [.int 0]) rfl ?_
  refine b_if_eq_t C (tgt := 21) dX12_turn_10 (by decide) (by decide) ?_
  refine lv_aload_n C.1 C.2.1 dX12_turn_21 rfl (lv_at hl 0 rfl) ?_
  refine lv_iconst (v := 1) C.1 C.2.1 dX12_turn_22 (by decide) ?_
  refine r_callV C w fv_RX12_237 (c_X12_fails_0 l D cy a0 a1 a2 a3 a4 a5 a6 a7 a8 a9 a10 a11 a12 a13 a14 a15 a16 a17) (hl.1.trans hml.symm) [0] [1] (wr := [(a1, .inl (cy 1, 1868, .inl (upd (upd (upd (fun _ => 0) 1 2) 2 20) 3 120)))]) ⟨rfl, rfl, rfl, rfl, by decide⟩ 0 rfl rfl rfl rfl rfl ⟨Nat.le_of_ble_eq_true rfl, Nat.le_of_ble_eq_true rfl, Nat.le_of_ble_eq_true rfl⟩ 0 0 ⟨rfl, rfl, Nat.le_of_ble_eq_true rfl, Nat.le_of_ble_eq_true rfl⟩ dX12_turn_23 (fun u H locs hp w => ?_)
  have w : Wd D A s.heap [(a1, .inl (cy 1, 1868, .inl (upd (upd (upd (fun _ => 0) 1 2) 2 20) 3 120))), (a0, .inr (12, [.ref a1, .ref a2, .ref a3, .ref a4, .ref a5, .int 1, .ref a6, .int 0, .int 0, .int 0, .int 0, .int 0, .int 0, .int 0, .int 0, .int 0, .int 0, .int (-1), .ref a7, .ref a8, .int 0, .ref a9, .int 0, .ref a10, .ref a11, .ref a12, .ref a13, .ref a14, .int 0, .ref a15, .ref a16, .ref a17]))] _ _ := w
  refine r_top (g2 := F0 m 26 ls [.int 0]) rfl ?_
  exact r_iret C w hlocks () hr rfl rfl trivial [0, 1] rfl rfl ⟨Nat.le_of_ble_eq_true rfl, Nat.le_of_ble_eq_true rfl⟩ dX12_turn_26
set_option maxRecDepth 100000 in
set_option maxHeartbeats 4000000 in
theorem c_X12_turn_1 (l : Launch) (D : va_G) (cy : Nat → ClassId) (a0 a1 a2 a3 a4 a5 a6 a7 a8 a9 a10 a11 a12 a13 a14 a15 a16 a17 : Nat) (x0 : Int32) (k0 : ¬ x0 < 0) : Ct l D cy yX12_turn cX12_turn 2 (some .int) 2 46 0 0 [(a0, .inr (12, [.ref a1, .ref a2, .ref a3, .ref a4, .ref a5, .int 0, .ref a6, .int 0, .int 0, .int 0, .int 0, .int 0, .int 0, .int 0, .int 0, .int 0, .int 0, .int (-1), .ref a7, .ref a8, .int 0, .ref a9, .int 0, .ref a10, .ref a11, .ref a12, .ref a13, .ref a14, .int 0, .ref a15, .ref a16, .ref a17])), (a1, .inl (cy 1, 1868, .inl (upd (upd (upd (fun _ => 0) 1 2) 2 20) 3 120)))] [.ref a0, .int x0] (fun u : Unit => some (.int 0)) (fun _ => True) (fun u : Unit => [(a1, .inl (cy 1, 1868, .inl (upd (upd (upd (fun _ => 0) 1 2) 2 20) 3 120))), (a0, .inr (12, [.ref a1, .ref a2, .ref a3, .ref a4, .ref a5, .int 1, .ref a6, .int 0, .int 0, .int 0, .int 0, .int 0, .int 0, .int 0, .int 0, .int 0, .int 0, .int (-1), .ref a7, .ref a8, .int 0, .ref a9, .int 0, .ref a10, .ref a11, .ref a12, .ref a13, .ref a14, .int 0, .ref a15, .ref a16, .ref a17]))]) := by
  refine Ct.of (by decide +kernel) (Nat.le_of_ble_eq_true rfl) ?_
  intro p e s m args below meth c A ls C hr hlocks hml hnm w hl
  have hl : lv_has ls 2 [(0, .ref a0), (1, .int x0)] := hl
  refine lv_aload_n C.1 C.2.1 dX12_turn_0 rfl (lv_at hl 0 rfl) ?_
  refine lv_iconst (v := 0) C.1 C.2.1 dX12_turn_1 (by decide) ?_
  refine r_put C w 0 rfl rfl 5 (by decide) fl_RX12_71 rfl (ty := .int) (tyX12_ok 5 (by decide)) rfl rfl (Nat.le_of_ble_eq_true rfl) [(a0, .inr (12, [.ref a1, .ref a2, .ref a3, .ref a4, .ref a5, .int 0, .ref a6, .int 0, .int 0, .int 0, .int 0, .int 0, .int 0, .int 0, .int 0, .int 0, .int 0, .int (-1), .ref a7, .ref a8, .int 0, .ref a9, .int 0, .ref a10, .ref a11, .ref a12, .ref a13, .ref a14, .int 0, .ref a15, .ref a16, .ref a17])), (a1, .inl (cy 1, 1868, .inl (upd (upd (upd (fun _ => 0) 1 2) 2 20) 3 120)))] rfl dX12_turn_2 (fun H locs w => ?_)
  refine lv_aload_n C.1 C.2.1 dX12_turn_5 rfl (lv_at hl 0 rfl) ?_
  refine lv_iload_n C.1 C.2.1 dX12_turn_6 rfl (lv_at hl 1 rfl) ?_
  refine r_callV C w fv_RX12_284 (c_X12_isTurn_1 l D cy a0 a1 a2 a3 a4 a5 a6 a7 a8 a9 a10 a11 a12 a13 a14 a15 a16 a17 x0 k0) (hl.1.trans hml.symm) [0, 1] [] (wr := []) ⟨rfl, rfl, rfl, rfl, by decide⟩ 0 rfl rfl rfl rfl rfl ⟨Nat.le_of_ble_eq_true rfl, Nat.le_of_ble_eq_true rfl, Nat.le_of_ble_eq_true rfl⟩ 0 0 ⟨rfl, rfl, Nat.le_of_ble_eq_true rfl, Nat.le_of_ble_eq_true rfl⟩ dX12_turn_7 (fun u H locs hp w => ?_)
  have w : Wd D A s.heap [(a0, .inr (12, [.ref a1, .ref a2, .ref a3, .ref a4, .ref a5, .int 0, .ref a6, .int 0, .int 0, .int 0, .int 0, .int 0, .int 0, .int 0, .int 0, .int 0, .int 0, .int (-1), .ref a7, .ref a8, .int 0, .ref a9, .int 0, .ref a10, .ref a11, .ref a12, .ref a13, .ref a14, .int 0, .ref a15, .ref a16, .ref a17])), (a1, .inl (cy 1, 1868, .inl (upd (upd (upd (fun _ => 0) 1 2) 2 20) 3 120)))] _ _ := w
  refine r_top (g2 := F0 m 10 ls [.int 0]) rfl ?_
  refine b_if_eq_t C (tgt := 21) dX12_turn_10 (by decide) (by decide) ?_
  refine lv_aload_n C.1 C.2.1 dX12_turn_21 rfl (lv_at hl 0 rfl) ?_
  refine lv_iconst (v := 1) C.1 C.2.1 dX12_turn_22 (by decide) ?_
  refine r_callV C w fv_RX12_237 (c_X12_fails_0 l D cy a0 a1 a2 a3 a4 a5 a6 a7 a8 a9 a10 a11 a12 a13 a14 a15 a16 a17) (hl.1.trans hml.symm) [0] [1] (wr := [(a1, .inl (cy 1, 1868, .inl (upd (upd (upd (fun _ => 0) 1 2) 2 20) 3 120)))]) ⟨rfl, rfl, rfl, rfl, by decide⟩ 0 rfl rfl rfl rfl rfl ⟨Nat.le_of_ble_eq_true rfl, Nat.le_of_ble_eq_true rfl, Nat.le_of_ble_eq_true rfl⟩ 0 0 ⟨rfl, rfl, Nat.le_of_ble_eq_true rfl, Nat.le_of_ble_eq_true rfl⟩ dX12_turn_23 (fun u H locs hp w => ?_)
  have w : Wd D A s.heap [(a1, .inl (cy 1, 1868, .inl (upd (upd (upd (fun _ => 0) 1 2) 2 20) 3 120))), (a0, .inr (12, [.ref a1, .ref a2, .ref a3, .ref a4, .ref a5, .int 1, .ref a6, .int 0, .int 0, .int 0, .int 0, .int 0, .int 0, .int 0, .int 0, .int 0, .int 0, .int (-1), .ref a7, .ref a8, .int 0, .ref a9, .int 0, .ref a10, .ref a11, .ref a12, .ref a13, .ref a14, .int 0, .ref a15, .ref a16, .ref a17]))] _ _ := w
  refine r_top (g2 := F0 m 26 ls [.int 0]) rfl ?_
  exact r_iret C w hlocks () hr rfl rfl trivial [0, 1] rfl rfl ⟨Nat.le_of_ble_eq_true rfl, Nat.le_of_ble_eq_true rfl⟩ dX12_turn_26
theorem dX12_so_0 : decode cX12_so 0 = .ok (.aload_n 0, 1) := by decide +kernel
theorem dX12_so_1 : decode cX12_so 1 = .ok (.aload_n 0, 1) := by decide +kernel
theorem dX12_so_2 : decode cX12_so 2 = .ok (.iload_n 1, 1) := by decide +kernel
theorem dX12_so_3 : decode cX12_so 3 = .ok (.invokevirtual 284, 3) := by decide +kernel
theorem dX12_so_6 : decode cX12_so 6 = .ok (.ifCond .eq 15, 3) := by decide +kernel
theorem dX12_so_21 : decode cX12_so 21 = .ok (.iconst 1, 1) := by decide +kernel
theorem dX12_so_22 : decode cX12_so 22 = .ok (.putfield 71, 3) := by decide +kernel
theorem dX12_so_25 : decode cX12_so 25 = .ok (.aload_n 0, 1) := by decide +kernel
theorem dX12_so_26 : decode cX12_so 26 = .ok (.getfield 71, 3) := by decide +kernel
theorem dX12_so_29 : decode cX12_so 29 = .ok (.ifCond .le 5, 3) := by decide +kernel
theorem dX12_so_32 : decode cX12_so 32 = .ok (.iconst 0, 1) := by decide +kernel
theorem dX12_so_33 : decode cX12_so 33 = .ok (.ireturn, 1) := by decide +kernel
set_option maxRecDepth 100000 in
set_option maxHeartbeats 4000000 in
theorem c_X12_so_0 (l : Launch) (D : va_G) (cy : Nat → ClassId) (a0 a1 a2 a3 a4 a5 a6 a7 a8 a9 a10 a11 a12 a13 a14 a15 a16 a17 : Nat) (x0 : Int32) (x1 : Int32) (k0 : x0 < 0) : Ct l D cy yX12_so cX12_so 3 (some .boolean) 2 46 0 0 [(a0, .inr (12, [.ref a1, .ref a2, .ref a3, .ref a4, .ref a5, .int 0, .ref a6, .int 0, .int 0, .int 0, .int 0, .int 0, .int 0, .int 0, .int 0, .int 0, .int 0, .int (-1), .ref a7, .ref a8, .int 0, .ref a9, .int 0, .ref a10, .ref a11, .ref a12, .ref a13, .ref a14, .int 0, .ref a15, .ref a16, .ref a17])), (a1, .inl (cy 1, 1868, .inl (upd (upd (upd (fun _ => 0) 1 2) 2 20) 3 120)))] [.ref a0, .int x0, .int x1] (fun u : Unit => some (.int 0)) (fun _ => True) (fun u : Unit => [(a0, .inr (12, [.ref a1, .ref a2, .ref a3, .ref a4, .ref a5, .int 1, .ref a6, .int 0, .int 0, .int 0, .int 0, .int 0, .int 0, .int 0, .int 0, .int 0, .int 0, .int (-1), .ref a7, .ref a8, .int 0, .ref a9, .int 0, .ref a10, .ref a11, .ref a12, .ref a13, .ref a14, .int 0, .ref a15, .ref a16, .ref a17])), (a1, .inl (cy 1, 1868, .inl (upd (upd (upd (fun _ => 0) 1 2) 2 20) 3 120)))]) := by
  refine Ct.of (by decide +kernel) (Nat.le_of_ble_eq_true rfl) ?_
  intro p e s m args below meth c A ls C hr hlocks hml hnm w hl
  have hl : lv_has ls 3 [(0, .ref a0), (1, .int x0), (2, .int x1)] := hl
  refine lv_aload_n C.1 C.2.1 dX12_so_0 rfl (lv_at hl 0 rfl) ?_
  refine lv_aload_n C.1 C.2.1 dX12_so_1 rfl (lv_at hl 0 rfl) ?_
  refine lv_iload_n C.1 C.2.1 dX12_so_2 rfl (lv_at hl 1 rfl) ?_
  refine r_callV C w fv_RX12_284 (c_X12_isTurn_0 l D cy a0 a1 a2 a3 a4 a5 a6 a7 a8 a9 a10 a11 a12 a13 a14 a15 a16 a17 x0 k0) (hl.1.trans hml.symm) [0, 1] [] (wr := []) ⟨rfl, rfl, rfl, rfl, by decide⟩ 0 rfl rfl rfl rfl rfl ⟨Nat.le_of_ble_eq_true rfl, Nat.le_of_ble_eq_true rfl, Nat.le_of_ble_eq_true rfl⟩ 0 0 ⟨rfl, rfl, Nat.le_of_ble_eq_true rfl, Nat.le_of_ble_eq_true rfl⟩ dX12_so_3 (fun u H locs hp w => ?_)
  have w : Wd D A s.heap [(a0, .inr (12, [.ref a1, .ref a2, .ref a3, .ref a4, .ref a5, .int 0, .ref a6, .int 0, .int 0, .int 0, .int 0, .int 0, .int 0, .int 0, .int 0, .int 0, .int 0, .int (-1), .ref a7, .ref a8, .int 0, .ref a9, .int 0, .ref a10, .ref a11, .ref a12, .ref a13, .ref a14, .int 0, .ref a15, .ref a16, .ref a17])), (a1, .inl (cy 1, 1868, .inl (upd (upd (upd (fun _ => 0) 1 2) 2 20) 3 120)))] _ _ := w
  refine r_top (g2 := F0 m 6 ls [.int 0, .ref a0]) rfl ?_
  refine b_if_eq_t C (tgt := 21) dX12_so_6 (by decide) (by decide) ?_
  refine lv_iconst (v := 1) C.1 C.2.1 dX12_so_21 (by decide) ?_
  refine r_put C w 0 rfl rfl 5 (by decide) fl_RX12_71 rfl (ty := .int) (tyX12_ok 5 (by decide)) rfl rfl (Nat.le_of_ble_eq_true rfl) [(a0, .inr (12, [.ref a1, .ref a2, .ref a3, .ref a4, .ref a5, .int 1, .ref a6, .int 0, .int 0, .int 0, .int 0, .int 0, .int 0, .int 0, .int 0, .int 0, .int 0, .int (-1), .ref a7, .ref a8, .int 0, .ref a9, .int 0, .ref a10, .ref a11, .ref a12, .ref a13, .ref a14, .int 0, .ref a15, .ref a16, .ref a17])), (a1, .inl (cy 1, 1868, .inl (upd (upd (upd (fun _ => 0) 1 2) 2 20) 3 120)))] rfl dX12_so_22 (fun H locs w => ?_)
  refine lv_aload_n C.1 C.2.1 dX12_so_25 rfl (lv_at hl 0 rfl) ?_
  refine r_get C w 0 rfl rfl 5 (by decide) fl_RX12_71 (v := .int 1) rfl dX12_so_26 ?_
  refine b_if_le_f C (tgt := 34) dX12_so_29 (by decide) (by decide) ?_
  refine lv_iconst (v := 0) C.1 C.2.1 dX12_so_32 (by decide) ?_
  exact r_iret C w hlocks () hr rfl rfl trivial [0, 1] rfl rfl ⟨Nat.le_of_ble_eq_true rfl, Nat.le_of_ble_eq_true rfl⟩ dX12_so_33
set_option maxRecDepth 100000 in
set_option maxHeartbeats 4000000 in
theorem c_X12_so_1 (l : Launch) (D : va_G) (cy : Nat → ClassId) (a0 a1 a2 a3 a4 a5 a6 a7 a8 a9 a10 a11 a12 a13 a14 a15 a16 a17 : Nat) (x0 : Int32) (x1 : Int32) (k0 : ¬ x0 < 0) : Ct l D cy yX12_so cX12_so 3 (some .boolean) 2 46 0 0 [(a0, .inr (12, [.ref a1, .ref a2, .ref a3, .ref a4, .ref a5, .int 0, .ref a6, .int 0, .int 0, .int 0, .int 0, .int 0, .int 0, .int 0, .int 0, .int 0, .int 0, .int (-1), .ref a7, .ref a8, .int 0, .ref a9, .int 0, .ref a10, .ref a11, .ref a12, .ref a13, .ref a14, .int 0, .ref a15, .ref a16, .ref a17])), (a1, .inl (cy 1, 1868, .inl (upd (upd (upd (fun _ => 0) 1 2) 2 20) 3 120)))] [.ref a0, .int x0, .int x1] (fun u : Unit => some (.int 0)) (fun _ => True) (fun u : Unit => [(a0, .inr (12, [.ref a1, .ref a2, .ref a3, .ref a4, .ref a5, .int 1, .ref a6, .int 0, .int 0, .int 0, .int 0, .int 0, .int 0, .int 0, .int 0, .int 0, .int 0, .int (-1), .ref a7, .ref a8, .int 0, .ref a9, .int 0, .ref a10, .ref a11, .ref a12, .ref a13, .ref a14, .int 0, .ref a15, .ref a16, .ref a17])), (a1, .inl (cy 1, 1868, .inl (upd (upd (upd (fun _ => 0) 1 2) 2 20) 3 120)))]) := by
  refine Ct.of (by decide +kernel) (Nat.le_of_ble_eq_true rfl) ?_
  intro p e s m args below meth c A ls C hr hlocks hml hnm w hl
  have hl : lv_has ls 3 [(0, .ref a0), (1, .int x0), (2, .int x1)] := hl
  refine lv_aload_n C.1 C.2.1 dX12_so_0 rfl (lv_at hl 0 rfl) ?_
  refine lv_aload_n C.1 C.2.1 dX12_so_1 rfl (lv_at hl 0 rfl) ?_
  refine lv_iload_n C.1 C.2.1 dX12_so_2 rfl (lv_at hl 1 rfl) ?_
  refine r_callV C w fv_RX12_284 (c_X12_isTurn_1 l D cy a0 a1 a2 a3 a4 a5 a6 a7 a8 a9 a10 a11 a12 a13 a14 a15 a16 a17 x0 k0) (hl.1.trans hml.symm) [0, 1] [] (wr := []) ⟨rfl, rfl, rfl, rfl, by decide⟩ 0 rfl rfl rfl rfl rfl ⟨Nat.le_of_ble_eq_true rfl, Nat.le_of_ble_eq_true rfl, Nat.le_of_ble_eq_true rfl⟩ 0 0 ⟨rfl, rfl, Nat.le_of_ble_eq_true rfl, Nat.le_of_ble_eq_true rfl⟩ dX12_so_3 (fun u H locs hp w => ?_)
  have w : Wd D A s.heap [(a0, .inr (12, [.ref a1, .ref a2, .ref a3, .ref a4, .ref a5, .int 0, .ref a6, .int 0, .int 0, .int 0, .int 0, .int 0, .int 0, .int 0, .int 0, .int 0, .int 0, .int (-1), .ref a7, .ref a8, .int 0, .ref a9, .int 0, .ref a10, .ref a11, .ref a12, .ref a13, .ref a14, .int 0, .ref a15, .ref a16, .ref a17])), (a1, .inl (cy 1, 1868, .inl (upd (upd (upd (fun _ => 0) 1 2) 2 20) 3 120)))] _ _ := w
  refine r_top (g2 := F0 m 6 ls [.int 0, .ref a0]) rfl ?_
  refine b_if_eq_t C (tgt := 21) dX12_so_6 (by decide) (by decide) ?_
  refine lv_iconst (v := 1) C.1 C.2.1 dX12_so_21 (by decide) ?_
  refine r_put C w 0 rfl rfl 5 (by decide) fl_RX12_71 rfl (ty := .int) (tyX12_ok 5 (by decide)) rfl rfl (Nat.le_of_ble_eq_true rfl) [(a0, .inr (12, [.ref a1, .ref a2, .ref a3, .ref a4, .ref a5, .int 1, .ref a6, .int 0, .int 0, .int 0, .int 0, .int 0, .int 0, .int 0, .int 0, .int 0, .int 0, .int (-1), .ref a7, .ref a8, .int 0, .ref a9, .int 0, .ref a10, .ref a11, .ref a12, .ref a13, .ref a14, .int 0, .ref a15, .ref a16, .ref a17])), (a1, .inl (cy 1, 1868, .inl (upd (upd (upd (fun _ => 0) 1 2) 2 20) 3 120)))] rfl dX12_so_22 (fun H locs w => ?_)
  refine lv_aload_n C.1 C.2.1 dX12_so_25 rfl (lv_at hl 0 rfl) ?_
  refine r_get C w 0 rfl rfl 5 (by decide) fl_RX12_71 (v := .int 1) rfl dX12_so_26 ?_
  refine b_if_le_f C (tgt := 34) dX12_so_29 (by decide) (by decide) ?_
  refine lv_iconst (v := 0) C.1 C.2.1 dX12_so_32 (by decide) ?_
  exact r_iret C w hlocks () hr rfl rfl trivial [0, 1] rfl rfl ⟨Nat.le_of_ble_eq_true rfl, Nat.le_of_ble_eq_true rfl⟩ dX12_so_33
theorem dX12_may_0 : decode cX12_may 0 = .ok (.aload_n 0, 1) := by decide +kernel
theorem dX12_may_1 : decode cX12_may 1 = .ok (.aload_n 0, 1) := by decide +kernel
theorem dX12_may_2 : decode cX12_may 2 = .ok (.iload_n 1, 1) := by decide +kernel
theorem dX12_may_3 : decode cX12_may 3 = .ok (.invokevirtual 284, 3) := by decide +kernel
theorem dX12_may_6 : decode cX12_may 6 = .ok (.ifCond .eq 15, 3) := by decide +kernel
theorem dX12_may_21 : decode cX12_may 21 = .ok (.iconst 1, 1) := by decide +kernel
theorem dX12_may_22 : decode cX12_may 22 = .ok (.putfield 71, 3) := by decide +kernel
theorem dX12_may_25 : decode cX12_may 25 = .ok (.aload_n 0, 1) := by decide +kernel
theorem dX12_may_26 : decode cX12_may 26 = .ok (.getfield 71, 3) := by decide +kernel
theorem dX12_may_29 : decode cX12_may 29 = .ok (.ifCond .le 5, 3) := by decide +kernel
theorem dX12_may_32 : decode cX12_may 32 = .ok (.iconst 0, 1) := by decide +kernel
theorem dX12_may_33 : decode cX12_may 33 = .ok (.ireturn, 1) := by decide +kernel
set_option maxRecDepth 100000 in
set_option maxHeartbeats 4000000 in
theorem c_X12_may_0 (l : Launch) (D : va_G) (cy : Nat → ClassId) (a0 a1 a2 a3 a4 a5 a6 a7 a8 a9 a10 a11 a12 a13 a14 a15 a16 a17 : Nat) (x0 : Int32) (x1 : Int32) (k0 : x0 < 0) : Ct l D cy yX12_may cX12_may 3 (some .boolean) 2 46 0 0 [(a0, .inr (12, [.ref a1, .ref a2, .ref a3, .ref a4, .ref a5, .int 0, .ref a6, .int 0, .int 0, .int 0, .int 0, .int 0, .int 0, .int 0, .int 0, .int 0, .int 0, .int (-1), .ref a7, .ref a8, .int 0, .ref a9, .int 0, .ref a10, .ref a11, .ref a12, .ref a13, .ref a14, .int 0, .ref a15, .ref a16, .ref a17])), (a1, .inl (cy 1, 1868, .inl (upd (upd (upd (fun _ => 0) 1 2) 2 20) 3 120)))] [.ref a0, .int x0, .int x1] (fun u : Unit => some (.int 0)) (fun _ => True) (fun u : Unit => [(a0, .inr (12, [.ref a1, .ref a2, .ref a3, .ref a4, .ref a5, .int 1, .ref a6, .int 0, .int 0, .int 0, .int 0, .int 0, .int 0, .int 0, .int 0, .int 0, .int 0, .int (-1), .ref a7, .ref a8, .int 0, .ref a9, .int 0, .ref a10, .ref a11, .ref a12, .ref a13, .ref a14, .int 0, .ref a15, .ref a16, .ref a17])), (a1, .inl (cy 1, 1868, .inl (upd (upd (upd (fun _ => 0) 1 2) 2 20) 3 120)))]) := by
  refine Ct.of (by decide +kernel) (Nat.le_of_ble_eq_true rfl) ?_
  intro p e s m args below meth c A ls C hr hlocks hml hnm w hl
  have hl : lv_has ls 3 [(0, .ref a0), (1, .int x0), (2, .int x1)] := hl
  refine lv_aload_n C.1 C.2.1 dX12_may_0 rfl (lv_at hl 0 rfl) ?_
  refine lv_aload_n C.1 C.2.1 dX12_may_1 rfl (lv_at hl 0 rfl) ?_
  refine lv_iload_n C.1 C.2.1 dX12_may_2 rfl (lv_at hl 1 rfl) ?_
  refine r_callV C w fv_RX12_284 (c_X12_isTurn_0 l D cy a0 a1 a2 a3 a4 a5 a6 a7 a8 a9 a10 a11 a12 a13 a14 a15 a16 a17 x0 k0) (hl.1.trans hml.symm) [0, 1] [] (wr := []) ⟨rfl, rfl, rfl, rfl, by decide⟩ 0 rfl rfl rfl rfl rfl ⟨Nat.le_of_ble_eq_true rfl, Nat.le_of_ble_eq_true rfl, Nat.le_of_ble_eq_true rfl⟩ 0 0 ⟨rfl, rfl, Nat.le_of_ble_eq_true rfl, Nat.le_of_ble_eq_true rfl⟩ dX12_may_3 (fun u H locs hp w => ?_)
  have w : Wd D A s.heap [(a0, .inr (12, [.ref a1, .ref a2, .ref a3, .ref a4, .ref a5, .int 0, .ref a6, .int 0, .int 0, .int 0, .int 0, .int 0, .int 0, .int 0, .int 0, .int 0, .int 0, .int (-1), .ref a7, .ref a8, .int 0, .ref a9, .int 0, .ref a10, .ref a11, .ref a12, .ref a13, .ref a14, .int 0, .ref a15, .ref a16, .ref a17])), (a1, .inl (cy 1, 1868, .inl (upd (upd (upd (fun _ => 0) 1 2) 2 20) 3 120)))] _ _ := w
  refine r_top (g2 := F0 m 6 ls [.int 0, .ref a0]) rfl ?_
  refine b_if_eq_t C (tgt := 21) dX12_may_6 (by decide) (by decide) ?_
  refine lv_iconst (v := 1) C.1 C.2.1 dX12_may_21 (by decide) ?_
  refine r_put C w 0 rfl rfl 5 (by decide) fl_RX12_71 rfl (ty := .int) (tyX12_ok 5 (by decide)) rfl rfl (Nat.le_of_ble_eq_true rfl) [(a0, .inr (12, [.ref a1, .ref a2, .ref a3, .ref a4, .ref a5, .int 1, .ref a6, .int 0, .int 0, .int 0, .int 0, .int 0, .int 0, .int 0, .int 0, .int 0, .int 0, .int (-1), .ref a7, .ref a8, .int 0, .ref a9, .int 0, .ref a10, .ref a11, .ref a12, .ref a13, .ref a14, .int 0, .ref a15, .ref a16, .ref a17])), (a1, .inl (cy 1, 1868, .inl (upd (upd (upd (fun _ => 0) 1 2) 2 20) 3 120)))] rfl dX12_may_22 (fun H locs w => ?_)
  refine lv_aload_n C.1 C.2.1 dX12_may_25 rfl (lv_at hl 0 rfl) ?_
  refine r_get C w 0 rfl rfl 5 (by decide) fl_RX12_71 (v := .int 1) rfl dX12_may_26 ?_
  refine b_if_le_f C (tgt := 34) dX12_may_29 (by decide) (by decide) ?_
  refine lv_iconst (v := 0) C.1 C.2.1 dX12_may_32 (by decide) ?_
  exact r_iret C w hlocks () hr rfl rfl trivial [0, 1] rfl rfl ⟨Nat.le_of_ble_eq_true rfl, Nat.le_of_ble_eq_true rfl⟩ dX12_may_33
set_option maxRecDepth 100000 in
set_option maxHeartbeats 4000000 in
theorem c_X12_may_1 (l : Launch) (D : va_G) (cy : Nat → ClassId) (a0 a1 a2 a3 a4 a5 a6 a7 a8 a9 a10 a11 a12 a13 a14 a15 a16 a17 : Nat) (x0 : Int32) (x1 : Int32) (k0 : ¬ x0 < 0) : Ct l D cy yX12_may cX12_may 3 (some .boolean) 2 46 0 0 [(a0, .inr (12, [.ref a1, .ref a2, .ref a3, .ref a4, .ref a5, .int 0, .ref a6, .int 0, .int 0, .int 0, .int 0, .int 0, .int 0, .int 0, .int 0, .int 0, .int 0, .int (-1), .ref a7, .ref a8, .int 0, .ref a9, .int 0, .ref a10, .ref a11, .ref a12, .ref a13, .ref a14, .int 0, .ref a15, .ref a16, .ref a17])), (a1, .inl (cy 1, 1868, .inl (upd (upd (upd (fun _ => 0) 1 2) 2 20) 3 120)))] [.ref a0, .int x0, .int x1] (fun u : Unit => some (.int 0)) (fun _ => True) (fun u : Unit => [(a0, .inr (12, [.ref a1, .ref a2, .ref a3, .ref a4, .ref a5, .int 1, .ref a6, .int 0, .int 0, .int 0, .int 0, .int 0, .int 0, .int 0, .int 0, .int 0, .int 0, .int (-1), .ref a7, .ref a8, .int 0, .ref a9, .int 0, .ref a10, .ref a11, .ref a12, .ref a13, .ref a14, .int 0, .ref a15, .ref a16, .ref a17])), (a1, .inl (cy 1, 1868, .inl (upd (upd (upd (fun _ => 0) 1 2) 2 20) 3 120)))]) := by
  refine Ct.of (by decide +kernel) (Nat.le_of_ble_eq_true rfl) ?_
  intro p e s m args below meth c A ls C hr hlocks hml hnm w hl
  have hl : lv_has ls 3 [(0, .ref a0), (1, .int x0), (2, .int x1)] := hl
  refine lv_aload_n C.1 C.2.1 dX12_may_0 rfl (lv_at hl 0 rfl) ?_
  refine lv_aload_n C.1 C.2.1 dX12_may_1 rfl (lv_at hl 0 rfl) ?_
  refine lv_iload_n C.1 C.2.1 dX12_may_2 rfl (lv_at hl 1 rfl) ?_
  refine r_callV C w fv_RX12_284 (c_X12_isTurn_1 l D cy a0 a1 a2 a3 a4 a5 a6 a7 a8 a9 a10 a11 a12 a13 a14 a15 a16 a17 x0 k0) (hl.1.trans hml.symm) [0, 1] [] (wr := []) ⟨rfl, rfl, rfl, rfl, by decide⟩ 0 rfl rfl rfl rfl rfl ⟨Nat.le_of_ble_eq_true rfl, Nat.le_of_ble_eq_true rfl, Nat.le_of_ble_eq_true rfl⟩ 0 0 ⟨rfl, rfl, Nat.le_of_ble_eq_true rfl, Nat.le_of_ble_eq_true rfl⟩ dX12_may_3 (fun u H locs hp w => ?_)
  have w : Wd D A s.heap [(a0, .inr (12, [.ref a1, .ref a2, .ref a3, .ref a4, .ref a5, .int 0, .ref a6, .int 0, .int 0, .int 0, .int 0, .int 0, .int 0, .int 0, .int 0, .int 0, .int 0, .int (-1), .ref a7, .ref a8, .int 0, .ref a9, .int 0, .ref a10, .ref a11, .ref a12, .ref a13, .ref a14, .int 0, .ref a15, .ref a16, .ref a17])), (a1, .inl (cy 1, 1868, .inl (upd (upd (upd (fun _ => 0) 1 2) 2 20) 3 120)))] _ _ := w
  refine r_top (g2 := F0 m 6 ls [.int 0, .ref a0]) rfl ?_
  refine b_if_eq_t C (tgt := 21) dX12_may_6 (by decide) (by decide) ?_
  refine lv_iconst (v := 1) C.1 C.2.1 dX12_may_21 (by decide) ?_
  refine r_put C w 0 rfl rfl 5 (by decide) fl_RX12_71 rfl (ty := .int) (tyX12_ok 5 (by decide)) rfl rfl (Nat.le_of_ble_eq_true rfl) [(a0, .inr (12, [.ref a1, .ref a2, .ref a3, .ref a4, .ref a5, .int 1, .ref a6, .int 0, .int 0, .int 0, .int 0, .int 0, .int 0, .int 0, .int 0, .int 0, .int 0, .int (-1), .ref a7, .ref a8, .int 0, .ref a9, .int 0, .ref a10, .ref a11, .ref a12, .ref a13, .ref a14, .int 0, .ref a15, .ref a16, .ref a17])), (a1, .inl (cy 1, 1868, .inl (upd (upd (upd (fun _ => 0) 1 2) 2 20) 3 120)))] rfl dX12_may_22 (fun H locs w => ?_)
  refine lv_aload_n C.1 C.2.1 dX12_may_25 rfl (lv_at hl 0 rfl) ?_
  refine r_get C w 0 rfl rfl 5 (by decide) fl_RX12_71 (v := .int 1) rfl dX12_may_26 ?_
  refine b_if_le_f C (tgt := 34) dX12_may_29 (by decide) (by decide) ?_
  refine lv_iconst (v := 0) C.1 C.2.1 dX12_may_32 (by decide) ?_
  exact r_iret C w hlocks () hr rfl rfl trivial [0, 1] rfl rfl ⟨Nat.le_of_ble_eq_true rfl, Nat.le_of_ble_eq_true rfl⟩ dX12_may_33
theorem dX12_knows_0 : decode cX12_knows 0 = .ok (.aload_n 0, 1) := by decide +kernel
theorem dX12_knows_1 : decode cX12_knows 1 = .ok (.aload_n 0, 1) := by decide +kernel
theorem dX12_knows_2 : decode cX12_knows 2 = .ok (.iload_n 1, 1) := by decide +kernel
theorem dX12_knows_3 : decode cX12_knows 3 = .ok (.iload_n 2, 1) := by decide +kernel
theorem dX12_knows_4 : decode cX12_knows 4 = .ok (.iload_n 3, 1) := by decide +kernel
theorem dX12_knows_5 : decode cX12_knows 5 = .ok (.invokevirtual 348, 3) := by decide +kernel
theorem dX12_askFault_0 : decode cX12_askFault 0 = .ok (.aload_n 0, 1) := by decide +kernel
theorem dX12_askFault_1 : decode cX12_askFault 1 = .ok (.iload_n 1, 1) := by decide +kernel
theorem dX12_askFault_2 : decode cX12_askFault 2 = .ok (.invokevirtual 270, 3) := by decide +kernel
theorem dX12_askFault_5 : decode cX12_askFault 5 = .ok (.ifCond .eq 11, 3) := by decide +kernel
theorem dX12_askFault_16 : decode cX12_askFault 16 = .ok (.iconst 1, 1) := by decide +kernel
theorem dX12_askFault_17 : decode cX12_askFault 17 = .ok (.goto 16, 3) := by decide +kernel
theorem dX12_askFault_33 : decode cX12_askFault 33 = .ok (.ireturn, 1) := by decide +kernel
set_option maxRecDepth 100000 in
set_option maxHeartbeats 4000000 in
theorem c_X12_askFault_0 (l : Launch) (D : va_G) (cy : Nat → ClassId) (a0 a1 a2 a3 a4 a5 a6 a7 a8 a9 a10 a11 a12 a13 a14 a15 a16 a17 : Nat) (x0 : Int32) (x1 : Int32) (x2 : Int32) (k0 : x0 < 0) : Ct l D cy yX12_askFault cX12_askFault 4 (some .int) 2 46 0 0 [(a0, .inr (12, [.ref a1, .ref a2, .ref a3, .ref a4, .ref a5, .int 0, .ref a6, .int 0, .int 0, .int 0, .int 0, .int 0, .int 0, .int 0, .int 0, .int 0, .int 0, .int (-1), .ref a7, .ref a8, .int 0, .ref a9, .int 0, .ref a10, .ref a11, .ref a12, .ref a13, .ref a14, .int 0, .ref a15, .ref a16, .ref a17])), (a1, .inl (cy 1, 1868, .inl (upd (upd (upd (fun _ => 0) 1 2) 2 20) 3 120)))] [.ref a0, .int x0, .int x1, .int x2] (fun u : Unit => some (.int 1)) (fun _ => True) (fun u : Unit => [(a0, .inr (12, [.ref a1, .ref a2, .ref a3, .ref a4, .ref a5, .int 0, .ref a6, .int 0, .int 0, .int 0, .int 0, .int 0, .int 0, .int 0, .int 0, .int 0, .int 0, .int (-1), .ref a7, .ref a8, .int 0, .ref a9, .int 0, .ref a10, .ref a11, .ref a12, .ref a13, .ref a14, .int 0, .ref a15, .ref a16, .ref a17])), (a1, .inl (cy 1, 1868, .inl (upd (upd (upd (fun _ => 0) 1 2) 2 20) 3 120)))]) := by
  refine Ct.of (by decide +kernel) (Nat.le_of_ble_eq_true rfl) ?_
  intro p e s m args below meth c A ls C hr hlocks hml hnm w hl
  have hl : lv_has ls 4 [(0, .ref a0), (1, .int x0), (2, .int x1), (3, .int x2)] := hl
  refine lv_aload_n C.1 C.2.1 dX12_askFault_0 rfl (lv_at hl 0 rfl) ?_
  refine lv_iload_n C.1 C.2.1 dX12_askFault_1 rfl (lv_at hl 1 rfl) ?_
  refine r_callV C w fv_RX12_270 (c_X12_isSpeaker_0 l D cy a0 a1 a2 a3 a4 a5 a6 a7 a8 a9 a10 a11 a12 a13 a14 a15 a16 a17 x0 k0) (hl.1.trans hml.symm) [0, 1] [] (wr := []) ⟨rfl, rfl, rfl, rfl, by decide⟩ 0 rfl rfl rfl rfl rfl ⟨Nat.le_of_ble_eq_true rfl, Nat.le_of_ble_eq_true rfl, Nat.le_of_ble_eq_true rfl⟩ 0 0 ⟨rfl, rfl, Nat.le_of_ble_eq_true rfl, Nat.le_of_ble_eq_true rfl⟩ dX12_askFault_2 (fun u H locs hp w => ?_)
  have w : Wd D A s.heap [(a0, .inr (12, [.ref a1, .ref a2, .ref a3, .ref a4, .ref a5, .int 0, .ref a6, .int 0, .int 0, .int 0, .int 0, .int 0, .int 0, .int 0, .int 0, .int 0, .int 0, .int (-1), .ref a7, .ref a8, .int 0, .ref a9, .int 0, .ref a10, .ref a11, .ref a12, .ref a13, .ref a14, .int 0, .ref a15, .ref a16, .ref a17])), (a1, .inl (cy 1, 1868, .inl (upd (upd (upd (fun _ => 0) 1 2) 2 20) 3 120)))] _ _ := w
  refine r_top (g2 := F0 m 5 ls [.int 0]) rfl ?_
  refine b_if_eq_t C (tgt := 16) dX12_askFault_5 (by decide) (by decide) ?_
  refine lv_iconst (v := 1) C.1 C.2.1 dX12_askFault_16 (by decide) ?_
  refine lv_goto (tgt := 33) C.1 C.2.1 dX12_askFault_17 (by decide) ?_
  exact r_iret C w hlocks () hr rfl rfl trivial [0, 1] rfl rfl ⟨Nat.le_of_ble_eq_true rfl, Nat.le_of_ble_eq_true rfl⟩ dX12_askFault_33
set_option maxRecDepth 100000 in
set_option maxHeartbeats 4000000 in
theorem c_X12_askFault_1 (l : Launch) (D : va_G) (cy : Nat → ClassId) (a0 a1 a2 a3 a4 a5 a6 a7 a8 a9 a10 a11 a12 a13 a14 a15 a16 a17 : Nat) (x0 : Int32) (x1 : Int32) (x2 : Int32) (k0 : ¬ x0 < 0) : Ct l D cy yX12_askFault cX12_askFault 4 (some .int) 2 46 0 0 [(a0, .inr (12, [.ref a1, .ref a2, .ref a3, .ref a4, .ref a5, .int 0, .ref a6, .int 0, .int 0, .int 0, .int 0, .int 0, .int 0, .int 0, .int 0, .int 0, .int 0, .int (-1), .ref a7, .ref a8, .int 0, .ref a9, .int 0, .ref a10, .ref a11, .ref a12, .ref a13, .ref a14, .int 0, .ref a15, .ref a16, .ref a17])), (a1, .inl (cy 1, 1868, .inl (upd (upd (upd (fun _ => 0) 1 2) 2 20) 3 120)))] [.ref a0, .int x0, .int x1, .int x2] (fun u : Unit => some (.int 1)) (fun _ => True) (fun u : Unit => [(a0, .inr (12, [.ref a1, .ref a2, .ref a3, .ref a4, .ref a5, .int 0, .ref a6, .int 0, .int 0, .int 0, .int 0, .int 0, .int 0, .int 0, .int 0, .int 0, .int 0, .int (-1), .ref a7, .ref a8, .int 0, .ref a9, .int 0, .ref a10, .ref a11, .ref a12, .ref a13, .ref a14, .int 0, .ref a15, .ref a16, .ref a17])), (a1, .inl (cy 1, 1868, .inl (upd (upd (upd (fun _ => 0) 1 2) 2 20) 3 120)))]) := by
  refine Ct.of (by decide +kernel) (Nat.le_of_ble_eq_true rfl) ?_
  intro p e s m args below meth c A ls C hr hlocks hml hnm w hl
  have hl : lv_has ls 4 [(0, .ref a0), (1, .int x0), (2, .int x1), (3, .int x2)] := hl
  refine lv_aload_n C.1 C.2.1 dX12_askFault_0 rfl (lv_at hl 0 rfl) ?_
  refine lv_iload_n C.1 C.2.1 dX12_askFault_1 rfl (lv_at hl 1 rfl) ?_
  refine r_callV C w fv_RX12_270 (c_X12_isSpeaker_1 l D cy a0 a1 a2 a3 a4 a5 a6 a7 a8 a9 a10 a11 a12 a13 a14 a15 a16 a17 x0 k0) (hl.1.trans hml.symm) [0, 1] [] (wr := []) ⟨rfl, rfl, rfl, rfl, by decide⟩ 0 rfl rfl rfl rfl rfl ⟨Nat.le_of_ble_eq_true rfl, Nat.le_of_ble_eq_true rfl, Nat.le_of_ble_eq_true rfl⟩ 0 0 ⟨rfl, rfl, Nat.le_of_ble_eq_true rfl, Nat.le_of_ble_eq_true rfl⟩ dX12_askFault_2 (fun u H locs hp w => ?_)
  have w : Wd D A s.heap [(a0, .inr (12, [.ref a1, .ref a2, .ref a3, .ref a4, .ref a5, .int 0, .ref a6, .int 0, .int 0, .int 0, .int 0, .int 0, .int 0, .int 0, .int 0, .int 0, .int 0, .int (-1), .ref a7, .ref a8, .int 0, .ref a9, .int 0, .ref a10, .ref a11, .ref a12, .ref a13, .ref a14, .int 0, .ref a15, .ref a16, .ref a17])), (a1, .inl (cy 1, 1868, .inl (upd (upd (upd (fun _ => 0) 1 2) 2 20) 3 120)))] _ _ := w
  refine r_top (g2 := F0 m 5 ls [.int 0]) rfl ?_
  refine b_if_eq_t C (tgt := 16) dX12_askFault_5 (by decide) (by decide) ?_
  refine lv_iconst (v := 1) C.1 C.2.1 dX12_askFault_16 (by decide) ?_
  refine lv_goto (tgt := 33) C.1 C.2.1 dX12_askFault_17 (by decide) ?_
  exact r_iret C w hlocks () hr rfl rfl trivial [0, 1] rfl rfl ⟨Nat.le_of_ble_eq_true rfl, Nat.le_of_ble_eq_true rfl⟩ dX12_askFault_33
theorem fv_RX12_348 : FV RX12 348 yX12_askFault cX12_askFault 4 (some .int) 3 := ⟨⟨gw_mem (by decide +kernel) (by decide +kernel), gw_mem (by decide +kernel) (by decide +kernel), gw_mem (by decide +kernel) (by decide +kernel), gw_mem (by decide +kernel) (by decide +kernel), gw_mem (by decide +kernel) (by decide +kernel)⟩, ⟨by decide +kernel, by decide +kernel, by decide +kernel⟩⟩
theorem dX12_knows_8 : decode cX12_knows 8 = .ok (.putfield 71, 3) := by decide +kernel
theorem dX12_knows_11 : decode cX12_knows 11 = .ok (.aload_n 0, 1) := by decide +kernel
theorem dX12_knows_12 : decode cX12_knows 12 = .ok (.getfield 71, 3) := by decide +kernel
theorem dX12_knows_15 : decode cX12_knows 15 = .ok (.ifCond .le 5, 3) := by decide +kernel
theorem dX12_knows_18 : decode cX12_knows 18 = .ok (.iconst 0, 1) := by decide +kernel
theorem dX12_knows_19 : decode cX12_knows 19 = .ok (.ireturn, 1) := by decide +kernel
set_option maxRecDepth 100000 in
set_option maxHeartbeats 4000000 in
theorem c_X12_knows_0 (l : Launch) (D : va_G) (cy : Nat → ClassId) (a0 a1 a2 a3 a4 a5 a6 a7 a8 a9 a10 a11 a12 a13 a14 a15 a16 a17 : Nat) (x0 : Int32) (x1 : Int32) (x2 : Int32) (k0 : x0 < 0) : Ct l D cy yX12_knows cX12_knows 5 (some .boolean) 3 69 0 0 [(a0, .inr (12, [.ref a1, .ref a2, .ref a3, .ref a4, .ref a5, .int 0, .ref a6, .int 0, .int 0, .int 0, .int 0, .int 0, .int 0, .int 0, .int 0, .int 0, .int 0, .int (-1), .ref a7, .ref a8, .int 0, .ref a9, .int 0, .ref a10, .ref a11, .ref a12, .ref a13, .ref a14, .int 0, .ref a15, .ref a16, .ref a17])), (a1, .inl (cy 1, 1868, .inl (upd (upd (upd (fun _ => 0) 1 2) 2 20) 3 120)))] [.ref a0, .int x0, .int x1, .int x2] (fun u : Unit => some (.int 0)) (fun _ => True) (fun u : Unit => [(a0, .inr (12, [.ref a1, .ref a2, .ref a3, .ref a4, .ref a5, .int 1, .ref a6, .int 0, .int 0, .int 0, .int 0, .int 0, .int 0, .int 0, .int 0, .int 0, .int 0, .int (-1), .ref a7, .ref a8, .int 0, .ref a9, .int 0, .ref a10, .ref a11, .ref a12, .ref a13, .ref a14, .int 0, .ref a15, .ref a16, .ref a17])), (a1, .inl (cy 1, 1868, .inl (upd (upd (upd (fun _ => 0) 1 2) 2 20) 3 120)))]) := by
  refine Ct.of (by decide +kernel) (Nat.le_of_ble_eq_true rfl) ?_
  intro p e s m args below meth c A ls C hr hlocks hml hnm w hl
  have hl : lv_has ls 5 [(0, .ref a0), (1, .int x0), (2, .int x1), (3, .int x2)] := hl
  refine lv_aload_n C.1 C.2.1 dX12_knows_0 rfl (lv_at hl 0 rfl) ?_
  refine lv_aload_n C.1 C.2.1 dX12_knows_1 rfl (lv_at hl 0 rfl) ?_
  refine lv_iload_n C.1 C.2.1 dX12_knows_2 rfl (lv_at hl 1 rfl) ?_
  refine lv_iload_n C.1 C.2.1 dX12_knows_3 rfl (lv_at hl 2 rfl) ?_
  refine lv_iload_n C.1 C.2.1 dX12_knows_4 rfl (lv_at hl 3 rfl) ?_
  refine r_callV C w fv_RX12_348 (c_X12_askFault_0 l D cy a0 a1 a2 a3 a4 a5 a6 a7 a8 a9 a10 a11 a12 a13 a14 a15 a16 a17 x0 x1 x2 k0) (hl.1.trans hml.symm) [0, 1] [] (wr := []) ⟨rfl, rfl, rfl, rfl, by decide⟩ 0 rfl rfl rfl rfl rfl ⟨Nat.le_of_ble_eq_true rfl, Nat.le_of_ble_eq_true rfl, Nat.le_of_ble_eq_true rfl⟩ 0 0 ⟨rfl, rfl, Nat.le_of_ble_eq_true rfl, Nat.le_of_ble_eq_true rfl⟩ dX12_knows_5 (fun u H locs hp w => ?_)
  have w : Wd D A s.heap [(a0, .inr (12, [.ref a1, .ref a2, .ref a3, .ref a4, .ref a5, .int 0, .ref a6, .int 0, .int 0, .int 0, .int 0, .int 0, .int 0, .int 0, .int 0, .int 0, .int 0, .int (-1), .ref a7, .ref a8, .int 0, .ref a9, .int 0, .ref a10, .ref a11, .ref a12, .ref a13, .ref a14, .int 0, .ref a15, .ref a16, .ref a17])), (a1, .inl (cy 1, 1868, .inl (upd (upd (upd (fun _ => 0) 1 2) 2 20) 3 120)))] _ _ := w
  refine r_top (g2 := F0 m 8 ls [.int 1, .ref a0]) rfl ?_
  refine r_put C w 0 rfl rfl 5 (by decide) fl_RX12_71 rfl (ty := .int) (tyX12_ok 5 (by decide)) rfl rfl (Nat.le_of_ble_eq_true rfl) [(a0, .inr (12, [.ref a1, .ref a2, .ref a3, .ref a4, .ref a5, .int 1, .ref a6, .int 0, .int 0, .int 0, .int 0, .int 0, .int 0, .int 0, .int 0, .int 0, .int 0, .int (-1), .ref a7, .ref a8, .int 0, .ref a9, .int 0, .ref a10, .ref a11, .ref a12, .ref a13, .ref a14, .int 0, .ref a15, .ref a16, .ref a17])), (a1, .inl (cy 1, 1868, .inl (upd (upd (upd (fun _ => 0) 1 2) 2 20) 3 120)))] rfl dX12_knows_8 (fun H locs w => ?_)
  refine lv_aload_n C.1 C.2.1 dX12_knows_11 rfl (lv_at hl 0 rfl) ?_
  refine r_get C w 0 rfl rfl 5 (by decide) fl_RX12_71 (v := .int 1) rfl dX12_knows_12 ?_
  refine b_if_le_f C (tgt := 20) dX12_knows_15 (by decide) (by decide) ?_
  refine lv_iconst (v := 0) C.1 C.2.1 dX12_knows_18 (by decide) ?_
  exact r_iret C w hlocks () hr rfl rfl trivial [0, 1] rfl rfl ⟨Nat.le_of_ble_eq_true rfl, Nat.le_of_ble_eq_true rfl⟩ dX12_knows_19
set_option maxRecDepth 100000 in
set_option maxHeartbeats 4000000 in
theorem c_X12_knows_1 (l : Launch) (D : va_G) (cy : Nat → ClassId) (a0 a1 a2 a3 a4 a5 a6 a7 a8 a9 a10 a11 a12 a13 a14 a15 a16 a17 : Nat) (x0 : Int32) (x1 : Int32) (x2 : Int32) (k0 : ¬ x0 < 0) : Ct l D cy yX12_knows cX12_knows 5 (some .boolean) 3 69 0 0 [(a0, .inr (12, [.ref a1, .ref a2, .ref a3, .ref a4, .ref a5, .int 0, .ref a6, .int 0, .int 0, .int 0, .int 0, .int 0, .int 0, .int 0, .int 0, .int 0, .int 0, .int (-1), .ref a7, .ref a8, .int 0, .ref a9, .int 0, .ref a10, .ref a11, .ref a12, .ref a13, .ref a14, .int 0, .ref a15, .ref a16, .ref a17])), (a1, .inl (cy 1, 1868, .inl (upd (upd (upd (fun _ => 0) 1 2) 2 20) 3 120)))] [.ref a0, .int x0, .int x1, .int x2] (fun u : Unit => some (.int 0)) (fun _ => True) (fun u : Unit => [(a0, .inr (12, [.ref a1, .ref a2, .ref a3, .ref a4, .ref a5, .int 1, .ref a6, .int 0, .int 0, .int 0, .int 0, .int 0, .int 0, .int 0, .int 0, .int 0, .int 0, .int (-1), .ref a7, .ref a8, .int 0, .ref a9, .int 0, .ref a10, .ref a11, .ref a12, .ref a13, .ref a14, .int 0, .ref a15, .ref a16, .ref a17])), (a1, .inl (cy 1, 1868, .inl (upd (upd (upd (fun _ => 0) 1 2) 2 20) 3 120)))]) := by
  refine Ct.of (by decide +kernel) (Nat.le_of_ble_eq_true rfl) ?_
  intro p e s m args below meth c A ls C hr hlocks hml hnm w hl
  have hl : lv_has ls 5 [(0, .ref a0), (1, .int x0), (2, .int x1), (3, .int x2)] := hl
  refine lv_aload_n C.1 C.2.1 dX12_knows_0 rfl (lv_at hl 0 rfl) ?_
  refine lv_aload_n C.1 C.2.1 dX12_knows_1 rfl (lv_at hl 0 rfl) ?_
  refine lv_iload_n C.1 C.2.1 dX12_knows_2 rfl (lv_at hl 1 rfl) ?_
  refine lv_iload_n C.1 C.2.1 dX12_knows_3 rfl (lv_at hl 2 rfl) ?_
  refine lv_iload_n C.1 C.2.1 dX12_knows_4 rfl (lv_at hl 3 rfl) ?_
  refine r_callV C w fv_RX12_348 (c_X12_askFault_1 l D cy a0 a1 a2 a3 a4 a5 a6 a7 a8 a9 a10 a11 a12 a13 a14 a15 a16 a17 x0 x1 x2 k0) (hl.1.trans hml.symm) [0, 1] [] (wr := []) ⟨rfl, rfl, rfl, rfl, by decide⟩ 0 rfl rfl rfl rfl rfl ⟨Nat.le_of_ble_eq_true rfl, Nat.le_of_ble_eq_true rfl, Nat.le_of_ble_eq_true rfl⟩ 0 0 ⟨rfl, rfl, Nat.le_of_ble_eq_true rfl, Nat.le_of_ble_eq_true rfl⟩ dX12_knows_5 (fun u H locs hp w => ?_)
  have w : Wd D A s.heap [(a0, .inr (12, [.ref a1, .ref a2, .ref a3, .ref a4, .ref a5, .int 0, .ref a6, .int 0, .int 0, .int 0, .int 0, .int 0, .int 0, .int 0, .int 0, .int 0, .int 0, .int (-1), .ref a7, .ref a8, .int 0, .ref a9, .int 0, .ref a10, .ref a11, .ref a12, .ref a13, .ref a14, .int 0, .ref a15, .ref a16, .ref a17])), (a1, .inl (cy 1, 1868, .inl (upd (upd (upd (fun _ => 0) 1 2) 2 20) 3 120)))] _ _ := w
  refine r_top (g2 := F0 m 8 ls [.int 1, .ref a0]) rfl ?_
  refine r_put C w 0 rfl rfl 5 (by decide) fl_RX12_71 rfl (ty := .int) (tyX12_ok 5 (by decide)) rfl rfl (Nat.le_of_ble_eq_true rfl) [(a0, .inr (12, [.ref a1, .ref a2, .ref a3, .ref a4, .ref a5, .int 1, .ref a6, .int 0, .int 0, .int 0, .int 0, .int 0, .int 0, .int 0, .int 0, .int 0, .int 0, .int (-1), .ref a7, .ref a8, .int 0, .ref a9, .int 0, .ref a10, .ref a11, .ref a12, .ref a13, .ref a14, .int 0, .ref a15, .ref a16, .ref a17])), (a1, .inl (cy 1, 1868, .inl (upd (upd (upd (fun _ => 0) 1 2) 2 20) 3 120)))] rfl dX12_knows_8 (fun H locs w => ?_)
  refine lv_aload_n C.1 C.2.1 dX12_knows_11 rfl (lv_at hl 0 rfl) ?_
  refine r_get C w 0 rfl rfl 5 (by decide) fl_RX12_71 (v := .int 1) rfl dX12_knows_12 ?_
  refine b_if_le_f C (tgt := 20) dX12_knows_15 (by decide) (by decide) ?_
  refine lv_iconst (v := 0) C.1 C.2.1 dX12_knows_18 (by decide) ?_
  exact r_iret C w hlocks () hr rfl rfl trivial [0, 1] rfl rfl ⟨Nat.le_of_ble_eq_true rfl, Nat.le_of_ble_eq_true rfl⟩ dX12_knows_19
theorem dX12_knowing_0 : decode cX12_knowing 0 = .ok (.aload_n 0, 1) := by decide +kernel
theorem dX12_knowing_1 : decode cX12_knowing 1 = .ok (.aload_n 0, 1) := by decide +kernel
theorem dX12_knowing_2 : decode cX12_knowing 2 = .ok (.iload_n 1, 1) := by decide +kernel
theorem dX12_knowing_3 : decode cX12_knowing 3 = .ok (.invokevirtual 270, 3) := by decide +kernel
theorem dX12_knowing_6 : decode cX12_knowing 6 = .ok (.ifCond .ne 7, 3) := by decide +kernel
theorem dX12_knowing_9 : decode cX12_knowing 9 = .ok (.iconst 1, 1) := by decide +kernel
theorem dX12_knowing_10 : decode cX12_knowing 10 = .ok (.goto 16, 3) := by decide +kernel
theorem dX12_knowing_26 : decode cX12_knowing 26 = .ok (.putfield 71, 3) := by decide +kernel
theorem dX12_knowing_29 : decode cX12_knowing 29 = .ok (.aload_n 0, 1) := by decide +kernel
theorem dX12_knowing_30 : decode cX12_knowing 30 = .ok (.getfield 71, 3) := by decide +kernel
theorem dX12_knowing_33 : decode cX12_knowing 33 = .ok (.ifCond .le 5, 3) := by decide +kernel
theorem dX12_knowing_36 : decode cX12_knowing 36 = .ok (.iconst 0, 1) := by decide +kernel
theorem dX12_knowing_37 : decode cX12_knowing 37 = .ok (.ireturn, 1) := by decide +kernel
set_option maxRecDepth 100000 in
set_option maxHeartbeats 4000000 in
theorem c_X12_knowing_0 (l : Launch) (D : va_G) (cy : Nat → ClassId) (a0 a1 a2 a3 a4 a5 a6 a7 a8 a9 a10 a11 a12 a13 a14 a15 a16 a17 : Nat) (x0 : Int32) (x1 : Int32) (k0 : x0 < 0) : Ct l D cy yX12_knowing cX12_knowing 6 (some .int) 2 46 0 0 [(a0, .inr (12, [.ref a1, .ref a2, .ref a3, .ref a4, .ref a5, .int 0, .ref a6, .int 0, .int 0, .int 0, .int 0, .int 0, .int 0, .int 0, .int 0, .int 0, .int 0, .int (-1), .ref a7, .ref a8, .int 0, .ref a9, .int 0, .ref a10, .ref a11, .ref a12, .ref a13, .ref a14, .int 0, .ref a15, .ref a16, .ref a17])), (a1, .inl (cy 1, 1868, .inl (upd (upd (upd (fun _ => 0) 1 2) 2 20) 3 120)))] [.ref a0, .int x0, .int x1] (fun u : Unit => some (.int 0)) (fun _ => True) (fun u : Unit => [(a0, .inr (12, [.ref a1, .ref a2, .ref a3, .ref a4, .ref a5, .int 1, .ref a6, .int 0, .int 0, .int 0, .int 0, .int 0, .int 0, .int 0, .int 0, .int 0, .int 0, .int (-1), .ref a7, .ref a8, .int 0, .ref a9, .int 0, .ref a10, .ref a11, .ref a12, .ref a13, .ref a14, .int 0, .ref a15, .ref a16, .ref a17])), (a1, .inl (cy 1, 1868, .inl (upd (upd (upd (fun _ => 0) 1 2) 2 20) 3 120)))]) := by
  refine Ct.of (by decide +kernel) (Nat.le_of_ble_eq_true rfl) ?_
  intro p e s m args below meth c A ls C hr hlocks hml hnm w hl
  have hl : lv_has ls 6 [(0, .ref a0), (1, .int x0), (2, .int x1)] := hl
  refine lv_aload_n C.1 C.2.1 dX12_knowing_0 rfl (lv_at hl 0 rfl) ?_
  refine lv_aload_n C.1 C.2.1 dX12_knowing_1 rfl (lv_at hl 0 rfl) ?_
  refine lv_iload_n C.1 C.2.1 dX12_knowing_2 rfl (lv_at hl 1 rfl) ?_
  refine r_callV C w fv_RX12_270 (c_X12_isSpeaker_0 l D cy a0 a1 a2 a3 a4 a5 a6 a7 a8 a9 a10 a11 a12 a13 a14 a15 a16 a17 x0 k0) (hl.1.trans hml.symm) [0, 1] [] (wr := []) ⟨rfl, rfl, rfl, rfl, by decide⟩ 0 rfl rfl rfl rfl rfl ⟨Nat.le_of_ble_eq_true rfl, Nat.le_of_ble_eq_true rfl, Nat.le_of_ble_eq_true rfl⟩ 0 0 ⟨rfl, rfl, Nat.le_of_ble_eq_true rfl, Nat.le_of_ble_eq_true rfl⟩ dX12_knowing_3 (fun u H locs hp w => ?_)
  have w : Wd D A s.heap [(a0, .inr (12, [.ref a1, .ref a2, .ref a3, .ref a4, .ref a5, .int 0, .ref a6, .int 0, .int 0, .int 0, .int 0, .int 0, .int 0, .int 0, .int 0, .int 0, .int 0, .int (-1), .ref a7, .ref a8, .int 0, .ref a9, .int 0, .ref a10, .ref a11, .ref a12, .ref a13, .ref a14, .int 0, .ref a15, .ref a16, .ref a17])), (a1, .inl (cy 1, 1868, .inl (upd (upd (upd (fun _ => 0) 1 2) 2 20) 3 120)))] _ _ := w
  refine r_top (g2 := F0 m 6 ls [.int 0, .ref a0]) rfl ?_
  refine b_if_ne_f C (tgt := 13) dX12_knowing_6 (by decide) (by decide) ?_
  refine lv_iconst (v := 1) C.1 C.2.1 dX12_knowing_9 (by decide) ?_
  refine lv_goto (tgt := 26) C.1 C.2.1 dX12_knowing_10 (by decide) ?_
  refine r_put C w 0 rfl rfl 5 (by decide) fl_RX12_71 rfl (ty := .int) (tyX12_ok 5 (by decide)) rfl rfl (Nat.le_of_ble_eq_true rfl) [(a0, .inr (12, [.ref a1, .ref a2, .ref a3, .ref a4, .ref a5, .int 1, .ref a6, .int 0, .int 0, .int 0, .int 0, .int 0, .int 0, .int 0, .int 0, .int 0, .int 0, .int (-1), .ref a7, .ref a8, .int 0, .ref a9, .int 0, .ref a10, .ref a11, .ref a12, .ref a13, .ref a14, .int 0, .ref a15, .ref a16, .ref a17])), (a1, .inl (cy 1, 1868, .inl (upd (upd (upd (fun _ => 0) 1 2) 2 20) 3 120)))] rfl dX12_knowing_26 (fun H locs w => ?_)
  refine lv_aload_n C.1 C.2.1 dX12_knowing_29 rfl (lv_at hl 0 rfl) ?_
  refine r_get C w 0 rfl rfl 5 (by decide) fl_RX12_71 (v := .int 1) rfl dX12_knowing_30 ?_
  refine b_if_le_f C (tgt := 38) dX12_knowing_33 (by decide) (by decide) ?_
  refine lv_iconst (v := 0) C.1 C.2.1 dX12_knowing_36 (by decide) ?_
  exact r_iret C w hlocks () hr rfl rfl trivial [0, 1] rfl rfl ⟨Nat.le_of_ble_eq_true rfl, Nat.le_of_ble_eq_true rfl⟩ dX12_knowing_37
set_option maxRecDepth 100000 in
set_option maxHeartbeats 4000000 in
theorem c_X12_knowing_1 (l : Launch) (D : va_G) (cy : Nat → ClassId) (a0 a1 a2 a3 a4 a5 a6 a7 a8 a9 a10 a11 a12 a13 a14 a15 a16 a17 : Nat) (x0 : Int32) (x1 : Int32) (k0 : ¬ x0 < 0) : Ct l D cy yX12_knowing cX12_knowing 6 (some .int) 2 46 0 0 [(a0, .inr (12, [.ref a1, .ref a2, .ref a3, .ref a4, .ref a5, .int 0, .ref a6, .int 0, .int 0, .int 0, .int 0, .int 0, .int 0, .int 0, .int 0, .int 0, .int 0, .int (-1), .ref a7, .ref a8, .int 0, .ref a9, .int 0, .ref a10, .ref a11, .ref a12, .ref a13, .ref a14, .int 0, .ref a15, .ref a16, .ref a17])), (a1, .inl (cy 1, 1868, .inl (upd (upd (upd (fun _ => 0) 1 2) 2 20) 3 120)))] [.ref a0, .int x0, .int x1] (fun u : Unit => some (.int 0)) (fun _ => True) (fun u : Unit => [(a0, .inr (12, [.ref a1, .ref a2, .ref a3, .ref a4, .ref a5, .int 1, .ref a6, .int 0, .int 0, .int 0, .int 0, .int 0, .int 0, .int 0, .int 0, .int 0, .int 0, .int (-1), .ref a7, .ref a8, .int 0, .ref a9, .int 0, .ref a10, .ref a11, .ref a12, .ref a13, .ref a14, .int 0, .ref a15, .ref a16, .ref a17])), (a1, .inl (cy 1, 1868, .inl (upd (upd (upd (fun _ => 0) 1 2) 2 20) 3 120)))]) := by
  refine Ct.of (by decide +kernel) (Nat.le_of_ble_eq_true rfl) ?_
  intro p e s m args below meth c A ls C hr hlocks hml hnm w hl
  have hl : lv_has ls 6 [(0, .ref a0), (1, .int x0), (2, .int x1)] := hl
  refine lv_aload_n C.1 C.2.1 dX12_knowing_0 rfl (lv_at hl 0 rfl) ?_
  refine lv_aload_n C.1 C.2.1 dX12_knowing_1 rfl (lv_at hl 0 rfl) ?_
  refine lv_iload_n C.1 C.2.1 dX12_knowing_2 rfl (lv_at hl 1 rfl) ?_
  refine r_callV C w fv_RX12_270 (c_X12_isSpeaker_1 l D cy a0 a1 a2 a3 a4 a5 a6 a7 a8 a9 a10 a11 a12 a13 a14 a15 a16 a17 x0 k0) (hl.1.trans hml.symm) [0, 1] [] (wr := []) ⟨rfl, rfl, rfl, rfl, by decide⟩ 0 rfl rfl rfl rfl rfl ⟨Nat.le_of_ble_eq_true rfl, Nat.le_of_ble_eq_true rfl, Nat.le_of_ble_eq_true rfl⟩ 0 0 ⟨rfl, rfl, Nat.le_of_ble_eq_true rfl, Nat.le_of_ble_eq_true rfl⟩ dX12_knowing_3 (fun u H locs hp w => ?_)
  have w : Wd D A s.heap [(a0, .inr (12, [.ref a1, .ref a2, .ref a3, .ref a4, .ref a5, .int 0, .ref a6, .int 0, .int 0, .int 0, .int 0, .int 0, .int 0, .int 0, .int 0, .int 0, .int 0, .int (-1), .ref a7, .ref a8, .int 0, .ref a9, .int 0, .ref a10, .ref a11, .ref a12, .ref a13, .ref a14, .int 0, .ref a15, .ref a16, .ref a17])), (a1, .inl (cy 1, 1868, .inl (upd (upd (upd (fun _ => 0) 1 2) 2 20) 3 120)))] _ _ := w
  refine r_top (g2 := F0 m 6 ls [.int 0, .ref a0]) rfl ?_
  refine b_if_ne_f C (tgt := 13) dX12_knowing_6 (by decide) (by decide) ?_
  refine lv_iconst (v := 1) C.1 C.2.1 dX12_knowing_9 (by decide) ?_
  refine lv_goto (tgt := 26) C.1 C.2.1 dX12_knowing_10 (by decide) ?_
  refine r_put C w 0 rfl rfl 5 (by decide) fl_RX12_71 rfl (ty := .int) (tyX12_ok 5 (by decide)) rfl rfl (Nat.le_of_ble_eq_true rfl) [(a0, .inr (12, [.ref a1, .ref a2, .ref a3, .ref a4, .ref a5, .int 1, .ref a6, .int 0, .int 0, .int 0, .int 0, .int 0, .int 0, .int 0, .int 0, .int 0, .int 0, .int (-1), .ref a7, .ref a8, .int 0, .ref a9, .int 0, .ref a10, .ref a11, .ref a12, .ref a13, .ref a14, .int 0, .ref a15, .ref a16, .ref a17])), (a1, .inl (cy 1, 1868, .inl (upd (upd (upd (fun _ => 0) 1 2) 2 20) 3 120)))] rfl dX12_knowing_26 (fun H locs w => ?_)
  refine lv_aload_n C.1 C.2.1 dX12_knowing_29 rfl (lv_at hl 0 rfl) ?_
  refine r_get C w 0 rfl rfl 5 (by decide) fl_RX12_71 (v := .int 1) rfl dX12_knowing_30 ?_
  refine b_if_le_f C (tgt := 38) dX12_knowing_33 (by decide) (by decide) ?_
  refine lv_iconst (v := 0) C.1 C.2.1 dX12_knowing_36 (by decide) ?_
  exact r_iret C w hlocks () hr rfl rfl trivial [0, 1] rfl rfl ⟨Nat.le_of_ble_eq_true rfl, Nat.le_of_ble_eq_true rfl⟩ dX12_knowing_37
theorem dX12_heap_0 : decode cX12_heap 0 = .ok (.aload_n 0, 1) := by decide +kernel
theorem dX12_heap_1 : decode cX12_heap 1 = .ok (.aload_n 0, 1) := by decide +kernel
theorem dX12_heap_2 : decode cX12_heap 2 = .ok (.iload_n 1, 1) := by decide +kernel
theorem dX12_heap_3 : decode cX12_heap 3 = .ok (.iload_n 2, 1) := by decide +kernel
theorem dX12_heap_4 : decode cX12_heap 4 = .ok (.iload_n 3, 1) := by decide +kernel
theorem dX12_heap_5 : decode cX12_heap 5 = .ok (.invokevirtual 348, 3) := by decide +kernel
theorem dX12_heap_8 : decode cX12_heap 8 = .ok (.putfield 71, 3) := by decide +kernel
theorem dX12_heap_11 : decode cX12_heap 11 = .ok (.aload_n 0, 1) := by decide +kernel
theorem dX12_heap_12 : decode cX12_heap 12 = .ok (.getfield 71, 3) := by decide +kernel
theorem dX12_heap_15 : decode cX12_heap 15 = .ok (.ifCond .le 5, 3) := by decide +kernel
theorem dX12_heap_18 : decode cX12_heap 18 = .ok (.iconst 0, 1) := by decide +kernel
theorem dX12_heap_19 : decode cX12_heap 19 = .ok (.ireturn, 1) := by decide +kernel
set_option maxRecDepth 100000 in
set_option maxHeartbeats 4000000 in
theorem c_X12_heap_0 (l : Launch) (D : va_G) (cy : Nat → ClassId) (a0 a1 a2 a3 a4 a5 a6 a7 a8 a9 a10 a11 a12 a13 a14 a15 a16 a17 : Nat) (x0 : Int32) (x1 : Int32) (x2 : Int32) (k0 : x0 < 0) : Ct l D cy yX12_heap cX12_heap 4 (some .int) 3 69 0 0 [(a0, .inr (12, [.ref a1, .ref a2, .ref a3, .ref a4, .ref a5, .int 0, .ref a6, .int 0, .int 0, .int 0, .int 0, .int 0, .int 0, .int 0, .int 0, .int 0, .int 0, .int (-1), .ref a7, .ref a8, .int 0, .ref a9, .int 0, .ref a10, .ref a11, .ref a12, .ref a13, .ref a14, .int 0, .ref a15, .ref a16, .ref a17])), (a1, .inl (cy 1, 1868, .inl (upd (upd (upd (fun _ => 0) 1 2) 2 20) 3 120)))] [.ref a0, .int x0, .int x1, .int x2] (fun u : Unit => some (.int 0)) (fun _ => True) (fun u : Unit => [(a0, .inr (12, [.ref a1, .ref a2, .ref a3, .ref a4, .ref a5, .int 1, .ref a6, .int 0, .int 0, .int 0, .int 0, .int 0, .int 0, .int 0, .int 0, .int 0, .int 0, .int (-1), .ref a7, .ref a8, .int 0, .ref a9, .int 0, .ref a10, .ref a11, .ref a12, .ref a13, .ref a14, .int 0, .ref a15, .ref a16, .ref a17])), (a1, .inl (cy 1, 1868, .inl (upd (upd (upd (fun _ => 0) 1 2) 2 20) 3 120)))]) := by
  refine Ct.of (by decide +kernel) (Nat.le_of_ble_eq_true rfl) ?_
  intro p e s m args below meth c A ls C hr hlocks hml hnm w hl
  have hl : lv_has ls 4 [(0, .ref a0), (1, .int x0), (2, .int x1), (3, .int x2)] := hl
  refine lv_aload_n C.1 C.2.1 dX12_heap_0 rfl (lv_at hl 0 rfl) ?_
  refine lv_aload_n C.1 C.2.1 dX12_heap_1 rfl (lv_at hl 0 rfl) ?_
  refine lv_iload_n C.1 C.2.1 dX12_heap_2 rfl (lv_at hl 1 rfl) ?_
  refine lv_iload_n C.1 C.2.1 dX12_heap_3 rfl (lv_at hl 2 rfl) ?_
  refine lv_iload_n C.1 C.2.1 dX12_heap_4 rfl (lv_at hl 3 rfl) ?_
  refine r_callV C w fv_RX12_348 (c_X12_askFault_0 l D cy a0 a1 a2 a3 a4 a5 a6 a7 a8 a9 a10 a11 a12 a13 a14 a15 a16 a17 x0 x1 x2 k0) (hl.1.trans hml.symm) [0, 1] [] (wr := []) ⟨rfl, rfl, rfl, rfl, by decide⟩ 0 rfl rfl rfl rfl rfl ⟨Nat.le_of_ble_eq_true rfl, Nat.le_of_ble_eq_true rfl, Nat.le_of_ble_eq_true rfl⟩ 0 0 ⟨rfl, rfl, Nat.le_of_ble_eq_true rfl, Nat.le_of_ble_eq_true rfl⟩ dX12_heap_5 (fun u H locs hp w => ?_)
  have w : Wd D A s.heap [(a0, .inr (12, [.ref a1, .ref a2, .ref a3, .ref a4, .ref a5, .int 0, .ref a6, .int 0, .int 0, .int 0, .int 0, .int 0, .int 0, .int 0, .int 0, .int 0, .int 0, .int (-1), .ref a7, .ref a8, .int 0, .ref a9, .int 0, .ref a10, .ref a11, .ref a12, .ref a13, .ref a14, .int 0, .ref a15, .ref a16, .ref a17])), (a1, .inl (cy 1, 1868, .inl (upd (upd (upd (fun _ => 0) 1 2) 2 20) 3 120)))] _ _ := w
  refine r_top (g2 := F0 m 8 ls [.int 1, .ref a0]) rfl ?_
  refine r_put C w 0 rfl rfl 5 (by decide) fl_RX12_71 rfl (ty := .int) (tyX12_ok 5 (by decide)) rfl rfl (Nat.le_of_ble_eq_true rfl) [(a0, .inr (12, [.ref a1, .ref a2, .ref a3, .ref a4, .ref a5, .int 1, .ref a6, .int 0, .int 0, .int 0, .int 0, .int 0, .int 0, .int 0, .int 0, .int 0, .int 0, .int (-1), .ref a7, .ref a8, .int 0, .ref a9, .int 0, .ref a10, .ref a11, .ref a12, .ref a13, .ref a14, .int 0, .ref a15, .ref a16, .ref a17])), (a1, .inl (cy 1, 1868, .inl (upd (upd (upd (fun _ => 0) 1 2) 2 20) 3 120)))] rfl dX12_heap_8 (fun H locs w => ?_)
  refine lv_aload_n C.1 C.2.1 dX12_heap_11 rfl (lv_at hl 0 rfl) ?_
  refine r_get C w 0 rfl rfl 5 (by decide) fl_RX12_71 (v := .int 1) rfl dX12_heap_12 ?_
  refine b_if_le_f C (tgt := 20) dX12_heap_15 (by decide) (by decide) ?_
  refine lv_iconst (v := 0) C.1 C.2.1 dX12_heap_18 (by decide) ?_
  exact r_iret C w hlocks () hr rfl rfl trivial [0, 1] rfl rfl ⟨Nat.le_of_ble_eq_true rfl, Nat.le_of_ble_eq_true rfl⟩ dX12_heap_19
set_option maxRecDepth 100000 in
set_option maxHeartbeats 4000000 in
theorem c_X12_heap_1 (l : Launch) (D : va_G) (cy : Nat → ClassId) (a0 a1 a2 a3 a4 a5 a6 a7 a8 a9 a10 a11 a12 a13 a14 a15 a16 a17 : Nat) (x0 : Int32) (x1 : Int32) (x2 : Int32) (k0 : ¬ x0 < 0) : Ct l D cy yX12_heap cX12_heap 4 (some .int) 3 69 0 0 [(a0, .inr (12, [.ref a1, .ref a2, .ref a3, .ref a4, .ref a5, .int 0, .ref a6, .int 0, .int 0, .int 0, .int 0, .int 0, .int 0, .int 0, .int 0, .int 0, .int 0, .int (-1), .ref a7, .ref a8, .int 0, .ref a9, .int 0, .ref a10, .ref a11, .ref a12, .ref a13, .ref a14, .int 0, .ref a15, .ref a16, .ref a17])), (a1, .inl (cy 1, 1868, .inl (upd (upd (upd (fun _ => 0) 1 2) 2 20) 3 120)))] [.ref a0, .int x0, .int x1, .int x2] (fun u : Unit => some (.int 0)) (fun _ => True) (fun u : Unit => [(a0, .inr (12, [.ref a1, .ref a2, .ref a3, .ref a4, .ref a5, .int 1, .ref a6, .int 0, .int 0, .int 0, .int 0, .int 0, .int 0, .int 0, .int 0, .int 0, .int 0, .int (-1), .ref a7, .ref a8, .int 0, .ref a9, .int 0, .ref a10, .ref a11, .ref a12, .ref a13, .ref a14, .int 0, .ref a15, .ref a16, .ref a17])), (a1, .inl (cy 1, 1868, .inl (upd (upd (upd (fun _ => 0) 1 2) 2 20) 3 120)))]) := by
  refine Ct.of (by decide +kernel) (Nat.le_of_ble_eq_true rfl) ?_
  intro p e s m args below meth c A ls C hr hlocks hml hnm w hl
  have hl : lv_has ls 4 [(0, .ref a0), (1, .int x0), (2, .int x1), (3, .int x2)] := hl
  refine lv_aload_n C.1 C.2.1 dX12_heap_0 rfl (lv_at hl 0 rfl) ?_
  refine lv_aload_n C.1 C.2.1 dX12_heap_1 rfl (lv_at hl 0 rfl) ?_
  refine lv_iload_n C.1 C.2.1 dX12_heap_2 rfl (lv_at hl 1 rfl) ?_
  refine lv_iload_n C.1 C.2.1 dX12_heap_3 rfl (lv_at hl 2 rfl) ?_
  refine lv_iload_n C.1 C.2.1 dX12_heap_4 rfl (lv_at hl 3 rfl) ?_
  refine r_callV C w fv_RX12_348 (c_X12_askFault_1 l D cy a0 a1 a2 a3 a4 a5 a6 a7 a8 a9 a10 a11 a12 a13 a14 a15 a16 a17 x0 x1 x2 k0) (hl.1.trans hml.symm) [0, 1] [] (wr := []) ⟨rfl, rfl, rfl, rfl, by decide⟩ 0 rfl rfl rfl rfl rfl ⟨Nat.le_of_ble_eq_true rfl, Nat.le_of_ble_eq_true rfl, Nat.le_of_ble_eq_true rfl⟩ 0 0 ⟨rfl, rfl, Nat.le_of_ble_eq_true rfl, Nat.le_of_ble_eq_true rfl⟩ dX12_heap_5 (fun u H locs hp w => ?_)
  have w : Wd D A s.heap [(a0, .inr (12, [.ref a1, .ref a2, .ref a3, .ref a4, .ref a5, .int 0, .ref a6, .int 0, .int 0, .int 0, .int 0, .int 0, .int 0, .int 0, .int 0, .int 0, .int 0, .int (-1), .ref a7, .ref a8, .int 0, .ref a9, .int 0, .ref a10, .ref a11, .ref a12, .ref a13, .ref a14, .int 0, .ref a15, .ref a16, .ref a17])), (a1, .inl (cy 1, 1868, .inl (upd (upd (upd (fun _ => 0) 1 2) 2 20) 3 120)))] _ _ := w
  refine r_top (g2 := F0 m 8 ls [.int 1, .ref a0]) rfl ?_
  refine r_put C w 0 rfl rfl 5 (by decide) fl_RX12_71 rfl (ty := .int) (tyX12_ok 5 (by decide)) rfl rfl (Nat.le_of_ble_eq_true rfl) [(a0, .inr (12, [.ref a1, .ref a2, .ref a3, .ref a4, .ref a5, .int 1, .ref a6, .int 0, .int 0, .int 0, .int 0, .int 0, .int 0, .int 0, .int 0, .int 0, .int 0, .int (-1), .ref a7, .ref a8, .int 0, .ref a9, .int 0, .ref a10, .ref a11, .ref a12, .ref a13, .ref a14, .int 0, .ref a15, .ref a16, .ref a17])), (a1, .inl (cy 1, 1868, .inl (upd (upd (upd (fun _ => 0) 1 2) 2 20) 3 120)))] rfl dX12_heap_8 (fun H locs w => ?_)
  refine lv_aload_n C.1 C.2.1 dX12_heap_11 rfl (lv_at hl 0 rfl) ?_
  refine r_get C w 0 rfl rfl 5 (by decide) fl_RX12_71 (v := .int 1) rfl dX12_heap_12 ?_
  refine b_if_le_f C (tgt := 20) dX12_heap_15 (by decide) (by decide) ?_
  refine lv_iconst (v := 0) C.1 C.2.1 dX12_heap_18 (by decide) ?_
  exact r_iret C w hlocks () hr rfl rfl trivial [0, 1] rfl rfl ⟨Nat.le_of_ble_eq_true rfl, Nat.le_of_ble_eq_true rfl⟩ dX12_heap_19
theorem dX12_rest_0 : decode cX12_rest 0 = .ok (.aload_n 0, 1) := by decide +kernel
theorem dX12_rest_1 : decode cX12_rest 1 = .ok (.aload_n 0, 1) := by decide +kernel
theorem dX12_rest_2 : decode cX12_rest 2 = .ok (.iload_n 1, 1) := by decide +kernel
theorem dX12_rest_3 : decode cX12_rest 3 = .ok (.iload_n 2, 1) := by decide +kernel
theorem dX12_rest_4 : decode cX12_rest 4 = .ok (.invokevirtual 360, 3) := by decide +kernel
theorem dX12_twoFault_0 : decode cX12_twoFault 0 = .ok (.aload_n 0, 1) := by decide +kernel
theorem dX12_twoFault_1 : decode cX12_twoFault 1 = .ok (.iload_n 1, 1) := by decide +kernel
theorem dX12_twoFault_2 : decode cX12_twoFault 2 = .ok (.invokevirtual 270, 3) := by decide +kernel
theorem dX12_twoFault_5 : decode cX12_twoFault 5 = .ok (.ifCond .eq 11, 3) := by decide +kernel
theorem dX12_twoFault_16 : decode cX12_twoFault 16 = .ok (.iconst 1, 1) := by decide +kernel
theorem dX12_twoFault_17 : decode cX12_twoFault 17 = .ok (.goto 13, 3) := by decide +kernel
theorem dX12_twoFault_30 : decode cX12_twoFault 30 = .ok (.ireturn, 1) := by decide +kernel
set_option maxRecDepth 100000 in
set_option maxHeartbeats 4000000 in
theorem c_X12_twoFault_0 (l : Launch) (D : va_G) (cy : Nat → ClassId) (a0 a1 a2 a3 a4 a5 a6 a7 a8 a9 a10 a11 a12 a13 a14 a15 a16 a17 : Nat) (x0 : Int32) (x1 : Int32) (k0 : x0 < 0) : Ct l D cy yX12_twoFault cX12_twoFault 3 (some .int) 2 46 0 0 [(a0, .inr (12, [.ref a1, .ref a2, .ref a3, .ref a4, .ref a5, .int 0, .ref a6, .int 0, .int 0, .int 0, .int 0, .int 0, .int 0, .int 0, .int 0, .int 0, .int 0, .int (-1), .ref a7, .ref a8, .int 0, .ref a9, .int 0, .ref a10, .ref a11, .ref a12, .ref a13, .ref a14, .int 0, .ref a15, .ref a16, .ref a17])), (a1, .inl (cy 1, 1868, .inl (upd (upd (upd (fun _ => 0) 1 2) 2 20) 3 120)))] [.ref a0, .int x0, .int x1] (fun u : Unit => some (.int 1)) (fun _ => True) (fun u : Unit => [(a0, .inr (12, [.ref a1, .ref a2, .ref a3, .ref a4, .ref a5, .int 0, .ref a6, .int 0, .int 0, .int 0, .int 0, .int 0, .int 0, .int 0, .int 0, .int 0, .int 0, .int (-1), .ref a7, .ref a8, .int 0, .ref a9, .int 0, .ref a10, .ref a11, .ref a12, .ref a13, .ref a14, .int 0, .ref a15, .ref a16, .ref a17])), (a1, .inl (cy 1, 1868, .inl (upd (upd (upd (fun _ => 0) 1 2) 2 20) 3 120)))]) := by
  refine Ct.of (by decide +kernel) (Nat.le_of_ble_eq_true rfl) ?_
  intro p e s m args below meth c A ls C hr hlocks hml hnm w hl
  have hl : lv_has ls 3 [(0, .ref a0), (1, .int x0), (2, .int x1)] := hl
  refine lv_aload_n C.1 C.2.1 dX12_twoFault_0 rfl (lv_at hl 0 rfl) ?_
  refine lv_iload_n C.1 C.2.1 dX12_twoFault_1 rfl (lv_at hl 1 rfl) ?_
  refine r_callV C w fv_RX12_270 (c_X12_isSpeaker_0 l D cy a0 a1 a2 a3 a4 a5 a6 a7 a8 a9 a10 a11 a12 a13 a14 a15 a16 a17 x0 k0) (hl.1.trans hml.symm) [0, 1] [] (wr := []) ⟨rfl, rfl, rfl, rfl, by decide⟩ 0 rfl rfl rfl rfl rfl ⟨Nat.le_of_ble_eq_true rfl, Nat.le_of_ble_eq_true rfl, Nat.le_of_ble_eq_true rfl⟩ 0 0 ⟨rfl, rfl, Nat.le_of_ble_eq_true rfl, Nat.le_of_ble_eq_true rfl⟩ dX12_twoFault_2 (fun u H locs hp w => ?_)
  have w : Wd D A s.heap [(a0, .inr (12, [.ref a1, .ref a2, .ref a3, .ref a4, .ref a5, .int 0, .ref a6, .int 0, .int 0, .int 0, .int 0, .int 0, .int 0, .int 0, .int 0, .int 0, .int 0, .int (-1), .ref a7, .ref a8, .int 0, .ref a9, .int 0, .ref a10, .ref a11, .ref a12, .ref a13, .ref a14, .int 0, .ref a15, .ref a16, .ref a17])), (a1, .inl (cy 1, 1868, .inl (upd (upd (upd (fun _ => 0) 1 2) 2 20) 3 120)))] _ _ := w
  refine r_top (g2 := F0 m 5 ls [.int 0]) rfl ?_
  refine b_if_eq_t C (tgt := 16) dX12_twoFault_5 (by decide) (by decide) ?_
  refine lv_iconst (v := 1) C.1 C.2.1 dX12_twoFault_16 (by decide) ?_
  refine lv_goto (tgt := 30) C.1 C.2.1 dX12_twoFault_17 (by decide) ?_
  exact r_iret C w hlocks () hr rfl rfl trivial [0, 1] rfl rfl ⟨Nat.le_of_ble_eq_true rfl, Nat.le_of_ble_eq_true rfl⟩ dX12_twoFault_30
set_option maxRecDepth 100000 in
set_option maxHeartbeats 4000000 in
theorem c_X12_twoFault_1 (l : Launch) (D : va_G) (cy : Nat → ClassId) (a0 a1 a2 a3 a4 a5 a6 a7 a8 a9 a10 a11 a12 a13 a14 a15 a16 a17 : Nat) (x0 : Int32) (x1 : Int32) (k0 : ¬ x0 < 0) : Ct l D cy yX12_twoFault cX12_twoFault 3 (some .int) 2 46 0 0 [(a0, .inr (12, [.ref a1, .ref a2, .ref a3, .ref a4, .ref a5, .int 0, .ref a6, .int 0, .int 0, .int 0, .int 0, .int 0, .int 0, .int 0, .int 0, .int 0, .int 0, .int (-1), .ref a7, .ref a8, .int 0, .ref a9, .int 0, .ref a10, .ref a11, .ref a12, .ref a13, .ref a14, .int 0, .ref a15, .ref a16, .ref a17])), (a1, .inl (cy 1, 1868, .inl (upd (upd (upd (fun _ => 0) 1 2) 2 20) 3 120)))] [.ref a0, .int x0, .int x1] (fun u : Unit => some (.int 1)) (fun _ => True) (fun u : Unit => [(a0, .inr (12, [.ref a1, .ref a2, .ref a3, .ref a4, .ref a5, .int 0, .ref a6, .int 0, .int 0, .int 0, .int 0, .int 0, .int 0, .int 0, .int 0, .int 0, .int 0, .int (-1), .ref a7, .ref a8, .int 0, .ref a9, .int 0, .ref a10, .ref a11, .ref a12, .ref a13, .ref a14, .int 0, .ref a15, .ref a16, .ref a17])), (a1, .inl (cy 1, 1868, .inl (upd (upd (upd (fun _ => 0) 1 2) 2 20) 3 120)))]) := by
  refine Ct.of (by decide +kernel) (Nat.le_of_ble_eq_true rfl) ?_
  intro p e s m args below meth c A ls C hr hlocks hml hnm w hl
  have hl : lv_has ls 3 [(0, .ref a0), (1, .int x0), (2, .int x1)] := hl
  refine lv_aload_n C.1 C.2.1 dX12_twoFault_0 rfl (lv_at hl 0 rfl) ?_
  refine lv_iload_n C.1 C.2.1 dX12_twoFault_1 rfl (lv_at hl 1 rfl) ?_
  refine r_callV C w fv_RX12_270 (c_X12_isSpeaker_1 l D cy a0 a1 a2 a3 a4 a5 a6 a7 a8 a9 a10 a11 a12 a13 a14 a15 a16 a17 x0 k0) (hl.1.trans hml.symm) [0, 1] [] (wr := []) ⟨rfl, rfl, rfl, rfl, by decide⟩ 0 rfl rfl rfl rfl rfl ⟨Nat.le_of_ble_eq_true rfl, Nat.le_of_ble_eq_true rfl, Nat.le_of_ble_eq_true rfl⟩ 0 0 ⟨rfl, rfl, Nat.le_of_ble_eq_true rfl, Nat.le_of_ble_eq_true rfl⟩ dX12_twoFault_2 (fun u H locs hp w => ?_)
  have w : Wd D A s.heap [(a0, .inr (12, [.ref a1, .ref a2, .ref a3, .ref a4, .ref a5, .int 0, .ref a6, .int 0, .int 0, .int 0, .int 0, .int 0, .int 0, .int 0, .int 0, .int 0, .int 0, .int (-1), .ref a7, .ref a8, .int 0, .ref a9, .int 0, .ref a10, .ref a11, .ref a12, .ref a13, .ref a14, .int 0, .ref a15, .ref a16, .ref a17])), (a1, .inl (cy 1, 1868, .inl (upd (upd (upd (fun _ => 0) 1 2) 2 20) 3 120)))] _ _ := w
  refine r_top (g2 := F0 m 5 ls [.int 0]) rfl ?_
  refine b_if_eq_t C (tgt := 16) dX12_twoFault_5 (by decide) (by decide) ?_
  refine lv_iconst (v := 1) C.1 C.2.1 dX12_twoFault_16 (by decide) ?_
  refine lv_goto (tgt := 30) C.1 C.2.1 dX12_twoFault_17 (by decide) ?_
  exact r_iret C w hlocks () hr rfl rfl trivial [0, 1] rfl rfl ⟨Nat.le_of_ble_eq_true rfl, Nat.le_of_ble_eq_true rfl⟩ dX12_twoFault_30
theorem fv_RX12_360 : FV RX12 360 yX12_twoFault cX12_twoFault 3 (some .int) 2 := ⟨⟨gw_mem (by decide +kernel) (by decide +kernel), gw_mem (by decide +kernel) (by decide +kernel), gw_mem (by decide +kernel) (by decide +kernel), gw_mem (by decide +kernel) (by decide +kernel), gw_mem (by decide +kernel) (by decide +kernel)⟩, ⟨by decide +kernel, by decide +kernel, by decide +kernel⟩⟩
theorem dX12_rest_7 : decode cX12_rest 7 = .ok (.putfield 71, 3) := by decide +kernel
theorem dX12_rest_10 : decode cX12_rest 10 = .ok (.aload_n 0, 1) := by decide +kernel
theorem dX12_rest_11 : decode cX12_rest 11 = .ok (.getfield 71, 3) := by decide +kernel
theorem dX12_rest_14 : decode cX12_rest 14 = .ok (.ifCond .le 7, 3) := by decide +kernel
theorem dX12_rest_17 : decode cX12_rest 17 = .ok (.iconst 0, 1) := by decide +kernel
theorem dX12_rest_18 : decode cX12_rest 18 = .ok (.goto 9, 3) := by decide +kernel
theorem dX12_rest_27 : decode cX12_rest 27 = .ok (.ireturn, 1) := by decide +kernel
set_option maxRecDepth 100000 in
set_option maxHeartbeats 4000000 in
theorem c_X12_rest_0 (l : Launch) (D : va_G) (cy : Nat → ClassId) (a0 a1 a2 a3 a4 a5 a6 a7 a8 a9 a10 a11 a12 a13 a14 a15 a16 a17 : Nat) (x0 : Int32) (x1 : Int32) (k0 : x0 < 0) : Ct l D cy yX12_rest cX12_rest 3 (some .int) 3 68 0 0 [(a0, .inr (12, [.ref a1, .ref a2, .ref a3, .ref a4, .ref a5, .int 0, .ref a6, .int 0, .int 0, .int 0, .int 0, .int 0, .int 0, .int 0, .int 0, .int 0, .int 0, .int (-1), .ref a7, .ref a8, .int 0, .ref a9, .int 0, .ref a10, .ref a11, .ref a12, .ref a13, .ref a14, .int 0, .ref a15, .ref a16, .ref a17])), (a1, .inl (cy 1, 1868, .inl (upd (upd (upd (fun _ => 0) 1 2) 2 20) 3 120)))] [.ref a0, .int x0, .int x1] (fun u : Unit => some (.int 0)) (fun _ => True) (fun u : Unit => [(a0, .inr (12, [.ref a1, .ref a2, .ref a3, .ref a4, .ref a5, .int 1, .ref a6, .int 0, .int 0, .int 0, .int 0, .int 0, .int 0, .int 0, .int 0, .int 0, .int 0, .int (-1), .ref a7, .ref a8, .int 0, .ref a9, .int 0, .ref a10, .ref a11, .ref a12, .ref a13, .ref a14, .int 0, .ref a15, .ref a16, .ref a17])), (a1, .inl (cy 1, 1868, .inl (upd (upd (upd (fun _ => 0) 1 2) 2 20) 3 120)))]) := by
  refine Ct.of (by decide +kernel) (Nat.le_of_ble_eq_true rfl) ?_
  intro p e s m args below meth c A ls C hr hlocks hml hnm w hl
  have hl : lv_has ls 3 [(0, .ref a0), (1, .int x0), (2, .int x1)] := hl
  refine lv_aload_n C.1 C.2.1 dX12_rest_0 rfl (lv_at hl 0 rfl) ?_
  refine lv_aload_n C.1 C.2.1 dX12_rest_1 rfl (lv_at hl 0 rfl) ?_
  refine lv_iload_n C.1 C.2.1 dX12_rest_2 rfl (lv_at hl 1 rfl) ?_
  refine lv_iload_n C.1 C.2.1 dX12_rest_3 rfl (lv_at hl 2 rfl) ?_
  refine r_callV C w fv_RX12_360 (c_X12_twoFault_0 l D cy a0 a1 a2 a3 a4 a5 a6 a7 a8 a9 a10 a11 a12 a13 a14 a15 a16 a17 x0 x1 k0) (hl.1.trans hml.symm) [0, 1] [] (wr := []) ⟨rfl, rfl, rfl, rfl, by decide⟩ 0 rfl rfl rfl rfl rfl ⟨Nat.le_of_ble_eq_true rfl, Nat.le_of_ble_eq_true rfl, Nat.le_of_ble_eq_true rfl⟩ 0 0 ⟨rfl, rfl, Nat.le_of_ble_eq_true rfl, Nat.le_of_ble_eq_true rfl⟩ dX12_rest_4 (fun u H locs hp w => ?_)
  have w : Wd D A s.heap [(a0, .inr (12, [.ref a1, .ref a2, .ref a3, .ref a4, .ref a5, .int 0, .ref a6, .int 0, .int 0, .int 0, .int 0, .int 0, .int 0, .int 0, .int 0, .int 0, .int 0, .int (-1), .ref a7, .ref a8, .int 0, .ref a9, .int 0, .ref a10, .ref a11, .ref a12, .ref a13, .ref a14, .int 0, .ref a15, .ref a16, .ref a17])), (a1, .inl (cy 1, 1868, .inl (upd (upd (upd (fun _ => 0) 1 2) 2 20) 3 120)))] _ _ := w
  refine r_top (g2 := F0 m 7 ls [.int 1, .ref a0]) rfl ?_
  refine r_put C w 0 rfl rfl 5 (by decide) fl_RX12_71 rfl (ty := .int) (tyX12_ok 5 (by decide)) rfl rfl (Nat.le_of_ble_eq_true rfl) [(a0, .inr (12, [.ref a1, .ref a2, .ref a3, .ref a4, .ref a5, .int 1, .ref a6, .int 0, .int 0, .int 0, .int 0, .int 0, .int 0, .int 0, .int 0, .int 0, .int 0, .int (-1), .ref a7, .ref a8, .int 0, .ref a9, .int 0, .ref a10, .ref a11, .ref a12, .ref a13, .ref a14, .int 0, .ref a15, .ref a16, .ref a17])), (a1, .inl (cy 1, 1868, .inl (upd (upd (upd (fun _ => 0) 1 2) 2 20) 3 120)))] rfl dX12_rest_7 (fun H locs w => ?_)
  refine lv_aload_n C.1 C.2.1 dX12_rest_10 rfl (lv_at hl 0 rfl) ?_
  refine r_get C w 0 rfl rfl 5 (by decide) fl_RX12_71 (v := .int 1) rfl dX12_rest_11 ?_
  refine b_if_le_f C (tgt := 21) dX12_rest_14 (by decide) (by decide) ?_
  refine lv_iconst (v := 0) C.1 C.2.1 dX12_rest_17 (by decide) ?_
  refine lv_goto (tgt := 27) C.1 C.2.1 dX12_rest_18 (by decide) ?_
  exact r_iret C w hlocks () hr rfl rfl trivial [0, 1] rfl rfl ⟨Nat.le_of_ble_eq_true rfl, Nat.le_of_ble_eq_true rfl⟩ dX12_rest_27
set_option maxRecDepth 100000 in
set_option maxHeartbeats 4000000 in
theorem c_X12_rest_1 (l : Launch) (D : va_G) (cy : Nat → ClassId) (a0 a1 a2 a3 a4 a5 a6 a7 a8 a9 a10 a11 a12 a13 a14 a15 a16 a17 : Nat) (x0 : Int32) (x1 : Int32) (k0 : ¬ x0 < 0) : Ct l D cy yX12_rest cX12_rest 3 (some .int) 3 68 0 0 [(a0, .inr (12, [.ref a1, .ref a2, .ref a3, .ref a4, .ref a5, .int 0, .ref a6, .int 0, .int 0, .int 0, .int 0, .int 0, .int 0, .int 0, .int 0, .int 0, .int 0, .int (-1), .ref a7, .ref a8, .int 0, .ref a9, .int 0, .ref a10, .ref a11, .ref a12, .ref a13, .ref a14, .int 0, .ref a15, .ref a16, .ref a17])), (a1, .inl (cy 1, 1868, .inl (upd (upd (upd (fun _ => 0) 1 2) 2 20) 3 120)))] [.ref a0, .int x0, .int x1] (fun u : Unit => some (.int 0)) (fun _ => True) (fun u : Unit => [(a0, .inr (12, [.ref a1, .ref a2, .ref a3, .ref a4, .ref a5, .int 1, .ref a6, .int 0, .int 0, .int 0, .int 0, .int 0, .int 0, .int 0, .int 0, .int 0, .int 0, .int (-1), .ref a7, .ref a8, .int 0, .ref a9, .int 0, .ref a10, .ref a11, .ref a12, .ref a13, .ref a14, .int 0, .ref a15, .ref a16, .ref a17])), (a1, .inl (cy 1, 1868, .inl (upd (upd (upd (fun _ => 0) 1 2) 2 20) 3 120)))]) := by
  refine Ct.of (by decide +kernel) (Nat.le_of_ble_eq_true rfl) ?_
  intro p e s m args below meth c A ls C hr hlocks hml hnm w hl
  have hl : lv_has ls 3 [(0, .ref a0), (1, .int x0), (2, .int x1)] := hl
  refine lv_aload_n C.1 C.2.1 dX12_rest_0 rfl (lv_at hl 0 rfl) ?_
  refine lv_aload_n C.1 C.2.1 dX12_rest_1 rfl (lv_at hl 0 rfl) ?_
  refine lv_iload_n C.1 C.2.1 dX12_rest_2 rfl (lv_at hl 1 rfl) ?_
  refine lv_iload_n C.1 C.2.1 dX12_rest_3 rfl (lv_at hl 2 rfl) ?_
  refine r_callV C w fv_RX12_360 (c_X12_twoFault_1 l D cy a0 a1 a2 a3 a4 a5 a6 a7 a8 a9 a10 a11 a12 a13 a14 a15 a16 a17 x0 x1 k0) (hl.1.trans hml.symm) [0, 1] [] (wr := []) ⟨rfl, rfl, rfl, rfl, by decide⟩ 0 rfl rfl rfl rfl rfl ⟨Nat.le_of_ble_eq_true rfl, Nat.le_of_ble_eq_true rfl, Nat.le_of_ble_eq_true rfl⟩ 0 0 ⟨rfl, rfl, Nat.le_of_ble_eq_true rfl, Nat.le_of_ble_eq_true rfl⟩ dX12_rest_4 (fun u H locs hp w => ?_)
  have w : Wd D A s.heap [(a0, .inr (12, [.ref a1, .ref a2, .ref a3, .ref a4, .ref a5, .int 0, .ref a6, .int 0, .int 0, .int 0, .int 0, .int 0, .int 0, .int 0, .int 0, .int 0, .int 0, .int (-1), .ref a7, .ref a8, .int 0, .ref a9, .int 0, .ref a10, .ref a11, .ref a12, .ref a13, .ref a14, .int 0, .ref a15, .ref a16, .ref a17])), (a1, .inl (cy 1, 1868, .inl (upd (upd (upd (fun _ => 0) 1 2) 2 20) 3 120)))] _ _ := w
  refine r_top (g2 := F0 m 7 ls [.int 1, .ref a0]) rfl ?_
  refine r_put C w 0 rfl rfl 5 (by decide) fl_RX12_71 rfl (ty := .int) (tyX12_ok 5 (by decide)) rfl rfl (Nat.le_of_ble_eq_true rfl) [(a0, .inr (12, [.ref a1, .ref a2, .ref a3, .ref a4, .ref a5, .int 1, .ref a6, .int 0, .int 0, .int 0, .int 0, .int 0, .int 0, .int 0, .int 0, .int 0, .int 0, .int (-1), .ref a7, .ref a8, .int 0, .ref a9, .int 0, .ref a10, .ref a11, .ref a12, .ref a13, .ref a14, .int 0, .ref a15, .ref a16, .ref a17])), (a1, .inl (cy 1, 1868, .inl (upd (upd (upd (fun _ => 0) 1 2) 2 20) 3 120)))] rfl dX12_rest_7 (fun H locs w => ?_)
  refine lv_aload_n C.1 C.2.1 dX12_rest_10 rfl (lv_at hl 0 rfl) ?_
  refine r_get C w 0 rfl rfl 5 (by decide) fl_RX12_71 (v := .int 1) rfl dX12_rest_11 ?_
  refine b_if_le_f C (tgt := 21) dX12_rest_14 (by decide) (by decide) ?_
  refine lv_iconst (v := 0) C.1 C.2.1 dX12_rest_17 (by decide) ?_
  refine lv_goto (tgt := 27) C.1 C.2.1 dX12_rest_18 (by decide) ?_
  exact r_iret C w hlocks () hr rfl rfl trivial [0, 1] rfl rfl ⟨Nat.le_of_ble_eq_true rfl, Nat.le_of_ble_eq_true rfl⟩ dX12_rest_27
theorem dX12_longest_0 : decode cX12_longest 0 = .ok (.aload_n 0, 1) := by decide +kernel
theorem dX12_longest_1 : decode cX12_longest 1 = .ok (.aload_n 0, 1) := by decide +kernel
theorem dX12_longest_2 : decode cX12_longest 2 = .ok (.iload_n 1, 1) := by decide +kernel
theorem dX12_longest_3 : decode cX12_longest 3 = .ok (.iload_n 2, 1) := by decide +kernel
theorem dX12_longest_4 : decode cX12_longest 4 = .ok (.invokevirtual 360, 3) := by decide +kernel
theorem dX12_longest_7 : decode cX12_longest 7 = .ok (.putfield 71, 3) := by decide +kernel
theorem dX12_longest_10 : decode cX12_longest 10 = .ok (.aload_n 0, 1) := by decide +kernel
theorem dX12_longest_11 : decode cX12_longest 11 = .ok (.getfield 71, 3) := by decide +kernel
theorem dX12_longest_14 : decode cX12_longest 14 = .ok (.ifCond .ne 18, 3) := by decide +kernel
theorem dX12_longest_32 : decode cX12_longest 32 = .ok (.aload_n 0, 1) := by decide +kernel
theorem dX12_longest_33 : decode cX12_longest 33 = .ok (.getfield 71, 3) := by decide +kernel
theorem dX12_longest_36 : decode cX12_longest 36 = .ok (.ifCond .le 5, 3) := by decide +kernel
theorem dX12_longest_39 : decode cX12_longest 39 = .ok (.iconst 0, 1) := by decide +kernel
theorem dX12_longest_40 : decode cX12_longest 40 = .ok (.ireturn, 1) := by decide +kernel
set_option maxRecDepth 100000 in
set_option maxHeartbeats 4000000 in
theorem c_X12_longest_0 (l : Launch) (D : va_G) (cy : Nat → ClassId) (a0 a1 a2 a3 a4 a5 a6 a7 a8 a9 a10 a11 a12 a13 a14 a15 a16 a17 : Nat) (x0 : Int32) (x1 : Int32) (x2 : Int32) (k0 : x0 < 0) : Ct l D cy yX12_longest cX12_longest 6 (some .int) 3 68 0 0 [(a0, .inr (12, [.ref a1, .ref a2, .ref a3, .ref a4, .ref a5, .int 0, .ref a6, .int 0, .int 0, .int 0, .int 0, .int 0, .int 0, .int 0, .int 0, .int 0, .int 0, .int (-1), .ref a7, .ref a8, .int 0, .ref a9, .int 0, .ref a10, .ref a11, .ref a12, .ref a13, .ref a14, .int 0, .ref a15, .ref a16, .ref a17])), (a1, .inl (cy 1, 1868, .inl (upd (upd (upd (fun _ => 0) 1 2) 2 20) 3 120)))] [.ref a0, .int x0, .int x1, .int x2] (fun u : Unit => some (.int 0)) (fun _ => True) (fun u : Unit => [(a0, .inr (12, [.ref a1, .ref a2, .ref a3, .ref a4, .ref a5, .int 1, .ref a6, .int 0, .int 0, .int 0, .int 0, .int 0, .int 0, .int 0, .int 0, .int 0, .int 0, .int (-1), .ref a7, .ref a8, .int 0, .ref a9, .int 0, .ref a10, .ref a11, .ref a12, .ref a13, .ref a14, .int 0, .ref a15, .ref a16, .ref a17])), (a1, .inl (cy 1, 1868, .inl (upd (upd (upd (fun _ => 0) 1 2) 2 20) 3 120)))]) := by
  refine Ct.of (by decide +kernel) (Nat.le_of_ble_eq_true rfl) ?_
  intro p e s m args below meth c A ls C hr hlocks hml hnm w hl
  have hl : lv_has ls 6 [(0, .ref a0), (1, .int x0), (2, .int x1), (3, .int x2)] := hl
  refine lv_aload_n C.1 C.2.1 dX12_longest_0 rfl (lv_at hl 0 rfl) ?_
  refine lv_aload_n C.1 C.2.1 dX12_longest_1 rfl (lv_at hl 0 rfl) ?_
  refine lv_iload_n C.1 C.2.1 dX12_longest_2 rfl (lv_at hl 1 rfl) ?_
  refine lv_iload_n C.1 C.2.1 dX12_longest_3 rfl (lv_at hl 2 rfl) ?_
  refine r_callV C w fv_RX12_360 (c_X12_twoFault_0 l D cy a0 a1 a2 a3 a4 a5 a6 a7 a8 a9 a10 a11 a12 a13 a14 a15 a16 a17 x0 x1 k0) (hl.1.trans hml.symm) [0, 1] [] (wr := []) ⟨rfl, rfl, rfl, rfl, by decide⟩ 0 rfl rfl rfl rfl rfl ⟨Nat.le_of_ble_eq_true rfl, Nat.le_of_ble_eq_true rfl, Nat.le_of_ble_eq_true rfl⟩ 0 0 ⟨rfl, rfl, Nat.le_of_ble_eq_true rfl, Nat.le_of_ble_eq_true rfl⟩ dX12_longest_4 (fun u H locs hp w => ?_)
  have w : Wd D A s.heap [(a0, .inr (12, [.ref a1, .ref a2, .ref a3, .ref a4, .ref a5, .int 0, .ref a6, .int 0, .int 0, .int 0, .int 0, .int 0, .int 0, .int 0, .int 0, .int 0, .int 0, .int (-1), .ref a7, .ref a8, .int 0, .ref a9, .int 0, .ref a10, .ref a11, .ref a12, .ref a13, .ref a14, .int 0, .ref a15, .ref a16, .ref a17])), (a1, .inl (cy 1, 1868, .inl (upd (upd (upd (fun _ => 0) 1 2) 2 20) 3 120)))] _ _ := w
  refine r_top (g2 := F0 m 7 ls [.int 1, .ref a0]) rfl ?_
  refine r_put C w 0 rfl rfl 5 (by decide) fl_RX12_71 rfl (ty := .int) (tyX12_ok 5 (by decide)) rfl rfl (Nat.le_of_ble_eq_true rfl) [(a0, .inr (12, [.ref a1, .ref a2, .ref a3, .ref a4, .ref a5, .int 1, .ref a6, .int 0, .int 0, .int 0, .int 0, .int 0, .int 0, .int 0, .int 0, .int 0, .int 0, .int (-1), .ref a7, .ref a8, .int 0, .ref a9, .int 0, .ref a10, .ref a11, .ref a12, .ref a13, .ref a14, .int 0, .ref a15, .ref a16, .ref a17])), (a1, .inl (cy 1, 1868, .inl (upd (upd (upd (fun _ => 0) 1 2) 2 20) 3 120)))] rfl dX12_longest_7 (fun H locs w => ?_)
  refine lv_aload_n C.1 C.2.1 dX12_longest_10 rfl (lv_at hl 0 rfl) ?_
  refine r_get C w 0 rfl rfl 5 (by decide) fl_RX12_71 (v := .int 1) rfl dX12_longest_11 ?_
  refine b_if_ne_t C (tgt := 32) dX12_longest_14 (by decide) (by decide) ?_
  refine lv_aload_n C.1 C.2.1 dX12_longest_32 rfl (lv_at hl 0 rfl) ?_
  refine r_get C w 0 rfl rfl 5 (by decide) fl_RX12_71 (v := .int 1) rfl dX12_longest_33 ?_
  refine b_if_le_f C (tgt := 41) dX12_longest_36 (by decide) (by decide) ?_
  refine lv_iconst (v := 0) C.1 C.2.1 dX12_longest_39 (by decide) ?_
  exact r_iret C w hlocks () hr rfl rfl trivial [0, 1] rfl rfl ⟨Nat.le_of_ble_eq_true rfl, Nat.le_of_ble_eq_true rfl⟩ dX12_longest_40
set_option maxRecDepth 100000 in
set_option maxHeartbeats 4000000 in
theorem c_X12_longest_1 (l : Launch) (D : va_G) (cy : Nat → ClassId) (a0 a1 a2 a3 a4 a5 a6 a7 a8 a9 a10 a11 a12 a13 a14 a15 a16 a17 : Nat) (x0 : Int32) (x1 : Int32) (x2 : Int32) (k0 : ¬ x0 < 0) : Ct l D cy yX12_longest cX12_longest 6 (some .int) 3 68 0 0 [(a0, .inr (12, [.ref a1, .ref a2, .ref a3, .ref a4, .ref a5, .int 0, .ref a6, .int 0, .int 0, .int 0, .int 0, .int 0, .int 0, .int 0, .int 0, .int 0, .int 0, .int (-1), .ref a7, .ref a8, .int 0, .ref a9, .int 0, .ref a10, .ref a11, .ref a12, .ref a13, .ref a14, .int 0, .ref a15, .ref a16, .ref a17])), (a1, .inl (cy 1, 1868, .inl (upd (upd (upd (fun _ => 0) 1 2) 2 20) 3 120)))] [.ref a0, .int x0, .int x1, .int x2] (fun u : Unit => some (.int 0)) (fun _ => True) (fun u : Unit => [(a0, .inr (12, [.ref a1, .ref a2, .ref a3, .ref a4, .ref a5, .int 1, .ref a6, .int 0, .int 0, .int 0, .int 0, .int 0, .int 0, .int 0, .int 0, .int 0, .int 0, .int (-1), .ref a7, .ref a8, .int 0, .ref a9, .int 0, .ref a10, .ref a11, .ref a12, .ref a13, .ref a14, .int 0, .ref a15, .ref a16, .ref a17])), (a1, .inl (cy 1, 1868, .inl (upd (upd (upd (fun _ => 0) 1 2) 2 20) 3 120)))]) := by
  refine Ct.of (by decide +kernel) (Nat.le_of_ble_eq_true rfl) ?_
  intro p e s m args below meth c A ls C hr hlocks hml hnm w hl
  have hl : lv_has ls 6 [(0, .ref a0), (1, .int x0), (2, .int x1), (3, .int x2)] := hl
  refine lv_aload_n C.1 C.2.1 dX12_longest_0 rfl (lv_at hl 0 rfl) ?_
  refine lv_aload_n C.1 C.2.1 dX12_longest_1 rfl (lv_at hl 0 rfl) ?_
  refine lv_iload_n C.1 C.2.1 dX12_longest_2 rfl (lv_at hl 1 rfl) ?_
  refine lv_iload_n C.1 C.2.1 dX12_longest_3 rfl (lv_at hl 2 rfl) ?_
  refine r_callV C w fv_RX12_360 (c_X12_twoFault_1 l D cy a0 a1 a2 a3 a4 a5 a6 a7 a8 a9 a10 a11 a12 a13 a14 a15 a16 a17 x0 x1 k0) (hl.1.trans hml.symm) [0, 1] [] (wr := []) ⟨rfl, rfl, rfl, rfl, by decide⟩ 0 rfl rfl rfl rfl rfl ⟨Nat.le_of_ble_eq_true rfl, Nat.le_of_ble_eq_true rfl, Nat.le_of_ble_eq_true rfl⟩ 0 0 ⟨rfl, rfl, Nat.le_of_ble_eq_true rfl, Nat.le_of_ble_eq_true rfl⟩ dX12_longest_4 (fun u H locs hp w => ?_)
  have w : Wd D A s.heap [(a0, .inr (12, [.ref a1, .ref a2, .ref a3, .ref a4, .ref a5, .int 0, .ref a6, .int 0, .int 0, .int 0, .int 0, .int 0, .int 0, .int 0, .int 0, .int 0, .int 0, .int (-1), .ref a7, .ref a8, .int 0, .ref a9, .int 0, .ref a10, .ref a11, .ref a12, .ref a13, .ref a14, .int 0, .ref a15, .ref a16, .ref a17])), (a1, .inl (cy 1, 1868, .inl (upd (upd (upd (fun _ => 0) 1 2) 2 20) 3 120)))] _ _ := w
  refine r_top (g2 := F0 m 7 ls [.int 1, .ref a0]) rfl ?_
  refine r_put C w 0 rfl rfl 5 (by decide) fl_RX12_71 rfl (ty := .int) (tyX12_ok 5 (by decide)) rfl rfl (Nat.le_of_ble_eq_true rfl) [(a0, .inr (12, [.ref a1, .ref a2, .ref a3, .ref a4, .ref a5, .int 1, .ref a6, .int 0, .int 0, .int 0, .int 0, .int 0, .int 0, .int 0, .int 0, .int 0, .int 0, .int (-1), .ref a7, .ref a8, .int 0, .ref a9, .int 0, .ref a10, .ref a11, .ref a12, .ref a13, .ref a14, .int 0, .ref a15, .ref a16, .ref a17])), (a1, .inl (cy 1, 1868, .inl (upd (upd (upd (fun _ => 0) 1 2) 2 20) 3 120)))] rfl dX12_longest_7 (fun H locs w => ?_)
  refine lv_aload_n C.1 C.2.1 dX12_longest_10 rfl (lv_at hl 0 rfl) ?_
  refine r_get C w 0 rfl rfl 5 (by decide) fl_RX12_71 (v := .int 1) rfl dX12_longest_11 ?_
  refine b_if_ne_t C (tgt := 32) dX12_longest_14 (by decide) (by decide) ?_
  refine lv_aload_n C.1 C.2.1 dX12_longest_32 rfl (lv_at hl 0 rfl) ?_
  refine r_get C w 0 rfl rfl 5 (by decide) fl_RX12_71 (v := .int 1) rfl dX12_longest_33 ?_
  refine b_if_le_f C (tgt := 41) dX12_longest_36 (by decide) (by decide) ?_
  refine lv_iconst (v := 0) C.1 C.2.1 dX12_longest_39 (by decide) ?_
  exact r_iret C w hlocks () hr rfl rfl trivial [0, 1] rfl rfl ⟨Nat.le_of_ble_eq_true rfl, Nat.le_of_ble_eq_true rfl⟩ dX12_longest_40
theorem dX12_liar_0 : decode cX12_liar 0 = .ok (.aload_n 0, 1) := by decide +kernel
theorem dX12_liar_1 : decode cX12_liar 1 = .ok (.aload_n 0, 1) := by decide +kernel
theorem dX12_liar_2 : decode cX12_liar 2 = .ok (.iload_n 1, 1) := by decide +kernel
theorem dX12_liar_3 : decode cX12_liar 3 = .ok (.invokevirtual 270, 3) := by decide +kernel
theorem dX12_liar_6 : decode cX12_liar 6 = .ok (.ifCond .eq 7, 3) := by decide +kernel
theorem dX12_liar_13 : decode cX12_liar 13 = .ok (.iconst 1, 1) := by decide +kernel
theorem dX12_liar_14 : decode cX12_liar 14 = .ok (.putfield 71, 3) := by decide +kernel
theorem dX12_liar_17 : decode cX12_liar 17 = .ok (.aload_n 0, 1) := by decide +kernel
theorem dX12_liar_18 : decode cX12_liar 18 = .ok (.getfield 71, 3) := by decide +kernel
theorem dX12_liar_21 : decode cX12_liar 21 = .ok (.ifCond .le 7, 3) := by decide +kernel
theorem dX12_liar_24 : decode cX12_liar 24 = .ok (.iconst 0, 1) := by decide +kernel
theorem dX12_liar_25 : decode cX12_liar 25 = .ok (.goto 8, 3) := by decide +kernel
theorem dX12_liar_33 : decode cX12_liar 33 = .ok (.ireturn, 1) := by decide +kernel
set_option maxRecDepth 100000 in
set_option maxHeartbeats 4000000 in
theorem c_X12_liar_0 (l : Launch) (D : va_G) (cy : Nat → ClassId) (a0 a1 a2 a3 a4 a5 a6 a7 a8 a9 a10 a11 a12 a13 a14 a15 a16 a17 : Nat) (x0 : Int32) (k0 : x0 < 0) : Ct l D cy yX12_liar cX12_liar 2 (some .int) 2 46 0 0 [(a0, .inr (12, [.ref a1, .ref a2, .ref a3, .ref a4, .ref a5, .int 0, .ref a6, .int 0, .int 0, .int 0, .int 0, .int 0, .int 0, .int 0, .int 0, .int 0, .int 0, .int (-1), .ref a7, .ref a8, .int 0, .ref a9, .int 0, .ref a10, .ref a11, .ref a12, .ref a13, .ref a14, .int 0, .ref a15, .ref a16, .ref a17])), (a1, .inl (cy 1, 1868, .inl (upd (upd (upd (fun _ => 0) 1 2) 2 20) 3 120)))] [.ref a0, .int x0] (fun u : Unit => some (.int 0)) (fun _ => True) (fun u : Unit => [(a0, .inr (12, [.ref a1, .ref a2, .ref a3, .ref a4, .ref a5, .int 1, .ref a6, .int 0, .int 0, .int 0, .int 0, .int 0, .int 0, .int 0, .int 0, .int 0, .int 0, .int (-1), .ref a7, .ref a8, .int 0, .ref a9, .int 0, .ref a10, .ref a11, .ref a12, .ref a13, .ref a14, .int 0, .ref a15, .ref a16, .ref a17])), (a1, .inl (cy 1, 1868, .inl (upd (upd (upd (fun _ => 0) 1 2) 2 20) 3 120)))]) := by
  refine Ct.of (by decide +kernel) (Nat.le_of_ble_eq_true rfl) ?_
  intro p e s m args below meth c A ls C hr hlocks hml hnm w hl
  have hl : lv_has ls 2 [(0, .ref a0), (1, .int x0)] := hl
  refine lv_aload_n C.1 C.2.1 dX12_liar_0 rfl (lv_at hl 0 rfl) ?_
  refine lv_aload_n C.1 C.2.1 dX12_liar_1 rfl (lv_at hl 0 rfl) ?_
  refine lv_iload_n C.1 C.2.1 dX12_liar_2 rfl (lv_at hl 1 rfl) ?_
  refine r_callV C w fv_RX12_270 (c_X12_isSpeaker_0 l D cy a0 a1 a2 a3 a4 a5 a6 a7 a8 a9 a10 a11 a12 a13 a14 a15 a16 a17 x0 k0) (hl.1.trans hml.symm) [0, 1] [] (wr := []) ⟨rfl, rfl, rfl, rfl, by decide⟩ 0 rfl rfl rfl rfl rfl ⟨Nat.le_of_ble_eq_true rfl, Nat.le_of_ble_eq_true rfl, Nat.le_of_ble_eq_true rfl⟩ 0 0 ⟨rfl, rfl, Nat.le_of_ble_eq_true rfl, Nat.le_of_ble_eq_true rfl⟩ dX12_liar_3 (fun u H locs hp w => ?_)
  have w : Wd D A s.heap [(a0, .inr (12, [.ref a1, .ref a2, .ref a3, .ref a4, .ref a5, .int 0, .ref a6, .int 0, .int 0, .int 0, .int 0, .int 0, .int 0, .int 0, .int 0, .int 0, .int 0, .int (-1), .ref a7, .ref a8, .int 0, .ref a9, .int 0, .ref a10, .ref a11, .ref a12, .ref a13, .ref a14, .int 0, .ref a15, .ref a16, .ref a17])), (a1, .inl (cy 1, 1868, .inl (upd (upd (upd (fun _ => 0) 1 2) 2 20) 3 120)))] _ _ := w
  refine r_top (g2 := F0 m 6 ls [.int 0, .ref a0]) rfl ?_
  refine b_if_eq_t C (tgt := 13) dX12_liar_6 (by decide) (by decide) ?_
  refine lv_iconst (v := 1) C.1 C.2.1 dX12_liar_13 (by decide) ?_
  refine r_put C w 0 rfl rfl 5 (by decide) fl_RX12_71 rfl (ty := .int) (tyX12_ok 5 (by decide)) rfl rfl (Nat.le_of_ble_eq_true rfl) [(a0, .inr (12, [.ref a1, .ref a2, .ref a3, .ref a4, .ref a5, .int 1, .ref a6, .int 0, .int 0, .int 0, .int 0, .int 0, .int 0, .int 0, .int 0, .int 0, .int 0, .int (-1), .ref a7, .ref a8, .int 0, .ref a9, .int 0, .ref a10, .ref a11, .ref a12, .ref a13, .ref a14, .int 0, .ref a15, .ref a16, .ref a17])), (a1, .inl (cy 1, 1868, .inl (upd (upd (upd (fun _ => 0) 1 2) 2 20) 3 120)))] rfl dX12_liar_14 (fun H locs w => ?_)
  refine lv_aload_n C.1 C.2.1 dX12_liar_17 rfl (lv_at hl 0 rfl) ?_
  refine r_get C w 0 rfl rfl 5 (by decide) fl_RX12_71 (v := .int 1) rfl dX12_liar_18 ?_
  refine b_if_le_f C (tgt := 28) dX12_liar_21 (by decide) (by decide) ?_
  refine lv_iconst (v := 0) C.1 C.2.1 dX12_liar_24 (by decide) ?_
  refine lv_goto (tgt := 33) C.1 C.2.1 dX12_liar_25 (by decide) ?_
  exact r_iret C w hlocks () hr rfl rfl trivial [0, 1] rfl rfl ⟨Nat.le_of_ble_eq_true rfl, Nat.le_of_ble_eq_true rfl⟩ dX12_liar_33
set_option maxRecDepth 100000 in
set_option maxHeartbeats 4000000 in
theorem c_X12_liar_1 (l : Launch) (D : va_G) (cy : Nat → ClassId) (a0 a1 a2 a3 a4 a5 a6 a7 a8 a9 a10 a11 a12 a13 a14 a15 a16 a17 : Nat) (x0 : Int32) (k0 : ¬ x0 < 0) : Ct l D cy yX12_liar cX12_liar 2 (some .int) 2 46 0 0 [(a0, .inr (12, [.ref a1, .ref a2, .ref a3, .ref a4, .ref a5, .int 0, .ref a6, .int 0, .int 0, .int 0, .int 0, .int 0, .int 0, .int 0, .int 0, .int 0, .int 0, .int (-1), .ref a7, .ref a8, .int 0, .ref a9, .int 0, .ref a10, .ref a11, .ref a12, .ref a13, .ref a14, .int 0, .ref a15, .ref a16, .ref a17])), (a1, .inl (cy 1, 1868, .inl (upd (upd (upd (fun _ => 0) 1 2) 2 20) 3 120)))] [.ref a0, .int x0] (fun u : Unit => some (.int 0)) (fun _ => True) (fun u : Unit => [(a0, .inr (12, [.ref a1, .ref a2, .ref a3, .ref a4, .ref a5, .int 1, .ref a6, .int 0, .int 0, .int 0, .int 0, .int 0, .int 0, .int 0, .int 0, .int 0, .int 0, .int (-1), .ref a7, .ref a8, .int 0, .ref a9, .int 0, .ref a10, .ref a11, .ref a12, .ref a13, .ref a14, .int 0, .ref a15, .ref a16, .ref a17])), (a1, .inl (cy 1, 1868, .inl (upd (upd (upd (fun _ => 0) 1 2) 2 20) 3 120)))]) := by
  refine Ct.of (by decide +kernel) (Nat.le_of_ble_eq_true rfl) ?_
  intro p e s m args below meth c A ls C hr hlocks hml hnm w hl
  have hl : lv_has ls 2 [(0, .ref a0), (1, .int x0)] := hl
  refine lv_aload_n C.1 C.2.1 dX12_liar_0 rfl (lv_at hl 0 rfl) ?_
  refine lv_aload_n C.1 C.2.1 dX12_liar_1 rfl (lv_at hl 0 rfl) ?_
  refine lv_iload_n C.1 C.2.1 dX12_liar_2 rfl (lv_at hl 1 rfl) ?_
  refine r_callV C w fv_RX12_270 (c_X12_isSpeaker_1 l D cy a0 a1 a2 a3 a4 a5 a6 a7 a8 a9 a10 a11 a12 a13 a14 a15 a16 a17 x0 k0) (hl.1.trans hml.symm) [0, 1] [] (wr := []) ⟨rfl, rfl, rfl, rfl, by decide⟩ 0 rfl rfl rfl rfl rfl ⟨Nat.le_of_ble_eq_true rfl, Nat.le_of_ble_eq_true rfl, Nat.le_of_ble_eq_true rfl⟩ 0 0 ⟨rfl, rfl, Nat.le_of_ble_eq_true rfl, Nat.le_of_ble_eq_true rfl⟩ dX12_liar_3 (fun u H locs hp w => ?_)
  have w : Wd D A s.heap [(a0, .inr (12, [.ref a1, .ref a2, .ref a3, .ref a4, .ref a5, .int 0, .ref a6, .int 0, .int 0, .int 0, .int 0, .int 0, .int 0, .int 0, .int 0, .int 0, .int 0, .int (-1), .ref a7, .ref a8, .int 0, .ref a9, .int 0, .ref a10, .ref a11, .ref a12, .ref a13, .ref a14, .int 0, .ref a15, .ref a16, .ref a17])), (a1, .inl (cy 1, 1868, .inl (upd (upd (upd (fun _ => 0) 1 2) 2 20) 3 120)))] _ _ := w
  refine r_top (g2 := F0 m 6 ls [.int 0, .ref a0]) rfl ?_
  refine b_if_eq_t C (tgt := 13) dX12_liar_6 (by decide) (by decide) ?_
  refine lv_iconst (v := 1) C.1 C.2.1 dX12_liar_13 (by decide) ?_
  refine r_put C w 0 rfl rfl 5 (by decide) fl_RX12_71 rfl (ty := .int) (tyX12_ok 5 (by decide)) rfl rfl (Nat.le_of_ble_eq_true rfl) [(a0, .inr (12, [.ref a1, .ref a2, .ref a3, .ref a4, .ref a5, .int 1, .ref a6, .int 0, .int 0, .int 0, .int 0, .int 0, .int 0, .int 0, .int 0, .int 0, .int 0, .int (-1), .ref a7, .ref a8, .int 0, .ref a9, .int 0, .ref a10, .ref a11, .ref a12, .ref a13, .ref a14, .int 0, .ref a15, .ref a16, .ref a17])), (a1, .inl (cy 1, 1868, .inl (upd (upd (upd (fun _ => 0) 1 2) 2 20) 3 120)))] rfl dX12_liar_14 (fun H locs w => ?_)
  refine lv_aload_n C.1 C.2.1 dX12_liar_17 rfl (lv_at hl 0 rfl) ?_
  refine r_get C w 0 rfl rfl 5 (by decide) fl_RX12_71 (v := .int 1) rfl dX12_liar_18 ?_
  refine b_if_le_f C (tgt := 28) dX12_liar_21 (by decide) (by decide) ?_
  refine lv_iconst (v := 0) C.1 C.2.1 dX12_liar_24 (by decide) ?_
  refine lv_goto (tgt := 33) C.1 C.2.1 dX12_liar_25 (by decide) ?_
  exact r_iret C w hlocks () hr rfl rfl trivial [0, 1] rfl rfl ⟨Nat.le_of_ble_eq_true rfl, Nat.le_of_ble_eq_true rfl⟩ dX12_liar_33
theorem dX12_which_0 : decode cX12_which 0 = .ok (.aload_n 0, 1) := by decide +kernel
theorem dX12_which_1 : decode cX12_which 1 = .ok (.iconst 0, 1) := by decide +kernel
theorem dX12_which_2 : decode cX12_which 2 = .ok (.putfield 71, 3) := by decide +kernel
theorem dX12_which_5 : decode cX12_which 5 = .ok (.iconst 0, 1) := by decide +kernel
theorem dX12_which_6 : decode cX12_which 6 = .ok (.istore_n 1, 1) := by decide +kernel
theorem dX12_which_7 : decode cX12_which 7 = .ok (.iconst 0, 1) := by decide +kernel
theorem dX12_which_8 : decode cX12_which 8 = .ok (.istore_n 2, 1) := by decide +kernel
theorem dX12_which_9 : decode cX12_which 9 = .ok (.iload_n 2, 1) := by decide +kernel
theorem dX12_which_10 : decode cX12_which 10 = .ok (.aload_n 0, 1) := by decide +kernel
theorem dX12_which_11 : decode cX12_which 11 = .ok (.getfield 9, 3) := by decide +kernel
theorem dX12_which_14 : decode cX12_which 14 = .ok (.iconst 5, 1) := by decide +kernel
theorem dX12_which_15 : decode cX12_which 15 = .ok (.iaload, 1) := by decide +kernel
theorem dX12_which_16 : decode cX12_which 16 = .ok (.if_icmp .ge 28, 3) := by decide +kernel
theorem dX12_which_44 : decode cX12_which 44 = .ok (.iload_n 1, 1) := by decide +kernel
theorem dX12_which_45 : decode cX12_which 45 = .ok (.ireturn, 1) := by decide +kernel
set_option maxRecDepth 100000 in
set_option maxHeartbeats 4000000 in
theorem c_X12_which_0 (l : Launch) (D : va_G) (cy : Nat → ClassId) (a0 a1 a2 a3 a4 a5 a6 a7 a8 a9 a10 a11 a12 a13 a14 a15 a16 a17 : Nat) : Ct l D cy yX12_which cX12_which 3 (some .int) 0 0 0 0 [(a0, .inr (12, [.ref a1, .ref a2, .ref a3, .ref a4, .ref a5, .int 0, .ref a6, .int 0, .int 0, .int 0, .int 0, .int 0, .int 0, .int 0, .int 0, .int 0, .int 0, .int (-1), .ref a7, .ref a8, .int 0, .ref a9, .int 0, .ref a10, .ref a11, .ref a12, .ref a13, .ref a14, .int 0, .ref a15, .ref a16, .ref a17])), (a1, .inl (cy 1, 1868, .inl (upd (upd (upd (fun _ => 0) 1 2) 2 20) 3 120)))] [.ref a0] (fun u : Unit => some (.int 0)) (fun _ => True) (fun u : Unit => [(a0, .inr (12, [.ref a1, .ref a2, .ref a3, .ref a4, .ref a5, .int 0, .ref a6, .int 0, .int 0, .int 0, .int 0, .int 0, .int 0, .int 0, .int 0, .int 0, .int 0, .int (-1), .ref a7, .ref a8, .int 0, .ref a9, .int 0, .ref a10, .ref a11, .ref a12, .ref a13, .ref a14, .int 0, .ref a15, .ref a16, .ref a17])), (a1, .inl (cy 1, 1868, .inl (upd (upd (upd (fun _ => 0) 1 2) 2 20) 3 120)))]) := by
  refine Ct.of (by decide +kernel) (Nat.le_of_ble_eq_true rfl) ?_
  intro p e s m args below meth c A ls C hr hlocks hml hnm w hl
  have hl : lv_has ls 3 [(0, .ref a0)] := hl
  refine lv_aload_n C.1 C.2.1 dX12_which_0 rfl (lv_at hl 0 rfl) ?_
  refine lv_iconst (v := 0) C.1 C.2.1 dX12_which_1 (by decide) ?_
  refine r_put C w 0 rfl rfl 5 (by decide) fl_RX12_71 rfl (ty := .int) (tyX12_ok 5 (by decide)) rfl rfl (Nat.le_of_ble_eq_true rfl) [(a0, .inr (12, [.ref a1, .ref a2, .ref a3, .ref a4, .ref a5, .int 0, .ref a6, .int 0, .int 0, .int 0, .int 0, .int 0, .int 0, .int 0, .int 0, .int 0, .int 0, .int (-1), .ref a7, .ref a8, .int 0, .ref a9, .int 0, .ref a10, .ref a11, .ref a12, .ref a13, .ref a14, .int 0, .ref a15, .ref a16, .ref a17])), (a1, .inl (cy 1, 1868, .inl (upd (upd (upd (fun _ => 0) 1 2) 2 20) 3 120)))] rfl dX12_which_2 (fun H locs w => ?_)
  refine lv_iconst (v := 0) C.1 C.2.1 dX12_which_5 (by decide) ?_
  refine lv_istore_n (lv' := [(1, .int 0), (0, .ref a0)]) C.1 C.2.1 dX12_which_6 rfl hl (by decide) rfl (fun ls hl => ?_)
  refine lv_iconst (v := 0) C.1 C.2.1 dX12_which_7 (by decide) ?_
  refine lv_istore_n (lv' := [(2, .int 0), (1, .int 0), (0, .ref a0)]) C.1 C.2.1 dX12_which_8 rfl hl (by decide) rfl (fun ls hl => ?_)
  refine lv_iload_n C.1 C.2.1 dX12_which_9 rfl (lv_at hl 0 rfl) ?_
  refine lv_aload_n C.1 C.2.1 dX12_which_10 rfl (lv_at hl 2 rfl) ?_
  refine r_get C w 0 rfl rfl 0 (by decide) fl_RX12_9 (v := .ref a1) rfl dX12_which_11 ?_
  refine lv_iconst (v := 5) C.1 C.2.1 dX12_which_14 (by decide) ?_
  refine r_iald C w 1 rfl (v := 0) (vinD (by decide)) rfl dX12_which_15 ?_
  refine b_icmp_ge_t C (tgt := 44) dX12_which_16 (by decide) (by decide) ?_
  refine lv_iload_n C.1 C.2.1 dX12_which_44 rfl (lv_at hl 1 rfl) ?_
  exact r_iret C w hlocks () hr rfl rfl trivial [0, 1] rfl rfl ⟨Nat.le_of_ble_eq_true rfl, Nat.le_of_ble_eq_true rfl⟩ dX12_which_45
theorem dX12_restore_0 : decode cX12_restore 0 = .ok (.aload_n 0, 1) := by decide +kernel
theorem dX12_restore_1 : decode cX12_restore 1 = .ok (.iload_n 1, 1) := by decide +kernel
theorem dX12_restore_2 : decode cX12_restore 2 = .ok (.i2l, 1) := by decide +kernel
theorem dX12_restore_3 : decode cX12_restore 3 = .ok (.lconst 0, 1) := by decide +kernel
theorem kl_RX12_401 : Cond.constantLong RX12 401 2 ∈ gw := gw_mem (by decide +kernel) (by decide +kernel)
theorem dX12_restore_4 : decode cX12_restore 4 = .ok (.ldc2_w 401, 3) := by decide +kernel
theorem dX12_restore_7 : decode cX12_restore 7 = .ok (.invokestatic 133, 3) := by decide +kernel
set_option maxRecDepth 100000 in
set_option maxHeartbeats 4000000 in
theorem c_X12_within_6 (l : Launch) (D : va_G) (cy : Nat → ClassId) (x0 : Int32) (k0 : x0 < 0) : Ct l D cy yX12_within cX12_within 6 (some .boolean) 0 0 0 0 [] [.long (Int32.toInt64 x0), .long 0, .long 2] (fun u : Unit => some (.int 0)) (fun _ => True) (fun u : Unit => []) := by
  refine Ct.of (by decide +kernel) (Nat.le_of_ble_eq_true rfl) ?_
  intro p e s m args below meth c A ls C hr hlocks hml hnm w hl
  have hl : lv_has ls 6 [(0, .long (Int32.toInt64 x0)), (2, .long 0), (4, .long 2)] := hl
  refine lv_lload_n C.1 C.2.1 dX12_within_0 rfl (lv_at hl 0 rfl) ?_
  refine lv_lload_n C.1 C.2.1 dX12_within_1 rfl (lv_at hl 1 rfl) ?_
  refine r_lcmp C (v := (lg_cmp (Int32.toInt64 x0) 0)) dX12_within_2 rfl ?_
  refine b_if_lt_t C (tgt := 17) dX12_within_3 (by decide) (cmp_lt (x := x0) (y := 0) k0) ?_
  refine lv_iconst (v := 0) C.1 C.2.1 dX12_within_17 (by decide) ?_
  exact r_iret C w hlocks () hr rfl rfl trivial [] rfl rfl ⟨Nat.le_of_ble_eq_true rfl, Nat.le_of_ble_eq_true rfl⟩ dX12_within_18
set_option maxRecDepth 100000 in
set_option maxHeartbeats 4000000 in
theorem c_X12_within_7 (l : Launch) (D : va_G) (cy : Nat → ClassId) (x0 : Int32) (k0 : ¬ x0 < 0) (k1 : 2 < x0) : Ct l D cy yX12_within cX12_within 6 (some .boolean) 0 0 0 0 [] [.long (Int32.toInt64 x0), .long 0, .long 2] (fun u : Unit => some (.int 0)) (fun _ => True) (fun u : Unit => []) := by
  refine Ct.of (by decide +kernel) (Nat.le_of_ble_eq_true rfl) ?_
  intro p e s m args below meth c A ls C hr hlocks hml hnm w hl
  have hl : lv_has ls 6 [(0, .long (Int32.toInt64 x0)), (2, .long 0), (4, .long 2)] := hl
  refine lv_lload_n C.1 C.2.1 dX12_within_0 rfl (lv_at hl 0 rfl) ?_
  refine lv_lload_n C.1 C.2.1 dX12_within_1 rfl (lv_at hl 1 rfl) ?_
  refine r_lcmp C (v := (lg_cmp (Int32.toInt64 x0) 0)) dX12_within_2 rfl ?_
  refine b_if_lt_f C (tgt := 17) dX12_within_3 (by decide) (cmp_nlt (x := x0) (y := 0) k0) ?_
  refine lv_lload_n C.1 C.2.1 dX12_within_6 rfl (lv_at hl 0 rfl) ?_
  refine lv_lload C.1 C.2.1 dX12_within_7 (lv_at hl 2 rfl) ?_
  refine r_lcmp C (v := (lg_cmp (Int32.toInt64 x0) 2)) dX12_within_9 rfl ?_
  refine b_if_gt_t C (tgt := 17) dX12_within_10 (by decide) (cmp_gt (x := x0) (y := 2) k1) ?_
  refine lv_iconst (v := 0) C.1 C.2.1 dX12_within_17 (by decide) ?_
  exact r_iret C w hlocks () hr rfl rfl trivial [] rfl rfl ⟨Nat.le_of_ble_eq_true rfl, Nat.le_of_ble_eq_true rfl⟩ dX12_within_18
set_option maxRecDepth 100000 in
set_option maxHeartbeats 4000000 in
theorem c_X12_within_8 (l : Launch) (D : va_G) (cy : Nat → ClassId) (x0 : Int32) (k0 : ¬ x0 < 0) (k1 : ¬ 2 < x0) : Ct l D cy yX12_within cX12_within 6 (some .boolean) 0 0 0 0 [] [.long (Int32.toInt64 x0), .long 0, .long 2] (fun u : Unit => some (.int 1)) (fun _ => True) (fun u : Unit => []) := by
  refine Ct.of (by decide +kernel) (Nat.le_of_ble_eq_true rfl) ?_
  intro p e s m args below meth c A ls C hr hlocks hml hnm w hl
  have hl : lv_has ls 6 [(0, .long (Int32.toInt64 x0)), (2, .long 0), (4, .long 2)] := hl
  refine lv_lload_n C.1 C.2.1 dX12_within_0 rfl (lv_at hl 0 rfl) ?_
  refine lv_lload_n C.1 C.2.1 dX12_within_1 rfl (lv_at hl 1 rfl) ?_
  refine r_lcmp C (v := (lg_cmp (Int32.toInt64 x0) 0)) dX12_within_2 rfl ?_
  refine b_if_lt_f C (tgt := 17) dX12_within_3 (by decide) (cmp_nlt (x := x0) (y := 0) k0) ?_
  refine lv_lload_n C.1 C.2.1 dX12_within_6 rfl (lv_at hl 0 rfl) ?_
  refine lv_lload C.1 C.2.1 dX12_within_7 (lv_at hl 2 rfl) ?_
  refine r_lcmp C (v := (lg_cmp (Int32.toInt64 x0) 2)) dX12_within_9 rfl ?_
  refine b_if_gt_f C (tgt := 17) dX12_within_10 (by decide) (cmp_ngt (x := x0) (y := 2) k1) ?_
  refine lv_iconst (v := 1) C.1 C.2.1 dX12_within_13 (by decide) ?_
  refine lv_goto (tgt := 18) C.1 C.2.1 dX12_within_14 (by decide) ?_
  exact r_iret C w hlocks () hr rfl rfl trivial [] rfl rfl ⟨Nat.le_of_ble_eq_true rfl, Nat.le_of_ble_eq_true rfl⟩ dX12_within_18
theorem dX12_restore_10 : decode cX12_restore 10 = .ok (.ifCond .ne 7, 3) := by decide +kernel
theorem dX12_restore_13 : decode cX12_restore 13 = .ok (.iconst 1, 1) := by decide +kernel
theorem dX12_restore_14 : decode cX12_restore 14 = .ok (.goto 17, 3) := by decide +kernel
theorem dX12_restore_31 : decode cX12_restore 31 = .ok (.putfield 71, 3) := by decide +kernel
theorem dX12_restore_34 : decode cX12_restore 34 = .ok (.aload_n 0, 1) := by decide +kernel
theorem dX12_restore_35 : decode cX12_restore 35 = .ok (.getfield 71, 3) := by decide +kernel
theorem dX12_restore_38 : decode cX12_restore 38 = .ok (.ifCond .le 4, 3) := by decide +kernel
theorem dX12_restore_41 : decode cX12_restore 41 = .ok (.return_, 1) := by decide +kernel
set_option maxRecDepth 100000 in
set_option maxHeartbeats 4000000 in
theorem c_X12_restore_0 (l : Launch) (D : va_G) (cy : Nat → ClassId) (a0 a1 a2 a3 a4 a5 a6 a7 a8 a9 a10 a11 a12 a13 a14 a15 a16 a17 : Nat) (x0 : Int32) (k0 : x0 < 0) : Ct l D cy yX12_restore cX12_restore 3 none 1 25 0 0 [(a0, .inr (12, [.ref a1, .ref a2, .ref a3, .ref a4, .ref a5, .int 0, .ref a6, .int 0, .int 0, .int 0, .int 0, .int 0, .int 0, .int 0, .int 0, .int 0, .int 0, .int (-1), .ref a7, .ref a8, .int 0, .ref a9, .int 0, .ref a10, .ref a11, .ref a12, .ref a13, .ref a14, .int 0, .ref a15, .ref a16, .ref a17]))] [.ref a0, .int x0] (fun u : Unit => none) (fun _ => True) (fun u : Unit => [(a0, .inr (12, [.ref a1, .ref a2, .ref a3, .ref a4, .ref a5, .int 1, .ref a6, .int 0, .int 0, .int 0, .int 0, .int 0, .int 0, .int 0, .int 0, .int 0, .int 0, .int (-1), .ref a7, .ref a8, .int 0, .ref a9, .int 0, .ref a10, .ref a11, .ref a12, .ref a13, .ref a14, .int 0, .ref a15, .ref a16, .ref a17]))]) := by
  refine Ct.of (by decide +kernel) (Nat.le_of_ble_eq_true rfl) ?_
  intro p e s m args below meth c A ls C hr hlocks hml hnm w hl
  have hl : lv_has ls 3 [(0, .ref a0), (1, .int x0)] := hl
  refine lv_aload_n C.1 C.2.1 dX12_restore_0 rfl (lv_at hl 0 rfl) ?_
  refine lv_iload_n C.1 C.2.1 dX12_restore_1 rfl (lv_at hl 1 rfl) ?_
  refine lv_i2l (v := (Int32.toInt64 x0)) C.1 C.2.1 dX12_restore_2 rfl ?_
  refine lv_lconst (v := 0) C.1 C.2.1 dX12_restore_3 (by decide) ?_
  refine lv_ldc2 (v := 2) C.1 C.2.1 C.2.2.1 (C.2.2.2.1 _ kl_RX12_401) dX12_restore_4 ?_
  refine r_callS C w fs_RX12_133 (c_X12_within_6 l D cy x0 k0) (hl.1.trans hml.symm) [] [0] (wr := [(a0, .inr (12, [.ref a1, .ref a2, .ref a3, .ref a4, .ref a5, .int 0, .ref a6, .int 0, .int 0, .int 0, .int 0, .int 0, .int 0, .int 0, .int 0, .int 0, .int 0, .int (-1), .ref a7, .ref a8, .int 0, .ref a9, .int 0, .ref a10, .ref a11, .ref a12, .ref a13, .ref a14, .int 0, .ref a15, .ref a16, .ref a17]))]) ⟨rfl, rfl, rfl, rfl, by decide⟩ rfl rfl ⟨Nat.le_of_ble_eq_true rfl, Nat.le_of_ble_eq_true rfl, Nat.le_of_ble_eq_true rfl⟩ 0 0 ⟨rfl, rfl, Nat.le_of_ble_eq_true rfl, Nat.le_of_ble_eq_true rfl⟩ dX12_restore_7 (fun u H locs hp w => ?_)
  have w : Wd D A s.heap [(a0, .inr (12, [.ref a1, .ref a2, .ref a3, .ref a4, .ref a5, .int 0, .ref a6, .int 0, .int 0, .int 0, .int 0, .int 0, .int 0, .int 0, .int 0, .int 0, .int 0, .int (-1), .ref a7, .ref a8, .int 0, .ref a9, .int 0, .ref a10, .ref a11, .ref a12, .ref a13, .ref a14, .int 0, .ref a15, .ref a16, .ref a17]))] _ _ := w
  refine r_top (g2 := F0 m 10 ls [.int 0, .ref a0]) rfl ?_
  refine b_if_ne_f C (tgt := 17) dX12_restore_10 (by decide) (by decide) ?_
  refine lv_iconst (v := 1) C.1 C.2.1 dX12_restore_13 (by decide) ?_
  refine lv_goto (tgt := 31) C.1 C.2.1 dX12_restore_14 (by decide) ?_
  refine r_put C w 0 rfl rfl 5 (by decide) fl_RX12_71 rfl (ty := .int) (tyX12_ok 5 (by decide)) rfl rfl (Nat.le_of_ble_eq_true rfl) [(a0, .inr (12, [.ref a1, .ref a2, .ref a3, .ref a4, .ref a5, .int 1, .ref a6, .int 0, .int 0, .int 0, .int 0, .int 0, .int 0, .int 0, .int 0, .int 0, .int 0, .int (-1), .ref a7, .ref a8, .int 0, .ref a9, .int 0, .ref a10, .ref a11, .ref a12, .ref a13, .ref a14, .int 0, .ref a15, .ref a16, .ref a17]))] rfl dX12_restore_31 (fun H locs w => ?_)
  refine lv_aload_n C.1 C.2.1 dX12_restore_34 rfl (lv_at hl 0 rfl) ?_
  refine r_get C w 0 rfl rfl 5 (by decide) fl_RX12_71 (v := .int 1) rfl dX12_restore_35 ?_
  refine b_if_le_f C (tgt := 42) dX12_restore_38 (by decide) (by decide) ?_
  exact r_vret C w hlocks () hr rfl trivial [0] rfl rfl ⟨Nat.le_of_ble_eq_true rfl, Nat.le_of_ble_eq_true rfl⟩ dX12_restore_41
theorem dX12_restore_17 : decode cX12_restore 17 = .ok (.aload_n 0, 1) := by decide +kernel
theorem dX12_restore_18 : decode cX12_restore 18 = .ok (.getfield 22, 3) := by decide +kernel
theorem dX12_restore_21 : decode cX12_restore 21 = .ok (.iload_n 1, 1) := by decide +kernel
set_option maxRecDepth 100000 in
set_option maxHeartbeats 4000000 in
theorem c_X12_within_9 (l : Launch) (D : va_G) (cy : Nat → ClassId) : Ct l D cy yX12_within cX12_within 6 (some .boolean) 0 0 0 0 [] [.long 0, .long 0, .long 2] (fun u : Unit => some (.int 1)) (fun _ => True) (fun u : Unit => []) := by
  refine Ct.of (by decide +kernel) (Nat.le_of_ble_eq_true rfl) ?_
  intro p e s m args below meth c A ls C hr hlocks hml hnm w hl
  have hl : lv_has ls 6 [(0, .long 0), (2, .long 0), (4, .long 2)] := hl
  refine lv_lload_n C.1 C.2.1 dX12_within_0 rfl (lv_at hl 0 rfl) ?_
  refine lv_lload_n C.1 C.2.1 dX12_within_1 rfl (lv_at hl 1 rfl) ?_
  refine r_lcmp C (v := 0) dX12_within_2 (by decide) ?_
  refine b_if_lt_f C (tgt := 17) dX12_within_3 (by decide) (by decide) ?_
  refine lv_lload_n C.1 C.2.1 dX12_within_6 rfl (lv_at hl 0 rfl) ?_
  refine lv_lload C.1 C.2.1 dX12_within_7 (lv_at hl 2 rfl) ?_
  refine r_lcmp C (v := (-1)) dX12_within_9 (by decide) ?_
  refine b_if_gt_f C (tgt := 17) dX12_within_10 (by decide) (by decide) ?_
  refine lv_iconst (v := 1) C.1 C.2.1 dX12_within_13 (by decide) ?_
  refine lv_goto (tgt := 18) C.1 C.2.1 dX12_within_14 (by decide) ?_
  exact r_iret C w hlocks () hr rfl rfl trivial [] rfl rfl ⟨Nat.le_of_ble_eq_true rfl, Nat.le_of_ble_eq_true rfl⟩ dX12_within_18
theorem dX12_restore_22 : decode cX12_restore 22 = .ok (.baload, 1) := by decide +kernel
theorem dX12_restore_23 : decode cX12_restore 23 = .ok (.ifCond .ne 7, 3) := by decide +kernel
theorem dX12_restore_26 : decode cX12_restore 26 = .ok (.iconst 2, 1) := by decide +kernel
theorem dX12_restore_27 : decode cX12_restore 27 = .ok (.goto 4, 3) := by decide +kernel
set_option maxRecDepth 100000 in
set_option maxHeartbeats 4000000 in
theorem c_X12_restore_1 (l : Launch) (D : va_G) (cy : Nat → ClassId) (a0 a1 a2 a3 a4 a5 a6 a7 a8 a9 a10 a11 a12 a13 a14 a15 a16 a17 : Nat) : Ct l D cy yX12_restore cX12_restore 3 none 1 25 0 0 [(a0, .inr (12, [.ref a1, .ref a2, .ref a3, .ref a4, .ref a5, .int 0, .ref a6, .int 0, .int 0, .int 0, .int 0, .int 0, .int 0, .int 0, .int 0, .int 0, .int 0, .int (-1), .ref a7, .ref a8, .int 0, .ref a9, .int 0, .ref a10, .ref a11, .ref a12, .ref a13, .ref a14, .int 0, .ref a15, .ref a16, .ref a17])), (a5, .inl (cy 3, 3, .inl (fun _ => 0)))] [.ref a0, .int 0] (fun u : Unit => none) (fun _ => True) (fun u : Unit => [(a0, .inr (12, [.ref a1, .ref a2, .ref a3, .ref a4, .ref a5, .int 2, .ref a6, .int 0, .int 0, .int 0, .int 0, .int 0, .int 0, .int 0, .int 0, .int 0, .int 0, .int (-1), .ref a7, .ref a8, .int 0, .ref a9, .int 0, .ref a10, .ref a11, .ref a12, .ref a13, .ref a14, .int 0, .ref a15, .ref a16, .ref a17])), (a5, .inl (cy 3, 3, .inl (fun _ => 0)))]) := by
  refine Ct.of (by decide +kernel) (Nat.le_of_ble_eq_true rfl) ?_
  intro p e s m args below meth c A ls C hr hlocks hml hnm w hl
  have hl : lv_has ls 3 [(0, .ref a0), (1, .int 0)] := hl
  refine lv_aload_n C.1 C.2.1 dX12_restore_0 rfl (lv_at hl 0 rfl) ?_
  refine lv_iload_n C.1 C.2.1 dX12_restore_1 rfl (lv_at hl 1 rfl) ?_
  refine lv_i2l (v := 0) C.1 C.2.1 dX12_restore_2 (by decide) ?_
  refine lv_lconst (v := 0) C.1 C.2.1 dX12_restore_3 (by decide) ?_
  refine lv_ldc2 (v := 2) C.1 C.2.1 C.2.2.1 (C.2.2.2.1 _ kl_RX12_401) dX12_restore_4 ?_
  refine r_callS C w fs_RX12_133 (c_X12_within_9 l D cy) (hl.1.trans hml.symm) [] [0, 1] (wr := [(a0, .inr (12, [.ref a1, .ref a2, .ref a3, .ref a4, .ref a5, .int 0, .ref a6, .int 0, .int 0, .int 0, .int 0, .int 0, .int 0, .int 0, .int 0, .int 0, .int 0, .int (-1), .ref a7, .ref a8, .int 0, .ref a9, .int 0, .ref a10, .ref a11, .ref a12, .ref a13, .ref a14, .int 0, .ref a15, .ref a16, .ref a17])), (a5, .inl (cy 3, 3, .inl (fun _ => 0)))]) ⟨rfl, rfl, rfl, rfl, by decide⟩ rfl rfl ⟨Nat.le_of_ble_eq_true rfl, Nat.le_of_ble_eq_true rfl, Nat.le_of_ble_eq_true rfl⟩ 0 0 ⟨rfl, rfl, Nat.le_of_ble_eq_true rfl, Nat.le_of_ble_eq_true rfl⟩ dX12_restore_7 (fun u H locs hp w => ?_)
  have w : Wd D A s.heap [(a0, .inr (12, [.ref a1, .ref a2, .ref a3, .ref a4, .ref a5, .int 0, .ref a6, .int 0, .int 0, .int 0, .int 0, .int 0, .int 0, .int 0, .int 0, .int 0, .int 0, .int (-1), .ref a7, .ref a8, .int 0, .ref a9, .int 0, .ref a10, .ref a11, .ref a12, .ref a13, .ref a14, .int 0, .ref a15, .ref a16, .ref a17])), (a5, .inl (cy 3, 3, .inl (fun _ => 0)))] _ _ := w
  refine r_top (g2 := F0 m 10 ls [.int 1, .ref a0]) rfl ?_
  refine b_if_ne_t C (tgt := 17) dX12_restore_10 (by decide) (by decide) ?_
  refine lv_aload_n C.1 C.2.1 dX12_restore_17 rfl (lv_at hl 0 rfl) ?_
  refine r_get C w 0 rfl rfl 4 (by decide) fl_RX12_22 (v := .ref a5) rfl dX12_restore_18 ?_
  refine lv_iload_n C.1 C.2.1 dX12_restore_21 rfl (lv_at hl 1 rfl) ?_
  refine r_zald C w 1 rfl (v := 0) (vinD (by decide)) rfl dX12_restore_22 ?_
  refine b_if_ne_f C (tgt := 30) dX12_restore_23 (by decide) (by decide) ?_
  refine lv_iconst (v := 2) C.1 C.2.1 dX12_restore_26 (by decide) ?_
  refine lv_goto (tgt := 31) C.1 C.2.1 dX12_restore_27 (by decide) ?_
  refine r_put C w 0 rfl rfl 5 (by decide) fl_RX12_71 rfl (ty := .int) (tyX12_ok 5 (by decide)) rfl rfl (Nat.le_of_ble_eq_true rfl) [(a0, .inr (12, [.ref a1, .ref a2, .ref a3, .ref a4, .ref a5, .int 2, .ref a6, .int 0, .int 0, .int 0, .int 0, .int 0, .int 0, .int 0, .int 0, .int 0, .int 0, .int (-1), .ref a7, .ref a8, .int 0, .ref a9, .int 0, .ref a10, .ref a11, .ref a12, .ref a13, .ref a14, .int 0, .ref a15, .ref a16, .ref a17])), (a5, .inl (cy 3, 3, .inl (fun _ => 0)))] rfl dX12_restore_31 (fun H locs w => ?_)
  refine lv_aload_n C.1 C.2.1 dX12_restore_34 rfl (lv_at hl 0 rfl) ?_
  refine r_get C w 0 rfl rfl 5 (by decide) fl_RX12_71 (v := .int 2) rfl dX12_restore_35 ?_
  refine b_if_le_f C (tgt := 42) dX12_restore_38 (by decide) (by decide) ?_
  exact r_vret C w hlocks () hr rfl trivial [0, 1] rfl rfl ⟨Nat.le_of_ble_eq_true rfl, Nat.le_of_ble_eq_true rfl⟩ dX12_restore_41
set_option maxRecDepth 100000 in
set_option maxHeartbeats 4000000 in
theorem c_X12_within_10 (l : Launch) (D : va_G) (cy : Nat → ClassId) : Ct l D cy yX12_within cX12_within 6 (some .boolean) 0 0 0 0 [] [.long 2, .long 0, .long 2] (fun u : Unit => some (.int 1)) (fun _ => True) (fun u : Unit => []) := by
  refine Ct.of (by decide +kernel) (Nat.le_of_ble_eq_true rfl) ?_
  intro p e s m args below meth c A ls C hr hlocks hml hnm w hl
  have hl : lv_has ls 6 [(0, .long 2), (2, .long 0), (4, .long 2)] := hl
  refine lv_lload_n C.1 C.2.1 dX12_within_0 rfl (lv_at hl 0 rfl) ?_
  refine lv_lload_n C.1 C.2.1 dX12_within_1 rfl (lv_at hl 1 rfl) ?_
  refine r_lcmp C (v := 1) dX12_within_2 (by decide) ?_
  refine b_if_lt_f C (tgt := 17) dX12_within_3 (by decide) (by decide) ?_
  refine lv_lload_n C.1 C.2.1 dX12_within_6 rfl (lv_at hl 0 rfl) ?_
  refine lv_lload C.1 C.2.1 dX12_within_7 (lv_at hl 2 rfl) ?_
  refine r_lcmp C (v := 0) dX12_within_9 (by decide) ?_
  refine b_if_gt_f C (tgt := 17) dX12_within_10 (by decide) (by decide) ?_
  refine lv_iconst (v := 1) C.1 C.2.1 dX12_within_13 (by decide) ?_
  refine lv_goto (tgt := 18) C.1 C.2.1 dX12_within_14 (by decide) ?_
  exact r_iret C w hlocks () hr rfl rfl trivial [] rfl rfl ⟨Nat.le_of_ble_eq_true rfl, Nat.le_of_ble_eq_true rfl⟩ dX12_within_18
set_option maxRecDepth 100000 in
set_option maxHeartbeats 4000000 in
theorem c_X12_restore_2 (l : Launch) (D : va_G) (cy : Nat → ClassId) (a0 a1 a2 a3 a4 a5 a6 a7 a8 a9 a10 a11 a12 a13 a14 a15 a16 a17 : Nat) : Ct l D cy yX12_restore cX12_restore 3 none 1 25 0 0 [(a0, .inr (12, [.ref a1, .ref a2, .ref a3, .ref a4, .ref a5, .int 0, .ref a6, .int 0, .int 0, .int 0, .int 0, .int 0, .int 0, .int 0, .int 0, .int 0, .int 0, .int (-1), .ref a7, .ref a8, .int 0, .ref a9, .int 0, .ref a10, .ref a11, .ref a12, .ref a13, .ref a14, .int 0, .ref a15, .ref a16, .ref a17])), (a5, .inl (cy 3, 3, .inl (fun _ => 0)))] [.ref a0, .int 2] (fun u : Unit => none) (fun _ => True) (fun u : Unit => [(a0, .inr (12, [.ref a1, .ref a2, .ref a3, .ref a4, .ref a5, .int 2, .ref a6, .int 0, .int 0, .int 0, .int 0, .int 0, .int 0, .int 0, .int 0, .int 0, .int 0, .int (-1), .ref a7, .ref a8, .int 0, .ref a9, .int 0, .ref a10, .ref a11, .ref a12, .ref a13, .ref a14, .int 0, .ref a15, .ref a16, .ref a17])), (a5, .inl (cy 3, 3, .inl (fun _ => 0)))]) := by
  refine Ct.of (by decide +kernel) (Nat.le_of_ble_eq_true rfl) ?_
  intro p e s m args below meth c A ls C hr hlocks hml hnm w hl
  have hl : lv_has ls 3 [(0, .ref a0), (1, .int 2)] := hl
  refine lv_aload_n C.1 C.2.1 dX12_restore_0 rfl (lv_at hl 0 rfl) ?_
  refine lv_iload_n C.1 C.2.1 dX12_restore_1 rfl (lv_at hl 1 rfl) ?_
  refine lv_i2l (v := 2) C.1 C.2.1 dX12_restore_2 (by decide) ?_
  refine lv_lconst (v := 0) C.1 C.2.1 dX12_restore_3 (by decide) ?_
  refine lv_ldc2 (v := 2) C.1 C.2.1 C.2.2.1 (C.2.2.2.1 _ kl_RX12_401) dX12_restore_4 ?_
  refine r_callS C w fs_RX12_133 (c_X12_within_10 l D cy) (hl.1.trans hml.symm) [] [0, 1] (wr := [(a0, .inr (12, [.ref a1, .ref a2, .ref a3, .ref a4, .ref a5, .int 0, .ref a6, .int 0, .int 0, .int 0, .int 0, .int 0, .int 0, .int 0, .int 0, .int 0, .int 0, .int (-1), .ref a7, .ref a8, .int 0, .ref a9, .int 0, .ref a10, .ref a11, .ref a12, .ref a13, .ref a14, .int 0, .ref a15, .ref a16, .ref a17])), (a5, .inl (cy 3, 3, .inl (fun _ => 0)))]) ⟨rfl, rfl, rfl, rfl, by decide⟩ rfl rfl ⟨Nat.le_of_ble_eq_true rfl, Nat.le_of_ble_eq_true rfl, Nat.le_of_ble_eq_true rfl⟩ 0 0 ⟨rfl, rfl, Nat.le_of_ble_eq_true rfl, Nat.le_of_ble_eq_true rfl⟩ dX12_restore_7 (fun u H locs hp w => ?_)
  have w : Wd D A s.heap [(a0, .inr (12, [.ref a1, .ref a2, .ref a3, .ref a4, .ref a5, .int 0, .ref a6, .int 0, .int 0, .int 0, .int 0, .int 0, .int 0, .int 0, .int 0, .int 0, .int 0, .int (-1), .ref a7, .ref a8, .int 0, .ref a9, .int 0, .ref a10, .ref a11, .ref a12, .ref a13, .ref a14, .int 0, .ref a15, .ref a16, .ref a17])), (a5, .inl (cy 3, 3, .inl (fun _ => 0)))] _ _ := w
  refine r_top (g2 := F0 m 10 ls [.int 1, .ref a0]) rfl ?_
  refine b_if_ne_t C (tgt := 17) dX12_restore_10 (by decide) (by decide) ?_
  refine lv_aload_n C.1 C.2.1 dX12_restore_17 rfl (lv_at hl 0 rfl) ?_
  refine r_get C w 0 rfl rfl 4 (by decide) fl_RX12_22 (v := .ref a5) rfl dX12_restore_18 ?_
  refine lv_iload_n C.1 C.2.1 dX12_restore_21 rfl (lv_at hl 1 rfl) ?_
  refine r_zald C w 1 rfl (v := 0) (vinD (by decide)) rfl dX12_restore_22 ?_
  refine b_if_ne_f C (tgt := 30) dX12_restore_23 (by decide) (by decide) ?_
  refine lv_iconst (v := 2) C.1 C.2.1 dX12_restore_26 (by decide) ?_
  refine lv_goto (tgt := 31) C.1 C.2.1 dX12_restore_27 (by decide) ?_
  refine r_put C w 0 rfl rfl 5 (by decide) fl_RX12_71 rfl (ty := .int) (tyX12_ok 5 (by decide)) rfl rfl (Nat.le_of_ble_eq_true rfl) [(a0, .inr (12, [.ref a1, .ref a2, .ref a3, .ref a4, .ref a5, .int 2, .ref a6, .int 0, .int 0, .int 0, .int 0, .int 0, .int 0, .int 0, .int 0, .int 0, .int 0, .int (-1), .ref a7, .ref a8, .int 0, .ref a9, .int 0, .ref a10, .ref a11, .ref a12, .ref a13, .ref a14, .int 0, .ref a15, .ref a16, .ref a17])), (a5, .inl (cy 3, 3, .inl (fun _ => 0)))] rfl dX12_restore_31 (fun H locs w => ?_)
  refine lv_aload_n C.1 C.2.1 dX12_restore_34 rfl (lv_at hl 0 rfl) ?_
  refine r_get C w 0 rfl rfl 5 (by decide) fl_RX12_71 (v := .int 2) rfl dX12_restore_35 ?_
  refine b_if_le_f C (tgt := 42) dX12_restore_38 (by decide) (by decide) ?_
  exact r_vret C w hlocks () hr rfl trivial [0, 1] rfl rfl ⟨Nat.le_of_ble_eq_true rfl, Nat.le_of_ble_eq_true rfl⟩ dX12_restore_41
set_option maxRecDepth 100000 in
set_option maxHeartbeats 4000000 in
theorem c_X12_within_11 (l : Launch) (D : va_G) (cy : Nat → ClassId) : Ct l D cy yX12_within cX12_within 6 (some .boolean) 0 0 0 0 [] [.long 1, .long 0, .long 2] (fun u : Unit => some (.int 1)) (fun _ => True) (fun u : Unit => []) := by
  refine Ct.of (by decide +kernel) (Nat.le_of_ble_eq_true rfl) ?_
  intro p e s m args below meth c A ls C hr hlocks hml hnm w hl
  have hl : lv_has ls 6 [(0, .long 1), (2, .long 0), (4, .long 2)] := hl
  refine lv_lload_n C.1 C.2.1 dX12_within_0 rfl (lv_at hl 0 rfl) ?_
  refine lv_lload_n C.1 C.2.1 dX12_within_1 rfl (lv_at hl 1 rfl) ?_
  refine r_lcmp C (v := 1) dX12_within_2 (by decide) ?_
  refine b_if_lt_f C (tgt := 17) dX12_within_3 (by decide) (by decide) ?_
  refine lv_lload_n C.1 C.2.1 dX12_within_6 rfl (lv_at hl 0 rfl) ?_
  refine lv_lload C.1 C.2.1 dX12_within_7 (lv_at hl 2 rfl) ?_
  refine r_lcmp C (v := (-1)) dX12_within_9 (by decide) ?_
  refine b_if_gt_f C (tgt := 17) dX12_within_10 (by decide) (by decide) ?_
  refine lv_iconst (v := 1) C.1 C.2.1 dX12_within_13 (by decide) ?_
  refine lv_goto (tgt := 18) C.1 C.2.1 dX12_within_14 (by decide) ?_
  exact r_iret C w hlocks () hr rfl rfl trivial [] rfl rfl ⟨Nat.le_of_ble_eq_true rfl, Nat.le_of_ble_eq_true rfl⟩ dX12_within_18
set_option maxRecDepth 100000 in
set_option maxHeartbeats 4000000 in
theorem c_X12_restore_3 (l : Launch) (D : va_G) (cy : Nat → ClassId) (a0 a1 a2 a3 a4 a5 a6 a7 a8 a9 a10 a11 a12 a13 a14 a15 a16 a17 : Nat) : Ct l D cy yX12_restore cX12_restore 3 none 1 25 0 0 [(a0, .inr (12, [.ref a1, .ref a2, .ref a3, .ref a4, .ref a5, .int 0, .ref a6, .int 0, .int 0, .int 0, .int 0, .int 0, .int 0, .int 0, .int 0, .int 0, .int 0, .int (-1), .ref a7, .ref a8, .int 0, .ref a9, .int 0, .ref a10, .ref a11, .ref a12, .ref a13, .ref a14, .int 0, .ref a15, .ref a16, .ref a17])), (a5, .inl (cy 3, 3, .inl (fun _ => 0)))] [.ref a0, .int 1] (fun u : Unit => none) (fun _ => True) (fun u : Unit => [(a0, .inr (12, [.ref a1, .ref a2, .ref a3, .ref a4, .ref a5, .int 2, .ref a6, .int 0, .int 0, .int 0, .int 0, .int 0, .int 0, .int 0, .int 0, .int 0, .int 0, .int (-1), .ref a7, .ref a8, .int 0, .ref a9, .int 0, .ref a10, .ref a11, .ref a12, .ref a13, .ref a14, .int 0, .ref a15, .ref a16, .ref a17])), (a5, .inl (cy 3, 3, .inl (fun _ => 0)))]) := by
  refine Ct.of (by decide +kernel) (Nat.le_of_ble_eq_true rfl) ?_
  intro p e s m args below meth c A ls C hr hlocks hml hnm w hl
  have hl : lv_has ls 3 [(0, .ref a0), (1, .int 1)] := hl
  refine lv_aload_n C.1 C.2.1 dX12_restore_0 rfl (lv_at hl 0 rfl) ?_
  refine lv_iload_n C.1 C.2.1 dX12_restore_1 rfl (lv_at hl 1 rfl) ?_
  refine lv_i2l (v := 1) C.1 C.2.1 dX12_restore_2 (by decide) ?_
  refine lv_lconst (v := 0) C.1 C.2.1 dX12_restore_3 (by decide) ?_
  refine lv_ldc2 (v := 2) C.1 C.2.1 C.2.2.1 (C.2.2.2.1 _ kl_RX12_401) dX12_restore_4 ?_
  refine r_callS C w fs_RX12_133 (c_X12_within_11 l D cy) (hl.1.trans hml.symm) [] [0, 1] (wr := [(a0, .inr (12, [.ref a1, .ref a2, .ref a3, .ref a4, .ref a5, .int 0, .ref a6, .int 0, .int 0, .int 0, .int 0, .int 0, .int 0, .int 0, .int 0, .int 0, .int 0, .int (-1), .ref a7, .ref a8, .int 0, .ref a9, .int 0, .ref a10, .ref a11, .ref a12, .ref a13, .ref a14, .int 0, .ref a15, .ref a16, .ref a17])), (a5, .inl (cy 3, 3, .inl (fun _ => 0)))]) ⟨rfl, rfl, rfl, rfl, by decide⟩ rfl rfl ⟨Nat.le_of_ble_eq_true rfl, Nat.le_of_ble_eq_true rfl, Nat.le_of_ble_eq_true rfl⟩ 0 0 ⟨rfl, rfl, Nat.le_of_ble_eq_true rfl, Nat.le_of_ble_eq_true rfl⟩ dX12_restore_7 (fun u H locs hp w => ?_)
  have w : Wd D A s.heap [(a0, .inr (12, [.ref a1, .ref a2, .ref a3, .ref a4, .ref a5, .int 0, .ref a6, .int 0, .int 0, .int 0, .int 0, .int 0, .int 0, .int 0, .int 0, .int 0, .int 0, .int (-1), .ref a7, .ref a8, .int 0, .ref a9, .int 0, .ref a10, .ref a11, .ref a12, .ref a13, .ref a14, .int 0, .ref a15, .ref a16, .ref a17])), (a5, .inl (cy 3, 3, .inl (fun _ => 0)))] _ _ := w
  refine r_top (g2 := F0 m 10 ls [.int 1, .ref a0]) rfl ?_
  refine b_if_ne_t C (tgt := 17) dX12_restore_10 (by decide) (by decide) ?_
  refine lv_aload_n C.1 C.2.1 dX12_restore_17 rfl (lv_at hl 0 rfl) ?_
  refine r_get C w 0 rfl rfl 4 (by decide) fl_RX12_22 (v := .ref a5) rfl dX12_restore_18 ?_
  refine lv_iload_n C.1 C.2.1 dX12_restore_21 rfl (lv_at hl 1 rfl) ?_
  refine r_zald C w 1 rfl (v := 0) (vinD (by decide)) rfl dX12_restore_22 ?_
  refine b_if_ne_f C (tgt := 30) dX12_restore_23 (by decide) (by decide) ?_
  refine lv_iconst (v := 2) C.1 C.2.1 dX12_restore_26 (by decide) ?_
  refine lv_goto (tgt := 31) C.1 C.2.1 dX12_restore_27 (by decide) ?_
  refine r_put C w 0 rfl rfl 5 (by decide) fl_RX12_71 rfl (ty := .int) (tyX12_ok 5 (by decide)) rfl rfl (Nat.le_of_ble_eq_true rfl) [(a0, .inr (12, [.ref a1, .ref a2, .ref a3, .ref a4, .ref a5, .int 2, .ref a6, .int 0, .int 0, .int 0, .int 0, .int 0, .int 0, .int 0, .int 0, .int 0, .int 0, .int (-1), .ref a7, .ref a8, .int 0, .ref a9, .int 0, .ref a10, .ref a11, .ref a12, .ref a13, .ref a14, .int 0, .ref a15, .ref a16, .ref a17])), (a5, .inl (cy 3, 3, .inl (fun _ => 0)))] rfl dX12_restore_31 (fun H locs w => ?_)
  refine lv_aload_n C.1 C.2.1 dX12_restore_34 rfl (lv_at hl 0 rfl) ?_
  refine r_get C w 0 rfl rfl 5 (by decide) fl_RX12_71 (v := .int 2) rfl dX12_restore_35 ?_
  refine b_if_le_f C (tgt := 42) dX12_restore_38 (by decide) (by decide) ?_
  exact r_vret C w hlocks () hr rfl trivial [0, 1] rfl rfl ⟨Nat.le_of_ble_eq_true rfl, Nat.le_of_ble_eq_true rfl⟩ dX12_restore_41
set_option maxRecDepth 100000 in
set_option maxHeartbeats 4000000 in
theorem c_X12_restore_4 (l : Launch) (D : va_G) (cy : Nat → ClassId) (a0 a1 a2 a3 a4 a5 a6 a7 a8 a9 a10 a11 a12 a13 a14 a15 a16 a17 : Nat) (x0 : Int32) (k0 : ¬ x0 < 0) (k1 : 2 < x0) : Ct l D cy yX12_restore cX12_restore 3 none 1 25 0 0 [(a0, .inr (12, [.ref a1, .ref a2, .ref a3, .ref a4, .ref a5, .int 0, .ref a6, .int 0, .int 0, .int 0, .int 0, .int 0, .int 0, .int 0, .int 0, .int 0, .int 0, .int (-1), .ref a7, .ref a8, .int 0, .ref a9, .int 0, .ref a10, .ref a11, .ref a12, .ref a13, .ref a14, .int 0, .ref a15, .ref a16, .ref a17]))] [.ref a0, .int x0] (fun u : Unit => none) (fun _ => True) (fun u : Unit => [(a0, .inr (12, [.ref a1, .ref a2, .ref a3, .ref a4, .ref a5, .int 1, .ref a6, .int 0, .int 0, .int 0, .int 0, .int 0, .int 0, .int 0, .int 0, .int 0, .int 0, .int (-1), .ref a7, .ref a8, .int 0, .ref a9, .int 0, .ref a10, .ref a11, .ref a12, .ref a13, .ref a14, .int 0, .ref a15, .ref a16, .ref a17]))]) := by
  refine Ct.of (by decide +kernel) (Nat.le_of_ble_eq_true rfl) ?_
  intro p e s m args below meth c A ls C hr hlocks hml hnm w hl
  have hl : lv_has ls 3 [(0, .ref a0), (1, .int x0)] := hl
  refine lv_aload_n C.1 C.2.1 dX12_restore_0 rfl (lv_at hl 0 rfl) ?_
  refine lv_iload_n C.1 C.2.1 dX12_restore_1 rfl (lv_at hl 1 rfl) ?_
  refine lv_i2l (v := (Int32.toInt64 x0)) C.1 C.2.1 dX12_restore_2 rfl ?_
  refine lv_lconst (v := 0) C.1 C.2.1 dX12_restore_3 (by decide) ?_
  refine lv_ldc2 (v := 2) C.1 C.2.1 C.2.2.1 (C.2.2.2.1 _ kl_RX12_401) dX12_restore_4 ?_
  refine r_callS C w fs_RX12_133 (c_X12_within_7 l D cy x0 k0 k1) (hl.1.trans hml.symm) [] [0] (wr := [(a0, .inr (12, [.ref a1, .ref a2, .ref a3, .ref a4, .ref a5, .int 0, .ref a6, .int 0, .int 0, .int 0, .int 0, .int 0, .int 0, .int 0, .int 0, .int 0, .int 0, .int (-1), .ref a7, .ref a8, .int 0, .ref a9, .int 0, .ref a10, .ref a11, .ref a12, .ref a13, .ref a14, .int 0, .ref a15, .ref a16, .ref a17]))]) ⟨rfl, rfl, rfl, rfl, by decide⟩ rfl rfl ⟨Nat.le_of_ble_eq_true rfl, Nat.le_of_ble_eq_true rfl, Nat.le_of_ble_eq_true rfl⟩ 0 0 ⟨rfl, rfl, Nat.le_of_ble_eq_true rfl, Nat.le_of_ble_eq_true rfl⟩ dX12_restore_7 (fun u H locs hp w => ?_)
  have w : Wd D A s.heap [(a0, .inr (12, [.ref a1, .ref a2, .ref a3, .ref a4, .ref a5, .int 0, .ref a6, .int 0, .int 0, .int 0, .int 0, .int 0, .int 0, .int 0, .int 0, .int 0, .int 0, .int (-1), .ref a7, .ref a8, .int 0, .ref a9, .int 0, .ref a10, .ref a11, .ref a12, .ref a13, .ref a14, .int 0, .ref a15, .ref a16, .ref a17]))] _ _ := w
  refine r_top (g2 := F0 m 10 ls [.int 0, .ref a0]) rfl ?_
  refine b_if_ne_f C (tgt := 17) dX12_restore_10 (by decide) (by decide) ?_
  refine lv_iconst (v := 1) C.1 C.2.1 dX12_restore_13 (by decide) ?_
  refine lv_goto (tgt := 31) C.1 C.2.1 dX12_restore_14 (by decide) ?_
  refine r_put C w 0 rfl rfl 5 (by decide) fl_RX12_71 rfl (ty := .int) (tyX12_ok 5 (by decide)) rfl rfl (Nat.le_of_ble_eq_true rfl) [(a0, .inr (12, [.ref a1, .ref a2, .ref a3, .ref a4, .ref a5, .int 1, .ref a6, .int 0, .int 0, .int 0, .int 0, .int 0, .int 0, .int 0, .int 0, .int 0, .int 0, .int (-1), .ref a7, .ref a8, .int 0, .ref a9, .int 0, .ref a10, .ref a11, .ref a12, .ref a13, .ref a14, .int 0, .ref a15, .ref a16, .ref a17]))] rfl dX12_restore_31 (fun H locs w => ?_)
  refine lv_aload_n C.1 C.2.1 dX12_restore_34 rfl (lv_at hl 0 rfl) ?_
  refine r_get C w 0 rfl rfl 5 (by decide) fl_RX12_71 (v := .int 1) rfl dX12_restore_35 ?_
  refine b_if_le_f C (tgt := 42) dX12_restore_38 (by decide) (by decide) ?_
  exact r_vret C w hlocks () hr rfl trivial [0] rfl rfl ⟨Nat.le_of_ble_eq_true rfl, Nat.le_of_ble_eq_true rfl⟩ dX12_restore_41
