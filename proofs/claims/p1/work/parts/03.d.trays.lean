theorem dX11_answers_0 : decode cX11_answers 0 = .ok (.aload_n 0, 1) := by decide +kernel
theorem dX11_answers_1 : decode cX11_answers 1 = .ok (.iload_n 1, 1) := by decide +kernel
theorem dX11_answers_2 : decode cX11_answers 2 = .ok (.invokevirtual 295, 3) := by decide +kernel
theorem dX11_checkFilled_0 : decode cX11_checkFilled 0 = .ok (.aload_n 0, 1) := by decide +kernel
theorem dX11_checkFilled_1 : decode cX11_checkFilled 1 = .ok (.iload_n 1, 1) := by decide +kernel
theorem dX11_checkFilled_2 : decode cX11_checkFilled 2 = .ok (.invokevirtual 317, 3) := by decide +kernel
theorem dX11_checkTray_0 : decode cX11_checkTray 0 = .ok (.iload_n 1, 1) := by decide +kernel
theorem dX11_checkTray_1 : decode cX11_checkTray 1 = .ok (.ifCond .lt 8, 3) := by decide +kernel
theorem ft_378_391_382 : FTn RX11 378 391 382 nNSE "no such tray" := ftn_of (by decide +kernel) (by decide +kernel) (by decide +kernel) (by decide +kernel) fa5_382 fa6_378_382
theorem dX11_checkTray_9 : decode cX11_checkTray 9 = .ok (.new 378, 3) := by decide +kernel
theorem dX11_checkTray_12 : decode cX11_checkTray 12 = .ok (.dup, 1) := by decide +kernel
theorem dX11_checkTray_13 : decode cX11_checkTray 13 = .ok (.ldc_w 391, 3) := by decide +kernel
theorem dX11_checkTray_16 : decode cX11_checkTray 16 = .ok (.invokespecial 382, 3) := by decide +kernel
theorem dX11_checkTray_19 : decode cX11_checkTray 19 = .ok (.athrow, 1) := by decide +kernel
set_option maxRecDepth 100000 in
set_option maxHeartbeats 4000000 in
theorem c_X11_checkTray_0 (l : Launch) (D : va_G) (cy : Nat → ClassId) (a0 a1 a2 a3 a4 a5 a6 : Nat) (x0 : Int32) (k0 : x0 < 0) (hst : l.stackTraces = false) : CtX l D cy yX11_checkTray cX11_checkTray 2 none 6 82 1 6 [(a0, .inr (11, [.ref a1, .int 0, .int 0, .int (-1), .ref a2, .ref a3, .ref a4, .ref a5, .ref a6, .null]))] [.ref a0, .int x0] nNSE := by
  refine CtX.of (by decide +kernel) (Nat.le_of_ble_eq_true rfl) ?_
  intro p e s m args below meth c A ls C hlocks hml htab w hl
  have hl : lv_has ls 2 [(0, .ref a0), (1, .int x0)] := hl
  refine lv_iload_n C.1 C.2.1 dX11_checkTray_0 rfl (lv_at hl 1 rfl) ?_
  refine b_if_lt_t C (tgt := 9) dX11_checkTray_1 (by decide) k0 ?_
  exact r_throwNW C hst w ft_378_391_382 (hl.1.trans hml.symm) hlocks htab dX11_checkTray_9 dX11_checkTray_12 dX11_checkTray_13 dX11_checkTray_16 dX11_checkTray_19 ⟨Nat.le_of_ble_eq_true rfl, Nat.le_of_ble_eq_true rfl, Nat.le_of_ble_eq_true rfl, Nat.le_of_ble_eq_true rfl⟩ ⟨Nat.le_of_ble_eq_true rfl, Nat.le_of_ble_eq_true rfl⟩
theorem dX11_checkTray_4 : decode cX11_checkTray 4 = .ok (.iload_n 1, 1) := by decide +kernel
theorem dX11_checkTray_5 : decode cX11_checkTray 5 = .ok (.iconst 4, 1) := by decide +kernel
theorem dX11_checkTray_6 : decode cX11_checkTray 6 = .ok (.if_icmp .lt 14, 3) := by decide +kernel
theorem dX11_checkTray_20 : decode cX11_checkTray 20 = .ok (.return_, 1) := by decide +kernel
set_option maxRecDepth 100000 in
set_option maxHeartbeats 4000000 in
theorem c_X11_checkTray_1 (l : Launch) (D : va_G) (cy : Nat → ClassId) (a0 a1 a2 a3 a4 a5 a6 : Nat) (x0 : Int32) (k0 : ¬ x0 < 0) (k1 : x0 < 4) : Ct l D cy yX11_checkTray cX11_checkTray 2 none 0 0 0 0 [(a0, .inr (11, [.ref a1, .int 0, .int 0, .int (-1), .ref a2, .ref a3, .ref a4, .ref a5, .ref a6, .null]))] [.ref a0, .int x0] (fun u : Unit => none) (fun _ => True) (fun u : Unit => [(a0, .inr (11, [.ref a1, .int 0, .int 0, .int (-1), .ref a2, .ref a3, .ref a4, .ref a5, .ref a6, .null]))]) := by
  refine Ct.of (by decide +kernel) (Nat.le_of_ble_eq_true rfl) ?_
  intro p e s m args below meth c A ls C hr hlocks hml hnm w hl
  have hl : lv_has ls 2 [(0, .ref a0), (1, .int x0)] := hl
  refine lv_iload_n C.1 C.2.1 dX11_checkTray_0 rfl (lv_at hl 1 rfl) ?_
  refine b_if_lt_f C (tgt := 9) dX11_checkTray_1 (by decide) k0 ?_
  refine lv_iload_n C.1 C.2.1 dX11_checkTray_4 rfl (lv_at hl 1 rfl) ?_
  refine lv_iconst (v := 4) C.1 C.2.1 dX11_checkTray_5 (by decide) ?_
  refine b_icmp_lt_t C (tgt := 20) dX11_checkTray_6 (by decide) k1 ?_
  exact r_vret C w hlocks () hr rfl trivial [0] rfl rfl ⟨Nat.le_of_ble_eq_true rfl, Nat.le_of_ble_eq_true rfl⟩ dX11_checkTray_20
set_option maxRecDepth 100000 in
set_option maxHeartbeats 4000000 in
theorem c_X11_checkTray_2 (l : Launch) (D : va_G) (cy : Nat → ClassId) (a0 a1 a2 a3 a4 a5 a6 : Nat) (x0 : Int32) (k0 : ¬ x0 < 0) (k1 : ¬ x0 < 4) (hst : l.stackTraces = false) : CtX l D cy yX11_checkTray cX11_checkTray 2 none 6 82 1 6 [(a0, .inr (11, [.ref a1, .int 0, .int 0, .int (-1), .ref a2, .ref a3, .ref a4, .ref a5, .ref a6, .null]))] [.ref a0, .int x0] nNSE := by
  refine CtX.of (by decide +kernel) (Nat.le_of_ble_eq_true rfl) ?_
  intro p e s m args below meth c A ls C hlocks hml htab w hl
  have hl : lv_has ls 2 [(0, .ref a0), (1, .int x0)] := hl
  refine lv_iload_n C.1 C.2.1 dX11_checkTray_0 rfl (lv_at hl 1 rfl) ?_
  refine b_if_lt_f C (tgt := 9) dX11_checkTray_1 (by decide) k0 ?_
  refine lv_iload_n C.1 C.2.1 dX11_checkTray_4 rfl (lv_at hl 1 rfl) ?_
  refine lv_iconst (v := 4) C.1 C.2.1 dX11_checkTray_5 (by decide) ?_
  refine b_icmp_lt_f C (tgt := 20) dX11_checkTray_6 (by decide) k1 ?_
  exact r_throwNW C hst w ft_378_391_382 (hl.1.trans hml.symm) hlocks htab dX11_checkTray_9 dX11_checkTray_12 dX11_checkTray_13 dX11_checkTray_16 dX11_checkTray_19 ⟨Nat.le_of_ble_eq_true rfl, Nat.le_of_ble_eq_true rfl, Nat.le_of_ble_eq_true rfl, Nat.le_of_ble_eq_true rfl⟩ ⟨Nat.le_of_ble_eq_true rfl, Nat.le_of_ble_eq_true rfl⟩
theorem fv_RX11_317 : FV RX11 317 yX11_checkTray cX11_checkTray 2 none 1 := ⟨⟨gw_mem (by decide +kernel) (by decide +kernel), gw_mem (by decide +kernel) (by decide +kernel), gw_mem (by decide +kernel) (by decide +kernel), gw_mem (by decide +kernel) (by decide +kernel), gw_mem (by decide +kernel) (by decide +kernel)⟩, ⟨by decide +kernel, by decide +kernel, by decide +kernel⟩⟩
set_option maxRecDepth 100000 in
set_option maxHeartbeats 4000000 in
theorem c_X11_checkFilled_0 (l : Launch) (D : va_G) (cy : Nat → ClassId) (a0 a1 a2 a3 a4 a5 a6 : Nat) (x0 : Int32) (k0 : x0 < 0) (hst : l.stackTraces = false) : CtX l D cy yX11_checkFilled cX11_checkFilled 2 none 7 103 1 6 [(a0, .inr (11, [.ref a1, .int 0, .int 0, .int (-1), .ref a2, .ref a3, .ref a4, .ref a5, .ref a6, .null]))] [.ref a0, .int x0] nNSE := by
  refine CtX.of (by decide +kernel) (Nat.le_of_ble_eq_true rfl) ?_
  intro p e s m args below meth c A ls C hlocks hml htab w hl
  have hl : lv_has ls 2 [(0, .ref a0), (1, .int x0)] := hl
  refine lv_aload_n C.1 C.2.1 dX11_checkFilled_0 rfl (lv_at hl 0 rfl) ?_
  refine lv_iload_n C.1 C.2.1 dX11_checkFilled_1 rfl (lv_at hl 1 rfl) ?_
  refine r_thrown C w fv_RX11_317 (c_X11_checkTray_0 l D cy a0 a1 a2 a3 a4 a5 a6 x0 k0 hst) (hl.1.trans hml.symm) [0] [] (wr := []) ⟨rfl, rfl, rfl, rfl, by decide⟩ 0 rfl rfl rfl rfl rfl ⟨Nat.le_of_ble_eq_true rfl, Nat.le_of_ble_eq_true rfl, Nat.le_of_ble_eq_true rfl⟩ 1 6 ⟨rfl, rfl, Nat.le_of_ble_eq_true rfl, Nat.le_of_ble_eq_true rfl⟩ dX11_checkFilled_2 (fun ce q9 H locs w h1 h2 h3 => ?_)
  exact r_pass hlocks htab w h1 h2 h3 ⟨Nat.le_of_ble_eq_true rfl, Nat.le_of_ble_eq_true rfl⟩
set_option maxRecDepth 100000 in
set_option maxHeartbeats 4000000 in
theorem c_X11_checkFilled_1 (l : Launch) (D : va_G) (cy : Nat → ClassId) (a0 a1 a2 a3 a4 a5 a6 : Nat) (x0 : Int32) (k0 : ¬ x0 < 0) (k1 : ¬ x0 < 4) (hst : l.stackTraces = false) : CtX l D cy yX11_checkFilled cX11_checkFilled 2 none 7 103 1 6 [(a0, .inr (11, [.ref a1, .int 0, .int 0, .int (-1), .ref a2, .ref a3, .ref a4, .ref a5, .ref a6, .null]))] [.ref a0, .int x0] nNSE := by
  refine CtX.of (by decide +kernel) (Nat.le_of_ble_eq_true rfl) ?_
  intro p e s m args below meth c A ls C hlocks hml htab w hl
  have hl : lv_has ls 2 [(0, .ref a0), (1, .int x0)] := hl
  refine lv_aload_n C.1 C.2.1 dX11_checkFilled_0 rfl (lv_at hl 0 rfl) ?_
  refine lv_iload_n C.1 C.2.1 dX11_checkFilled_1 rfl (lv_at hl 1 rfl) ?_
  refine r_thrown C w fv_RX11_317 (c_X11_checkTray_2 l D cy a0 a1 a2 a3 a4 a5 a6 x0 k0 k1 hst) (hl.1.trans hml.symm) [0] [] (wr := []) ⟨rfl, rfl, rfl, rfl, by decide⟩ 0 rfl rfl rfl rfl rfl ⟨Nat.le_of_ble_eq_true rfl, Nat.le_of_ble_eq_true rfl, Nat.le_of_ble_eq_true rfl⟩ 1 6 ⟨rfl, rfl, Nat.le_of_ble_eq_true rfl, Nat.le_of_ble_eq_true rfl⟩ dX11_checkFilled_2 (fun ce q9 H locs w h1 h2 h3 => ?_)
  exact r_pass hlocks htab w h1 h2 h3 ⟨Nat.le_of_ble_eq_true rfl, Nat.le_of_ble_eq_true rfl⟩
theorem dX11_checkFilled_5 : decode cX11_checkFilled 5 = .ok (.aload_n 0, 1) := by decide +kernel
theorem dX11_checkFilled_6 : decode cX11_checkFilled 6 = .ok (.getfield 36, 3) := by decide +kernel
theorem dX11_checkFilled_9 : decode cX11_checkFilled 9 = .ok (.iload_n 1, 1) := by decide +kernel
theorem dX11_checkFilled_10 : decode cX11_checkFilled 10 = .ok (.invokevirtual 393, 3) := by decide +kernel
theorem dX10_isMissing_0 : decode cX10_isMissing 0 = .ok (.aload_n 0, 1) := by decide +kernel
theorem dX10_isMissing_1 : decode cX10_isMissing 1 = .ok (.getfield 9, 3) := by decide +kernel
theorem dX10_isMissing_4 : decode cX10_isMissing 4 = .ok (.iload_n 1, 1) := by decide +kernel
set_option maxRecDepth 100000 in
set_option maxHeartbeats 4000000 in
theorem c_X11_checkTray_3 (l : Launch) (D : va_G) (cy : Nat → ClassId) (a0 a1 a2 a3 a4 a5 a6 : Nat) : Ct l D cy yX11_checkTray cX11_checkTray 2 none 0 0 0 0 [(a0, .inr (11, [.ref a1, .int 0, .int 0, .int (-1), .ref a2, .ref a3, .ref a4, .ref a5, .ref a6, .null]))] [.ref a0, .int 0] (fun u : Unit => none) (fun _ => True) (fun u : Unit => [(a0, .inr (11, [.ref a1, .int 0, .int 0, .int (-1), .ref a2, .ref a3, .ref a4, .ref a5, .ref a6, .null]))]) := by
  refine Ct.of (by decide +kernel) (Nat.le_of_ble_eq_true rfl) ?_
  intro p e s m args below meth c A ls C hr hlocks hml hnm w hl
  have hl : lv_has ls 2 [(0, .ref a0), (1, .int 0)] := hl
  refine lv_iload_n C.1 C.2.1 dX11_checkTray_0 rfl (lv_at hl 1 rfl) ?_
  refine b_if_lt_f C (tgt := 9) dX11_checkTray_1 (by decide) (by decide) ?_
  refine lv_iload_n C.1 C.2.1 dX11_checkTray_4 rfl (lv_at hl 1 rfl) ?_
  refine lv_iconst (v := 4) C.1 C.2.1 dX11_checkTray_5 (by decide) ?_
  refine b_icmp_lt_t C (tgt := 20) dX11_checkTray_6 (by decide) (by decide) ?_
  exact r_vret C w hlocks () hr rfl trivial [0] rfl rfl ⟨Nat.le_of_ble_eq_true rfl, Nat.le_of_ble_eq_true rfl⟩ dX11_checkTray_20
theorem dX10_isMissing_5 : decode cX10_isMissing 5 = .ok (.iaload, 1) := by decide +kernel
theorem dX10_isMissing_6 : decode cX10_isMissing 6 = .ok (.iconst (-1), 1) := by decide +kernel
theorem dX10_isMissing_7 : decode cX10_isMissing 7 = .ok (.if_icmp .ne 7, 3) := by decide +kernel
theorem dX10_isMissing_10 : decode cX10_isMissing 10 = .ok (.iconst 1, 1) := by decide +kernel
theorem dX10_isMissing_11 : decode cX10_isMissing 11 = .ok (.goto 4, 3) := by decide +kernel
theorem dX10_isMissing_15 : decode cX10_isMissing 15 = .ok (.ireturn, 1) := by decide +kernel
set_option maxRecDepth 100000 in
set_option maxHeartbeats 4000000 in
theorem c_X10_isMissing_0 (l : Launch) (D : va_G) (cy : Nat → ClassId) (a0 a1 a2 a3 : Nat) : Ct l D cy yX10_isMissing cX10_isMissing 2 (some .boolean) 0 0 0 0 [(a0, .inr (10, [.ref a1, .ref a2, .ref a3])), (a1, .inl (cy 1, 4, .inl (upd (upd (upd (upd (fun _ => 0) 0 (-1)) 1 (-1)) 2 (-1)) 3 (-1))))] [.ref a0, .int 0] (fun u : Unit => some (.int 1)) (fun _ => True) (fun u : Unit => [(a0, .inr (10, [.ref a1, .ref a2, .ref a3])), (a1, .inl (cy 1, 4, .inl (upd (upd (upd (upd (fun _ => 0) 0 (-1)) 1 (-1)) 2 (-1)) 3 (-1))))]) := by
  refine Ct.of (by decide +kernel) (Nat.le_of_ble_eq_true rfl) ?_
  intro p e s m args below meth c A ls C hr hlocks hml hnm w hl
  have hl : lv_has ls 2 [(0, .ref a0), (1, .int 0)] := hl
  refine lv_aload_n C.1 C.2.1 dX10_isMissing_0 rfl (lv_at hl 0 rfl) ?_
  refine r_get C w 0 rfl rfl 0 (by decide) fl_RX10_9 (v := .ref a1) rfl dX10_isMissing_1 ?_
  refine lv_iload_n C.1 C.2.1 dX10_isMissing_4 rfl (lv_at hl 1 rfl) ?_
  refine r_iald C w 1 rfl (v := (-1)) (vinD (by decide)) rfl dX10_isMissing_5 ?_
  refine lv_iconst (v := (-1)) C.1 C.2.1 dX10_isMissing_6 (by decide) ?_
  refine b_icmp_ne_f C (tgt := 14) dX10_isMissing_7 (by decide) (by decide) ?_
  refine lv_iconst (v := 1) C.1 C.2.1 dX10_isMissing_10 (by decide) ?_
  refine lv_goto (tgt := 15) C.1 C.2.1 dX10_isMissing_11 (by decide) ?_
  exact r_iret C w hlocks () hr rfl rfl trivial [0, 1] rfl rfl ⟨Nat.le_of_ble_eq_true rfl, Nat.le_of_ble_eq_true rfl⟩ dX10_isMissing_15
theorem fv_RX11_393 : FV RX11 393 yX10_isMissing cX10_isMissing 2 (some .boolean) 1 := ⟨⟨gw_mem (by decide +kernel) (by decide +kernel), gw_mem (by decide +kernel) (by decide +kernel), gw_mem (by decide +kernel) (by decide +kernel), gw_mem (by decide +kernel) (by decide +kernel), gw_mem (by decide +kernel) (by decide +kernel)⟩, ⟨by decide +kernel, by decide +kernel, by decide +kernel⟩⟩
theorem dX11_checkFilled_13 : decode cX11_checkFilled 13 = .ok (.ifCond .eq 14, 3) := by decide +kernel
theorem ft_350_397_354 : FT RX11 350 397 354 nISE "the tray is missing" := ft_of (by decide +kernel) (by decide +kernel) (by decide +kernel) (by decide +kernel) fa5_354 fa6_350_354
theorem dX11_checkFilled_16 : decode cX11_checkFilled 16 = .ok (.new 350, 3) := by decide +kernel
theorem dX11_checkFilled_19 : decode cX11_checkFilled 19 = .ok (.dup, 1) := by decide +kernel
theorem dX11_checkFilled_20 : decode cX11_checkFilled 20 = .ok (.ldc_w 397, 3) := by decide +kernel
theorem dX11_checkFilled_23 : decode cX11_checkFilled 23 = .ok (.invokespecial 354, 3) := by decide +kernel
theorem dX11_checkFilled_26 : decode cX11_checkFilled 26 = .ok (.athrow, 1) := by decide +kernel
set_option maxRecDepth 100000 in
set_option maxHeartbeats 4000000 in
theorem c_X11_checkFilled_2 (l : Launch) (D : va_G) (cy : Nat → ClassId) (a0 a1 a2 a3 a4 a5 a6 a8 a9 a10 : Nat) (hst : l.stackTraces = false) : CtX l D cy yX11_checkFilled cX11_checkFilled 2 none 6 82 1 6 [(a0, .inr (11, [.ref a1, .int 0, .int 0, .int (-1), .ref a2, .ref a3, .ref a4, .ref a5, .ref a6, .null])), (a5, .inr (10, [.ref a8, .ref a9, .ref a10])), (a8, .inl (cy 1, 4, .inl (upd (upd (upd (upd (fun _ => 0) 0 (-1)) 1 (-1)) 2 (-1)) 3 (-1))))] [.ref a0, .int 0] nISE := by
  refine CtX.of (by decide +kernel) (Nat.le_of_ble_eq_true rfl) ?_
  intro p e s m args below meth c A ls C hlocks hml htab w hl
  have hl : lv_has ls 2 [(0, .ref a0), (1, .int 0)] := hl
  refine lv_aload_n C.1 C.2.1 dX11_checkFilled_0 rfl (lv_at hl 0 rfl) ?_
  refine lv_iload_n C.1 C.2.1 dX11_checkFilled_1 rfl (lv_at hl 1 rfl) ?_
  refine r_callV C w fv_RX11_317 (c_X11_checkTray_3 l D cy a0 a1 a2 a3 a4 a5 a6) (hl.1.trans hml.symm) [0] [1, 2] (wr := [(a5, .inr (10, [.ref a8, .ref a9, .ref a10])), (a8, .inl (cy 1, 4, .inl (upd (upd (upd (upd (fun _ => 0) 0 (-1)) 1 (-1)) 2 (-1)) 3 (-1))))]) ⟨rfl, rfl, rfl, rfl, by decide⟩ 0 rfl rfl rfl rfl rfl ⟨Nat.le_of_ble_eq_true rfl, Nat.le_of_ble_eq_true rfl, Nat.le_of_ble_eq_true rfl⟩ 0 0 ⟨rfl, rfl, Nat.le_of_ble_eq_true rfl, Nat.le_of_ble_eq_true rfl⟩ dX11_checkFilled_2 (fun u H locs hp w => ?_)
  have w : Wd D A s.heap [(a5, .inr (10, [.ref a8, .ref a9, .ref a10])), (a8, .inl (cy 1, 4, .inl (upd (upd (upd (upd (fun _ => 0) 0 (-1)) 1 (-1)) 2 (-1)) 3 (-1)))), (a0, .inr (11, [.ref a1, .int 0, .int 0, .int (-1), .ref a2, .ref a3, .ref a4, .ref a5, .ref a6, .null]))] _ _ := w
  refine r_top (g2 := F0 m 5 ls []) rfl ?_
  refine lv_aload_n C.1 C.2.1 dX11_checkFilled_5 rfl (lv_at hl 0 rfl) ?_
  refine r_get C w 2 rfl rfl 7 (by decide) fl_RX11_36 (v := .ref a5) rfl dX11_checkFilled_6 ?_
  refine lv_iload_n C.1 C.2.1 dX11_checkFilled_9 rfl (lv_at hl 1 rfl) ?_
  refine r_callV C w fv_RX11_393 (c_X10_isMissing_0 l D cy a5 a8 a9 a10) (hl.1.trans hml.symm) [0, 1] [2] (wr := [(a0, .inr (11, [.ref a1, .int 0, .int 0, .int (-1), .ref a2, .ref a3, .ref a4, .ref a5, .ref a6, .null]))]) ⟨rfl, rfl, rfl, rfl, by decide⟩ 0 rfl rfl rfl rfl rfl ⟨Nat.le_of_ble_eq_true rfl, Nat.le_of_ble_eq_true rfl, Nat.le_of_ble_eq_true rfl⟩ 0 0 ⟨rfl, rfl, Nat.le_of_ble_eq_true rfl, Nat.le_of_ble_eq_true rfl⟩ dX11_checkFilled_10 (fun u H locs hp w => ?_)
  have w : Wd D A s.heap [(a0, .inr (11, [.ref a1, .int 0, .int 0, .int (-1), .ref a2, .ref a3, .ref a4, .ref a5, .ref a6, .null])), (a5, .inr (10, [.ref a8, .ref a9, .ref a10])), (a8, .inl (cy 1, 4, .inl (upd (upd (upd (upd (fun _ => 0) 0 (-1)) 1 (-1)) 2 (-1)) 3 (-1))))] _ _ := w
  refine r_top (g2 := F0 m 13 ls [.int 1]) rfl ?_
  refine b_if_eq_f C (tgt := 27) dX11_checkFilled_13 (by decide) (by decide) ?_
  exact r_throwSW C hst w ft_350_397_354 (hl.1.trans hml.symm) hlocks htab dX11_checkFilled_16 dX11_checkFilled_19 dX11_checkFilled_20 dX11_checkFilled_23 dX11_checkFilled_26 ⟨Nat.le_of_ble_eq_true rfl, Nat.le_of_ble_eq_true rfl, Nat.le_of_ble_eq_true rfl, Nat.le_of_ble_eq_true rfl⟩ ⟨Nat.le_of_ble_eq_true rfl, Nat.le_of_ble_eq_true rfl⟩
set_option maxRecDepth 100000 in
set_option maxHeartbeats 4000000 in
theorem c_X11_checkTray_4 (l : Launch) (D : va_G) (cy : Nat → ClassId) (a0 a1 a2 a3 a4 a5 a6 : Nat) : Ct l D cy yX11_checkTray cX11_checkTray 2 none 0 0 0 0 [(a0, .inr (11, [.ref a1, .int 0, .int 0, .int (-1), .ref a2, .ref a3, .ref a4, .ref a5, .ref a6, .null]))] [.ref a0, .int 3] (fun u : Unit => none) (fun _ => True) (fun u : Unit => [(a0, .inr (11, [.ref a1, .int 0, .int 0, .int (-1), .ref a2, .ref a3, .ref a4, .ref a5, .ref a6, .null]))]) := by
  refine Ct.of (by decide +kernel) (Nat.le_of_ble_eq_true rfl) ?_
  intro p e s m args below meth c A ls C hr hlocks hml hnm w hl
  have hl : lv_has ls 2 [(0, .ref a0), (1, .int 3)] := hl
  refine lv_iload_n C.1 C.2.1 dX11_checkTray_0 rfl (lv_at hl 1 rfl) ?_
  refine b_if_lt_f C (tgt := 9) dX11_checkTray_1 (by decide) (by decide) ?_
  refine lv_iload_n C.1 C.2.1 dX11_checkTray_4 rfl (lv_at hl 1 rfl) ?_
  refine lv_iconst (v := 4) C.1 C.2.1 dX11_checkTray_5 (by decide) ?_
  refine b_icmp_lt_t C (tgt := 20) dX11_checkTray_6 (by decide) (by decide) ?_
  exact r_vret C w hlocks () hr rfl trivial [0] rfl rfl ⟨Nat.le_of_ble_eq_true rfl, Nat.le_of_ble_eq_true rfl⟩ dX11_checkTray_20
set_option maxRecDepth 100000 in
set_option maxHeartbeats 4000000 in
theorem c_X10_isMissing_1 (l : Launch) (D : va_G) (cy : Nat → ClassId) (a0 a1 a2 a3 : Nat) : Ct l D cy yX10_isMissing cX10_isMissing 2 (some .boolean) 0 0 0 0 [(a0, .inr (10, [.ref a1, .ref a2, .ref a3])), (a1, .inl (cy 1, 4, .inl (upd (upd (upd (upd (fun _ => 0) 0 (-1)) 1 (-1)) 2 (-1)) 3 (-1))))] [.ref a0, .int 3] (fun u : Unit => some (.int 1)) (fun _ => True) (fun u : Unit => [(a0, .inr (10, [.ref a1, .ref a2, .ref a3])), (a1, .inl (cy 1, 4, .inl (upd (upd (upd (upd (fun _ => 0) 0 (-1)) 1 (-1)) 2 (-1)) 3 (-1))))]) := by
  refine Ct.of (by decide +kernel) (Nat.le_of_ble_eq_true rfl) ?_
  intro p e s m args below meth c A ls C hr hlocks hml hnm w hl
  have hl : lv_has ls 2 [(0, .ref a0), (1, .int 3)] := hl
  refine lv_aload_n C.1 C.2.1 dX10_isMissing_0 rfl (lv_at hl 0 rfl) ?_
  refine r_get C w 0 rfl rfl 0 (by decide) fl_RX10_9 (v := .ref a1) rfl dX10_isMissing_1 ?_
  refine lv_iload_n C.1 C.2.1 dX10_isMissing_4 rfl (lv_at hl 1 rfl) ?_
  refine r_iald C w 1 rfl (v := (-1)) (vinD (by decide)) rfl dX10_isMissing_5 ?_
  refine lv_iconst (v := (-1)) C.1 C.2.1 dX10_isMissing_6 (by decide) ?_
  refine b_icmp_ne_f C (tgt := 14) dX10_isMissing_7 (by decide) (by decide) ?_
  refine lv_iconst (v := 1) C.1 C.2.1 dX10_isMissing_10 (by decide) ?_
  refine lv_goto (tgt := 15) C.1 C.2.1 dX10_isMissing_11 (by decide) ?_
  exact r_iret C w hlocks () hr rfl rfl trivial [0, 1] rfl rfl ⟨Nat.le_of_ble_eq_true rfl, Nat.le_of_ble_eq_true rfl⟩ dX10_isMissing_15
set_option maxRecDepth 100000 in
set_option maxHeartbeats 4000000 in
theorem c_X11_checkFilled_3 (l : Launch) (D : va_G) (cy : Nat → ClassId) (a0 a1 a2 a3 a4 a5 a6 a8 a9 a10 : Nat) (hst : l.stackTraces = false) : CtX l D cy yX11_checkFilled cX11_checkFilled 2 none 6 82 1 6 [(a0, .inr (11, [.ref a1, .int 0, .int 0, .int (-1), .ref a2, .ref a3, .ref a4, .ref a5, .ref a6, .null])), (a5, .inr (10, [.ref a8, .ref a9, .ref a10])), (a8, .inl (cy 1, 4, .inl (upd (upd (upd (upd (fun _ => 0) 0 (-1)) 1 (-1)) 2 (-1)) 3 (-1))))] [.ref a0, .int 3] nISE := by
  refine CtX.of (by decide +kernel) (Nat.le_of_ble_eq_true rfl) ?_
  intro p e s m args below meth c A ls C hlocks hml htab w hl
  have hl : lv_has ls 2 [(0, .ref a0), (1, .int 3)] := hl
  refine lv_aload_n C.1 C.2.1 dX11_checkFilled_0 rfl (lv_at hl 0 rfl) ?_
  refine lv_iload_n C.1 C.2.1 dX11_checkFilled_1 rfl (lv_at hl 1 rfl) ?_
  refine r_callV C w fv_RX11_317 (c_X11_checkTray_4 l D cy a0 a1 a2 a3 a4 a5 a6) (hl.1.trans hml.symm) [0] [1, 2] (wr := [(a5, .inr (10, [.ref a8, .ref a9, .ref a10])), (a8, .inl (cy 1, 4, .inl (upd (upd (upd (upd (fun _ => 0) 0 (-1)) 1 (-1)) 2 (-1)) 3 (-1))))]) ⟨rfl, rfl, rfl, rfl, by decide⟩ 0 rfl rfl rfl rfl rfl ⟨Nat.le_of_ble_eq_true rfl, Nat.le_of_ble_eq_true rfl, Nat.le_of_ble_eq_true rfl⟩ 0 0 ⟨rfl, rfl, Nat.le_of_ble_eq_true rfl, Nat.le_of_ble_eq_true rfl⟩ dX11_checkFilled_2 (fun u H locs hp w => ?_)
  have w : Wd D A s.heap [(a5, .inr (10, [.ref a8, .ref a9, .ref a10])), (a8, .inl (cy 1, 4, .inl (upd (upd (upd (upd (fun _ => 0) 0 (-1)) 1 (-1)) 2 (-1)) 3 (-1)))), (a0, .inr (11, [.ref a1, .int 0, .int 0, .int (-1), .ref a2, .ref a3, .ref a4, .ref a5, .ref a6, .null]))] _ _ := w
  refine r_top (g2 := F0 m 5 ls []) rfl ?_
  refine lv_aload_n C.1 C.2.1 dX11_checkFilled_5 rfl (lv_at hl 0 rfl) ?_
  refine r_get C w 2 rfl rfl 7 (by decide) fl_RX11_36 (v := .ref a5) rfl dX11_checkFilled_6 ?_
  refine lv_iload_n C.1 C.2.1 dX11_checkFilled_9 rfl (lv_at hl 1 rfl) ?_
  refine r_callV C w fv_RX11_393 (c_X10_isMissing_1 l D cy a5 a8 a9 a10) (hl.1.trans hml.symm) [0, 1] [2] (wr := [(a0, .inr (11, [.ref a1, .int 0, .int 0, .int (-1), .ref a2, .ref a3, .ref a4, .ref a5, .ref a6, .null]))]) ⟨rfl, rfl, rfl, rfl, by decide⟩ 0 rfl rfl rfl rfl rfl ⟨Nat.le_of_ble_eq_true rfl, Nat.le_of_ble_eq_true rfl, Nat.le_of_ble_eq_true rfl⟩ 0 0 ⟨rfl, rfl, Nat.le_of_ble_eq_true rfl, Nat.le_of_ble_eq_true rfl⟩ dX11_checkFilled_10 (fun u H locs hp w => ?_)
  have w : Wd D A s.heap [(a0, .inr (11, [.ref a1, .int 0, .int 0, .int (-1), .ref a2, .ref a3, .ref a4, .ref a5, .ref a6, .null])), (a5, .inr (10, [.ref a8, .ref a9, .ref a10])), (a8, .inl (cy 1, 4, .inl (upd (upd (upd (upd (fun _ => 0) 0 (-1)) 1 (-1)) 2 (-1)) 3 (-1))))] _ _ := w
  refine r_top (g2 := F0 m 13 ls [.int 1]) rfl ?_
  refine b_if_eq_f C (tgt := 27) dX11_checkFilled_13 (by decide) (by decide) ?_
  exact r_throwSW C hst w ft_350_397_354 (hl.1.trans hml.symm) hlocks htab dX11_checkFilled_16 dX11_checkFilled_19 dX11_checkFilled_20 dX11_checkFilled_23 dX11_checkFilled_26 ⟨Nat.le_of_ble_eq_true rfl, Nat.le_of_ble_eq_true rfl, Nat.le_of_ble_eq_true rfl, Nat.le_of_ble_eq_true rfl⟩ ⟨Nat.le_of_ble_eq_true rfl, Nat.le_of_ble_eq_true rfl⟩
set_option maxRecDepth 100000 in
set_option maxHeartbeats 4000000 in
theorem c_X11_checkTray_5 (l : Launch) (D : va_G) (cy : Nat → ClassId) (a0 a1 a2 a3 a4 a5 a6 : Nat) : Ct l D cy yX11_checkTray cX11_checkTray 2 none 0 0 0 0 [(a0, .inr (11, [.ref a1, .int 0, .int 0, .int (-1), .ref a2, .ref a3, .ref a4, .ref a5, .ref a6, .null]))] [.ref a0, .int 2] (fun u : Unit => none) (fun _ => True) (fun u : Unit => [(a0, .inr (11, [.ref a1, .int 0, .int 0, .int (-1), .ref a2, .ref a3, .ref a4, .ref a5, .ref a6, .null]))]) := by
  refine Ct.of (by decide +kernel) (Nat.le_of_ble_eq_true rfl) ?_
  intro p e s m args below meth c A ls C hr hlocks hml hnm w hl
  have hl : lv_has ls 2 [(0, .ref a0), (1, .int 2)] := hl
  refine lv_iload_n C.1 C.2.1 dX11_checkTray_0 rfl (lv_at hl 1 rfl) ?_
  refine b_if_lt_f C (tgt := 9) dX11_checkTray_1 (by decide) (by decide) ?_
  refine lv_iload_n C.1 C.2.1 dX11_checkTray_4 rfl (lv_at hl 1 rfl) ?_
  refine lv_iconst (v := 4) C.1 C.2.1 dX11_checkTray_5 (by decide) ?_
  refine b_icmp_lt_t C (tgt := 20) dX11_checkTray_6 (by decide) (by decide) ?_
  exact r_vret C w hlocks () hr rfl trivial [0] rfl rfl ⟨Nat.le_of_ble_eq_true rfl, Nat.le_of_ble_eq_true rfl⟩ dX11_checkTray_20
set_option maxRecDepth 100000 in
set_option maxHeartbeats 4000000 in
theorem c_X10_isMissing_2 (l : Launch) (D : va_G) (cy : Nat → ClassId) (a0 a1 a2 a3 : Nat) : Ct l D cy yX10_isMissing cX10_isMissing 2 (some .boolean) 0 0 0 0 [(a0, .inr (10, [.ref a1, .ref a2, .ref a3])), (a1, .inl (cy 1, 4, .inl (upd (upd (upd (upd (fun _ => 0) 0 (-1)) 1 (-1)) 2 (-1)) 3 (-1))))] [.ref a0, .int 2] (fun u : Unit => some (.int 1)) (fun _ => True) (fun u : Unit => [(a0, .inr (10, [.ref a1, .ref a2, .ref a3])), (a1, .inl (cy 1, 4, .inl (upd (upd (upd (upd (fun _ => 0) 0 (-1)) 1 (-1)) 2 (-1)) 3 (-1))))]) := by
  refine Ct.of (by decide +kernel) (Nat.le_of_ble_eq_true rfl) ?_
  intro p e s m args below meth c A ls C hr hlocks hml hnm w hl
  have hl : lv_has ls 2 [(0, .ref a0), (1, .int 2)] := hl
  refine lv_aload_n C.1 C.2.1 dX10_isMissing_0 rfl (lv_at hl 0 rfl) ?_
  refine r_get C w 0 rfl rfl 0 (by decide) fl_RX10_9 (v := .ref a1) rfl dX10_isMissing_1 ?_
  refine lv_iload_n C.1 C.2.1 dX10_isMissing_4 rfl (lv_at hl 1 rfl) ?_
  refine r_iald C w 1 rfl (v := (-1)) (vinD (by decide)) rfl dX10_isMissing_5 ?_
  refine lv_iconst (v := (-1)) C.1 C.2.1 dX10_isMissing_6 (by decide) ?_
  refine b_icmp_ne_f C (tgt := 14) dX10_isMissing_7 (by decide) (by decide) ?_
  refine lv_iconst (v := 1) C.1 C.2.1 dX10_isMissing_10 (by decide) ?_
  refine lv_goto (tgt := 15) C.1 C.2.1 dX10_isMissing_11 (by decide) ?_
  exact r_iret C w hlocks () hr rfl rfl trivial [0, 1] rfl rfl ⟨Nat.le_of_ble_eq_true rfl, Nat.le_of_ble_eq_true rfl⟩ dX10_isMissing_15
set_option maxRecDepth 100000 in
set_option maxHeartbeats 4000000 in
theorem c_X11_checkFilled_4 (l : Launch) (D : va_G) (cy : Nat → ClassId) (a0 a1 a2 a3 a4 a5 a6 a8 a9 a10 : Nat) (hst : l.stackTraces = false) : CtX l D cy yX11_checkFilled cX11_checkFilled 2 none 6 82 1 6 [(a0, .inr (11, [.ref a1, .int 0, .int 0, .int (-1), .ref a2, .ref a3, .ref a4, .ref a5, .ref a6, .null])), (a5, .inr (10, [.ref a8, .ref a9, .ref a10])), (a8, .inl (cy 1, 4, .inl (upd (upd (upd (upd (fun _ => 0) 0 (-1)) 1 (-1)) 2 (-1)) 3 (-1))))] [.ref a0, .int 2] nISE := by
  refine CtX.of (by decide +kernel) (Nat.le_of_ble_eq_true rfl) ?_
  intro p e s m args below meth c A ls C hlocks hml htab w hl
  have hl : lv_has ls 2 [(0, .ref a0), (1, .int 2)] := hl
  refine lv_aload_n C.1 C.2.1 dX11_checkFilled_0 rfl (lv_at hl 0 rfl) ?_
  refine lv_iload_n C.1 C.2.1 dX11_checkFilled_1 rfl (lv_at hl 1 rfl) ?_
  refine r_callV C w fv_RX11_317 (c_X11_checkTray_5 l D cy a0 a1 a2 a3 a4 a5 a6) (hl.1.trans hml.symm) [0] [1, 2] (wr := [(a5, .inr (10, [.ref a8, .ref a9, .ref a10])), (a8, .inl (cy 1, 4, .inl (upd (upd (upd (upd (fun _ => 0) 0 (-1)) 1 (-1)) 2 (-1)) 3 (-1))))]) ⟨rfl, rfl, rfl, rfl, by decide⟩ 0 rfl rfl rfl rfl rfl ⟨Nat.le_of_ble_eq_true rfl, Nat.le_of_ble_eq_true rfl, Nat.le_of_ble_eq_true rfl⟩ 0 0 ⟨rfl, rfl, Nat.le_of_ble_eq_true rfl, Nat.le_of_ble_eq_true rfl⟩ dX11_checkFilled_2 (fun u H locs hp w => ?_)
  have w : Wd D A s.heap [(a5, .inr (10, [.ref a8, .ref a9, .ref a10])), (a8, .inl (cy 1, 4, .inl (upd (upd (upd (upd (fun _ => 0) 0 (-1)) 1 (-1)) 2 (-1)) 3 (-1)))), (a0, .inr (11, [.ref a1, .int 0, .int 0, .int (-1), .ref a2, .ref a3, .ref a4, .ref a5, .ref a6, .null]))] _ _ := w
  refine r_top (g2 := F0 m 5 ls []) rfl ?_
  refine lv_aload_n C.1 C.2.1 dX11_checkFilled_5 rfl (lv_at hl 0 rfl) ?_
  refine r_get C w 2 rfl rfl 7 (by decide) fl_RX11_36 (v := .ref a5) rfl dX11_checkFilled_6 ?_
  refine lv_iload_n C.1 C.2.1 dX11_checkFilled_9 rfl (lv_at hl 1 rfl) ?_
  refine r_callV C w fv_RX11_393 (c_X10_isMissing_2 l D cy a5 a8 a9 a10) (hl.1.trans hml.symm) [0, 1] [2] (wr := [(a0, .inr (11, [.ref a1, .int 0, .int 0, .int (-1), .ref a2, .ref a3, .ref a4, .ref a5, .ref a6, .null]))]) ⟨rfl, rfl, rfl, rfl, by decide⟩ 0 rfl rfl rfl rfl rfl ⟨Nat.le_of_ble_eq_true rfl, Nat.le_of_ble_eq_true rfl, Nat.le_of_ble_eq_true rfl⟩ 0 0 ⟨rfl, rfl, Nat.le_of_ble_eq_true rfl, Nat.le_of_ble_eq_true rfl⟩ dX11_checkFilled_10 (fun u H locs hp w => ?_)
  have w : Wd D A s.heap [(a0, .inr (11, [.ref a1, .int 0, .int 0, .int (-1), .ref a2, .ref a3, .ref a4, .ref a5, .ref a6, .null])), (a5, .inr (10, [.ref a8, .ref a9, .ref a10])), (a8, .inl (cy 1, 4, .inl (upd (upd (upd (upd (fun _ => 0) 0 (-1)) 1 (-1)) 2 (-1)) 3 (-1))))] _ _ := w
  refine r_top (g2 := F0 m 13 ls [.int 1]) rfl ?_
  refine b_if_eq_f C (tgt := 27) dX11_checkFilled_13 (by decide) (by decide) ?_
  exact r_throwSW C hst w ft_350_397_354 (hl.1.trans hml.symm) hlocks htab dX11_checkFilled_16 dX11_checkFilled_19 dX11_checkFilled_20 dX11_checkFilled_23 dX11_checkFilled_26 ⟨Nat.le_of_ble_eq_true rfl, Nat.le_of_ble_eq_true rfl, Nat.le_of_ble_eq_true rfl, Nat.le_of_ble_eq_true rfl⟩ ⟨Nat.le_of_ble_eq_true rfl, Nat.le_of_ble_eq_true rfl⟩
set_option maxRecDepth 100000 in
set_option maxHeartbeats 4000000 in
theorem c_X11_checkTray_6 (l : Launch) (D : va_G) (cy : Nat → ClassId) (a0 a1 a2 a3 a4 a5 a6 : Nat) : Ct l D cy yX11_checkTray cX11_checkTray 2 none 0 0 0 0 [(a0, .inr (11, [.ref a1, .int 0, .int 0, .int (-1), .ref a2, .ref a3, .ref a4, .ref a5, .ref a6, .null]))] [.ref a0, .int 1] (fun u : Unit => none) (fun _ => True) (fun u : Unit => [(a0, .inr (11, [.ref a1, .int 0, .int 0, .int (-1), .ref a2, .ref a3, .ref a4, .ref a5, .ref a6, .null]))]) := by
  refine Ct.of (by decide +kernel) (Nat.le_of_ble_eq_true rfl) ?_
  intro p e s m args below meth c A ls C hr hlocks hml hnm w hl
  have hl : lv_has ls 2 [(0, .ref a0), (1, .int 1)] := hl
  refine lv_iload_n C.1 C.2.1 dX11_checkTray_0 rfl (lv_at hl 1 rfl) ?_
  refine b_if_lt_f C (tgt := 9) dX11_checkTray_1 (by decide) (by decide) ?_
  refine lv_iload_n C.1 C.2.1 dX11_checkTray_4 rfl (lv_at hl 1 rfl) ?_
  refine lv_iconst (v := 4) C.1 C.2.1 dX11_checkTray_5 (by decide) ?_
  refine b_icmp_lt_t C (tgt := 20) dX11_checkTray_6 (by decide) (by decide) ?_
  exact r_vret C w hlocks () hr rfl trivial [0] rfl rfl ⟨Nat.le_of_ble_eq_true rfl, Nat.le_of_ble_eq_true rfl⟩ dX11_checkTray_20
set_option maxRecDepth 100000 in
set_option maxHeartbeats 4000000 in
theorem c_X10_isMissing_3 (l : Launch) (D : va_G) (cy : Nat → ClassId) (a0 a1 a2 a3 : Nat) : Ct l D cy yX10_isMissing cX10_isMissing 2 (some .boolean) 0 0 0 0 [(a0, .inr (10, [.ref a1, .ref a2, .ref a3])), (a1, .inl (cy 1, 4, .inl (upd (upd (upd (upd (fun _ => 0) 0 (-1)) 1 (-1)) 2 (-1)) 3 (-1))))] [.ref a0, .int 1] (fun u : Unit => some (.int 1)) (fun _ => True) (fun u : Unit => [(a0, .inr (10, [.ref a1, .ref a2, .ref a3])), (a1, .inl (cy 1, 4, .inl (upd (upd (upd (upd (fun _ => 0) 0 (-1)) 1 (-1)) 2 (-1)) 3 (-1))))]) := by
  refine Ct.of (by decide +kernel) (Nat.le_of_ble_eq_true rfl) ?_
  intro p e s m args below meth c A ls C hr hlocks hml hnm w hl
  have hl : lv_has ls 2 [(0, .ref a0), (1, .int 1)] := hl
  refine lv_aload_n C.1 C.2.1 dX10_isMissing_0 rfl (lv_at hl 0 rfl) ?_
  refine r_get C w 0 rfl rfl 0 (by decide) fl_RX10_9 (v := .ref a1) rfl dX10_isMissing_1 ?_
  refine lv_iload_n C.1 C.2.1 dX10_isMissing_4 rfl (lv_at hl 1 rfl) ?_
  refine r_iald C w 1 rfl (v := (-1)) (vinD (by decide)) rfl dX10_isMissing_5 ?_
  refine lv_iconst (v := (-1)) C.1 C.2.1 dX10_isMissing_6 (by decide) ?_
  refine b_icmp_ne_f C (tgt := 14) dX10_isMissing_7 (by decide) (by decide) ?_
  refine lv_iconst (v := 1) C.1 C.2.1 dX10_isMissing_10 (by decide) ?_
  refine lv_goto (tgt := 15) C.1 C.2.1 dX10_isMissing_11 (by decide) ?_
  exact r_iret C w hlocks () hr rfl rfl trivial [0, 1] rfl rfl ⟨Nat.le_of_ble_eq_true rfl, Nat.le_of_ble_eq_true rfl⟩ dX10_isMissing_15
set_option maxRecDepth 100000 in
set_option maxHeartbeats 4000000 in
theorem c_X11_checkFilled_5 (l : Launch) (D : va_G) (cy : Nat → ClassId) (a0 a1 a2 a3 a4 a5 a6 a8 a9 a10 : Nat) (hst : l.stackTraces = false) : CtX l D cy yX11_checkFilled cX11_checkFilled 2 none 6 82 1 6 [(a0, .inr (11, [.ref a1, .int 0, .int 0, .int (-1), .ref a2, .ref a3, .ref a4, .ref a5, .ref a6, .null])), (a5, .inr (10, [.ref a8, .ref a9, .ref a10])), (a8, .inl (cy 1, 4, .inl (upd (upd (upd (upd (fun _ => 0) 0 (-1)) 1 (-1)) 2 (-1)) 3 (-1))))] [.ref a0, .int 1] nISE := by
  refine CtX.of (by decide +kernel) (Nat.le_of_ble_eq_true rfl) ?_
  intro p e s m args below meth c A ls C hlocks hml htab w hl
  have hl : lv_has ls 2 [(0, .ref a0), (1, .int 1)] := hl
  refine lv_aload_n C.1 C.2.1 dX11_checkFilled_0 rfl (lv_at hl 0 rfl) ?_
  refine lv_iload_n C.1 C.2.1 dX11_checkFilled_1 rfl (lv_at hl 1 rfl) ?_
  refine r_callV C w fv_RX11_317 (c_X11_checkTray_6 l D cy a0 a1 a2 a3 a4 a5 a6) (hl.1.trans hml.symm) [0] [1, 2] (wr := [(a5, .inr (10, [.ref a8, .ref a9, .ref a10])), (a8, .inl (cy 1, 4, .inl (upd (upd (upd (upd (fun _ => 0) 0 (-1)) 1 (-1)) 2 (-1)) 3 (-1))))]) ⟨rfl, rfl, rfl, rfl, by decide⟩ 0 rfl rfl rfl rfl rfl ⟨Nat.le_of_ble_eq_true rfl, Nat.le_of_ble_eq_true rfl, Nat.le_of_ble_eq_true rfl⟩ 0 0 ⟨rfl, rfl, Nat.le_of_ble_eq_true rfl, Nat.le_of_ble_eq_true rfl⟩ dX11_checkFilled_2 (fun u H locs hp w => ?_)
  have w : Wd D A s.heap [(a5, .inr (10, [.ref a8, .ref a9, .ref a10])), (a8, .inl (cy 1, 4, .inl (upd (upd (upd (upd (fun _ => 0) 0 (-1)) 1 (-1)) 2 (-1)) 3 (-1)))), (a0, .inr (11, [.ref a1, .int 0, .int 0, .int (-1), .ref a2, .ref a3, .ref a4, .ref a5, .ref a6, .null]))] _ _ := w
  refine r_top (g2 := F0 m 5 ls []) rfl ?_
  refine lv_aload_n C.1 C.2.1 dX11_checkFilled_5 rfl (lv_at hl 0 rfl) ?_
  refine r_get C w 2 rfl rfl 7 (by decide) fl_RX11_36 (v := .ref a5) rfl dX11_checkFilled_6 ?_
  refine lv_iload_n C.1 C.2.1 dX11_checkFilled_9 rfl (lv_at hl 1 rfl) ?_
  refine r_callV C w fv_RX11_393 (c_X10_isMissing_3 l D cy a5 a8 a9 a10) (hl.1.trans hml.symm) [0, 1] [2] (wr := [(a0, .inr (11, [.ref a1, .int 0, .int 0, .int (-1), .ref a2, .ref a3, .ref a4, .ref a5, .ref a6, .null]))]) ⟨rfl, rfl, rfl, rfl, by decide⟩ 0 rfl rfl rfl rfl rfl ⟨Nat.le_of_ble_eq_true rfl, Nat.le_of_ble_eq_true rfl, Nat.le_of_ble_eq_true rfl⟩ 0 0 ⟨rfl, rfl, Nat.le_of_ble_eq_true rfl, Nat.le_of_ble_eq_true rfl⟩ dX11_checkFilled_10 (fun u H locs hp w => ?_)
  have w : Wd D A s.heap [(a0, .inr (11, [.ref a1, .int 0, .int 0, .int (-1), .ref a2, .ref a3, .ref a4, .ref a5, .ref a6, .null])), (a5, .inr (10, [.ref a8, .ref a9, .ref a10])), (a8, .inl (cy 1, 4, .inl (upd (upd (upd (upd (fun _ => 0) 0 (-1)) 1 (-1)) 2 (-1)) 3 (-1))))] _ _ := w
  refine r_top (g2 := F0 m 13 ls [.int 1]) rfl ?_
  refine b_if_eq_f C (tgt := 27) dX11_checkFilled_13 (by decide) (by decide) ?_
  exact r_throwSW C hst w ft_350_397_354 (hl.1.trans hml.symm) hlocks htab dX11_checkFilled_16 dX11_checkFilled_19 dX11_checkFilled_20 dX11_checkFilled_23 dX11_checkFilled_26 ⟨Nat.le_of_ble_eq_true rfl, Nat.le_of_ble_eq_true rfl, Nat.le_of_ble_eq_true rfl, Nat.le_of_ble_eq_true rfl⟩ ⟨Nat.le_of_ble_eq_true rfl, Nat.le_of_ble_eq_true rfl⟩
theorem fv_RX11_295 : FV RX11 295 yX11_checkFilled cX11_checkFilled 2 none 1 := ⟨⟨gw_mem (by decide +kernel) (by decide +kernel), gw_mem (by decide +kernel) (by decide +kernel), gw_mem (by decide +kernel) (by decide +kernel), gw_mem (by decide +kernel) (by decide +kernel), gw_mem (by decide +kernel) (by decide +kernel)⟩, ⟨by decide +kernel, by decide +kernel, by decide +kernel⟩⟩
set_option maxRecDepth 100000 in
set_option maxHeartbeats 4000000 in
theorem c_X11_answers_0 (l : Launch) (D : va_G) (cy : Nat → ClassId) (a0 a1 a2 a3 a4 a5 a6 : Nat) (x0 : Int32) (x1 : Int32) (k0 : x0 < 0) (hst : l.stackTraces = false) : CtX l D cy yX11_answers cX11_answers 5 (some .int) 8 124 1 6 [(a0, .inr (11, [.ref a1, .int 0, .int 0, .int (-1), .ref a2, .ref a3, .ref a4, .ref a5, .ref a6, .null]))] [.ref a0, .int x0, .int x1] nNSE := by
  refine CtX.of (by decide +kernel) (Nat.le_of_ble_eq_true rfl) ?_
  intro p e s m args below meth c A ls C hlocks hml htab w hl
  have hl : lv_has ls 5 [(0, .ref a0), (1, .int x0), (2, .int x1)] := hl
  refine lv_aload_n C.1 C.2.1 dX11_answers_0 rfl (lv_at hl 0 rfl) ?_
  refine lv_iload_n C.1 C.2.1 dX11_answers_1 rfl (lv_at hl 1 rfl) ?_
  refine r_thrown C w fv_RX11_295 (c_X11_checkFilled_0 l D cy a0 a1 a2 a3 a4 a5 a6 x0 k0 hst) (hl.1.trans hml.symm) [0] [] (wr := []) ⟨rfl, rfl, rfl, rfl, by decide⟩ 0 rfl rfl rfl rfl rfl ⟨Nat.le_of_ble_eq_true rfl, Nat.le_of_ble_eq_true rfl, Nat.le_of_ble_eq_true rfl⟩ 1 6 ⟨rfl, rfl, Nat.le_of_ble_eq_true rfl, Nat.le_of_ble_eq_true rfl⟩ dX11_answers_2 (fun ce q9 H locs w h1 h2 h3 => ?_)
  exact r_pass hlocks htab w h1 h2 h3 ⟨Nat.le_of_ble_eq_true rfl, Nat.le_of_ble_eq_true rfl⟩
set_option maxRecDepth 100000 in
set_option maxHeartbeats 4000000 in
theorem c_X11_checkFilled_6 (l : Launch) (D : va_G) (cy : Nat → ClassId) (a0 a1 a2 a3 a4 a5 a6 a8 a9 a10 : Nat) (hst : l.stackTraces = false) : CtX l D cy yX11_checkFilled cX11_checkFilled 2 none 6 82 1 6 [(a0, .inr (11, [.ref a1, .int 0, .int 0, .int (-1), .ref a2, .ref a3, .ref a4, .ref a5, .ref a6, .null])), (a5, .inr (10, [.ref a8, .ref a9, .ref a10])), (a8, .inl (cy 1, 4, .inl (upd (upd (upd (upd (fun _ => 0) 0 (-1)) 1 (-1)) 2 (-1)) 3 (-1))))] [.ref a0, .int 1] nISE := by
  refine CtX.of (by decide +kernel) (Nat.le_of_ble_eq_true rfl) ?_
  intro p e s m args below meth c A ls C hlocks hml htab w hl
  have hl : lv_has ls 2 [(0, .ref a0), (1, .int 1)] := hl
  refine lv_aload_n C.1 C.2.1 dX11_checkFilled_0 rfl (lv_at hl 0 rfl) ?_
  refine lv_iload_n C.1 C.2.1 dX11_checkFilled_1 rfl (lv_at hl 1 rfl) ?_
  refine r_callV C w fv_RX11_317 (c_X11_checkTray_6 l D cy a0 a1 a2 a3 a4 a5 a6) (hl.1.trans hml.symm) [0] [1, 2] (wr := [(a5, .inr (10, [.ref a8, .ref a9, .ref a10])), (a8, .inl (cy 1, 4, .inl (upd (upd (upd (upd (fun _ => 0) 0 (-1)) 1 (-1)) 2 (-1)) 3 (-1))))]) ⟨rfl, rfl, rfl, rfl, by decide⟩ 0 rfl rfl rfl rfl rfl ⟨Nat.le_of_ble_eq_true rfl, Nat.le_of_ble_eq_true rfl, Nat.le_of_ble_eq_true rfl⟩ 0 0 ⟨rfl, rfl, Nat.le_of_ble_eq_true rfl, Nat.le_of_ble_eq_true rfl⟩ dX11_checkFilled_2 (fun u H locs hp w => ?_)
  have w : Wd D A s.heap [(a5, .inr (10, [.ref a8, .ref a9, .ref a10])), (a8, .inl (cy 1, 4, .inl (upd (upd (upd (upd (fun _ => 0) 0 (-1)) 1 (-1)) 2 (-1)) 3 (-1)))), (a0, .inr (11, [.ref a1, .int 0, .int 0, .int (-1), .ref a2, .ref a3, .ref a4, .ref a5, .ref a6, .null]))] _ _ := w
  refine r_top (g2 := F0 m 5 ls []) rfl ?_
  refine lv_aload_n C.1 C.2.1 dX11_checkFilled_5 rfl (lv_at hl 0 rfl) ?_
  refine r_get C w 2 rfl rfl 7 (by decide) fl_RX11_36 (v := .ref a5) rfl dX11_checkFilled_6 ?_
  refine lv_iload_n C.1 C.2.1 dX11_checkFilled_9 rfl (lv_at hl 1 rfl) ?_
  refine r_callV C w fv_RX11_393 (c_X10_isMissing_3 l D cy a5 a8 a9 a10) (hl.1.trans hml.symm) [0, 1] [2] (wr := [(a0, .inr (11, [.ref a1, .int 0, .int 0, .int (-1), .ref a2, .ref a3, .ref a4, .ref a5, .ref a6, .null]))]) ⟨rfl, rfl, rfl, rfl, by decide⟩ 0 rfl rfl rfl rfl rfl ⟨Nat.le_of_ble_eq_true rfl, Nat.le_of_ble_eq_true rfl, Nat.le_of_ble_eq_true rfl⟩ 0 0 ⟨rfl, rfl, Nat.le_of_ble_eq_true rfl, Nat.le_of_ble_eq_true rfl⟩ dX11_checkFilled_10 (fun u H locs hp w => ?_)
  have w : Wd D A s.heap [(a0, .inr (11, [.ref a1, .int 0, .int 0, .int (-1), .ref a2, .ref a3, .ref a4, .ref a5, .ref a6, .null])), (a5, .inr (10, [.ref a8, .ref a9, .ref a10])), (a8, .inl (cy 1, 4, .inl (upd (upd (upd (upd (fun _ => 0) 0 (-1)) 1 (-1)) 2 (-1)) 3 (-1))))] _ _ := w
  refine r_top (g2 := F0 m 13 ls [.int 1]) rfl ?_
  refine b_if_eq_f C (tgt := 27) dX11_checkFilled_13 (by decide) (by decide) ?_
  exact r_throwSW C hst w ft_350_397_354 (hl.1.trans hml.symm) hlocks htab dX11_checkFilled_16 dX11_checkFilled_19 dX11_checkFilled_20 dX11_checkFilled_23 dX11_checkFilled_26 ⟨Nat.le_of_ble_eq_true rfl, Nat.le_of_ble_eq_true rfl, Nat.le_of_ble_eq_true rfl, Nat.le_of_ble_eq_true rfl⟩ ⟨Nat.le_of_ble_eq_true rfl, Nat.le_of_ble_eq_true rfl⟩
set_option maxRecDepth 100000 in
set_option maxHeartbeats 4000000 in
theorem c_X11_answers_1 (l : Launch) (D : va_G) (cy : Nat → ClassId) (a0 a1 a2 a3 a4 a5 a6 a8 a9 a10 : Nat) (x1 : Int32) (hst : l.stackTraces = false) : CtX l D cy yX11_answers cX11_answers 5 (some .int) 7 103 1 6 [(a0, .inr (11, [.ref a1, .int 0, .int 0, .int (-1), .ref a2, .ref a3, .ref a4, .ref a5, .ref a6, .null])), (a5, .inr (10, [.ref a8, .ref a9, .ref a10])), (a8, .inl (cy 1, 4, .inl (upd (upd (upd (upd (fun _ => 0) 0 (-1)) 1 (-1)) 2 (-1)) 3 (-1))))] [.ref a0, .int 1, .int x1] nISE := by
  refine CtX.of (by decide +kernel) (Nat.le_of_ble_eq_true rfl) ?_
  intro p e s m args below meth c A ls C hlocks hml htab w hl
  have hl : lv_has ls 5 [(0, .ref a0), (1, .int 1), (2, .int x1)] := hl
  refine lv_aload_n C.1 C.2.1 dX11_answers_0 rfl (lv_at hl 0 rfl) ?_
  refine lv_iload_n C.1 C.2.1 dX11_answers_1 rfl (lv_at hl 1 rfl) ?_
  refine r_thrown C w fv_RX11_295 (c_X11_checkFilled_6 l D cy a0 a1 a2 a3 a4 a5 a6 a8 a9 a10 hst) (hl.1.trans hml.symm) [0, 1, 2] [] (wr := []) ⟨rfl, rfl, rfl, rfl, by decide⟩ 0 rfl rfl rfl rfl rfl ⟨Nat.le_of_ble_eq_true rfl, Nat.le_of_ble_eq_true rfl, Nat.le_of_ble_eq_true rfl⟩ 1 6 ⟨rfl, rfl, Nat.le_of_ble_eq_true rfl, Nat.le_of_ble_eq_true rfl⟩ dX11_answers_2 (fun ce q9 H locs w h1 h2 h3 => ?_)
  exact r_pass hlocks htab w h1 h2 h3 ⟨Nat.le_of_ble_eq_true rfl, Nat.le_of_ble_eq_true rfl⟩
set_option maxRecDepth 100000 in
set_option maxHeartbeats 4000000 in
theorem c_X11_checkFilled_7 (l : Launch) (D : va_G) (cy : Nat → ClassId) (a0 a1 a2 a3 a4 a5 a6 a8 a9 a10 : Nat) (hst : l.stackTraces = false) : CtX l D cy yX11_checkFilled cX11_checkFilled 2 none 6 82 1 6 [(a0, .inr (11, [.ref a1, .int 0, .int 0, .int (-1), .ref a2, .ref a3, .ref a4, .ref a5, .ref a6, .null])), (a5, .inr (10, [.ref a8, .ref a9, .ref a10])), (a8, .inl (cy 1, 4, .inl (upd (upd (upd (upd (fun _ => 0) 0 (-1)) 1 (-1)) 2 (-1)) 3 (-1))))] [.ref a0, .int 2] nISE := by
  refine CtX.of (by decide +kernel) (Nat.le_of_ble_eq_true rfl) ?_
  intro p e s m args below meth c A ls C hlocks hml htab w hl
  have hl : lv_has ls 2 [(0, .ref a0), (1, .int 2)] := hl
  refine lv_aload_n C.1 C.2.1 dX11_checkFilled_0 rfl (lv_at hl 0 rfl) ?_
  refine lv_iload_n C.1 C.2.1 dX11_checkFilled_1 rfl (lv_at hl 1 rfl) ?_
  refine r_callV C w fv_RX11_317 (c_X11_checkTray_5 l D cy a0 a1 a2 a3 a4 a5 a6) (hl.1.trans hml.symm) [0] [1, 2] (wr := [(a5, .inr (10, [.ref a8, .ref a9, .ref a10])), (a8, .inl (cy 1, 4, .inl (upd (upd (upd (upd (fun _ => 0) 0 (-1)) 1 (-1)) 2 (-1)) 3 (-1))))]) ⟨rfl, rfl, rfl, rfl, by decide⟩ 0 rfl rfl rfl rfl rfl ⟨Nat.le_of_ble_eq_true rfl, Nat.le_of_ble_eq_true rfl, Nat.le_of_ble_eq_true rfl⟩ 0 0 ⟨rfl, rfl, Nat.le_of_ble_eq_true rfl, Nat.le_of_ble_eq_true rfl⟩ dX11_checkFilled_2 (fun u H locs hp w => ?_)
  have w : Wd D A s.heap [(a5, .inr (10, [.ref a8, .ref a9, .ref a10])), (a8, .inl (cy 1, 4, .inl (upd (upd (upd (upd (fun _ => 0) 0 (-1)) 1 (-1)) 2 (-1)) 3 (-1)))), (a0, .inr (11, [.ref a1, .int 0, .int 0, .int (-1), .ref a2, .ref a3, .ref a4, .ref a5, .ref a6, .null]))] _ _ := w
  refine r_top (g2 := F0 m 5 ls []) rfl ?_
  refine lv_aload_n C.1 C.2.1 dX11_checkFilled_5 rfl (lv_at hl 0 rfl) ?_
  refine r_get C w 2 rfl rfl 7 (by decide) fl_RX11_36 (v := .ref a5) rfl dX11_checkFilled_6 ?_
  refine lv_iload_n C.1 C.2.1 dX11_checkFilled_9 rfl (lv_at hl 1 rfl) ?_
  refine r_callV C w fv_RX11_393 (c_X10_isMissing_2 l D cy a5 a8 a9 a10) (hl.1.trans hml.symm) [0, 1] [2] (wr := [(a0, .inr (11, [.ref a1, .int 0, .int 0, .int (-1), .ref a2, .ref a3, .ref a4, .ref a5, .ref a6, .null]))]) ⟨rfl, rfl, rfl, rfl, by decide⟩ 0 rfl rfl rfl rfl rfl ⟨Nat.le_of_ble_eq_true rfl, Nat.le_of_ble_eq_true rfl, Nat.le_of_ble_eq_true rfl⟩ 0 0 ⟨rfl, rfl, Nat.le_of_ble_eq_true rfl, Nat.le_of_ble_eq_true rfl⟩ dX11_checkFilled_10 (fun u H locs hp w => ?_)
  have w : Wd D A s.heap [(a0, .inr (11, [.ref a1, .int 0, .int 0, .int (-1), .ref a2, .ref a3, .ref a4, .ref a5, .ref a6, .null])), (a5, .inr (10, [.ref a8, .ref a9, .ref a10])), (a8, .inl (cy 1, 4, .inl (upd (upd (upd (upd (fun _ => 0) 0 (-1)) 1 (-1)) 2 (-1)) 3 (-1))))] _ _ := w
  refine r_top (g2 := F0 m 13 ls [.int 1]) rfl ?_
  refine b_if_eq_f C (tgt := 27) dX11_checkFilled_13 (by decide) (by decide) ?_
  exact r_throwSW C hst w ft_350_397_354 (hl.1.trans hml.symm) hlocks htab dX11_checkFilled_16 dX11_checkFilled_19 dX11_checkFilled_20 dX11_checkFilled_23 dX11_checkFilled_26 ⟨Nat.le_of_ble_eq_true rfl, Nat.le_of_ble_eq_true rfl, Nat.le_of_ble_eq_true rfl, Nat.le_of_ble_eq_true rfl⟩ ⟨Nat.le_of_ble_eq_true rfl, Nat.le_of_ble_eq_true rfl⟩
set_option maxRecDepth 100000 in
set_option maxHeartbeats 4000000 in
theorem c_X11_answers_2 (l : Launch) (D : va_G) (cy : Nat → ClassId) (a0 a1 a2 a3 a4 a5 a6 a8 a9 a10 : Nat) (x1 : Int32) (hst : l.stackTraces = false) : CtX l D cy yX11_answers cX11_answers 5 (some .int) 7 103 1 6 [(a0, .inr (11, [.ref a1, .int 0, .int 0, .int (-1), .ref a2, .ref a3, .ref a4, .ref a5, .ref a6, .null])), (a5, .inr (10, [.ref a8, .ref a9, .ref a10])), (a8, .inl (cy 1, 4, .inl (upd (upd (upd (upd (fun _ => 0) 0 (-1)) 1 (-1)) 2 (-1)) 3 (-1))))] [.ref a0, .int 2, .int x1] nISE := by
  refine CtX.of (by decide +kernel) (Nat.le_of_ble_eq_true rfl) ?_
  intro p e s m args below meth c A ls C hlocks hml htab w hl
  have hl : lv_has ls 5 [(0, .ref a0), (1, .int 2), (2, .int x1)] := hl
  refine lv_aload_n C.1 C.2.1 dX11_answers_0 rfl (lv_at hl 0 rfl) ?_
  refine lv_iload_n C.1 C.2.1 dX11_answers_1 rfl (lv_at hl 1 rfl) ?_
  refine r_thrown C w fv_RX11_295 (c_X11_checkFilled_7 l D cy a0 a1 a2 a3 a4 a5 a6 a8 a9 a10 hst) (hl.1.trans hml.symm) [0, 1, 2] [] (wr := []) ⟨rfl, rfl, rfl, rfl, by decide⟩ 0 rfl rfl rfl rfl rfl ⟨Nat.le_of_ble_eq_true rfl, Nat.le_of_ble_eq_true rfl, Nat.le_of_ble_eq_true rfl⟩ 1 6 ⟨rfl, rfl, Nat.le_of_ble_eq_true rfl, Nat.le_of_ble_eq_true rfl⟩ dX11_answers_2 (fun ce q9 H locs w h1 h2 h3 => ?_)
  exact r_pass hlocks htab w h1 h2 h3 ⟨Nat.le_of_ble_eq_true rfl, Nat.le_of_ble_eq_true rfl⟩
set_option maxRecDepth 100000 in
set_option maxHeartbeats 4000000 in
theorem c_X11_checkFilled_8 (l : Launch) (D : va_G) (cy : Nat → ClassId) (a0 a1 a2 a3 a4 a5 a6 a8 a9 a10 : Nat) (hst : l.stackTraces = false) : CtX l D cy yX11_checkFilled cX11_checkFilled 2 none 6 82 1 6 [(a0, .inr (11, [.ref a1, .int 0, .int 0, .int (-1), .ref a2, .ref a3, .ref a4, .ref a5, .ref a6, .null])), (a5, .inr (10, [.ref a8, .ref a9, .ref a10])), (a8, .inl (cy 1, 4, .inl (upd (upd (upd (upd (fun _ => 0) 0 (-1)) 1 (-1)) 2 (-1)) 3 (-1))))] [.ref a0, .int 3] nISE := by
  refine CtX.of (by decide +kernel) (Nat.le_of_ble_eq_true rfl) ?_
  intro p e s m args below meth c A ls C hlocks hml htab w hl
  have hl : lv_has ls 2 [(0, .ref a0), (1, .int 3)] := hl
  refine lv_aload_n C.1 C.2.1 dX11_checkFilled_0 rfl (lv_at hl 0 rfl) ?_
  refine lv_iload_n C.1 C.2.1 dX11_checkFilled_1 rfl (lv_at hl 1 rfl) ?_
  refine r_callV C w fv_RX11_317 (c_X11_checkTray_4 l D cy a0 a1 a2 a3 a4 a5 a6) (hl.1.trans hml.symm) [0] [1, 2] (wr := [(a5, .inr (10, [.ref a8, .ref a9, .ref a10])), (a8, .inl (cy 1, 4, .inl (upd (upd (upd (upd (fun _ => 0) 0 (-1)) 1 (-1)) 2 (-1)) 3 (-1))))]) ⟨rfl, rfl, rfl, rfl, by decide⟩ 0 rfl rfl rfl rfl rfl ⟨Nat.le_of_ble_eq_true rfl, Nat.le_of_ble_eq_true rfl, Nat.le_of_ble_eq_true rfl⟩ 0 0 ⟨rfl, rfl, Nat.le_of_ble_eq_true rfl, Nat.le_of_ble_eq_true rfl⟩ dX11_checkFilled_2 (fun u H locs hp w => ?_)
  have w : Wd D A s.heap [(a5, .inr (10, [.ref a8, .ref a9, .ref a10])), (a8, .inl (cy 1, 4, .inl (upd (upd (upd (upd (fun _ => 0) 0 (-1)) 1 (-1)) 2 (-1)) 3 (-1)))), (a0, .inr (11, [.ref a1, .int 0, .int 0, .int (-1), .ref a2, .ref a3, .ref a4, .ref a5, .ref a6, .null]))] _ _ := w
  refine r_top (g2 := F0 m 5 ls []) rfl ?_
  refine lv_aload_n C.1 C.2.1 dX11_checkFilled_5 rfl (lv_at hl 0 rfl) ?_
  refine r_get C w 2 rfl rfl 7 (by decide) fl_RX11_36 (v := .ref a5) rfl dX11_checkFilled_6 ?_
  refine lv_iload_n C.1 C.2.1 dX11_checkFilled_9 rfl (lv_at hl 1 rfl) ?_
  refine r_callV C w fv_RX11_393 (c_X10_isMissing_1 l D cy a5 a8 a9 a10) (hl.1.trans hml.symm) [0, 1] [2] (wr := [(a0, .inr (11, [.ref a1, .int 0, .int 0, .int (-1), .ref a2, .ref a3, .ref a4, .ref a5, .ref a6, .null]))]) ⟨rfl, rfl, rfl, rfl, by decide⟩ 0 rfl rfl rfl rfl rfl ⟨Nat.le_of_ble_eq_true rfl, Nat.le_of_ble_eq_true rfl, Nat.le_of_ble_eq_true rfl⟩ 0 0 ⟨rfl, rfl, Nat.le_of_ble_eq_true rfl, Nat.le_of_ble_eq_true rfl⟩ dX11_checkFilled_10 (fun u H locs hp w => ?_)
  have w : Wd D A s.heap [(a0, .inr (11, [.ref a1, .int 0, .int 0, .int (-1), .ref a2, .ref a3, .ref a4, .ref a5, .ref a6, .null])), (a5, .inr (10, [.ref a8, .ref a9, .ref a10])), (a8, .inl (cy 1, 4, .inl (upd (upd (upd (upd (fun _ => 0) 0 (-1)) 1 (-1)) 2 (-1)) 3 (-1))))] _ _ := w
  refine r_top (g2 := F0 m 13 ls [.int 1]) rfl ?_
  refine b_if_eq_f C (tgt := 27) dX11_checkFilled_13 (by decide) (by decide) ?_
  exact r_throwSW C hst w ft_350_397_354 (hl.1.trans hml.symm) hlocks htab dX11_checkFilled_16 dX11_checkFilled_19 dX11_checkFilled_20 dX11_checkFilled_23 dX11_checkFilled_26 ⟨Nat.le_of_ble_eq_true rfl, Nat.le_of_ble_eq_true rfl, Nat.le_of_ble_eq_true rfl, Nat.le_of_ble_eq_true rfl⟩ ⟨Nat.le_of_ble_eq_true rfl, Nat.le_of_ble_eq_true rfl⟩
set_option maxRecDepth 100000 in
set_option maxHeartbeats 4000000 in
theorem c_X11_answers_3 (l : Launch) (D : va_G) (cy : Nat → ClassId) (a0 a1 a2 a3 a4 a5 a6 a8 a9 a10 : Nat) (x1 : Int32) (hst : l.stackTraces = false) : CtX l D cy yX11_answers cX11_answers 5 (some .int) 7 103 1 6 [(a0, .inr (11, [.ref a1, .int 0, .int 0, .int (-1), .ref a2, .ref a3, .ref a4, .ref a5, .ref a6, .null])), (a5, .inr (10, [.ref a8, .ref a9, .ref a10])), (a8, .inl (cy 1, 4, .inl (upd (upd (upd (upd (fun _ => 0) 0 (-1)) 1 (-1)) 2 (-1)) 3 (-1))))] [.ref a0, .int 3, .int x1] nISE := by
  refine CtX.of (by decide +kernel) (Nat.le_of_ble_eq_true rfl) ?_
  intro p e s m args below meth c A ls C hlocks hml htab w hl
  have hl : lv_has ls 5 [(0, .ref a0), (1, .int 3), (2, .int x1)] := hl
  refine lv_aload_n C.1 C.2.1 dX11_answers_0 rfl (lv_at hl 0 rfl) ?_
  refine lv_iload_n C.1 C.2.1 dX11_answers_1 rfl (lv_at hl 1 rfl) ?_
  refine r_thrown C w fv_RX11_295 (c_X11_checkFilled_8 l D cy a0 a1 a2 a3 a4 a5 a6 a8 a9 a10 hst) (hl.1.trans hml.symm) [0, 1, 2] [] (wr := []) ⟨rfl, rfl, rfl, rfl, by decide⟩ 0 rfl rfl rfl rfl rfl ⟨Nat.le_of_ble_eq_true rfl, Nat.le_of_ble_eq_true rfl, Nat.le_of_ble_eq_true rfl⟩ 1 6 ⟨rfl, rfl, Nat.le_of_ble_eq_true rfl, Nat.le_of_ble_eq_true rfl⟩ dX11_answers_2 (fun ce q9 H locs w h1 h2 h3 => ?_)
  exact r_pass hlocks htab w h1 h2 h3 ⟨Nat.le_of_ble_eq_true rfl, Nat.le_of_ble_eq_true rfl⟩
set_option maxRecDepth 100000 in
set_option maxHeartbeats 4000000 in
theorem c_X11_checkFilled_9 (l : Launch) (D : va_G) (cy : Nat → ClassId) (a0 a1 a2 a3 a4 a5 a6 a8 a9 a10 : Nat) (hst : l.stackTraces = false) : CtX l D cy yX11_checkFilled cX11_checkFilled 2 none 6 82 1 6 [(a0, .inr (11, [.ref a1, .int 0, .int 0, .int (-1), .ref a2, .ref a3, .ref a4, .ref a5, .ref a6, .null])), (a5, .inr (10, [.ref a8, .ref a9, .ref a10])), (a8, .inl (cy 1, 4, .inl (upd (upd (upd (upd (fun _ => 0) 0 (-1)) 1 (-1)) 2 (-1)) 3 (-1))))] [.ref a0, .int 0] nISE := by
  refine CtX.of (by decide +kernel) (Nat.le_of_ble_eq_true rfl) ?_
  intro p e s m args below meth c A ls C hlocks hml htab w hl
  have hl : lv_has ls 2 [(0, .ref a0), (1, .int 0)] := hl
  refine lv_aload_n C.1 C.2.1 dX11_checkFilled_0 rfl (lv_at hl 0 rfl) ?_
  refine lv_iload_n C.1 C.2.1 dX11_checkFilled_1 rfl (lv_at hl 1 rfl) ?_
  refine r_callV C w fv_RX11_317 (c_X11_checkTray_3 l D cy a0 a1 a2 a3 a4 a5 a6) (hl.1.trans hml.symm) [0] [1, 2] (wr := [(a5, .inr (10, [.ref a8, .ref a9, .ref a10])), (a8, .inl (cy 1, 4, .inl (upd (upd (upd (upd (fun _ => 0) 0 (-1)) 1 (-1)) 2 (-1)) 3 (-1))))]) ⟨rfl, rfl, rfl, rfl, by decide⟩ 0 rfl rfl rfl rfl rfl ⟨Nat.le_of_ble_eq_true rfl, Nat.le_of_ble_eq_true rfl, Nat.le_of_ble_eq_true rfl⟩ 0 0 ⟨rfl, rfl, Nat.le_of_ble_eq_true rfl, Nat.le_of_ble_eq_true rfl⟩ dX11_checkFilled_2 (fun u H locs hp w => ?_)
  have w : Wd D A s.heap [(a5, .inr (10, [.ref a8, .ref a9, .ref a10])), (a8, .inl (cy 1, 4, .inl (upd (upd (upd (upd (fun _ => 0) 0 (-1)) 1 (-1)) 2 (-1)) 3 (-1)))), (a0, .inr (11, [.ref a1, .int 0, .int 0, .int (-1), .ref a2, .ref a3, .ref a4, .ref a5, .ref a6, .null]))] _ _ := w
  refine r_top (g2 := F0 m 5 ls []) rfl ?_
  refine lv_aload_n C.1 C.2.1 dX11_checkFilled_5 rfl (lv_at hl 0 rfl) ?_
  refine r_get C w 2 rfl rfl 7 (by decide) fl_RX11_36 (v := .ref a5) rfl dX11_checkFilled_6 ?_
  refine lv_iload_n C.1 C.2.1 dX11_checkFilled_9 rfl (lv_at hl 1 rfl) ?_
  refine r_callV C w fv_RX11_393 (c_X10_isMissing_0 l D cy a5 a8 a9 a10) (hl.1.trans hml.symm) [0, 1] [2] (wr := [(a0, .inr (11, [.ref a1, .int 0, .int 0, .int (-1), .ref a2, .ref a3, .ref a4, .ref a5, .ref a6, .null]))]) ⟨rfl, rfl, rfl, rfl, by decide⟩ 0 rfl rfl rfl rfl rfl ⟨Nat.le_of_ble_eq_true rfl, Nat.le_of_ble_eq_true rfl, Nat.le_of_ble_eq_true rfl⟩ 0 0 ⟨rfl, rfl, Nat.le_of_ble_eq_true rfl, Nat.le_of_ble_eq_true rfl⟩ dX11_checkFilled_10 (fun u H locs hp w => ?_)
  have w : Wd D A s.heap [(a0, .inr (11, [.ref a1, .int 0, .int 0, .int (-1), .ref a2, .ref a3, .ref a4, .ref a5, .ref a6, .null])), (a5, .inr (10, [.ref a8, .ref a9, .ref a10])), (a8, .inl (cy 1, 4, .inl (upd (upd (upd (upd (fun _ => 0) 0 (-1)) 1 (-1)) 2 (-1)) 3 (-1))))] _ _ := w
  refine r_top (g2 := F0 m 13 ls [.int 1]) rfl ?_
  refine b_if_eq_f C (tgt := 27) dX11_checkFilled_13 (by decide) (by decide) ?_
  exact r_throwSW C hst w ft_350_397_354 (hl.1.trans hml.symm) hlocks htab dX11_checkFilled_16 dX11_checkFilled_19 dX11_checkFilled_20 dX11_checkFilled_23 dX11_checkFilled_26 ⟨Nat.le_of_ble_eq_true rfl, Nat.le_of_ble_eq_true rfl, Nat.le_of_ble_eq_true rfl, Nat.le_of_ble_eq_true rfl⟩ ⟨Nat.le_of_ble_eq_true rfl, Nat.le_of_ble_eq_true rfl⟩
set_option maxRecDepth 100000 in
set_option maxHeartbeats 4000000 in
theorem c_X11_answers_4 (l : Launch) (D : va_G) (cy : Nat → ClassId) (a0 a1 a2 a3 a4 a5 a6 a8 a9 a10 : Nat) (x1 : Int32) (hst : l.stackTraces = false) : CtX l D cy yX11_answers cX11_answers 5 (some .int) 7 103 1 6 [(a0, .inr (11, [.ref a1, .int 0, .int 0, .int (-1), .ref a2, .ref a3, .ref a4, .ref a5, .ref a6, .null])), (a5, .inr (10, [.ref a8, .ref a9, .ref a10])), (a8, .inl (cy 1, 4, .inl (upd (upd (upd (upd (fun _ => 0) 0 (-1)) 1 (-1)) 2 (-1)) 3 (-1))))] [.ref a0, .int 0, .int x1] nISE := by
  refine CtX.of (by decide +kernel) (Nat.le_of_ble_eq_true rfl) ?_
  intro p e s m args below meth c A ls C hlocks hml htab w hl
  have hl : lv_has ls 5 [(0, .ref a0), (1, .int 0), (2, .int x1)] := hl
  refine lv_aload_n C.1 C.2.1 dX11_answers_0 rfl (lv_at hl 0 rfl) ?_
  refine lv_iload_n C.1 C.2.1 dX11_answers_1 rfl (lv_at hl 1 rfl) ?_
  refine r_thrown C w fv_RX11_295 (c_X11_checkFilled_9 l D cy a0 a1 a2 a3 a4 a5 a6 a8 a9 a10 hst) (hl.1.trans hml.symm) [0, 1, 2] [] (wr := []) ⟨rfl, rfl, rfl, rfl, by decide⟩ 0 rfl rfl rfl rfl rfl ⟨Nat.le_of_ble_eq_true rfl, Nat.le_of_ble_eq_true rfl, Nat.le_of_ble_eq_true rfl⟩ 1 6 ⟨rfl, rfl, Nat.le_of_ble_eq_true rfl, Nat.le_of_ble_eq_true rfl⟩ dX11_answers_2 (fun ce q9 H locs w h1 h2 h3 => ?_)
  exact r_pass hlocks htab w h1 h2 h3 ⟨Nat.le_of_ble_eq_true rfl, Nat.le_of_ble_eq_true rfl⟩
set_option maxRecDepth 100000 in
set_option maxHeartbeats 4000000 in
theorem c_X11_answers_5 (l : Launch) (D : va_G) (cy : Nat → ClassId) (a0 a1 a2 a3 a4 a5 a6 : Nat) (x0 : Int32) (x1 : Int32) (k0 : ¬ x0 < 0) (k1 : ¬ x0 < 4) (hst : l.stackTraces = false) : CtX l D cy yX11_answers cX11_answers 5 (some .int) 8 124 1 6 [(a0, .inr (11, [.ref a1, .int 0, .int 0, .int (-1), .ref a2, .ref a3, .ref a4, .ref a5, .ref a6, .null]))] [.ref a0, .int x0, .int x1] nNSE := by
  refine CtX.of (by decide +kernel) (Nat.le_of_ble_eq_true rfl) ?_
  intro p e s m args below meth c A ls C hlocks hml htab w hl
  have hl : lv_has ls 5 [(0, .ref a0), (1, .int x0), (2, .int x1)] := hl
  refine lv_aload_n C.1 C.2.1 dX11_answers_0 rfl (lv_at hl 0 rfl) ?_
  refine lv_iload_n C.1 C.2.1 dX11_answers_1 rfl (lv_at hl 1 rfl) ?_
  refine r_thrown C w fv_RX11_295 (c_X11_checkFilled_1 l D cy a0 a1 a2 a3 a4 a5 a6 x0 k0 k1 hst) (hl.1.trans hml.symm) [0] [] (wr := []) ⟨rfl, rfl, rfl, rfl, by decide⟩ 0 rfl rfl rfl rfl rfl ⟨Nat.le_of_ble_eq_true rfl, Nat.le_of_ble_eq_true rfl, Nat.le_of_ble_eq_true rfl⟩ 1 6 ⟨rfl, rfl, Nat.le_of_ble_eq_true rfl, Nat.le_of_ble_eq_true rfl⟩ dX11_answers_2 (fun ce q9 H locs w h1 h2 h3 => ?_)
  exact r_pass hlocks htab w h1 h2 h3 ⟨Nat.le_of_ble_eq_true rfl, Nat.le_of_ble_eq_true rfl⟩
theorem dX11_tray_0 : decode cX11_tray 0 = .ok (.aload_n 0, 1) := by decide +kernel
theorem dX11_tray_1 : decode cX11_tray 1 = .ok (.iload_n 1, 1) := by decide +kernel
theorem dX11_tray_2 : decode cX11_tray 2 = .ok (.invokevirtual 317, 3) := by decide +kernel
set_option maxRecDepth 100000 in
set_option maxHeartbeats 4000000 in
theorem c_X11_tray_0 (l : Launch) (D : va_G) (cy : Nat → ClassId) (a0 a1 a2 a3 a4 a5 a6 : Nat) (x0 : Int32) (x1 : Int32) (x2 : Int32) (k0 : x0 < 0) (hst : l.stackTraces = false) : CtX l D cy yX11_tray cX11_tray 4 none 7 103 1 6 [(a0, .inr (11, [.ref a1, .int 0, .int 0, .int (-1), .ref a2, .ref a3, .ref a4, .ref a5, .ref a6, .null]))] [.ref a0, .int x0, .int x1, .int x2] nNSE := by
  refine CtX.of (by decide +kernel) (Nat.le_of_ble_eq_true rfl) ?_
  intro p e s m args below meth c A ls C hlocks hml htab w hl
  have hl : lv_has ls 4 [(0, .ref a0), (1, .int x0), (2, .int x1), (3, .int x2)] := hl
  refine lv_aload_n C.1 C.2.1 dX11_tray_0 rfl (lv_at hl 0 rfl) ?_
  refine lv_iload_n C.1 C.2.1 dX11_tray_1 rfl (lv_at hl 1 rfl) ?_
  refine r_thrown C w fv_RX11_317 (c_X11_checkTray_0 l D cy a0 a1 a2 a3 a4 a5 a6 x0 k0 hst) (hl.1.trans hml.symm) [0] [] (wr := []) ⟨rfl, rfl, rfl, rfl, by decide⟩ 0 rfl rfl rfl rfl rfl ⟨Nat.le_of_ble_eq_true rfl, Nat.le_of_ble_eq_true rfl, Nat.le_of_ble_eq_true rfl⟩ 1 6 ⟨rfl, rfl, Nat.le_of_ble_eq_true rfl, Nat.le_of_ble_eq_true rfl⟩ dX11_tray_2 (fun ce q9 H locs w h1 h2 h3 => ?_)
  exact r_pass hlocks htab w h1 h2 h3 ⟨Nat.le_of_ble_eq_true rfl, Nat.le_of_ble_eq_true rfl⟩
set_option maxRecDepth 100000 in
set_option maxHeartbeats 4000000 in
theorem c_X11_tray_1 (l : Launch) (D : va_G) (cy : Nat → ClassId) (a0 a1 a2 a3 a4 a5 a6 : Nat) (x0 : Int32) (x1 : Int32) (x2 : Int32) (k0 : ¬ x0 < 0) (k1 : ¬ x0 < 4) (hst : l.stackTraces = false) : CtX l D cy yX11_tray cX11_tray 4 none 7 103 1 6 [(a0, .inr (11, [.ref a1, .int 0, .int 0, .int (-1), .ref a2, .ref a3, .ref a4, .ref a5, .ref a6, .null]))] [.ref a0, .int x0, .int x1, .int x2] nNSE := by
  refine CtX.of (by decide +kernel) (Nat.le_of_ble_eq_true rfl) ?_
  intro p e s m args below meth c A ls C hlocks hml htab w hl
  have hl : lv_has ls 4 [(0, .ref a0), (1, .int x0), (2, .int x1), (3, .int x2)] := hl
  refine lv_aload_n C.1 C.2.1 dX11_tray_0 rfl (lv_at hl 0 rfl) ?_
  refine lv_iload_n C.1 C.2.1 dX11_tray_1 rfl (lv_at hl 1 rfl) ?_
  refine r_thrown C w fv_RX11_317 (c_X11_checkTray_2 l D cy a0 a1 a2 a3 a4 a5 a6 x0 k0 k1 hst) (hl.1.trans hml.symm) [0] [] (wr := []) ⟨rfl, rfl, rfl, rfl, by decide⟩ 0 rfl rfl rfl rfl rfl ⟨Nat.le_of_ble_eq_true rfl, Nat.le_of_ble_eq_true rfl, Nat.le_of_ble_eq_true rfl⟩ 1 6 ⟨rfl, rfl, Nat.le_of_ble_eq_true rfl, Nat.le_of_ble_eq_true rfl⟩ dX11_tray_2 (fun ce q9 H locs w h1 h2 h3 => ?_)
  exact r_pass hlocks htab w h1 h2 h3 ⟨Nat.le_of_ble_eq_true rfl, Nat.le_of_ble_eq_true rfl⟩
theorem dX11_tray_5 : decode cX11_tray 5 = .ok (.iload_n 2, 1) := by decide +kernel
theorem dX11_tray_6 : decode cX11_tray 6 = .ok (.ifCond .lt 18, 3) := by decide +kernel
theorem ft_52_320_56 : FT RX11 52 320 56 nIAE "no such sort, or not so many" := ft_of (by decide +kernel) (by decide +kernel) (by decide +kernel) (by decide +kernel) fa5_56 fa6_52_56
theorem dX11_tray_24 : decode cX11_tray 24 = .ok (.new 52, 3) := by decide +kernel
theorem dX11_tray_27 : decode cX11_tray 27 = .ok (.dup, 1) := by decide +kernel
theorem dX11_tray_28 : decode cX11_tray 28 = .ok (.ldc_w 320, 3) := by decide +kernel
theorem dX11_tray_31 : decode cX11_tray 31 = .ok (.invokespecial 56, 3) := by decide +kernel
theorem dX11_tray_34 : decode cX11_tray 34 = .ok (.athrow, 1) := by decide +kernel
set_option maxRecDepth 100000 in
set_option maxHeartbeats 4000000 in
theorem c_X11_tray_2 (l : Launch) (D : va_G) (cy : Nat → ClassId) (a0 a1 a2 a3 a4 a5 a6 : Nat) (x0 : Int32) (x1 : Int32) (x2 : Int32) (k0 : ¬ x0 < 0) (k1 : x0 < 4) (k2 : x1 < 0) (hst : l.stackTraces = false) : CtX l D cy yX11_tray cX11_tray 4 none 6 82 1 6 [(a0, .inr (11, [.ref a1, .int 0, .int 0, .int (-1), .ref a2, .ref a3, .ref a4, .ref a5, .ref a6, .null]))] [.ref a0, .int x0, .int x1, .int x2] nIAE := by
  refine CtX.of (by decide +kernel) (Nat.le_of_ble_eq_true rfl) ?_
  intro p e s m args below meth c A ls C hlocks hml htab w hl
  have hl : lv_has ls 4 [(0, .ref a0), (1, .int x0), (2, .int x1), (3, .int x2)] := hl
  refine lv_aload_n C.1 C.2.1 dX11_tray_0 rfl (lv_at hl 0 rfl) ?_
  refine lv_iload_n C.1 C.2.1 dX11_tray_1 rfl (lv_at hl 1 rfl) ?_
  refine r_callV C w fv_RX11_317 (c_X11_checkTray_1 l D cy a0 a1 a2 a3 a4 a5 a6 x0 k0 k1) (hl.1.trans hml.symm) [0] [] (wr := []) ⟨rfl, rfl, rfl, rfl, by decide⟩ 0 rfl rfl rfl rfl rfl ⟨Nat.le_of_ble_eq_true rfl, Nat.le_of_ble_eq_true rfl, Nat.le_of_ble_eq_true rfl⟩ 0 0 ⟨rfl, rfl, Nat.le_of_ble_eq_true rfl, Nat.le_of_ble_eq_true rfl⟩ dX11_tray_2 (fun u H locs hp w => ?_)
  have w : Wd D A s.heap [(a0, .inr (11, [.ref a1, .int 0, .int 0, .int (-1), .ref a2, .ref a3, .ref a4, .ref a5, .ref a6, .null]))] _ _ := w
  refine r_top (g2 := F0 m 5 ls []) rfl ?_
  refine lv_iload_n C.1 C.2.1 dX11_tray_5 rfl (lv_at hl 2 rfl) ?_
  refine b_if_lt_t C (tgt := 24) dX11_tray_6 (by decide) k2 ?_
  exact r_throwSW C hst w ft_52_320_56 (hl.1.trans hml.symm) hlocks htab dX11_tray_24 dX11_tray_27 dX11_tray_28 dX11_tray_31 dX11_tray_34 ⟨Nat.le_of_ble_eq_true rfl, Nat.le_of_ble_eq_true rfl, Nat.le_of_ble_eq_true rfl, Nat.le_of_ble_eq_true rfl⟩ ⟨Nat.le_of_ble_eq_true rfl, Nat.le_of_ble_eq_true rfl⟩
theorem dX11_tray_9 : decode cX11_tray 9 = .ok (.iload_n 2, 1) := by decide +kernel
theorem dX11_tray_10 : decode cX11_tray 10 = .ok (.iconst 4, 1) := by decide +kernel
theorem dX11_tray_11 : decode cX11_tray 11 = .ok (.if_icmp .ge 13, 3) := by decide +kernel
set_option maxRecDepth 100000 in
set_option maxHeartbeats 4000000 in
theorem c_X11_tray_3 (l : Launch) (D : va_G) (cy : Nat → ClassId) (a0 a1 a2 a3 a4 a5 a6 : Nat) (x0 : Int32) (x1 : Int32) (x2 : Int32) (k0 : ¬ x0 < 0) (k1 : x0 < 4) (k2 : ¬ x1 < 0) (k3 : 4 ≤ x1) (hst : l.stackTraces = false) : CtX l D cy yX11_tray cX11_tray 4 none 6 82 1 6 [(a0, .inr (11, [.ref a1, .int 0, .int 0, .int (-1), .ref a2, .ref a3, .ref a4, .ref a5, .ref a6, .null]))] [.ref a0, .int x0, .int x1, .int x2] nIAE := by
  refine CtX.of (by decide +kernel) (Nat.le_of_ble_eq_true rfl) ?_
  intro p e s m args below meth c A ls C hlocks hml htab w hl
  have hl : lv_has ls 4 [(0, .ref a0), (1, .int x0), (2, .int x1), (3, .int x2)] := hl
  refine lv_aload_n C.1 C.2.1 dX11_tray_0 rfl (lv_at hl 0 rfl) ?_
  refine lv_iload_n C.1 C.2.1 dX11_tray_1 rfl (lv_at hl 1 rfl) ?_
  refine r_callV C w fv_RX11_317 (c_X11_checkTray_1 l D cy a0 a1 a2 a3 a4 a5 a6 x0 k0 k1) (hl.1.trans hml.symm) [0] [] (wr := []) ⟨rfl, rfl, rfl, rfl, by decide⟩ 0 rfl rfl rfl rfl rfl ⟨Nat.le_of_ble_eq_true rfl, Nat.le_of_ble_eq_true rfl, Nat.le_of_ble_eq_true rfl⟩ 0 0 ⟨rfl, rfl, Nat.le_of_ble_eq_true rfl, Nat.le_of_ble_eq_true rfl⟩ dX11_tray_2 (fun u H locs hp w => ?_)
  have w : Wd D A s.heap [(a0, .inr (11, [.ref a1, .int 0, .int 0, .int (-1), .ref a2, .ref a3, .ref a4, .ref a5, .ref a6, .null]))] _ _ := w
  refine r_top (g2 := F0 m 5 ls []) rfl ?_
  refine lv_iload_n C.1 C.2.1 dX11_tray_5 rfl (lv_at hl 2 rfl) ?_
  refine b_if_lt_f C (tgt := 24) dX11_tray_6 (by decide) k2 ?_
  refine lv_iload_n C.1 C.2.1 dX11_tray_9 rfl (lv_at hl 2 rfl) ?_
  refine lv_iconst (v := 4) C.1 C.2.1 dX11_tray_10 (by decide) ?_
  refine b_icmp_ge_t C (tgt := 24) dX11_tray_11 (by decide) k3 ?_
  exact r_throwSW C hst w ft_52_320_56 (hl.1.trans hml.symm) hlocks htab dX11_tray_24 dX11_tray_27 dX11_tray_28 dX11_tray_31 dX11_tray_34 ⟨Nat.le_of_ble_eq_true rfl, Nat.le_of_ble_eq_true rfl, Nat.le_of_ble_eq_true rfl, Nat.le_of_ble_eq_true rfl⟩ ⟨Nat.le_of_ble_eq_true rfl, Nat.le_of_ble_eq_true rfl⟩
theorem dX11_tray_14 : decode cX11_tray 14 = .ok (.iload_n 3, 1) := by decide +kernel
theorem dX11_tray_15 : decode cX11_tray 15 = .ok (.ifCond .lt 9, 3) := by decide +kernel
set_option maxRecDepth 100000 in
set_option maxHeartbeats 4000000 in
theorem c_X11_tray_4 (l : Launch) (D : va_G) (cy : Nat → ClassId) (a0 a1 a2 a3 a4 a5 a6 : Nat) (x0 : Int32) (x1 : Int32) (x2 : Int32) (k0 : ¬ x0 < 0) (k1 : x0 < 4) (k2 : ¬ x1 < 0) (k3 : ¬ 4 ≤ x1) (k4 : x2 < 0) (hst : l.stackTraces = false) : CtX l D cy yX11_tray cX11_tray 4 none 6 82 1 6 [(a0, .inr (11, [.ref a1, .int 0, .int 0, .int (-1), .ref a2, .ref a3, .ref a4, .ref a5, .ref a6, .null]))] [.ref a0, .int x0, .int x1, .int x2] nIAE := by
  refine CtX.of (by decide +kernel) (Nat.le_of_ble_eq_true rfl) ?_
  intro p e s m args below meth c A ls C hlocks hml htab w hl
  have hl : lv_has ls 4 [(0, .ref a0), (1, .int x0), (2, .int x1), (3, .int x2)] := hl
  refine lv_aload_n C.1 C.2.1 dX11_tray_0 rfl (lv_at hl 0 rfl) ?_
  refine lv_iload_n C.1 C.2.1 dX11_tray_1 rfl (lv_at hl 1 rfl) ?_
  refine r_callV C w fv_RX11_317 (c_X11_checkTray_1 l D cy a0 a1 a2 a3 a4 a5 a6 x0 k0 k1) (hl.1.trans hml.symm) [0] [] (wr := []) ⟨rfl, rfl, rfl, rfl, by decide⟩ 0 rfl rfl rfl rfl rfl ⟨Nat.le_of_ble_eq_true rfl, Nat.le_of_ble_eq_true rfl, Nat.le_of_ble_eq_true rfl⟩ 0 0 ⟨rfl, rfl, Nat.le_of_ble_eq_true rfl, Nat.le_of_ble_eq_true rfl⟩ dX11_tray_2 (fun u H locs hp w => ?_)
  have w : Wd D A s.heap [(a0, .inr (11, [.ref a1, .int 0, .int 0, .int (-1), .ref a2, .ref a3, .ref a4, .ref a5, .ref a6, .null]))] _ _ := w
  refine r_top (g2 := F0 m 5 ls []) rfl ?_
  refine lv_iload_n C.1 C.2.1 dX11_tray_5 rfl (lv_at hl 2 rfl) ?_
  refine b_if_lt_f C (tgt := 24) dX11_tray_6 (by decide) k2 ?_
  refine lv_iload_n C.1 C.2.1 dX11_tray_9 rfl (lv_at hl 2 rfl) ?_
  refine lv_iconst (v := 4) C.1 C.2.1 dX11_tray_10 (by decide) ?_
  refine b_icmp_ge_f C (tgt := 24) dX11_tray_11 (by decide) k3 ?_
  refine lv_iload_n C.1 C.2.1 dX11_tray_14 rfl (lv_at hl 3 rfl) ?_
  refine b_if_lt_t C (tgt := 24) dX11_tray_15 (by decide) k4 ?_
  exact r_throwSW C hst w ft_52_320_56 (hl.1.trans hml.symm) hlocks htab dX11_tray_24 dX11_tray_27 dX11_tray_28 dX11_tray_31 dX11_tray_34 ⟨Nat.le_of_ble_eq_true rfl, Nat.le_of_ble_eq_true rfl, Nat.le_of_ble_eq_true rfl, Nat.le_of_ble_eq_true rfl⟩ ⟨Nat.le_of_ble_eq_true rfl, Nat.le_of_ble_eq_true rfl⟩
theorem dX11_tray_18 : decode cX11_tray 18 = .ok (.iload_n 3, 1) := by decide +kernel
theorem dX11_tray_19 : decode cX11_tray 19 = .ok (.bipush 40, 2) := by decide +kernel
theorem dX11_tray_21 : decode cX11_tray 21 = .ok (.if_icmp .le 14, 3) := by decide +kernel
theorem dX11_tray_35 : decode cX11_tray 35 = .ok (.aload_n 0, 1) := by decide +kernel
theorem dX11_tray_36 : decode cX11_tray 36 = .ok (.getfield 36, 3) := by decide +kernel
theorem dX11_tray_39 : decode cX11_tray 39 = .ok (.iload_n 1, 1) := by decide +kernel
theorem dX11_tray_40 : decode cX11_tray 40 = .ok (.iload_n 2, 1) := by decide +kernel
theorem dX11_tray_41 : decode cX11_tray 41 = .ok (.iload_n 3, 1) := by decide +kernel
theorem dX11_tray_42 : decode cX11_tray 42 = .ok (.invokevirtual 322, 3) := by decide +kernel
theorem dX10_lay_0 : decode cX10_lay 0 = .ok (.aload_n 0, 1) := by decide +kernel
theorem dX10_lay_1 : decode cX10_lay 1 = .ok (.getfield 9, 3) := by decide +kernel
theorem dX10_lay_4 : decode cX10_lay 4 = .ok (.iload_n 1, 1) := by decide +kernel
theorem dX10_lay_5 : decode cX10_lay 5 = .ok (.iload_n 2, 1) := by decide +kernel
theorem dX10_lay_6 : decode cX10_lay 6 = .ok (.iastore, 1) := by decide +kernel
theorem dX10_lay_7 : decode cX10_lay 7 = .ok (.aload_n 0, 1) := by decide +kernel
theorem dX10_lay_8 : decode cX10_lay 8 = .ok (.getfield 15, 3) := by decide +kernel
theorem dX10_lay_11 : decode cX10_lay 11 = .ok (.iload_n 1, 1) := by decide +kernel
theorem dX10_lay_12 : decode cX10_lay 12 = .ok (.iload_n 3, 1) := by decide +kernel
theorem dX10_lay_13 : decode cX10_lay 13 = .ok (.iastore, 1) := by decide +kernel
theorem dX10_lay_14 : decode cX10_lay 14 = .ok (.iconst 0, 1) := by decide +kernel
theorem dX10_lay_15 : decode cX10_lay 15 = .ok (.istore 4, 2) := by decide +kernel
theorem dX10_lay_17 : decode cX10_lay 17 = .ok (.iload 4, 2) := by decide +kernel
theorem dX10_lay_19 : decode cX10_lay 19 = .ok (.bipush 40, 2) := by decide +kernel
theorem dX10_lay_21 : decode cX10_lay 21 = .ok (.if_icmp .ge 22, 3) := by decide +kernel
theorem dX10_lay_24 : decode cX10_lay 24 = .ok (.aload_n 0, 1) := by decide +kernel
theorem dX10_lay_25 : decode cX10_lay 25 = .ok (.getfield 18, 3) := by decide +kernel
theorem dX10_lay_28 : decode cX10_lay 28 = .ok (.iload_n 1, 1) := by decide +kernel
theorem dX10_lay_29 : decode cX10_lay 29 = .ok (.bipush 40, 2) := by decide +kernel
theorem dX10_lay_31 : decode cX10_lay 31 = .ok (.imul, 1) := by decide +kernel
theorem dX10_lay_32 : decode cX10_lay 32 = .ok (.iload 4, 2) := by decide +kernel
theorem dX10_lay_34 : decode cX10_lay 34 = .ok (.iadd, 1) := by decide +kernel
theorem dX10_lay_35 : decode cX10_lay 35 = .ok (.lconst 0, 1) := by decide +kernel
theorem dX10_lay_36 : decode cX10_lay 36 = .ok (.lastore, 1) := by decide +kernel
theorem dX10_lay_37 : decode cX10_lay 37 = .ok (.iinc 4 1, 3) := by decide +kernel
theorem dX10_lay_40 : decode cX10_lay 40 = .ok (.goto (-23), 3) := by decide +kernel
theorem dX10_lay_43 : decode cX10_lay 43 = .ok (.return_, 1) := by decide +kernel
set_option maxRecDepth 100000 in
set_option maxHeartbeats 4000000 in
theorem c_X10_lay_0 (l : Launch) (D : va_G) (cy : Nat → ClassId) (a0 a1 a2 a3 : Nat) (x0 : Int32) (x1 : Int32) : Ct l D cy yX10_lay cX10_lay 5 none 0 0 0 0 [(a0, .inr (10, [.ref a1, .ref a2, .ref a3])), (a1, .inl (cy 1, 4, .inl (upd (upd (upd (upd (fun _ => 0) 0 (-1)) 1 (-1)) 2 (-1)) 3 (-1)))), (a2, .inl (cy 1, 4, .inl (fun _ => 0))), (a3, .inl (cy 2, 160, .inr (.inl (fun _ => 0))))] [.ref a0, .int 0, .int x0, .int x1] (fun u : Unit => none) (fun _ => True) (fun u : Unit => [(a0, .inr (10, [.ref a1, .ref a2, .ref a3])), (a1, .inl (cy 1, 4, .inl (upd (upd (upd (upd (upd (fun _ => 0) 0 (-1)) 1 (-1)) 2 (-1)) 3 (-1)) 0 x0))), (a2, .inl (cy 1, 4, .inl (upd (fun _ => 0) 0 x1))), (a3, .inl (cy 2, 160, .inr (.inl (vp_updL (vp_updL (vp_updL (vp_updL (vp_updL (vp_updL (vp_updL (vp_updL (vp_updL (vp_updL (vp_updL (vp_updL (vp_updL (vp_updL (vp_updL (vp_updL (vp_updL (vp_updL (vp_updL (vp_updL (vp_updL (vp_updL (vp_updL (vp_updL (vp_updL (vp_updL (vp_updL (vp_updL (vp_updL (vp_updL (vp_updL (vp_updL (vp_updL (vp_updL (vp_updL (vp_updL (vp_updL (vp_updL (vp_updL (vp_updL (fun _ => 0) 0 0) 1 0) 2 0) 3 0) 4 0) 5 0) 6 0) 7 0) 8 0) 9 0) 10 0) 11 0) 12 0) 13 0) 14 0) 15 0) 16 0) 17 0) 18 0) 19 0) 20 0) 21 0) 22 0) 23 0) 24 0) 25 0) 26 0) 27 0) 28 0) 29 0) 30 0) 31 0) 32 0) 33 0) 34 0) 35 0) 36 0) 37 0) 38 0) 39 0))))]) := by
  refine Ct.of (by decide +kernel) (Nat.le_of_ble_eq_true rfl) ?_
  intro p e s m args below meth c A ls C hr hlocks hml hnm w hl
  have hl : lv_has ls 5 [(0, .ref a0), (1, .int 0), (2, .int x0), (3, .int x1)] := hl
  refine lv_aload_n C.1 C.2.1 dX10_lay_0 rfl (lv_at hl 0 rfl) ?_
  refine r_get C w 0 rfl rfl 0 (by decide) fl_RX10_9 (v := .ref a1) rfl dX10_lay_1 ?_
  refine lv_iload_n C.1 C.2.1 dX10_lay_4 rfl (lv_at hl 1 rfl) ?_
  refine lv_iload_n C.1 C.2.1 dX10_lay_5 rfl (lv_at hl 2 rfl) ?_
  refine r_iast C w 1 rfl (vinD (by decide)) (upd (upd (upd (upd (upd (fun _ => 0) 0 (-1)) 1 (-1)) 2 (-1)) 3 (-1)) 0 x0) rfl [(a0, .inr (10, [.ref a1, .ref a2, .ref a3])), (a1, .inl (cy 1, 4, .inl (upd (upd (upd (upd (upd (fun _ => 0) 0 (-1)) 1 (-1)) 2 (-1)) 3 (-1)) 0 x0))), (a2, .inl (cy 1, 4, .inl (fun _ => 0))), (a3, .inl (cy 2, 160, .inr (.inl (fun _ => 0))))] rfl dX10_lay_6 (fun H locs w => ?_)
  refine lv_aload_n C.1 C.2.1 dX10_lay_7 rfl (lv_at hl 0 rfl) ?_
  refine r_get C w 0 rfl rfl 1 (by decide) fl_RX10_15 (v := .ref a2) rfl dX10_lay_8 ?_
  refine lv_iload_n C.1 C.2.1 dX10_lay_11 rfl (lv_at hl 1 rfl) ?_
  refine lv_iload_n C.1 C.2.1 dX10_lay_12 rfl (lv_at hl 3 rfl) ?_
  refine r_iast C w 2 rfl (vinD (by decide)) (upd (fun _ => 0) 0 x1) rfl [(a0, .inr (10, [.ref a1, .ref a2, .ref a3])), (a1, .inl (cy 1, 4, .inl (upd (upd (upd (upd (upd (fun _ => 0) 0 (-1)) 1 (-1)) 2 (-1)) 3 (-1)) 0 x0))), (a2, .inl (cy 1, 4, .inl (upd (fun _ => 0) 0 x1))), (a3, .inl (cy 2, 160, .inr (.inl (fun _ => 0))))] rfl dX10_lay_13 (fun H locs w => ?_)
  refine lv_iconst (v := 0) C.1 C.2.1 dX10_lay_14 (by decide) ?_
  refine lv_istore (lv' := [(4, .int 0), (0, .ref a0), (1, .int 0), (2, .int x0), (3, .int x1)]) C.1 C.2.1 dX10_lay_15 hl (by decide) rfl (fun ls hl => ?_)
  refine lv_iload C.1 C.2.1 dX10_lay_17 (lv_at hl 0 rfl) ?_
  refine lv_bipush (v := 40) C.1 C.2.1 dX10_lay_19 (by decide) ?_
  refine b_icmp_ge_f C (tgt := 43) dX10_lay_21 (by decide) (by decide) ?_
  refine lv_aload_n C.1 C.2.1 dX10_lay_24 rfl (lv_at hl 1 rfl) ?_
  refine r_get C w 0 rfl rfl 2 (by decide) fl_RX10_18 (v := .ref a3) rfl dX10_lay_25 ?_
  refine lv_iload_n C.1 C.2.1 dX10_lay_28 rfl (lv_at hl 2 rfl) ?_
  refine lv_bipush (v := 40) C.1 C.2.1 dX10_lay_29 (by decide) ?_
  refine r_imul C (v := 0) dX10_lay_31 (by decide) ?_
  refine lv_iload C.1 C.2.1 dX10_lay_32 (lv_at hl 0 rfl) ?_
  refine r_iadd C (v := 0) dX10_lay_34 (by decide) ?_
  refine lv_lconst (v := 0) C.1 C.2.1 dX10_lay_35 (by decide) ?_
  refine r_last C w 3 rfl (vinD (by decide)) (vp_updL (fun _ => 0) 0 0) rfl [(a0, .inr (10, [.ref a1, .ref a2, .ref a3])), (a1, .inl (cy 1, 4, .inl (upd (upd (upd (upd (upd (fun _ => 0) 0 (-1)) 1 (-1)) 2 (-1)) 3 (-1)) 0 x0))), (a2, .inl (cy 1, 4, .inl (upd (fun _ => 0) 0 x1))), (a3, .inl (cy 2, 160, .inr (.inl (vp_updL (fun _ => 0) 0 0))))] rfl dX10_lay_36 (fun H locs w => ?_)
  refine lv_iinc (v := 1) (lv' := [(4, .int 1), (0, .ref a0), (1, .int 0), (2, .int x0), (3, .int x1)]) C.1 C.2.1 dX10_lay_37 hl (k := 0) rfl (by decide) (by decide) rfl (fun ls hl => ?_)
  refine lv_goto (tgt := 17) C.1 C.2.1 dX10_lay_40 (by decide) ?_
  refine lv_iload C.1 C.2.1 dX10_lay_17 (lv_at hl 0 rfl) ?_
  refine lv_bipush (v := 40) C.1 C.2.1 dX10_lay_19 (by decide) ?_
  refine b_icmp_ge_f C (tgt := 43) dX10_lay_21 (by decide) (by decide) ?_
  refine lv_aload_n C.1 C.2.1 dX10_lay_24 rfl (lv_at hl 1 rfl) ?_
  refine r_get C w 0 rfl rfl 2 (by decide) fl_RX10_18 (v := .ref a3) rfl dX10_lay_25 ?_
  refine lv_iload_n C.1 C.2.1 dX10_lay_28 rfl (lv_at hl 2 rfl) ?_
  refine lv_bipush (v := 40) C.1 C.2.1 dX10_lay_29 (by decide) ?_
  refine r_imul C (v := 0) dX10_lay_31 (by decide) ?_
  refine lv_iload C.1 C.2.1 dX10_lay_32 (lv_at hl 0 rfl) ?_
  refine r_iadd C (v := 1) dX10_lay_34 (by decide) ?_
  refine lv_lconst (v := 0) C.1 C.2.1 dX10_lay_35 (by decide) ?_
  refine r_last C w 3 rfl (vinD (by decide)) (vp_updL (vp_updL (fun _ => 0) 0 0) 1 0) rfl [(a0, .inr (10, [.ref a1, .ref a2, .ref a3])), (a1, .inl (cy 1, 4, .inl (upd (upd (upd (upd (upd (fun _ => 0) 0 (-1)) 1 (-1)) 2 (-1)) 3 (-1)) 0 x0))), (a2, .inl (cy 1, 4, .inl (upd (fun _ => 0) 0 x1))), (a3, .inl (cy 2, 160, .inr (.inl (vp_updL (vp_updL (fun _ => 0) 0 0) 1 0))))] rfl dX10_lay_36 (fun H locs w => ?_)
  refine lv_iinc (v := 2) (lv' := [(4, .int 2), (0, .ref a0), (1, .int 0), (2, .int x0), (3, .int x1)]) C.1 C.2.1 dX10_lay_37 hl (k := 0) rfl (by decide) (by decide) rfl (fun ls hl => ?_)
  refine lv_goto (tgt := 17) C.1 C.2.1 dX10_lay_40 (by decide) ?_
  refine lv_iload C.1 C.2.1 dX10_lay_17 (lv_at hl 0 rfl) ?_
  refine lv_bipush (v := 40) C.1 C.2.1 dX10_lay_19 (by decide) ?_
  refine b_icmp_ge_f C (tgt := 43) dX10_lay_21 (by decide) (by decide) ?_
  refine lv_aload_n C.1 C.2.1 dX10_lay_24 rfl (lv_at hl 1 rfl) ?_
  refine r_get C w 0 rfl rfl 2 (by decide) fl_RX10_18 (v := .ref a3) rfl dX10_lay_25 ?_
  refine lv_iload_n C.1 C.2.1 dX10_lay_28 rfl (lv_at hl 2 rfl) ?_
  refine lv_bipush (v := 40) C.1 C.2.1 dX10_lay_29 (by decide) ?_
  refine r_imul C (v := 0) dX10_lay_31 (by decide) ?_
  refine lv_iload C.1 C.2.1 dX10_lay_32 (lv_at hl 0 rfl) ?_
  refine r_iadd C (v := 2) dX10_lay_34 (by decide) ?_
  refine lv_lconst (v := 0) C.1 C.2.1 dX10_lay_35 (by decide) ?_
  refine r_last C w 3 rfl (vinD (by decide)) (vp_updL (vp_updL (vp_updL (fun _ => 0) 0 0) 1 0) 2 0) rfl [(a0, .inr (10, [.ref a1, .ref a2, .ref a3])), (a1, .inl (cy 1, 4, .inl (upd (upd (upd (upd (upd (fun _ => 0) 0 (-1)) 1 (-1)) 2 (-1)) 3 (-1)) 0 x0))), (a2, .inl (cy 1, 4, .inl (upd (fun _ => 0) 0 x1))), (a3, .inl (cy 2, 160, .inr (.inl (vp_updL (vp_updL (vp_updL (fun _ => 0) 0 0) 1 0) 2 0))))] rfl dX10_lay_36 (fun H locs w => ?_)
  refine lv_iinc (v := 3) (lv' := [(4, .int 3), (0, .ref a0), (1, .int 0), (2, .int x0), (3, .int x1)]) C.1 C.2.1 dX10_lay_37 hl (k := 0) rfl (by decide) (by decide) rfl (fun ls hl => ?_)
  refine lv_goto (tgt := 17) C.1 C.2.1 dX10_lay_40 (by decide) ?_
  refine lv_iload C.1 C.2.1 dX10_lay_17 (lv_at hl 0 rfl) ?_
  refine lv_bipush (v := 40) C.1 C.2.1 dX10_lay_19 (by decide) ?_
  refine b_icmp_ge_f C (tgt := 43) dX10_lay_21 (by decide) (by decide) ?_
  refine lv_aload_n C.1 C.2.1 dX10_lay_24 rfl (lv_at hl 1 rfl) ?_
  refine r_get C w 0 rfl rfl 2 (by decide) fl_RX10_18 (v := .ref a3) rfl dX10_lay_25 ?_
  refine lv_iload_n C.1 C.2.1 dX10_lay_28 rfl (lv_at hl 2 rfl) ?_
  refine lv_bipush (v := 40) C.1 C.2.1 dX10_lay_29 (by decide) ?_
  refine r_imul C (v := 0) dX10_lay_31 (by decide) ?_
  refine lv_iload C.1 C.2.1 dX10_lay_32 (lv_at hl 0 rfl) ?_
  refine r_iadd C (v := 3) dX10_lay_34 (by decide) ?_
  refine lv_lconst (v := 0) C.1 C.2.1 dX10_lay_35 (by decide) ?_
  refine r_last C w 3 rfl (vinD (by decide)) (vp_updL (vp_updL (vp_updL (vp_updL (fun _ => 0) 0 0) 1 0) 2 0) 3 0) rfl [(a0, .inr (10, [.ref a1, .ref a2, .ref a3])), (a1, .inl (cy 1, 4, .inl (upd (upd (upd (upd (upd (fun _ => 0) 0 (-1)) 1 (-1)) 2 (-1)) 3 (-1)) 0 x0))), (a2, .inl (cy 1, 4, .inl (upd (fun _ => 0) 0 x1))), (a3, .inl (cy 2, 160, .inr (.inl (vp_updL (vp_updL (vp_updL (vp_updL (fun _ => 0) 0 0) 1 0) 2 0) 3 0))))] rfl dX10_lay_36 (fun H locs w => ?_)
  refine lv_iinc (v := 4) (lv' := [(4, .int 4), (0, .ref a0), (1, .int 0), (2, .int x0), (3, .int x1)]) C.1 C.2.1 dX10_lay_37 hl (k := 0) rfl (by decide) (by decide) rfl (fun ls hl => ?_)
  refine lv_goto (tgt := 17) C.1 C.2.1 dX10_lay_40 (by decide) ?_
  refine lv_iload C.1 C.2.1 dX10_lay_17 (lv_at hl 0 rfl) ?_
  refine lv_bipush (v := 40) C.1 C.2.1 dX10_lay_19 (by decide) ?_
  refine b_icmp_ge_f C (tgt := 43) dX10_lay_21 (by decide) (by decide) ?_
  refine lv_aload_n C.1 C.2.1 dX10_lay_24 rfl (lv_at hl 1 rfl) ?_
  refine r_get C w 0 rfl rfl 2 (by decide) fl_RX10_18 (v := .ref a3) rfl dX10_lay_25 ?_
  refine lv_iload_n C.1 C.2.1 dX10_lay_28 rfl (lv_at hl 2 rfl) ?_
  refine lv_bipush (v := 40) C.1 C.2.1 dX10_lay_29 (by decide) ?_
  refine r_imul C (v := 0) dX10_lay_31 (by decide) ?_
  refine lv_iload C.1 C.2.1 dX10_lay_32 (lv_at hl 0 rfl) ?_
  refine r_iadd C (v := 4) dX10_lay_34 (by decide) ?_
  refine lv_lconst (v := 0) C.1 C.2.1 dX10_lay_35 (by decide) ?_
  refine r_last C w 3 rfl (vinD (by decide)) (vp_updL (vp_updL (vp_updL (vp_updL (vp_updL (fun _ => 0) 0 0) 1 0) 2 0) 3 0) 4 0) rfl [(a0, .inr (10, [.ref a1, .ref a2, .ref a3])), (a1, .inl (cy 1, 4, .inl (upd (upd (upd (upd (upd (fun _ => 0) 0 (-1)) 1 (-1)) 2 (-1)) 3 (-1)) 0 x0))), (a2, .inl (cy 1, 4, .inl (upd (fun _ => 0) 0 x1))), (a3, .inl (cy 2, 160, .inr (.inl (vp_updL (vp_updL (vp_updL (vp_updL (vp_updL (fun _ => 0) 0 0) 1 0) 2 0) 3 0) 4 0))))] rfl dX10_lay_36 (fun H locs w => ?_)
  refine lv_iinc (v := 5) (lv' := [(4, .int 5), (0, .ref a0), (1, .int 0), (2, .int x0), (3, .int x1)]) C.1 C.2.1 dX10_lay_37 hl (k := 0) rfl (by decide) (by decide) rfl (fun ls hl => ?_)
  refine lv_goto (tgt := 17) C.1 C.2.1 dX10_lay_40 (by decide) ?_
  refine lv_iload C.1 C.2.1 dX10_lay_17 (lv_at hl 0 rfl) ?_
  refine lv_bipush (v := 40) C.1 C.2.1 dX10_lay_19 (by decide) ?_
  refine b_icmp_ge_f C (tgt := 43) dX10_lay_21 (by decide) (by decide) ?_
  refine lv_aload_n C.1 C.2.1 dX10_lay_24 rfl (lv_at hl 1 rfl) ?_
  refine r_get C w 0 rfl rfl 2 (by decide) fl_RX10_18 (v := .ref a3) rfl dX10_lay_25 ?_
  refine lv_iload_n C.1 C.2.1 dX10_lay_28 rfl (lv_at hl 2 rfl) ?_
  refine lv_bipush (v := 40) C.1 C.2.1 dX10_lay_29 (by decide) ?_
  refine r_imul C (v := 0) dX10_lay_31 (by decide) ?_
  refine lv_iload C.1 C.2.1 dX10_lay_32 (lv_at hl 0 rfl) ?_
  refine r_iadd C (v := 5) dX10_lay_34 (by decide) ?_
  refine lv_lconst (v := 0) C.1 C.2.1 dX10_lay_35 (by decide) ?_
  refine r_last C w 3 rfl (vinD (by decide)) (vp_updL (vp_updL (vp_updL (vp_updL (vp_updL (vp_updL (fun _ => 0) 0 0) 1 0) 2 0) 3 0) 4 0) 5 0) rfl [(a0, .inr (10, [.ref a1, .ref a2, .ref a3])), (a1, .inl (cy 1, 4, .inl (upd (upd (upd (upd (upd (fun _ => 0) 0 (-1)) 1 (-1)) 2 (-1)) 3 (-1)) 0 x0))), (a2, .inl (cy 1, 4, .inl (upd (fun _ => 0) 0 x1))), (a3, .inl (cy 2, 160, .inr (.inl (vp_updL (vp_updL (vp_updL (vp_updL (vp_updL (vp_updL (fun _ => 0) 0 0) 1 0) 2 0) 3 0) 4 0) 5 0))))] rfl dX10_lay_36 (fun H locs w => ?_)
  refine lv_iinc (v := 6) (lv' := [(4, .int 6), (0, .ref a0), (1, .int 0), (2, .int x0), (3, .int x1)]) C.1 C.2.1 dX10_lay_37 hl (k := 0) rfl (by decide) (by decide) rfl (fun ls hl => ?_)
  refine lv_goto (tgt := 17) C.1 C.2.1 dX10_lay_40 (by decide) ?_
  refine lv_iload C.1 C.2.1 dX10_lay_17 (lv_at hl 0 rfl) ?_
  refine lv_bipush (v := 40) C.1 C.2.1 dX10_lay_19 (by decide) ?_
  refine b_icmp_ge_f C (tgt := 43) dX10_lay_21 (by decide) (by decide) ?_
  refine lv_aload_n C.1 C.2.1 dX10_lay_24 rfl (lv_at hl 1 rfl) ?_
  refine r_get C w 0 rfl rfl 2 (by decide) fl_RX10_18 (v := .ref a3) rfl dX10_lay_25 ?_
  refine lv_iload_n C.1 C.2.1 dX10_lay_28 rfl (lv_at hl 2 rfl) ?_
  refine lv_bipush (v := 40) C.1 C.2.1 dX10_lay_29 (by decide) ?_
  refine r_imul C (v := 0) dX10_lay_31 (by decide) ?_
  refine lv_iload C.1 C.2.1 dX10_lay_32 (lv_at hl 0 rfl) ?_
  refine r_iadd C (v := 6) dX10_lay_34 (by decide) ?_
  refine lv_lconst (v := 0) C.1 C.2.1 dX10_lay_35 (by decide) ?_
  refine r_last C w 3 rfl (vinD (by decide)) (vp_updL (vp_updL (vp_updL (vp_updL (vp_updL (vp_updL (vp_updL (fun _ => 0) 0 0) 1 0) 2 0) 3 0) 4 0) 5 0) 6 0) rfl [(a0, .inr (10, [.ref a1, .ref a2, .ref a3])), (a1, .inl (cy 1, 4, .inl (upd (upd (upd (upd (upd (fun _ => 0) 0 (-1)) 1 (-1)) 2 (-1)) 3 (-1)) 0 x0))), (a2, .inl (cy 1, 4, .inl (upd (fun _ => 0) 0 x1))), (a3, .inl (cy 2, 160, .inr (.inl (vp_updL (vp_updL (vp_updL (vp_updL (vp_updL (vp_updL (vp_updL (fun _ => 0) 0 0) 1 0) 2 0) 3 0) 4 0) 5 0) 6 0))))] rfl dX10_lay_36 (fun H locs w => ?_)
  refine lv_iinc (v := 7) (lv' := [(4, .int 7), (0, .ref a0), (1, .int 0), (2, .int x0), (3, .int x1)]) C.1 C.2.1 dX10_lay_37 hl (k := 0) rfl (by decide) (by decide) rfl (fun ls hl => ?_)
  refine lv_goto (tgt := 17) C.1 C.2.1 dX10_lay_40 (by decide) ?_
  refine lv_iload C.1 C.2.1 dX10_lay_17 (lv_at hl 0 rfl) ?_
  refine lv_bipush (v := 40) C.1 C.2.1 dX10_lay_19 (by decide) ?_
  refine b_icmp_ge_f C (tgt := 43) dX10_lay_21 (by decide) (by decide) ?_
  refine lv_aload_n C.1 C.2.1 dX10_lay_24 rfl (lv_at hl 1 rfl) ?_
  refine r_get C w 0 rfl rfl 2 (by decide) fl_RX10_18 (v := .ref a3) rfl dX10_lay_25 ?_
  refine lv_iload_n C.1 C.2.1 dX10_lay_28 rfl (lv_at hl 2 rfl) ?_
  refine lv_bipush (v := 40) C.1 C.2.1 dX10_lay_29 (by decide) ?_
  refine r_imul C (v := 0) dX10_lay_31 (by decide) ?_
  refine lv_iload C.1 C.2.1 dX10_lay_32 (lv_at hl 0 rfl) ?_
  refine r_iadd C (v := 7) dX10_lay_34 (by decide) ?_
  refine lv_lconst (v := 0) C.1 C.2.1 dX10_lay_35 (by decide) ?_
  refine r_last C w 3 rfl (vinD (by decide)) (vp_updL (vp_updL (vp_updL (vp_updL (vp_updL (vp_updL (vp_updL (vp_updL (fun _ => 0) 0 0) 1 0) 2 0) 3 0) 4 0) 5 0) 6 0) 7 0) rfl [(a0, .inr (10, [.ref a1, .ref a2, .ref a3])), (a1, .inl (cy 1, 4, .inl (upd (upd (upd (upd (upd (fun _ => 0) 0 (-1)) 1 (-1)) 2 (-1)) 3 (-1)) 0 x0))), (a2, .inl (cy 1, 4, .inl (upd (fun _ => 0) 0 x1))), (a3, .inl (cy 2, 160, .inr (.inl (vp_updL (vp_updL (vp_updL (vp_updL (vp_updL (vp_updL (vp_updL (vp_updL (fun _ => 0) 0 0) 1 0) 2 0) 3 0) 4 0) 5 0) 6 0) 7 0))))] rfl dX10_lay_36 (fun H locs w => ?_)
  refine lv_iinc (v := 8) (lv' := [(4, .int 8), (0, .ref a0), (1, .int 0), (2, .int x0), (3, .int x1)]) C.1 C.2.1 dX10_lay_37 hl (k := 0) rfl (by decide) (by decide) rfl (fun ls hl => ?_)
  refine lv_goto (tgt := 17) C.1 C.2.1 dX10_lay_40 (by decide) ?_
  refine lv_iload C.1 C.2.1 dX10_lay_17 (lv_at hl 0 rfl) ?_
  refine lv_bipush (v := 40) C.1 C.2.1 dX10_lay_19 (by decide) ?_
  refine b_icmp_ge_f C (tgt := 43) dX10_lay_21 (by decide) (by decide) ?_
  refine lv_aload_n C.1 C.2.1 dX10_lay_24 rfl (lv_at hl 1 rfl) ?_
  refine r_get C w 0 rfl rfl 2 (by decide) fl_RX10_18 (v := .ref a3) rfl dX10_lay_25 ?_
  refine lv_iload_n C.1 C.2.1 dX10_lay_28 rfl (lv_at hl 2 rfl) ?_
  refine lv_bipush (v := 40) C.1 C.2.1 dX10_lay_29 (by decide) ?_
  refine r_imul C (v := 0) dX10_lay_31 (by decide) ?_
  refine lv_iload C.1 C.2.1 dX10_lay_32 (lv_at hl 0 rfl) ?_
  refine r_iadd C (v := 8) dX10_lay_34 (by decide) ?_
  refine lv_lconst (v := 0) C.1 C.2.1 dX10_lay_35 (by decide) ?_
  refine r_last C w 3 rfl (vinD (by decide)) (vp_updL (vp_updL (vp_updL (vp_updL (vp_updL (vp_updL (vp_updL (vp_updL (vp_updL (fun _ => 0) 0 0) 1 0) 2 0) 3 0) 4 0) 5 0) 6 0) 7 0) 8 0) rfl [(a0, .inr (10, [.ref a1, .ref a2, .ref a3])), (a1, .inl (cy 1, 4, .inl (upd (upd (upd (upd (upd (fun _ => 0) 0 (-1)) 1 (-1)) 2 (-1)) 3 (-1)) 0 x0))), (a2, .inl (cy 1, 4, .inl (upd (fun _ => 0) 0 x1))), (a3, .inl (cy 2, 160, .inr (.inl (vp_updL (vp_updL (vp_updL (vp_updL (vp_updL (vp_updL (vp_updL (vp_updL (vp_updL (fun _ => 0) 0 0) 1 0) 2 0) 3 0) 4 0) 5 0) 6 0) 7 0) 8 0))))] rfl dX10_lay_36 (fun H locs w => ?_)
  refine lv_iinc (v := 9) (lv' := [(4, .int 9), (0, .ref a0), (1, .int 0), (2, .int x0), (3, .int x1)]) C.1 C.2.1 dX10_lay_37 hl (k := 0) rfl (by decide) (by decide) rfl (fun ls hl => ?_)
  refine lv_goto (tgt := 17) C.1 C.2.1 dX10_lay_40 (by decide) ?_
  refine lv_iload C.1 C.2.1 dX10_lay_17 (lv_at hl 0 rfl) ?_
  refine lv_bipush (v := 40) C.1 C.2.1 dX10_lay_19 (by decide) ?_
  refine b_icmp_ge_f C (tgt := 43) dX10_lay_21 (by decide) (by decide) ?_
  refine lv_aload_n C.1 C.2.1 dX10_lay_24 rfl (lv_at hl 1 rfl) ?_
  refine r_get C w 0 rfl rfl 2 (by decide) fl_RX10_18 (v := .ref a3) rfl dX10_lay_25 ?_
  refine lv_iload_n C.1 C.2.1 dX10_lay_28 rfl (lv_at hl 2 rfl) ?_
  refine lv_bipush (v := 40) C.1 C.2.1 dX10_lay_29 (by decide) ?_
  refine r_imul C (v := 0) dX10_lay_31 (by decide) ?_
  refine lv_iload C.1 C.2.1 dX10_lay_32 (lv_at hl 0 rfl) ?_
  refine r_iadd C (v := 9) dX10_lay_34 (by decide) ?_
  refine lv_lconst (v := 0) C.1 C.2.1 dX10_lay_35 (by decide) ?_
  refine r_last C w 3 rfl (vinD (by decide)) (vp_updL (vp_updL (vp_updL (vp_updL (vp_updL (vp_updL (vp_updL (vp_updL (vp_updL (vp_updL (fun _ => 0) 0 0) 1 0) 2 0) 3 0) 4 0) 5 0) 6 0) 7 0) 8 0) 9 0) rfl [(a0, .inr (10, [.ref a1, .ref a2, .ref a3])), (a1, .inl (cy 1, 4, .inl (upd (upd (upd (upd (upd (fun _ => 0) 0 (-1)) 1 (-1)) 2 (-1)) 3 (-1)) 0 x0))), (a2, .inl (cy 1, 4, .inl (upd (fun _ => 0) 0 x1))), (a3, .inl (cy 2, 160, .inr (.inl (vp_updL (vp_updL (vp_updL (vp_updL (vp_updL (vp_updL (vp_updL (vp_updL (vp_updL (vp_updL (fun _ => 0) 0 0) 1 0) 2 0) 3 0) 4 0) 5 0) 6 0) 7 0) 8 0) 9 0))))] rfl dX10_lay_36 (fun H locs w => ?_)
  refine lv_iinc (v := 10) (lv' := [(4, .int 10), (0, .ref a0), (1, .int 0), (2, .int x0), (3, .int x1)]) C.1 C.2.1 dX10_lay_37 hl (k := 0) rfl (by decide) (by decide) rfl (fun ls hl => ?_)
  refine lv_goto (tgt := 17) C.1 C.2.1 dX10_lay_40 (by decide) ?_
  refine lv_iload C.1 C.2.1 dX10_lay_17 (lv_at hl 0 rfl) ?_
  refine lv_bipush (v := 40) C.1 C.2.1 dX10_lay_19 (by decide) ?_
  refine b_icmp_ge_f C (tgt := 43) dX10_lay_21 (by decide) (by decide) ?_
  refine lv_aload_n C.1 C.2.1 dX10_lay_24 rfl (lv_at hl 1 rfl) ?_
  refine r_get C w 0 rfl rfl 2 (by decide) fl_RX10_18 (v := .ref a3) rfl dX10_lay_25 ?_
  refine lv_iload_n C.1 C.2.1 dX10_lay_28 rfl (lv_at hl 2 rfl) ?_
  refine lv_bipush (v := 40) C.1 C.2.1 dX10_lay_29 (by decide) ?_
  refine r_imul C (v := 0) dX10_lay_31 (by decide) ?_
  refine lv_iload C.1 C.2.1 dX10_lay_32 (lv_at hl 0 rfl) ?_
  refine r_iadd C (v := 10) dX10_lay_34 (by decide) ?_
  refine lv_lconst (v := 0) C.1 C.2.1 dX10_lay_35 (by decide) ?_
  refine r_last C w 3 rfl (vinD (by decide)) (vp_updL (vp_updL (vp_updL (vp_updL (vp_updL (vp_updL (vp_updL (vp_updL (vp_updL (vp_updL (vp_updL (fun _ => 0) 0 0) 1 0) 2 0) 3 0) 4 0) 5 0) 6 0) 7 0) 8 0) 9 0) 10 0) rfl [(a0, .inr (10, [.ref a1, .ref a2, .ref a3])), (a1, .inl (cy 1, 4, .inl (upd (upd (upd (upd (upd (fun _ => 0) 0 (-1)) 1 (-1)) 2 (-1)) 3 (-1)) 0 x0))), (a2, .inl (cy 1, 4, .inl (upd (fun _ => 0) 0 x1))), (a3, .inl (cy 2, 160, .inr (.inl (vp_updL (vp_updL (vp_updL (vp_updL (vp_updL (vp_updL (vp_updL (vp_updL (vp_updL (vp_updL (vp_updL (fun _ => 0) 0 0) 1 0) 2 0) 3 0) 4 0) 5 0) 6 0) 7 0) 8 0) 9 0) 10 0))))] rfl dX10_lay_36 (fun H locs w => ?_)
  refine lv_iinc (v := 11) (lv' := [(4, .int 11), (0, .ref a0), (1, .int 0), (2, .int x0), (3, .int x1)]) C.1 C.2.1 dX10_lay_37 hl (k := 0) rfl (by decide) (by decide) rfl (fun ls hl => ?_)
  refine lv_goto (tgt := 17) C.1 C.2.1 dX10_lay_40 (by decide) ?_
  refine lv_iload C.1 C.2.1 dX10_lay_17 (lv_at hl 0 rfl) ?_
  refine lv_bipush (v := 40) C.1 C.2.1 dX10_lay_19 (by decide) ?_
  refine b_icmp_ge_f C (tgt := 43) dX10_lay_21 (by decide) (by decide) ?_
  refine lv_aload_n C.1 C.2.1 dX10_lay_24 rfl (lv_at hl 1 rfl) ?_
  refine r_get C w 0 rfl rfl 2 (by decide) fl_RX10_18 (v := .ref a3) rfl dX10_lay_25 ?_
  refine lv_iload_n C.1 C.2.1 dX10_lay_28 rfl (lv_at hl 2 rfl) ?_
  refine lv_bipush (v := 40) C.1 C.2.1 dX10_lay_29 (by decide) ?_
  refine r_imul C (v := 0) dX10_lay_31 (by decide) ?_
  refine lv_iload C.1 C.2.1 dX10_lay_32 (lv_at hl 0 rfl) ?_
  refine r_iadd C (v := 11) dX10_lay_34 (by decide) ?_
  refine lv_lconst (v := 0) C.1 C.2.1 dX10_lay_35 (by decide) ?_
  refine r_last C w 3 rfl (vinD (by decide)) (vp_updL (vp_updL (vp_updL (vp_updL (vp_updL (vp_updL (vp_updL (vp_updL (vp_updL (vp_updL (vp_updL (vp_updL (fun _ => 0) 0 0) 1 0) 2 0) 3 0) 4 0) 5 0) 6 0) 7 0) 8 0) 9 0) 10 0) 11 0) rfl [(a0, .inr (10, [.ref a1, .ref a2, .ref a3])), (a1, .inl (cy 1, 4, .inl (upd (upd (upd (upd (upd (fun _ => 0) 0 (-1)) 1 (-1)) 2 (-1)) 3 (-1)) 0 x0))), (a2, .inl (cy 1, 4, .inl (upd (fun _ => 0) 0 x1))), (a3, .inl (cy 2, 160, .inr (.inl (vp_updL (vp_updL (vp_updL (vp_updL (vp_updL (vp_updL (vp_updL (vp_updL (vp_updL (vp_updL (vp_updL (vp_updL (fun _ => 0) 0 0) 1 0) 2 0) 3 0) 4 0) 5 0) 6 0) 7 0) 8 0) 9 0) 10 0) 11 0))))] rfl dX10_lay_36 (fun H locs w => ?_)
  refine lv_iinc (v := 12) (lv' := [(4, .int 12), (0, .ref a0), (1, .int 0), (2, .int x0), (3, .int x1)]) C.1 C.2.1 dX10_lay_37 hl (k := 0) rfl (by decide) (by decide) rfl (fun ls hl => ?_)
  refine lv_goto (tgt := 17) C.1 C.2.1 dX10_lay_40 (by decide) ?_
  refine lv_iload C.1 C.2.1 dX10_lay_17 (lv_at hl 0 rfl) ?_
  refine lv_bipush (v := 40) C.1 C.2.1 dX10_lay_19 (by decide) ?_
  refine b_icmp_ge_f C (tgt := 43) dX10_lay_21 (by decide) (by decide) ?_
  refine lv_aload_n C.1 C.2.1 dX10_lay_24 rfl (lv_at hl 1 rfl) ?_
  refine r_get C w 0 rfl rfl 2 (by decide) fl_RX10_18 (v := .ref a3) rfl dX10_lay_25 ?_
  refine lv_iload_n C.1 C.2.1 dX10_lay_28 rfl (lv_at hl 2 rfl) ?_
  refine lv_bipush (v := 40) C.1 C.2.1 dX10_lay_29 (by decide) ?_
  refine r_imul C (v := 0) dX10_lay_31 (by decide) ?_
  refine lv_iload C.1 C.2.1 dX10_lay_32 (lv_at hl 0 rfl) ?_
  refine r_iadd C (v := 12) dX10_lay_34 (by decide) ?_
  refine lv_lconst (v := 0) C.1 C.2.1 dX10_lay_35 (by decide) ?_
  refine r_last C w 3 rfl (vinD (by decide)) (vp_updL (vp_updL (vp_updL (vp_updL (vp_updL (vp_updL (vp_updL (vp_updL (vp_updL (vp_updL (vp_updL (vp_updL (vp_updL (fun _ => 0) 0 0) 1 0) 2 0) 3 0) 4 0) 5 0) 6 0) 7 0) 8 0) 9 0) 10 0) 11 0) 12 0) rfl [(a0, .inr (10, [.ref a1, .ref a2, .ref a3])), (a1, .inl (cy 1, 4, .inl (upd (upd (upd (upd (upd (fun _ => 0) 0 (-1)) 1 (-1)) 2 (-1)) 3 (-1)) 0 x0))), (a2, .inl (cy 1, 4, .inl (upd (fun _ => 0) 0 x1))), (a3, .inl (cy 2, 160, .inr (.inl (vp_updL (vp_updL (vp_updL (vp_updL (vp_updL (vp_updL (vp_updL (vp_updL (vp_updL (vp_updL (vp_updL (vp_updL (vp_updL (fun _ => 0) 0 0) 1 0) 2 0) 3 0) 4 0) 5 0) 6 0) 7 0) 8 0) 9 0) 10 0) 11 0) 12 0))))] rfl dX10_lay_36 (fun H locs w => ?_)
  refine lv_iinc (v := 13) (lv' := [(4, .int 13), (0, .ref a0), (1, .int 0), (2, .int x0), (3, .int x1)]) C.1 C.2.1 dX10_lay_37 hl (k := 0) rfl (by decide) (by decide) rfl (fun ls hl => ?_)
  refine lv_goto (tgt := 17) C.1 C.2.1 dX10_lay_40 (by decide) ?_
  refine lv_iload C.1 C.2.1 dX10_lay_17 (lv_at hl 0 rfl) ?_
  refine lv_bipush (v := 40) C.1 C.2.1 dX10_lay_19 (by decide) ?_
  refine b_icmp_ge_f C (tgt := 43) dX10_lay_21 (by decide) (by decide) ?_
  refine lv_aload_n C.1 C.2.1 dX10_lay_24 rfl (lv_at hl 1 rfl) ?_
  refine r_get C w 0 rfl rfl 2 (by decide) fl_RX10_18 (v := .ref a3) rfl dX10_lay_25 ?_
  refine lv_iload_n C.1 C.2.1 dX10_lay_28 rfl (lv_at hl 2 rfl) ?_
  refine lv_bipush (v := 40) C.1 C.2.1 dX10_lay_29 (by decide) ?_
  refine r_imul C (v := 0) dX10_lay_31 (by decide) ?_
  refine lv_iload C.1 C.2.1 dX10_lay_32 (lv_at hl 0 rfl) ?_
  refine r_iadd C (v := 13) dX10_lay_34 (by decide) ?_
  refine lv_lconst (v := 0) C.1 C.2.1 dX10_lay_35 (by decide) ?_
  refine r_last C w 3 rfl (vinD (by decide)) (vp_updL (vp_updL (vp_updL (vp_updL (vp_updL (vp_updL (vp_updL (vp_updL (vp_updL (vp_updL (vp_updL (vp_updL (vp_updL (vp_updL (fun _ => 0) 0 0) 1 0) 2 0) 3 0) 4 0) 5 0) 6 0) 7 0) 8 0) 9 0) 10 0) 11 0) 12 0) 13 0) rfl [(a0, .inr (10, [.ref a1, .ref a2, .ref a3])), (a1, .inl (cy 1, 4, .inl (upd (upd (upd (upd (upd (fun _ => 0) 0 (-1)) 1 (-1)) 2 (-1)) 3 (-1)) 0 x0))), (a2, .inl (cy 1, 4, .inl (upd (fun _ => 0) 0 x1))), (a3, .inl (cy 2, 160, .inr (.inl (vp_updL (vp_updL (vp_updL (vp_updL (vp_updL (vp_updL (vp_updL (vp_updL (vp_updL (vp_updL (vp_updL (vp_updL (vp_updL (vp_updL (fun _ => 0) 0 0) 1 0) 2 0) 3 0) 4 0) 5 0) 6 0) 7 0) 8 0) 9 0) 10 0) 11 0) 12 0) 13 0))))] rfl dX10_lay_36 (fun H locs w => ?_)
  refine lv_iinc (v := 14) (lv' := [(4, .int 14), (0, .ref a0), (1, .int 0), (2, .int x0), (3, .int x1)]) C.1 C.2.1 dX10_lay_37 hl (k := 0) rfl (by decide) (by decide) rfl (fun ls hl => ?_)
  refine lv_goto (tgt := 17) C.1 C.2.1 dX10_lay_40 (by decide) ?_
  refine lv_iload C.1 C.2.1 dX10_lay_17 (lv_at hl 0 rfl) ?_
  refine lv_bipush (v := 40) C.1 C.2.1 dX10_lay_19 (by decide) ?_
  refine b_icmp_ge_f C (tgt := 43) dX10_lay_21 (by decide) (by decide) ?_
  refine lv_aload_n C.1 C.2.1 dX10_lay_24 rfl (lv_at hl 1 rfl) ?_
  refine r_get C w 0 rfl rfl 2 (by decide) fl_RX10_18 (v := .ref a3) rfl dX10_lay_25 ?_
  refine lv_iload_n C.1 C.2.1 dX10_lay_28 rfl (lv_at hl 2 rfl) ?_
  refine lv_bipush (v := 40) C.1 C.2.1 dX10_lay_29 (by decide) ?_
  refine r_imul C (v := 0) dX10_lay_31 (by decide) ?_
  refine lv_iload C.1 C.2.1 dX10_lay_32 (lv_at hl 0 rfl) ?_
  refine r_iadd C (v := 14) dX10_lay_34 (by decide) ?_
  refine lv_lconst (v := 0) C.1 C.2.1 dX10_lay_35 (by decide) ?_
  refine r_last C w 3 rfl (vinD (by decide)) (vp_updL (vp_updL (vp_updL (vp_updL (vp_updL (vp_updL (vp_updL (vp_updL (vp_updL (vp_updL (vp_updL (vp_updL (vp_updL (vp_updL (vp_updL (fun _ => 0) 0 0) 1 0) 2 0) 3 0) 4 0) 5 0) 6 0) 7 0) 8 0) 9 0) 10 0) 11 0) 12 0) 13 0) 14 0) rfl [(a0, .inr (10, [.ref a1, .ref a2, .ref a3])), (a1, .inl (cy 1, 4, .inl (upd (upd (upd (upd (upd (fun _ => 0) 0 (-1)) 1 (-1)) 2 (-1)) 3 (-1)) 0 x0))), (a2, .inl (cy 1, 4, .inl (upd (fun _ => 0) 0 x1))), (a3, .inl (cy 2, 160, .inr (.inl (vp_updL (vp_updL (vp_updL (vp_updL (vp_updL (vp_updL (vp_updL (vp_updL (vp_updL (vp_updL (vp_updL (vp_updL (vp_updL (vp_updL (vp_updL (fun _ => 0) 0 0) 1 0) 2 0) 3 0) 4 0) 5 0) 6 0) 7 0) 8 0) 9 0) 10 0) 11 0) 12 0) 13 0) 14 0))))] rfl dX10_lay_36 (fun H locs w => ?_)
  refine lv_iinc (v := 15) (lv' := [(4, .int 15), (0, .ref a0), (1, .int 0), (2, .int x0), (3, .int x1)]) C.1 C.2.1 dX10_lay_37 hl (k := 0) rfl (by decide) (by decide) rfl (fun ls hl => ?_)
  refine lv_goto (tgt := 17) C.1 C.2.1 dX10_lay_40 (by decide) ?_
  refine lv_iload C.1 C.2.1 dX10_lay_17 (lv_at hl 0 rfl) ?_
  refine lv_bipush (v := 40) C.1 C.2.1 dX10_lay_19 (by decide) ?_
  refine b_icmp_ge_f C (tgt := 43) dX10_lay_21 (by decide) (by decide) ?_
  refine lv_aload_n C.1 C.2.1 dX10_lay_24 rfl (lv_at hl 1 rfl) ?_
  refine r_get C w 0 rfl rfl 2 (by decide) fl_RX10_18 (v := .ref a3) rfl dX10_lay_25 ?_
  refine lv_iload_n C.1 C.2.1 dX10_lay_28 rfl (lv_at hl 2 rfl) ?_
  refine lv_bipush (v := 40) C.1 C.2.1 dX10_lay_29 (by decide) ?_
  refine r_imul C (v := 0) dX10_lay_31 (by decide) ?_
  refine lv_iload C.1 C.2.1 dX10_lay_32 (lv_at hl 0 rfl) ?_
  refine r_iadd C (v := 15) dX10_lay_34 (by decide) ?_
  refine lv_lconst (v := 0) C.1 C.2.1 dX10_lay_35 (by decide) ?_
  refine r_last C w 3 rfl (vinD (by decide)) (vp_updL (vp_updL (vp_updL (vp_updL (vp_updL (vp_updL (vp_updL (vp_updL (vp_updL (vp_updL (vp_updL (vp_updL (vp_updL (vp_updL (vp_updL (vp_updL (fun _ => 0) 0 0) 1 0) 2 0) 3 0) 4 0) 5 0) 6 0) 7 0) 8 0) 9 0) 10 0) 11 0) 12 0) 13 0) 14 0) 15 0) rfl [(a0, .inr (10, [.ref a1, .ref a2, .ref a3])), (a1, .inl (cy 1, 4, .inl (upd (upd (upd (upd (upd (fun _ => 0) 0 (-1)) 1 (-1)) 2 (-1)) 3 (-1)) 0 x0))), (a2, .inl (cy 1, 4, .inl (upd (fun _ => 0) 0 x1))), (a3, .inl (cy 2, 160, .inr (.inl (vp_updL (vp_updL (vp_updL (vp_updL (vp_updL (vp_updL (vp_updL (vp_updL (vp_updL (vp_updL (vp_updL (vp_updL (vp_updL (vp_updL (vp_updL (vp_updL (fun _ => 0) 0 0) 1 0) 2 0) 3 0) 4 0) 5 0) 6 0) 7 0) 8 0) 9 0) 10 0) 11 0) 12 0) 13 0) 14 0) 15 0))))] rfl dX10_lay_36 (fun H locs w => ?_)
  refine lv_iinc (v := 16) (lv' := [(4, .int 16), (0, .ref a0), (1, .int 0), (2, .int x0), (3, .int x1)]) C.1 C.2.1 dX10_lay_37 hl (k := 0) rfl (by decide) (by decide) rfl (fun ls hl => ?_)
  refine lv_goto (tgt := 17) C.1 C.2.1 dX10_lay_40 (by decide) ?_
  refine lv_iload C.1 C.2.1 dX10_lay_17 (lv_at hl 0 rfl) ?_
  refine lv_bipush (v := 40) C.1 C.2.1 dX10_lay_19 (by decide) ?_
  refine b_icmp_ge_f C (tgt := 43) dX10_lay_21 (by decide) (by decide) ?_
  refine lv_aload_n C.1 C.2.1 dX10_lay_24 rfl (lv_at hl 1 rfl) ?_
  refine r_get C w 0 rfl rfl 2 (by decide) fl_RX10_18 (v := .ref a3) rfl dX10_lay_25 ?_
  refine lv_iload_n C.1 C.2.1 dX10_lay_28 rfl (lv_at hl 2 rfl) ?_
  refine lv_bipush (v := 40) C.1 C.2.1 dX10_lay_29 (by decide) ?_
  refine r_imul C (v := 0) dX10_lay_31 (by decide) ?_
  refine lv_iload C.1 C.2.1 dX10_lay_32 (lv_at hl 0 rfl) ?_
  refine r_iadd C (v := 16) dX10_lay_34 (by decide) ?_
  refine lv_lconst (v := 0) C.1 C.2.1 dX10_lay_35 (by decide) ?_
  refine r_last C w 3 rfl (vinD (by decide)) (vp_updL (vp_updL (vp_updL (vp_updL (vp_updL (vp_updL (vp_updL (vp_updL (vp_updL (vp_updL (vp_updL (vp_updL (vp_updL (vp_updL (vp_updL (vp_updL (vp_updL (fun _ => 0) 0 0) 1 0) 2 0) 3 0) 4 0) 5 0) 6 0) 7 0) 8 0) 9 0) 10 0) 11 0) 12 0) 13 0) 14 0) 15 0) 16 0) rfl [(a0, .inr (10, [.ref a1, .ref a2, .ref a3])), (a1, .inl (cy 1, 4, .inl (upd (upd (upd (upd (upd (fun _ => 0) 0 (-1)) 1 (-1)) 2 (-1)) 3 (-1)) 0 x0))), (a2, .inl (cy 1, 4, .inl (upd (fun _ => 0) 0 x1))), (a3, .inl (cy 2, 160, .inr (.inl (vp_updL (vp_updL (vp_updL (vp_updL (vp_updL (vp_updL (vp_updL (vp_updL (vp_updL (vp_updL (vp_updL (vp_updL (vp_updL (vp_updL (vp_updL (vp_updL (vp_updL (fun _ => 0) 0 0) 1 0) 2 0) 3 0) 4 0) 5 0) 6 0) 7 0) 8 0) 9 0) 10 0) 11 0) 12 0) 13 0) 14 0) 15 0) 16 0))))] rfl dX10_lay_36 (fun H locs w => ?_)
  refine lv_iinc (v := 17) (lv' := [(4, .int 17), (0, .ref a0), (1, .int 0), (2, .int x0), (3, .int x1)]) C.1 C.2.1 dX10_lay_37 hl (k := 0) rfl (by decide) (by decide) rfl (fun ls hl => ?_)
  refine lv_goto (tgt := 17) C.1 C.2.1 dX10_lay_40 (by decide) ?_
  refine lv_iload C.1 C.2.1 dX10_lay_17 (lv_at hl 0 rfl) ?_
  refine lv_bipush (v := 40) C.1 C.2.1 dX10_lay_19 (by decide) ?_
  refine b_icmp_ge_f C (tgt := 43) dX10_lay_21 (by decide) (by decide) ?_
  refine lv_aload_n C.1 C.2.1 dX10_lay_24 rfl (lv_at hl 1 rfl) ?_
  refine r_get C w 0 rfl rfl 2 (by decide) fl_RX10_18 (v := .ref a3) rfl dX10_lay_25 ?_
  refine lv_iload_n C.1 C.2.1 dX10_lay_28 rfl (lv_at hl 2 rfl) ?_
  refine lv_bipush (v := 40) C.1 C.2.1 dX10_lay_29 (by decide) ?_
  refine r_imul C (v := 0) dX10_lay_31 (by decide) ?_
  refine lv_iload C.1 C.2.1 dX10_lay_32 (lv_at hl 0 rfl) ?_
  refine r_iadd C (v := 17) dX10_lay_34 (by decide) ?_
  refine lv_lconst (v := 0) C.1 C.2.1 dX10_lay_35 (by decide) ?_
  refine r_last C w 3 rfl (vinD (by decide)) (vp_updL (vp_updL (vp_updL (vp_updL (vp_updL (vp_updL (vp_updL (vp_updL (vp_updL (vp_updL (vp_updL (vp_updL (vp_updL (vp_updL (vp_updL (vp_updL (vp_updL (vp_updL (fun _ => 0) 0 0) 1 0) 2 0) 3 0) 4 0) 5 0) 6 0) 7 0) 8 0) 9 0) 10 0) 11 0) 12 0) 13 0) 14 0) 15 0) 16 0) 17 0) rfl [(a0, .inr (10, [.ref a1, .ref a2, .ref a3])), (a1, .inl (cy 1, 4, .inl (upd (upd (upd (upd (upd (fun _ => 0) 0 (-1)) 1 (-1)) 2 (-1)) 3 (-1)) 0 x0))), (a2, .inl (cy 1, 4, .inl (upd (fun _ => 0) 0 x1))), (a3, .inl (cy 2, 160, .inr (.inl (vp_updL (vp_updL (vp_updL (vp_updL (vp_updL (vp_updL (vp_updL (vp_updL (vp_updL (vp_updL (vp_updL (vp_updL (vp_updL (vp_updL (vp_updL (vp_updL (vp_updL (vp_updL (fun _ => 0) 0 0) 1 0) 2 0) 3 0) 4 0) 5 0) 6 0) 7 0) 8 0) 9 0) 10 0) 11 0) 12 0) 13 0) 14 0) 15 0) 16 0) 17 0))))] rfl dX10_lay_36 (fun H locs w => ?_)
  refine lv_iinc (v := 18) (lv' := [(4, .int 18), (0, .ref a0), (1, .int 0), (2, .int x0), (3, .int x1)]) C.1 C.2.1 dX10_lay_37 hl (k := 0) rfl (by decide) (by decide) rfl (fun ls hl => ?_)
  refine lv_goto (tgt := 17) C.1 C.2.1 dX10_lay_40 (by decide) ?_
  refine lv_iload C.1 C.2.1 dX10_lay_17 (lv_at hl 0 rfl) ?_
  refine lv_bipush (v := 40) C.1 C.2.1 dX10_lay_19 (by decide) ?_
  refine b_icmp_ge_f C (tgt := 43) dX10_lay_21 (by decide) (by decide) ?_
  refine lv_aload_n C.1 C.2.1 dX10_lay_24 rfl (lv_at hl 1 rfl) ?_
  refine r_get C w 0 rfl rfl 2 (by decide) fl_RX10_18 (v := .ref a3) rfl dX10_lay_25 ?_
  refine lv_iload_n C.1 C.2.1 dX10_lay_28 rfl (lv_at hl 2 rfl) ?_
  refine lv_bipush (v := 40) C.1 C.2.1 dX10_lay_29 (by decide) ?_
  refine r_imul C (v := 0) dX10_lay_31 (by decide) ?_
  refine lv_iload C.1 C.2.1 dX10_lay_32 (lv_at hl 0 rfl) ?_
  refine r_iadd C (v := 18) dX10_lay_34 (by decide) ?_
  refine lv_lconst (v := 0) C.1 C.2.1 dX10_lay_35 (by decide) ?_
  refine r_last C w 3 rfl (vinD (by decide)) (vp_updL (vp_updL (vp_updL (vp_updL (vp_updL (vp_updL (vp_updL (vp_updL (vp_updL (vp_updL (vp_updL (vp_updL (vp_updL (vp_updL (vp_updL (vp_updL (vp_updL (vp_updL (vp_updL (fun _ => 0) 0 0) 1 0) 2 0) 3 0) 4 0) 5 0) 6 0) 7 0) 8 0) 9 0) 10 0) 11 0) 12 0) 13 0) 14 0) 15 0) 16 0) 17 0) 18 0) rfl [(a0, .inr (10, [.ref a1, .ref a2, .ref a3])), (a1, .inl (cy 1, 4, .inl (upd (upd (upd (upd (upd (fun _ => 0) 0 (-1)) 1 (-1)) 2 (-1)) 3 (-1)) 0 x0))), (a2, .inl (cy 1, 4, .inl (upd (fun _ => 0) 0 x1))), (a3, .inl (cy 2, 160, .inr (.inl (vp_updL (vp_updL (vp_updL (vp_updL (vp_updL (vp_updL (vp_updL (vp_updL (vp_updL (vp_updL (vp_updL (vp_updL (vp_updL (vp_updL (vp_updL (vp_updL (vp_updL (vp_updL (vp_updL (fun _ => 0) 0 0) 1 0) 2 0) 3 0) 4 0) 5 0) 6 0) 7 0) 8 0) 9 0) 10 0) 11 0) 12 0) 13 0) 14 0) 15 0) 16 0) 17 0) 18 0))))] rfl dX10_lay_36 (fun H locs w => ?_)
  refine lv_iinc (v := 19) (lv' := [(4, .int 19), (0, .ref a0), (1, .int 0), (2, .int x0), (3, .int x1)]) C.1 C.2.1 dX10_lay_37 hl (k := 0) rfl (by decide) (by decide) rfl (fun ls hl => ?_)
  refine lv_goto (tgt := 17) C.1 C.2.1 dX10_lay_40 (by decide) ?_
  refine lv_iload C.1 C.2.1 dX10_lay_17 (lv_at hl 0 rfl) ?_
  refine lv_bipush (v := 40) C.1 C.2.1 dX10_lay_19 (by decide) ?_
  refine b_icmp_ge_f C (tgt := 43) dX10_lay_21 (by decide) (by decide) ?_
  refine lv_aload_n C.1 C.2.1 dX10_lay_24 rfl (lv_at hl 1 rfl) ?_
  refine r_get C w 0 rfl rfl 2 (by decide) fl_RX10_18 (v := .ref a3) rfl dX10_lay_25 ?_
  refine lv_iload_n C.1 C.2.1 dX10_lay_28 rfl (lv_at hl 2 rfl) ?_
  refine lv_bipush (v := 40) C.1 C.2.1 dX10_lay_29 (by decide) ?_
  refine r_imul C (v := 0) dX10_lay_31 (by decide) ?_
  refine lv_iload C.1 C.2.1 dX10_lay_32 (lv_at hl 0 rfl) ?_
  refine r_iadd C (v := 19) dX10_lay_34 (by decide) ?_
  refine lv_lconst (v := 0) C.1 C.2.1 dX10_lay_35 (by decide) ?_
  refine r_last C w 3 rfl (vinD (by decide)) (vp_updL (vp_updL (vp_updL (vp_updL (vp_updL (vp_updL (vp_updL (vp_updL (vp_updL (vp_updL (vp_updL (vp_updL (vp_updL (vp_updL (vp_updL (vp_updL (vp_updL (vp_updL (vp_updL (vp_updL (fun _ => 0) 0 0) 1 0) 2 0) 3 0) 4 0) 5 0) 6 0) 7 0) 8 0) 9 0) 10 0) 11 0) 12 0) 13 0) 14 0) 15 0) 16 0) 17 0) 18 0) 19 0) rfl [(a0, .inr (10, [.ref a1, .ref a2, .ref a3])), (a1, .inl (cy 1, 4, .inl (upd (upd (upd (upd (upd (fun _ => 0) 0 (-1)) 1 (-1)) 2 (-1)) 3 (-1)) 0 x0))), (a2, .inl (cy 1, 4, .inl (upd (fun _ => 0) 0 x1))), (a3, .inl (cy 2, 160, .inr (.inl (vp_updL (vp_updL (vp_updL (vp_updL (vp_updL (vp_updL (vp_updL (vp_updL (vp_updL (vp_updL (vp_updL (vp_updL (vp_updL (vp_updL (vp_updL (vp_updL (vp_updL (vp_updL (vp_updL (vp_updL (fun _ => 0) 0 0) 1 0) 2 0) 3 0) 4 0) 5 0) 6 0) 7 0) 8 0) 9 0) 10 0) 11 0) 12 0) 13 0) 14 0) 15 0) 16 0) 17 0) 18 0) 19 0))))] rfl dX10_lay_36 (fun H locs w => ?_)
  refine lv_iinc (v := 20) (lv' := [(4, .int 20), (0, .ref a0), (1, .int 0), (2, .int x0), (3, .int x1)]) C.1 C.2.1 dX10_lay_37 hl (k := 0) rfl (by decide) (by decide) rfl (fun ls hl => ?_)
  refine lv_goto (tgt := 17) C.1 C.2.1 dX10_lay_40 (by decide) ?_
  refine lv_iload C.1 C.2.1 dX10_lay_17 (lv_at hl 0 rfl) ?_
  refine lv_bipush (v := 40) C.1 C.2.1 dX10_lay_19 (by decide) ?_
  refine b_icmp_ge_f C (tgt := 43) dX10_lay_21 (by decide) (by decide) ?_
  refine lv_aload_n C.1 C.2.1 dX10_lay_24 rfl (lv_at hl 1 rfl) ?_
  refine r_get C w 0 rfl rfl 2 (by decide) fl_RX10_18 (v := .ref a3) rfl dX10_lay_25 ?_
  refine lv_iload_n C.1 C.2.1 dX10_lay_28 rfl (lv_at hl 2 rfl) ?_
  refine lv_bipush (v := 40) C.1 C.2.1 dX10_lay_29 (by decide) ?_
  refine r_imul C (v := 0) dX10_lay_31 (by decide) ?_
  refine lv_iload C.1 C.2.1 dX10_lay_32 (lv_at hl 0 rfl) ?_
  refine r_iadd C (v := 20) dX10_lay_34 (by decide) ?_
  refine lv_lconst (v := 0) C.1 C.2.1 dX10_lay_35 (by decide) ?_
  refine r_last C w 3 rfl (vinD (by decide)) (vp_updL (vp_updL (vp_updL (vp_updL (vp_updL (vp_updL (vp_updL (vp_updL (vp_updL (vp_updL (vp_updL (vp_updL (vp_updL (vp_updL (vp_updL (vp_updL (vp_updL (vp_updL (vp_updL (vp_updL (vp_updL (fun _ => 0) 0 0) 1 0) 2 0) 3 0) 4 0) 5 0) 6 0) 7 0) 8 0) 9 0) 10 0) 11 0) 12 0) 13 0) 14 0) 15 0) 16 0) 17 0) 18 0) 19 0) 20 0) rfl [(a0, .inr (10, [.ref a1, .ref a2, .ref a3])), (a1, .inl (cy 1, 4, .inl (upd (upd (upd (upd (upd (fun _ => 0) 0 (-1)) 1 (-1)) 2 (-1)) 3 (-1)) 0 x0))), (a2, .inl (cy 1, 4, .inl (upd (fun _ => 0) 0 x1))), (a3, .inl (cy 2, 160, .inr (.inl (vp_updL (vp_updL (vp_updL (vp_updL (vp_updL (vp_updL (vp_updL (vp_updL (vp_updL (vp_updL (vp_updL (vp_updL (vp_updL (vp_updL (vp_updL (vp_updL (vp_updL (vp_updL (vp_updL (vp_updL (vp_updL (fun _ => 0) 0 0) 1 0) 2 0) 3 0) 4 0) 5 0) 6 0) 7 0) 8 0) 9 0) 10 0) 11 0) 12 0) 13 0) 14 0) 15 0) 16 0) 17 0) 18 0) 19 0) 20 0))))] rfl dX10_lay_36 (fun H locs w => ?_)
  refine lv_iinc (v := 21) (lv' := [(4, .int 21), (0, .ref a0), (1, .int 0), (2, .int x0), (3, .int x1)]) C.1 C.2.1 dX10_lay_37 hl (k := 0) rfl (by decide) (by decide) rfl (fun ls hl => ?_)
  refine lv_goto (tgt := 17) C.1 C.2.1 dX10_lay_40 (by decide) ?_
  refine lv_iload C.1 C.2.1 dX10_lay_17 (lv_at hl 0 rfl) ?_
  refine lv_bipush (v := 40) C.1 C.2.1 dX10_lay_19 (by decide) ?_
  refine b_icmp_ge_f C (tgt := 43) dX10_lay_21 (by decide) (by decide) ?_
  refine lv_aload_n C.1 C.2.1 dX10_lay_24 rfl (lv_at hl 1 rfl) ?_
  refine r_get C w 0 rfl rfl 2 (by decide) fl_RX10_18 (v := .ref a3) rfl dX10_lay_25 ?_
  refine lv_iload_n C.1 C.2.1 dX10_lay_28 rfl (lv_at hl 2 rfl) ?_
  refine lv_bipush (v := 40) C.1 C.2.1 dX10_lay_29 (by decide) ?_
  refine r_imul C (v := 0) dX10_lay_31 (by decide) ?_
  refine lv_iload C.1 C.2.1 dX10_lay_32 (lv_at hl 0 rfl) ?_
  refine r_iadd C (v := 21) dX10_lay_34 (by decide) ?_
  refine lv_lconst (v := 0) C.1 C.2.1 dX10_lay_35 (by decide) ?_
  refine r_last C w 3 rfl (vinD (by decide)) (vp_updL (vp_updL (vp_updL (vp_updL (vp_updL (vp_updL (vp_updL (vp_updL (vp_updL (vp_updL (vp_updL (vp_updL (vp_updL (vp_updL (vp_updL (vp_updL (vp_updL (vp_updL (vp_updL (vp_updL (vp_updL (vp_updL (fun _ => 0) 0 0) 1 0) 2 0) 3 0) 4 0) 5 0) 6 0) 7 0) 8 0) 9 0) 10 0) 11 0) 12 0) 13 0) 14 0) 15 0) 16 0) 17 0) 18 0) 19 0) 20 0) 21 0) rfl [(a0, .inr (10, [.ref a1, .ref a2, .ref a3])), (a1, .inl (cy 1, 4, .inl (upd (upd (upd (upd (upd (fun _ => 0) 0 (-1)) 1 (-1)) 2 (-1)) 3 (-1)) 0 x0))), (a2, .inl (cy 1, 4, .inl (upd (fun _ => 0) 0 x1))), (a3, .inl (cy 2, 160, .inr (.inl (vp_updL (vp_updL (vp_updL (vp_updL (vp_updL (vp_updL (vp_updL (vp_updL (vp_updL (vp_updL (vp_updL (vp_updL (vp_updL (vp_updL (vp_updL (vp_updL (vp_updL (vp_updL (vp_updL (vp_updL (vp_updL (vp_updL (fun _ => 0) 0 0) 1 0) 2 0) 3 0) 4 0) 5 0) 6 0) 7 0) 8 0) 9 0) 10 0) 11 0) 12 0) 13 0) 14 0) 15 0) 16 0) 17 0) 18 0) 19 0) 20 0) 21 0))))] rfl dX10_lay_36 (fun H locs w => ?_)
  refine lv_iinc (v := 22) (lv' := [(4, .int 22), (0, .ref a0), (1, .int 0), (2, .int x0), (3, .int x1)]) C.1 C.2.1 dX10_lay_37 hl (k := 0) rfl (by decide) (by decide) rfl (fun ls hl => ?_)
  refine lv_goto (tgt := 17) C.1 C.2.1 dX10_lay_40 (by decide) ?_
  refine lv_iload C.1 C.2.1 dX10_lay_17 (lv_at hl 0 rfl) ?_
  refine lv_bipush (v := 40) C.1 C.2.1 dX10_lay_19 (by decide) ?_
  refine b_icmp_ge_f C (tgt := 43) dX10_lay_21 (by decide) (by decide) ?_
  refine lv_aload_n C.1 C.2.1 dX10_lay_24 rfl (lv_at hl 1 rfl) ?_
  refine r_get C w 0 rfl rfl 2 (by decide) fl_RX10_18 (v := .ref a3) rfl dX10_lay_25 ?_
  refine lv_iload_n C.1 C.2.1 dX10_lay_28 rfl (lv_at hl 2 rfl) ?_
  refine lv_bipush (v := 40) C.1 C.2.1 dX10_lay_29 (by decide) ?_
  refine r_imul C (v := 0) dX10_lay_31 (by decide) ?_
  refine lv_iload C.1 C.2.1 dX10_lay_32 (lv_at hl 0 rfl) ?_
  refine r_iadd C (v := 22) dX10_lay_34 (by decide) ?_
  refine lv_lconst (v := 0) C.1 C.2.1 dX10_lay_35 (by decide) ?_
  refine r_last C w 3 rfl (vinD (by decide)) (vp_updL (vp_updL (vp_updL (vp_updL (vp_updL (vp_updL (vp_updL (vp_updL (vp_updL (vp_updL (vp_updL (vp_updL (vp_updL (vp_updL (vp_updL (vp_updL (vp_updL (vp_updL (vp_updL (vp_updL (vp_updL (vp_updL (vp_updL (fun _ => 0) 0 0) 1 0) 2 0) 3 0) 4 0) 5 0) 6 0) 7 0) 8 0) 9 0) 10 0) 11 0) 12 0) 13 0) 14 0) 15 0) 16 0) 17 0) 18 0) 19 0) 20 0) 21 0) 22 0) rfl [(a0, .inr (10, [.ref a1, .ref a2, .ref a3])), (a1, .inl (cy 1, 4, .inl (upd (upd (upd (upd (upd (fun _ => 0) 0 (-1)) 1 (-1)) 2 (-1)) 3 (-1)) 0 x0))), (a2, .inl (cy 1, 4, .inl (upd (fun _ => 0) 0 x1))), (a3, .inl (cy 2, 160, .inr (.inl (vp_updL (vp_updL (vp_updL (vp_updL (vp_updL (vp_updL (vp_updL (vp_updL (vp_updL (vp_updL (vp_updL (vp_updL (vp_updL (vp_updL (vp_updL (vp_updL (vp_updL (vp_updL (vp_updL (vp_updL (vp_updL (vp_updL (vp_updL (fun _ => 0) 0 0) 1 0) 2 0) 3 0) 4 0) 5 0) 6 0) 7 0) 8 0) 9 0) 10 0) 11 0) 12 0) 13 0) 14 0) 15 0) 16 0) 17 0) 18 0) 19 0) 20 0) 21 0) 22 0))))] rfl dX10_lay_36 (fun H locs w => ?_)
  refine lv_iinc (v := 23) (lv' := [(4, .int 23), (0, .ref a0), (1, .int 0), (2, .int x0), (3, .int x1)]) C.1 C.2.1 dX10_lay_37 hl (k := 0) rfl (by decide) (by decide) rfl (fun ls hl => ?_)
  refine lv_goto (tgt := 17) C.1 C.2.1 dX10_lay_40 (by decide) ?_
  refine lv_iload C.1 C.2.1 dX10_lay_17 (lv_at hl 0 rfl) ?_
  refine lv_bipush (v := 40) C.1 C.2.1 dX10_lay_19 (by decide) ?_
  refine b_icmp_ge_f C (tgt := 43) dX10_lay_21 (by decide) (by decide) ?_
  refine lv_aload_n C.1 C.2.1 dX10_lay_24 rfl (lv_at hl 1 rfl) ?_
  refine r_get C w 0 rfl rfl 2 (by decide) fl_RX10_18 (v := .ref a3) rfl dX10_lay_25 ?_
  refine lv_iload_n C.1 C.2.1 dX10_lay_28 rfl (lv_at hl 2 rfl) ?_
  refine lv_bipush (v := 40) C.1 C.2.1 dX10_lay_29 (by decide) ?_
  refine r_imul C (v := 0) dX10_lay_31 (by decide) ?_
  refine lv_iload C.1 C.2.1 dX10_lay_32 (lv_at hl 0 rfl) ?_
  refine r_iadd C (v := 23) dX10_lay_34 (by decide) ?_
  refine lv_lconst (v := 0) C.1 C.2.1 dX10_lay_35 (by decide) ?_
  refine r_last C w 3 rfl (vinD (by decide)) (vp_updL (vp_updL (vp_updL (vp_updL (vp_updL (vp_updL (vp_updL (vp_updL (vp_updL (vp_updL (vp_updL (vp_updL (vp_updL (vp_updL (vp_updL (vp_updL (vp_updL (vp_updL (vp_updL (vp_updL (vp_updL (vp_updL (vp_updL (vp_updL (fun _ => 0) 0 0) 1 0) 2 0) 3 0) 4 0) 5 0) 6 0) 7 0) 8 0) 9 0) 10 0) 11 0) 12 0) 13 0) 14 0) 15 0) 16 0) 17 0) 18 0) 19 0) 20 0) 21 0) 22 0) 23 0) rfl [(a0, .inr (10, [.ref a1, .ref a2, .ref a3])), (a1, .inl (cy 1, 4, .inl (upd (upd (upd (upd (upd (fun _ => 0) 0 (-1)) 1 (-1)) 2 (-1)) 3 (-1)) 0 x0))), (a2, .inl (cy 1, 4, .inl (upd (fun _ => 0) 0 x1))), (a3, .inl (cy 2, 160, .inr (.inl (vp_updL (vp_updL (vp_updL (vp_updL (vp_updL (vp_updL (vp_updL (vp_updL (vp_updL (vp_updL (vp_updL (vp_updL (vp_updL (vp_updL (vp_updL (vp_updL (vp_updL (vp_updL (vp_updL (vp_updL (vp_updL (vp_updL (vp_updL (vp_updL (fun _ => 0) 0 0) 1 0) 2 0) 3 0) 4 0) 5 0) 6 0) 7 0) 8 0) 9 0) 10 0) 11 0) 12 0) 13 0) 14 0) 15 0) 16 0) 17 0) 18 0) 19 0) 20 0) 21 0) 22 0) 23 0))))] rfl dX10_lay_36 (fun H locs w => ?_)
  refine lv_iinc (v := 24) (lv' := [(4, .int 24), (0, .ref a0), (1, .int 0), (2, .int x0), (3, .int x1)]) C.1 C.2.1 dX10_lay_37 hl (k := 0) rfl (by decide) (by decide) rfl (fun ls hl => ?_)
  refine lv_goto (tgt := 17) C.1 C.2.1 dX10_lay_40 (by decide) ?_
  refine lv_iload C.1 C.2.1 dX10_lay_17 (lv_at hl 0 rfl) ?_
  refine lv_bipush (v := 40) C.1 C.2.1 dX10_lay_19 (by decide) ?_
  refine b_icmp_ge_f C (tgt := 43) dX10_lay_21 (by decide) (by decide) ?_
  refine lv_aload_n C.1 C.2.1 dX10_lay_24 rfl (lv_at hl 1 rfl) ?_
  refine r_get C w 0 rfl rfl 2 (by decide) fl_RX10_18 (v := .ref a3) rfl dX10_lay_25 ?_
  refine lv_iload_n C.1 C.2.1 dX10_lay_28 rfl (lv_at hl 2 rfl) ?_
  refine lv_bipush (v := 40) C.1 C.2.1 dX10_lay_29 (by decide) ?_
  refine r_imul C (v := 0) dX10_lay_31 (by decide) ?_
  refine lv_iload C.1 C.2.1 dX10_lay_32 (lv_at hl 0 rfl) ?_
  refine r_iadd C (v := 24) dX10_lay_34 (by decide) ?_
  refine lv_lconst (v := 0) C.1 C.2.1 dX10_lay_35 (by decide) ?_
  refine r_last C w 3 rfl (vinD (by decide)) (vp_updL (vp_updL (vp_updL (vp_updL (vp_updL (vp_updL (vp_updL (vp_updL (vp_updL (vp_updL (vp_updL (vp_updL (vp_updL (vp_updL (vp_updL (vp_updL (vp_updL (vp_updL (vp_updL (vp_updL (vp_updL (vp_updL (vp_updL (vp_updL (vp_updL (fun _ => 0) 0 0) 1 0) 2 0) 3 0) 4 0) 5 0) 6 0) 7 0) 8 0) 9 0) 10 0) 11 0) 12 0) 13 0) 14 0) 15 0) 16 0) 17 0) 18 0) 19 0) 20 0) 21 0) 22 0) 23 0) 24 0) rfl [(a0, .inr (10, [.ref a1, .ref a2, .ref a3])), (a1, .inl (cy 1, 4, .inl (upd (upd (upd (upd (upd (fun _ => 0) 0 (-1)) 1 (-1)) 2 (-1)) 3 (-1)) 0 x0))), (a2, .inl (cy 1, 4, .inl (upd (fun _ => 0) 0 x1))), (a3, .inl (cy 2, 160, .inr (.inl (vp_updL (vp_updL (vp_updL (vp_updL (vp_updL (vp_updL (vp_updL (vp_updL (vp_updL (vp_updL (vp_updL (vp_updL (vp_updL (vp_updL (vp_updL (vp_updL (vp_updL (vp_updL (vp_updL (vp_updL (vp_updL (vp_updL (vp_updL (vp_updL (vp_updL (fun _ => 0) 0 0) 1 0) 2 0) 3 0) 4 0) 5 0) 6 0) 7 0) 8 0) 9 0) 10 0) 11 0) 12 0) 13 0) 14 0) 15 0) 16 0) 17 0) 18 0) 19 0) 20 0) 21 0) 22 0) 23 0) 24 0))))] rfl dX10_lay_36 (fun H locs w => ?_)
  refine lv_iinc (v := 25) (lv' := [(4, .int 25), (0, .ref a0), (1, .int 0), (2, .int x0), (3, .int x1)]) C.1 C.2.1 dX10_lay_37 hl (k := 0) rfl (by decide) (by decide) rfl (fun ls hl => ?_)
  refine lv_goto (tgt := 17) C.1 C.2.1 dX10_lay_40 (by decide) ?_
  refine lv_iload C.1 C.2.1 dX10_lay_17 (lv_at hl 0 rfl) ?_
  refine lv_bipush (v := 40) C.1 C.2.1 dX10_lay_19 (by decide) ?_
  refine b_icmp_ge_f C (tgt := 43) dX10_lay_21 (by decide) (by decide) ?_
  refine lv_aload_n C.1 C.2.1 dX10_lay_24 rfl (lv_at hl 1 rfl) ?_
  refine r_get C w 0 rfl rfl 2 (by decide) fl_RX10_18 (v := .ref a3) rfl dX10_lay_25 ?_
  refine lv_iload_n C.1 C.2.1 dX10_lay_28 rfl (lv_at hl 2 rfl) ?_
  refine lv_bipush (v := 40) C.1 C.2.1 dX10_lay_29 (by decide) ?_
  refine r_imul C (v := 0) dX10_lay_31 (by decide) ?_
  refine lv_iload C.1 C.2.1 dX10_lay_32 (lv_at hl 0 rfl) ?_
  refine r_iadd C (v := 25) dX10_lay_34 (by decide) ?_
  refine lv_lconst (v := 0) C.1 C.2.1 dX10_lay_35 (by decide) ?_
  refine r_last C w 3 rfl (vinD (by decide)) (vp_updL (vp_updL (vp_updL (vp_updL (vp_updL (vp_updL (vp_updL (vp_updL (vp_updL (vp_updL (vp_updL (vp_updL (vp_updL (vp_updL (vp_updL (vp_updL (vp_updL (vp_updL (vp_updL (vp_updL (vp_updL (vp_updL (vp_updL (vp_updL (vp_updL (vp_updL (fun _ => 0) 0 0) 1 0) 2 0) 3 0) 4 0) 5 0) 6 0) 7 0) 8 0) 9 0) 10 0) 11 0) 12 0) 13 0) 14 0) 15 0) 16 0) 17 0) 18 0) 19 0) 20 0) 21 0) 22 0) 23 0) 24 0) 25 0) rfl [(a0, .inr (10, [.ref a1, .ref a2, .ref a3])), (a1, .inl (cy 1, 4, .inl (upd (upd (upd (upd (upd (fun _ => 0) 0 (-1)) 1 (-1)) 2 (-1)) 3 (-1)) 0 x0))), (a2, .inl (cy 1, 4, .inl (upd (fun _ => 0) 0 x1))), (a3, .inl (cy 2, 160, .inr (.inl (vp_updL (vp_updL (vp_updL (vp_updL (vp_updL (vp_updL (vp_updL (vp_updL (vp_updL (vp_updL (vp_updL (vp_updL (vp_updL (vp_updL (vp_updL (vp_updL (vp_updL (vp_updL (vp_updL (vp_updL (vp_updL (vp_updL (vp_updL (vp_updL (vp_updL (vp_updL (fun _ => 0) 0 0) 1 0) 2 0) 3 0) 4 0) 5 0) 6 0) 7 0) 8 0) 9 0) 10 0) 11 0) 12 0) 13 0) 14 0) 15 0) 16 0) 17 0) 18 0) 19 0) 20 0) 21 0) 22 0) 23 0) 24 0) 25 0))))] rfl dX10_lay_36 (fun H locs w => ?_)
  refine lv_iinc (v := 26) (lv' := [(4, .int 26), (0, .ref a0), (1, .int 0), (2, .int x0), (3, .int x1)]) C.1 C.2.1 dX10_lay_37 hl (k := 0) rfl (by decide) (by decide) rfl (fun ls hl => ?_)
  refine lv_goto (tgt := 17) C.1 C.2.1 dX10_lay_40 (by decide) ?_
  refine lv_iload C.1 C.2.1 dX10_lay_17 (lv_at hl 0 rfl) ?_
  refine lv_bipush (v := 40) C.1 C.2.1 dX10_lay_19 (by decide) ?_
  refine b_icmp_ge_f C (tgt := 43) dX10_lay_21 (by decide) (by decide) ?_
  refine lv_aload_n C.1 C.2.1 dX10_lay_24 rfl (lv_at hl 1 rfl) ?_
  refine r_get C w 0 rfl rfl 2 (by decide) fl_RX10_18 (v := .ref a3) rfl dX10_lay_25 ?_
  refine lv_iload_n C.1 C.2.1 dX10_lay_28 rfl (lv_at hl 2 rfl) ?_
  refine lv_bipush (v := 40) C.1 C.2.1 dX10_lay_29 (by decide) ?_
  refine r_imul C (v := 0) dX10_lay_31 (by decide) ?_
  refine lv_iload C.1 C.2.1 dX10_lay_32 (lv_at hl 0 rfl) ?_
  refine r_iadd C (v := 26) dX10_lay_34 (by decide) ?_
  refine lv_lconst (v := 0) C.1 C.2.1 dX10_lay_35 (by decide) ?_
  refine r_last C w 3 rfl (vinD (by decide)) (vp_updL (vp_updL (vp_updL (vp_updL (vp_updL (vp_updL (vp_updL (vp_updL (vp_updL (vp_updL (vp_updL (vp_updL (vp_updL (vp_updL (vp_updL (vp_updL (vp_updL (vp_updL (vp_updL (vp_updL (vp_updL (vp_updL (vp_updL (vp_updL (vp_updL (vp_updL (vp_updL (fun _ => 0) 0 0) 1 0) 2 0) 3 0) 4 0) 5 0) 6 0) 7 0) 8 0) 9 0) 10 0) 11 0) 12 0) 13 0) 14 0) 15 0) 16 0) 17 0) 18 0) 19 0) 20 0) 21 0) 22 0) 23 0) 24 0) 25 0) 26 0) rfl [(a0, .inr (10, [.ref a1, .ref a2, .ref a3])), (a1, .inl (cy 1, 4, .inl (upd (upd (upd (upd (upd (fun _ => 0) 0 (-1)) 1 (-1)) 2 (-1)) 3 (-1)) 0 x0))), (a2, .inl (cy 1, 4, .inl (upd (fun _ => 0) 0 x1))), (a3, .inl (cy 2, 160, .inr (.inl (vp_updL (vp_updL (vp_updL (vp_updL (vp_updL (vp_updL (vp_updL (vp_updL (vp_updL (vp_updL (vp_updL (vp_updL (vp_updL (vp_updL (vp_updL (vp_updL (vp_updL (vp_updL (vp_updL (vp_updL (vp_updL (vp_updL (vp_updL (vp_updL (vp_updL (vp_updL (vp_updL (fun _ => 0) 0 0) 1 0) 2 0) 3 0) 4 0) 5 0) 6 0) 7 0) 8 0) 9 0) 10 0) 11 0) 12 0) 13 0) 14 0) 15 0) 16 0) 17 0) 18 0) 19 0) 20 0) 21 0) 22 0) 23 0) 24 0) 25 0) 26 0))))] rfl dX10_lay_36 (fun H locs w => ?_)
  refine lv_iinc (v := 27) (lv' := [(4, .int 27), (0, .ref a0), (1, .int 0), (2, .int x0), (3, .int x1)]) C.1 C.2.1 dX10_lay_37 hl (k := 0) rfl (by decide) (by decide) rfl (fun ls hl => ?_)
  refine lv_goto (tgt := 17) C.1 C.2.1 dX10_lay_40 (by decide) ?_
  refine lv_iload C.1 C.2.1 dX10_lay_17 (lv_at hl 0 rfl) ?_
  refine lv_bipush (v := 40) C.1 C.2.1 dX10_lay_19 (by decide) ?_
  refine b_icmp_ge_f C (tgt := 43) dX10_lay_21 (by decide) (by decide) ?_
  refine lv_aload_n C.1 C.2.1 dX10_lay_24 rfl (lv_at hl 1 rfl) ?_
  refine r_get C w 0 rfl rfl 2 (by decide) fl_RX10_18 (v := .ref a3) rfl dX10_lay_25 ?_
  refine lv_iload_n C.1 C.2.1 dX10_lay_28 rfl (lv_at hl 2 rfl) ?_
  refine lv_bipush (v := 40) C.1 C.2.1 dX10_lay_29 (by decide) ?_
  refine r_imul C (v := 0) dX10_lay_31 (by decide) ?_
  refine lv_iload C.1 C.2.1 dX10_lay_32 (lv_at hl 0 rfl) ?_
  refine r_iadd C (v := 27) dX10_lay_34 (by decide) ?_
  refine lv_lconst (v := 0) C.1 C.2.1 dX10_lay_35 (by decide) ?_
  refine r_last C w 3 rfl (vinD (by decide)) (vp_updL (vp_updL (vp_updL (vp_updL (vp_updL (vp_updL (vp_updL (vp_updL (vp_updL (vp_updL (vp_updL (vp_updL (vp_updL (vp_updL (vp_updL (vp_updL (vp_updL (vp_updL (vp_updL (vp_updL (vp_updL (vp_updL (vp_updL (vp_updL (vp_updL (vp_updL (vp_updL (vp_updL (fun _ => 0) 0 0) 1 0) 2 0) 3 0) 4 0) 5 0) 6 0) 7 0) 8 0) 9 0) 10 0) 11 0) 12 0) 13 0) 14 0) 15 0) 16 0) 17 0) 18 0) 19 0) 20 0) 21 0) 22 0) 23 0) 24 0) 25 0) 26 0) 27 0) rfl [(a0, .inr (10, [.ref a1, .ref a2, .ref a3])), (a1, .inl (cy 1, 4, .inl (upd (upd (upd (upd (upd (fun _ => 0) 0 (-1)) 1 (-1)) 2 (-1)) 3 (-1)) 0 x0))), (a2, .inl (cy 1, 4, .inl (upd (fun _ => 0) 0 x1))), (a3, .inl (cy 2, 160, .inr (.inl (vp_updL (vp_updL (vp_updL (vp_updL (vp_updL (vp_updL (vp_updL (vp_updL (vp_updL (vp_updL (vp_updL (vp_updL (vp_updL (vp_updL (vp_updL (vp_updL (vp_updL (vp_updL (vp_updL (vp_updL (vp_updL (vp_updL (vp_updL (vp_updL (vp_updL (vp_updL (vp_updL (vp_updL (fun _ => 0) 0 0) 1 0) 2 0) 3 0) 4 0) 5 0) 6 0) 7 0) 8 0) 9 0) 10 0) 11 0) 12 0) 13 0) 14 0) 15 0) 16 0) 17 0) 18 0) 19 0) 20 0) 21 0) 22 0) 23 0) 24 0) 25 0) 26 0) 27 0))))] rfl dX10_lay_36 (fun H locs w => ?_)
  refine lv_iinc (v := 28) (lv' := [(4, .int 28), (0, .ref a0), (1, .int 0), (2, .int x0), (3, .int x1)]) C.1 C.2.1 dX10_lay_37 hl (k := 0) rfl (by decide) (by decide) rfl (fun ls hl => ?_)
  refine lv_goto (tgt := 17) C.1 C.2.1 dX10_lay_40 (by decide) ?_
  refine lv_iload C.1 C.2.1 dX10_lay_17 (lv_at hl 0 rfl) ?_
  refine lv_bipush (v := 40) C.1 C.2.1 dX10_lay_19 (by decide) ?_
  refine b_icmp_ge_f C (tgt := 43) dX10_lay_21 (by decide) (by decide) ?_
  refine lv_aload_n C.1 C.2.1 dX10_lay_24 rfl (lv_at hl 1 rfl) ?_
  refine r_get C w 0 rfl rfl 2 (by decide) fl_RX10_18 (v := .ref a3) rfl dX10_lay_25 ?_
  refine lv_iload_n C.1 C.2.1 dX10_lay_28 rfl (lv_at hl 2 rfl) ?_
  refine lv_bipush (v := 40) C.1 C.2.1 dX10_lay_29 (by decide) ?_
  refine r_imul C (v := 0) dX10_lay_31 (by decide) ?_
  refine lv_iload C.1 C.2.1 dX10_lay_32 (lv_at hl 0 rfl) ?_
  refine r_iadd C (v := 28) dX10_lay_34 (by decide) ?_
  refine lv_lconst (v := 0) C.1 C.2.1 dX10_lay_35 (by decide) ?_
  refine r_last C w 3 rfl (vinD (by decide)) (vp_updL (vp_updL (vp_updL (vp_updL (vp_updL (vp_updL (vp_updL (vp_updL (vp_updL (vp_updL (vp_updL (vp_updL (vp_updL (vp_updL (vp_updL (vp_updL (vp_updL (vp_updL (vp_updL (vp_updL (vp_updL (vp_updL (vp_updL (vp_updL (vp_updL (vp_updL (vp_updL (vp_updL (vp_updL (fun _ => 0) 0 0) 1 0) 2 0) 3 0) 4 0) 5 0) 6 0) 7 0) 8 0) 9 0) 10 0) 11 0) 12 0) 13 0) 14 0) 15 0) 16 0) 17 0) 18 0) 19 0) 20 0) 21 0) 22 0) 23 0) 24 0) 25 0) 26 0) 27 0) 28 0) rfl [(a0, .inr (10, [.ref a1, .ref a2, .ref a3])), (a1, .inl (cy 1, 4, .inl (upd (upd (upd (upd (upd (fun _ => 0) 0 (-1)) 1 (-1)) 2 (-1)) 3 (-1)) 0 x0))), (a2, .inl (cy 1, 4, .inl (upd (fun _ => 0) 0 x1))), (a3, .inl (cy 2, 160, .inr (.inl (vp_updL (vp_updL (vp_updL (vp_updL (vp_updL (vp_updL (vp_updL (vp_updL (vp_updL (vp_updL (vp_updL (vp_updL (vp_updL (vp_updL (vp_updL (vp_updL (vp_updL (vp_updL (vp_updL (vp_updL (vp_updL (vp_updL (vp_updL (vp_updL (vp_updL (vp_updL (vp_updL (vp_updL (vp_updL (fun _ => 0) 0 0) 1 0) 2 0) 3 0) 4 0) 5 0) 6 0) 7 0) 8 0) 9 0) 10 0) 11 0) 12 0) 13 0) 14 0) 15 0) 16 0) 17 0) 18 0) 19 0) 20 0) 21 0) 22 0) 23 0) 24 0) 25 0) 26 0) 27 0) 28 0))))] rfl dX10_lay_36 (fun H locs w => ?_)
  refine lv_iinc (v := 29) (lv' := [(4, .int 29), (0, .ref a0), (1, .int 0), (2, .int x0), (3, .int x1)]) C.1 C.2.1 dX10_lay_37 hl (k := 0) rfl (by decide) (by decide) rfl (fun ls hl => ?_)
  refine lv_goto (tgt := 17) C.1 C.2.1 dX10_lay_40 (by decide) ?_
  refine lv_iload C.1 C.2.1 dX10_lay_17 (lv_at hl 0 rfl) ?_
  refine lv_bipush (v := 40) C.1 C.2.1 dX10_lay_19 (by decide) ?_
  refine b_icmp_ge_f C (tgt := 43) dX10_lay_21 (by decide) (by decide) ?_
  refine lv_aload_n C.1 C.2.1 dX10_lay_24 rfl (lv_at hl 1 rfl) ?_
  refine r_get C w 0 rfl rfl 2 (by decide) fl_RX10_18 (v := .ref a3) rfl dX10_lay_25 ?_
  refine lv_iload_n C.1 C.2.1 dX10_lay_28 rfl (lv_at hl 2 rfl) ?_
  refine lv_bipush (v := 40) C.1 C.2.1 dX10_lay_29 (by decide) ?_
  refine r_imul C (v := 0) dX10_lay_31 (by decide) ?_
  refine lv_iload C.1 C.2.1 dX10_lay_32 (lv_at hl 0 rfl) ?_
  refine r_iadd C (v := 29) dX10_lay_34 (by decide) ?_
  refine lv_lconst (v := 0) C.1 C.2.1 dX10_lay_35 (by decide) ?_
  refine r_last C w 3 rfl (vinD (by decide)) (vp_updL (vp_updL (vp_updL (vp_updL (vp_updL (vp_updL (vp_updL (vp_updL (vp_updL (vp_updL (vp_updL (vp_updL (vp_updL (vp_updL (vp_updL (vp_updL (vp_updL (vp_updL (vp_updL (vp_updL (vp_updL (vp_updL (vp_updL (vp_updL (vp_updL (vp_updL (vp_updL (vp_updL (vp_updL (vp_updL (fun _ => 0) 0 0) 1 0) 2 0) 3 0) 4 0) 5 0) 6 0) 7 0) 8 0) 9 0) 10 0) 11 0) 12 0) 13 0) 14 0) 15 0) 16 0) 17 0) 18 0) 19 0) 20 0) 21 0) 22 0) 23 0) 24 0) 25 0) 26 0) 27 0) 28 0) 29 0) rfl [(a0, .inr (10, [.ref a1, .ref a2, .ref a3])), (a1, .inl (cy 1, 4, .inl (upd (upd (upd (upd (upd (fun _ => 0) 0 (-1)) 1 (-1)) 2 (-1)) 3 (-1)) 0 x0))), (a2, .inl (cy 1, 4, .inl (upd (fun _ => 0) 0 x1))), (a3, .inl (cy 2, 160, .inr (.inl (vp_updL (vp_updL (vp_updL (vp_updL (vp_updL (vp_updL (vp_updL (vp_updL (vp_updL (vp_updL (vp_updL (vp_updL (vp_updL (vp_updL (vp_updL (vp_updL (vp_updL (vp_updL (vp_updL (vp_updL (vp_updL (vp_updL (vp_updL (vp_updL (vp_updL (vp_updL (vp_updL (vp_updL (vp_updL (vp_updL (fun _ => 0) 0 0) 1 0) 2 0) 3 0) 4 0) 5 0) 6 0) 7 0) 8 0) 9 0) 10 0) 11 0) 12 0) 13 0) 14 0) 15 0) 16 0) 17 0) 18 0) 19 0) 20 0) 21 0) 22 0) 23 0) 24 0) 25 0) 26 0) 27 0) 28 0) 29 0))))] rfl dX10_lay_36 (fun H locs w => ?_)
  refine lv_iinc (v := 30) (lv' := [(4, .int 30), (0, .ref a0), (1, .int 0), (2, .int x0), (3, .int x1)]) C.1 C.2.1 dX10_lay_37 hl (k := 0) rfl (by decide) (by decide) rfl (fun ls hl => ?_)
  refine lv_goto (tgt := 17) C.1 C.2.1 dX10_lay_40 (by decide) ?_
  refine lv_iload C.1 C.2.1 dX10_lay_17 (lv_at hl 0 rfl) ?_
  refine lv_bipush (v := 40) C.1 C.2.1 dX10_lay_19 (by decide) ?_
  refine b_icmp_ge_f C (tgt := 43) dX10_lay_21 (by decide) (by decide) ?_
  refine lv_aload_n C.1 C.2.1 dX10_lay_24 rfl (lv_at hl 1 rfl) ?_
  refine r_get C w 0 rfl rfl 2 (by decide) fl_RX10_18 (v := .ref a3) rfl dX10_lay_25 ?_
  refine lv_iload_n C.1 C.2.1 dX10_lay_28 rfl (lv_at hl 2 rfl) ?_
  refine lv_bipush (v := 40) C.1 C.2.1 dX10_lay_29 (by decide) ?_
  refine r_imul C (v := 0) dX10_lay_31 (by decide) ?_
  refine lv_iload C.1 C.2.1 dX10_lay_32 (lv_at hl 0 rfl) ?_
  refine r_iadd C (v := 30) dX10_lay_34 (by decide) ?_
  refine lv_lconst (v := 0) C.1 C.2.1 dX10_lay_35 (by decide) ?_
  refine r_last C w 3 rfl (vinD (by decide)) (vp_updL (vp_updL (vp_updL (vp_updL (vp_updL (vp_updL (vp_updL (vp_updL (vp_updL (vp_updL (vp_updL (vp_updL (vp_updL (vp_updL (vp_updL (vp_updL (vp_updL (vp_updL (vp_updL (vp_updL (vp_updL (vp_updL (vp_updL (vp_updL (vp_updL (vp_updL (vp_updL (vp_updL (vp_updL (vp_updL (vp_updL (fun _ => 0) 0 0) 1 0) 2 0) 3 0) 4 0) 5 0) 6 0) 7 0) 8 0) 9 0) 10 0) 11 0) 12 0) 13 0) 14 0) 15 0) 16 0) 17 0) 18 0) 19 0) 20 0) 21 0) 22 0) 23 0) 24 0) 25 0) 26 0) 27 0) 28 0) 29 0) 30 0) rfl [(a0, .inr (10, [.ref a1, .ref a2, .ref a3])), (a1, .inl (cy 1, 4, .inl (upd (upd (upd (upd (upd (fun _ => 0) 0 (-1)) 1 (-1)) 2 (-1)) 3 (-1)) 0 x0))), (a2, .inl (cy 1, 4, .inl (upd (fun _ => 0) 0 x1))), (a3, .inl (cy 2, 160, .inr (.inl (vp_updL (vp_updL (vp_updL (vp_updL (vp_updL (vp_updL (vp_updL (vp_updL (vp_updL (vp_updL (vp_updL (vp_updL (vp_updL (vp_updL (vp_updL (vp_updL (vp_updL (vp_updL (vp_updL (vp_updL (vp_updL (vp_updL (vp_updL (vp_updL (vp_updL (vp_updL (vp_updL (vp_updL (vp_updL (vp_updL (vp_updL (fun _ => 0) 0 0) 1 0) 2 0) 3 0) 4 0) 5 0) 6 0) 7 0) 8 0) 9 0) 10 0) 11 0) 12 0) 13 0) 14 0) 15 0) 16 0) 17 0) 18 0) 19 0) 20 0) 21 0) 22 0) 23 0) 24 0) 25 0) 26 0) 27 0) 28 0) 29 0) 30 0))))] rfl dX10_lay_36 (fun H locs w => ?_)
  refine lv_iinc (v := 31) (lv' := [(4, .int 31), (0, .ref a0), (1, .int 0), (2, .int x0), (3, .int x1)]) C.1 C.2.1 dX10_lay_37 hl (k := 0) rfl (by decide) (by decide) rfl (fun ls hl => ?_)
  refine lv_goto (tgt := 17) C.1 C.2.1 dX10_lay_40 (by decide) ?_
  refine lv_iload C.1 C.2.1 dX10_lay_17 (lv_at hl 0 rfl) ?_
  refine lv_bipush (v := 40) C.1 C.2.1 dX10_lay_19 (by decide) ?_
  refine b_icmp_ge_f C (tgt := 43) dX10_lay_21 (by decide) (by decide) ?_
  refine lv_aload_n C.1 C.2.1 dX10_lay_24 rfl (lv_at hl 1 rfl) ?_
  refine r_get C w 0 rfl rfl 2 (by decide) fl_RX10_18 (v := .ref a3) rfl dX10_lay_25 ?_
  refine lv_iload_n C.1 C.2.1 dX10_lay_28 rfl (lv_at hl 2 rfl) ?_
  refine lv_bipush (v := 40) C.1 C.2.1 dX10_lay_29 (by decide) ?_
  refine r_imul C (v := 0) dX10_lay_31 (by decide) ?_
  refine lv_iload C.1 C.2.1 dX10_lay_32 (lv_at hl 0 rfl) ?_
  refine r_iadd C (v := 31) dX10_lay_34 (by decide) ?_
  refine lv_lconst (v := 0) C.1 C.2.1 dX10_lay_35 (by decide) ?_
  refine r_last C w 3 rfl (vinD (by decide)) (vp_updL (vp_updL (vp_updL (vp_updL (vp_updL (vp_updL (vp_updL (vp_updL (vp_updL (vp_updL (vp_updL (vp_updL (vp_updL (vp_updL (vp_updL (vp_updL (vp_updL (vp_updL (vp_updL (vp_updL (vp_updL (vp_updL (vp_updL (vp_updL (vp_updL (vp_updL (vp_updL (vp_updL (vp_updL (vp_updL (vp_updL (vp_updL (fun _ => 0) 0 0) 1 0) 2 0) 3 0) 4 0) 5 0) 6 0) 7 0) 8 0) 9 0) 10 0) 11 0) 12 0) 13 0) 14 0) 15 0) 16 0) 17 0) 18 0) 19 0) 20 0) 21 0) 22 0) 23 0) 24 0) 25 0) 26 0) 27 0) 28 0) 29 0) 30 0) 31 0) rfl [(a0, .inr (10, [.ref a1, .ref a2, .ref a3])), (a1, .inl (cy 1, 4, .inl (upd (upd (upd (upd (upd (fun _ => 0) 0 (-1)) 1 (-1)) 2 (-1)) 3 (-1)) 0 x0))), (a2, .inl (cy 1, 4, .inl (upd (fun _ => 0) 0 x1))), (a3, .inl (cy 2, 160, .inr (.inl (vp_updL (vp_updL (vp_updL (vp_updL (vp_updL (vp_updL (vp_updL (vp_updL (vp_updL (vp_updL (vp_updL (vp_updL (vp_updL (vp_updL (vp_updL (vp_updL (vp_updL (vp_updL (vp_updL (vp_updL (vp_updL (vp_updL (vp_updL (vp_updL (vp_updL (vp_updL (vp_updL (vp_updL (vp_updL (vp_updL (vp_updL (vp_updL (fun _ => 0) 0 0) 1 0) 2 0) 3 0) 4 0) 5 0) 6 0) 7 0) 8 0) 9 0) 10 0) 11 0) 12 0) 13 0) 14 0) 15 0) 16 0) 17 0) 18 0) 19 0) 20 0) 21 0) 22 0) 23 0) 24 0) 25 0) 26 0) 27 0) 28 0) 29 0) 30 0) 31 0))))] rfl dX10_lay_36 (fun H locs w => ?_)
  refine lv_iinc (v := 32) (lv' := [(4, .int 32), (0, .ref a0), (1, .int 0), (2, .int x0), (3, .int x1)]) C.1 C.2.1 dX10_lay_37 hl (k := 0) rfl (by decide) (by decide) rfl (fun ls hl => ?_)
  refine lv_goto (tgt := 17) C.1 C.2.1 dX10_lay_40 (by decide) ?_
  refine lv_iload C.1 C.2.1 dX10_lay_17 (lv_at hl 0 rfl) ?_
  refine lv_bipush (v := 40) C.1 C.2.1 dX10_lay_19 (by decide) ?_
  refine b_icmp_ge_f C (tgt := 43) dX10_lay_21 (by decide) (by decide) ?_
  refine lv_aload_n C.1 C.2.1 dX10_lay_24 rfl (lv_at hl 1 rfl) ?_
  refine r_get C w 0 rfl rfl 2 (by decide) fl_RX10_18 (v := .ref a3) rfl dX10_lay_25 ?_
  refine lv_iload_n C.1 C.2.1 dX10_lay_28 rfl (lv_at hl 2 rfl) ?_
  refine lv_bipush (v := 40) C.1 C.2.1 dX10_lay_29 (by decide) ?_
  refine r_imul C (v := 0) dX10_lay_31 (by decide) ?_
  refine lv_iload C.1 C.2.1 dX10_lay_32 (lv_at hl 0 rfl) ?_
  refine r_iadd C (v := 32) dX10_lay_34 (by decide) ?_
  refine lv_lconst (v := 0) C.1 C.2.1 dX10_lay_35 (by decide) ?_
  refine r_last C w 3 rfl (vinD (by decide)) (vp_updL (vp_updL (vp_updL (vp_updL (vp_updL (vp_updL (vp_updL (vp_updL (vp_updL (vp_updL (vp_updL (vp_updL (vp_updL (vp_updL (vp_updL (vp_updL (vp_updL (vp_updL (vp_updL (vp_updL (vp_updL (vp_updL (vp_updL (vp_updL (vp_updL (vp_updL (vp_updL (vp_updL (vp_updL (vp_updL (vp_updL (vp_updL (vp_updL (fun _ => 0) 0 0) 1 0) 2 0) 3 0) 4 0) 5 0) 6 0) 7 0) 8 0) 9 0) 10 0) 11 0) 12 0) 13 0) 14 0) 15 0) 16 0) 17 0) 18 0) 19 0) 20 0) 21 0) 22 0) 23 0) 24 0) 25 0) 26 0) 27 0) 28 0) 29 0) 30 0) 31 0) 32 0) rfl [(a0, .inr (10, [.ref a1, .ref a2, .ref a3])), (a1, .inl (cy 1, 4, .inl (upd (upd (upd (upd (upd (fun _ => 0) 0 (-1)) 1 (-1)) 2 (-1)) 3 (-1)) 0 x0))), (a2, .inl (cy 1, 4, .inl (upd (fun _ => 0) 0 x1))), (a3, .inl (cy 2, 160, .inr (.inl (vp_updL (vp_updL (vp_updL (vp_updL (vp_updL (vp_updL (vp_updL (vp_updL (vp_updL (vp_updL (vp_updL (vp_updL (vp_updL (vp_updL (vp_updL (vp_updL (vp_updL (vp_updL (vp_updL (vp_updL (vp_updL (vp_updL (vp_updL (vp_updL (vp_updL (vp_updL (vp_updL (vp_updL (vp_updL (vp_updL (vp_updL (vp_updL (vp_updL (fun _ => 0) 0 0) 1 0) 2 0) 3 0) 4 0) 5 0) 6 0) 7 0) 8 0) 9 0) 10 0) 11 0) 12 0) 13 0) 14 0) 15 0) 16 0) 17 0) 18 0) 19 0) 20 0) 21 0) 22 0) 23 0) 24 0) 25 0) 26 0) 27 0) 28 0) 29 0) 30 0) 31 0) 32 0))))] rfl dX10_lay_36 (fun H locs w => ?_)
  refine lv_iinc (v := 33) (lv' := [(4, .int 33), (0, .ref a0), (1, .int 0), (2, .int x0), (3, .int x1)]) C.1 C.2.1 dX10_lay_37 hl (k := 0) rfl (by decide) (by decide) rfl (fun ls hl => ?_)
  refine lv_goto (tgt := 17) C.1 C.2.1 dX10_lay_40 (by decide) ?_
  refine lv_iload C.1 C.2.1 dX10_lay_17 (lv_at hl 0 rfl) ?_
  refine lv_bipush (v := 40) C.1 C.2.1 dX10_lay_19 (by decide) ?_
  refine b_icmp_ge_f C (tgt := 43) dX10_lay_21 (by decide) (by decide) ?_
  refine lv_aload_n C.1 C.2.1 dX10_lay_24 rfl (lv_at hl 1 rfl) ?_
  refine r_get C w 0 rfl rfl 2 (by decide) fl_RX10_18 (v := .ref a3) rfl dX10_lay_25 ?_
  refine lv_iload_n C.1 C.2.1 dX10_lay_28 rfl (lv_at hl 2 rfl) ?_
  refine lv_bipush (v := 40) C.1 C.2.1 dX10_lay_29 (by decide) ?_
  refine r_imul C (v := 0) dX10_lay_31 (by decide) ?_
  refine lv_iload C.1 C.2.1 dX10_lay_32 (lv_at hl 0 rfl) ?_
  refine r_iadd C (v := 33) dX10_lay_34 (by decide) ?_
  refine lv_lconst (v := 0) C.1 C.2.1 dX10_lay_35 (by decide) ?_
  refine r_last C w 3 rfl (vinD (by decide)) (vp_updL (vp_updL (vp_updL (vp_updL (vp_updL (vp_updL (vp_updL (vp_updL (vp_updL (vp_updL (vp_updL (vp_updL (vp_updL (vp_updL (vp_updL (vp_updL (vp_updL (vp_updL (vp_updL (vp_updL (vp_updL (vp_updL (vp_updL (vp_updL (vp_updL (vp_updL (vp_updL (vp_updL (vp_updL (vp_updL (vp_updL (vp_updL (vp_updL (vp_updL (fun _ => 0) 0 0) 1 0) 2 0) 3 0) 4 0) 5 0) 6 0) 7 0) 8 0) 9 0) 10 0) 11 0) 12 0) 13 0) 14 0) 15 0) 16 0) 17 0) 18 0) 19 0) 20 0) 21 0) 22 0) 23 0) 24 0) 25 0) 26 0) 27 0) 28 0) 29 0) 30 0) 31 0) 32 0) 33 0) rfl [(a0, .inr (10, [.ref a1, .ref a2, .ref a3])), (a1, .inl (cy 1, 4, .inl (upd (upd (upd (upd (upd (fun _ => 0) 0 (-1)) 1 (-1)) 2 (-1)) 3 (-1)) 0 x0))), (a2, .inl (cy 1, 4, .inl (upd (fun _ => 0) 0 x1))), (a3, .inl (cy 2, 160, .inr (.inl (vp_updL (vp_updL (vp_updL (vp_updL (vp_updL (vp_updL (vp_updL (vp_updL (vp_updL (vp_updL (vp_updL (vp_updL (vp_updL (vp_updL (vp_updL (vp_updL (vp_updL (vp_updL (vp_updL (vp_updL (vp_updL (vp_updL (vp_updL (vp_updL (vp_updL (vp_updL (vp_updL (vp_updL (vp_updL (vp_updL (vp_updL (vp_updL (vp_updL (vp_updL (fun _ => 0) 0 0) 1 0) 2 0) 3 0) 4 0) 5 0) 6 0) 7 0) 8 0) 9 0) 10 0) 11 0) 12 0) 13 0) 14 0) 15 0) 16 0) 17 0) 18 0) 19 0) 20 0) 21 0) 22 0) 23 0) 24 0) 25 0) 26 0) 27 0) 28 0) 29 0) 30 0) 31 0) 32 0) 33 0))))] rfl dX10_lay_36 (fun H locs w => ?_)
  refine lv_iinc (v := 34) (lv' := [(4, .int 34), (0, .ref a0), (1, .int 0), (2, .int x0), (3, .int x1)]) C.1 C.2.1 dX10_lay_37 hl (k := 0) rfl (by decide) (by decide) rfl (fun ls hl => ?_)
  refine lv_goto (tgt := 17) C.1 C.2.1 dX10_lay_40 (by decide) ?_
  refine lv_iload C.1 C.2.1 dX10_lay_17 (lv_at hl 0 rfl) ?_
  refine lv_bipush (v := 40) C.1 C.2.1 dX10_lay_19 (by decide) ?_
  refine b_icmp_ge_f C (tgt := 43) dX10_lay_21 (by decide) (by decide) ?_
  refine lv_aload_n C.1 C.2.1 dX10_lay_24 rfl (lv_at hl 1 rfl) ?_
  refine r_get C w 0 rfl rfl 2 (by decide) fl_RX10_18 (v := .ref a3) rfl dX10_lay_25 ?_
  refine lv_iload_n C.1 C.2.1 dX10_lay_28 rfl (lv_at hl 2 rfl) ?_
  refine lv_bipush (v := 40) C.1 C.2.1 dX10_lay_29 (by decide) ?_
  refine r_imul C (v := 0) dX10_lay_31 (by decide) ?_
  refine lv_iload C.1 C.2.1 dX10_lay_32 (lv_at hl 0 rfl) ?_
  refine r_iadd C (v := 34) dX10_lay_34 (by decide) ?_
  refine lv_lconst (v := 0) C.1 C.2.1 dX10_lay_35 (by decide) ?_
  refine r_last C w 3 rfl (vinD (by decide)) (vp_updL (vp_updL (vp_updL (vp_updL (vp_updL (vp_updL (vp_updL (vp_updL (vp_updL (vp_updL (vp_updL (vp_updL (vp_updL (vp_updL (vp_updL (vp_updL (vp_updL (vp_updL (vp_updL (vp_updL (vp_updL (vp_updL (vp_updL (vp_updL (vp_updL (vp_updL (vp_updL (vp_updL (vp_updL (vp_updL (vp_updL (vp_updL (vp_updL (vp_updL (vp_updL (fun _ => 0) 0 0) 1 0) 2 0) 3 0) 4 0) 5 0) 6 0) 7 0) 8 0) 9 0) 10 0) 11 0) 12 0) 13 0) 14 0) 15 0) 16 0) 17 0) 18 0) 19 0) 20 0) 21 0) 22 0) 23 0) 24 0) 25 0) 26 0) 27 0) 28 0) 29 0) 30 0) 31 0) 32 0) 33 0) 34 0) rfl [(a0, .inr (10, [.ref a1, .ref a2, .ref a3])), (a1, .inl (cy 1, 4, .inl (upd (upd (upd (upd (upd (fun _ => 0) 0 (-1)) 1 (-1)) 2 (-1)) 3 (-1)) 0 x0))), (a2, .inl (cy 1, 4, .inl (upd (fun _ => 0) 0 x1))), (a3, .inl (cy 2, 160, .inr (.inl (vp_updL (vp_updL (vp_updL (vp_updL (vp_updL (vp_updL (vp_updL (vp_updL (vp_updL (vp_updL (vp_updL (vp_updL (vp_updL (vp_updL (vp_updL (vp_updL (vp_updL (vp_updL (vp_updL (vp_updL (vp_updL (vp_updL (vp_updL (vp_updL (vp_updL (vp_updL (vp_updL (vp_updL (vp_updL (vp_updL (vp_updL (vp_updL (vp_updL (vp_updL (vp_updL (fun _ => 0) 0 0) 1 0) 2 0) 3 0) 4 0) 5 0) 6 0) 7 0) 8 0) 9 0) 10 0) 11 0) 12 0) 13 0) 14 0) 15 0) 16 0) 17 0) 18 0) 19 0) 20 0) 21 0) 22 0) 23 0) 24 0) 25 0) 26 0) 27 0) 28 0) 29 0) 30 0) 31 0) 32 0) 33 0) 34 0))))] rfl dX10_lay_36 (fun H locs w => ?_)
  refine lv_iinc (v := 35) (lv' := [(4, .int 35), (0, .ref a0), (1, .int 0), (2, .int x0), (3, .int x1)]) C.1 C.2.1 dX10_lay_37 hl (k := 0) rfl (by decide) (by decide) rfl (fun ls hl => ?_)
  refine lv_goto (tgt := 17) C.1 C.2.1 dX10_lay_40 (by decide) ?_
  refine lv_iload C.1 C.2.1 dX10_lay_17 (lv_at hl 0 rfl) ?_
  refine lv_bipush (v := 40) C.1 C.2.1 dX10_lay_19 (by decide) ?_
  refine b_icmp_ge_f C (tgt := 43) dX10_lay_21 (by decide) (by decide) ?_
  refine lv_aload_n C.1 C.2.1 dX10_lay_24 rfl (lv_at hl 1 rfl) ?_
  refine r_get C w 0 rfl rfl 2 (by decide) fl_RX10_18 (v := .ref a3) rfl dX10_lay_25 ?_
  refine lv_iload_n C.1 C.2.1 dX10_lay_28 rfl (lv_at hl 2 rfl) ?_
  refine lv_bipush (v := 40) C.1 C.2.1 dX10_lay_29 (by decide) ?_
  refine r_imul C (v := 0) dX10_lay_31 (by decide) ?_
  refine lv_iload C.1 C.2.1 dX10_lay_32 (lv_at hl 0 rfl) ?_
  refine r_iadd C (v := 35) dX10_lay_34 (by decide) ?_
  refine lv_lconst (v := 0) C.1 C.2.1 dX10_lay_35 (by decide) ?_
  refine r_last C w 3 rfl (vinD (by decide)) (vp_updL (vp_updL (vp_updL (vp_updL (vp_updL (vp_updL (vp_updL (vp_updL (vp_updL (vp_updL (vp_updL (vp_updL (vp_updL (vp_updL (vp_updL (vp_updL (vp_updL (vp_updL (vp_updL (vp_updL (vp_updL (vp_updL (vp_updL (vp_updL (vp_updL (vp_updL (vp_updL (vp_updL (vp_updL (vp_updL (vp_updL (vp_updL (vp_updL (vp_updL (vp_updL (vp_updL (fun _ => 0) 0 0) 1 0) 2 0) 3 0) 4 0) 5 0) 6 0) 7 0) 8 0) 9 0) 10 0) 11 0) 12 0) 13 0) 14 0) 15 0) 16 0) 17 0) 18 0) 19 0) 20 0) 21 0) 22 0) 23 0) 24 0) 25 0) 26 0) 27 0) 28 0) 29 0) 30 0) 31 0) 32 0) 33 0) 34 0) 35 0) rfl [(a0, .inr (10, [.ref a1, .ref a2, .ref a3])), (a1, .inl (cy 1, 4, .inl (upd (upd (upd (upd (upd (fun _ => 0) 0 (-1)) 1 (-1)) 2 (-1)) 3 (-1)) 0 x0))), (a2, .inl (cy 1, 4, .inl (upd (fun _ => 0) 0 x1))), (a3, .inl (cy 2, 160, .inr (.inl (vp_updL (vp_updL (vp_updL (vp_updL (vp_updL (vp_updL (vp_updL (vp_updL (vp_updL (vp_updL (vp_updL (vp_updL (vp_updL (vp_updL (vp_updL (vp_updL (vp_updL (vp_updL (vp_updL (vp_updL (vp_updL (vp_updL (vp_updL (vp_updL (vp_updL (vp_updL (vp_updL (vp_updL (vp_updL (vp_updL (vp_updL (vp_updL (vp_updL (vp_updL (vp_updL (vp_updL (fun _ => 0) 0 0) 1 0) 2 0) 3 0) 4 0) 5 0) 6 0) 7 0) 8 0) 9 0) 10 0) 11 0) 12 0) 13 0) 14 0) 15 0) 16 0) 17 0) 18 0) 19 0) 20 0) 21 0) 22 0) 23 0) 24 0) 25 0) 26 0) 27 0) 28 0) 29 0) 30 0) 31 0) 32 0) 33 0) 34 0) 35 0))))] rfl dX10_lay_36 (fun H locs w => ?_)
  refine lv_iinc (v := 36) (lv' := [(4, .int 36), (0, .ref a0), (1, .int 0), (2, .int x0), (3, .int x1)]) C.1 C.2.1 dX10_lay_37 hl (k := 0) rfl (by decide) (by decide) rfl (fun ls hl => ?_)
  refine lv_goto (tgt := 17) C.1 C.2.1 dX10_lay_40 (by decide) ?_
  refine lv_iload C.1 C.2.1 dX10_lay_17 (lv_at hl 0 rfl) ?_
  refine lv_bipush (v := 40) C.1 C.2.1 dX10_lay_19 (by decide) ?_
  refine b_icmp_ge_f C (tgt := 43) dX10_lay_21 (by decide) (by decide) ?_
  refine lv_aload_n C.1 C.2.1 dX10_lay_24 rfl (lv_at hl 1 rfl) ?_
  refine r_get C w 0 rfl rfl 2 (by decide) fl_RX10_18 (v := .ref a3) rfl dX10_lay_25 ?_
  refine lv_iload_n C.1 C.2.1 dX10_lay_28 rfl (lv_at hl 2 rfl) ?_
  refine lv_bipush (v := 40) C.1 C.2.1 dX10_lay_29 (by decide) ?_
  refine r_imul C (v := 0) dX10_lay_31 (by decide) ?_
  refine lv_iload C.1 C.2.1 dX10_lay_32 (lv_at hl 0 rfl) ?_
  refine r_iadd C (v := 36) dX10_lay_34 (by decide) ?_
  refine lv_lconst (v := 0) C.1 C.2.1 dX10_lay_35 (by decide) ?_
  refine r_last C w 3 rfl (vinD (by decide)) (vp_updL (vp_updL (vp_updL (vp_updL (vp_updL (vp_updL (vp_updL (vp_updL (vp_updL (vp_updL (vp_updL (vp_updL (vp_updL (vp_updL (vp_updL (vp_updL (vp_updL (vp_updL (vp_updL (vp_updL (vp_updL (vp_updL (vp_updL (vp_updL (vp_updL (vp_updL (vp_updL (vp_updL (vp_updL (vp_updL (vp_updL (vp_updL (vp_updL (vp_updL (vp_updL (vp_updL (vp_updL (fun _ => 0) 0 0) 1 0) 2 0) 3 0) 4 0) 5 0) 6 0) 7 0) 8 0) 9 0) 10 0) 11 0) 12 0) 13 0) 14 0) 15 0) 16 0) 17 0) 18 0) 19 0) 20 0) 21 0) 22 0) 23 0) 24 0) 25 0) 26 0) 27 0) 28 0) 29 0) 30 0) 31 0) 32 0) 33 0) 34 0) 35 0) 36 0) rfl [(a0, .inr (10, [.ref a1, .ref a2, .ref a3])), (a1, .inl (cy 1, 4, .inl (upd (upd (upd (upd (upd (fun _ => 0) 0 (-1)) 1 (-1)) 2 (-1)) 3 (-1)) 0 x0))), (a2, .inl (cy 1, 4, .inl (upd (fun _ => 0) 0 x1))), (a3, .inl (cy 2, 160, .inr (.inl (vp_updL (vp_updL (vp_updL (vp_updL (vp_updL (vp_updL (vp_updL (vp_updL (vp_updL (vp_updL (vp_updL (vp_updL (vp_updL (vp_updL (vp_updL (vp_updL (vp_updL (vp_updL (vp_updL (vp_updL (vp_updL (vp_updL (vp_updL (vp_updL (vp_updL (vp_updL (vp_updL (vp_updL (vp_updL (vp_updL (vp_updL (vp_updL (vp_updL (vp_updL (vp_updL (vp_updL (vp_updL (fun _ => 0) 0 0) 1 0) 2 0) 3 0) 4 0) 5 0) 6 0) 7 0) 8 0) 9 0) 10 0) 11 0) 12 0) 13 0) 14 0) 15 0) 16 0) 17 0) 18 0) 19 0) 20 0) 21 0) 22 0) 23 0) 24 0) 25 0) 26 0) 27 0) 28 0) 29 0) 30 0) 31 0) 32 0) 33 0) 34 0) 35 0) 36 0))))] rfl dX10_lay_36 (fun H locs w => ?_)
  refine lv_iinc (v := 37) (lv' := [(4, .int 37), (0, .ref a0), (1, .int 0), (2, .int x0), (3, .int x1)]) C.1 C.2.1 dX10_lay_37 hl (k := 0) rfl (by decide) (by decide) rfl (fun ls hl => ?_)
  refine lv_goto (tgt := 17) C.1 C.2.1 dX10_lay_40 (by decide) ?_
  refine lv_iload C.1 C.2.1 dX10_lay_17 (lv_at hl 0 rfl) ?_
  refine lv_bipush (v := 40) C.1 C.2.1 dX10_lay_19 (by decide) ?_
  refine b_icmp_ge_f C (tgt := 43) dX10_lay_21 (by decide) (by decide) ?_
  refine lv_aload_n C.1 C.2.1 dX10_lay_24 rfl (lv_at hl 1 rfl) ?_
  refine r_get C w 0 rfl rfl 2 (by decide) fl_RX10_18 (v := .ref a3) rfl dX10_lay_25 ?_
  refine lv_iload_n C.1 C.2.1 dX10_lay_28 rfl (lv_at hl 2 rfl) ?_
  refine lv_bipush (v := 40) C.1 C.2.1 dX10_lay_29 (by decide) ?_
  refine r_imul C (v := 0) dX10_lay_31 (by decide) ?_
  refine lv_iload C.1 C.2.1 dX10_lay_32 (lv_at hl 0 rfl) ?_
  refine r_iadd C (v := 37) dX10_lay_34 (by decide) ?_
  refine lv_lconst (v := 0) C.1 C.2.1 dX10_lay_35 (by decide) ?_
  refine r_last C w 3 rfl (vinD (by decide)) (vp_updL (vp_updL (vp_updL (vp_updL (vp_updL (vp_updL (vp_updL (vp_updL (vp_updL (vp_updL (vp_updL (vp_updL (vp_updL (vp_updL (vp_updL (vp_updL (vp_updL (vp_updL (vp_updL (vp_updL (vp_updL (vp_updL (vp_updL (vp_updL (vp_updL (vp_updL (vp_updL (vp_updL (vp_updL (vp_updL (vp_updL (vp_updL (vp_updL (vp_updL (vp_updL (vp_updL (vp_updL (vp_updL (fun _ => 0) 0 0) 1 0) 2 0) 3 0) 4 0) 5 0) 6 0) 7 0) 8 0) 9 0) 10 0) 11 0) 12 0) 13 0) 14 0) 15 0) 16 0) 17 0) 18 0) 19 0) 20 0) 21 0) 22 0) 23 0) 24 0) 25 0) 26 0) 27 0) 28 0) 29 0) 30 0) 31 0) 32 0) 33 0) 34 0) 35 0) 36 0) 37 0) rfl [(a0, .inr (10, [.ref a1, .ref a2, .ref a3])), (a1, .inl (cy 1, 4, .inl (upd (upd (upd (upd (upd (fun _ => 0) 0 (-1)) 1 (-1)) 2 (-1)) 3 (-1)) 0 x0))), (a2, .inl (cy 1, 4, .inl (upd (fun _ => 0) 0 x1))), (a3, .inl (cy 2, 160, .inr (.inl (vp_updL (vp_updL (vp_updL (vp_updL (vp_updL (vp_updL (vp_updL (vp_updL (vp_updL (vp_updL (vp_updL (vp_updL (vp_updL (vp_updL (vp_updL (vp_updL (vp_updL (vp_updL (vp_updL (vp_updL (vp_updL (vp_updL (vp_updL (vp_updL (vp_updL (vp_updL (vp_updL (vp_updL (vp_updL (vp_updL (vp_updL (vp_updL (vp_updL (vp_updL (vp_updL (vp_updL (vp_updL (vp_updL (fun _ => 0) 0 0) 1 0) 2 0) 3 0) 4 0) 5 0) 6 0) 7 0) 8 0) 9 0) 10 0) 11 0) 12 0) 13 0) 14 0) 15 0) 16 0) 17 0) 18 0) 19 0) 20 0) 21 0) 22 0) 23 0) 24 0) 25 0) 26 0) 27 0) 28 0) 29 0) 30 0) 31 0) 32 0) 33 0) 34 0) 35 0) 36 0) 37 0))))] rfl dX10_lay_36 (fun H locs w => ?_)
  refine lv_iinc (v := 38) (lv' := [(4, .int 38), (0, .ref a0), (1, .int 0), (2, .int x0), (3, .int x1)]) C.1 C.2.1 dX10_lay_37 hl (k := 0) rfl (by decide) (by decide) rfl (fun ls hl => ?_)
  refine lv_goto (tgt := 17) C.1 C.2.1 dX10_lay_40 (by decide) ?_
  refine lv_iload C.1 C.2.1 dX10_lay_17 (lv_at hl 0 rfl) ?_
  refine lv_bipush (v := 40) C.1 C.2.1 dX10_lay_19 (by decide) ?_
  refine b_icmp_ge_f C (tgt := 43) dX10_lay_21 (by decide) (by decide) ?_
  refine lv_aload_n C.1 C.2.1 dX10_lay_24 rfl (lv_at hl 1 rfl) ?_
  refine r_get C w 0 rfl rfl 2 (by decide) fl_RX10_18 (v := .ref a3) rfl dX10_lay_25 ?_
  refine lv_iload_n C.1 C.2.1 dX10_lay_28 rfl (lv_at hl 2 rfl) ?_
  refine lv_bipush (v := 40) C.1 C.2.1 dX10_lay_29 (by decide) ?_
  refine r_imul C (v := 0) dX10_lay_31 (by decide) ?_
  refine lv_iload C.1 C.2.1 dX10_lay_32 (lv_at hl 0 rfl) ?_
  refine r_iadd C (v := 38) dX10_lay_34 (by decide) ?_
  refine lv_lconst (v := 0) C.1 C.2.1 dX10_lay_35 (by decide) ?_
  refine r_last C w 3 rfl (vinD (by decide)) (vp_updL (vp_updL (vp_updL (vp_updL (vp_updL (vp_updL (vp_updL (vp_updL (vp_updL (vp_updL (vp_updL (vp_updL (vp_updL (vp_updL (vp_updL (vp_updL (vp_updL (vp_updL (vp_updL (vp_updL (vp_updL (vp_updL (vp_updL (vp_updL (vp_updL (vp_updL (vp_updL (vp_updL (vp_updL (vp_updL (vp_updL (vp_updL (vp_updL (vp_updL (vp_updL (vp_updL (vp_updL (vp_updL (vp_updL (fun _ => 0) 0 0) 1 0) 2 0) 3 0) 4 0) 5 0) 6 0) 7 0) 8 0) 9 0) 10 0) 11 0) 12 0) 13 0) 14 0) 15 0) 16 0) 17 0) 18 0) 19 0) 20 0) 21 0) 22 0) 23 0) 24 0) 25 0) 26 0) 27 0) 28 0) 29 0) 30 0) 31 0) 32 0) 33 0) 34 0) 35 0) 36 0) 37 0) 38 0) rfl [(a0, .inr (10, [.ref a1, .ref a2, .ref a3])), (a1, .inl (cy 1, 4, .inl (upd (upd (upd (upd (upd (fun _ => 0) 0 (-1)) 1 (-1)) 2 (-1)) 3 (-1)) 0 x0))), (a2, .inl (cy 1, 4, .inl (upd (fun _ => 0) 0 x1))), (a3, .inl (cy 2, 160, .inr (.inl (vp_updL (vp_updL (vp_updL (vp_updL (vp_updL (vp_updL (vp_updL (vp_updL (vp_updL (vp_updL (vp_updL (vp_updL (vp_updL (vp_updL (vp_updL (vp_updL (vp_updL (vp_updL (vp_updL (vp_updL (vp_updL (vp_updL (vp_updL (vp_updL (vp_updL (vp_updL (vp_updL (vp_updL (vp_updL (vp_updL (vp_updL (vp_updL (vp_updL (vp_updL (vp_updL (vp_updL (vp_updL (vp_updL (vp_updL (fun _ => 0) 0 0) 1 0) 2 0) 3 0) 4 0) 5 0) 6 0) 7 0) 8 0) 9 0) 10 0) 11 0) 12 0) 13 0) 14 0) 15 0) 16 0) 17 0) 18 0) 19 0) 20 0) 21 0) 22 0) 23 0) 24 0) 25 0) 26 0) 27 0) 28 0) 29 0) 30 0) 31 0) 32 0) 33 0) 34 0) 35 0) 36 0) 37 0) 38 0))))] rfl dX10_lay_36 (fun H locs w => ?_)
  refine lv_iinc (v := 39) (lv' := [(4, .int 39), (0, .ref a0), (1, .int 0), (2, .int x0), (3, .int x1)]) C.1 C.2.1 dX10_lay_37 hl (k := 0) rfl (by decide) (by decide) rfl (fun ls hl => ?_)
  refine lv_goto (tgt := 17) C.1 C.2.1 dX10_lay_40 (by decide) ?_
  refine lv_iload C.1 C.2.1 dX10_lay_17 (lv_at hl 0 rfl) ?_
  refine lv_bipush (v := 40) C.1 C.2.1 dX10_lay_19 (by decide) ?_
  refine b_icmp_ge_f C (tgt := 43) dX10_lay_21 (by decide) (by decide) ?_
  refine lv_aload_n C.1 C.2.1 dX10_lay_24 rfl (lv_at hl 1 rfl) ?_
  refine r_get C w 0 rfl rfl 2 (by decide) fl_RX10_18 (v := .ref a3) rfl dX10_lay_25 ?_
  refine lv_iload_n C.1 C.2.1 dX10_lay_28 rfl (lv_at hl 2 rfl) ?_
  refine lv_bipush (v := 40) C.1 C.2.1 dX10_lay_29 (by decide) ?_
  refine r_imul C (v := 0) dX10_lay_31 (by decide) ?_
  refine lv_iload C.1 C.2.1 dX10_lay_32 (lv_at hl 0 rfl) ?_
  refine r_iadd C (v := 39) dX10_lay_34 (by decide) ?_
  refine lv_lconst (v := 0) C.1 C.2.1 dX10_lay_35 (by decide) ?_
  refine r_last C w 3 rfl (vinD (by decide)) (vp_updL (vp_updL (vp_updL (vp_updL (vp_updL (vp_updL (vp_updL (vp_updL (vp_updL (vp_updL (vp_updL (vp_updL (vp_updL (vp_updL (vp_updL (vp_updL (vp_updL (vp_updL (vp_updL (vp_updL (vp_updL (vp_updL (vp_updL (vp_updL (vp_updL (vp_updL (vp_updL (vp_updL (vp_updL (vp_updL (vp_updL (vp_updL (vp_updL (vp_updL (vp_updL (vp_updL (vp_updL (vp_updL (vp_updL (vp_updL (fun _ => 0) 0 0) 1 0) 2 0) 3 0) 4 0) 5 0) 6 0) 7 0) 8 0) 9 0) 10 0) 11 0) 12 0) 13 0) 14 0) 15 0) 16 0) 17 0) 18 0) 19 0) 20 0) 21 0) 22 0) 23 0) 24 0) 25 0) 26 0) 27 0) 28 0) 29 0) 30 0) 31 0) 32 0) 33 0) 34 0) 35 0) 36 0) 37 0) 38 0) 39 0) rfl [(a0, .inr (10, [.ref a1, .ref a2, .ref a3])), (a1, .inl (cy 1, 4, .inl (upd (upd (upd (upd (upd (fun _ => 0) 0 (-1)) 1 (-1)) 2 (-1)) 3 (-1)) 0 x0))), (a2, .inl (cy 1, 4, .inl (upd (fun _ => 0) 0 x1))), (a3, .inl (cy 2, 160, .inr (.inl (vp_updL (vp_updL (vp_updL (vp_updL (vp_updL (vp_updL (vp_updL (vp_updL (vp_updL (vp_updL (vp_updL (vp_updL (vp_updL (vp_updL (vp_updL (vp_updL (vp_updL (vp_updL (vp_updL (vp_updL (vp_updL (vp_updL (vp_updL (vp_updL (vp_updL (vp_updL (vp_updL (vp_updL (vp_updL (vp_updL (vp_updL (vp_updL (vp_updL (vp_updL (vp_updL (vp_updL (vp_updL (vp_updL (vp_updL (vp_updL (fun _ => 0) 0 0) 1 0) 2 0) 3 0) 4 0) 5 0) 6 0) 7 0) 8 0) 9 0) 10 0) 11 0) 12 0) 13 0) 14 0) 15 0) 16 0) 17 0) 18 0) 19 0) 20 0) 21 0) 22 0) 23 0) 24 0) 25 0) 26 0) 27 0) 28 0) 29 0) 30 0) 31 0) 32 0) 33 0) 34 0) 35 0) 36 0) 37 0) 38 0) 39 0))))] rfl dX10_lay_36 (fun H locs w => ?_)
  refine lv_iinc (v := 40) (lv' := [(4, .int 40), (0, .ref a0), (1, .int 0), (2, .int x0), (3, .int x1)]) C.1 C.2.1 dX10_lay_37 hl (k := 0) rfl (by decide) (by decide) rfl (fun ls hl => ?_)
  refine lv_goto (tgt := 17) C.1 C.2.1 dX10_lay_40 (by decide) ?_
  refine lv_iload C.1 C.2.1 dX10_lay_17 (lv_at hl 0 rfl) ?_
  refine lv_bipush (v := 40) C.1 C.2.1 dX10_lay_19 (by decide) ?_
  refine b_icmp_ge_t C (tgt := 43) dX10_lay_21 (by decide) (by decide) ?_
  exact r_vret C w hlocks () hr rfl trivial [0, 1, 2, 3] rfl rfl ⟨Nat.le_of_ble_eq_true rfl, Nat.le_of_ble_eq_true rfl⟩ dX10_lay_43
theorem fv_RX11_322 : FV RX11 322 yX10_lay cX10_lay 5 none 3 := ⟨⟨gw_mem (by decide +kernel) (by decide +kernel), gw_mem (by decide +kernel) (by decide +kernel), gw_mem (by decide +kernel) (by decide +kernel), gw_mem (by decide +kernel) (by decide +kernel), gw_mem (by decide +kernel) (by decide +kernel)⟩, ⟨by decide +kernel, by decide +kernel, by decide +kernel⟩⟩
theorem dX11_tray_45 : decode cX11_tray 45 = .ok (.return_, 1) := by decide +kernel
set_option maxRecDepth 100000 in
set_option maxHeartbeats 4000000 in
theorem c_X11_tray_5 (l : Launch) (D : va_G) (cy : Nat → ClassId) (a0 a1 a2 a3 a4 a5 a6 a8 a9 a10 : Nat) (x1 : Int32) (x2 : Int32) (k0 : ¬ x1 < 0) (k1 : ¬ 4 ≤ x1) (k2 : ¬ x2 < 0) (k3 : x2 ≤ 40) : Ct l D cy yX11_tray cX11_tray 4 none 1 24 0 0 [(a0, .inr (11, [.ref a1, .int 0, .int 0, .int (-1), .ref a2, .ref a3, .ref a4, .ref a5, .ref a6, .null])), (a5, .inr (10, [.ref a8, .ref a9, .ref a10])), (a8, .inl (cy 1, 4, .inl (upd (upd (upd (upd (fun _ => 0) 0 (-1)) 1 (-1)) 2 (-1)) 3 (-1)))), (a9, .inl (cy 1, 4, .inl (fun _ => 0))), (a10, .inl (cy 2, 160, .inr (.inl (fun _ => 0))))] [.ref a0, .int 0, .int x1, .int x2] (fun u : Unit => none) (fun _ => True) (fun u : Unit => [(a0, .inr (11, [.ref a1, .int 0, .int 0, .int (-1), .ref a2, .ref a3, .ref a4, .ref a5, .ref a6, .null])), (a5, .inr (10, [.ref a8, .ref a9, .ref a10])), (a8, .inl (cy 1, 4, .inl (upd (upd (upd (upd (upd (fun _ => 0) 0 (-1)) 1 (-1)) 2 (-1)) 3 (-1)) 0 x1))), (a9, .inl (cy 1, 4, .inl (upd (fun _ => 0) 0 x2))), (a10, .inl (cy 2, 160, .inr (.inl (vp_updL (vp_updL (vp_updL (vp_updL (vp_updL (vp_updL (vp_updL (vp_updL (vp_updL (vp_updL (vp_updL (vp_updL (vp_updL (vp_updL (vp_updL (vp_updL (vp_updL (vp_updL (vp_updL (vp_updL (vp_updL (vp_updL (vp_updL (vp_updL (vp_updL (vp_updL (vp_updL (vp_updL (vp_updL (vp_updL (vp_updL (vp_updL (vp_updL (vp_updL (vp_updL (vp_updL (vp_updL (vp_updL (vp_updL (vp_updL (fun _ => 0) 0 0) 1 0) 2 0) 3 0) 4 0) 5 0) 6 0) 7 0) 8 0) 9 0) 10 0) 11 0) 12 0) 13 0) 14 0) 15 0) 16 0) 17 0) 18 0) 19 0) 20 0) 21 0) 22 0) 23 0) 24 0) 25 0) 26 0) 27 0) 28 0) 29 0) 30 0) 31 0) 32 0) 33 0) 34 0) 35 0) 36 0) 37 0) 38 0) 39 0))))]) := by
  refine Ct.of (by decide +kernel) (Nat.le_of_ble_eq_true rfl) ?_
  intro p e s m args below meth c A ls C hr hlocks hml hnm w hl
  have hl : lv_has ls 4 [(0, .ref a0), (1, .int 0), (2, .int x1), (3, .int x2)] := hl
  refine lv_aload_n C.1 C.2.1 dX11_tray_0 rfl (lv_at hl 0 rfl) ?_
  refine lv_iload_n C.1 C.2.1 dX11_tray_1 rfl (lv_at hl 1 rfl) ?_
  refine r_callV C w fv_RX11_317 (c_X11_checkTray_3 l D cy a0 a1 a2 a3 a4 a5 a6) (hl.1.trans hml.symm) [0] [1, 2, 3, 4] (wr := [(a5, .inr (10, [.ref a8, .ref a9, .ref a10])), (a8, .inl (cy 1, 4, .inl (upd (upd (upd (upd (fun _ => 0) 0 (-1)) 1 (-1)) 2 (-1)) 3 (-1)))), (a9, .inl (cy 1, 4, .inl (fun _ => 0))), (a10, .inl (cy 2, 160, .inr (.inl (fun _ => 0))))]) ⟨rfl, rfl, rfl, rfl, by decide⟩ 0 rfl rfl rfl rfl rfl ⟨Nat.le_of_ble_eq_true rfl, Nat.le_of_ble_eq_true rfl, Nat.le_of_ble_eq_true rfl⟩ 0 0 ⟨rfl, rfl, Nat.le_of_ble_eq_true rfl, Nat.le_of_ble_eq_true rfl⟩ dX11_tray_2 (fun u H locs hp w => ?_)
  have w : Wd D A s.heap [(a5, .inr (10, [.ref a8, .ref a9, .ref a10])), (a8, .inl (cy 1, 4, .inl (upd (upd (upd (upd (fun _ => 0) 0 (-1)) 1 (-1)) 2 (-1)) 3 (-1)))), (a9, .inl (cy 1, 4, .inl (fun _ => 0))), (a10, .inl (cy 2, 160, .inr (.inl (fun _ => 0)))), (a0, .inr (11, [.ref a1, .int 0, .int 0, .int (-1), .ref a2, .ref a3, .ref a4, .ref a5, .ref a6, .null]))] _ _ := w
  refine r_top (g2 := F0 m 5 ls []) rfl ?_
  refine lv_iload_n C.1 C.2.1 dX11_tray_5 rfl (lv_at hl 2 rfl) ?_
  refine b_if_lt_f C (tgt := 24) dX11_tray_6 (by decide) k0 ?_
  refine lv_iload_n C.1 C.2.1 dX11_tray_9 rfl (lv_at hl 2 rfl) ?_
  refine lv_iconst (v := 4) C.1 C.2.1 dX11_tray_10 (by decide) ?_
  refine b_icmp_ge_f C (tgt := 24) dX11_tray_11 (by decide) k1 ?_
  refine lv_iload_n C.1 C.2.1 dX11_tray_14 rfl (lv_at hl 3 rfl) ?_
  refine b_if_lt_f C (tgt := 24) dX11_tray_15 (by decide) k2 ?_
  refine lv_iload_n C.1 C.2.1 dX11_tray_18 rfl (lv_at hl 3 rfl) ?_
  refine lv_bipush (v := 40) C.1 C.2.1 dX11_tray_19 (by decide) ?_
  refine b_icmp_le_t C (tgt := 35) dX11_tray_21 (by decide) k3 ?_
  refine lv_aload_n C.1 C.2.1 dX11_tray_35 rfl (lv_at hl 0 rfl) ?_
  refine r_get C w 4 rfl rfl 7 (by decide) fl_RX11_36 (v := .ref a5) rfl dX11_tray_36 ?_
  refine lv_iload_n C.1 C.2.1 dX11_tray_39 rfl (lv_at hl 1 rfl) ?_
  refine lv_iload_n C.1 C.2.1 dX11_tray_40 rfl (lv_at hl 2 rfl) ?_
  refine lv_iload_n C.1 C.2.1 dX11_tray_41 rfl (lv_at hl 3 rfl) ?_
  refine r_callV C w fv_RX11_322 (c_X10_lay_0 l D cy a5 a8 a9 a10 x1 x2) (hl.1.trans hml.symm) [0, 1, 2, 3] [4] (wr := [(a0, .inr (11, [.ref a1, .int 0, .int 0, .int (-1), .ref a2, .ref a3, .ref a4, .ref a5, .ref a6, .null]))]) ⟨rfl, rfl, rfl, rfl, by decide⟩ 0 rfl rfl rfl rfl rfl ⟨Nat.le_of_ble_eq_true rfl, Nat.le_of_ble_eq_true rfl, Nat.le_of_ble_eq_true rfl⟩ 0 0 ⟨rfl, rfl, Nat.le_of_ble_eq_true rfl, Nat.le_of_ble_eq_true rfl⟩ dX11_tray_42 (fun u H locs hp w => ?_)
  have w : Wd D A s.heap [(a0, .inr (11, [.ref a1, .int 0, .int 0, .int (-1), .ref a2, .ref a3, .ref a4, .ref a5, .ref a6, .null])), (a5, .inr (10, [.ref a8, .ref a9, .ref a10])), (a8, .inl (cy 1, 4, .inl (upd (upd (upd (upd (upd (fun _ => 0) 0 (-1)) 1 (-1)) 2 (-1)) 3 (-1)) 0 x1))), (a9, .inl (cy 1, 4, .inl (upd (fun _ => 0) 0 x2))), (a10, .inl (cy 2, 160, .inr (.inl (vp_updL (vp_updL (vp_updL (vp_updL (vp_updL (vp_updL (vp_updL (vp_updL (vp_updL (vp_updL (vp_updL (vp_updL (vp_updL (vp_updL (vp_updL (vp_updL (vp_updL (vp_updL (vp_updL (vp_updL (vp_updL (vp_updL (vp_updL (vp_updL (vp_updL (vp_updL (vp_updL (vp_updL (vp_updL (vp_updL (vp_updL (vp_updL (vp_updL (vp_updL (vp_updL (vp_updL (vp_updL (vp_updL (vp_updL (vp_updL (fun _ => 0) 0 0) 1 0) 2 0) 3 0) 4 0) 5 0) 6 0) 7 0) 8 0) 9 0) 10 0) 11 0) 12 0) 13 0) 14 0) 15 0) 16 0) 17 0) 18 0) 19 0) 20 0) 21 0) 22 0) 23 0) 24 0) 25 0) 26 0) 27 0) 28 0) 29 0) 30 0) 31 0) 32 0) 33 0) 34 0) 35 0) 36 0) 37 0) 38 0) 39 0))))] _ _ := w
  refine r_top (g2 := F0 m 45 ls []) rfl ?_
  exact r_vret C w hlocks () hr rfl trivial [0, 1, 2, 3, 4] rfl rfl ⟨Nat.le_of_ble_eq_true rfl, Nat.le_of_ble_eq_true rfl⟩ dX11_tray_45
set_option maxRecDepth 100000 in
set_option maxHeartbeats 4000000 in
theorem c_X10_lay_1 (l : Launch) (D : va_G) (cy : Nat → ClassId) (a0 a1 a2 a3 : Nat) (x0 : Int32) (x1 : Int32) : Ct l D cy yX10_lay cX10_lay 5 none 0 0 0 0 [(a0, .inr (10, [.ref a1, .ref a2, .ref a3])), (a1, .inl (cy 1, 4, .inl (upd (upd (upd (upd (fun _ => 0) 0 (-1)) 1 (-1)) 2 (-1)) 3 (-1)))), (a2, .inl (cy 1, 4, .inl (fun _ => 0))), (a3, .inl (cy 2, 160, .inr (.inl (fun _ => 0))))] [.ref a0, .int 3, .int x0, .int x1] (fun u : Unit => none) (fun _ => True) (fun u : Unit => [(a0, .inr (10, [.ref a1, .ref a2, .ref a3])), (a1, .inl (cy 1, 4, .inl (upd (upd (upd (upd (upd (fun _ => 0) 0 (-1)) 1 (-1)) 2 (-1)) 3 (-1)) 3 x0))), (a2, .inl (cy 1, 4, .inl (upd (fun _ => 0) 3 x1))), (a3, .inl (cy 2, 160, .inr (.inl (vp_updL (vp_updL (vp_updL (vp_updL (vp_updL (vp_updL (vp_updL (vp_updL (vp_updL (vp_updL (vp_updL (vp_updL (vp_updL (vp_updL (vp_updL (vp_updL (vp_updL (vp_updL (vp_updL (vp_updL (vp_updL (vp_updL (vp_updL (vp_updL (vp_updL (vp_updL (vp_updL (vp_updL (vp_updL (vp_updL (vp_updL (vp_updL (vp_updL (vp_updL (vp_updL (vp_updL (vp_updL (vp_updL (vp_updL (vp_updL (fun _ => 0) 120 0) 121 0) 122 0) 123 0) 124 0) 125 0) 126 0) 127 0) 128 0) 129 0) 130 0) 131 0) 132 0) 133 0) 134 0) 135 0) 136 0) 137 0) 138 0) 139 0) 140 0) 141 0) 142 0) 143 0) 144 0) 145 0) 146 0) 147 0) 148 0) 149 0) 150 0) 151 0) 152 0) 153 0) 154 0) 155 0) 156 0) 157 0) 158 0) 159 0))))]) := by
  refine Ct.of (by decide +kernel) (Nat.le_of_ble_eq_true rfl) ?_
  intro p e s m args below meth c A ls C hr hlocks hml hnm w hl
  have hl : lv_has ls 5 [(0, .ref a0), (1, .int 3), (2, .int x0), (3, .int x1)] := hl
  refine lv_aload_n C.1 C.2.1 dX10_lay_0 rfl (lv_at hl 0 rfl) ?_
  refine r_get C w 0 rfl rfl 0 (by decide) fl_RX10_9 (v := .ref a1) rfl dX10_lay_1 ?_
  refine lv_iload_n C.1 C.2.1 dX10_lay_4 rfl (lv_at hl 1 rfl) ?_
  refine lv_iload_n C.1 C.2.1 dX10_lay_5 rfl (lv_at hl 2 rfl) ?_
  refine r_iast C w 1 rfl (vinD (by decide)) (upd (upd (upd (upd (upd (fun _ => 0) 0 (-1)) 1 (-1)) 2 (-1)) 3 (-1)) 3 x0) rfl [(a0, .inr (10, [.ref a1, .ref a2, .ref a3])), (a1, .inl (cy 1, 4, .inl (upd (upd (upd (upd (upd (fun _ => 0) 0 (-1)) 1 (-1)) 2 (-1)) 3 (-1)) 3 x0))), (a2, .inl (cy 1, 4, .inl (fun _ => 0))), (a3, .inl (cy 2, 160, .inr (.inl (fun _ => 0))))] rfl dX10_lay_6 (fun H locs w => ?_)
  refine lv_aload_n C.1 C.2.1 dX10_lay_7 rfl (lv_at hl 0 rfl) ?_
  refine r_get C w 0 rfl rfl 1 (by decide) fl_RX10_15 (v := .ref a2) rfl dX10_lay_8 ?_
  refine lv_iload_n C.1 C.2.1 dX10_lay_11 rfl (lv_at hl 1 rfl) ?_
  refine lv_iload_n C.1 C.2.1 dX10_lay_12 rfl (lv_at hl 3 rfl) ?_
  refine r_iast C w 2 rfl (vinD (by decide)) (upd (fun _ => 0) 3 x1) rfl [(a0, .inr (10, [.ref a1, .ref a2, .ref a3])), (a1, .inl (cy 1, 4, .inl (upd (upd (upd (upd (upd (fun _ => 0) 0 (-1)) 1 (-1)) 2 (-1)) 3 (-1)) 3 x0))), (a2, .inl (cy 1, 4, .inl (upd (fun _ => 0) 3 x1))), (a3, .inl (cy 2, 160, .inr (.inl (fun _ => 0))))] rfl dX10_lay_13 (fun H locs w => ?_)
  refine lv_iconst (v := 0) C.1 C.2.1 dX10_lay_14 (by decide) ?_
  refine lv_istore (lv' := [(4, .int 0), (0, .ref a0), (1, .int 3), (2, .int x0), (3, .int x1)]) C.1 C.2.1 dX10_lay_15 hl (by decide) rfl (fun ls hl => ?_)
  refine lv_iload C.1 C.2.1 dX10_lay_17 (lv_at hl 0 rfl) ?_
  refine lv_bipush (v := 40) C.1 C.2.1 dX10_lay_19 (by decide) ?_
  refine b_icmp_ge_f C (tgt := 43) dX10_lay_21 (by decide) (by decide) ?_
  refine lv_aload_n C.1 C.2.1 dX10_lay_24 rfl (lv_at hl 1 rfl) ?_
  refine r_get C w 0 rfl rfl 2 (by decide) fl_RX10_18 (v := .ref a3) rfl dX10_lay_25 ?_
  refine lv_iload_n C.1 C.2.1 dX10_lay_28 rfl (lv_at hl 2 rfl) ?_
  refine lv_bipush (v := 40) C.1 C.2.1 dX10_lay_29 (by decide) ?_
  refine r_imul C (v := 120) dX10_lay_31 (by decide) ?_
  refine lv_iload C.1 C.2.1 dX10_lay_32 (lv_at hl 0 rfl) ?_
  refine r_iadd C (v := 120) dX10_lay_34 (by decide) ?_
  refine lv_lconst (v := 0) C.1 C.2.1 dX10_lay_35 (by decide) ?_
  refine r_last C w 3 rfl (vinD (by decide)) (vp_updL (fun _ => 0) 120 0) rfl [(a0, .inr (10, [.ref a1, .ref a2, .ref a3])), (a1, .inl (cy 1, 4, .inl (upd (upd (upd (upd (upd (fun _ => 0) 0 (-1)) 1 (-1)) 2 (-1)) 3 (-1)) 3 x0))), (a2, .inl (cy 1, 4, .inl (upd (fun _ => 0) 3 x1))), (a3, .inl (cy 2, 160, .inr (.inl (vp_updL (fun _ => 0) 120 0))))] rfl dX10_lay_36 (fun H locs w => ?_)
  refine lv_iinc (v := 1) (lv' := [(4, .int 1), (0, .ref a0), (1, .int 3), (2, .int x0), (3, .int x1)]) C.1 C.2.1 dX10_lay_37 hl (k := 0) rfl (by decide) (by decide) rfl (fun ls hl => ?_)
  refine lv_goto (tgt := 17) C.1 C.2.1 dX10_lay_40 (by decide) ?_
  refine lv_iload C.1 C.2.1 dX10_lay_17 (lv_at hl 0 rfl) ?_
  refine lv_bipush (v := 40) C.1 C.2.1 dX10_lay_19 (by decide) ?_
  refine b_icmp_ge_f C (tgt := 43) dX10_lay_21 (by decide) (by decide) ?_
  refine lv_aload_n C.1 C.2.1 dX10_lay_24 rfl (lv_at hl 1 rfl) ?_
  refine r_get C w 0 rfl rfl 2 (by decide) fl_RX10_18 (v := .ref a3) rfl dX10_lay_25 ?_
  refine lv_iload_n C.1 C.2.1 dX10_lay_28 rfl (lv_at hl 2 rfl) ?_
  refine lv_bipush (v := 40) C.1 C.2.1 dX10_lay_29 (by decide) ?_
  refine r_imul C (v := 120) dX10_lay_31 (by decide) ?_
  refine lv_iload C.1 C.2.1 dX10_lay_32 (lv_at hl 0 rfl) ?_
  refine r_iadd C (v := 121) dX10_lay_34 (by decide) ?_
  refine lv_lconst (v := 0) C.1 C.2.1 dX10_lay_35 (by decide) ?_
  refine r_last C w 3 rfl (vinD (by decide)) (vp_updL (vp_updL (fun _ => 0) 120 0) 121 0) rfl [(a0, .inr (10, [.ref a1, .ref a2, .ref a3])), (a1, .inl (cy 1, 4, .inl (upd (upd (upd (upd (upd (fun _ => 0) 0 (-1)) 1 (-1)) 2 (-1)) 3 (-1)) 3 x0))), (a2, .inl (cy 1, 4, .inl (upd (fun _ => 0) 3 x1))), (a3, .inl (cy 2, 160, .inr (.inl (vp_updL (vp_updL (fun _ => 0) 120 0) 121 0))))] rfl dX10_lay_36 (fun H locs w => ?_)
  refine lv_iinc (v := 2) (lv' := [(4, .int 2), (0, .ref a0), (1, .int 3), (2, .int x0), (3, .int x1)]) C.1 C.2.1 dX10_lay_37 hl (k := 0) rfl (by decide) (by decide) rfl (fun ls hl => ?_)
  refine lv_goto (tgt := 17) C.1 C.2.1 dX10_lay_40 (by decide) ?_
  refine lv_iload C.1 C.2.1 dX10_lay_17 (lv_at hl 0 rfl) ?_
  refine lv_bipush (v := 40) C.1 C.2.1 dX10_lay_19 (by decide) ?_
  refine b_icmp_ge_f C (tgt := 43) dX10_lay_21 (by decide) (by decide) ?_
  refine lv_aload_n C.1 C.2.1 dX10_lay_24 rfl (lv_at hl 1 rfl) ?_
  refine r_get C w 0 rfl rfl 2 (by decide) fl_RX10_18 (v := .ref a3) rfl dX10_lay_25 ?_
  refine lv_iload_n C.1 C.2.1 dX10_lay_28 rfl (lv_at hl 2 rfl) ?_
  refine lv_bipush (v := 40) C.1 C.2.1 dX10_lay_29 (by decide) ?_
  refine r_imul C (v := 120) dX10_lay_31 (by decide) ?_
  refine lv_iload C.1 C.2.1 dX10_lay_32 (lv_at hl 0 rfl) ?_
  refine r_iadd C (v := 122) dX10_lay_34 (by decide) ?_
  refine lv_lconst (v := 0) C.1 C.2.1 dX10_lay_35 (by decide) ?_
  refine r_last C w 3 rfl (vinD (by decide)) (vp_updL (vp_updL (vp_updL (fun _ => 0) 120 0) 121 0) 122 0) rfl [(a0, .inr (10, [.ref a1, .ref a2, .ref a3])), (a1, .inl (cy 1, 4, .inl (upd (upd (upd (upd (upd (fun _ => 0) 0 (-1)) 1 (-1)) 2 (-1)) 3 (-1)) 3 x0))), (a2, .inl (cy 1, 4, .inl (upd (fun _ => 0) 3 x1))), (a3, .inl (cy 2, 160, .inr (.inl (vp_updL (vp_updL (vp_updL (fun _ => 0) 120 0) 121 0) 122 0))))] rfl dX10_lay_36 (fun H locs w => ?_)
  refine lv_iinc (v := 3) (lv' := [(4, .int 3), (0, .ref a0), (1, .int 3), (2, .int x0), (3, .int x1)]) C.1 C.2.1 dX10_lay_37 hl (k := 0) rfl (by decide) (by decide) rfl (fun ls hl => ?_)
  refine lv_goto (tgt := 17) C.1 C.2.1 dX10_lay_40 (by decide) ?_
  refine lv_iload C.1 C.2.1 dX10_lay_17 (lv_at hl 0 rfl) ?_
  refine lv_bipush (v := 40) C.1 C.2.1 dX10_lay_19 (by decide) ?_
  refine b_icmp_ge_f C (tgt := 43) dX10_lay_21 (by decide) (by decide) ?_
  refine lv_aload_n C.1 C.2.1 dX10_lay_24 rfl (lv_at hl 1 rfl) ?_
  refine r_get C w 0 rfl rfl 2 (by decide) fl_RX10_18 (v := .ref a3) rfl dX10_lay_25 ?_
  refine lv_iload_n C.1 C.2.1 dX10_lay_28 rfl (lv_at hl 2 rfl) ?_
  refine lv_bipush (v := 40) C.1 C.2.1 dX10_lay_29 (by decide) ?_
  refine r_imul C (v := 120) dX10_lay_31 (by decide) ?_
  refine lv_iload C.1 C.2.1 dX10_lay_32 (lv_at hl 0 rfl) ?_
  refine r_iadd C (v := 123) dX10_lay_34 (by decide) ?_
  refine lv_lconst (v := 0) C.1 C.2.1 dX10_lay_35 (by decide) ?_
  refine r_last C w 3 rfl (vinD (by decide)) (vp_updL (vp_updL (vp_updL (vp_updL (fun _ => 0) 120 0) 121 0) 122 0) 123 0) rfl [(a0, .inr (10, [.ref a1, .ref a2, .ref a3])), (a1, .inl (cy 1, 4, .inl (upd (upd (upd (upd (upd (fun _ => 0) 0 (-1)) 1 (-1)) 2 (-1)) 3 (-1)) 3 x0))), (a2, .inl (cy 1, 4, .inl (upd (fun _ => 0) 3 x1))), (a3, .inl (cy 2, 160, .inr (.inl (vp_updL (vp_updL (vp_updL (vp_updL (fun _ => 0) 120 0) 121 0) 122 0) 123 0))))] rfl dX10_lay_36 (fun H locs w => ?_)
  refine lv_iinc (v := 4) (lv' := [(4, .int 4), (0, .ref a0), (1, .int 3), (2, .int x0), (3, .int x1)]) C.1 C.2.1 dX10_lay_37 hl (k := 0) rfl (by decide) (by decide) rfl (fun ls hl => ?_)
  refine lv_goto (tgt := 17) C.1 C.2.1 dX10_lay_40 (by decide) ?_
  refine lv_iload C.1 C.2.1 dX10_lay_17 (lv_at hl 0 rfl) ?_
  refine lv_bipush (v := 40) C.1 C.2.1 dX10_lay_19 (by decide) ?_
  refine b_icmp_ge_f C (tgt := 43) dX10_lay_21 (by decide) (by decide) ?_
  refine lv_aload_n C.1 C.2.1 dX10_lay_24 rfl (lv_at hl 1 rfl) ?_
  refine r_get C w 0 rfl rfl 2 (by decide) fl_RX10_18 (v := .ref a3) rfl dX10_lay_25 ?_
  refine lv_iload_n C.1 C.2.1 dX10_lay_28 rfl (lv_at hl 2 rfl) ?_
  refine lv_bipush (v := 40) C.1 C.2.1 dX10_lay_29 (by decide) ?_
  refine r_imul C (v := 120) dX10_lay_31 (by decide) ?_
  refine lv_iload C.1 C.2.1 dX10_lay_32 (lv_at hl 0 rfl) ?_
  refine r_iadd C (v := 124) dX10_lay_34 (by decide) ?_
  refine lv_lconst (v := 0) C.1 C.2.1 dX10_lay_35 (by decide) ?_
  refine r_last C w 3 rfl (vinD (by decide)) (vp_updL (vp_updL (vp_updL (vp_updL (vp_updL (fun _ => 0) 120 0) 121 0) 122 0) 123 0) 124 0) rfl [(a0, .inr (10, [.ref a1, .ref a2, .ref a3])), (a1, .inl (cy 1, 4, .inl (upd (upd (upd (upd (upd (fun _ => 0) 0 (-1)) 1 (-1)) 2 (-1)) 3 (-1)) 3 x0))), (a2, .inl (cy 1, 4, .inl (upd (fun _ => 0) 3 x1))), (a3, .inl (cy 2, 160, .inr (.inl (vp_updL (vp_updL (vp_updL (vp_updL (vp_updL (fun _ => 0) 120 0) 121 0) 122 0) 123 0) 124 0))))] rfl dX10_lay_36 (fun H locs w => ?_)
  refine lv_iinc (v := 5) (lv' := [(4, .int 5), (0, .ref a0), (1, .int 3), (2, .int x0), (3, .int x1)]) C.1 C.2.1 dX10_lay_37 hl (k := 0) rfl (by decide) (by decide) rfl (fun ls hl => ?_)
  refine lv_goto (tgt := 17) C.1 C.2.1 dX10_lay_40 (by decide) ?_
  refine lv_iload C.1 C.2.1 dX10_lay_17 (lv_at hl 0 rfl) ?_
  refine lv_bipush (v := 40) C.1 C.2.1 dX10_lay_19 (by decide) ?_
  refine b_icmp_ge_f C (tgt := 43) dX10_lay_21 (by decide) (by decide) ?_
  refine lv_aload_n C.1 C.2.1 dX10_lay_24 rfl (lv_at hl 1 rfl) ?_
  refine r_get C w 0 rfl rfl 2 (by decide) fl_RX10_18 (v := .ref a3) rfl dX10_lay_25 ?_
  refine lv_iload_n C.1 C.2.1 dX10_lay_28 rfl (lv_at hl 2 rfl) ?_
  refine lv_bipush (v := 40) C.1 C.2.1 dX10_lay_29 (by decide) ?_
  refine r_imul C (v := 120) dX10_lay_31 (by decide) ?_
  refine lv_iload C.1 C.2.1 dX10_lay_32 (lv_at hl 0 rfl) ?_
  refine r_iadd C (v := 125) dX10_lay_34 (by decide) ?_
  refine lv_lconst (v := 0) C.1 C.2.1 dX10_lay_35 (by decide) ?_
  refine r_last C w 3 rfl (vinD (by decide)) (vp_updL (vp_updL (vp_updL (vp_updL (vp_updL (vp_updL (fun _ => 0) 120 0) 121 0) 122 0) 123 0) 124 0) 125 0) rfl [(a0, .inr (10, [.ref a1, .ref a2, .ref a3])), (a1, .inl (cy 1, 4, .inl (upd (upd (upd (upd (upd (fun _ => 0) 0 (-1)) 1 (-1)) 2 (-1)) 3 (-1)) 3 x0))), (a2, .inl (cy 1, 4, .inl (upd (fun _ => 0) 3 x1))), (a3, .inl (cy 2, 160, .inr (.inl (vp_updL (vp_updL (vp_updL (vp_updL (vp_updL (vp_updL (fun _ => 0) 120 0) 121 0) 122 0) 123 0) 124 0) 125 0))))] rfl dX10_lay_36 (fun H locs w => ?_)
  refine lv_iinc (v := 6) (lv' := [(4, .int 6), (0, .ref a0), (1, .int 3), (2, .int x0), (3, .int x1)]) C.1 C.2.1 dX10_lay_37 hl (k := 0) rfl (by decide) (by decide) rfl (fun ls hl => ?_)
  refine lv_goto (tgt := 17) C.1 C.2.1 dX10_lay_40 (by decide) ?_
  refine lv_iload C.1 C.2.1 dX10_lay_17 (lv_at hl 0 rfl) ?_
  refine lv_bipush (v := 40) C.1 C.2.1 dX10_lay_19 (by decide) ?_
  refine b_icmp_ge_f C (tgt := 43) dX10_lay_21 (by decide) (by decide) ?_
  refine lv_aload_n C.1 C.2.1 dX10_lay_24 rfl (lv_at hl 1 rfl) ?_
  refine r_get C w 0 rfl rfl 2 (by decide) fl_RX10_18 (v := .ref a3) rfl dX10_lay_25 ?_
  refine lv_iload_n C.1 C.2.1 dX10_lay_28 rfl (lv_at hl 2 rfl) ?_
  refine lv_bipush (v := 40) C.1 C.2.1 dX10_lay_29 (by decide) ?_
  refine r_imul C (v := 120) dX10_lay_31 (by decide) ?_
  refine lv_iload C.1 C.2.1 dX10_lay_32 (lv_at hl 0 rfl) ?_
  refine r_iadd C (v := 126) dX10_lay_34 (by decide) ?_
  refine lv_lconst (v := 0) C.1 C.2.1 dX10_lay_35 (by decide) ?_
  refine r_last C w 3 rfl (vinD (by decide)) (vp_updL (vp_updL (vp_updL (vp_updL (vp_updL (vp_updL (vp_updL (fun _ => 0) 120 0) 121 0) 122 0) 123 0) 124 0) 125 0) 126 0) rfl [(a0, .inr (10, [.ref a1, .ref a2, .ref a3])), (a1, .inl (cy 1, 4, .inl (upd (upd (upd (upd (upd (fun _ => 0) 0 (-1)) 1 (-1)) 2 (-1)) 3 (-1)) 3 x0))), (a2, .inl (cy 1, 4, .inl (upd (fun _ => 0) 3 x1))), (a3, .inl (cy 2, 160, .inr (.inl (vp_updL (vp_updL (vp_updL (vp_updL (vp_updL (vp_updL (vp_updL (fun _ => 0) 120 0) 121 0) 122 0) 123 0) 124 0) 125 0) 126 0))))] rfl dX10_lay_36 (fun H locs w => ?_)
  refine lv_iinc (v := 7) (lv' := [(4, .int 7), (0, .ref a0), (1, .int 3), (2, .int x0), (3, .int x1)]) C.1 C.2.1 dX10_lay_37 hl (k := 0) rfl (by decide) (by decide) rfl (fun ls hl => ?_)
  refine lv_goto (tgt := 17) C.1 C.2.1 dX10_lay_40 (by decide) ?_
  refine lv_iload C.1 C.2.1 dX10_lay_17 (lv_at hl 0 rfl) ?_
  refine lv_bipush (v := 40) C.1 C.2.1 dX10_lay_19 (by decide) ?_
  refine b_icmp_ge_f C (tgt := 43) dX10_lay_21 (by decide) (by decide) ?_
  refine lv_aload_n C.1 C.2.1 dX10_lay_24 rfl (lv_at hl 1 rfl) ?_
  refine r_get C w 0 rfl rfl 2 (by decide) fl_RX10_18 (v := .ref a3) rfl dX10_lay_25 ?_
  refine lv_iload_n C.1 C.2.1 dX10_lay_28 rfl (lv_at hl 2 rfl) ?_
  refine lv_bipush (v := 40) C.1 C.2.1 dX10_lay_29 (by decide) ?_
  refine r_imul C (v := 120) dX10_lay_31 (by decide) ?_
  refine lv_iload C.1 C.2.1 dX10_lay_32 (lv_at hl 0 rfl) ?_
  refine r_iadd C (v := 127) dX10_lay_34 (by decide) ?_
  refine lv_lconst (v := 0) C.1 C.2.1 dX10_lay_35 (by decide) ?_
  refine r_last C w 3 rfl (vinD (by decide)) (vp_updL (vp_updL (vp_updL (vp_updL (vp_updL (vp_updL (vp_updL (vp_updL (fun _ => 0) 120 0) 121 0) 122 0) 123 0) 124 0) 125 0) 126 0) 127 0) rfl [(a0, .inr (10, [.ref a1, .ref a2, .ref a3])), (a1, .inl (cy 1, 4, .inl (upd (upd (upd (upd (upd (fun _ => 0) 0 (-1)) 1 (-1)) 2 (-1)) 3 (-1)) 3 x0))), (a2, .inl (cy 1, 4, .inl (upd (fun _ => 0) 3 x1))), (a3, .inl (cy 2, 160, .inr (.inl (vp_updL (vp_updL (vp_updL (vp_updL (vp_updL (vp_updL (vp_updL (vp_updL (fun _ => 0) 120 0) 121 0) 122 0) 123 0) 124 0) 125 0) 126 0) 127 0))))] rfl dX10_lay_36 (fun H locs w => ?_)
  refine lv_iinc (v := 8) (lv' := [(4, .int 8), (0, .ref a0), (1, .int 3), (2, .int x0), (3, .int x1)]) C.1 C.2.1 dX10_lay_37 hl (k := 0) rfl (by decide) (by decide) rfl (fun ls hl => ?_)
  refine lv_goto (tgt := 17) C.1 C.2.1 dX10_lay_40 (by decide) ?_
  refine lv_iload C.1 C.2.1 dX10_lay_17 (lv_at hl 0 rfl) ?_
  refine lv_bipush (v := 40) C.1 C.2.1 dX10_lay_19 (by decide) ?_
  refine b_icmp_ge_f C (tgt := 43) dX10_lay_21 (by decide) (by decide) ?_
  refine lv_aload_n C.1 C.2.1 dX10_lay_24 rfl (lv_at hl 1 rfl) ?_
  refine r_get C w 0 rfl rfl 2 (by decide) fl_RX10_18 (v := .ref a3) rfl dX10_lay_25 ?_
  refine lv_iload_n C.1 C.2.1 dX10_lay_28 rfl (lv_at hl 2 rfl) ?_
  refine lv_bipush (v := 40) C.1 C.2.1 dX10_lay_29 (by decide) ?_
  refine r_imul C (v := 120) dX10_lay_31 (by decide) ?_
  refine lv_iload C.1 C.2.1 dX10_lay_32 (lv_at hl 0 rfl) ?_
  refine r_iadd C (v := 128) dX10_lay_34 (by decide) ?_
  refine lv_lconst (v := 0) C.1 C.2.1 dX10_lay_35 (by decide) ?_
  refine r_last C w 3 rfl (vinD (by decide)) (vp_updL (vp_updL (vp_updL (vp_updL (vp_updL (vp_updL (vp_updL (vp_updL (vp_updL (fun _ => 0) 120 0) 121 0) 122 0) 123 0) 124 0) 125 0) 126 0) 127 0) 128 0) rfl [(a0, .inr (10, [.ref a1, .ref a2, .ref a3])), (a1, .inl (cy 1, 4, .inl (upd (upd (upd (upd (upd (fun _ => 0) 0 (-1)) 1 (-1)) 2 (-1)) 3 (-1)) 3 x0))), (a2, .inl (cy 1, 4, .inl (upd (fun _ => 0) 3 x1))), (a3, .inl (cy 2, 160, .inr (.inl (vp_updL (vp_updL (vp_updL (vp_updL (vp_updL (vp_updL (vp_updL (vp_updL (vp_updL (fun _ => 0) 120 0) 121 0) 122 0) 123 0) 124 0) 125 0) 126 0) 127 0) 128 0))))] rfl dX10_lay_36 (fun H locs w => ?_)
  refine lv_iinc (v := 9) (lv' := [(4, .int 9), (0, .ref a0), (1, .int 3), (2, .int x0), (3, .int x1)]) C.1 C.2.1 dX10_lay_37 hl (k := 0) rfl (by decide) (by decide) rfl (fun ls hl => ?_)
  refine lv_goto (tgt := 17) C.1 C.2.1 dX10_lay_40 (by decide) ?_
  refine lv_iload C.1 C.2.1 dX10_lay_17 (lv_at hl 0 rfl) ?_
  refine lv_bipush (v := 40) C.1 C.2.1 dX10_lay_19 (by decide) ?_
  refine b_icmp_ge_f C (tgt := 43) dX10_lay_21 (by decide) (by decide) ?_
  refine lv_aload_n C.1 C.2.1 dX10_lay_24 rfl (lv_at hl 1 rfl) ?_
  refine r_get C w 0 rfl rfl 2 (by decide) fl_RX10_18 (v := .ref a3) rfl dX10_lay_25 ?_
  refine lv_iload_n C.1 C.2.1 dX10_lay_28 rfl (lv_at hl 2 rfl) ?_
  refine lv_bipush (v := 40) C.1 C.2.1 dX10_lay_29 (by decide) ?_
  refine r_imul C (v := 120) dX10_lay_31 (by decide) ?_
  refine lv_iload C.1 C.2.1 dX10_lay_32 (lv_at hl 0 rfl) ?_
  refine r_iadd C (v := 129) dX10_lay_34 (by decide) ?_
  refine lv_lconst (v := 0) C.1 C.2.1 dX10_lay_35 (by decide) ?_
  refine r_last C w 3 rfl (vinD (by decide)) (vp_updL (vp_updL (vp_updL (vp_updL (vp_updL (vp_updL (vp_updL (vp_updL (vp_updL (vp_updL (fun _ => 0) 120 0) 121 0) 122 0) 123 0) 124 0) 125 0) 126 0) 127 0) 128 0) 129 0) rfl [(a0, .inr (10, [.ref a1, .ref a2, .ref a3])), (a1, .inl (cy 1, 4, .inl (upd (upd (upd (upd (upd (fun _ => 0) 0 (-1)) 1 (-1)) 2 (-1)) 3 (-1)) 3 x0))), (a2, .inl (cy 1, 4, .inl (upd (fun _ => 0) 3 x1))), (a3, .inl (cy 2, 160, .inr (.inl (vp_updL (vp_updL (vp_updL (vp_updL (vp_updL (vp_updL (vp_updL (vp_updL (vp_updL (vp_updL (fun _ => 0) 120 0) 121 0) 122 0) 123 0) 124 0) 125 0) 126 0) 127 0) 128 0) 129 0))))] rfl dX10_lay_36 (fun H locs w => ?_)
  refine lv_iinc (v := 10) (lv' := [(4, .int 10), (0, .ref a0), (1, .int 3), (2, .int x0), (3, .int x1)]) C.1 C.2.1 dX10_lay_37 hl (k := 0) rfl (by decide) (by decide) rfl (fun ls hl => ?_)
  refine lv_goto (tgt := 17) C.1 C.2.1 dX10_lay_40 (by decide) ?_
  refine lv_iload C.1 C.2.1 dX10_lay_17 (lv_at hl 0 rfl) ?_
  refine lv_bipush (v := 40) C.1 C.2.1 dX10_lay_19 (by decide) ?_
  refine b_icmp_ge_f C (tgt := 43) dX10_lay_21 (by decide) (by decide) ?_
  refine lv_aload_n C.1 C.2.1 dX10_lay_24 rfl (lv_at hl 1 rfl) ?_
  refine r_get C w 0 rfl rfl 2 (by decide) fl_RX10_18 (v := .ref a3) rfl dX10_lay_25 ?_
  refine lv_iload_n C.1 C.2.1 dX10_lay_28 rfl (lv_at hl 2 rfl) ?_
  refine lv_bipush (v := 40) C.1 C.2.1 dX10_lay_29 (by decide) ?_
  refine r_imul C (v := 120) dX10_lay_31 (by decide) ?_
  refine lv_iload C.1 C.2.1 dX10_lay_32 (lv_at hl 0 rfl) ?_
  refine r_iadd C (v := 130) dX10_lay_34 (by decide) ?_
  refine lv_lconst (v := 0) C.1 C.2.1 dX10_lay_35 (by decide) ?_
  refine r_last C w 3 rfl (vinD (by decide)) (vp_updL (vp_updL (vp_updL (vp_updL (vp_updL (vp_updL (vp_updL (vp_updL (vp_updL (vp_updL (vp_updL (fun _ => 0) 120 0) 121 0) 122 0) 123 0) 124 0) 125 0) 126 0) 127 0) 128 0) 129 0) 130 0) rfl [(a0, .inr (10, [.ref a1, .ref a2, .ref a3])), (a1, .inl (cy 1, 4, .inl (upd (upd (upd (upd (upd (fun _ => 0) 0 (-1)) 1 (-1)) 2 (-1)) 3 (-1)) 3 x0))), (a2, .inl (cy 1, 4, .inl (upd (fun _ => 0) 3 x1))), (a3, .inl (cy 2, 160, .inr (.inl (vp_updL (vp_updL (vp_updL (vp_updL (vp_updL (vp_updL (vp_updL (vp_updL (vp_updL (vp_updL (vp_updL (fun _ => 0) 120 0) 121 0) 122 0) 123 0) 124 0) 125 0) 126 0) 127 0) 128 0) 129 0) 130 0))))] rfl dX10_lay_36 (fun H locs w => ?_)
  refine lv_iinc (v := 11) (lv' := [(4, .int 11), (0, .ref a0), (1, .int 3), (2, .int x0), (3, .int x1)]) C.1 C.2.1 dX10_lay_37 hl (k := 0) rfl (by decide) (by decide) rfl (fun ls hl => ?_)
  refine lv_goto (tgt := 17) C.1 C.2.1 dX10_lay_40 (by decide) ?_
  refine lv_iload C.1 C.2.1 dX10_lay_17 (lv_at hl 0 rfl) ?_
  refine lv_bipush (v := 40) C.1 C.2.1 dX10_lay_19 (by decide) ?_
  refine b_icmp_ge_f C (tgt := 43) dX10_lay_21 (by decide) (by decide) ?_
  refine lv_aload_n C.1 C.2.1 dX10_lay_24 rfl (lv_at hl 1 rfl) ?_
  refine r_get C w 0 rfl rfl 2 (by decide) fl_RX10_18 (v := .ref a3) rfl dX10_lay_25 ?_
  refine lv_iload_n C.1 C.2.1 dX10_lay_28 rfl (lv_at hl 2 rfl) ?_
  refine lv_bipush (v := 40) C.1 C.2.1 dX10_lay_29 (by decide) ?_
  refine r_imul C (v := 120) dX10_lay_31 (by decide) ?_
  refine lv_iload C.1 C.2.1 dX10_lay_32 (lv_at hl 0 rfl) ?_
  refine r_iadd C (v := 131) dX10_lay_34 (by decide) ?_
  refine lv_lconst (v := 0) C.1 C.2.1 dX10_lay_35 (by decide) ?_
  refine r_last C w 3 rfl (vinD (by decide)) (vp_updL (vp_updL (vp_updL (vp_updL (vp_updL (vp_updL (vp_updL (vp_updL (vp_updL (vp_updL (vp_updL (vp_updL (fun _ => 0) 120 0) 121 0) 122 0) 123 0) 124 0) 125 0) 126 0) 127 0) 128 0) 129 0) 130 0) 131 0) rfl [(a0, .inr (10, [.ref a1, .ref a2, .ref a3])), (a1, .inl (cy 1, 4, .inl (upd (upd (upd (upd (upd (fun _ => 0) 0 (-1)) 1 (-1)) 2 (-1)) 3 (-1)) 3 x0))), (a2, .inl (cy 1, 4, .inl (upd (fun _ => 0) 3 x1))), (a3, .inl (cy 2, 160, .inr (.inl (vp_updL (vp_updL (vp_updL (vp_updL (vp_updL (vp_updL (vp_updL (vp_updL (vp_updL (vp_updL (vp_updL (vp_updL (fun _ => 0) 120 0) 121 0) 122 0) 123 0) 124 0) 125 0) 126 0) 127 0) 128 0) 129 0) 130 0) 131 0))))] rfl dX10_lay_36 (fun H locs w => ?_)
  refine lv_iinc (v := 12) (lv' := [(4, .int 12), (0, .ref a0), (1, .int 3), (2, .int x0), (3, .int x1)]) C.1 C.2.1 dX10_lay_37 hl (k := 0) rfl (by decide) (by decide) rfl (fun ls hl => ?_)
  refine lv_goto (tgt := 17) C.1 C.2.1 dX10_lay_40 (by decide) ?_
  refine lv_iload C.1 C.2.1 dX10_lay_17 (lv_at hl 0 rfl) ?_
  refine lv_bipush (v := 40) C.1 C.2.1 dX10_lay_19 (by decide) ?_
  refine b_icmp_ge_f C (tgt := 43) dX10_lay_21 (by decide) (by decide) ?_
  refine lv_aload_n C.1 C.2.1 dX10_lay_24 rfl (lv_at hl 1 rfl) ?_
  refine r_get C w 0 rfl rfl 2 (by decide) fl_RX10_18 (v := .ref a3) rfl dX10_lay_25 ?_
  refine lv_iload_n C.1 C.2.1 dX10_lay_28 rfl (lv_at hl 2 rfl) ?_
  refine lv_bipush (v := 40) C.1 C.2.1 dX10_lay_29 (by decide) ?_
  refine r_imul C (v := 120) dX10_lay_31 (by decide) ?_
  refine lv_iload C.1 C.2.1 dX10_lay_32 (lv_at hl 0 rfl) ?_
  refine r_iadd C (v := 132) dX10_lay_34 (by decide) ?_
  refine lv_lconst (v := 0) C.1 C.2.1 dX10_lay_35 (by decide) ?_
  refine r_last C w 3 rfl (vinD (by decide)) (vp_updL (vp_updL (vp_updL (vp_updL (vp_updL (vp_updL (vp_updL (vp_updL (vp_updL (vp_updL (vp_updL (vp_updL (vp_updL (fun _ => 0) 120 0) 121 0) 122 0) 123 0) 124 0) 125 0) 126 0) 127 0) 128 0) 129 0) 130 0) 131 0) 132 0) rfl [(a0, .inr (10, [.ref a1, .ref a2, .ref a3])), (a1, .inl (cy 1, 4, .inl (upd (upd (upd (upd (upd (fun _ => 0) 0 (-1)) 1 (-1)) 2 (-1)) 3 (-1)) 3 x0))), (a2, .inl (cy 1, 4, .inl (upd (fun _ => 0) 3 x1))), (a3, .inl (cy 2, 160, .inr (.inl (vp_updL (vp_updL (vp_updL (vp_updL (vp_updL (vp_updL (vp_updL (vp_updL (vp_updL (vp_updL (vp_updL (vp_updL (vp_updL (fun _ => 0) 120 0) 121 0) 122 0) 123 0) 124 0) 125 0) 126 0) 127 0) 128 0) 129 0) 130 0) 131 0) 132 0))))] rfl dX10_lay_36 (fun H locs w => ?_)
  refine lv_iinc (v := 13) (lv' := [(4, .int 13), (0, .ref a0), (1, .int 3), (2, .int x0), (3, .int x1)]) C.1 C.2.1 dX10_lay_37 hl (k := 0) rfl (by decide) (by decide) rfl (fun ls hl => ?_)
  refine lv_goto (tgt := 17) C.1 C.2.1 dX10_lay_40 (by decide) ?_
  refine lv_iload C.1 C.2.1 dX10_lay_17 (lv_at hl 0 rfl) ?_
  refine lv_bipush (v := 40) C.1 C.2.1 dX10_lay_19 (by decide) ?_
  refine b_icmp_ge_f C (tgt := 43) dX10_lay_21 (by decide) (by decide) ?_
  refine lv_aload_n C.1 C.2.1 dX10_lay_24 rfl (lv_at hl 1 rfl) ?_
  refine r_get C w 0 rfl rfl 2 (by decide) fl_RX10_18 (v := .ref a3) rfl dX10_lay_25 ?_
  refine lv_iload_n C.1 C.2.1 dX10_lay_28 rfl (lv_at hl 2 rfl) ?_
  refine lv_bipush (v := 40) C.1 C.2.1 dX10_lay_29 (by decide) ?_
  refine r_imul C (v := 120) dX10_lay_31 (by decide) ?_
  refine lv_iload C.1 C.2.1 dX10_lay_32 (lv_at hl 0 rfl) ?_
  refine r_iadd C (v := 133) dX10_lay_34 (by decide) ?_
  refine lv_lconst (v := 0) C.1 C.2.1 dX10_lay_35 (by decide) ?_
  refine r_last C w 3 rfl (vinD (by decide)) (vp_updL (vp_updL (vp_updL (vp_updL (vp_updL (vp_updL (vp_updL (vp_updL (vp_updL (vp_updL (vp_updL (vp_updL (vp_updL (vp_updL (fun _ => 0) 120 0) 121 0) 122 0) 123 0) 124 0) 125 0) 126 0) 127 0) 128 0) 129 0) 130 0) 131 0) 132 0) 133 0) rfl [(a0, .inr (10, [.ref a1, .ref a2, .ref a3])), (a1, .inl (cy 1, 4, .inl (upd (upd (upd (upd (upd (fun _ => 0) 0 (-1)) 1 (-1)) 2 (-1)) 3 (-1)) 3 x0))), (a2, .inl (cy 1, 4, .inl (upd (fun _ => 0) 3 x1))), (a3, .inl (cy 2, 160, .inr (.inl (vp_updL (vp_updL (vp_updL (vp_updL (vp_updL (vp_updL (vp_updL (vp_updL (vp_updL (vp_updL (vp_updL (vp_updL (vp_updL (vp_updL (fun _ => 0) 120 0) 121 0) 122 0) 123 0) 124 0) 125 0) 126 0) 127 0) 128 0) 129 0) 130 0) 131 0) 132 0) 133 0))))] rfl dX10_lay_36 (fun H locs w => ?_)
  refine lv_iinc (v := 14) (lv' := [(4, .int 14), (0, .ref a0), (1, .int 3), (2, .int x0), (3, .int x1)]) C.1 C.2.1 dX10_lay_37 hl (k := 0) rfl (by decide) (by decide) rfl (fun ls hl => ?_)
  refine lv_goto (tgt := 17) C.1 C.2.1 dX10_lay_40 (by decide) ?_
  refine lv_iload C.1 C.2.1 dX10_lay_17 (lv_at hl 0 rfl) ?_
  refine lv_bipush (v := 40) C.1 C.2.1 dX10_lay_19 (by decide) ?_
  refine b_icmp_ge_f C (tgt := 43) dX10_lay_21 (by decide) (by decide) ?_
  refine lv_aload_n C.1 C.2.1 dX10_lay_24 rfl (lv_at hl 1 rfl) ?_
  refine r_get C w 0 rfl rfl 2 (by decide) fl_RX10_18 (v := .ref a3) rfl dX10_lay_25 ?_
  refine lv_iload_n C.1 C.2.1 dX10_lay_28 rfl (lv_at hl 2 rfl) ?_
  refine lv_bipush (v := 40) C.1 C.2.1 dX10_lay_29 (by decide) ?_
  refine r_imul C (v := 120) dX10_lay_31 (by decide) ?_
  refine lv_iload C.1 C.2.1 dX10_lay_32 (lv_at hl 0 rfl) ?_
  refine r_iadd C (v := 134) dX10_lay_34 (by decide) ?_
  refine lv_lconst (v := 0) C.1 C.2.1 dX10_lay_35 (by decide) ?_
  refine r_last C w 3 rfl (vinD (by decide)) (vp_updL (vp_updL (vp_updL (vp_updL (vp_updL (vp_updL (vp_updL (vp_updL (vp_updL (vp_updL (vp_updL (vp_updL (vp_updL (vp_updL (vp_updL (fun _ => 0) 120 0) 121 0) 122 0) 123 0) 124 0) 125 0) 126 0) 127 0) 128 0) 129 0) 130 0) 131 0) 132 0) 133 0) 134 0) rfl [(a0, .inr (10, [.ref a1, .ref a2, .ref a3])), (a1, .inl (cy 1, 4, .inl (upd (upd (upd (upd (upd (fun _ => 0) 0 (-1)) 1 (-1)) 2 (-1)) 3 (-1)) 3 x0))), (a2, .inl (cy 1, 4, .inl (upd (fun _ => 0) 3 x1))), (a3, .inl (cy 2, 160, .inr (.inl (vp_updL (vp_updL (vp_updL (vp_updL (vp_updL (vp_updL (vp_updL (vp_updL (vp_updL (vp_updL (vp_updL (vp_updL (vp_updL (vp_updL (vp_updL (fun _ => 0) 120 0) 121 0) 122 0) 123 0) 124 0) 125 0) 126 0) 127 0) 128 0) 129 0) 130 0) 131 0) 132 0) 133 0) 134 0))))] rfl dX10_lay_36 (fun H locs w => ?_)
  refine lv_iinc (v := 15) (lv' := [(4, .int 15), (0, .ref a0), (1, .int 3), (2, .int x0), (3, .int x1)]) C.1 C.2.1 dX10_lay_37 hl (k := 0) rfl (by decide) (by decide) rfl (fun ls hl => ?_)
  refine lv_goto (tgt := 17) C.1 C.2.1 dX10_lay_40 (by decide) ?_
  refine lv_iload C.1 C.2.1 dX10_lay_17 (lv_at hl 0 rfl) ?_
  refine lv_bipush (v := 40) C.1 C.2.1 dX10_lay_19 (by decide) ?_
  refine b_icmp_ge_f C (tgt := 43) dX10_lay_21 (by decide) (by decide) ?_
  refine lv_aload_n C.1 C.2.1 dX10_lay_24 rfl (lv_at hl 1 rfl) ?_
  refine r_get C w 0 rfl rfl 2 (by decide) fl_RX10_18 (v := .ref a3) rfl dX10_lay_25 ?_
  refine lv_iload_n C.1 C.2.1 dX10_lay_28 rfl (lv_at hl 2 rfl) ?_
  refine lv_bipush (v := 40) C.1 C.2.1 dX10_lay_29 (by decide) ?_
  refine r_imul C (v := 120) dX10_lay_31 (by decide) ?_
  refine lv_iload C.1 C.2.1 dX10_lay_32 (lv_at hl 0 rfl) ?_
  refine r_iadd C (v := 135) dX10_lay_34 (by decide) ?_
  refine lv_lconst (v := 0) C.1 C.2.1 dX10_lay_35 (by decide) ?_
  refine r_last C w 3 rfl (vinD (by decide)) (vp_updL (vp_updL (vp_updL (vp_updL (vp_updL (vp_updL (vp_updL (vp_updL (vp_updL (vp_updL (vp_updL (vp_updL (vp_updL (vp_updL (vp_updL (vp_updL (fun _ => 0) 120 0) 121 0) 122 0) 123 0) 124 0) 125 0) 126 0) 127 0) 128 0) 129 0) 130 0) 131 0) 132 0) 133 0) 134 0) 135 0) rfl [(a0, .inr (10, [.ref a1, .ref a2, .ref a3])), (a1, .inl (cy 1, 4, .inl (upd (upd (upd (upd (upd (fun _ => 0) 0 (-1)) 1 (-1)) 2 (-1)) 3 (-1)) 3 x0))), (a2, .inl (cy 1, 4, .inl (upd (fun _ => 0) 3 x1))), (a3, .inl (cy 2, 160, .inr (.inl (vp_updL (vp_updL (vp_updL (vp_updL (vp_updL (vp_updL (vp_updL (vp_updL (vp_updL (vp_updL (vp_updL (vp_updL (vp_updL (vp_updL (vp_updL (vp_updL (fun _ => 0) 120 0) 121 0) 122 0) 123 0) 124 0) 125 0) 126 0) 127 0) 128 0) 129 0) 130 0) 131 0) 132 0) 133 0) 134 0) 135 0))))] rfl dX10_lay_36 (fun H locs w => ?_)
  refine lv_iinc (v := 16) (lv' := [(4, .int 16), (0, .ref a0), (1, .int 3), (2, .int x0), (3, .int x1)]) C.1 C.2.1 dX10_lay_37 hl (k := 0) rfl (by decide) (by decide) rfl (fun ls hl => ?_)
  refine lv_goto (tgt := 17) C.1 C.2.1 dX10_lay_40 (by decide) ?_
  refine lv_iload C.1 C.2.1 dX10_lay_17 (lv_at hl 0 rfl) ?_
  refine lv_bipush (v := 40) C.1 C.2.1 dX10_lay_19 (by decide) ?_
  refine b_icmp_ge_f C (tgt := 43) dX10_lay_21 (by decide) (by decide) ?_
  refine lv_aload_n C.1 C.2.1 dX10_lay_24 rfl (lv_at hl 1 rfl) ?_
  refine r_get C w 0 rfl rfl 2 (by decide) fl_RX10_18 (v := .ref a3) rfl dX10_lay_25 ?_
  refine lv_iload_n C.1 C.2.1 dX10_lay_28 rfl (lv_at hl 2 rfl) ?_
  refine lv_bipush (v := 40) C.1 C.2.1 dX10_lay_29 (by decide) ?_
  refine r_imul C (v := 120) dX10_lay_31 (by decide) ?_
  refine lv_iload C.1 C.2.1 dX10_lay_32 (lv_at hl 0 rfl) ?_
  refine r_iadd C (v := 136) dX10_lay_34 (by decide) ?_
  refine lv_lconst (v := 0) C.1 C.2.1 dX10_lay_35 (by decide) ?_
  refine r_last C w 3 rfl (vinD (by decide)) (vp_updL (vp_updL (vp_updL (vp_updL (vp_updL (vp_updL (vp_updL (vp_updL (vp_updL (vp_updL (vp_updL (vp_updL (vp_updL (vp_updL (vp_updL (vp_updL (vp_updL (fun _ => 0) 120 0) 121 0) 122 0) 123 0) 124 0) 125 0) 126 0) 127 0) 128 0) 129 0) 130 0) 131 0) 132 0) 133 0) 134 0) 135 0) 136 0) rfl [(a0, .inr (10, [.ref a1, .ref a2, .ref a3])), (a1, .inl (cy 1, 4, .inl (upd (upd (upd (upd (upd (fun _ => 0) 0 (-1)) 1 (-1)) 2 (-1)) 3 (-1)) 3 x0))), (a2, .inl (cy 1, 4, .inl (upd (fun _ => 0) 3 x1))), (a3, .inl (cy 2, 160, .inr (.inl (vp_updL (vp_updL (vp_updL (vp_updL (vp_updL (vp_updL (vp_updL (vp_updL (vp_updL (vp_updL (vp_updL (vp_updL (vp_updL (vp_updL (vp_updL (vp_updL (vp_updL (fun _ => 0) 120 0) 121 0) 122 0) 123 0) 124 0) 125 0) 126 0) 127 0) 128 0) 129 0) 130 0) 131 0) 132 0) 133 0) 134 0) 135 0) 136 0))))] rfl dX10_lay_36 (fun H locs w => ?_)
  refine lv_iinc (v := 17) (lv' := [(4, .int 17), (0, .ref a0), (1, .int 3), (2, .int x0), (3, .int x1)]) C.1 C.2.1 dX10_lay_37 hl (k := 0) rfl (by decide) (by decide) rfl (fun ls hl => ?_)
  refine lv_goto (tgt := 17) C.1 C.2.1 dX10_lay_40 (by decide) ?_
  refine lv_iload C.1 C.2.1 dX10_lay_17 (lv_at hl 0 rfl) ?_
  refine lv_bipush (v := 40) C.1 C.2.1 dX10_lay_19 (by decide) ?_
  refine b_icmp_ge_f C (tgt := 43) dX10_lay_21 (by decide) (by decide) ?_
  refine lv_aload_n C.1 C.2.1 dX10_lay_24 rfl (lv_at hl 1 rfl) ?_
  refine r_get C w 0 rfl rfl 2 (by decide) fl_RX10_18 (v := .ref a3) rfl dX10_lay_25 ?_
  refine lv_iload_n C.1 C.2.1 dX10_lay_28 rfl (lv_at hl 2 rfl) ?_
  refine lv_bipush (v := 40) C.1 C.2.1 dX10_lay_29 (by decide) ?_
  refine r_imul C (v := 120) dX10_lay_31 (by decide) ?_
  refine lv_iload C.1 C.2.1 dX10_lay_32 (lv_at hl 0 rfl) ?_
  refine r_iadd C (v := 137) dX10_lay_34 (by decide) ?_
  refine lv_lconst (v := 0) C.1 C.2.1 dX10_lay_35 (by decide) ?_
  refine r_last C w 3 rfl (vinD (by decide)) (vp_updL (vp_updL (vp_updL (vp_updL (vp_updL (vp_updL (vp_updL (vp_updL (vp_updL (vp_updL (vp_updL (vp_updL (vp_updL (vp_updL (vp_updL (vp_updL (vp_updL (vp_updL (fun _ => 0) 120 0) 121 0) 122 0) 123 0) 124 0) 125 0) 126 0) 127 0) 128 0) 129 0) 130 0) 131 0) 132 0) 133 0) 134 0) 135 0) 136 0) 137 0) rfl [(a0, .inr (10, [.ref a1, .ref a2, .ref a3])), (a1, .inl (cy 1, 4, .inl (upd (upd (upd (upd (upd (fun _ => 0) 0 (-1)) 1 (-1)) 2 (-1)) 3 (-1)) 3 x0))), (a2, .inl (cy 1, 4, .inl (upd (fun _ => 0) 3 x1))), (a3, .inl (cy 2, 160, .inr (.inl (vp_updL (vp_updL (vp_updL (vp_updL (vp_updL (vp_updL (vp_updL (vp_updL (vp_updL (vp_updL (vp_updL (vp_updL (vp_updL (vp_updL (vp_updL (vp_updL (vp_updL (vp_updL (fun _ => 0) 120 0) 121 0) 122 0) 123 0) 124 0) 125 0) 126 0) 127 0) 128 0) 129 0) 130 0) 131 0) 132 0) 133 0) 134 0) 135 0) 136 0) 137 0))))] rfl dX10_lay_36 (fun H locs w => ?_)
  refine lv_iinc (v := 18) (lv' := [(4, .int 18), (0, .ref a0), (1, .int 3), (2, .int x0), (3, .int x1)]) C.1 C.2.1 dX10_lay_37 hl (k := 0) rfl (by decide) (by decide) rfl (fun ls hl => ?_)
  refine lv_goto (tgt := 17) C.1 C.2.1 dX10_lay_40 (by decide) ?_
  refine lv_iload C.1 C.2.1 dX10_lay_17 (lv_at hl 0 rfl) ?_
  refine lv_bipush (v := 40) C.1 C.2.1 dX10_lay_19 (by decide) ?_
  refine b_icmp_ge_f C (tgt := 43) dX10_lay_21 (by decide) (by decide) ?_
  refine lv_aload_n C.1 C.2.1 dX10_lay_24 rfl (lv_at hl 1 rfl) ?_
  refine r_get C w 0 rfl rfl 2 (by decide) fl_RX10_18 (v := .ref a3) rfl dX10_lay_25 ?_
  refine lv_iload_n C.1 C.2.1 dX10_lay_28 rfl (lv_at hl 2 rfl) ?_
  refine lv_bipush (v := 40) C.1 C.2.1 dX10_lay_29 (by decide) ?_
  refine r_imul C (v := 120) dX10_lay_31 (by decide) ?_
  refine lv_iload C.1 C.2.1 dX10_lay_32 (lv_at hl 0 rfl) ?_
  refine r_iadd C (v := 138) dX10_lay_34 (by decide) ?_
  refine lv_lconst (v := 0) C.1 C.2.1 dX10_lay_35 (by decide) ?_
  refine r_last C w 3 rfl (vinD (by decide)) (vp_updL (vp_updL (vp_updL (vp_updL (vp_updL (vp_updL (vp_updL (vp_updL (vp_updL (vp_updL (vp_updL (vp_updL (vp_updL (vp_updL (vp_updL (vp_updL (vp_updL (vp_updL (vp_updL (fun _ => 0) 120 0) 121 0) 122 0) 123 0) 124 0) 125 0) 126 0) 127 0) 128 0) 129 0) 130 0) 131 0) 132 0) 133 0) 134 0) 135 0) 136 0) 137 0) 138 0) rfl [(a0, .inr (10, [.ref a1, .ref a2, .ref a3])), (a1, .inl (cy 1, 4, .inl (upd (upd (upd (upd (upd (fun _ => 0) 0 (-1)) 1 (-1)) 2 (-1)) 3 (-1)) 3 x0))), (a2, .inl (cy 1, 4, .inl (upd (fun _ => 0) 3 x1))), (a3, .inl (cy 2, 160, .inr (.inl (vp_updL (vp_updL (vp_updL (vp_updL (vp_updL (vp_updL (vp_updL (vp_updL (vp_updL (vp_updL (vp_updL (vp_updL (vp_updL (vp_updL (vp_updL (vp_updL (vp_updL (vp_updL (vp_updL (fun _ => 0) 120 0) 121 0) 122 0) 123 0) 124 0) 125 0) 126 0) 127 0) 128 0) 129 0) 130 0) 131 0) 132 0) 133 0) 134 0) 135 0) 136 0) 137 0) 138 0))))] rfl dX10_lay_36 (fun H locs w => ?_)
  refine lv_iinc (v := 19) (lv' := [(4, .int 19), (0, .ref a0), (1, .int 3), (2, .int x0), (3, .int x1)]) C.1 C.2.1 dX10_lay_37 hl (k := 0) rfl (by decide) (by decide) rfl (fun ls hl => ?_)
  refine lv_goto (tgt := 17) C.1 C.2.1 dX10_lay_40 (by decide) ?_
  refine lv_iload C.1 C.2.1 dX10_lay_17 (lv_at hl 0 rfl) ?_
  refine lv_bipush (v := 40) C.1 C.2.1 dX10_lay_19 (by decide) ?_
  refine b_icmp_ge_f C (tgt := 43) dX10_lay_21 (by decide) (by decide) ?_
  refine lv_aload_n C.1 C.2.1 dX10_lay_24 rfl (lv_at hl 1 rfl) ?_
  refine r_get C w 0 rfl rfl 2 (by decide) fl_RX10_18 (v := .ref a3) rfl dX10_lay_25 ?_
  refine lv_iload_n C.1 C.2.1 dX10_lay_28 rfl (lv_at hl 2 rfl) ?_
  refine lv_bipush (v := 40) C.1 C.2.1 dX10_lay_29 (by decide) ?_
  refine r_imul C (v := 120) dX10_lay_31 (by decide) ?_
  refine lv_iload C.1 C.2.1 dX10_lay_32 (lv_at hl 0 rfl) ?_
  refine r_iadd C (v := 139) dX10_lay_34 (by decide) ?_
  refine lv_lconst (v := 0) C.1 C.2.1 dX10_lay_35 (by decide) ?_
  refine r_last C w 3 rfl (vinD (by decide)) (vp_updL (vp_updL (vp_updL (vp_updL (vp_updL (vp_updL (vp_updL (vp_updL (vp_updL (vp_updL (vp_updL (vp_updL (vp_updL (vp_updL (vp_updL (vp_updL (vp_updL (vp_updL (vp_updL (vp_updL (fun _ => 0) 120 0) 121 0) 122 0) 123 0) 124 0) 125 0) 126 0) 127 0) 128 0) 129 0) 130 0) 131 0) 132 0) 133 0) 134 0) 135 0) 136 0) 137 0) 138 0) 139 0) rfl [(a0, .inr (10, [.ref a1, .ref a2, .ref a3])), (a1, .inl (cy 1, 4, .inl (upd (upd (upd (upd (upd (fun _ => 0) 0 (-1)) 1 (-1)) 2 (-1)) 3 (-1)) 3 x0))), (a2, .inl (cy 1, 4, .inl (upd (fun _ => 0) 3 x1))), (a3, .inl (cy 2, 160, .inr (.inl (vp_updL (vp_updL (vp_updL (vp_updL (vp_updL (vp_updL (vp_updL (vp_updL (vp_updL (vp_updL (vp_updL (vp_updL (vp_updL (vp_updL (vp_updL (vp_updL (vp_updL (vp_updL (vp_updL (vp_updL (fun _ => 0) 120 0) 121 0) 122 0) 123 0) 124 0) 125 0) 126 0) 127 0) 128 0) 129 0) 130 0) 131 0) 132 0) 133 0) 134 0) 135 0) 136 0) 137 0) 138 0) 139 0))))] rfl dX10_lay_36 (fun H locs w => ?_)
  refine lv_iinc (v := 20) (lv' := [(4, .int 20), (0, .ref a0), (1, .int 3), (2, .int x0), (3, .int x1)]) C.1 C.2.1 dX10_lay_37 hl (k := 0) rfl (by decide) (by decide) rfl (fun ls hl => ?_)
  refine lv_goto (tgt := 17) C.1 C.2.1 dX10_lay_40 (by decide) ?_
  refine lv_iload C.1 C.2.1 dX10_lay_17 (lv_at hl 0 rfl) ?_
  refine lv_bipush (v := 40) C.1 C.2.1 dX10_lay_19 (by decide) ?_
  refine b_icmp_ge_f C (tgt := 43) dX10_lay_21 (by decide) (by decide) ?_
  refine lv_aload_n C.1 C.2.1 dX10_lay_24 rfl (lv_at hl 1 rfl) ?_
  refine r_get C w 0 rfl rfl 2 (by decide) fl_RX10_18 (v := .ref a3) rfl dX10_lay_25 ?_
  refine lv_iload_n C.1 C.2.1 dX10_lay_28 rfl (lv_at hl 2 rfl) ?_
  refine lv_bipush (v := 40) C.1 C.2.1 dX10_lay_29 (by decide) ?_
  refine r_imul C (v := 120) dX10_lay_31 (by decide) ?_
  refine lv_iload C.1 C.2.1 dX10_lay_32 (lv_at hl 0 rfl) ?_
  refine r_iadd C (v := 140) dX10_lay_34 (by decide) ?_
  refine lv_lconst (v := 0) C.1 C.2.1 dX10_lay_35 (by decide) ?_
  refine r_last C w 3 rfl (vinD (by decide)) (vp_updL (vp_updL (vp_updL (vp_updL (vp_updL (vp_updL (vp_updL (vp_updL (vp_updL (vp_updL (vp_updL (vp_updL (vp_updL (vp_updL (vp_updL (vp_updL (vp_updL (vp_updL (vp_updL (vp_updL (vp_updL (fun _ => 0) 120 0) 121 0) 122 0) 123 0) 124 0) 125 0) 126 0) 127 0) 128 0) 129 0) 130 0) 131 0) 132 0) 133 0) 134 0) 135 0) 136 0) 137 0) 138 0) 139 0) 140 0) rfl [(a0, .inr (10, [.ref a1, .ref a2, .ref a3])), (a1, .inl (cy 1, 4, .inl (upd (upd (upd (upd (upd (fun _ => 0) 0 (-1)) 1 (-1)) 2 (-1)) 3 (-1)) 3 x0))), (a2, .inl (cy 1, 4, .inl (upd (fun _ => 0) 3 x1))), (a3, .inl (cy 2, 160, .inr (.inl (vp_updL (vp_updL (vp_updL (vp_updL (vp_updL (vp_updL (vp_updL (vp_updL (vp_updL (vp_updL (vp_updL (vp_updL (vp_updL (vp_updL (vp_updL (vp_updL (vp_updL (vp_updL (vp_updL (vp_updL (vp_updL (fun _ => 0) 120 0) 121 0) 122 0) 123 0) 124 0) 125 0) 126 0) 127 0) 128 0) 129 0) 130 0) 131 0) 132 0) 133 0) 134 0) 135 0) 136 0) 137 0) 138 0) 139 0) 140 0))))] rfl dX10_lay_36 (fun H locs w => ?_)
  refine lv_iinc (v := 21) (lv' := [(4, .int 21), (0, .ref a0), (1, .int 3), (2, .int x0), (3, .int x1)]) C.1 C.2.1 dX10_lay_37 hl (k := 0) rfl (by decide) (by decide) rfl (fun ls hl => ?_)
  refine lv_goto (tgt := 17) C.1 C.2.1 dX10_lay_40 (by decide) ?_
  refine lv_iload C.1 C.2.1 dX10_lay_17 (lv_at hl 0 rfl) ?_
  refine lv_bipush (v := 40) C.1 C.2.1 dX10_lay_19 (by decide) ?_
  refine b_icmp_ge_f C (tgt := 43) dX10_lay_21 (by decide) (by decide) ?_
  refine lv_aload_n C.1 C.2.1 dX10_lay_24 rfl (lv_at hl 1 rfl) ?_
  refine r_get C w 0 rfl rfl 2 (by decide) fl_RX10_18 (v := .ref a3) rfl dX10_lay_25 ?_
  refine lv_iload_n C.1 C.2.1 dX10_lay_28 rfl (lv_at hl 2 rfl) ?_
  refine lv_bipush (v := 40) C.1 C.2.1 dX10_lay_29 (by decide) ?_
  refine r_imul C (v := 120) dX10_lay_31 (by decide) ?_
  refine lv_iload C.1 C.2.1 dX10_lay_32 (lv_at hl 0 rfl) ?_
  refine r_iadd C (v := 141) dX10_lay_34 (by decide) ?_
  refine lv_lconst (v := 0) C.1 C.2.1 dX10_lay_35 (by decide) ?_
  refine r_last C w 3 rfl (vinD (by decide)) (vp_updL (vp_updL (vp_updL (vp_updL (vp_updL (vp_updL (vp_updL (vp_updL (vp_updL (vp_updL (vp_updL (vp_updL (vp_updL (vp_updL (vp_updL (vp_updL (vp_updL (vp_updL (vp_updL (vp_updL (vp_updL (vp_updL (fun _ => 0) 120 0) 121 0) 122 0) 123 0) 124 0) 125 0) 126 0) 127 0) 128 0) 129 0) 130 0) 131 0) 132 0) 133 0) 134 0) 135 0) 136 0) 137 0) 138 0) 139 0) 140 0) 141 0) rfl [(a0, .inr (10, [.ref a1, .ref a2, .ref a3])), (a1, .inl (cy 1, 4, .inl (upd (upd (upd (upd (upd (fun _ => 0) 0 (-1)) 1 (-1)) 2 (-1)) 3 (-1)) 3 x0))), (a2, .inl (cy 1, 4, .inl (upd (fun _ => 0) 3 x1))), (a3, .inl (cy 2, 160, .inr (.inl (vp_updL (vp_updL (vp_updL (vp_updL (vp_updL (vp_updL (vp_updL (vp_updL (vp_updL (vp_updL (vp_updL (vp_updL (vp_updL (vp_updL (vp_updL (vp_updL (vp_updL (vp_updL (vp_updL (vp_updL (vp_updL (vp_updL (fun _ => 0) 120 0) 121 0) 122 0) 123 0) 124 0) 125 0) 126 0) 127 0) 128 0) 129 0) 130 0) 131 0) 132 0) 133 0) 134 0) 135 0) 136 0) 137 0) 138 0) 139 0) 140 0) 141 0))))] rfl dX10_lay_36 (fun H locs w => ?_)
  refine lv_iinc (v := 22) (lv' := [(4, .int 22), (0, .ref a0), (1, .int 3), (2, .int x0), (3, .int x1)]) C.1 C.2.1 dX10_lay_37 hl (k := 0) rfl (by decide) (by decide) rfl (fun ls hl => ?_)
  refine lv_goto (tgt := 17) C.1 C.2.1 dX10_lay_40 (by decide) ?_
  refine lv_iload C.1 C.2.1 dX10_lay_17 (lv_at hl 0 rfl) ?_
  refine lv_bipush (v := 40) C.1 C.2.1 dX10_lay_19 (by decide) ?_
  refine b_icmp_ge_f C (tgt := 43) dX10_lay_21 (by decide) (by decide) ?_
  refine lv_aload_n C.1 C.2.1 dX10_lay_24 rfl (lv_at hl 1 rfl) ?_
  refine r_get C w 0 rfl rfl 2 (by decide) fl_RX10_18 (v := .ref a3) rfl dX10_lay_25 ?_
  refine lv_iload_n C.1 C.2.1 dX10_lay_28 rfl (lv_at hl 2 rfl) ?_
  refine lv_bipush (v := 40) C.1 C.2.1 dX10_lay_29 (by decide) ?_
  refine r_imul C (v := 120) dX10_lay_31 (by decide) ?_
  refine lv_iload C.1 C.2.1 dX10_lay_32 (lv_at hl 0 rfl) ?_
  refine r_iadd C (v := 142) dX10_lay_34 (by decide) ?_
  refine lv_lconst (v := 0) C.1 C.2.1 dX10_lay_35 (by decide) ?_
  refine r_last C w 3 rfl (vinD (by decide)) (vp_updL (vp_updL (vp_updL (vp_updL (vp_updL (vp_updL (vp_updL (vp_updL (vp_updL (vp_updL (vp_updL (vp_updL (vp_updL (vp_updL (vp_updL (vp_updL (vp_updL (vp_updL (vp_updL (vp_updL (vp_updL (vp_updL (vp_updL (fun _ => 0) 120 0) 121 0) 122 0) 123 0) 124 0) 125 0) 126 0) 127 0) 128 0) 129 0) 130 0) 131 0) 132 0) 133 0) 134 0) 135 0) 136 0) 137 0) 138 0) 139 0) 140 0) 141 0) 142 0) rfl [(a0, .inr (10, [.ref a1, .ref a2, .ref a3])), (a1, .inl (cy 1, 4, .inl (upd (upd (upd (upd (upd (fun _ => 0) 0 (-1)) 1 (-1)) 2 (-1)) 3 (-1)) 3 x0))), (a2, .inl (cy 1, 4, .inl (upd (fun _ => 0) 3 x1))), (a3, .inl (cy 2, 160, .inr (.inl (vp_updL (vp_updL (vp_updL (vp_updL (vp_updL (vp_updL (vp_updL (vp_updL (vp_updL (vp_updL (vp_updL (vp_updL (vp_updL (vp_updL (vp_updL (vp_updL (vp_updL (vp_updL (vp_updL (vp_updL (vp_updL (vp_updL (vp_updL (fun _ => 0) 120 0) 121 0) 122 0) 123 0) 124 0) 125 0) 126 0) 127 0) 128 0) 129 0) 130 0) 131 0) 132 0) 133 0) 134 0) 135 0) 136 0) 137 0) 138 0) 139 0) 140 0) 141 0) 142 0))))] rfl dX10_lay_36 (fun H locs w => ?_)
  refine lv_iinc (v := 23) (lv' := [(4, .int 23), (0, .ref a0), (1, .int 3), (2, .int x0), (3, .int x1)]) C.1 C.2.1 dX10_lay_37 hl (k := 0) rfl (by decide) (by decide) rfl (fun ls hl => ?_)
  refine lv_goto (tgt := 17) C.1 C.2.1 dX10_lay_40 (by decide) ?_
  refine lv_iload C.1 C.2.1 dX10_lay_17 (lv_at hl 0 rfl) ?_
  refine lv_bipush (v := 40) C.1 C.2.1 dX10_lay_19 (by decide) ?_
  refine b_icmp_ge_f C (tgt := 43) dX10_lay_21 (by decide) (by decide) ?_
  refine lv_aload_n C.1 C.2.1 dX10_lay_24 rfl (lv_at hl 1 rfl) ?_
  refine r_get C w 0 rfl rfl 2 (by decide) fl_RX10_18 (v := .ref a3) rfl dX10_lay_25 ?_
  refine lv_iload_n C.1 C.2.1 dX10_lay_28 rfl (lv_at hl 2 rfl) ?_
  refine lv_bipush (v := 40) C.1 C.2.1 dX10_lay_29 (by decide) ?_
  refine r_imul C (v := 120) dX10_lay_31 (by decide) ?_
  refine lv_iload C.1 C.2.1 dX10_lay_32 (lv_at hl 0 rfl) ?_
  refine r_iadd C (v := 143) dX10_lay_34 (by decide) ?_
  refine lv_lconst (v := 0) C.1 C.2.1 dX10_lay_35 (by decide) ?_
  refine r_last C w 3 rfl (vinD (by decide)) (vp_updL (vp_updL (vp_updL (vp_updL (vp_updL (vp_updL (vp_updL (vp_updL (vp_updL (vp_updL (vp_updL (vp_updL (vp_updL (vp_updL (vp_updL (vp_updL (vp_updL (vp_updL (vp_updL (vp_updL (vp_updL (vp_updL (vp_updL (vp_updL (fun _ => 0) 120 0) 121 0) 122 0) 123 0) 124 0) 125 0) 126 0) 127 0) 128 0) 129 0) 130 0) 131 0) 132 0) 133 0) 134 0) 135 0) 136 0) 137 0) 138 0) 139 0) 140 0) 141 0) 142 0) 143 0) rfl [(a0, .inr (10, [.ref a1, .ref a2, .ref a3])), (a1, .inl (cy 1, 4, .inl (upd (upd (upd (upd (upd (fun _ => 0) 0 (-1)) 1 (-1)) 2 (-1)) 3 (-1)) 3 x0))), (a2, .inl (cy 1, 4, .inl (upd (fun _ => 0) 3 x1))), (a3, .inl (cy 2, 160, .inr (.inl (vp_updL (vp_updL (vp_updL (vp_updL (vp_updL (vp_updL (vp_updL (vp_updL (vp_updL (vp_updL (vp_updL (vp_updL (vp_updL (vp_updL (vp_updL (vp_updL (vp_updL (vp_updL (vp_updL (vp_updL (vp_updL (vp_updL (vp_updL (vp_updL (fun _ => 0) 120 0) 121 0) 122 0) 123 0) 124 0) 125 0) 126 0) 127 0) 128 0) 129 0) 130 0) 131 0) 132 0) 133 0) 134 0) 135 0) 136 0) 137 0) 138 0) 139 0) 140 0) 141 0) 142 0) 143 0))))] rfl dX10_lay_36 (fun H locs w => ?_)
  refine lv_iinc (v := 24) (lv' := [(4, .int 24), (0, .ref a0), (1, .int 3), (2, .int x0), (3, .int x1)]) C.1 C.2.1 dX10_lay_37 hl (k := 0) rfl (by decide) (by decide) rfl (fun ls hl => ?_)
  refine lv_goto (tgt := 17) C.1 C.2.1 dX10_lay_40 (by decide) ?_
  refine lv_iload C.1 C.2.1 dX10_lay_17 (lv_at hl 0 rfl) ?_
  refine lv_bipush (v := 40) C.1 C.2.1 dX10_lay_19 (by decide) ?_
  refine b_icmp_ge_f C (tgt := 43) dX10_lay_21 (by decide) (by decide) ?_
  refine lv_aload_n C.1 C.2.1 dX10_lay_24 rfl (lv_at hl 1 rfl) ?_
  refine r_get C w 0 rfl rfl 2 (by decide) fl_RX10_18 (v := .ref a3) rfl dX10_lay_25 ?_
  refine lv_iload_n C.1 C.2.1 dX10_lay_28 rfl (lv_at hl 2 rfl) ?_
  refine lv_bipush (v := 40) C.1 C.2.1 dX10_lay_29 (by decide) ?_
  refine r_imul C (v := 120) dX10_lay_31 (by decide) ?_
  refine lv_iload C.1 C.2.1 dX10_lay_32 (lv_at hl 0 rfl) ?_
  refine r_iadd C (v := 144) dX10_lay_34 (by decide) ?_
  refine lv_lconst (v := 0) C.1 C.2.1 dX10_lay_35 (by decide) ?_
  refine r_last C w 3 rfl (vinD (by decide)) (vp_updL (vp_updL (vp_updL (vp_updL (vp_updL (vp_updL (vp_updL (vp_updL (vp_updL (vp_updL (vp_updL (vp_updL (vp_updL (vp_updL (vp_updL (vp_updL (vp_updL (vp_updL (vp_updL (vp_updL (vp_updL (vp_updL (vp_updL (vp_updL (vp_updL (fun _ => 0) 120 0) 121 0) 122 0) 123 0) 124 0) 125 0) 126 0) 127 0) 128 0) 129 0) 130 0) 131 0) 132 0) 133 0) 134 0) 135 0) 136 0) 137 0) 138 0) 139 0) 140 0) 141 0) 142 0) 143 0) 144 0) rfl [(a0, .inr (10, [.ref a1, .ref a2, .ref a3])), (a1, .inl (cy 1, 4, .inl (upd (upd (upd (upd (upd (fun _ => 0) 0 (-1)) 1 (-1)) 2 (-1)) 3 (-1)) 3 x0))), (a2, .inl (cy 1, 4, .inl (upd (fun _ => 0) 3 x1))), (a3, .inl (cy 2, 160, .inr (.inl (vp_updL (vp_updL (vp_updL (vp_updL (vp_updL (vp_updL (vp_updL (vp_updL (vp_updL (vp_updL (vp_updL (vp_updL (vp_updL (vp_updL (vp_updL (vp_updL (vp_updL (vp_updL (vp_updL (vp_updL (vp_updL (vp_updL (vp_updL (vp_updL (vp_updL (fun _ => 0) 120 0) 121 0) 122 0) 123 0) 124 0) 125 0) 126 0) 127 0) 128 0) 129 0) 130 0) 131 0) 132 0) 133 0) 134 0) 135 0) 136 0) 137 0) 138 0) 139 0) 140 0) 141 0) 142 0) 143 0) 144 0))))] rfl dX10_lay_36 (fun H locs w => ?_)
  refine lv_iinc (v := 25) (lv' := [(4, .int 25), (0, .ref a0), (1, .int 3), (2, .int x0), (3, .int x1)]) C.1 C.2.1 dX10_lay_37 hl (k := 0) rfl (by decide) (by decide) rfl (fun ls hl => ?_)
  refine lv_goto (tgt := 17) C.1 C.2.1 dX10_lay_40 (by decide) ?_
  refine lv_iload C.1 C.2.1 dX10_lay_17 (lv_at hl 0 rfl) ?_
  refine lv_bipush (v := 40) C.1 C.2.1 dX10_lay_19 (by decide) ?_
  refine b_icmp_ge_f C (tgt := 43) dX10_lay_21 (by decide) (by decide) ?_
  refine lv_aload_n C.1 C.2.1 dX10_lay_24 rfl (lv_at hl 1 rfl) ?_
  refine r_get C w 0 rfl rfl 2 (by decide) fl_RX10_18 (v := .ref a3) rfl dX10_lay_25 ?_
  refine lv_iload_n C.1 C.2.1 dX10_lay_28 rfl (lv_at hl 2 rfl) ?_
  refine lv_bipush (v := 40) C.1 C.2.1 dX10_lay_29 (by decide) ?_
  refine r_imul C (v := 120) dX10_lay_31 (by decide) ?_
  refine lv_iload C.1 C.2.1 dX10_lay_32 (lv_at hl 0 rfl) ?_
  refine r_iadd C (v := 145) dX10_lay_34 (by decide) ?_
  refine lv_lconst (v := 0) C.1 C.2.1 dX10_lay_35 (by decide) ?_
  refine r_last C w 3 rfl (vinD (by decide)) (vp_updL (vp_updL (vp_updL (vp_updL (vp_updL (vp_updL (vp_updL (vp_updL (vp_updL (vp_updL (vp_updL (vp_updL (vp_updL (vp_updL (vp_updL (vp_updL (vp_updL (vp_updL (vp_updL (vp_updL (vp_updL (vp_updL (vp_updL (vp_updL (vp_updL (vp_updL (fun _ => 0) 120 0) 121 0) 122 0) 123 0) 124 0) 125 0) 126 0) 127 0) 128 0) 129 0) 130 0) 131 0) 132 0) 133 0) 134 0) 135 0) 136 0) 137 0) 138 0) 139 0) 140 0) 141 0) 142 0) 143 0) 144 0) 145 0) rfl [(a0, .inr (10, [.ref a1, .ref a2, .ref a3])), (a1, .inl (cy 1, 4, .inl (upd (upd (upd (upd (upd (fun _ => 0) 0 (-1)) 1 (-1)) 2 (-1)) 3 (-1)) 3 x0))), (a2, .inl (cy 1, 4, .inl (upd (fun _ => 0) 3 x1))), (a3, .inl (cy 2, 160, .inr (.inl (vp_updL (vp_updL (vp_updL (vp_updL (vp_updL (vp_updL (vp_updL (vp_updL (vp_updL (vp_updL (vp_updL (vp_updL (vp_updL (vp_updL (vp_updL (vp_updL (vp_updL (vp_updL (vp_updL (vp_updL (vp_updL (vp_updL (vp_updL (vp_updL (vp_updL (vp_updL (fun _ => 0) 120 0) 121 0) 122 0) 123 0) 124 0) 125 0) 126 0) 127 0) 128 0) 129 0) 130 0) 131 0) 132 0) 133 0) 134 0) 135 0) 136 0) 137 0) 138 0) 139 0) 140 0) 141 0) 142 0) 143 0) 144 0) 145 0))))] rfl dX10_lay_36 (fun H locs w => ?_)
  refine lv_iinc (v := 26) (lv' := [(4, .int 26), (0, .ref a0), (1, .int 3), (2, .int x0), (3, .int x1)]) C.1 C.2.1 dX10_lay_37 hl (k := 0) rfl (by decide) (by decide) rfl (fun ls hl => ?_)
  refine lv_goto (tgt := 17) C.1 C.2.1 dX10_lay_40 (by decide) ?_
  refine lv_iload C.1 C.2.1 dX10_lay_17 (lv_at hl 0 rfl) ?_
  refine lv_bipush (v := 40) C.1 C.2.1 dX10_lay_19 (by decide) ?_
  refine b_icmp_ge_f C (tgt := 43) dX10_lay_21 (by decide) (by decide) ?_
  refine lv_aload_n C.1 C.2.1 dX10_lay_24 rfl (lv_at hl 1 rfl) ?_
  refine r_get C w 0 rfl rfl 2 (by decide) fl_RX10_18 (v := .ref a3) rfl dX10_lay_25 ?_
  refine lv_iload_n C.1 C.2.1 dX10_lay_28 rfl (lv_at hl 2 rfl) ?_
  refine lv_bipush (v := 40) C.1 C.2.1 dX10_lay_29 (by decide) ?_
  refine r_imul C (v := 120) dX10_lay_31 (by decide) ?_
  refine lv_iload C.1 C.2.1 dX10_lay_32 (lv_at hl 0 rfl) ?_
  refine r_iadd C (v := 146) dX10_lay_34 (by decide) ?_
  refine lv_lconst (v := 0) C.1 C.2.1 dX10_lay_35 (by decide) ?_
  refine r_last C w 3 rfl (vinD (by decide)) (vp_updL (vp_updL (vp_updL (vp_updL (vp_updL (vp_updL (vp_updL (vp_updL (vp_updL (vp_updL (vp_updL (vp_updL (vp_updL (vp_updL (vp_updL (vp_updL (vp_updL (vp_updL (vp_updL (vp_updL (vp_updL (vp_updL (vp_updL (vp_updL (vp_updL (vp_updL (vp_updL (fun _ => 0) 120 0) 121 0) 122 0) 123 0) 124 0) 125 0) 126 0) 127 0) 128 0) 129 0) 130 0) 131 0) 132 0) 133 0) 134 0) 135 0) 136 0) 137 0) 138 0) 139 0) 140 0) 141 0) 142 0) 143 0) 144 0) 145 0) 146 0) rfl [(a0, .inr (10, [.ref a1, .ref a2, .ref a3])), (a1, .inl (cy 1, 4, .inl (upd (upd (upd (upd (upd (fun _ => 0) 0 (-1)) 1 (-1)) 2 (-1)) 3 (-1)) 3 x0))), (a2, .inl (cy 1, 4, .inl (upd (fun _ => 0) 3 x1))), (a3, .inl (cy 2, 160, .inr (.inl (vp_updL (vp_updL (vp_updL (vp_updL (vp_updL (vp_updL (vp_updL (vp_updL (vp_updL (vp_updL (vp_updL (vp_updL (vp_updL (vp_updL (vp_updL (vp_updL (vp_updL (vp_updL (vp_updL (vp_updL (vp_updL (vp_updL (vp_updL (vp_updL (vp_updL (vp_updL (vp_updL (fun _ => 0) 120 0) 121 0) 122 0) 123 0) 124 0) 125 0) 126 0) 127 0) 128 0) 129 0) 130 0) 131 0) 132 0) 133 0) 134 0) 135 0) 136 0) 137 0) 138 0) 139 0) 140 0) 141 0) 142 0) 143 0) 144 0) 145 0) 146 0))))] rfl dX10_lay_36 (fun H locs w => ?_)
  refine lv_iinc (v := 27) (lv' := [(4, .int 27), (0, .ref a0), (1, .int 3), (2, .int x0), (3, .int x1)]) C.1 C.2.1 dX10_lay_37 hl (k := 0) rfl (by decide) (by decide) rfl (fun ls hl => ?_)
  refine lv_goto (tgt := 17) C.1 C.2.1 dX10_lay_40 (by decide) ?_
  refine lv_iload C.1 C.2.1 dX10_lay_17 (lv_at hl 0 rfl) ?_
  refine lv_bipush (v := 40) C.1 C.2.1 dX10_lay_19 (by decide) ?_
  refine b_icmp_ge_f C (tgt := 43) dX10_lay_21 (by decide) (by decide) ?_
  refine lv_aload_n C.1 C.2.1 dX10_lay_24 rfl (lv_at hl 1 rfl) ?_
  refine r_get C w 0 rfl rfl 2 (by decide) fl_RX10_18 (v := .ref a3) rfl dX10_lay_25 ?_
  refine lv_iload_n C.1 C.2.1 dX10_lay_28 rfl (lv_at hl 2 rfl) ?_
  refine lv_bipush (v := 40) C.1 C.2.1 dX10_lay_29 (by decide) ?_
  refine r_imul C (v := 120) dX10_lay_31 (by decide) ?_
  refine lv_iload C.1 C.2.1 dX10_lay_32 (lv_at hl 0 rfl) ?_
  refine r_iadd C (v := 147) dX10_lay_34 (by decide) ?_
  refine lv_lconst (v := 0) C.1 C.2.1 dX10_lay_35 (by decide) ?_
  refine r_last C w 3 rfl (vinD (by decide)) (vp_updL (vp_updL (vp_updL (vp_updL (vp_updL (vp_updL (vp_updL (vp_updL (vp_updL (vp_updL (vp_updL (vp_updL (vp_updL (vp_updL (vp_updL (vp_updL (vp_updL (vp_updL (vp_updL (vp_updL (vp_updL (vp_updL (vp_updL (vp_updL (vp_updL (vp_updL (vp_updL (vp_updL (fun _ => 0) 120 0) 121 0) 122 0) 123 0) 124 0) 125 0) 126 0) 127 0) 128 0) 129 0) 130 0) 131 0) 132 0) 133 0) 134 0) 135 0) 136 0) 137 0) 138 0) 139 0) 140 0) 141 0) 142 0) 143 0) 144 0) 145 0) 146 0) 147 0) rfl [(a0, .inr (10, [.ref a1, .ref a2, .ref a3])), (a1, .inl (cy 1, 4, .inl (upd (upd (upd (upd (upd (fun _ => 0) 0 (-1)) 1 (-1)) 2 (-1)) 3 (-1)) 3 x0))), (a2, .inl (cy 1, 4, .inl (upd (fun _ => 0) 3 x1))), (a3, .inl (cy 2, 160, .inr (.inl (vp_updL (vp_updL (vp_updL (vp_updL (vp_updL (vp_updL (vp_updL (vp_updL (vp_updL (vp_updL (vp_updL (vp_updL (vp_updL (vp_updL (vp_updL (vp_updL (vp_updL (vp_updL (vp_updL (vp_updL (vp_updL (vp_updL (vp_updL (vp_updL (vp_updL (vp_updL (vp_updL (vp_updL (fun _ => 0) 120 0) 121 0) 122 0) 123 0) 124 0) 125 0) 126 0) 127 0) 128 0) 129 0) 130 0) 131 0) 132 0) 133 0) 134 0) 135 0) 136 0) 137 0) 138 0) 139 0) 140 0) 141 0) 142 0) 143 0) 144 0) 145 0) 146 0) 147 0))))] rfl dX10_lay_36 (fun H locs w => ?_)
  refine lv_iinc (v := 28) (lv' := [(4, .int 28), (0, .ref a0), (1, .int 3), (2, .int x0), (3, .int x1)]) C.1 C.2.1 dX10_lay_37 hl (k := 0) rfl (by decide) (by decide) rfl (fun ls hl => ?_)
  refine lv_goto (tgt := 17) C.1 C.2.1 dX10_lay_40 (by decide) ?_
  refine lv_iload C.1 C.2.1 dX10_lay_17 (lv_at hl 0 rfl) ?_
  refine lv_bipush (v := 40) C.1 C.2.1 dX10_lay_19 (by decide) ?_
  refine b_icmp_ge_f C (tgt := 43) dX10_lay_21 (by decide) (by decide) ?_
  refine lv_aload_n C.1 C.2.1 dX10_lay_24 rfl (lv_at hl 1 rfl) ?_
  refine r_get C w 0 rfl rfl 2 (by decide) fl_RX10_18 (v := .ref a3) rfl dX10_lay_25 ?_
  refine lv_iload_n C.1 C.2.1 dX10_lay_28 rfl (lv_at hl 2 rfl) ?_
  refine lv_bipush (v := 40) C.1 C.2.1 dX10_lay_29 (by decide) ?_
  refine r_imul C (v := 120) dX10_lay_31 (by decide) ?_
  refine lv_iload C.1 C.2.1 dX10_lay_32 (lv_at hl 0 rfl) ?_
  refine r_iadd C (v := 148) dX10_lay_34 (by decide) ?_
  refine lv_lconst (v := 0) C.1 C.2.1 dX10_lay_35 (by decide) ?_
  refine r_last C w 3 rfl (vinD (by decide)) (vp_updL (vp_updL (vp_updL (vp_updL (vp_updL (vp_updL (vp_updL (vp_updL (vp_updL (vp_updL (vp_updL (vp_updL (vp_updL (vp_updL (vp_updL (vp_updL (vp_updL (vp_updL (vp_updL (vp_updL (vp_updL (vp_updL (vp_updL (vp_updL (vp_updL (vp_updL (vp_updL (vp_updL (vp_updL (fun _ => 0) 120 0) 121 0) 122 0) 123 0) 124 0) 125 0) 126 0) 127 0) 128 0) 129 0) 130 0) 131 0) 132 0) 133 0) 134 0) 135 0) 136 0) 137 0) 138 0) 139 0) 140 0) 141 0) 142 0) 143 0) 144 0) 145 0) 146 0) 147 0) 148 0) rfl [(a0, .inr (10, [.ref a1, .ref a2, .ref a3])), (a1, .inl (cy 1, 4, .inl (upd (upd (upd (upd (upd (fun _ => 0) 0 (-1)) 1 (-1)) 2 (-1)) 3 (-1)) 3 x0))), (a2, .inl (cy 1, 4, .inl (upd (fun _ => 0) 3 x1))), (a3, .inl (cy 2, 160, .inr (.inl (vp_updL (vp_updL (vp_updL (vp_updL (vp_updL (vp_updL (vp_updL (vp_updL (vp_updL (vp_updL (vp_updL (vp_updL (vp_updL (vp_updL (vp_updL (vp_updL (vp_updL (vp_updL (vp_updL (vp_updL (vp_updL (vp_updL (vp_updL (vp_updL (vp_updL (vp_updL (vp_updL (vp_updL (vp_updL (fun _ => 0) 120 0) 121 0) 122 0) 123 0) 124 0) 125 0) 126 0) 127 0) 128 0) 129 0) 130 0) 131 0) 132 0) 133 0) 134 0) 135 0) 136 0) 137 0) 138 0) 139 0) 140 0) 141 0) 142 0) 143 0) 144 0) 145 0) 146 0) 147 0) 148 0))))] rfl dX10_lay_36 (fun H locs w => ?_)
  refine lv_iinc (v := 29) (lv' := [(4, .int 29), (0, .ref a0), (1, .int 3), (2, .int x0), (3, .int x1)]) C.1 C.2.1 dX10_lay_37 hl (k := 0) rfl (by decide) (by decide) rfl (fun ls hl => ?_)
  refine lv_goto (tgt := 17) C.1 C.2.1 dX10_lay_40 (by decide) ?_
  refine lv_iload C.1 C.2.1 dX10_lay_17 (lv_at hl 0 rfl) ?_
  refine lv_bipush (v := 40) C.1 C.2.1 dX10_lay_19 (by decide) ?_
  refine b_icmp_ge_f C (tgt := 43) dX10_lay_21 (by decide) (by decide) ?_
  refine lv_aload_n C.1 C.2.1 dX10_lay_24 rfl (lv_at hl 1 rfl) ?_
  refine r_get C w 0 rfl rfl 2 (by decide) fl_RX10_18 (v := .ref a3) rfl dX10_lay_25 ?_
  refine lv_iload_n C.1 C.2.1 dX10_lay_28 rfl (lv_at hl 2 rfl) ?_
  refine lv_bipush (v := 40) C.1 C.2.1 dX10_lay_29 (by decide) ?_
  refine r_imul C (v := 120) dX10_lay_31 (by decide) ?_
  refine lv_iload C.1 C.2.1 dX10_lay_32 (lv_at hl 0 rfl) ?_
  refine r_iadd C (v := 149) dX10_lay_34 (by decide) ?_
  refine lv_lconst (v := 0) C.1 C.2.1 dX10_lay_35 (by decide) ?_
  refine r_last C w 3 rfl (vinD (by decide)) (vp_updL (vp_updL (vp_updL (vp_updL (vp_updL (vp_updL (vp_updL (vp_updL (vp_updL (vp_updL (vp_updL (vp_updL (vp_updL (vp_updL (vp_updL (vp_updL (vp_updL (vp_updL (vp_updL (vp_updL (vp_updL (vp_updL (vp_updL (vp_updL (vp_updL (vp_updL (vp_updL (vp_updL (vp_updL (vp_updL (fun _ => 0) 120 0) 121 0) 122 0) 123 0) 124 0) 125 0) 126 0) 127 0) 128 0) 129 0) 130 0) 131 0) 132 0) 133 0) 134 0) 135 0) 136 0) 137 0) 138 0) 139 0) 140 0) 141 0) 142 0) 143 0) 144 0) 145 0) 146 0) 147 0) 148 0) 149 0) rfl [(a0, .inr (10, [.ref a1, .ref a2, .ref a3])), (a1, .inl (cy 1, 4, .inl (upd (upd (upd (upd (upd (fun _ => 0) 0 (-1)) 1 (-1)) 2 (-1)) 3 (-1)) 3 x0))), (a2, .inl (cy 1, 4, .inl (upd (fun _ => 0) 3 x1))), (a3, .inl (cy 2, 160, .inr (.inl (vp_updL (vp_updL (vp_updL (vp_updL (vp_updL (vp_updL (vp_updL (vp_updL (vp_updL (vp_updL (vp_updL (vp_updL (vp_updL (vp_updL (vp_updL (vp_updL (vp_updL (vp_updL (vp_updL (vp_updL (vp_updL (vp_updL (vp_updL (vp_updL (vp_updL (vp_updL (vp_updL (vp_updL (vp_updL (vp_updL (fun _ => 0) 120 0) 121 0) 122 0) 123 0) 124 0) 125 0) 126 0) 127 0) 128 0) 129 0) 130 0) 131 0) 132 0) 133 0) 134 0) 135 0) 136 0) 137 0) 138 0) 139 0) 140 0) 141 0) 142 0) 143 0) 144 0) 145 0) 146 0) 147 0) 148 0) 149 0))))] rfl dX10_lay_36 (fun H locs w => ?_)
  refine lv_iinc (v := 30) (lv' := [(4, .int 30), (0, .ref a0), (1, .int 3), (2, .int x0), (3, .int x1)]) C.1 C.2.1 dX10_lay_37 hl (k := 0) rfl (by decide) (by decide) rfl (fun ls hl => ?_)
  refine lv_goto (tgt := 17) C.1 C.2.1 dX10_lay_40 (by decide) ?_
  refine lv_iload C.1 C.2.1 dX10_lay_17 (lv_at hl 0 rfl) ?_
  refine lv_bipush (v := 40) C.1 C.2.1 dX10_lay_19 (by decide) ?_
  refine b_icmp_ge_f C (tgt := 43) dX10_lay_21 (by decide) (by decide) ?_
  refine lv_aload_n C.1 C.2.1 dX10_lay_24 rfl (lv_at hl 1 rfl) ?_
  refine r_get C w 0 rfl rfl 2 (by decide) fl_RX10_18 (v := .ref a3) rfl dX10_lay_25 ?_
  refine lv_iload_n C.1 C.2.1 dX10_lay_28 rfl (lv_at hl 2 rfl) ?_
  refine lv_bipush (v := 40) C.1 C.2.1 dX10_lay_29 (by decide) ?_
  refine r_imul C (v := 120) dX10_lay_31 (by decide) ?_
  refine lv_iload C.1 C.2.1 dX10_lay_32 (lv_at hl 0 rfl) ?_
  refine r_iadd C (v := 150) dX10_lay_34 (by decide) ?_
  refine lv_lconst (v := 0) C.1 C.2.1 dX10_lay_35 (by decide) ?_
  refine r_last C w 3 rfl (vinD (by decide)) (vp_updL (vp_updL (vp_updL (vp_updL (vp_updL (vp_updL (vp_updL (vp_updL (vp_updL (vp_updL (vp_updL (vp_updL (vp_updL (vp_updL (vp_updL (vp_updL (vp_updL (vp_updL (vp_updL (vp_updL (vp_updL (vp_updL (vp_updL (vp_updL (vp_updL (vp_updL (vp_updL (vp_updL (vp_updL (vp_updL (vp_updL (fun _ => 0) 120 0) 121 0) 122 0) 123 0) 124 0) 125 0) 126 0) 127 0) 128 0) 129 0) 130 0) 131 0) 132 0) 133 0) 134 0) 135 0) 136 0) 137 0) 138 0) 139 0) 140 0) 141 0) 142 0) 143 0) 144 0) 145 0) 146 0) 147 0) 148 0) 149 0) 150 0) rfl [(a0, .inr (10, [.ref a1, .ref a2, .ref a3])), (a1, .inl (cy 1, 4, .inl (upd (upd (upd (upd (upd (fun _ => 0) 0 (-1)) 1 (-1)) 2 (-1)) 3 (-1)) 3 x0))), (a2, .inl (cy 1, 4, .inl (upd (fun _ => 0) 3 x1))), (a3, .inl (cy 2, 160, .inr (.inl (vp_updL (vp_updL (vp_updL (vp_updL (vp_updL (vp_updL (vp_updL (vp_updL (vp_updL (vp_updL (vp_updL (vp_updL (vp_updL (vp_updL (vp_updL (vp_updL (vp_updL (vp_updL (vp_updL (vp_updL (vp_updL (vp_updL (vp_updL (vp_updL (vp_updL (vp_updL (vp_updL (vp_updL (vp_updL (vp_updL (vp_updL (fun _ => 0) 120 0) 121 0) 122 0) 123 0) 124 0) 125 0) 126 0) 127 0) 128 0) 129 0) 130 0) 131 0) 132 0) 133 0) 134 0) 135 0) 136 0) 137 0) 138 0) 139 0) 140 0) 141 0) 142 0) 143 0) 144 0) 145 0) 146 0) 147 0) 148 0) 149 0) 150 0))))] rfl dX10_lay_36 (fun H locs w => ?_)
  refine lv_iinc (v := 31) (lv' := [(4, .int 31), (0, .ref a0), (1, .int 3), (2, .int x0), (3, .int x1)]) C.1 C.2.1 dX10_lay_37 hl (k := 0) rfl (by decide) (by decide) rfl (fun ls hl => ?_)
  refine lv_goto (tgt := 17) C.1 C.2.1 dX10_lay_40 (by decide) ?_
  refine lv_iload C.1 C.2.1 dX10_lay_17 (lv_at hl 0 rfl) ?_
  refine lv_bipush (v := 40) C.1 C.2.1 dX10_lay_19 (by decide) ?_
  refine b_icmp_ge_f C (tgt := 43) dX10_lay_21 (by decide) (by decide) ?_
  refine lv_aload_n C.1 C.2.1 dX10_lay_24 rfl (lv_at hl 1 rfl) ?_
  refine r_get C w 0 rfl rfl 2 (by decide) fl_RX10_18 (v := .ref a3) rfl dX10_lay_25 ?_
  refine lv_iload_n C.1 C.2.1 dX10_lay_28 rfl (lv_at hl 2 rfl) ?_
  refine lv_bipush (v := 40) C.1 C.2.1 dX10_lay_29 (by decide) ?_
  refine r_imul C (v := 120) dX10_lay_31 (by decide) ?_
  refine lv_iload C.1 C.2.1 dX10_lay_32 (lv_at hl 0 rfl) ?_
  refine r_iadd C (v := 151) dX10_lay_34 (by decide) ?_
  refine lv_lconst (v := 0) C.1 C.2.1 dX10_lay_35 (by decide) ?_
  refine r_last C w 3 rfl (vinD (by decide)) (vp_updL (vp_updL (vp_updL (vp_updL (vp_updL (vp_updL (vp_updL (vp_updL (vp_updL (vp_updL (vp_updL (vp_updL (vp_updL (vp_updL (vp_updL (vp_updL (vp_updL (vp_updL (vp_updL (vp_updL (vp_updL (vp_updL (vp_updL (vp_updL (vp_updL (vp_updL (vp_updL (vp_updL (vp_updL (vp_updL (vp_updL (vp_updL (fun _ => 0) 120 0) 121 0) 122 0) 123 0) 124 0) 125 0) 126 0) 127 0) 128 0) 129 0) 130 0) 131 0) 132 0) 133 0) 134 0) 135 0) 136 0) 137 0) 138 0) 139 0) 140 0) 141 0) 142 0) 143 0) 144 0) 145 0) 146 0) 147 0) 148 0) 149 0) 150 0) 151 0) rfl [(a0, .inr (10, [.ref a1, .ref a2, .ref a3])), (a1, .inl (cy 1, 4, .inl (upd (upd (upd (upd (upd (fun _ => 0) 0 (-1)) 1 (-1)) 2 (-1)) 3 (-1)) 3 x0))), (a2, .inl (cy 1, 4, .inl (upd (fun _ => 0) 3 x1))), (a3, .inl (cy 2, 160, .inr (.inl (vp_updL (vp_updL (vp_updL (vp_updL (vp_updL (vp_updL (vp_updL (vp_updL (vp_updL (vp_updL (vp_updL (vp_updL (vp_updL (vp_updL (vp_updL (vp_updL (vp_updL (vp_updL (vp_updL (vp_updL (vp_updL (vp_updL (vp_updL (vp_updL (vp_updL (vp_updL (vp_updL (vp_updL (vp_updL (vp_updL (vp_updL (vp_updL (fun _ => 0) 120 0) 121 0) 122 0) 123 0) 124 0) 125 0) 126 0) 127 0) 128 0) 129 0) 130 0) 131 0) 132 0) 133 0) 134 0) 135 0) 136 0) 137 0) 138 0) 139 0) 140 0) 141 0) 142 0) 143 0) 144 0) 145 0) 146 0) 147 0) 148 0) 149 0) 150 0) 151 0))))] rfl dX10_lay_36 (fun H locs w => ?_)
  refine lv_iinc (v := 32) (lv' := [(4, .int 32), (0, .ref a0), (1, .int 3), (2, .int x0), (3, .int x1)]) C.1 C.2.1 dX10_lay_37 hl (k := 0) rfl (by decide) (by decide) rfl (fun ls hl => ?_)
  refine lv_goto (tgt := 17) C.1 C.2.1 dX10_lay_40 (by decide) ?_
  refine lv_iload C.1 C.2.1 dX10_lay_17 (lv_at hl 0 rfl) ?_
  refine lv_bipush (v := 40) C.1 C.2.1 dX10_lay_19 (by decide) ?_
  refine b_icmp_ge_f C (tgt := 43) dX10_lay_21 (by decide) (by decide) ?_
  refine lv_aload_n C.1 C.2.1 dX10_lay_24 rfl (lv_at hl 1 rfl) ?_
  refine r_get C w 0 rfl rfl 2 (by decide) fl_RX10_18 (v := .ref a3) rfl dX10_lay_25 ?_
  refine lv_iload_n C.1 C.2.1 dX10_lay_28 rfl (lv_at hl 2 rfl) ?_
  refine lv_bipush (v := 40) C.1 C.2.1 dX10_lay_29 (by decide) ?_
  refine r_imul C (v := 120) dX10_lay_31 (by decide) ?_
  refine lv_iload C.1 C.2.1 dX10_lay_32 (lv_at hl 0 rfl) ?_
  refine r_iadd C (v := 152) dX10_lay_34 (by decide) ?_
  refine lv_lconst (v := 0) C.1 C.2.1 dX10_lay_35 (by decide) ?_
  refine r_last C w 3 rfl (vinD (by decide)) (vp_updL (vp_updL (vp_updL (vp_updL (vp_updL (vp_updL (vp_updL (vp_updL (vp_updL (vp_updL (vp_updL (vp_updL (vp_updL (vp_updL (vp_updL (vp_updL (vp_updL (vp_updL (vp_updL (vp_updL (vp_updL (vp_updL (vp_updL (vp_updL (vp_updL (vp_updL (vp_updL (vp_updL (vp_updL (vp_updL (vp_updL (vp_updL (vp_updL (fun _ => 0) 120 0) 121 0) 122 0) 123 0) 124 0) 125 0) 126 0) 127 0) 128 0) 129 0) 130 0) 131 0) 132 0) 133 0) 134 0) 135 0) 136 0) 137 0) 138 0) 139 0) 140 0) 141 0) 142 0) 143 0) 144 0) 145 0) 146 0) 147 0) 148 0) 149 0) 150 0) 151 0) 152 0) rfl [(a0, .inr (10, [.ref a1, .ref a2, .ref a3])), (a1, .inl (cy 1, 4, .inl (upd (upd (upd (upd (upd (fun _ => 0) 0 (-1)) 1 (-1)) 2 (-1)) 3 (-1)) 3 x0))), (a2, .inl (cy 1, 4, .inl (upd (fun _ => 0) 3 x1))), (a3, .inl (cy 2, 160, .inr (.inl (vp_updL (vp_updL (vp_updL (vp_updL (vp_updL (vp_updL (vp_updL (vp_updL (vp_updL (vp_updL (vp_updL (vp_updL (vp_updL (vp_updL (vp_updL (vp_updL (vp_updL (vp_updL (vp_updL (vp_updL (vp_updL (vp_updL (vp_updL (vp_updL (vp_updL (vp_updL (vp_updL (vp_updL (vp_updL (vp_updL (vp_updL (vp_updL (vp_updL (fun _ => 0) 120 0) 121 0) 122 0) 123 0) 124 0) 125 0) 126 0) 127 0) 128 0) 129 0) 130 0) 131 0) 132 0) 133 0) 134 0) 135 0) 136 0) 137 0) 138 0) 139 0) 140 0) 141 0) 142 0) 143 0) 144 0) 145 0) 146 0) 147 0) 148 0) 149 0) 150 0) 151 0) 152 0))))] rfl dX10_lay_36 (fun H locs w => ?_)
  refine lv_iinc (v := 33) (lv' := [(4, .int 33), (0, .ref a0), (1, .int 3), (2, .int x0), (3, .int x1)]) C.1 C.2.1 dX10_lay_37 hl (k := 0) rfl (by decide) (by decide) rfl (fun ls hl => ?_)
  refine lv_goto (tgt := 17) C.1 C.2.1 dX10_lay_40 (by decide) ?_
  refine lv_iload C.1 C.2.1 dX10_lay_17 (lv_at hl 0 rfl) ?_
  refine lv_bipush (v := 40) C.1 C.2.1 dX10_lay_19 (by decide) ?_
  refine b_icmp_ge_f C (tgt := 43) dX10_lay_21 (by decide) (by decide) ?_
  refine lv_aload_n C.1 C.2.1 dX10_lay_24 rfl (lv_at hl 1 rfl) ?_
  refine r_get C w 0 rfl rfl 2 (by decide) fl_RX10_18 (v := .ref a3) rfl dX10_lay_25 ?_
  refine lv_iload_n C.1 C.2.1 dX10_lay_28 rfl (lv_at hl 2 rfl) ?_
  refine lv_bipush (v := 40) C.1 C.2.1 dX10_lay_29 (by decide) ?_
  refine r_imul C (v := 120) dX10_lay_31 (by decide) ?_
  refine lv_iload C.1 C.2.1 dX10_lay_32 (lv_at hl 0 rfl) ?_
  refine r_iadd C (v := 153) dX10_lay_34 (by decide) ?_
  refine lv_lconst (v := 0) C.1 C.2.1 dX10_lay_35 (by decide) ?_
  refine r_last C w 3 rfl (vinD (by decide)) (vp_updL (vp_updL (vp_updL (vp_updL (vp_updL (vp_updL (vp_updL (vp_updL (vp_updL (vp_updL (vp_updL (vp_updL (vp_updL (vp_updL (vp_updL (vp_updL (vp_updL (vp_updL (vp_updL (vp_updL (vp_updL (vp_updL (vp_updL (vp_updL (vp_updL (vp_updL (vp_updL (vp_updL (vp_updL (vp_updL (vp_updL (vp_updL (vp_updL (vp_updL (fun _ => 0) 120 0) 121 0) 122 0) 123 0) 124 0) 125 0) 126 0) 127 0) 128 0) 129 0) 130 0) 131 0) 132 0) 133 0) 134 0) 135 0) 136 0) 137 0) 138 0) 139 0) 140 0) 141 0) 142 0) 143 0) 144 0) 145 0) 146 0) 147 0) 148 0) 149 0) 150 0) 151 0) 152 0) 153 0) rfl [(a0, .inr (10, [.ref a1, .ref a2, .ref a3])), (a1, .inl (cy 1, 4, .inl (upd (upd (upd (upd (upd (fun _ => 0) 0 (-1)) 1 (-1)) 2 (-1)) 3 (-1)) 3 x0))), (a2, .inl (cy 1, 4, .inl (upd (fun _ => 0) 3 x1))), (a3, .inl (cy 2, 160, .inr (.inl (vp_updL (vp_updL (vp_updL (vp_updL (vp_updL (vp_updL (vp_updL (vp_updL (vp_updL (vp_updL (vp_updL (vp_updL (vp_updL (vp_updL (vp_updL (vp_updL (vp_updL (vp_updL (vp_updL (vp_updL (vp_updL (vp_updL (vp_updL (vp_updL (vp_updL (vp_updL (vp_updL (vp_updL (vp_updL (vp_updL (vp_updL (vp_updL (vp_updL (vp_updL (fun _ => 0) 120 0) 121 0) 122 0) 123 0) 124 0) 125 0) 126 0) 127 0) 128 0) 129 0) 130 0) 131 0) 132 0) 133 0) 134 0) 135 0) 136 0) 137 0) 138 0) 139 0) 140 0) 141 0) 142 0) 143 0) 144 0) 145 0) 146 0) 147 0) 148 0) 149 0) 150 0) 151 0) 152 0) 153 0))))] rfl dX10_lay_36 (fun H locs w => ?_)
  refine lv_iinc (v := 34) (lv' := [(4, .int 34), (0, .ref a0), (1, .int 3), (2, .int x0), (3, .int x1)]) C.1 C.2.1 dX10_lay_37 hl (k := 0) rfl (by decide) (by decide) rfl (fun ls hl => ?_)
  refine lv_goto (tgt := 17) C.1 C.2.1 dX10_lay_40 (by decide) ?_
  refine lv_iload C.1 C.2.1 dX10_lay_17 (lv_at hl 0 rfl) ?_
  refine lv_bipush (v := 40) C.1 C.2.1 dX10_lay_19 (by decide) ?_
  refine b_icmp_ge_f C (tgt := 43) dX10_lay_21 (by decide) (by decide) ?_
  refine lv_aload_n C.1 C.2.1 dX10_lay_24 rfl (lv_at hl 1 rfl) ?_
  refine r_get C w 0 rfl rfl 2 (by decide) fl_RX10_18 (v := .ref a3) rfl dX10_lay_25 ?_
  refine lv_iload_n C.1 C.2.1 dX10_lay_28 rfl (lv_at hl 2 rfl) ?_
  refine lv_bipush (v := 40) C.1 C.2.1 dX10_lay_29 (by decide) ?_
  refine r_imul C (v := 120) dX10_lay_31 (by decide) ?_
  refine lv_iload C.1 C.2.1 dX10_lay_32 (lv_at hl 0 rfl) ?_
  refine r_iadd C (v := 154) dX10_lay_34 (by decide) ?_
  refine lv_lconst (v := 0) C.1 C.2.1 dX10_lay_35 (by decide) ?_
  refine r_last C w 3 rfl (vinD (by decide)) (vp_updL (vp_updL (vp_updL (vp_updL (vp_updL (vp_updL (vp_updL (vp_updL (vp_updL (vp_updL (vp_updL (vp_updL (vp_updL (vp_updL (vp_updL (vp_updL (vp_updL (vp_updL (vp_updL (vp_updL (vp_updL (vp_updL (vp_updL (vp_updL (vp_updL (vp_updL (vp_updL (vp_updL (vp_updL (vp_updL (vp_updL (vp_updL (vp_updL (vp_updL (vp_updL (fun _ => 0) 120 0) 121 0) 122 0) 123 0) 124 0) 125 0) 126 0) 127 0) 128 0) 129 0) 130 0) 131 0) 132 0) 133 0) 134 0) 135 0) 136 0) 137 0) 138 0) 139 0) 140 0) 141 0) 142 0) 143 0) 144 0) 145 0) 146 0) 147 0) 148 0) 149 0) 150 0) 151 0) 152 0) 153 0) 154 0) rfl [(a0, .inr (10, [.ref a1, .ref a2, .ref a3])), (a1, .inl (cy 1, 4, .inl (upd (upd (upd (upd (upd (fun _ => 0) 0 (-1)) 1 (-1)) 2 (-1)) 3 (-1)) 3 x0))), (a2, .inl (cy 1, 4, .inl (upd (fun _ => 0) 3 x1))), (a3, .inl (cy 2, 160, .inr (.inl (vp_updL (vp_updL (vp_updL (vp_updL (vp_updL (vp_updL (vp_updL (vp_updL (vp_updL (vp_updL (vp_updL (vp_updL (vp_updL (vp_updL (vp_updL (vp_updL (vp_updL (vp_updL (vp_updL (vp_updL (vp_updL (vp_updL (vp_updL (vp_updL (vp_updL (vp_updL (vp_updL (vp_updL (vp_updL (vp_updL (vp_updL (vp_updL (vp_updL (vp_updL (vp_updL (fun _ => 0) 120 0) 121 0) 122 0) 123 0) 124 0) 125 0) 126 0) 127 0) 128 0) 129 0) 130 0) 131 0) 132 0) 133 0) 134 0) 135 0) 136 0) 137 0) 138 0) 139 0) 140 0) 141 0) 142 0) 143 0) 144 0) 145 0) 146 0) 147 0) 148 0) 149 0) 150 0) 151 0) 152 0) 153 0) 154 0))))] rfl dX10_lay_36 (fun H locs w => ?_)
  refine lv_iinc (v := 35) (lv' := [(4, .int 35), (0, .ref a0), (1, .int 3), (2, .int x0), (3, .int x1)]) C.1 C.2.1 dX10_lay_37 hl (k := 0) rfl (by decide) (by decide) rfl (fun ls hl => ?_)
  refine lv_goto (tgt := 17) C.1 C.2.1 dX10_lay_40 (by decide) ?_
  refine lv_iload C.1 C.2.1 dX10_lay_17 (lv_at hl 0 rfl) ?_
  refine lv_bipush (v := 40) C.1 C.2.1 dX10_lay_19 (by decide) ?_
  refine b_icmp_ge_f C (tgt := 43) dX10_lay_21 (by decide) (by decide) ?_
  refine lv_aload_n C.1 C.2.1 dX10_lay_24 rfl (lv_at hl 1 rfl) ?_
  refine r_get C w 0 rfl rfl 2 (by decide) fl_RX10_18 (v := .ref a3) rfl dX10_lay_25 ?_
  refine lv_iload_n C.1 C.2.1 dX10_lay_28 rfl (lv_at hl 2 rfl) ?_
  refine lv_bipush (v := 40) C.1 C.2.1 dX10_lay_29 (by decide) ?_
  refine r_imul C (v := 120) dX10_lay_31 (by decide) ?_
  refine lv_iload C.1 C.2.1 dX10_lay_32 (lv_at hl 0 rfl) ?_
  refine r_iadd C (v := 155) dX10_lay_34 (by decide) ?_
  refine lv_lconst (v := 0) C.1 C.2.1 dX10_lay_35 (by decide) ?_
  refine r_last C w 3 rfl (vinD (by decide)) (vp_updL (vp_updL (vp_updL (vp_updL (vp_updL (vp_updL (vp_updL (vp_updL (vp_updL (vp_updL (vp_updL (vp_updL (vp_updL (vp_updL (vp_updL (vp_updL (vp_updL (vp_updL (vp_updL (vp_updL (vp_updL (vp_updL (vp_updL (vp_updL (vp_updL (vp_updL (vp_updL (vp_updL (vp_updL (vp_updL (vp_updL (vp_updL (vp_updL (vp_updL (vp_updL (vp_updL (fun _ => 0) 120 0) 121 0) 122 0) 123 0) 124 0) 125 0) 126 0) 127 0) 128 0) 129 0) 130 0) 131 0) 132 0) 133 0) 134 0) 135 0) 136 0) 137 0) 138 0) 139 0) 140 0) 141 0) 142 0) 143 0) 144 0) 145 0) 146 0) 147 0) 148 0) 149 0) 150 0) 151 0) 152 0) 153 0) 154 0) 155 0) rfl [(a0, .inr (10, [.ref a1, .ref a2, .ref a3])), (a1, .inl (cy 1, 4, .inl (upd (upd (upd (upd (upd (fun _ => 0) 0 (-1)) 1 (-1)) 2 (-1)) 3 (-1)) 3 x0))), (a2, .inl (cy 1, 4, .inl (upd (fun _ => 0) 3 x1))), (a3, .inl (cy 2, 160, .inr (.inl (vp_updL (vp_updL (vp_updL (vp_updL (vp_updL (vp_updL (vp_updL (vp_updL (vp_updL (vp_updL (vp_updL (vp_updL (vp_updL (vp_updL (vp_updL (vp_updL (vp_updL (vp_updL (vp_updL (vp_updL (vp_updL (vp_updL (vp_updL (vp_updL (vp_updL (vp_updL (vp_updL (vp_updL (vp_updL (vp_updL (vp_updL (vp_updL (vp_updL (vp_updL (vp_updL (vp_updL (fun _ => 0) 120 0) 121 0) 122 0) 123 0) 124 0) 125 0) 126 0) 127 0) 128 0) 129 0) 130 0) 131 0) 132 0) 133 0) 134 0) 135 0) 136 0) 137 0) 138 0) 139 0) 140 0) 141 0) 142 0) 143 0) 144 0) 145 0) 146 0) 147 0) 148 0) 149 0) 150 0) 151 0) 152 0) 153 0) 154 0) 155 0))))] rfl dX10_lay_36 (fun H locs w => ?_)
  refine lv_iinc (v := 36) (lv' := [(4, .int 36), (0, .ref a0), (1, .int 3), (2, .int x0), (3, .int x1)]) C.1 C.2.1 dX10_lay_37 hl (k := 0) rfl (by decide) (by decide) rfl (fun ls hl => ?_)
  refine lv_goto (tgt := 17) C.1 C.2.1 dX10_lay_40 (by decide) ?_
  refine lv_iload C.1 C.2.1 dX10_lay_17 (lv_at hl 0 rfl) ?_
  refine lv_bipush (v := 40) C.1 C.2.1 dX10_lay_19 (by decide) ?_
  refine b_icmp_ge_f C (tgt := 43) dX10_lay_21 (by decide) (by decide) ?_
  refine lv_aload_n C.1 C.2.1 dX10_lay_24 rfl (lv_at hl 1 rfl) ?_
  refine r_get C w 0 rfl rfl 2 (by decide) fl_RX10_18 (v := .ref a3) rfl dX10_lay_25 ?_
  refine lv_iload_n C.1 C.2.1 dX10_lay_28 rfl (lv_at hl 2 rfl) ?_
  refine lv_bipush (v := 40) C.1 C.2.1 dX10_lay_29 (by decide) ?_
  refine r_imul C (v := 120) dX10_lay_31 (by decide) ?_
  refine lv_iload C.1 C.2.1 dX10_lay_32 (lv_at hl 0 rfl) ?_
  refine r_iadd C (v := 156) dX10_lay_34 (by decide) ?_
  refine lv_lconst (v := 0) C.1 C.2.1 dX10_lay_35 (by decide) ?_
  refine r_last C w 3 rfl (vinD (by decide)) (vp_updL (vp_updL (vp_updL (vp_updL (vp_updL (vp_updL (vp_updL (vp_updL (vp_updL (vp_updL (vp_updL (vp_updL (vp_updL (vp_updL (vp_updL (vp_updL (vp_updL (vp_updL (vp_updL (vp_updL (vp_updL (vp_updL (vp_updL (vp_updL (vp_updL (vp_updL (vp_updL (vp_updL (vp_updL (vp_updL (vp_updL (vp_updL (vp_updL (vp_updL (vp_updL (vp_updL (vp_updL (fun _ => 0) 120 0) 121 0) 122 0) 123 0) 124 0) 125 0) 126 0) 127 0) 128 0) 129 0) 130 0) 131 0) 132 0) 133 0) 134 0) 135 0) 136 0) 137 0) 138 0) 139 0) 140 0) 141 0) 142 0) 143 0) 144 0) 145 0) 146 0) 147 0) 148 0) 149 0) 150 0) 151 0) 152 0) 153 0) 154 0) 155 0) 156 0) rfl [(a0, .inr (10, [.ref a1, .ref a2, .ref a3])), (a1, .inl (cy 1, 4, .inl (upd (upd (upd (upd (upd (fun _ => 0) 0 (-1)) 1 (-1)) 2 (-1)) 3 (-1)) 3 x0))), (a2, .inl (cy 1, 4, .inl (upd (fun _ => 0) 3 x1))), (a3, .inl (cy 2, 160, .inr (.inl (vp_updL (vp_updL (vp_updL (vp_updL (vp_updL (vp_updL (vp_updL (vp_updL (vp_updL (vp_updL (vp_updL (vp_updL (vp_updL (vp_updL (vp_updL (vp_updL (vp_updL (vp_updL (vp_updL (vp_updL (vp_updL (vp_updL (vp_updL (vp_updL (vp_updL (vp_updL (vp_updL (vp_updL (vp_updL (vp_updL (vp_updL (vp_updL (vp_updL (vp_updL (vp_updL (vp_updL (vp_updL (fun _ => 0) 120 0) 121 0) 122 0) 123 0) 124 0) 125 0) 126 0) 127 0) 128 0) 129 0) 130 0) 131 0) 132 0) 133 0) 134 0) 135 0) 136 0) 137 0) 138 0) 139 0) 140 0) 141 0) 142 0) 143 0) 144 0) 145 0) 146 0) 147 0) 148 0) 149 0) 150 0) 151 0) 152 0) 153 0) 154 0) 155 0) 156 0))))] rfl dX10_lay_36 (fun H locs w => ?_)
  refine lv_iinc (v := 37) (lv' := [(4, .int 37), (0, .ref a0), (1, .int 3), (2, .int x0), (3, .int x1)]) C.1 C.2.1 dX10_lay_37 hl (k := 0) rfl (by decide) (by decide) rfl (fun ls hl => ?_)
  refine lv_goto (tgt := 17) C.1 C.2.1 dX10_lay_40 (by decide) ?_
  refine lv_iload C.1 C.2.1 dX10_lay_17 (lv_at hl 0 rfl) ?_
  refine lv_bipush (v := 40) C.1 C.2.1 dX10_lay_19 (by decide) ?_
  refine b_icmp_ge_f C (tgt := 43) dX10_lay_21 (by decide) (by decide) ?_
  refine lv_aload_n C.1 C.2.1 dX10_lay_24 rfl (lv_at hl 1 rfl) ?_
  refine r_get C w 0 rfl rfl 2 (by decide) fl_RX10_18 (v := .ref a3) rfl dX10_lay_25 ?_
  refine lv_iload_n C.1 C.2.1 dX10_lay_28 rfl (lv_at hl 2 rfl) ?_
  refine lv_bipush (v := 40) C.1 C.2.1 dX10_lay_29 (by decide) ?_
  refine r_imul C (v := 120) dX10_lay_31 (by decide) ?_
  refine lv_iload C.1 C.2.1 dX10_lay_32 (lv_at hl 0 rfl) ?_
  refine r_iadd C (v := 157) dX10_lay_34 (by decide) ?_
  refine lv_lconst (v := 0) C.1 C.2.1 dX10_lay_35 (by decide) ?_
  refine r_last C w 3 rfl (vinD (by decide)) (vp_updL (vp_updL (vp_updL (vp_updL (vp_updL (vp_updL (vp_updL (vp_updL (vp_updL (vp_updL (vp_updL (vp_updL (vp_updL (vp_updL (vp_updL (vp_updL (vp_updL (vp_updL (vp_updL (vp_updL (vp_updL (vp_updL (vp_updL (vp_updL (vp_updL (vp_updL (vp_updL (vp_updL (vp_updL (vp_updL (vp_updL (vp_updL (vp_updL (vp_updL (vp_updL (vp_updL (vp_updL (vp_updL (fun _ => 0) 120 0) 121 0) 122 0) 123 0) 124 0) 125 0) 126 0) 127 0) 128 0) 129 0) 130 0) 131 0) 132 0) 133 0) 134 0) 135 0) 136 0) 137 0) 138 0) 139 0) 140 0) 141 0) 142 0) 143 0) 144 0) 145 0) 146 0) 147 0) 148 0) 149 0) 150 0) 151 0) 152 0) 153 0) 154 0) 155 0) 156 0) 157 0) rfl [(a0, .inr (10, [.ref a1, .ref a2, .ref a3])), (a1, .inl (cy 1, 4, .inl (upd (upd (upd (upd (upd (fun _ => 0) 0 (-1)) 1 (-1)) 2 (-1)) 3 (-1)) 3 x0))), (a2, .inl (cy 1, 4, .inl (upd (fun _ => 0) 3 x1))), (a3, .inl (cy 2, 160, .inr (.inl (vp_updL (vp_updL (vp_updL (vp_updL (vp_updL (vp_updL (vp_updL (vp_updL (vp_updL (vp_updL (vp_updL (vp_updL (vp_updL (vp_updL (vp_updL (vp_updL (vp_updL (vp_updL (vp_updL (vp_updL (vp_updL (vp_updL (vp_updL (vp_updL (vp_updL (vp_updL (vp_updL (vp_updL (vp_updL (vp_updL (vp_updL (vp_updL (vp_updL (vp_updL (vp_updL (vp_updL (vp_updL (vp_updL (fun _ => 0) 120 0) 121 0) 122 0) 123 0) 124 0) 125 0) 126 0) 127 0) 128 0) 129 0) 130 0) 131 0) 132 0) 133 0) 134 0) 135 0) 136 0) 137 0) 138 0) 139 0) 140 0) 141 0) 142 0) 143 0) 144 0) 145 0) 146 0) 147 0) 148 0) 149 0) 150 0) 151 0) 152 0) 153 0) 154 0) 155 0) 156 0) 157 0))))] rfl dX10_lay_36 (fun H locs w => ?_)
  refine lv_iinc (v := 38) (lv' := [(4, .int 38), (0, .ref a0), (1, .int 3), (2, .int x0), (3, .int x1)]) C.1 C.2.1 dX10_lay_37 hl (k := 0) rfl (by decide) (by decide) rfl (fun ls hl => ?_)
  refine lv_goto (tgt := 17) C.1 C.2.1 dX10_lay_40 (by decide) ?_
  refine lv_iload C.1 C.2.1 dX10_lay_17 (lv_at hl 0 rfl) ?_
  refine lv_bipush (v := 40) C.1 C.2.1 dX10_lay_19 (by decide) ?_
  refine b_icmp_ge_f C (tgt := 43) dX10_lay_21 (by decide) (by decide) ?_
  refine lv_aload_n C.1 C.2.1 dX10_lay_24 rfl (lv_at hl 1 rfl) ?_
  refine r_get C w 0 rfl rfl 2 (by decide) fl_RX10_18 (v := .ref a3) rfl dX10_lay_25 ?_
  refine lv_iload_n C.1 C.2.1 dX10_lay_28 rfl (lv_at hl 2 rfl) ?_
  refine lv_bipush (v := 40) C.1 C.2.1 dX10_lay_29 (by decide) ?_
  refine r_imul C (v := 120) dX10_lay_31 (by decide) ?_
  refine lv_iload C.1 C.2.1 dX10_lay_32 (lv_at hl 0 rfl) ?_
  refine r_iadd C (v := 158) dX10_lay_34 (by decide) ?_
  refine lv_lconst (v := 0) C.1 C.2.1 dX10_lay_35 (by decide) ?_
  refine r_last C w 3 rfl (vinD (by decide)) (vp_updL (vp_updL (vp_updL (vp_updL (vp_updL (vp_updL (vp_updL (vp_updL (vp_updL (vp_updL (vp_updL (vp_updL (vp_updL (vp_updL (vp_updL (vp_updL (vp_updL (vp_updL (vp_updL (vp_updL (vp_updL (vp_updL (vp_updL (vp_updL (vp_updL (vp_updL (vp_updL (vp_updL (vp_updL (vp_updL (vp_updL (vp_updL (vp_updL (vp_updL (vp_updL (vp_updL (vp_updL (vp_updL (vp_updL (fun _ => 0) 120 0) 121 0) 122 0) 123 0) 124 0) 125 0) 126 0) 127 0) 128 0) 129 0) 130 0) 131 0) 132 0) 133 0) 134 0) 135 0) 136 0) 137 0) 138 0) 139 0) 140 0) 141 0) 142 0) 143 0) 144 0) 145 0) 146 0) 147 0) 148 0) 149 0) 150 0) 151 0) 152 0) 153 0) 154 0) 155 0) 156 0) 157 0) 158 0) rfl [(a0, .inr (10, [.ref a1, .ref a2, .ref a3])), (a1, .inl (cy 1, 4, .inl (upd (upd (upd (upd (upd (fun _ => 0) 0 (-1)) 1 (-1)) 2 (-1)) 3 (-1)) 3 x0))), (a2, .inl (cy 1, 4, .inl (upd (fun _ => 0) 3 x1))), (a3, .inl (cy 2, 160, .inr (.inl (vp_updL (vp_updL (vp_updL (vp_updL (vp_updL (vp_updL (vp_updL (vp_updL (vp_updL (vp_updL (vp_updL (vp_updL (vp_updL (vp_updL (vp_updL (vp_updL (vp_updL (vp_updL (vp_updL (vp_updL (vp_updL (vp_updL (vp_updL (vp_updL (vp_updL (vp_updL (vp_updL (vp_updL (vp_updL (vp_updL (vp_updL (vp_updL (vp_updL (vp_updL (vp_updL (vp_updL (vp_updL (vp_updL (vp_updL (fun _ => 0) 120 0) 121 0) 122 0) 123 0) 124 0) 125 0) 126 0) 127 0) 128 0) 129 0) 130 0) 131 0) 132 0) 133 0) 134 0) 135 0) 136 0) 137 0) 138 0) 139 0) 140 0) 141 0) 142 0) 143 0) 144 0) 145 0) 146 0) 147 0) 148 0) 149 0) 150 0) 151 0) 152 0) 153 0) 154 0) 155 0) 156 0) 157 0) 158 0))))] rfl dX10_lay_36 (fun H locs w => ?_)
  refine lv_iinc (v := 39) (lv' := [(4, .int 39), (0, .ref a0), (1, .int 3), (2, .int x0), (3, .int x1)]) C.1 C.2.1 dX10_lay_37 hl (k := 0) rfl (by decide) (by decide) rfl (fun ls hl => ?_)
  refine lv_goto (tgt := 17) C.1 C.2.1 dX10_lay_40 (by decide) ?_
  refine lv_iload C.1 C.2.1 dX10_lay_17 (lv_at hl 0 rfl) ?_
  refine lv_bipush (v := 40) C.1 C.2.1 dX10_lay_19 (by decide) ?_
  refine b_icmp_ge_f C (tgt := 43) dX10_lay_21 (by decide) (by decide) ?_
  refine lv_aload_n C.1 C.2.1 dX10_lay_24 rfl (lv_at hl 1 rfl) ?_
  refine r_get C w 0 rfl rfl 2 (by decide) fl_RX10_18 (v := .ref a3) rfl dX10_lay_25 ?_
  refine lv_iload_n C.1 C.2.1 dX10_lay_28 rfl (lv_at hl 2 rfl) ?_
  refine lv_bipush (v := 40) C.1 C.2.1 dX10_lay_29 (by decide) ?_
  refine r_imul C (v := 120) dX10_lay_31 (by decide) ?_
  refine lv_iload C.1 C.2.1 dX10_lay_32 (lv_at hl 0 rfl) ?_
  refine r_iadd C (v := 159) dX10_lay_34 (by decide) ?_
  refine lv_lconst (v := 0) C.1 C.2.1 dX10_lay_35 (by decide) ?_
  refine r_last C w 3 rfl (vinD (by decide)) (vp_updL (vp_updL (vp_updL (vp_updL (vp_updL (vp_updL (vp_updL (vp_updL (vp_updL (vp_updL (vp_updL (vp_updL (vp_updL (vp_updL (vp_updL (vp_updL (vp_updL (vp_updL (vp_updL (vp_updL (vp_updL (vp_updL (vp_updL (vp_updL (vp_updL (vp_updL (vp_updL (vp_updL (vp_updL (vp_updL (vp_updL (vp_updL (vp_updL (vp_updL (vp_updL (vp_updL (vp_updL (vp_updL (vp_updL (vp_updL (fun _ => 0) 120 0) 121 0) 122 0) 123 0) 124 0) 125 0) 126 0) 127 0) 128 0) 129 0) 130 0) 131 0) 132 0) 133 0) 134 0) 135 0) 136 0) 137 0) 138 0) 139 0) 140 0) 141 0) 142 0) 143 0) 144 0) 145 0) 146 0) 147 0) 148 0) 149 0) 150 0) 151 0) 152 0) 153 0) 154 0) 155 0) 156 0) 157 0) 158 0) 159 0) rfl [(a0, .inr (10, [.ref a1, .ref a2, .ref a3])), (a1, .inl (cy 1, 4, .inl (upd (upd (upd (upd (upd (fun _ => 0) 0 (-1)) 1 (-1)) 2 (-1)) 3 (-1)) 3 x0))), (a2, .inl (cy 1, 4, .inl (upd (fun _ => 0) 3 x1))), (a3, .inl (cy 2, 160, .inr (.inl (vp_updL (vp_updL (vp_updL (vp_updL (vp_updL (vp_updL (vp_updL (vp_updL (vp_updL (vp_updL (vp_updL (vp_updL (vp_updL (vp_updL (vp_updL (vp_updL (vp_updL (vp_updL (vp_updL (vp_updL (vp_updL (vp_updL (vp_updL (vp_updL (vp_updL (vp_updL (vp_updL (vp_updL (vp_updL (vp_updL (vp_updL (vp_updL (vp_updL (vp_updL (vp_updL (vp_updL (vp_updL (vp_updL (vp_updL (vp_updL (fun _ => 0) 120 0) 121 0) 122 0) 123 0) 124 0) 125 0) 126 0) 127 0) 128 0) 129 0) 130 0) 131 0) 132 0) 133 0) 134 0) 135 0) 136 0) 137 0) 138 0) 139 0) 140 0) 141 0) 142 0) 143 0) 144 0) 145 0) 146 0) 147 0) 148 0) 149 0) 150 0) 151 0) 152 0) 153 0) 154 0) 155 0) 156 0) 157 0) 158 0) 159 0))))] rfl dX10_lay_36 (fun H locs w => ?_)
  refine lv_iinc (v := 40) (lv' := [(4, .int 40), (0, .ref a0), (1, .int 3), (2, .int x0), (3, .int x1)]) C.1 C.2.1 dX10_lay_37 hl (k := 0) rfl (by decide) (by decide) rfl (fun ls hl => ?_)
  refine lv_goto (tgt := 17) C.1 C.2.1 dX10_lay_40 (by decide) ?_
  refine lv_iload C.1 C.2.1 dX10_lay_17 (lv_at hl 0 rfl) ?_
  refine lv_bipush (v := 40) C.1 C.2.1 dX10_lay_19 (by decide) ?_
  refine b_icmp_ge_t C (tgt := 43) dX10_lay_21 (by decide) (by decide) ?_
  exact r_vret C w hlocks () hr rfl trivial [0, 1, 2, 3] rfl rfl ⟨Nat.le_of_ble_eq_true rfl, Nat.le_of_ble_eq_true rfl⟩ dX10_lay_43
set_option maxRecDepth 100000 in
set_option maxHeartbeats 4000000 in
theorem c_X11_tray_6 (l : Launch) (D : va_G) (cy : Nat → ClassId) (a0 a1 a2 a3 a4 a5 a6 a8 a9 a10 : Nat) (x1 : Int32) (x2 : Int32) (k0 : ¬ x1 < 0) (k1 : ¬ 4 ≤ x1) (k2 : ¬ x2 < 0) (k3 : x2 ≤ 40) : Ct l D cy yX11_tray cX11_tray 4 none 1 24 0 0 [(a0, .inr (11, [.ref a1, .int 0, .int 0, .int (-1), .ref a2, .ref a3, .ref a4, .ref a5, .ref a6, .null])), (a5, .inr (10, [.ref a8, .ref a9, .ref a10])), (a8, .inl (cy 1, 4, .inl (upd (upd (upd (upd (fun _ => 0) 0 (-1)) 1 (-1)) 2 (-1)) 3 (-1)))), (a9, .inl (cy 1, 4, .inl (fun _ => 0))), (a10, .inl (cy 2, 160, .inr (.inl (fun _ => 0))))] [.ref a0, .int 3, .int x1, .int x2] (fun u : Unit => none) (fun _ => True) (fun u : Unit => [(a0, .inr (11, [.ref a1, .int 0, .int 0, .int (-1), .ref a2, .ref a3, .ref a4, .ref a5, .ref a6, .null])), (a5, .inr (10, [.ref a8, .ref a9, .ref a10])), (a8, .inl (cy 1, 4, .inl (upd (upd (upd (upd (upd (fun _ => 0) 0 (-1)) 1 (-1)) 2 (-1)) 3 (-1)) 3 x1))), (a9, .inl (cy 1, 4, .inl (upd (fun _ => 0) 3 x2))), (a10, .inl (cy 2, 160, .inr (.inl (vp_updL (vp_updL (vp_updL (vp_updL (vp_updL (vp_updL (vp_updL (vp_updL (vp_updL (vp_updL (vp_updL (vp_updL (vp_updL (vp_updL (vp_updL (vp_updL (vp_updL (vp_updL (vp_updL (vp_updL (vp_updL (vp_updL (vp_updL (vp_updL (vp_updL (vp_updL (vp_updL (vp_updL (vp_updL (vp_updL (vp_updL (vp_updL (vp_updL (vp_updL (vp_updL (vp_updL (vp_updL (vp_updL (vp_updL (vp_updL (fun _ => 0) 120 0) 121 0) 122 0) 123 0) 124 0) 125 0) 126 0) 127 0) 128 0) 129 0) 130 0) 131 0) 132 0) 133 0) 134 0) 135 0) 136 0) 137 0) 138 0) 139 0) 140 0) 141 0) 142 0) 143 0) 144 0) 145 0) 146 0) 147 0) 148 0) 149 0) 150 0) 151 0) 152 0) 153 0) 154 0) 155 0) 156 0) 157 0) 158 0) 159 0))))]) := by
  refine Ct.of (by decide +kernel) (Nat.le_of_ble_eq_true rfl) ?_
  intro p e s m args below meth c A ls C hr hlocks hml hnm w hl
  have hl : lv_has ls 4 [(0, .ref a0), (1, .int 3), (2, .int x1), (3, .int x2)] := hl
  refine lv_aload_n C.1 C.2.1 dX11_tray_0 rfl (lv_at hl 0 rfl) ?_
  refine lv_iload_n C.1 C.2.1 dX11_tray_1 rfl (lv_at hl 1 rfl) ?_
  refine r_callV C w fv_RX11_317 (c_X11_checkTray_4 l D cy a0 a1 a2 a3 a4 a5 a6) (hl.1.trans hml.symm) [0] [1, 2, 3, 4] (wr := [(a5, .inr (10, [.ref a8, .ref a9, .ref a10])), (a8, .inl (cy 1, 4, .inl (upd (upd (upd (upd (fun _ => 0) 0 (-1)) 1 (-1)) 2 (-1)) 3 (-1)))), (a9, .inl (cy 1, 4, .inl (fun _ => 0))), (a10, .inl (cy 2, 160, .inr (.inl (fun _ => 0))))]) ⟨rfl, rfl, rfl, rfl, by decide⟩ 0 rfl rfl rfl rfl rfl ⟨Nat.le_of_ble_eq_true rfl, Nat.le_of_ble_eq_true rfl, Nat.le_of_ble_eq_true rfl⟩ 0 0 ⟨rfl, rfl, Nat.le_of_ble_eq_true rfl, Nat.le_of_ble_eq_true rfl⟩ dX11_tray_2 (fun u H locs hp w => ?_)
  have w : Wd D A s.heap [(a5, .inr (10, [.ref a8, .ref a9, .ref a10])), (a8, .inl (cy 1, 4, .inl (upd (upd (upd (upd (fun _ => 0) 0 (-1)) 1 (-1)) 2 (-1)) 3 (-1)))), (a9, .inl (cy 1, 4, .inl (fun _ => 0))), (a10, .inl (cy 2, 160, .inr (.inl (fun _ => 0)))), (a0, .inr (11, [.ref a1, .int 0, .int 0, .int (-1), .ref a2, .ref a3, .ref a4, .ref a5, .ref a6, .null]))] _ _ := w
  refine r_top (g2 := F0 m 5 ls []) rfl ?_
  refine lv_iload_n C.1 C.2.1 dX11_tray_5 rfl (lv_at hl 2 rfl) ?_
  refine b_if_lt_f C (tgt := 24) dX11_tray_6 (by decide) k0 ?_
  refine lv_iload_n C.1 C.2.1 dX11_tray_9 rfl (lv_at hl 2 rfl) ?_
  refine lv_iconst (v := 4) C.1 C.2.1 dX11_tray_10 (by decide) ?_
  refine b_icmp_ge_f C (tgt := 24) dX11_tray_11 (by decide) k1 ?_
  refine lv_iload_n C.1 C.2.1 dX11_tray_14 rfl (lv_at hl 3 rfl) ?_
  refine b_if_lt_f C (tgt := 24) dX11_tray_15 (by decide) k2 ?_
  refine lv_iload_n C.1 C.2.1 dX11_tray_18 rfl (lv_at hl 3 rfl) ?_
  refine lv_bipush (v := 40) C.1 C.2.1 dX11_tray_19 (by decide) ?_
  refine b_icmp_le_t C (tgt := 35) dX11_tray_21 (by decide) k3 ?_
  refine lv_aload_n C.1 C.2.1 dX11_tray_35 rfl (lv_at hl 0 rfl) ?_
  refine r_get C w 4 rfl rfl 7 (by decide) fl_RX11_36 (v := .ref a5) rfl dX11_tray_36 ?_
  refine lv_iload_n C.1 C.2.1 dX11_tray_39 rfl (lv_at hl 1 rfl) ?_
  refine lv_iload_n C.1 C.2.1 dX11_tray_40 rfl (lv_at hl 2 rfl) ?_
  refine lv_iload_n C.1 C.2.1 dX11_tray_41 rfl (lv_at hl 3 rfl) ?_
  refine r_callV C w fv_RX11_322 (c_X10_lay_1 l D cy a5 a8 a9 a10 x1 x2) (hl.1.trans hml.symm) [0, 1, 2, 3] [4] (wr := [(a0, .inr (11, [.ref a1, .int 0, .int 0, .int (-1), .ref a2, .ref a3, .ref a4, .ref a5, .ref a6, .null]))]) ⟨rfl, rfl, rfl, rfl, by decide⟩ 0 rfl rfl rfl rfl rfl ⟨Nat.le_of_ble_eq_true rfl, Nat.le_of_ble_eq_true rfl, Nat.le_of_ble_eq_true rfl⟩ 0 0 ⟨rfl, rfl, Nat.le_of_ble_eq_true rfl, Nat.le_of_ble_eq_true rfl⟩ dX11_tray_42 (fun u H locs hp w => ?_)
  have w : Wd D A s.heap [(a0, .inr (11, [.ref a1, .int 0, .int 0, .int (-1), .ref a2, .ref a3, .ref a4, .ref a5, .ref a6, .null])), (a5, .inr (10, [.ref a8, .ref a9, .ref a10])), (a8, .inl (cy 1, 4, .inl (upd (upd (upd (upd (upd (fun _ => 0) 0 (-1)) 1 (-1)) 2 (-1)) 3 (-1)) 3 x1))), (a9, .inl (cy 1, 4, .inl (upd (fun _ => 0) 3 x2))), (a10, .inl (cy 2, 160, .inr (.inl (vp_updL (vp_updL (vp_updL (vp_updL (vp_updL (vp_updL (vp_updL (vp_updL (vp_updL (vp_updL (vp_updL (vp_updL (vp_updL (vp_updL (vp_updL (vp_updL (vp_updL (vp_updL (vp_updL (vp_updL (vp_updL (vp_updL (vp_updL (vp_updL (vp_updL (vp_updL (vp_updL (vp_updL (vp_updL (vp_updL (vp_updL (vp_updL (vp_updL (vp_updL (vp_updL (vp_updL (vp_updL (vp_updL (vp_updL (vp_updL (fun _ => 0) 120 0) 121 0) 122 0) 123 0) 124 0) 125 0) 126 0) 127 0) 128 0) 129 0) 130 0) 131 0) 132 0) 133 0) 134 0) 135 0) 136 0) 137 0) 138 0) 139 0) 140 0) 141 0) 142 0) 143 0) 144 0) 145 0) 146 0) 147 0) 148 0) 149 0) 150 0) 151 0) 152 0) 153 0) 154 0) 155 0) 156 0) 157 0) 158 0) 159 0))))] _ _ := w
  refine r_top (g2 := F0 m 45 ls []) rfl ?_
  exact r_vret C w hlocks () hr rfl trivial [0, 1, 2, 3, 4] rfl rfl ⟨Nat.le_of_ble_eq_true rfl, Nat.le_of_ble_eq_true rfl⟩ dX11_tray_45
set_option maxRecDepth 100000 in
set_option maxHeartbeats 4000000 in
theorem c_X10_lay_2 (l : Launch) (D : va_G) (cy : Nat → ClassId) (a0 a1 a2 a3 : Nat) (x0 : Int32) (x1 : Int32) : Ct l D cy yX10_lay cX10_lay 5 none 0 0 0 0 [(a0, .inr (10, [.ref a1, .ref a2, .ref a3])), (a1, .inl (cy 1, 4, .inl (upd (upd (upd (upd (fun _ => 0) 0 (-1)) 1 (-1)) 2 (-1)) 3 (-1)))), (a2, .inl (cy 1, 4, .inl (fun _ => 0))), (a3, .inl (cy 2, 160, .inr (.inl (fun _ => 0))))] [.ref a0, .int 2, .int x0, .int x1] (fun u : Unit => none) (fun _ => True) (fun u : Unit => [(a0, .inr (10, [.ref a1, .ref a2, .ref a3])), (a1, .inl (cy 1, 4, .inl (upd (upd (upd (upd (upd (fun _ => 0) 0 (-1)) 1 (-1)) 2 (-1)) 3 (-1)) 2 x0))), (a2, .inl (cy 1, 4, .inl (upd (fun _ => 0) 2 x1))), (a3, .inl (cy 2, 160, .inr (.inl (vp_updL (vp_updL (vp_updL (vp_updL (vp_updL (vp_updL (vp_updL (vp_updL (vp_updL (vp_updL (vp_updL (vp_updL (vp_updL (vp_updL (vp_updL (vp_updL (vp_updL (vp_updL (vp_updL (vp_updL (vp_updL (vp_updL (vp_updL (vp_updL (vp_updL (vp_updL (vp_updL (vp_updL (vp_updL (vp_updL (vp_updL (vp_updL (vp_updL (vp_updL (vp_updL (vp_updL (vp_updL (vp_updL (vp_updL (vp_updL (fun _ => 0) 80 0) 81 0) 82 0) 83 0) 84 0) 85 0) 86 0) 87 0) 88 0) 89 0) 90 0) 91 0) 92 0) 93 0) 94 0) 95 0) 96 0) 97 0) 98 0) 99 0) 100 0) 101 0) 102 0) 103 0) 104 0) 105 0) 106 0) 107 0) 108 0) 109 0) 110 0) 111 0) 112 0) 113 0) 114 0) 115 0) 116 0) 117 0) 118 0) 119 0))))]) := by
  refine Ct.of (by decide +kernel) (Nat.le_of_ble_eq_true rfl) ?_
  intro p e s m args below meth c A ls C hr hlocks hml hnm w hl
  have hl : lv_has ls 5 [(0, .ref a0), (1, .int 2), (2, .int x0), (3, .int x1)] := hl
  refine lv_aload_n C.1 C.2.1 dX10_lay_0 rfl (lv_at hl 0 rfl) ?_
  refine r_get C w 0 rfl rfl 0 (by decide) fl_RX10_9 (v := .ref a1) rfl dX10_lay_1 ?_
  refine lv_iload_n C.1 C.2.1 dX10_lay_4 rfl (lv_at hl 1 rfl) ?_
  refine lv_iload_n C.1 C.2.1 dX10_lay_5 rfl (lv_at hl 2 rfl) ?_
  refine r_iast C w 1 rfl (vinD (by decide)) (upd (upd (upd (upd (upd (fun _ => 0) 0 (-1)) 1 (-1)) 2 (-1)) 3 (-1)) 2 x0) rfl [(a0, .inr (10, [.ref a1, .ref a2, .ref a3])), (a1, .inl (cy 1, 4, .inl (upd (upd (upd (upd (upd (fun _ => 0) 0 (-1)) 1 (-1)) 2 (-1)) 3 (-1)) 2 x0))), (a2, .inl (cy 1, 4, .inl (fun _ => 0))), (a3, .inl (cy 2, 160, .inr (.inl (fun _ => 0))))] rfl dX10_lay_6 (fun H locs w => ?_)
  refine lv_aload_n C.1 C.2.1 dX10_lay_7 rfl (lv_at hl 0 rfl) ?_
  refine r_get C w 0 rfl rfl 1 (by decide) fl_RX10_15 (v := .ref a2) rfl dX10_lay_8 ?_
  refine lv_iload_n C.1 C.2.1 dX10_lay_11 rfl (lv_at hl 1 rfl) ?_
  refine lv_iload_n C.1 C.2.1 dX10_lay_12 rfl (lv_at hl 3 rfl) ?_
  refine r_iast C w 2 rfl (vinD (by decide)) (upd (fun _ => 0) 2 x1) rfl [(a0, .inr (10, [.ref a1, .ref a2, .ref a3])), (a1, .inl (cy 1, 4, .inl (upd (upd (upd (upd (upd (fun _ => 0) 0 (-1)) 1 (-1)) 2 (-1)) 3 (-1)) 2 x0))), (a2, .inl (cy 1, 4, .inl (upd (fun _ => 0) 2 x1))), (a3, .inl (cy 2, 160, .inr (.inl (fun _ => 0))))] rfl dX10_lay_13 (fun H locs w => ?_)
  refine lv_iconst (v := 0) C.1 C.2.1 dX10_lay_14 (by decide) ?_
  refine lv_istore (lv' := [(4, .int 0), (0, .ref a0), (1, .int 2), (2, .int x0), (3, .int x1)]) C.1 C.2.1 dX10_lay_15 hl (by decide) rfl (fun ls hl => ?_)
  refine lv_iload C.1 C.2.1 dX10_lay_17 (lv_at hl 0 rfl) ?_
  refine lv_bipush (v := 40) C.1 C.2.1 dX10_lay_19 (by decide) ?_
  refine b_icmp_ge_f C (tgt := 43) dX10_lay_21 (by decide) (by decide) ?_
  refine lv_aload_n C.1 C.2.1 dX10_lay_24 rfl (lv_at hl 1 rfl) ?_
  refine r_get C w 0 rfl rfl 2 (by decide) fl_RX10_18 (v := .ref a3) rfl dX10_lay_25 ?_
  refine lv_iload_n C.1 C.2.1 dX10_lay_28 rfl (lv_at hl 2 rfl) ?_
  refine lv_bipush (v := 40) C.1 C.2.1 dX10_lay_29 (by decide) ?_
  refine r_imul C (v := 80) dX10_lay_31 (by decide) ?_
  refine lv_iload C.1 C.2.1 dX10_lay_32 (lv_at hl 0 rfl) ?_
  refine r_iadd C (v := 80) dX10_lay_34 (by decide) ?_
  refine lv_lconst (v := 0) C.1 C.2.1 dX10_lay_35 (by decide) ?_
  refine r_last C w 3 rfl (vinD (by decide)) (vp_updL (fun _ => 0) 80 0) rfl [(a0, .inr (10, [.ref a1, .ref a2, .ref a3])), (a1, .inl (cy 1, 4, .inl (upd (upd (upd (upd (upd (fun _ => 0) 0 (-1)) 1 (-1)) 2 (-1)) 3 (-1)) 2 x0))), (a2, .inl (cy 1, 4, .inl (upd (fun _ => 0) 2 x1))), (a3, .inl (cy 2, 160, .inr (.inl (vp_updL (fun _ => 0) 80 0))))] rfl dX10_lay_36 (fun H locs w => ?_)
  refine lv_iinc (v := 1) (lv' := [(4, .int 1), (0, .ref a0), (1, .int 2), (2, .int x0), (3, .int x1)]) C.1 C.2.1 dX10_lay_37 hl (k := 0) rfl (by decide) (by decide) rfl (fun ls hl => ?_)
  refine lv_goto (tgt := 17) C.1 C.2.1 dX10_lay_40 (by decide) ?_
  refine lv_iload C.1 C.2.1 dX10_lay_17 (lv_at hl 0 rfl) ?_
  refine lv_bipush (v := 40) C.1 C.2.1 dX10_lay_19 (by decide) ?_
  refine b_icmp_ge_f C (tgt := 43) dX10_lay_21 (by decide) (by decide) ?_
  refine lv_aload_n C.1 C.2.1 dX10_lay_24 rfl (lv_at hl 1 rfl) ?_
  refine r_get C w 0 rfl rfl 2 (by decide) fl_RX10_18 (v := .ref a3) rfl dX10_lay_25 ?_
  refine lv_iload_n C.1 C.2.1 dX10_lay_28 rfl (lv_at hl 2 rfl) ?_
  refine lv_bipush (v := 40) C.1 C.2.1 dX10_lay_29 (by decide) ?_
  refine r_imul C (v := 80) dX10_lay_31 (by decide) ?_
  refine lv_iload C.1 C.2.1 dX10_lay_32 (lv_at hl 0 rfl) ?_
  refine r_iadd C (v := 81) dX10_lay_34 (by decide) ?_
  refine lv_lconst (v := 0) C.1 C.2.1 dX10_lay_35 (by decide) ?_
  refine r_last C w 3 rfl (vinD (by decide)) (vp_updL (vp_updL (fun _ => 0) 80 0) 81 0) rfl [(a0, .inr (10, [.ref a1, .ref a2, .ref a3])), (a1, .inl (cy 1, 4, .inl (upd (upd (upd (upd (upd (fun _ => 0) 0 (-1)) 1 (-1)) 2 (-1)) 3 (-1)) 2 x0))), (a2, .inl (cy 1, 4, .inl (upd (fun _ => 0) 2 x1))), (a3, .inl (cy 2, 160, .inr (.inl (vp_updL (vp_updL (fun _ => 0) 80 0) 81 0))))] rfl dX10_lay_36 (fun H locs w => ?_)
  refine lv_iinc (v := 2) (lv' := [(4, .int 2), (0, .ref a0), (1, .int 2), (2, .int x0), (3, .int x1)]) C.1 C.2.1 dX10_lay_37 hl (k := 0) rfl (by decide) (by decide) rfl (fun ls hl => ?_)
  refine lv_goto (tgt := 17) C.1 C.2.1 dX10_lay_40 (by decide) ?_
  refine lv_iload C.1 C.2.1 dX10_lay_17 (lv_at hl 0 rfl) ?_
  refine lv_bipush (v := 40) C.1 C.2.1 dX10_lay_19 (by decide) ?_
  refine b_icmp_ge_f C (tgt := 43) dX10_lay_21 (by decide) (by decide) ?_
  refine lv_aload_n C.1 C.2.1 dX10_lay_24 rfl (lv_at hl 1 rfl) ?_
  refine r_get C w 0 rfl rfl 2 (by decide) fl_RX10_18 (v := .ref a3) rfl dX10_lay_25 ?_
  refine lv_iload_n C.1 C.2.1 dX10_lay_28 rfl (lv_at hl 2 rfl) ?_
  refine lv_bipush (v := 40) C.1 C.2.1 dX10_lay_29 (by decide) ?_
  refine r_imul C (v := 80) dX10_lay_31 (by decide) ?_
  refine lv_iload C.1 C.2.1 dX10_lay_32 (lv_at hl 0 rfl) ?_
  refine r_iadd C (v := 82) dX10_lay_34 (by decide) ?_
  refine lv_lconst (v := 0) C.1 C.2.1 dX10_lay_35 (by decide) ?_
  refine r_last C w 3 rfl (vinD (by decide)) (vp_updL (vp_updL (vp_updL (fun _ => 0) 80 0) 81 0) 82 0) rfl [(a0, .inr (10, [.ref a1, .ref a2, .ref a3])), (a1, .inl (cy 1, 4, .inl (upd (upd (upd (upd (upd (fun _ => 0) 0 (-1)) 1 (-1)) 2 (-1)) 3 (-1)) 2 x0))), (a2, .inl (cy 1, 4, .inl (upd (fun _ => 0) 2 x1))), (a3, .inl (cy 2, 160, .inr (.inl (vp_updL (vp_updL (vp_updL (fun _ => 0) 80 0) 81 0) 82 0))))] rfl dX10_lay_36 (fun H locs w => ?_)
  refine lv_iinc (v := 3) (lv' := [(4, .int 3), (0, .ref a0), (1, .int 2), (2, .int x0), (3, .int x1)]) C.1 C.2.1 dX10_lay_37 hl (k := 0) rfl (by decide) (by decide) rfl (fun ls hl => ?_)
  refine lv_goto (tgt := 17) C.1 C.2.1 dX10_lay_40 (by decide) ?_
  refine lv_iload C.1 C.2.1 dX10_lay_17 (lv_at hl 0 rfl) ?_
  refine lv_bipush (v := 40) C.1 C.2.1 dX10_lay_19 (by decide) ?_
  refine b_icmp_ge_f C (tgt := 43) dX10_lay_21 (by decide) (by decide) ?_
  refine lv_aload_n C.1 C.2.1 dX10_lay_24 rfl (lv_at hl 1 rfl) ?_
  refine r_get C w 0 rfl rfl 2 (by decide) fl_RX10_18 (v := .ref a3) rfl dX10_lay_25 ?_
  refine lv_iload_n C.1 C.2.1 dX10_lay_28 rfl (lv_at hl 2 rfl) ?_
  refine lv_bipush (v := 40) C.1 C.2.1 dX10_lay_29 (by decide) ?_
  refine r_imul C (v := 80) dX10_lay_31 (by decide) ?_
  refine lv_iload C.1 C.2.1 dX10_lay_32 (lv_at hl 0 rfl) ?_
  refine r_iadd C (v := 83) dX10_lay_34 (by decide) ?_
  refine lv_lconst (v := 0) C.1 C.2.1 dX10_lay_35 (by decide) ?_
  refine r_last C w 3 rfl (vinD (by decide)) (vp_updL (vp_updL (vp_updL (vp_updL (fun _ => 0) 80 0) 81 0) 82 0) 83 0) rfl [(a0, .inr (10, [.ref a1, .ref a2, .ref a3])), (a1, .inl (cy 1, 4, .inl (upd (upd (upd (upd (upd (fun _ => 0) 0 (-1)) 1 (-1)) 2 (-1)) 3 (-1)) 2 x0))), (a2, .inl (cy 1, 4, .inl (upd (fun _ => 0) 2 x1))), (a3, .inl (cy 2, 160, .inr (.inl (vp_updL (vp_updL (vp_updL (vp_updL (fun _ => 0) 80 0) 81 0) 82 0) 83 0))))] rfl dX10_lay_36 (fun H locs w => ?_)
  refine lv_iinc (v := 4) (lv' := [(4, .int 4), (0, .ref a0), (1, .int 2), (2, .int x0), (3, .int x1)]) C.1 C.2.1 dX10_lay_37 hl (k := 0) rfl (by decide) (by decide) rfl (fun ls hl => ?_)
  refine lv_goto (tgt := 17) C.1 C.2.1 dX10_lay_40 (by decide) ?_
  refine lv_iload C.1 C.2.1 dX10_lay_17 (lv_at hl 0 rfl) ?_
  refine lv_bipush (v := 40) C.1 C.2.1 dX10_lay_19 (by decide) ?_
  refine b_icmp_ge_f C (tgt := 43) dX10_lay_21 (by decide) (by decide) ?_
  refine lv_aload_n C.1 C.2.1 dX10_lay_24 rfl (lv_at hl 1 rfl) ?_
  refine r_get C w 0 rfl rfl 2 (by decide) fl_RX10_18 (v := .ref a3) rfl dX10_lay_25 ?_
  refine lv_iload_n C.1 C.2.1 dX10_lay_28 rfl (lv_at hl 2 rfl) ?_
  refine lv_bipush (v := 40) C.1 C.2.1 dX10_lay_29 (by decide) ?_
  refine r_imul C (v := 80) dX10_lay_31 (by decide) ?_
  refine lv_iload C.1 C.2.1 dX10_lay_32 (lv_at hl 0 rfl) ?_
  refine r_iadd C (v := 84) dX10_lay_34 (by decide) ?_
  refine lv_lconst (v := 0) C.1 C.2.1 dX10_lay_35 (by decide) ?_
  refine r_last C w 3 rfl (vinD (by decide)) (vp_updL (vp_updL (vp_updL (vp_updL (vp_updL (fun _ => 0) 80 0) 81 0) 82 0) 83 0) 84 0) rfl [(a0, .inr (10, [.ref a1, .ref a2, .ref a3])), (a1, .inl (cy 1, 4, .inl (upd (upd (upd (upd (upd (fun _ => 0) 0 (-1)) 1 (-1)) 2 (-1)) 3 (-1)) 2 x0))), (a2, .inl (cy 1, 4, .inl (upd (fun _ => 0) 2 x1))), (a3, .inl (cy 2, 160, .inr (.inl (vp_updL (vp_updL (vp_updL (vp_updL (vp_updL (fun _ => 0) 80 0) 81 0) 82 0) 83 0) 84 0))))] rfl dX10_lay_36 (fun H locs w => ?_)
  refine lv_iinc (v := 5) (lv' := [(4, .int 5), (0, .ref a0), (1, .int 2), (2, .int x0), (3, .int x1)]) C.1 C.2.1 dX10_lay_37 hl (k := 0) rfl (by decide) (by decide) rfl (fun ls hl => ?_)
  refine lv_goto (tgt := 17) C.1 C.2.1 dX10_lay_40 (by decide) ?_
  refine lv_iload C.1 C.2.1 dX10_lay_17 (lv_at hl 0 rfl) ?_
  refine lv_bipush (v := 40) C.1 C.2.1 dX10_lay_19 (by decide) ?_
  refine b_icmp_ge_f C (tgt := 43) dX10_lay_21 (by decide) (by decide) ?_
  refine lv_aload_n C.1 C.2.1 dX10_lay_24 rfl (lv_at hl 1 rfl) ?_
  refine r_get C w 0 rfl rfl 2 (by decide) fl_RX10_18 (v := .ref a3) rfl dX10_lay_25 ?_
  refine lv_iload_n C.1 C.2.1 dX10_lay_28 rfl (lv_at hl 2 rfl) ?_
  refine lv_bipush (v := 40) C.1 C.2.1 dX10_lay_29 (by decide) ?_
  refine r_imul C (v := 80) dX10_lay_31 (by decide) ?_
  refine lv_iload C.1 C.2.1 dX10_lay_32 (lv_at hl 0 rfl) ?_
  refine r_iadd C (v := 85) dX10_lay_34 (by decide) ?_
  refine lv_lconst (v := 0) C.1 C.2.1 dX10_lay_35 (by decide) ?_
  refine r_last C w 3 rfl (vinD (by decide)) (vp_updL (vp_updL (vp_updL (vp_updL (vp_updL (vp_updL (fun _ => 0) 80 0) 81 0) 82 0) 83 0) 84 0) 85 0) rfl [(a0, .inr (10, [.ref a1, .ref a2, .ref a3])), (a1, .inl (cy 1, 4, .inl (upd (upd (upd (upd (upd (fun _ => 0) 0 (-1)) 1 (-1)) 2 (-1)) 3 (-1)) 2 x0))), (a2, .inl (cy 1, 4, .inl (upd (fun _ => 0) 2 x1))), (a3, .inl (cy 2, 160, .inr (.inl (vp_updL (vp_updL (vp_updL (vp_updL (vp_updL (vp_updL (fun _ => 0) 80 0) 81 0) 82 0) 83 0) 84 0) 85 0))))] rfl dX10_lay_36 (fun H locs w => ?_)
  refine lv_iinc (v := 6) (lv' := [(4, .int 6), (0, .ref a0), (1, .int 2), (2, .int x0), (3, .int x1)]) C.1 C.2.1 dX10_lay_37 hl (k := 0) rfl (by decide) (by decide) rfl (fun ls hl => ?_)
  refine lv_goto (tgt := 17) C.1 C.2.1 dX10_lay_40 (by decide) ?_
  refine lv_iload C.1 C.2.1 dX10_lay_17 (lv_at hl 0 rfl) ?_
  refine lv_bipush (v := 40) C.1 C.2.1 dX10_lay_19 (by decide) ?_
  refine b_icmp_ge_f C (tgt := 43) dX10_lay_21 (by decide) (by decide) ?_
  refine lv_aload_n C.1 C.2.1 dX10_lay_24 rfl (lv_at hl 1 rfl) ?_
  refine r_get C w 0 rfl rfl 2 (by decide) fl_RX10_18 (v := .ref a3) rfl dX10_lay_25 ?_
  refine lv_iload_n C.1 C.2.1 dX10_lay_28 rfl (lv_at hl 2 rfl) ?_
  refine lv_bipush (v := 40) C.1 C.2.1 dX10_lay_29 (by decide) ?_
  refine r_imul C (v := 80) dX10_lay_31 (by decide) ?_
  refine lv_iload C.1 C.2.1 dX10_lay_32 (lv_at hl 0 rfl) ?_
  refine r_iadd C (v := 86) dX10_lay_34 (by decide) ?_
  refine lv_lconst (v := 0) C.1 C.2.1 dX10_lay_35 (by decide) ?_
  refine r_last C w 3 rfl (vinD (by decide)) (vp_updL (vp_updL (vp_updL (vp_updL (vp_updL (vp_updL (vp_updL (fun _ => 0) 80 0) 81 0) 82 0) 83 0) 84 0) 85 0) 86 0) rfl [(a0, .inr (10, [.ref a1, .ref a2, .ref a3])), (a1, .inl (cy 1, 4, .inl (upd (upd (upd (upd (upd (fun _ => 0) 0 (-1)) 1 (-1)) 2 (-1)) 3 (-1)) 2 x0))), (a2, .inl (cy 1, 4, .inl (upd (fun _ => 0) 2 x1))), (a3, .inl (cy 2, 160, .inr (.inl (vp_updL (vp_updL (vp_updL (vp_updL (vp_updL (vp_updL (vp_updL (fun _ => 0) 80 0) 81 0) 82 0) 83 0) 84 0) 85 0) 86 0))))] rfl dX10_lay_36 (fun H locs w => ?_)
  refine lv_iinc (v := 7) (lv' := [(4, .int 7), (0, .ref a0), (1, .int 2), (2, .int x0), (3, .int x1)]) C.1 C.2.1 dX10_lay_37 hl (k := 0) rfl (by decide) (by decide) rfl (fun ls hl => ?_)
  refine lv_goto (tgt := 17) C.1 C.2.1 dX10_lay_40 (by decide) ?_
  refine lv_iload C.1 C.2.1 dX10_lay_17 (lv_at hl 0 rfl) ?_
  refine lv_bipush (v := 40) C.1 C.2.1 dX10_lay_19 (by decide) ?_
  refine b_icmp_ge_f C (tgt := 43) dX10_lay_21 (by decide) (by decide) ?_
  refine lv_aload_n C.1 C.2.1 dX10_lay_24 rfl (lv_at hl 1 rfl) ?_
  refine r_get C w 0 rfl rfl 2 (by decide) fl_RX10_18 (v := .ref a3) rfl dX10_lay_25 ?_
  refine lv_iload_n C.1 C.2.1 dX10_lay_28 rfl (lv_at hl 2 rfl) ?_
  refine lv_bipush (v := 40) C.1 C.2.1 dX10_lay_29 (by decide) ?_
  refine r_imul C (v := 80) dX10_lay_31 (by decide) ?_
  refine lv_iload C.1 C.2.1 dX10_lay_32 (lv_at hl 0 rfl) ?_
  refine r_iadd C (v := 87) dX10_lay_34 (by decide) ?_
  refine lv_lconst (v := 0) C.1 C.2.1 dX10_lay_35 (by decide) ?_
  refine r_last C w 3 rfl (vinD (by decide)) (vp_updL (vp_updL (vp_updL (vp_updL (vp_updL (vp_updL (vp_updL (vp_updL (fun _ => 0) 80 0) 81 0) 82 0) 83 0) 84 0) 85 0) 86 0) 87 0) rfl [(a0, .inr (10, [.ref a1, .ref a2, .ref a3])), (a1, .inl (cy 1, 4, .inl (upd (upd (upd (upd (upd (fun _ => 0) 0 (-1)) 1 (-1)) 2 (-1)) 3 (-1)) 2 x0))), (a2, .inl (cy 1, 4, .inl (upd (fun _ => 0) 2 x1))), (a3, .inl (cy 2, 160, .inr (.inl (vp_updL (vp_updL (vp_updL (vp_updL (vp_updL (vp_updL (vp_updL (vp_updL (fun _ => 0) 80 0) 81 0) 82 0) 83 0) 84 0) 85 0) 86 0) 87 0))))] rfl dX10_lay_36 (fun H locs w => ?_)
  refine lv_iinc (v := 8) (lv' := [(4, .int 8), (0, .ref a0), (1, .int 2), (2, .int x0), (3, .int x1)]) C.1 C.2.1 dX10_lay_37 hl (k := 0) rfl (by decide) (by decide) rfl (fun ls hl => ?_)
  refine lv_goto (tgt := 17) C.1 C.2.1 dX10_lay_40 (by decide) ?_
  refine lv_iload C.1 C.2.1 dX10_lay_17 (lv_at hl 0 rfl) ?_
  refine lv_bipush (v := 40) C.1 C.2.1 dX10_lay_19 (by decide) ?_
  refine b_icmp_ge_f C (tgt := 43) dX10_lay_21 (by decide) (by decide) ?_
  refine lv_aload_n C.1 C.2.1 dX10_lay_24 rfl (lv_at hl 1 rfl) ?_
  refine r_get C w 0 rfl rfl 2 (by decide) fl_RX10_18 (v := .ref a3) rfl dX10_lay_25 ?_
  refine lv_iload_n C.1 C.2.1 dX10_lay_28 rfl (lv_at hl 2 rfl) ?_
  refine lv_bipush (v := 40) C.1 C.2.1 dX10_lay_29 (by decide) ?_
  refine r_imul C (v := 80) dX10_lay_31 (by decide) ?_
  refine lv_iload C.1 C.2.1 dX10_lay_32 (lv_at hl 0 rfl) ?_
  refine r_iadd C (v := 88) dX10_lay_34 (by decide) ?_
  refine lv_lconst (v := 0) C.1 C.2.1 dX10_lay_35 (by decide) ?_
  refine r_last C w 3 rfl (vinD (by decide)) (vp_updL (vp_updL (vp_updL (vp_updL (vp_updL (vp_updL (vp_updL (vp_updL (vp_updL (fun _ => 0) 80 0) 81 0) 82 0) 83 0) 84 0) 85 0) 86 0) 87 0) 88 0) rfl [(a0, .inr (10, [.ref a1, .ref a2, .ref a3])), (a1, .inl (cy 1, 4, .inl (upd (upd (upd (upd (upd (fun _ => 0) 0 (-1)) 1 (-1)) 2 (-1)) 3 (-1)) 2 x0))), (a2, .inl (cy 1, 4, .inl (upd (fun _ => 0) 2 x1))), (a3, .inl (cy 2, 160, .inr (.inl (vp_updL (vp_updL (vp_updL (vp_updL (vp_updL (vp_updL (vp_updL (vp_updL (vp_updL (fun _ => 0) 80 0) 81 0) 82 0) 83 0) 84 0) 85 0) 86 0) 87 0) 88 0))))] rfl dX10_lay_36 (fun H locs w => ?_)
  refine lv_iinc (v := 9) (lv' := [(4, .int 9), (0, .ref a0), (1, .int 2), (2, .int x0), (3, .int x1)]) C.1 C.2.1 dX10_lay_37 hl (k := 0) rfl (by decide) (by decide) rfl (fun ls hl => ?_)
  refine lv_goto (tgt := 17) C.1 C.2.1 dX10_lay_40 (by decide) ?_
  refine lv_iload C.1 C.2.1 dX10_lay_17 (lv_at hl 0 rfl) ?_
  refine lv_bipush (v := 40) C.1 C.2.1 dX10_lay_19 (by decide) ?_
  refine b_icmp_ge_f C (tgt := 43) dX10_lay_21 (by decide) (by decide) ?_
  refine lv_aload_n C.1 C.2.1 dX10_lay_24 rfl (lv_at hl 1 rfl) ?_
  refine r_get C w 0 rfl rfl 2 (by decide) fl_RX10_18 (v := .ref a3) rfl dX10_lay_25 ?_
  refine lv_iload_n C.1 C.2.1 dX10_lay_28 rfl (lv_at hl 2 rfl) ?_
  refine lv_bipush (v := 40) C.1 C.2.1 dX10_lay_29 (by decide) ?_
  refine r_imul C (v := 80) dX10_lay_31 (by decide) ?_
  refine lv_iload C.1 C.2.1 dX10_lay_32 (lv_at hl 0 rfl) ?_
  refine r_iadd C (v := 89) dX10_lay_34 (by decide) ?_
  refine lv_lconst (v := 0) C.1 C.2.1 dX10_lay_35 (by decide) ?_
  refine r_last C w 3 rfl (vinD (by decide)) (vp_updL (vp_updL (vp_updL (vp_updL (vp_updL (vp_updL (vp_updL (vp_updL (vp_updL (vp_updL (fun _ => 0) 80 0) 81 0) 82 0) 83 0) 84 0) 85 0) 86 0) 87 0) 88 0) 89 0) rfl [(a0, .inr (10, [.ref a1, .ref a2, .ref a3])), (a1, .inl (cy 1, 4, .inl (upd (upd (upd (upd (upd (fun _ => 0) 0 (-1)) 1 (-1)) 2 (-1)) 3 (-1)) 2 x0))), (a2, .inl (cy 1, 4, .inl (upd (fun _ => 0) 2 x1))), (a3, .inl (cy 2, 160, .inr (.inl (vp_updL (vp_updL (vp_updL (vp_updL (vp_updL (vp_updL (vp_updL (vp_updL (vp_updL (vp_updL (fun _ => 0) 80 0) 81 0) 82 0) 83 0) 84 0) 85 0) 86 0) 87 0) 88 0) 89 0))))] rfl dX10_lay_36 (fun H locs w => ?_)
  refine lv_iinc (v := 10) (lv' := [(4, .int 10), (0, .ref a0), (1, .int 2), (2, .int x0), (3, .int x1)]) C.1 C.2.1 dX10_lay_37 hl (k := 0) rfl (by decide) (by decide) rfl (fun ls hl => ?_)
  refine lv_goto (tgt := 17) C.1 C.2.1 dX10_lay_40 (by decide) ?_
  refine lv_iload C.1 C.2.1 dX10_lay_17 (lv_at hl 0 rfl) ?_
  refine lv_bipush (v := 40) C.1 C.2.1 dX10_lay_19 (by decide) ?_
  refine b_icmp_ge_f C (tgt := 43) dX10_lay_21 (by decide) (by decide) ?_
  refine lv_aload_n C.1 C.2.1 dX10_lay_24 rfl (lv_at hl 1 rfl) ?_
  refine r_get C w 0 rfl rfl 2 (by decide) fl_RX10_18 (v := .ref a3) rfl dX10_lay_25 ?_
  refine lv_iload_n C.1 C.2.1 dX10_lay_28 rfl (lv_at hl 2 rfl) ?_
  refine lv_bipush (v := 40) C.1 C.2.1 dX10_lay_29 (by decide) ?_
  refine r_imul C (v := 80) dX10_lay_31 (by decide) ?_
  refine lv_iload C.1 C.2.1 dX10_lay_32 (lv_at hl 0 rfl) ?_
  refine r_iadd C (v := 90) dX10_lay_34 (by decide) ?_
  refine lv_lconst (v := 0) C.1 C.2.1 dX10_lay_35 (by decide) ?_
  refine r_last C w 3 rfl (vinD (by decide)) (vp_updL (vp_updL (vp_updL (vp_updL (vp_updL (vp_updL (vp_updL (vp_updL (vp_updL (vp_updL (vp_updL (fun _ => 0) 80 0) 81 0) 82 0) 83 0) 84 0) 85 0) 86 0) 87 0) 88 0) 89 0) 90 0) rfl [(a0, .inr (10, [.ref a1, .ref a2, .ref a3])), (a1, .inl (cy 1, 4, .inl (upd (upd (upd (upd (upd (fun _ => 0) 0 (-1)) 1 (-1)) 2 (-1)) 3 (-1)) 2 x0))), (a2, .inl (cy 1, 4, .inl (upd (fun _ => 0) 2 x1))), (a3, .inl (cy 2, 160, .inr (.inl (vp_updL (vp_updL (vp_updL (vp_updL (vp_updL (vp_updL (vp_updL (vp_updL (vp_updL (vp_updL (vp_updL (fun _ => 0) 80 0) 81 0) 82 0) 83 0) 84 0) 85 0) 86 0) 87 0) 88 0) 89 0) 90 0))))] rfl dX10_lay_36 (fun H locs w => ?_)
  refine lv_iinc (v := 11) (lv' := [(4, .int 11), (0, .ref a0), (1, .int 2), (2, .int x0), (3, .int x1)]) C.1 C.2.1 dX10_lay_37 hl (k := 0) rfl (by decide) (by decide) rfl (fun ls hl => ?_)
  refine lv_goto (tgt := 17) C.1 C.2.1 dX10_lay_40 (by decide) ?_
  refine lv_iload C.1 C.2.1 dX10_lay_17 (lv_at hl 0 rfl) ?_
  refine lv_bipush (v := 40) C.1 C.2.1 dX10_lay_19 (by decide) ?_
  refine b_icmp_ge_f C (tgt := 43) dX10_lay_21 (by decide) (by decide) ?_
  refine lv_aload_n C.1 C.2.1 dX10_lay_24 rfl (lv_at hl 1 rfl) ?_
  refine r_get C w 0 rfl rfl 2 (by decide) fl_RX10_18 (v := .ref a3) rfl dX10_lay_25 ?_
  refine lv_iload_n C.1 C.2.1 dX10_lay_28 rfl (lv_at hl 2 rfl) ?_
  refine lv_bipush (v := 40) C.1 C.2.1 dX10_lay_29 (by decide) ?_
  refine r_imul C (v := 80) dX10_lay_31 (by decide) ?_
  refine lv_iload C.1 C.2.1 dX10_lay_32 (lv_at hl 0 rfl) ?_
  refine r_iadd C (v := 91) dX10_lay_34 (by decide) ?_
  refine lv_lconst (v := 0) C.1 C.2.1 dX10_lay_35 (by decide) ?_
  refine r_last C w 3 rfl (vinD (by decide)) (vp_updL (vp_updL (vp_updL (vp_updL (vp_updL (vp_updL (vp_updL (vp_updL (vp_updL (vp_updL (vp_updL (vp_updL (fun _ => 0) 80 0) 81 0) 82 0) 83 0) 84 0) 85 0) 86 0) 87 0) 88 0) 89 0) 90 0) 91 0) rfl [(a0, .inr (10, [.ref a1, .ref a2, .ref a3])), (a1, .inl (cy 1, 4, .inl (upd (upd (upd (upd (upd (fun _ => 0) 0 (-1)) 1 (-1)) 2 (-1)) 3 (-1)) 2 x0))), (a2, .inl (cy 1, 4, .inl (upd (fun _ => 0) 2 x1))), (a3, .inl (cy 2, 160, .inr (.inl (vp_updL (vp_updL (vp_updL (vp_updL (vp_updL (vp_updL (vp_updL (vp_updL (vp_updL (vp_updL (vp_updL (vp_updL (fun _ => 0) 80 0) 81 0) 82 0) 83 0) 84 0) 85 0) 86 0) 87 0) 88 0) 89 0) 90 0) 91 0))))] rfl dX10_lay_36 (fun H locs w => ?_)
  refine lv_iinc (v := 12) (lv' := [(4, .int 12), (0, .ref a0), (1, .int 2), (2, .int x0), (3, .int x1)]) C.1 C.2.1 dX10_lay_37 hl (k := 0) rfl (by decide) (by decide) rfl (fun ls hl => ?_)
  refine lv_goto (tgt := 17) C.1 C.2.1 dX10_lay_40 (by decide) ?_
  refine lv_iload C.1 C.2.1 dX10_lay_17 (lv_at hl 0 rfl) ?_
  refine lv_bipush (v := 40) C.1 C.2.1 dX10_lay_19 (by decide) ?_
  refine b_icmp_ge_f C (tgt := 43) dX10_lay_21 (by decide) (by decide) ?_
  refine lv_aload_n C.1 C.2.1 dX10_lay_24 rfl (lv_at hl 1 rfl) ?_
  refine r_get C w 0 rfl rfl 2 (by decide) fl_RX10_18 (v := .ref a3) rfl dX10_lay_25 ?_
  refine lv_iload_n C.1 C.2.1 dX10_lay_28 rfl (lv_at hl 2 rfl) ?_
  refine lv_bipush (v := 40) C.1 C.2.1 dX10_lay_29 (by decide) ?_
  refine r_imul C (v := 80) dX10_lay_31 (by decide) ?_
  refine lv_iload C.1 C.2.1 dX10_lay_32 (lv_at hl 0 rfl) ?_
  refine r_iadd C (v := 92) dX10_lay_34 (by decide) ?_
  refine lv_lconst (v := 0) C.1 C.2.1 dX10_lay_35 (by decide) ?_
  refine r_last C w 3 rfl (vinD (by decide)) (vp_updL (vp_updL (vp_updL (vp_updL (vp_updL (vp_updL (vp_updL (vp_updL (vp_updL (vp_updL (vp_updL (vp_updL (vp_updL (fun _ => 0) 80 0) 81 0) 82 0) 83 0) 84 0) 85 0) 86 0) 87 0) 88 0) 89 0) 90 0) 91 0) 92 0) rfl [(a0, .inr (10, [.ref a1, .ref a2, .ref a3])), (a1, .inl (cy 1, 4, .inl (upd (upd (upd (upd (upd (fun _ => 0) 0 (-1)) 1 (-1)) 2 (-1)) 3 (-1)) 2 x0))), (a2, .inl (cy 1, 4, .inl (upd (fun _ => 0) 2 x1))), (a3, .inl (cy 2, 160, .inr (.inl (vp_updL (vp_updL (vp_updL (vp_updL (vp_updL (vp_updL (vp_updL (vp_updL (vp_updL (vp_updL (vp_updL (vp_updL (vp_updL (fun _ => 0) 80 0) 81 0) 82 0) 83 0) 84 0) 85 0) 86 0) 87 0) 88 0) 89 0) 90 0) 91 0) 92 0))))] rfl dX10_lay_36 (fun H locs w => ?_)
  refine lv_iinc (v := 13) (lv' := [(4, .int 13), (0, .ref a0), (1, .int 2), (2, .int x0), (3, .int x1)]) C.1 C.2.1 dX10_lay_37 hl (k := 0) rfl (by decide) (by decide) rfl (fun ls hl => ?_)
  refine lv_goto (tgt := 17) C.1 C.2.1 dX10_lay_40 (by decide) ?_
  refine lv_iload C.1 C.2.1 dX10_lay_17 (lv_at hl 0 rfl) ?_
  refine lv_bipush (v := 40) C.1 C.2.1 dX10_lay_19 (by decide) ?_
  refine b_icmp_ge_f C (tgt := 43) dX10_lay_21 (by decide) (by decide) ?_
  refine lv_aload_n C.1 C.2.1 dX10_lay_24 rfl (lv_at hl 1 rfl) ?_
  refine r_get C w 0 rfl rfl 2 (by decide) fl_RX10_18 (v := .ref a3) rfl dX10_lay_25 ?_
  refine lv_iload_n C.1 C.2.1 dX10_lay_28 rfl (lv_at hl 2 rfl) ?_
  refine lv_bipush (v := 40) C.1 C.2.1 dX10_lay_29 (by decide) ?_
  refine r_imul C (v := 80) dX10_lay_31 (by decide) ?_
  refine lv_iload C.1 C.2.1 dX10_lay_32 (lv_at hl 0 rfl) ?_
  refine r_iadd C (v := 93) dX10_lay_34 (by decide) ?_
  refine lv_lconst (v := 0) C.1 C.2.1 dX10_lay_35 (by decide) ?_
  refine r_last C w 3 rfl (vinD (by decide)) (vp_updL (vp_updL (vp_updL (vp_updL (vp_updL (vp_updL (vp_updL (vp_updL (vp_updL (vp_updL (vp_updL (vp_updL (vp_updL (vp_updL (fun _ => 0) 80 0) 81 0) 82 0) 83 0) 84 0) 85 0) 86 0) 87 0) 88 0) 89 0) 90 0) 91 0) 92 0) 93 0) rfl [(a0, .inr (10, [.ref a1, .ref a2, .ref a3])), (a1, .inl (cy 1, 4, .inl (upd (upd (upd (upd (upd (fun _ => 0) 0 (-1)) 1 (-1)) 2 (-1)) 3 (-1)) 2 x0))), (a2, .inl (cy 1, 4, .inl (upd (fun _ => 0) 2 x1))), (a3, .inl (cy 2, 160, .inr (.inl (vp_updL (vp_updL (vp_updL (vp_updL (vp_updL (vp_updL (vp_updL (vp_updL (vp_updL (vp_updL (vp_updL (vp_updL (vp_updL (vp_updL (fun _ => 0) 80 0) 81 0) 82 0) 83 0) 84 0) 85 0) 86 0) 87 0) 88 0) 89 0) 90 0) 91 0) 92 0) 93 0))))] rfl dX10_lay_36 (fun H locs w => ?_)
  refine lv_iinc (v := 14) (lv' := [(4, .int 14), (0, .ref a0), (1, .int 2), (2, .int x0), (3, .int x1)]) C.1 C.2.1 dX10_lay_37 hl (k := 0) rfl (by decide) (by decide) rfl (fun ls hl => ?_)
  refine lv_goto (tgt := 17) C.1 C.2.1 dX10_lay_40 (by decide) ?_
  refine lv_iload C.1 C.2.1 dX10_lay_17 (lv_at hl 0 rfl) ?_
  refine lv_bipush (v := 40) C.1 C.2.1 dX10_lay_19 (by decide) ?_
  refine b_icmp_ge_f C (tgt := 43) dX10_lay_21 (by decide) (by decide) ?_
  refine lv_aload_n C.1 C.2.1 dX10_lay_24 rfl (lv_at hl 1 rfl) ?_
  refine r_get C w 0 rfl rfl 2 (by decide) fl_RX10_18 (v := .ref a3) rfl dX10_lay_25 ?_
  refine lv_iload_n C.1 C.2.1 dX10_lay_28 rfl (lv_at hl 2 rfl) ?_
  refine lv_bipush (v := 40) C.1 C.2.1 dX10_lay_29 (by decide) ?_
  refine r_imul C (v := 80) dX10_lay_31 (by decide) ?_
  refine lv_iload C.1 C.2.1 dX10_lay_32 (lv_at hl 0 rfl) ?_
  refine r_iadd C (v := 94) dX10_lay_34 (by decide) ?_
  refine lv_lconst (v := 0) C.1 C.2.1 dX10_lay_35 (by decide) ?_
  refine r_last C w 3 rfl (vinD (by decide)) (vp_updL (vp_updL (vp_updL (vp_updL (vp_updL (vp_updL (vp_updL (vp_updL (vp_updL (vp_updL (vp_updL (vp_updL (vp_updL (vp_updL (vp_updL (fun _ => 0) 80 0) 81 0) 82 0) 83 0) 84 0) 85 0) 86 0) 87 0) 88 0) 89 0) 90 0) 91 0) 92 0) 93 0) 94 0) rfl [(a0, .inr (10, [.ref a1, .ref a2, .ref a3])), (a1, .inl (cy 1, 4, .inl (upd (upd (upd (upd (upd (fun _ => 0) 0 (-1)) 1 (-1)) 2 (-1)) 3 (-1)) 2 x0))), (a2, .inl (cy 1, 4, .inl (upd (fun _ => 0) 2 x1))), (a3, .inl (cy 2, 160, .inr (.inl (vp_updL (vp_updL (vp_updL (vp_updL (vp_updL (vp_updL (vp_updL (vp_updL (vp_updL (vp_updL (vp_updL (vp_updL (vp_updL (vp_updL (vp_updL (fun _ => 0) 80 0) 81 0) 82 0) 83 0) 84 0) 85 0) 86 0) 87 0) 88 0) 89 0) 90 0) 91 0) 92 0) 93 0) 94 0))))] rfl dX10_lay_36 (fun H locs w => ?_)
  refine lv_iinc (v := 15) (lv' := [(4, .int 15), (0, .ref a0), (1, .int 2), (2, .int x0), (3, .int x1)]) C.1 C.2.1 dX10_lay_37 hl (k := 0) rfl (by decide) (by decide) rfl (fun ls hl => ?_)
  refine lv_goto (tgt := 17) C.1 C.2.1 dX10_lay_40 (by decide) ?_
  refine lv_iload C.1 C.2.1 dX10_lay_17 (lv_at hl 0 rfl) ?_
  refine lv_bipush (v := 40) C.1 C.2.1 dX10_lay_19 (by decide) ?_
  refine b_icmp_ge_f C (tgt := 43) dX10_lay_21 (by decide) (by decide) ?_
  refine lv_aload_n C.1 C.2.1 dX10_lay_24 rfl (lv_at hl 1 rfl) ?_
  refine r_get C w 0 rfl rfl 2 (by decide) fl_RX10_18 (v := .ref a3) rfl dX10_lay_25 ?_
  refine lv_iload_n C.1 C.2.1 dX10_lay_28 rfl (lv_at hl 2 rfl) ?_
  refine lv_bipush (v := 40) C.1 C.2.1 dX10_lay_29 (by decide) ?_
  refine r_imul C (v := 80) dX10_lay_31 (by decide) ?_
  refine lv_iload C.1 C.2.1 dX10_lay_32 (lv_at hl 0 rfl) ?_
  refine r_iadd C (v := 95) dX10_lay_34 (by decide) ?_
  refine lv_lconst (v := 0) C.1 C.2.1 dX10_lay_35 (by decide) ?_
  refine r_last C w 3 rfl (vinD (by decide)) (vp_updL (vp_updL (vp_updL (vp_updL (vp_updL (vp_updL (vp_updL (vp_updL (vp_updL (vp_updL (vp_updL (vp_updL (vp_updL (vp_updL (vp_updL (vp_updL (fun _ => 0) 80 0) 81 0) 82 0) 83 0) 84 0) 85 0) 86 0) 87 0) 88 0) 89 0) 90 0) 91 0) 92 0) 93 0) 94 0) 95 0) rfl [(a0, .inr (10, [.ref a1, .ref a2, .ref a3])), (a1, .inl (cy 1, 4, .inl (upd (upd (upd (upd (upd (fun _ => 0) 0 (-1)) 1 (-1)) 2 (-1)) 3 (-1)) 2 x0))), (a2, .inl (cy 1, 4, .inl (upd (fun _ => 0) 2 x1))), (a3, .inl (cy 2, 160, .inr (.inl (vp_updL (vp_updL (vp_updL (vp_updL (vp_updL (vp_updL (vp_updL (vp_updL (vp_updL (vp_updL (vp_updL (vp_updL (vp_updL (vp_updL (vp_updL (vp_updL (fun _ => 0) 80 0) 81 0) 82 0) 83 0) 84 0) 85 0) 86 0) 87 0) 88 0) 89 0) 90 0) 91 0) 92 0) 93 0) 94 0) 95 0))))] rfl dX10_lay_36 (fun H locs w => ?_)
  refine lv_iinc (v := 16) (lv' := [(4, .int 16), (0, .ref a0), (1, .int 2), (2, .int x0), (3, .int x1)]) C.1 C.2.1 dX10_lay_37 hl (k := 0) rfl (by decide) (by decide) rfl (fun ls hl => ?_)
  refine lv_goto (tgt := 17) C.1 C.2.1 dX10_lay_40 (by decide) ?_
  refine lv_iload C.1 C.2.1 dX10_lay_17 (lv_at hl 0 rfl) ?_
  refine lv_bipush (v := 40) C.1 C.2.1 dX10_lay_19 (by decide) ?_
  refine b_icmp_ge_f C (tgt := 43) dX10_lay_21 (by decide) (by decide) ?_
  refine lv_aload_n C.1 C.2.1 dX10_lay_24 rfl (lv_at hl 1 rfl) ?_
  refine r_get C w 0 rfl rfl 2 (by decide) fl_RX10_18 (v := .ref a3) rfl dX10_lay_25 ?_
  refine lv_iload_n C.1 C.2.1 dX10_lay_28 rfl (lv_at hl 2 rfl) ?_
  refine lv_bipush (v := 40) C.1 C.2.1 dX10_lay_29 (by decide) ?_
  refine r_imul C (v := 80) dX10_lay_31 (by decide) ?_
  refine lv_iload C.1 C.2.1 dX10_lay_32 (lv_at hl 0 rfl) ?_
  refine r_iadd C (v := 96) dX10_lay_34 (by decide) ?_
  refine lv_lconst (v := 0) C.1 C.2.1 dX10_lay_35 (by decide) ?_
  refine r_last C w 3 rfl (vinD (by decide)) (vp_updL (vp_updL (vp_updL (vp_updL (vp_updL (vp_updL (vp_updL (vp_updL (vp_updL (vp_updL (vp_updL (vp_updL (vp_updL (vp_updL (vp_updL (vp_updL (vp_updL (fun _ => 0) 80 0) 81 0) 82 0) 83 0) 84 0) 85 0) 86 0) 87 0) 88 0) 89 0) 90 0) 91 0) 92 0) 93 0) 94 0) 95 0) 96 0) rfl [(a0, .inr (10, [.ref a1, .ref a2, .ref a3])), (a1, .inl (cy 1, 4, .inl (upd (upd (upd (upd (upd (fun _ => 0) 0 (-1)) 1 (-1)) 2 (-1)) 3 (-1)) 2 x0))), (a2, .inl (cy 1, 4, .inl (upd (fun _ => 0) 2 x1))), (a3, .inl (cy 2, 160, .inr (.inl (vp_updL (vp_updL (vp_updL (vp_updL (vp_updL (vp_updL (vp_updL (vp_updL (vp_updL (vp_updL (vp_updL (vp_updL (vp_updL (vp_updL (vp_updL (vp_updL (vp_updL (fun _ => 0) 80 0) 81 0) 82 0) 83 0) 84 0) 85 0) 86 0) 87 0) 88 0) 89 0) 90 0) 91 0) 92 0) 93 0) 94 0) 95 0) 96 0))))] rfl dX10_lay_36 (fun H locs w => ?_)
  refine lv_iinc (v := 17) (lv' := [(4, .int 17), (0, .ref a0), (1, .int 2), (2, .int x0), (3, .int x1)]) C.1 C.2.1 dX10_lay_37 hl (k := 0) rfl (by decide) (by decide) rfl (fun ls hl => ?_)
  refine lv_goto (tgt := 17) C.1 C.2.1 dX10_lay_40 (by decide) ?_
  refine lv_iload C.1 C.2.1 dX10_lay_17 (lv_at hl 0 rfl) ?_
  refine lv_bipush (v := 40) C.1 C.2.1 dX10_lay_19 (by decide) ?_
  refine b_icmp_ge_f C (tgt := 43) dX10_lay_21 (by decide) (by decide) ?_
  refine lv_aload_n C.1 C.2.1 dX10_lay_24 rfl (lv_at hl 1 rfl) ?_
  refine r_get C w 0 rfl rfl 2 (by decide) fl_RX10_18 (v := .ref a3) rfl dX10_lay_25 ?_
  refine lv_iload_n C.1 C.2.1 dX10_lay_28 rfl (lv_at hl 2 rfl) ?_
  refine lv_bipush (v := 40) C.1 C.2.1 dX10_lay_29 (by decide) ?_
  refine r_imul C (v := 80) dX10_lay_31 (by decide) ?_
  refine lv_iload C.1 C.2.1 dX10_lay_32 (lv_at hl 0 rfl) ?_
  refine r_iadd C (v := 97) dX10_lay_34 (by decide) ?_
  refine lv_lconst (v := 0) C.1 C.2.1 dX10_lay_35 (by decide) ?_
  refine r_last C w 3 rfl (vinD (by decide)) (vp_updL (vp_updL (vp_updL (vp_updL (vp_updL (vp_updL (vp_updL (vp_updL (vp_updL (vp_updL (vp_updL (vp_updL (vp_updL (vp_updL (vp_updL (vp_updL (vp_updL (vp_updL (fun _ => 0) 80 0) 81 0) 82 0) 83 0) 84 0) 85 0) 86 0) 87 0) 88 0) 89 0) 90 0) 91 0) 92 0) 93 0) 94 0) 95 0) 96 0) 97 0) rfl [(a0, .inr (10, [.ref a1, .ref a2, .ref a3])), (a1, .inl (cy 1, 4, .inl (upd (upd (upd (upd (upd (fun _ => 0) 0 (-1)) 1 (-1)) 2 (-1)) 3 (-1)) 2 x0))), (a2, .inl (cy 1, 4, .inl (upd (fun _ => 0) 2 x1))), (a3, .inl (cy 2, 160, .inr (.inl (vp_updL (vp_updL (vp_updL (vp_updL (vp_updL (vp_updL (vp_updL (vp_updL (vp_updL (vp_updL (vp_updL (vp_updL (vp_updL (vp_updL (vp_updL (vp_updL (vp_updL (vp_updL (fun _ => 0) 80 0) 81 0) 82 0) 83 0) 84 0) 85 0) 86 0) 87 0) 88 0) 89 0) 90 0) 91 0) 92 0) 93 0) 94 0) 95 0) 96 0) 97 0))))] rfl dX10_lay_36 (fun H locs w => ?_)
  refine lv_iinc (v := 18) (lv' := [(4, .int 18), (0, .ref a0), (1, .int 2), (2, .int x0), (3, .int x1)]) C.1 C.2.1 dX10_lay_37 hl (k := 0) rfl (by decide) (by decide) rfl (fun ls hl => ?_)
  refine lv_goto (tgt := 17) C.1 C.2.1 dX10_lay_40 (by decide) ?_
  refine lv_iload C.1 C.2.1 dX10_lay_17 (lv_at hl 0 rfl) ?_
  refine lv_bipush (v := 40) C.1 C.2.1 dX10_lay_19 (by decide) ?_
  refine b_icmp_ge_f C (tgt := 43) dX10_lay_21 (by decide) (by decide) ?_
  refine lv_aload_n C.1 C.2.1 dX10_lay_24 rfl (lv_at hl 1 rfl) ?_
  refine r_get C w 0 rfl rfl 2 (by decide) fl_RX10_18 (v := .ref a3) rfl dX10_lay_25 ?_
  refine lv_iload_n C.1 C.2.1 dX10_lay_28 rfl (lv_at hl 2 rfl) ?_
  refine lv_bipush (v := 40) C.1 C.2.1 dX10_lay_29 (by decide) ?_
  refine r_imul C (v := 80) dX10_lay_31 (by decide) ?_
  refine lv_iload C.1 C.2.1 dX10_lay_32 (lv_at hl 0 rfl) ?_
  refine r_iadd C (v := 98) dX10_lay_34 (by decide) ?_
  refine lv_lconst (v := 0) C.1 C.2.1 dX10_lay_35 (by decide) ?_
  refine r_last C w 3 rfl (vinD (by decide)) (vp_updL (vp_updL (vp_updL (vp_updL (vp_updL (vp_updL (vp_updL (vp_updL (vp_updL (vp_updL (vp_updL (vp_updL (vp_updL (vp_updL (vp_updL (vp_updL (vp_updL (vp_updL (vp_updL (fun _ => 0) 80 0) 81 0) 82 0) 83 0) 84 0) 85 0) 86 0) 87 0) 88 0) 89 0) 90 0) 91 0) 92 0) 93 0) 94 0) 95 0) 96 0) 97 0) 98 0) rfl [(a0, .inr (10, [.ref a1, .ref a2, .ref a3])), (a1, .inl (cy 1, 4, .inl (upd (upd (upd (upd (upd (fun _ => 0) 0 (-1)) 1 (-1)) 2 (-1)) 3 (-1)) 2 x0))), (a2, .inl (cy 1, 4, .inl (upd (fun _ => 0) 2 x1))), (a3, .inl (cy 2, 160, .inr (.inl (vp_updL (vp_updL (vp_updL (vp_updL (vp_updL (vp_updL (vp_updL (vp_updL (vp_updL (vp_updL (vp_updL (vp_updL (vp_updL (vp_updL (vp_updL (vp_updL (vp_updL (vp_updL (vp_updL (fun _ => 0) 80 0) 81 0) 82 0) 83 0) 84 0) 85 0) 86 0) 87 0) 88 0) 89 0) 90 0) 91 0) 92 0) 93 0) 94 0) 95 0) 96 0) 97 0) 98 0))))] rfl dX10_lay_36 (fun H locs w => ?_)
  refine lv_iinc (v := 19) (lv' := [(4, .int 19), (0, .ref a0), (1, .int 2), (2, .int x0), (3, .int x1)]) C.1 C.2.1 dX10_lay_37 hl (k := 0) rfl (by decide) (by decide) rfl (fun ls hl => ?_)
  refine lv_goto (tgt := 17) C.1 C.2.1 dX10_lay_40 (by decide) ?_
  refine lv_iload C.1 C.2.1 dX10_lay_17 (lv_at hl 0 rfl) ?_
  refine lv_bipush (v := 40) C.1 C.2.1 dX10_lay_19 (by decide) ?_
  refine b_icmp_ge_f C (tgt := 43) dX10_lay_21 (by decide) (by decide) ?_
  refine lv_aload_n C.1 C.2.1 dX10_lay_24 rfl (lv_at hl 1 rfl) ?_
  refine r_get C w 0 rfl rfl 2 (by decide) fl_RX10_18 (v := .ref a3) rfl dX10_lay_25 ?_
  refine lv_iload_n C.1 C.2.1 dX10_lay_28 rfl (lv_at hl 2 rfl) ?_
  refine lv_bipush (v := 40) C.1 C.2.1 dX10_lay_29 (by decide) ?_
  refine r_imul C (v := 80) dX10_lay_31 (by decide) ?_
  refine lv_iload C.1 C.2.1 dX10_lay_32 (lv_at hl 0 rfl) ?_
  refine r_iadd C (v := 99) dX10_lay_34 (by decide) ?_
  refine lv_lconst (v := 0) C.1 C.2.1 dX10_lay_35 (by decide) ?_
  refine r_last C w 3 rfl (vinD (by decide)) (vp_updL (vp_updL (vp_updL (vp_updL (vp_updL (vp_updL (vp_updL (vp_updL (vp_updL (vp_updL (vp_updL (vp_updL (vp_updL (vp_updL (vp_updL (vp_updL (vp_updL (vp_updL (vp_updL (vp_updL (fun _ => 0) 80 0) 81 0) 82 0) 83 0) 84 0) 85 0) 86 0) 87 0) 88 0) 89 0) 90 0) 91 0) 92 0) 93 0) 94 0) 95 0) 96 0) 97 0) 98 0) 99 0) rfl [(a0, .inr (10, [.ref a1, .ref a2, .ref a3])), (a1, .inl (cy 1, 4, .inl (upd (upd (upd (upd (upd (fun _ => 0) 0 (-1)) 1 (-1)) 2 (-1)) 3 (-1)) 2 x0))), (a2, .inl (cy 1, 4, .inl (upd (fun _ => 0) 2 x1))), (a3, .inl (cy 2, 160, .inr (.inl (vp_updL (vp_updL (vp_updL (vp_updL (vp_updL (vp_updL (vp_updL (vp_updL (vp_updL (vp_updL (vp_updL (vp_updL (vp_updL (vp_updL (vp_updL (vp_updL (vp_updL (vp_updL (vp_updL (vp_updL (fun _ => 0) 80 0) 81 0) 82 0) 83 0) 84 0) 85 0) 86 0) 87 0) 88 0) 89 0) 90 0) 91 0) 92 0) 93 0) 94 0) 95 0) 96 0) 97 0) 98 0) 99 0))))] rfl dX10_lay_36 (fun H locs w => ?_)
  refine lv_iinc (v := 20) (lv' := [(4, .int 20), (0, .ref a0), (1, .int 2), (2, .int x0), (3, .int x1)]) C.1 C.2.1 dX10_lay_37 hl (k := 0) rfl (by decide) (by decide) rfl (fun ls hl => ?_)
  refine lv_goto (tgt := 17) C.1 C.2.1 dX10_lay_40 (by decide) ?_
  refine lv_iload C.1 C.2.1 dX10_lay_17 (lv_at hl 0 rfl) ?_
  refine lv_bipush (v := 40) C.1 C.2.1 dX10_lay_19 (by decide) ?_
  refine b_icmp_ge_f C (tgt := 43) dX10_lay_21 (by decide) (by decide) ?_
  refine lv_aload_n C.1 C.2.1 dX10_lay_24 rfl (lv_at hl 1 rfl) ?_
  refine r_get C w 0 rfl rfl 2 (by decide) fl_RX10_18 (v := .ref a3) rfl dX10_lay_25 ?_
  refine lv_iload_n C.1 C.2.1 dX10_lay_28 rfl (lv_at hl 2 rfl) ?_
  refine lv_bipush (v := 40) C.1 C.2.1 dX10_lay_29 (by decide) ?_
  refine r_imul C (v := 80) dX10_lay_31 (by decide) ?_
  refine lv_iload C.1 C.2.1 dX10_lay_32 (lv_at hl 0 rfl) ?_
  refine r_iadd C (v := 100) dX10_lay_34 (by decide) ?_
  refine lv_lconst (v := 0) C.1 C.2.1 dX10_lay_35 (by decide) ?_
  refine r_last C w 3 rfl (vinD (by decide)) (vp_updL (vp_updL (vp_updL (vp_updL (vp_updL (vp_updL (vp_updL (vp_updL (vp_updL (vp_updL (vp_updL (vp_updL (vp_updL (vp_updL (vp_updL (vp_updL (vp_updL (vp_updL (vp_updL (vp_updL (vp_updL (fun _ => 0) 80 0) 81 0) 82 0) 83 0) 84 0) 85 0) 86 0) 87 0) 88 0) 89 0) 90 0) 91 0) 92 0) 93 0) 94 0) 95 0) 96 0) 97 0) 98 0) 99 0) 100 0) rfl [(a0, .inr (10, [.ref a1, .ref a2, .ref a3])), (a1, .inl (cy 1, 4, .inl (upd (upd (upd (upd (upd (fun _ => 0) 0 (-1)) 1 (-1)) 2 (-1)) 3 (-1)) 2 x0))), (a2, .inl (cy 1, 4, .inl (upd (fun _ => 0) 2 x1))), (a3, .inl (cy 2, 160, .inr (.inl (vp_updL (vp_updL (vp_updL (vp_updL (vp_updL (vp_updL (vp_updL (vp_updL (vp_updL (vp_updL (vp_updL (vp_updL (vp_updL (vp_updL (vp_updL (vp_updL (vp_updL (vp_updL (vp_updL (vp_updL (vp_updL (fun _ => 0) 80 0) 81 0) 82 0) 83 0) 84 0) 85 0) 86 0) 87 0) 88 0) 89 0) 90 0) 91 0) 92 0) 93 0) 94 0) 95 0) 96 0) 97 0) 98 0) 99 0) 100 0))))] rfl dX10_lay_36 (fun H locs w => ?_)
  refine lv_iinc (v := 21) (lv' := [(4, .int 21), (0, .ref a0), (1, .int 2), (2, .int x0), (3, .int x1)]) C.1 C.2.1 dX10_lay_37 hl (k := 0) rfl (by decide) (by decide) rfl (fun ls hl => ?_)
  refine lv_goto (tgt := 17) C.1 C.2.1 dX10_lay_40 (by decide) ?_
  refine lv_iload C.1 C.2.1 dX10_lay_17 (lv_at hl 0 rfl) ?_
  refine lv_bipush (v := 40) C.1 C.2.1 dX10_lay_19 (by decide) ?_
  refine b_icmp_ge_f C (tgt := 43) dX10_lay_21 (by decide) (by decide) ?_
  refine lv_aload_n C.1 C.2.1 dX10_lay_24 rfl (lv_at hl 1 rfl) ?_
  refine r_get C w 0 rfl rfl 2 (by decide) fl_RX10_18 (v := .ref a3) rfl dX10_lay_25 ?_
  refine lv_iload_n C.1 C.2.1 dX10_lay_28 rfl (lv_at hl 2 rfl) ?_
  refine lv_bipush (v := 40) C.1 C.2.1 dX10_lay_29 (by decide) ?_
  refine r_imul C (v := 80) dX10_lay_31 (by decide) ?_
  refine lv_iload C.1 C.2.1 dX10_lay_32 (lv_at hl 0 rfl) ?_
  refine r_iadd C (v := 101) dX10_lay_34 (by decide) ?_
  refine lv_lconst (v := 0) C.1 C.2.1 dX10_lay_35 (by decide) ?_
  refine r_last C w 3 rfl (vinD (by decide)) (vp_updL (vp_updL (vp_updL (vp_updL (vp_updL (vp_updL (vp_updL (vp_updL (vp_updL (vp_updL (vp_updL (vp_updL (vp_updL (vp_updL (vp_updL (vp_updL (vp_updL (vp_updL (vp_updL (vp_updL (vp_updL (vp_updL (fun _ => 0) 80 0) 81 0) 82 0) 83 0) 84 0) 85 0) 86 0) 87 0) 88 0) 89 0) 90 0) 91 0) 92 0) 93 0) 94 0) 95 0) 96 0) 97 0) 98 0) 99 0) 100 0) 101 0) rfl [(a0, .inr (10, [.ref a1, .ref a2, .ref a3])), (a1, .inl (cy 1, 4, .inl (upd (upd (upd (upd (upd (fun _ => 0) 0 (-1)) 1 (-1)) 2 (-1)) 3 (-1)) 2 x0))), (a2, .inl (cy 1, 4, .inl (upd (fun _ => 0) 2 x1))), (a3, .inl (cy 2, 160, .inr (.inl (vp_updL (vp_updL (vp_updL (vp_updL (vp_updL (vp_updL (vp_updL (vp_updL (vp_updL (vp_updL (vp_updL (vp_updL (vp_updL (vp_updL (vp_updL (vp_updL (vp_updL (vp_updL (vp_updL (vp_updL (vp_updL (vp_updL (fun _ => 0) 80 0) 81 0) 82 0) 83 0) 84 0) 85 0) 86 0) 87 0) 88 0) 89 0) 90 0) 91 0) 92 0) 93 0) 94 0) 95 0) 96 0) 97 0) 98 0) 99 0) 100 0) 101 0))))] rfl dX10_lay_36 (fun H locs w => ?_)
  refine lv_iinc (v := 22) (lv' := [(4, .int 22), (0, .ref a0), (1, .int 2), (2, .int x0), (3, .int x1)]) C.1 C.2.1 dX10_lay_37 hl (k := 0) rfl (by decide) (by decide) rfl (fun ls hl => ?_)
  refine lv_goto (tgt := 17) C.1 C.2.1 dX10_lay_40 (by decide) ?_
  refine lv_iload C.1 C.2.1 dX10_lay_17 (lv_at hl 0 rfl) ?_
  refine lv_bipush (v := 40) C.1 C.2.1 dX10_lay_19 (by decide) ?_
  refine b_icmp_ge_f C (tgt := 43) dX10_lay_21 (by decide) (by decide) ?_
  refine lv_aload_n C.1 C.2.1 dX10_lay_24 rfl (lv_at hl 1 rfl) ?_
  refine r_get C w 0 rfl rfl 2 (by decide) fl_RX10_18 (v := .ref a3) rfl dX10_lay_25 ?_
  refine lv_iload_n C.1 C.2.1 dX10_lay_28 rfl (lv_at hl 2 rfl) ?_
  refine lv_bipush (v := 40) C.1 C.2.1 dX10_lay_29 (by decide) ?_
  refine r_imul C (v := 80) dX10_lay_31 (by decide) ?_
  refine lv_iload C.1 C.2.1 dX10_lay_32 (lv_at hl 0 rfl) ?_
  refine r_iadd C (v := 102) dX10_lay_34 (by decide) ?_
  refine lv_lconst (v := 0) C.1 C.2.1 dX10_lay_35 (by decide) ?_
  refine r_last C w 3 rfl (vinD (by decide)) (vp_updL (vp_updL (vp_updL (vp_updL (vp_updL (vp_updL (vp_updL (vp_updL (vp_updL (vp_updL (vp_updL (vp_updL (vp_updL (vp_updL (vp_updL (vp_updL (vp_updL (vp_updL (vp_updL (vp_updL (vp_updL (vp_updL (vp_updL (fun _ => 0) 80 0) 81 0) 82 0) 83 0) 84 0) 85 0) 86 0) 87 0) 88 0) 89 0) 90 0) 91 0) 92 0) 93 0) 94 0) 95 0) 96 0) 97 0) 98 0) 99 0) 100 0) 101 0) 102 0) rfl [(a0, .inr (10, [.ref a1, .ref a2, .ref a3])), (a1, .inl (cy 1, 4, .inl (upd (upd (upd (upd (upd (fun _ => 0) 0 (-1)) 1 (-1)) 2 (-1)) 3 (-1)) 2 x0))), (a2, .inl (cy 1, 4, .inl (upd (fun _ => 0) 2 x1))), (a3, .inl (cy 2, 160, .inr (.inl (vp_updL (vp_updL (vp_updL (vp_updL (vp_updL (vp_updL (vp_updL (vp_updL (vp_updL (vp_updL (vp_updL (vp_updL (vp_updL (vp_updL (vp_updL (vp_updL (vp_updL (vp_updL (vp_updL (vp_updL (vp_updL (vp_updL (vp_updL (fun _ => 0) 80 0) 81 0) 82 0) 83 0) 84 0) 85 0) 86 0) 87 0) 88 0) 89 0) 90 0) 91 0) 92 0) 93 0) 94 0) 95 0) 96 0) 97 0) 98 0) 99 0) 100 0) 101 0) 102 0))))] rfl dX10_lay_36 (fun H locs w => ?_)
  refine lv_iinc (v := 23) (lv' := [(4, .int 23), (0, .ref a0), (1, .int 2), (2, .int x0), (3, .int x1)]) C.1 C.2.1 dX10_lay_37 hl (k := 0) rfl (by decide) (by decide) rfl (fun ls hl => ?_)
  refine lv_goto (tgt := 17) C.1 C.2.1 dX10_lay_40 (by decide) ?_
  refine lv_iload C.1 C.2.1 dX10_lay_17 (lv_at hl 0 rfl) ?_
  refine lv_bipush (v := 40) C.1 C.2.1 dX10_lay_19 (by decide) ?_
  refine b_icmp_ge_f C (tgt := 43) dX10_lay_21 (by decide) (by decide) ?_
  refine lv_aload_n C.1 C.2.1 dX10_lay_24 rfl (lv_at hl 1 rfl) ?_
  refine r_get C w 0 rfl rfl 2 (by decide) fl_RX10_18 (v := .ref a3) rfl dX10_lay_25 ?_
  refine lv_iload_n C.1 C.2.1 dX10_lay_28 rfl (lv_at hl 2 rfl) ?_
  refine lv_bipush (v := 40) C.1 C.2.1 dX10_lay_29 (by decide) ?_
  refine r_imul C (v := 80) dX10_lay_31 (by decide) ?_
  refine lv_iload C.1 C.2.1 dX10_lay_32 (lv_at hl 0 rfl) ?_
  refine r_iadd C (v := 103) dX10_lay_34 (by decide) ?_
  refine lv_lconst (v := 0) C.1 C.2.1 dX10_lay_35 (by decide) ?_
  refine r_last C w 3 rfl (vinD (by decide)) (vp_updL (vp_updL (vp_updL (vp_updL (vp_updL (vp_updL (vp_updL (vp_updL (vp_updL (vp_updL (vp_updL (vp_updL (vp_updL (vp_updL (vp_updL (vp_updL (vp_updL (vp_updL (vp_updL (vp_updL (vp_updL (vp_updL (vp_updL (vp_updL (fun _ => 0) 80 0) 81 0) 82 0) 83 0) 84 0) 85 0) 86 0) 87 0) 88 0) 89 0) 90 0) 91 0) 92 0) 93 0) 94 0) 95 0) 96 0) 97 0) 98 0) 99 0) 100 0) 101 0) 102 0) 103 0) rfl [(a0, .inr (10, [.ref a1, .ref a2, .ref a3])), (a1, .inl (cy 1, 4, .inl (upd (upd (upd (upd (upd (fun _ => 0) 0 (-1)) 1 (-1)) 2 (-1)) 3 (-1)) 2 x0))), (a2, .inl (cy 1, 4, .inl (upd (fun _ => 0) 2 x1))), (a3, .inl (cy 2, 160, .inr (.inl (vp_updL (vp_updL (vp_updL (vp_updL (vp_updL (vp_updL (vp_updL (vp_updL (vp_updL (vp_updL (vp_updL (vp_updL (vp_updL (vp_updL (vp_updL (vp_updL (vp_updL (vp_updL (vp_updL (vp_updL (vp_updL (vp_updL (vp_updL (vp_updL (fun _ => 0) 80 0) 81 0) 82 0) 83 0) 84 0) 85 0) 86 0) 87 0) 88 0) 89 0) 90 0) 91 0) 92 0) 93 0) 94 0) 95 0) 96 0) 97 0) 98 0) 99 0) 100 0) 101 0) 102 0) 103 0))))] rfl dX10_lay_36 (fun H locs w => ?_)
  refine lv_iinc (v := 24) (lv' := [(4, .int 24), (0, .ref a0), (1, .int 2), (2, .int x0), (3, .int x1)]) C.1 C.2.1 dX10_lay_37 hl (k := 0) rfl (by decide) (by decide) rfl (fun ls hl => ?_)
  refine lv_goto (tgt := 17) C.1 C.2.1 dX10_lay_40 (by decide) ?_
  refine lv_iload C.1 C.2.1 dX10_lay_17 (lv_at hl 0 rfl) ?_
  refine lv_bipush (v := 40) C.1 C.2.1 dX10_lay_19 (by decide) ?_
  refine b_icmp_ge_f C (tgt := 43) dX10_lay_21 (by decide) (by decide) ?_
  refine lv_aload_n C.1 C.2.1 dX10_lay_24 rfl (lv_at hl 1 rfl) ?_
  refine r_get C w 0 rfl rfl 2 (by decide) fl_RX10_18 (v := .ref a3) rfl dX10_lay_25 ?_
  refine lv_iload_n C.1 C.2.1 dX10_lay_28 rfl (lv_at hl 2 rfl) ?_
  refine lv_bipush (v := 40) C.1 C.2.1 dX10_lay_29 (by decide) ?_
  refine r_imul C (v := 80) dX10_lay_31 (by decide) ?_
  refine lv_iload C.1 C.2.1 dX10_lay_32 (lv_at hl 0 rfl) ?_
  refine r_iadd C (v := 104) dX10_lay_34 (by decide) ?_
  refine lv_lconst (v := 0) C.1 C.2.1 dX10_lay_35 (by decide) ?_
  refine r_last C w 3 rfl (vinD (by decide)) (vp_updL (vp_updL (vp_updL (vp_updL (vp_updL (vp_updL (vp_updL (vp_updL (vp_updL (vp_updL (vp_updL (vp_updL (vp_updL (vp_updL (vp_updL (vp_updL (vp_updL (vp_updL (vp_updL (vp_updL (vp_updL (vp_updL (vp_updL (vp_updL (vp_updL (fun _ => 0) 80 0) 81 0) 82 0) 83 0) 84 0) 85 0) 86 0) 87 0) 88 0) 89 0) 90 0) 91 0) 92 0) 93 0) 94 0) 95 0) 96 0) 97 0) 98 0) 99 0) 100 0) 101 0) 102 0) 103 0) 104 0) rfl [(a0, .inr (10, [.ref a1, .ref a2, .ref a3])), (a1, .inl (cy 1, 4, .inl (upd (upd (upd (upd (upd (fun _ => 0) 0 (-1)) 1 (-1)) 2 (-1)) 3 (-1)) 2 x0))), (a2, .inl (cy 1, 4, .inl (upd (fun _ => 0) 2 x1))), (a3, .inl (cy 2, 160, .inr (.inl (vp_updL (vp_updL (vp_updL (vp_updL (vp_updL (vp_updL (vp_updL (vp_updL (vp_updL (vp_updL (vp_updL (vp_updL (vp_updL (vp_updL (vp_updL (vp_updL (vp_updL (vp_updL (vp_updL (vp_updL (vp_updL (vp_updL (vp_updL (vp_updL (vp_updL (fun _ => 0) 80 0) 81 0) 82 0) 83 0) 84 0) 85 0) 86 0) 87 0) 88 0) 89 0) 90 0) 91 0) 92 0) 93 0) 94 0) 95 0) 96 0) 97 0) 98 0) 99 0) 100 0) 101 0) 102 0) 103 0) 104 0))))] rfl dX10_lay_36 (fun H locs w => ?_)
  refine lv_iinc (v := 25) (lv' := [(4, .int 25), (0, .ref a0), (1, .int 2), (2, .int x0), (3, .int x1)]) C.1 C.2.1 dX10_lay_37 hl (k := 0) rfl (by decide) (by decide) rfl (fun ls hl => ?_)
  refine lv_goto (tgt := 17) C.1 C.2.1 dX10_lay_40 (by decide) ?_
  refine lv_iload C.1 C.2.1 dX10_lay_17 (lv_at hl 0 rfl) ?_
  refine lv_bipush (v := 40) C.1 C.2.1 dX10_lay_19 (by decide) ?_
  refine b_icmp_ge_f C (tgt := 43) dX10_lay_21 (by decide) (by decide) ?_
  refine lv_aload_n C.1 C.2.1 dX10_lay_24 rfl (lv_at hl 1 rfl) ?_
  refine r_get C w 0 rfl rfl 2 (by decide) fl_RX10_18 (v := .ref a3) rfl dX10_lay_25 ?_
  refine lv_iload_n C.1 C.2.1 dX10_lay_28 rfl (lv_at hl 2 rfl) ?_
  refine lv_bipush (v := 40) C.1 C.2.1 dX10_lay_29 (by decide) ?_
  refine r_imul C (v := 80) dX10_lay_31 (by decide) ?_
  refine lv_iload C.1 C.2.1 dX10_lay_32 (lv_at hl 0 rfl) ?_
  refine r_iadd C (v := 105) dX10_lay_34 (by decide) ?_
  refine lv_lconst (v := 0) C.1 C.2.1 dX10_lay_35 (by decide) ?_
  refine r_last C w 3 rfl (vinD (by decide)) (vp_updL (vp_updL (vp_updL (vp_updL (vp_updL (vp_updL (vp_updL (vp_updL (vp_updL (vp_updL (vp_updL (vp_updL (vp_updL (vp_updL (vp_updL (vp_updL (vp_updL (vp_updL (vp_updL (vp_updL (vp_updL (vp_updL (vp_updL (vp_updL (vp_updL (vp_updL (fun _ => 0) 80 0) 81 0) 82 0) 83 0) 84 0) 85 0) 86 0) 87 0) 88 0) 89 0) 90 0) 91 0) 92 0) 93 0) 94 0) 95 0) 96 0) 97 0) 98 0) 99 0) 100 0) 101 0) 102 0) 103 0) 104 0) 105 0) rfl [(a0, .inr (10, [.ref a1, .ref a2, .ref a3])), (a1, .inl (cy 1, 4, .inl (upd (upd (upd (upd (upd (fun _ => 0) 0 (-1)) 1 (-1)) 2 (-1)) 3 (-1)) 2 x0))), (a2, .inl (cy 1, 4, .inl (upd (fun _ => 0) 2 x1))), (a3, .inl (cy 2, 160, .inr (.inl (vp_updL (vp_updL (vp_updL (vp_updL (vp_updL (vp_updL (vp_updL (vp_updL (vp_updL (vp_updL (vp_updL (vp_updL (vp_updL (vp_updL (vp_updL (vp_updL (vp_updL (vp_updL (vp_updL (vp_updL (vp_updL (vp_updL (vp_updL (vp_updL (vp_updL (vp_updL (fun _ => 0) 80 0) 81 0) 82 0) 83 0) 84 0) 85 0) 86 0) 87 0) 88 0) 89 0) 90 0) 91 0) 92 0) 93 0) 94 0) 95 0) 96 0) 97 0) 98 0) 99 0) 100 0) 101 0) 102 0) 103 0) 104 0) 105 0))))] rfl dX10_lay_36 (fun H locs w => ?_)
  refine lv_iinc (v := 26) (lv' := [(4, .int 26), (0, .ref a0), (1, .int 2), (2, .int x0), (3, .int x1)]) C.1 C.2.1 dX10_lay_37 hl (k := 0) rfl (by decide) (by decide) rfl (fun ls hl => ?_)
  refine lv_goto (tgt := 17) C.1 C.2.1 dX10_lay_40 (by decide) ?_
  refine lv_iload C.1 C.2.1 dX10_lay_17 (lv_at hl 0 rfl) ?_
  refine lv_bipush (v := 40) C.1 C.2.1 dX10_lay_19 (by decide) ?_
  refine b_icmp_ge_f C (tgt := 43) dX10_lay_21 (by decide) (by decide) ?_
  refine lv_aload_n C.1 C.2.1 dX10_lay_24 rfl (lv_at hl 1 rfl) ?_
  refine r_get C w 0 rfl rfl 2 (by decide) fl_RX10_18 (v := .ref a3) rfl dX10_lay_25 ?_
  refine lv_iload_n C.1 C.2.1 dX10_lay_28 rfl (lv_at hl 2 rfl) ?_
  refine lv_bipush (v := 40) C.1 C.2.1 dX10_lay_29 (by decide) ?_
  refine r_imul C (v := 80) dX10_lay_31 (by decide) ?_
  refine lv_iload C.1 C.2.1 dX10_lay_32 (lv_at hl 0 rfl) ?_
  refine r_iadd C (v := 106) dX10_lay_34 (by decide) ?_
  refine lv_lconst (v := 0) C.1 C.2.1 dX10_lay_35 (by decide) ?_
  refine r_last C w 3 rfl (vinD (by decide)) (vp_updL (vp_updL (vp_updL (vp_updL (vp_updL (vp_updL (vp_updL (vp_updL (vp_updL (vp_updL (vp_updL (vp_updL (vp_updL (vp_updL (vp_updL (vp_updL (vp_updL (vp_updL (vp_updL (vp_updL (vp_updL (vp_updL (vp_updL (vp_updL (vp_updL (vp_updL (vp_updL (fun _ => 0) 80 0) 81 0) 82 0) 83 0) 84 0) 85 0) 86 0) 87 0) 88 0) 89 0) 90 0) 91 0) 92 0) 93 0) 94 0) 95 0) 96 0) 97 0) 98 0) 99 0) 100 0) 101 0) 102 0) 103 0) 104 0) 105 0) 106 0) rfl [(a0, .inr (10, [.ref a1, .ref a2, .ref a3])), (a1, .inl (cy 1, 4, .inl (upd (upd (upd (upd (upd (fun _ => 0) 0 (-1)) 1 (-1)) 2 (-1)) 3 (-1)) 2 x0))), (a2, .inl (cy 1, 4, .inl (upd (fun _ => 0) 2 x1))), (a3, .inl (cy 2, 160, .inr (.inl (vp_updL (vp_updL (vp_updL (vp_updL (vp_updL (vp_updL (vp_updL (vp_updL (vp_updL (vp_updL (vp_updL (vp_updL (vp_updL (vp_updL (vp_updL (vp_updL (vp_updL (vp_updL (vp_updL (vp_updL (vp_updL (vp_updL (vp_updL (vp_updL (vp_updL (vp_updL (vp_updL (fun _ => 0) 80 0) 81 0) 82 0) 83 0) 84 0) 85 0) 86 0) 87 0) 88 0) 89 0) 90 0) 91 0) 92 0) 93 0) 94 0) 95 0) 96 0) 97 0) 98 0) 99 0) 100 0) 101 0) 102 0) 103 0) 104 0) 105 0) 106 0))))] rfl dX10_lay_36 (fun H locs w => ?_)
  refine lv_iinc (v := 27) (lv' := [(4, .int 27), (0, .ref a0), (1, .int 2), (2, .int x0), (3, .int x1)]) C.1 C.2.1 dX10_lay_37 hl (k := 0) rfl (by decide) (by decide) rfl (fun ls hl => ?_)
  refine lv_goto (tgt := 17) C.1 C.2.1 dX10_lay_40 (by decide) ?_
  refine lv_iload C.1 C.2.1 dX10_lay_17 (lv_at hl 0 rfl) ?_
  refine lv_bipush (v := 40) C.1 C.2.1 dX10_lay_19 (by decide) ?_
  refine b_icmp_ge_f C (tgt := 43) dX10_lay_21 (by decide) (by decide) ?_
  refine lv_aload_n C.1 C.2.1 dX10_lay_24 rfl (lv_at hl 1 rfl) ?_
  refine r_get C w 0 rfl rfl 2 (by decide) fl_RX10_18 (v := .ref a3) rfl dX10_lay_25 ?_
  refine lv_iload_n C.1 C.2.1 dX10_lay_28 rfl (lv_at hl 2 rfl) ?_
  refine lv_bipush (v := 40) C.1 C.2.1 dX10_lay_29 (by decide) ?_
  refine r_imul C (v := 80) dX10_lay_31 (by decide) ?_
  refine lv_iload C.1 C.2.1 dX10_lay_32 (lv_at hl 0 rfl) ?_
  refine r_iadd C (v := 107) dX10_lay_34 (by decide) ?_
  refine lv_lconst (v := 0) C.1 C.2.1 dX10_lay_35 (by decide) ?_
  refine r_last C w 3 rfl (vinD (by decide)) (vp_updL (vp_updL (vp_updL (vp_updL (vp_updL (vp_updL (vp_updL (vp_updL (vp_updL (vp_updL (vp_updL (vp_updL (vp_updL (vp_updL (vp_updL (vp_updL (vp_updL (vp_updL (vp_updL (vp_updL (vp_updL (vp_updL (vp_updL (vp_updL (vp_updL (vp_updL (vp_updL (vp_updL (fun _ => 0) 80 0) 81 0) 82 0) 83 0) 84 0) 85 0) 86 0) 87 0) 88 0) 89 0) 90 0) 91 0) 92 0) 93 0) 94 0) 95 0) 96 0) 97 0) 98 0) 99 0) 100 0) 101 0) 102 0) 103 0) 104 0) 105 0) 106 0) 107 0) rfl [(a0, .inr (10, [.ref a1, .ref a2, .ref a3])), (a1, .inl (cy 1, 4, .inl (upd (upd (upd (upd (upd (fun _ => 0) 0 (-1)) 1 (-1)) 2 (-1)) 3 (-1)) 2 x0))), (a2, .inl (cy 1, 4, .inl (upd (fun _ => 0) 2 x1))), (a3, .inl (cy 2, 160, .inr (.inl (vp_updL (vp_updL (vp_updL (vp_updL (vp_updL (vp_updL (vp_updL (vp_updL (vp_updL (vp_updL (vp_updL (vp_updL (vp_updL (vp_updL (vp_updL (vp_updL (vp_updL (vp_updL (vp_updL (vp_updL (vp_updL (vp_updL (vp_updL (vp_updL (vp_updL (vp_updL (vp_updL (vp_updL (fun _ => 0) 80 0) 81 0) 82 0) 83 0) 84 0) 85 0) 86 0) 87 0) 88 0) 89 0) 90 0) 91 0) 92 0) 93 0) 94 0) 95 0) 96 0) 97 0) 98 0) 99 0) 100 0) 101 0) 102 0) 103 0) 104 0) 105 0) 106 0) 107 0))))] rfl dX10_lay_36 (fun H locs w => ?_)
  refine lv_iinc (v := 28) (lv' := [(4, .int 28), (0, .ref a0), (1, .int 2), (2, .int x0), (3, .int x1)]) C.1 C.2.1 dX10_lay_37 hl (k := 0) rfl (by decide) (by decide) rfl (fun ls hl => ?_)
  refine lv_goto (tgt := 17) C.1 C.2.1 dX10_lay_40 (by decide) ?_
  refine lv_iload C.1 C.2.1 dX10_lay_17 (lv_at hl 0 rfl) ?_
  refine lv_bipush (v := 40) C.1 C.2.1 dX10_lay_19 (by decide) ?_
  refine b_icmp_ge_f C (tgt := 43) dX10_lay_21 (by decide) (by decide) ?_
  refine lv_aload_n C.1 C.2.1 dX10_lay_24 rfl (lv_at hl 1 rfl) ?_
  refine r_get C w 0 rfl rfl 2 (by decide) fl_RX10_18 (v := .ref a3) rfl dX10_lay_25 ?_
  refine lv_iload_n C.1 C.2.1 dX10_lay_28 rfl (lv_at hl 2 rfl) ?_
  refine lv_bipush (v := 40) C.1 C.2.1 dX10_lay_29 (by decide) ?_
  refine r_imul C (v := 80) dX10_lay_31 (by decide) ?_
  refine lv_iload C.1 C.2.1 dX10_lay_32 (lv_at hl 0 rfl) ?_
  refine r_iadd C (v := 108) dX10_lay_34 (by decide) ?_
  refine lv_lconst (v := 0) C.1 C.2.1 dX10_lay_35 (by decide) ?_
  refine r_last C w 3 rfl (vinD (by decide)) (vp_updL (vp_updL (vp_updL (vp_updL (vp_updL (vp_updL (vp_updL (vp_updL (vp_updL (vp_updL (vp_updL (vp_updL (vp_updL (vp_updL (vp_updL (vp_updL (vp_updL (vp_updL (vp_updL (vp_updL (vp_updL (vp_updL (vp_updL (vp_updL (vp_updL (vp_updL (vp_updL (vp_updL (vp_updL (fun _ => 0) 80 0) 81 0) 82 0) 83 0) 84 0) 85 0) 86 0) 87 0) 88 0) 89 0) 90 0) 91 0) 92 0) 93 0) 94 0) 95 0) 96 0) 97 0) 98 0) 99 0) 100 0) 101 0) 102 0) 103 0) 104 0) 105 0) 106 0) 107 0) 108 0) rfl [(a0, .inr (10, [.ref a1, .ref a2, .ref a3])), (a1, .inl (cy 1, 4, .inl (upd (upd (upd (upd (upd (fun _ => 0) 0 (-1)) 1 (-1)) 2 (-1)) 3 (-1)) 2 x0))), (a2, .inl (cy 1, 4, .inl (upd (fun _ => 0) 2 x1))), (a3, .inl (cy 2, 160, .inr (.inl (vp_updL (vp_updL (vp_updL (vp_updL (vp_updL (vp_updL (vp_updL (vp_updL (vp_updL (vp_updL (vp_updL (vp_updL (vp_updL (vp_updL (vp_updL (vp_updL (vp_updL (vp_updL (vp_updL (vp_updL (vp_updL (vp_updL (vp_updL (vp_updL (vp_updL (vp_updL (vp_updL (vp_updL (vp_updL (fun _ => 0) 80 0) 81 0) 82 0) 83 0) 84 0) 85 0) 86 0) 87 0) 88 0) 89 0) 90 0) 91 0) 92 0) 93 0) 94 0) 95 0) 96 0) 97 0) 98 0) 99 0) 100 0) 101 0) 102 0) 103 0) 104 0) 105 0) 106 0) 107 0) 108 0))))] rfl dX10_lay_36 (fun H locs w => ?_)
  refine lv_iinc (v := 29) (lv' := [(4, .int 29), (0, .ref a0), (1, .int 2), (2, .int x0), (3, .int x1)]) C.1 C.2.1 dX10_lay_37 hl (k := 0) rfl (by decide) (by decide) rfl (fun ls hl => ?_)
  refine lv_goto (tgt := 17) C.1 C.2.1 dX10_lay_40 (by decide) ?_
  refine lv_iload C.1 C.2.1 dX10_lay_17 (lv_at hl 0 rfl) ?_
  refine lv_bipush (v := 40) C.1 C.2.1 dX10_lay_19 (by decide) ?_
  refine b_icmp_ge_f C (tgt := 43) dX10_lay_21 (by decide) (by decide) ?_
  refine lv_aload_n C.1 C.2.1 dX10_lay_24 rfl (lv_at hl 1 rfl) ?_
  refine r_get C w 0 rfl rfl 2 (by decide) fl_RX10_18 (v := .ref a3) rfl dX10_lay_25 ?_
  refine lv_iload_n C.1 C.2.1 dX10_lay_28 rfl (lv_at hl 2 rfl) ?_
  refine lv_bipush (v := 40) C.1 C.2.1 dX10_lay_29 (by decide) ?_
  refine r_imul C (v := 80) dX10_lay_31 (by decide) ?_
  refine lv_iload C.1 C.2.1 dX10_lay_32 (lv_at hl 0 rfl) ?_
  refine r_iadd C (v := 109) dX10_lay_34 (by decide) ?_
  refine lv_lconst (v := 0) C.1 C.2.1 dX10_lay_35 (by decide) ?_
  refine r_last C w 3 rfl (vinD (by decide)) (vp_updL (vp_updL (vp_updL (vp_updL (vp_updL (vp_updL (vp_updL (vp_updL (vp_updL (vp_updL (vp_updL (vp_updL (vp_updL (vp_updL (vp_updL (vp_updL (vp_updL (vp_updL (vp_updL (vp_updL (vp_updL (vp_updL (vp_updL (vp_updL (vp_updL (vp_updL (vp_updL (vp_updL (vp_updL (vp_updL (fun _ => 0) 80 0) 81 0) 82 0) 83 0) 84 0) 85 0) 86 0) 87 0) 88 0) 89 0) 90 0) 91 0) 92 0) 93 0) 94 0) 95 0) 96 0) 97 0) 98 0) 99 0) 100 0) 101 0) 102 0) 103 0) 104 0) 105 0) 106 0) 107 0) 108 0) 109 0) rfl [(a0, .inr (10, [.ref a1, .ref a2, .ref a3])), (a1, .inl (cy 1, 4, .inl (upd (upd (upd (upd (upd (fun _ => 0) 0 (-1)) 1 (-1)) 2 (-1)) 3 (-1)) 2 x0))), (a2, .inl (cy 1, 4, .inl (upd (fun _ => 0) 2 x1))), (a3, .inl (cy 2, 160, .inr (.inl (vp_updL (vp_updL (vp_updL (vp_updL (vp_updL (vp_updL (vp_updL (vp_updL (vp_updL (vp_updL (vp_updL (vp_updL (vp_updL (vp_updL (vp_updL (vp_updL (vp_updL (vp_updL (vp_updL (vp_updL (vp_updL (vp_updL (vp_updL (vp_updL (vp_updL (vp_updL (vp_updL (vp_updL (vp_updL (vp_updL (fun _ => 0) 80 0) 81 0) 82 0) 83 0) 84 0) 85 0) 86 0) 87 0) 88 0) 89 0) 90 0) 91 0) 92 0) 93 0) 94 0) 95 0) 96 0) 97 0) 98 0) 99 0) 100 0) 101 0) 102 0) 103 0) 104 0) 105 0) 106 0) 107 0) 108 0) 109 0))))] rfl dX10_lay_36 (fun H locs w => ?_)
  refine lv_iinc (v := 30) (lv' := [(4, .int 30), (0, .ref a0), (1, .int 2), (2, .int x0), (3, .int x1)]) C.1 C.2.1 dX10_lay_37 hl (k := 0) rfl (by decide) (by decide) rfl (fun ls hl => ?_)
  refine lv_goto (tgt := 17) C.1 C.2.1 dX10_lay_40 (by decide) ?_
  refine lv_iload C.1 C.2.1 dX10_lay_17 (lv_at hl 0 rfl) ?_
  refine lv_bipush (v := 40) C.1 C.2.1 dX10_lay_19 (by decide) ?_
  refine b_icmp_ge_f C (tgt := 43) dX10_lay_21 (by decide) (by decide) ?_
  refine lv_aload_n C.1 C.2.1 dX10_lay_24 rfl (lv_at hl 1 rfl) ?_
  refine r_get C w 0 rfl rfl 2 (by decide) fl_RX10_18 (v := .ref a3) rfl dX10_lay_25 ?_
  refine lv_iload_n C.1 C.2.1 dX10_lay_28 rfl (lv_at hl 2 rfl) ?_
  refine lv_bipush (v := 40) C.1 C.2.1 dX10_lay_29 (by decide) ?_
  refine r_imul C (v := 80) dX10_lay_31 (by decide) ?_
  refine lv_iload C.1 C.2.1 dX10_lay_32 (lv_at hl 0 rfl) ?_
  refine r_iadd C (v := 110) dX10_lay_34 (by decide) ?_
  refine lv_lconst (v := 0) C.1 C.2.1 dX10_lay_35 (by decide) ?_
  refine r_last C w 3 rfl (vinD (by decide)) (vp_updL (vp_updL (vp_updL (vp_updL (vp_updL (vp_updL (vp_updL (vp_updL (vp_updL (vp_updL (vp_updL (vp_updL (vp_updL (vp_updL (vp_updL (vp_updL (vp_updL (vp_updL (vp_updL (vp_updL (vp_updL (vp_updL (vp_updL (vp_updL (vp_updL (vp_updL (vp_updL (vp_updL (vp_updL (vp_updL (vp_updL (fun _ => 0) 80 0) 81 0) 82 0) 83 0) 84 0) 85 0) 86 0) 87 0) 88 0) 89 0) 90 0) 91 0) 92 0) 93 0) 94 0) 95 0) 96 0) 97 0) 98 0) 99 0) 100 0) 101 0) 102 0) 103 0) 104 0) 105 0) 106 0) 107 0) 108 0) 109 0) 110 0) rfl [(a0, .inr (10, [.ref a1, .ref a2, .ref a3])), (a1, .inl (cy 1, 4, .inl (upd (upd (upd (upd (upd (fun _ => 0) 0 (-1)) 1 (-1)) 2 (-1)) 3 (-1)) 2 x0))), (a2, .inl (cy 1, 4, .inl (upd (fun _ => 0) 2 x1))), (a3, .inl (cy 2, 160, .inr (.inl (vp_updL (vp_updL (vp_updL (vp_updL (vp_updL (vp_updL (vp_updL (vp_updL (vp_updL (vp_updL (vp_updL (vp_updL (vp_updL (vp_updL (vp_updL (vp_updL (vp_updL (vp_updL (vp_updL (vp_updL (vp_updL (vp_updL (vp_updL (vp_updL (vp_updL (vp_updL (vp_updL (vp_updL (vp_updL (vp_updL (vp_updL (fun _ => 0) 80 0) 81 0) 82 0) 83 0) 84 0) 85 0) 86 0) 87 0) 88 0) 89 0) 90 0) 91 0) 92 0) 93 0) 94 0) 95 0) 96 0) 97 0) 98 0) 99 0) 100 0) 101 0) 102 0) 103 0) 104 0) 105 0) 106 0) 107 0) 108 0) 109 0) 110 0))))] rfl dX10_lay_36 (fun H locs w => ?_)
  refine lv_iinc (v := 31) (lv' := [(4, .int 31), (0, .ref a0), (1, .int 2), (2, .int x0), (3, .int x1)]) C.1 C.2.1 dX10_lay_37 hl (k := 0) rfl (by decide) (by decide) rfl (fun ls hl => ?_)
  refine lv_goto (tgt := 17) C.1 C.2.1 dX10_lay_40 (by decide) ?_
  refine lv_iload C.1 C.2.1 dX10_lay_17 (lv_at hl 0 rfl) ?_
  refine lv_bipush (v := 40) C.1 C.2.1 dX10_lay_19 (by decide) ?_
  refine b_icmp_ge_f C (tgt := 43) dX10_lay_21 (by decide) (by decide) ?_
  refine lv_aload_n C.1 C.2.1 dX10_lay_24 rfl (lv_at hl 1 rfl) ?_
  refine r_get C w 0 rfl rfl 2 (by decide) fl_RX10_18 (v := .ref a3) rfl dX10_lay_25 ?_
  refine lv_iload_n C.1 C.2.1 dX10_lay_28 rfl (lv_at hl 2 rfl) ?_
  refine lv_bipush (v := 40) C.1 C.2.1 dX10_lay_29 (by decide) ?_
  refine r_imul C (v := 80) dX10_lay_31 (by decide) ?_
  refine lv_iload C.1 C.2.1 dX10_lay_32 (lv_at hl 0 rfl) ?_
  refine r_iadd C (v := 111) dX10_lay_34 (by decide) ?_
  refine lv_lconst (v := 0) C.1 C.2.1 dX10_lay_35 (by decide) ?_
  refine r_last C w 3 rfl (vinD (by decide)) (vp_updL (vp_updL (vp_updL (vp_updL (vp_updL (vp_updL (vp_updL (vp_updL (vp_updL (vp_updL (vp_updL (vp_updL (vp_updL (vp_updL (vp_updL (vp_updL (vp_updL (vp_updL (vp_updL (vp_updL (vp_updL (vp_updL (vp_updL (vp_updL (vp_updL (vp_updL (vp_updL (vp_updL (vp_updL (vp_updL (vp_updL (vp_updL (fun _ => 0) 80 0) 81 0) 82 0) 83 0) 84 0) 85 0) 86 0) 87 0) 88 0) 89 0) 90 0) 91 0) 92 0) 93 0) 94 0) 95 0) 96 0) 97 0) 98 0) 99 0) 100 0) 101 0) 102 0) 103 0) 104 0) 105 0) 106 0) 107 0) 108 0) 109 0) 110 0) 111 0) rfl [(a0, .inr (10, [.ref a1, .ref a2, .ref a3])), (a1, .inl (cy 1, 4, .inl (upd (upd (upd (upd (upd (fun _ => 0) 0 (-1)) 1 (-1)) 2 (-1)) 3 (-1)) 2 x0))), (a2, .inl (cy 1, 4, .inl (upd (fun _ => 0) 2 x1))), (a3, .inl (cy 2, 160, .inr (.inl (vp_updL (vp_updL (vp_updL (vp_updL (vp_updL (vp_updL (vp_updL (vp_updL (vp_updL (vp_updL (vp_updL (vp_updL (vp_updL (vp_updL (vp_updL (vp_updL (vp_updL (vp_updL (vp_updL (vp_updL (vp_updL (vp_updL (vp_updL (vp_updL (vp_updL (vp_updL (vp_updL (vp_updL (vp_updL (vp_updL (vp_updL (vp_updL (fun _ => 0) 80 0) 81 0) 82 0) 83 0) 84 0) 85 0) 86 0) 87 0) 88 0) 89 0) 90 0) 91 0) 92 0) 93 0) 94 0) 95 0) 96 0) 97 0) 98 0) 99 0) 100 0) 101 0) 102 0) 103 0) 104 0) 105 0) 106 0) 107 0) 108 0) 109 0) 110 0) 111 0))))] rfl dX10_lay_36 (fun H locs w => ?_)
  refine lv_iinc (v := 32) (lv' := [(4, .int 32), (0, .ref a0), (1, .int 2), (2, .int x0), (3, .int x1)]) C.1 C.2.1 dX10_lay_37 hl (k := 0) rfl (by decide) (by decide) rfl (fun ls hl => ?_)
  refine lv_goto (tgt := 17) C.1 C.2.1 dX10_lay_40 (by decide) ?_
  refine lv_iload C.1 C.2.1 dX10_lay_17 (lv_at hl 0 rfl) ?_
  refine lv_bipush (v := 40) C.1 C.2.1 dX10_lay_19 (by decide) ?_
  refine b_icmp_ge_f C (tgt := 43) dX10_lay_21 (by decide) (by decide) ?_
  refine lv_aload_n C.1 C.2.1 dX10_lay_24 rfl (lv_at hl 1 rfl) ?_
  refine r_get C w 0 rfl rfl 2 (by decide) fl_RX10_18 (v := .ref a3) rfl dX10_lay_25 ?_
  refine lv_iload_n C.1 C.2.1 dX10_lay_28 rfl (lv_at hl 2 rfl) ?_
  refine lv_bipush (v := 40) C.1 C.2.1 dX10_lay_29 (by decide) ?_
  refine r_imul C (v := 80) dX10_lay_31 (by decide) ?_
  refine lv_iload C.1 C.2.1 dX10_lay_32 (lv_at hl 0 rfl) ?_
  refine r_iadd C (v := 112) dX10_lay_34 (by decide) ?_
  refine lv_lconst (v := 0) C.1 C.2.1 dX10_lay_35 (by decide) ?_
  refine r_last C w 3 rfl (vinD (by decide)) (vp_updL (vp_updL (vp_updL (vp_updL (vp_updL (vp_updL (vp_updL (vp_updL (vp_updL (vp_updL (vp_updL (vp_updL (vp_updL (vp_updL (vp_updL (vp_updL (vp_updL (vp_updL (vp_updL (vp_updL (vp_updL (vp_updL (vp_updL (vp_updL (vp_updL (vp_updL (vp_updL (vp_updL (vp_updL (vp_updL (vp_updL (vp_updL (vp_updL (fun _ => 0) 80 0) 81 0) 82 0) 83 0) 84 0) 85 0) 86 0) 87 0) 88 0) 89 0) 90 0) 91 0) 92 0) 93 0) 94 0) 95 0) 96 0) 97 0) 98 0) 99 0) 100 0) 101 0) 102 0) 103 0) 104 0) 105 0) 106 0) 107 0) 108 0) 109 0) 110 0) 111 0) 112 0) rfl [(a0, .inr (10, [.ref a1, .ref a2, .ref a3])), (a1, .inl (cy 1, 4, .inl (upd (upd (upd (upd (upd (fun _ => 0) 0 (-1)) 1 (-1)) 2 (-1)) 3 (-1)) 2 x0))), (a2, .inl (cy 1, 4, .inl (upd (fun _ => 0) 2 x1))), (a3, .inl (cy 2, 160, .inr (.inl (vp_updL (vp_updL (vp_updL (vp_updL (vp_updL (vp_updL (vp_updL (vp_updL (vp_updL (vp_updL (vp_updL (vp_updL (vp_updL (vp_updL (vp_updL (vp_updL (vp_updL (vp_updL (vp_updL (vp_updL (vp_updL (vp_updL (vp_updL (vp_updL (vp_updL (vp_updL (vp_updL (vp_updL (vp_updL (vp_updL (vp_updL (vp_updL (vp_updL (fun _ => 0) 80 0) 81 0) 82 0) 83 0) 84 0) 85 0) 86 0) 87 0) 88 0) 89 0) 90 0) 91 0) 92 0) 93 0) 94 0) 95 0) 96 0) 97 0) 98 0) 99 0) 100 0) 101 0) 102 0) 103 0) 104 0) 105 0) 106 0) 107 0) 108 0) 109 0) 110 0) 111 0) 112 0))))] rfl dX10_lay_36 (fun H locs w => ?_)
  refine lv_iinc (v := 33) (lv' := [(4, .int 33), (0, .ref a0), (1, .int 2), (2, .int x0), (3, .int x1)]) C.1 C.2.1 dX10_lay_37 hl (k := 0) rfl (by decide) (by decide) rfl (fun ls hl => ?_)
  refine lv_goto (tgt := 17) C.1 C.2.1 dX10_lay_40 (by decide) ?_
  refine lv_iload C.1 C.2.1 dX10_lay_17 (lv_at hl 0 rfl) ?_
  refine lv_bipush (v := 40) C.1 C.2.1 dX10_lay_19 (by decide) ?_
  refine b_icmp_ge_f C (tgt := 43) dX10_lay_21 (by decide) (by decide) ?_
  refine lv_aload_n C.1 C.2.1 dX10_lay_24 rfl (lv_at hl 1 rfl) ?_
  refine r_get C w 0 rfl rfl 2 (by decide) fl_RX10_18 (v := .ref a3) rfl dX10_lay_25 ?_
  refine lv_iload_n C.1 C.2.1 dX10_lay_28 rfl (lv_at hl 2 rfl) ?_
  refine lv_bipush (v := 40) C.1 C.2.1 dX10_lay_29 (by decide) ?_
  refine r_imul C (v := 80) dX10_lay_31 (by decide) ?_
  refine lv_iload C.1 C.2.1 dX10_lay_32 (lv_at hl 0 rfl) ?_
  refine r_iadd C (v := 113) dX10_lay_34 (by decide) ?_
  refine lv_lconst (v := 0) C.1 C.2.1 dX10_lay_35 (by decide) ?_
  refine r_last C w 3 rfl (vinD (by decide)) (vp_updL (vp_updL (vp_updL (vp_updL (vp_updL (vp_updL (vp_updL (vp_updL (vp_updL (vp_updL (vp_updL (vp_updL (vp_updL (vp_updL (vp_updL (vp_updL (vp_updL (vp_updL (vp_updL (vp_updL (vp_updL (vp_updL (vp_updL (vp_updL (vp_updL (vp_updL (vp_updL (vp_updL (vp_updL (vp_updL (vp_updL (vp_updL (vp_updL (vp_updL (fun _ => 0) 80 0) 81 0) 82 0) 83 0) 84 0) 85 0) 86 0) 87 0) 88 0) 89 0) 90 0) 91 0) 92 0) 93 0) 94 0) 95 0) 96 0) 97 0) 98 0) 99 0) 100 0) 101 0) 102 0) 103 0) 104 0) 105 0) 106 0) 107 0) 108 0) 109 0) 110 0) 111 0) 112 0) 113 0) rfl [(a0, .inr (10, [.ref a1, .ref a2, .ref a3])), (a1, .inl (cy 1, 4, .inl (upd (upd (upd (upd (upd (fun _ => 0) 0 (-1)) 1 (-1)) 2 (-1)) 3 (-1)) 2 x0))), (a2, .inl (cy 1, 4, .inl (upd (fun _ => 0) 2 x1))), (a3, .inl (cy 2, 160, .inr (.inl (vp_updL (vp_updL (vp_updL (vp_updL (vp_updL (vp_updL (vp_updL (vp_updL (vp_updL (vp_updL (vp_updL (vp_updL (vp_updL (vp_updL (vp_updL (vp_updL (vp_updL (vp_updL (vp_updL (vp_updL (vp_updL (vp_updL (vp_updL (vp_updL (vp_updL (vp_updL (vp_updL (vp_updL (vp_updL (vp_updL (vp_updL (vp_updL (vp_updL (vp_updL (fun _ => 0) 80 0) 81 0) 82 0) 83 0) 84 0) 85 0) 86 0) 87 0) 88 0) 89 0) 90 0) 91 0) 92 0) 93 0) 94 0) 95 0) 96 0) 97 0) 98 0) 99 0) 100 0) 101 0) 102 0) 103 0) 104 0) 105 0) 106 0) 107 0) 108 0) 109 0) 110 0) 111 0) 112 0) 113 0))))] rfl dX10_lay_36 (fun H locs w => ?_)
  refine lv_iinc (v := 34) (lv' := [(4, .int 34), (0, .ref a0), (1, .int 2), (2, .int x0), (3, .int x1)]) C.1 C.2.1 dX10_lay_37 hl (k := 0) rfl (by decide) (by decide) rfl (fun ls hl => ?_)
  refine lv_goto (tgt := 17) C.1 C.2.1 dX10_lay_40 (by decide) ?_
  refine lv_iload C.1 C.2.1 dX10_lay_17 (lv_at hl 0 rfl) ?_
  refine lv_bipush (v := 40) C.1 C.2.1 dX10_lay_19 (by decide) ?_
  refine b_icmp_ge_f C (tgt := 43) dX10_lay_21 (by decide) (by decide) ?_
  refine lv_aload_n C.1 C.2.1 dX10_lay_24 rfl (lv_at hl 1 rfl) ?_
  refine r_get C w 0 rfl rfl 2 (by decide) fl_RX10_18 (v := .ref a3) rfl dX10_lay_25 ?_
  refine lv_iload_n C.1 C.2.1 dX10_lay_28 rfl (lv_at hl 2 rfl) ?_
  refine lv_bipush (v := 40) C.1 C.2.1 dX10_lay_29 (by decide) ?_
  refine r_imul C (v := 80) dX10_lay_31 (by decide) ?_
  refine lv_iload C.1 C.2.1 dX10_lay_32 (lv_at hl 0 rfl) ?_
  refine r_iadd C (v := 114) dX10_lay_34 (by decide) ?_
  refine lv_lconst (v := 0) C.1 C.2.1 dX10_lay_35 (by decide) ?_
  refine r_last C w 3 rfl (vinD (by decide)) (vp_updL (vp_updL (vp_updL (vp_updL (vp_updL (vp_updL (vp_updL (vp_updL (vp_updL (vp_updL (vp_updL (vp_updL (vp_updL (vp_updL (vp_updL (vp_updL (vp_updL (vp_updL (vp_updL (vp_updL (vp_updL (vp_updL (vp_updL (vp_updL (vp_updL (vp_updL (vp_updL (vp_updL (vp_updL (vp_updL (vp_updL (vp_updL (vp_updL (vp_updL (vp_updL (fun _ => 0) 80 0) 81 0) 82 0) 83 0) 84 0) 85 0) 86 0) 87 0) 88 0) 89 0) 90 0) 91 0) 92 0) 93 0) 94 0) 95 0) 96 0) 97 0) 98 0) 99 0) 100 0) 101 0) 102 0) 103 0) 104 0) 105 0) 106 0) 107 0) 108 0) 109 0) 110 0) 111 0) 112 0) 113 0) 114 0) rfl [(a0, .inr (10, [.ref a1, .ref a2, .ref a3])), (a1, .inl (cy 1, 4, .inl (upd (upd (upd (upd (upd (fun _ => 0) 0 (-1)) 1 (-1)) 2 (-1)) 3 (-1)) 2 x0))), (a2, .inl (cy 1, 4, .inl (upd (fun _ => 0) 2 x1))), (a3, .inl (cy 2, 160, .inr (.inl (vp_updL (vp_updL (vp_updL (vp_updL (vp_updL (vp_updL (vp_updL (vp_updL (vp_updL (vp_updL (vp_updL (vp_updL (vp_updL (vp_updL (vp_updL (vp_updL (vp_updL (vp_updL (vp_updL (vp_updL (vp_updL (vp_updL (vp_updL (vp_updL (vp_updL (vp_updL (vp_updL (vp_updL (vp_updL (vp_updL (vp_updL (vp_updL (vp_updL (vp_updL (vp_updL (fun _ => 0) 80 0) 81 0) 82 0) 83 0) 84 0) 85 0) 86 0) 87 0) 88 0) 89 0) 90 0) 91 0) 92 0) 93 0) 94 0) 95 0) 96 0) 97 0) 98 0) 99 0) 100 0) 101 0) 102 0) 103 0) 104 0) 105 0) 106 0) 107 0) 108 0) 109 0) 110 0) 111 0) 112 0) 113 0) 114 0))))] rfl dX10_lay_36 (fun H locs w => ?_)
  refine lv_iinc (v := 35) (lv' := [(4, .int 35), (0, .ref a0), (1, .int 2), (2, .int x0), (3, .int x1)]) C.1 C.2.1 dX10_lay_37 hl (k := 0) rfl (by decide) (by decide) rfl (fun ls hl => ?_)
  refine lv_goto (tgt := 17) C.1 C.2.1 dX10_lay_40 (by decide) ?_
  refine lv_iload C.1 C.2.1 dX10_lay_17 (lv_at hl 0 rfl) ?_
  refine lv_bipush (v := 40) C.1 C.2.1 dX10_lay_19 (by decide) ?_
  refine b_icmp_ge_f C (tgt := 43) dX10_lay_21 (by decide) (by decide) ?_
  refine lv_aload_n C.1 C.2.1 dX10_lay_24 rfl (lv_at hl 1 rfl) ?_
  refine r_get C w 0 rfl rfl 2 (by decide) fl_RX10_18 (v := .ref a3) rfl dX10_lay_25 ?_
  refine lv_iload_n C.1 C.2.1 dX10_lay_28 rfl (lv_at hl 2 rfl) ?_
  refine lv_bipush (v := 40) C.1 C.2.1 dX10_lay_29 (by decide) ?_
  refine r_imul C (v := 80) dX10_lay_31 (by decide) ?_
  refine lv_iload C.1 C.2.1 dX10_lay_32 (lv_at hl 0 rfl) ?_
  refine r_iadd C (v := 115) dX10_lay_34 (by decide) ?_
  refine lv_lconst (v := 0) C.1 C.2.1 dX10_lay_35 (by decide) ?_
  refine r_last C w 3 rfl (vinD (by decide)) (vp_updL (vp_updL (vp_updL (vp_updL (vp_updL (vp_updL (vp_updL (vp_updL (vp_updL (vp_updL (vp_updL (vp_updL (vp_updL (vp_updL (vp_updL (vp_updL (vp_updL (vp_updL (vp_updL (vp_updL (vp_updL (vp_updL (vp_updL (vp_updL (vp_updL (vp_updL (vp_updL (vp_updL (vp_updL (vp_updL (vp_updL (vp_updL (vp_updL (vp_updL (vp_updL (vp_updL (fun _ => 0) 80 0) 81 0) 82 0) 83 0) 84 0) 85 0) 86 0) 87 0) 88 0) 89 0) 90 0) 91 0) 92 0) 93 0) 94 0) 95 0) 96 0) 97 0) 98 0) 99 0) 100 0) 101 0) 102 0) 103 0) 104 0) 105 0) 106 0) 107 0) 108 0) 109 0) 110 0) 111 0) 112 0) 113 0) 114 0) 115 0) rfl [(a0, .inr (10, [.ref a1, .ref a2, .ref a3])), (a1, .inl (cy 1, 4, .inl (upd (upd (upd (upd (upd (fun _ => 0) 0 (-1)) 1 (-1)) 2 (-1)) 3 (-1)) 2 x0))), (a2, .inl (cy 1, 4, .inl (upd (fun _ => 0) 2 x1))), (a3, .inl (cy 2, 160, .inr (.inl (vp_updL (vp_updL (vp_updL (vp_updL (vp_updL (vp_updL (vp_updL (vp_updL (vp_updL (vp_updL (vp_updL (vp_updL (vp_updL (vp_updL (vp_updL (vp_updL (vp_updL (vp_updL (vp_updL (vp_updL (vp_updL (vp_updL (vp_updL (vp_updL (vp_updL (vp_updL (vp_updL (vp_updL (vp_updL (vp_updL (vp_updL (vp_updL (vp_updL (vp_updL (vp_updL (vp_updL (fun _ => 0) 80 0) 81 0) 82 0) 83 0) 84 0) 85 0) 86 0) 87 0) 88 0) 89 0) 90 0) 91 0) 92 0) 93 0) 94 0) 95 0) 96 0) 97 0) 98 0) 99 0) 100 0) 101 0) 102 0) 103 0) 104 0) 105 0) 106 0) 107 0) 108 0) 109 0) 110 0) 111 0) 112 0) 113 0) 114 0) 115 0))))] rfl dX10_lay_36 (fun H locs w => ?_)
  refine lv_iinc (v := 36) (lv' := [(4, .int 36), (0, .ref a0), (1, .int 2), (2, .int x0), (3, .int x1)]) C.1 C.2.1 dX10_lay_37 hl (k := 0) rfl (by decide) (by decide) rfl (fun ls hl => ?_)
  refine lv_goto (tgt := 17) C.1 C.2.1 dX10_lay_40 (by decide) ?_
  refine lv_iload C.1 C.2.1 dX10_lay_17 (lv_at hl 0 rfl) ?_
  refine lv_bipush (v := 40) C.1 C.2.1 dX10_lay_19 (by decide) ?_
  refine b_icmp_ge_f C (tgt := 43) dX10_lay_21 (by decide) (by decide) ?_
  refine lv_aload_n C.1 C.2.1 dX10_lay_24 rfl (lv_at hl 1 rfl) ?_
  refine r_get C w 0 rfl rfl 2 (by decide) fl_RX10_18 (v := .ref a3) rfl dX10_lay_25 ?_
  refine lv_iload_n C.1 C.2.1 dX10_lay_28 rfl (lv_at hl 2 rfl) ?_
  refine lv_bipush (v := 40) C.1 C.2.1 dX10_lay_29 (by decide) ?_
  refine r_imul C (v := 80) dX10_lay_31 (by decide) ?_
  refine lv_iload C.1 C.2.1 dX10_lay_32 (lv_at hl 0 rfl) ?_
  refine r_iadd C (v := 116) dX10_lay_34 (by decide) ?_
  refine lv_lconst (v := 0) C.1 C.2.1 dX10_lay_35 (by decide) ?_
  refine r_last C w 3 rfl (vinD (by decide)) (vp_updL (vp_updL (vp_updL (vp_updL (vp_updL (vp_updL (vp_updL (vp_updL (vp_updL (vp_updL (vp_updL (vp_updL (vp_updL (vp_updL (vp_updL (vp_updL (vp_updL (vp_updL (vp_updL (vp_updL (vp_updL (vp_updL (vp_updL (vp_updL (vp_updL (vp_updL (vp_updL (vp_updL (vp_updL (vp_updL (vp_updL (vp_updL (vp_updL (vp_updL (vp_updL (vp_updL (vp_updL (fun _ => 0) 80 0) 81 0) 82 0) 83 0) 84 0) 85 0) 86 0) 87 0) 88 0) 89 0) 90 0) 91 0) 92 0) 93 0) 94 0) 95 0) 96 0) 97 0) 98 0) 99 0) 100 0) 101 0) 102 0) 103 0) 104 0) 105 0) 106 0) 107 0) 108 0) 109 0) 110 0) 111 0) 112 0) 113 0) 114 0) 115 0) 116 0) rfl [(a0, .inr (10, [.ref a1, .ref a2, .ref a3])), (a1, .inl (cy 1, 4, .inl (upd (upd (upd (upd (upd (fun _ => 0) 0 (-1)) 1 (-1)) 2 (-1)) 3 (-1)) 2 x0))), (a2, .inl (cy 1, 4, .inl (upd (fun _ => 0) 2 x1))), (a3, .inl (cy 2, 160, .inr (.inl (vp_updL (vp_updL (vp_updL (vp_updL (vp_updL (vp_updL (vp_updL (vp_updL (vp_updL (vp_updL (vp_updL (vp_updL (vp_updL (vp_updL (vp_updL (vp_updL (vp_updL (vp_updL (vp_updL (vp_updL (vp_updL (vp_updL (vp_updL (vp_updL (vp_updL (vp_updL (vp_updL (vp_updL (vp_updL (vp_updL (vp_updL (vp_updL (vp_updL (vp_updL (vp_updL (vp_updL (vp_updL (fun _ => 0) 80 0) 81 0) 82 0) 83 0) 84 0) 85 0) 86 0) 87 0) 88 0) 89 0) 90 0) 91 0) 92 0) 93 0) 94 0) 95 0) 96 0) 97 0) 98 0) 99 0) 100 0) 101 0) 102 0) 103 0) 104 0) 105 0) 106 0) 107 0) 108 0) 109 0) 110 0) 111 0) 112 0) 113 0) 114 0) 115 0) 116 0))))] rfl dX10_lay_36 (fun H locs w => ?_)
  refine lv_iinc (v := 37) (lv' := [(4, .int 37), (0, .ref a0), (1, .int 2), (2, .int x0), (3, .int x1)]) C.1 C.2.1 dX10_lay_37 hl (k := 0) rfl (by decide) (by decide) rfl (fun ls hl => ?_)
  refine lv_goto (tgt := 17) C.1 C.2.1 dX10_lay_40 (by decide) ?_
  refine lv_iload C.1 C.2.1 dX10_lay_17 (lv_at hl 0 rfl) ?_
  refine lv_bipush (v := 40) C.1 C.2.1 dX10_lay_19 (by decide) ?_
  refine b_icmp_ge_f C (tgt := 43) dX10_lay_21 (by decide) (by decide) ?_
  refine lv_aload_n C.1 C.2.1 dX10_lay_24 rfl (lv_at hl 1 rfl) ?_
  refine r_get C w 0 rfl rfl 2 (by decide) fl_RX10_18 (v := .ref a3) rfl dX10_lay_25 ?_
  refine lv_iload_n C.1 C.2.1 dX10_lay_28 rfl (lv_at hl 2 rfl) ?_
  refine lv_bipush (v := 40) C.1 C.2.1 dX10_lay_29 (by decide) ?_
  refine r_imul C (v := 80) dX10_lay_31 (by decide) ?_
  refine lv_iload C.1 C.2.1 dX10_lay_32 (lv_at hl 0 rfl) ?_
  refine r_iadd C (v := 117) dX10_lay_34 (by decide) ?_
  refine lv_lconst (v := 0) C.1 C.2.1 dX10_lay_35 (by decide) ?_
  refine r_last C w 3 rfl (vinD (by decide)) (vp_updL (vp_updL (vp_updL (vp_updL (vp_updL (vp_updL (vp_updL (vp_updL (vp_updL (vp_updL (vp_updL (vp_updL (vp_updL (vp_updL (vp_updL (vp_updL (vp_updL (vp_updL (vp_updL (vp_updL (vp_updL (vp_updL (vp_updL (vp_updL (vp_updL (vp_updL (vp_updL (vp_updL (vp_updL (vp_updL (vp_updL (vp_updL (vp_updL (vp_updL (vp_updL (vp_updL (vp_updL (vp_updL (fun _ => 0) 80 0) 81 0) 82 0) 83 0) 84 0) 85 0) 86 0) 87 0) 88 0) 89 0) 90 0) 91 0) 92 0) 93 0) 94 0) 95 0) 96 0) 97 0) 98 0) 99 0) 100 0) 101 0) 102 0) 103 0) 104 0) 105 0) 106 0) 107 0) 108 0) 109 0) 110 0) 111 0) 112 0) 113 0) 114 0) 115 0) 116 0) 117 0) rfl [(a0, .inr (10, [.ref a1, .ref a2, .ref a3])), (a1, .inl (cy 1, 4, .inl (upd (upd (upd (upd (upd (fun _ => 0) 0 (-1)) 1 (-1)) 2 (-1)) 3 (-1)) 2 x0))), (a2, .inl (cy 1, 4, .inl (upd (fun _ => 0) 2 x1))), (a3, .inl (cy 2, 160, .inr (.inl (vp_updL (vp_updL (vp_updL (vp_updL (vp_updL (vp_updL (vp_updL (vp_updL (vp_updL (vp_updL (vp_updL (vp_updL (vp_updL (vp_updL (vp_updL (vp_updL (vp_updL (vp_updL (vp_updL (vp_updL (vp_updL (vp_updL (vp_updL (vp_updL (vp_updL (vp_updL (vp_updL (vp_updL (vp_updL (vp_updL (vp_updL (vp_updL (vp_updL (vp_updL (vp_updL (vp_updL (vp_updL (vp_updL (fun _ => 0) 80 0) 81 0) 82 0) 83 0) 84 0) 85 0) 86 0) 87 0) 88 0) 89 0) 90 0) 91 0) 92 0) 93 0) 94 0) 95 0) 96 0) 97 0) 98 0) 99 0) 100 0) 101 0) 102 0) 103 0) 104 0) 105 0) 106 0) 107 0) 108 0) 109 0) 110 0) 111 0) 112 0) 113 0) 114 0) 115 0) 116 0) 117 0))))] rfl dX10_lay_36 (fun H locs w => ?_)
  refine lv_iinc (v := 38) (lv' := [(4, .int 38), (0, .ref a0), (1, .int 2), (2, .int x0), (3, .int x1)]) C.1 C.2.1 dX10_lay_37 hl (k := 0) rfl (by decide) (by decide) rfl (fun ls hl => ?_)
  refine lv_goto (tgt := 17) C.1 C.2.1 dX10_lay_40 (by decide) ?_
  refine lv_iload C.1 C.2.1 dX10_lay_17 (lv_at hl 0 rfl) ?_
  refine lv_bipush (v := 40) C.1 C.2.1 dX10_lay_19 (by decide) ?_
  refine b_icmp_ge_f C (tgt := 43) dX10_lay_21 (by decide) (by decide) ?_
  refine lv_aload_n C.1 C.2.1 dX10_lay_24 rfl (lv_at hl 1 rfl) ?_
  refine r_get C w 0 rfl rfl 2 (by decide) fl_RX10_18 (v := .ref a3) rfl dX10_lay_25 ?_
  refine lv_iload_n C.1 C.2.1 dX10_lay_28 rfl (lv_at hl 2 rfl) ?_
  refine lv_bipush (v := 40) C.1 C.2.1 dX10_lay_29 (by decide) ?_
  refine r_imul C (v := 80) dX10_lay_31 (by decide) ?_
  refine lv_iload C.1 C.2.1 dX10_lay_32 (lv_at hl 0 rfl) ?_
  refine r_iadd C (v := 118) dX10_lay_34 (by decide) ?_
  refine lv_lconst (v := 0) C.1 C.2.1 dX10_lay_35 (by decide) ?_
  refine r_last C w 3 rfl (vinD (by decide)) (vp_updL (vp_updL (vp_updL (vp_updL (vp_updL (vp_updL (vp_updL (vp_updL (vp_updL (vp_updL (vp_updL (vp_updL (vp_updL (vp_updL (vp_updL (vp_updL (vp_updL (vp_updL (vp_updL (vp_updL (vp_updL (vp_updL (vp_updL (vp_updL (vp_updL (vp_updL (vp_updL (vp_updL (vp_updL (vp_updL (vp_updL (vp_updL (vp_updL (vp_updL (vp_updL (vp_updL (vp_updL (vp_updL (vp_updL (fun _ => 0) 80 0) 81 0) 82 0) 83 0) 84 0) 85 0) 86 0) 87 0) 88 0) 89 0) 90 0) 91 0) 92 0) 93 0) 94 0) 95 0) 96 0) 97 0) 98 0) 99 0) 100 0) 101 0) 102 0) 103 0) 104 0) 105 0) 106 0) 107 0) 108 0) 109 0) 110 0) 111 0) 112 0) 113 0) 114 0) 115 0) 116 0) 117 0) 118 0) rfl [(a0, .inr (10, [.ref a1, .ref a2, .ref a3])), (a1, .inl (cy 1, 4, .inl (upd (upd (upd (upd (upd (fun _ => 0) 0 (-1)) 1 (-1)) 2 (-1)) 3 (-1)) 2 x0))), (a2, .inl (cy 1, 4, .inl (upd (fun _ => 0) 2 x1))), (a3, .inl (cy 2, 160, .inr (.inl (vp_updL (vp_updL (vp_updL (vp_updL (vp_updL (vp_updL (vp_updL (vp_updL (vp_updL (vp_updL (vp_updL (vp_updL (vp_updL (vp_updL (vp_updL (vp_updL (vp_updL (vp_updL (vp_updL (vp_updL (vp_updL (vp_updL (vp_updL (vp_updL (vp_updL (vp_updL (vp_updL (vp_updL (vp_updL (vp_updL (vp_updL (vp_updL (vp_updL (vp_updL (vp_updL (vp_updL (vp_updL (vp_updL (vp_updL (fun _ => 0) 80 0) 81 0) 82 0) 83 0) 84 0) 85 0) 86 0) 87 0) 88 0) 89 0) 90 0) 91 0) 92 0) 93 0) 94 0) 95 0) 96 0) 97 0) 98 0) 99 0) 100 0) 101 0) 102 0) 103 0) 104 0) 105 0) 106 0) 107 0) 108 0) 109 0) 110 0) 111 0) 112 0) 113 0) 114 0) 115 0) 116 0) 117 0) 118 0))))] rfl dX10_lay_36 (fun H locs w => ?_)
  refine lv_iinc (v := 39) (lv' := [(4, .int 39), (0, .ref a0), (1, .int 2), (2, .int x0), (3, .int x1)]) C.1 C.2.1 dX10_lay_37 hl (k := 0) rfl (by decide) (by decide) rfl (fun ls hl => ?_)
  refine lv_goto (tgt := 17) C.1 C.2.1 dX10_lay_40 (by decide) ?_
  refine lv_iload C.1 C.2.1 dX10_lay_17 (lv_at hl 0 rfl) ?_
  refine lv_bipush (v := 40) C.1 C.2.1 dX10_lay_19 (by decide) ?_
  refine b_icmp_ge_f C (tgt := 43) dX10_lay_21 (by decide) (by decide) ?_
  refine lv_aload_n C.1 C.2.1 dX10_lay_24 rfl (lv_at hl 1 rfl) ?_
  refine r_get C w 0 rfl rfl 2 (by decide) fl_RX10_18 (v := .ref a3) rfl dX10_lay_25 ?_
  refine lv_iload_n C.1 C.2.1 dX10_lay_28 rfl (lv_at hl 2 rfl) ?_
  refine lv_bipush (v := 40) C.1 C.2.1 dX10_lay_29 (by decide) ?_
  refine r_imul C (v := 80) dX10_lay_31 (by decide) ?_
  refine lv_iload C.1 C.2.1 dX10_lay_32 (lv_at hl 0 rfl) ?_
  refine r_iadd C (v := 119) dX10_lay_34 (by decide) ?_
  refine lv_lconst (v := 0) C.1 C.2.1 dX10_lay_35 (by decide) ?_
  refine r_last C w 3 rfl (vinD (by decide)) (vp_updL (vp_updL (vp_updL (vp_updL (vp_updL (vp_updL (vp_updL (vp_updL (vp_updL (vp_updL (vp_updL (vp_updL (vp_updL (vp_updL (vp_updL (vp_updL (vp_updL (vp_updL (vp_updL (vp_updL (vp_updL (vp_updL (vp_updL (vp_updL (vp_updL (vp_updL (vp_updL (vp_updL (vp_updL (vp_updL (vp_updL (vp_updL (vp_updL (vp_updL (vp_updL (vp_updL (vp_updL (vp_updL (vp_updL (vp_updL (fun _ => 0) 80 0) 81 0) 82 0) 83 0) 84 0) 85 0) 86 0) 87 0) 88 0) 89 0) 90 0) 91 0) 92 0) 93 0) 94 0) 95 0) 96 0) 97 0) 98 0) 99 0) 100 0) 101 0) 102 0) 103 0) 104 0) 105 0) 106 0) 107 0) 108 0) 109 0) 110 0) 111 0) 112 0) 113 0) 114 0) 115 0) 116 0) 117 0) 118 0) 119 0) rfl [(a0, .inr (10, [.ref a1, .ref a2, .ref a3])), (a1, .inl (cy 1, 4, .inl (upd (upd (upd (upd (upd (fun _ => 0) 0 (-1)) 1 (-1)) 2 (-1)) 3 (-1)) 2 x0))), (a2, .inl (cy 1, 4, .inl (upd (fun _ => 0) 2 x1))), (a3, .inl (cy 2, 160, .inr (.inl (vp_updL (vp_updL (vp_updL (vp_updL (vp_updL (vp_updL (vp_updL (vp_updL (vp_updL (vp_updL (vp_updL (vp_updL (vp_updL (vp_updL (vp_updL (vp_updL (vp_updL (vp_updL (vp_updL (vp_updL (vp_updL (vp_updL (vp_updL (vp_updL (vp_updL (vp_updL (vp_updL (vp_updL (vp_updL (vp_updL (vp_updL (vp_updL (vp_updL (vp_updL (vp_updL (vp_updL (vp_updL (vp_updL (vp_updL (vp_updL (fun _ => 0) 80 0) 81 0) 82 0) 83 0) 84 0) 85 0) 86 0) 87 0) 88 0) 89 0) 90 0) 91 0) 92 0) 93 0) 94 0) 95 0) 96 0) 97 0) 98 0) 99 0) 100 0) 101 0) 102 0) 103 0) 104 0) 105 0) 106 0) 107 0) 108 0) 109 0) 110 0) 111 0) 112 0) 113 0) 114 0) 115 0) 116 0) 117 0) 118 0) 119 0))))] rfl dX10_lay_36 (fun H locs w => ?_)
  refine lv_iinc (v := 40) (lv' := [(4, .int 40), (0, .ref a0), (1, .int 2), (2, .int x0), (3, .int x1)]) C.1 C.2.1 dX10_lay_37 hl (k := 0) rfl (by decide) (by decide) rfl (fun ls hl => ?_)
  refine lv_goto (tgt := 17) C.1 C.2.1 dX10_lay_40 (by decide) ?_
  refine lv_iload C.1 C.2.1 dX10_lay_17 (lv_at hl 0 rfl) ?_
  refine lv_bipush (v := 40) C.1 C.2.1 dX10_lay_19 (by decide) ?_
  refine b_icmp_ge_t C (tgt := 43) dX10_lay_21 (by decide) (by decide) ?_
  exact r_vret C w hlocks () hr rfl trivial [0, 1, 2, 3] rfl rfl ⟨Nat.le_of_ble_eq_true rfl, Nat.le_of_ble_eq_true rfl⟩ dX10_lay_43
set_option maxRecDepth 100000 in
set_option maxHeartbeats 4000000 in
theorem c_X11_tray_7 (l : Launch) (D : va_G) (cy : Nat → ClassId) (a0 a1 a2 a3 a4 a5 a6 a8 a9 a10 : Nat) (x1 : Int32) (x2 : Int32) (k0 : ¬ x1 < 0) (k1 : ¬ 4 ≤ x1) (k2 : ¬ x2 < 0) (k3 : x2 ≤ 40) : Ct l D cy yX11_tray cX11_tray 4 none 1 24 0 0 [(a0, .inr (11, [.ref a1, .int 0, .int 0, .int (-1), .ref a2, .ref a3, .ref a4, .ref a5, .ref a6, .null])), (a5, .inr (10, [.ref a8, .ref a9, .ref a10])), (a8, .inl (cy 1, 4, .inl (upd (upd (upd (upd (fun _ => 0) 0 (-1)) 1 (-1)) 2 (-1)) 3 (-1)))), (a9, .inl (cy 1, 4, .inl (fun _ => 0))), (a10, .inl (cy 2, 160, .inr (.inl (fun _ => 0))))] [.ref a0, .int 2, .int x1, .int x2] (fun u : Unit => none) (fun _ => True) (fun u : Unit => [(a0, .inr (11, [.ref a1, .int 0, .int 0, .int (-1), .ref a2, .ref a3, .ref a4, .ref a5, .ref a6, .null])), (a5, .inr (10, [.ref a8, .ref a9, .ref a10])), (a8, .inl (cy 1, 4, .inl (upd (upd (upd (upd (upd (fun _ => 0) 0 (-1)) 1 (-1)) 2 (-1)) 3 (-1)) 2 x1))), (a9, .inl (cy 1, 4, .inl (upd (fun _ => 0) 2 x2))), (a10, .inl (cy 2, 160, .inr (.inl (vp_updL (vp_updL (vp_updL (vp_updL (vp_updL (vp_updL (vp_updL (vp_updL (vp_updL (vp_updL (vp_updL (vp_updL (vp_updL (vp_updL (vp_updL (vp_updL (vp_updL (vp_updL (vp_updL (vp_updL (vp_updL (vp_updL (vp_updL (vp_updL (vp_updL (vp_updL (vp_updL (vp_updL (vp_updL (vp_updL (vp_updL (vp_updL (vp_updL (vp_updL (vp_updL (vp_updL (vp_updL (vp_updL (vp_updL (vp_updL (fun _ => 0) 80 0) 81 0) 82 0) 83 0) 84 0) 85 0) 86 0) 87 0) 88 0) 89 0) 90 0) 91 0) 92 0) 93 0) 94 0) 95 0) 96 0) 97 0) 98 0) 99 0) 100 0) 101 0) 102 0) 103 0) 104 0) 105 0) 106 0) 107 0) 108 0) 109 0) 110 0) 111 0) 112 0) 113 0) 114 0) 115 0) 116 0) 117 0) 118 0) 119 0))))]) := by
  refine Ct.of (by decide +kernel) (Nat.le_of_ble_eq_true rfl) ?_
  intro p e s m args below meth c A ls C hr hlocks hml hnm w hl
  have hl : lv_has ls 4 [(0, .ref a0), (1, .int 2), (2, .int x1), (3, .int x2)] := hl
  refine lv_aload_n C.1 C.2.1 dX11_tray_0 rfl (lv_at hl 0 rfl) ?_
  refine lv_iload_n C.1 C.2.1 dX11_tray_1 rfl (lv_at hl 1 rfl) ?_
  refine r_callV C w fv_RX11_317 (c_X11_checkTray_5 l D cy a0 a1 a2 a3 a4 a5 a6) (hl.1.trans hml.symm) [0] [1, 2, 3, 4] (wr := [(a5, .inr (10, [.ref a8, .ref a9, .ref a10])), (a8, .inl (cy 1, 4, .inl (upd (upd (upd (upd (fun _ => 0) 0 (-1)) 1 (-1)) 2 (-1)) 3 (-1)))), (a9, .inl (cy 1, 4, .inl (fun _ => 0))), (a10, .inl (cy 2, 160, .inr (.inl (fun _ => 0))))]) ⟨rfl, rfl, rfl, rfl, by decide⟩ 0 rfl rfl rfl rfl rfl ⟨Nat.le_of_ble_eq_true rfl, Nat.le_of_ble_eq_true rfl, Nat.le_of_ble_eq_true rfl⟩ 0 0 ⟨rfl, rfl, Nat.le_of_ble_eq_true rfl, Nat.le_of_ble_eq_true rfl⟩ dX11_tray_2 (fun u H locs hp w => ?_)
  have w : Wd D A s.heap [(a5, .inr (10, [.ref a8, .ref a9, .ref a10])), (a8, .inl (cy 1, 4, .inl (upd (upd (upd (upd (fun _ => 0) 0 (-1)) 1 (-1)) 2 (-1)) 3 (-1)))), (a9, .inl (cy 1, 4, .inl (fun _ => 0))), (a10, .inl (cy 2, 160, .inr (.inl (fun _ => 0)))), (a0, .inr (11, [.ref a1, .int 0, .int 0, .int (-1), .ref a2, .ref a3, .ref a4, .ref a5, .ref a6, .null]))] _ _ := w
  refine r_top (g2 := F0 m 5 ls []) rfl ?_
  refine lv_iload_n C.1 C.2.1 dX11_tray_5 rfl (lv_at hl 2 rfl) ?_
  refine b_if_lt_f C (tgt := 24) dX11_tray_6 (by decide) k0 ?_
  refine lv_iload_n C.1 C.2.1 dX11_tray_9 rfl (lv_at hl 2 rfl) ?_
  refine lv_iconst (v := 4) C.1 C.2.1 dX11_tray_10 (by decide) ?_
  refine b_icmp_ge_f C (tgt := 24) dX11_tray_11 (by decide) k1 ?_
  refine lv_iload_n C.1 C.2.1 dX11_tray_14 rfl (lv_at hl 3 rfl) ?_
  refine b_if_lt_f C (tgt := 24) dX11_tray_15 (by decide) k2 ?_
  refine lv_iload_n C.1 C.2.1 dX11_tray_18 rfl (lv_at hl 3 rfl) ?_
  refine lv_bipush (v := 40) C.1 C.2.1 dX11_tray_19 (by decide) ?_
  refine b_icmp_le_t C (tgt := 35) dX11_tray_21 (by decide) k3 ?_
  refine lv_aload_n C.1 C.2.1 dX11_tray_35 rfl (lv_at hl 0 rfl) ?_
  refine r_get C w 4 rfl rfl 7 (by decide) fl_RX11_36 (v := .ref a5) rfl dX11_tray_36 ?_
  refine lv_iload_n C.1 C.2.1 dX11_tray_39 rfl (lv_at hl 1 rfl) ?_
  refine lv_iload_n C.1 C.2.1 dX11_tray_40 rfl (lv_at hl 2 rfl) ?_
  refine lv_iload_n C.1 C.2.1 dX11_tray_41 rfl (lv_at hl 3 rfl) ?_
  refine r_callV C w fv_RX11_322 (c_X10_lay_2 l D cy a5 a8 a9 a10 x1 x2) (hl.1.trans hml.symm) [0, 1, 2, 3] [4] (wr := [(a0, .inr (11, [.ref a1, .int 0, .int 0, .int (-1), .ref a2, .ref a3, .ref a4, .ref a5, .ref a6, .null]))]) ⟨rfl, rfl, rfl, rfl, by decide⟩ 0 rfl rfl rfl rfl rfl ⟨Nat.le_of_ble_eq_true rfl, Nat.le_of_ble_eq_true rfl, Nat.le_of_ble_eq_true rfl⟩ 0 0 ⟨rfl, rfl, Nat.le_of_ble_eq_true rfl, Nat.le_of_ble_eq_true rfl⟩ dX11_tray_42 (fun u H locs hp w => ?_)
  have w : Wd D A s.heap [(a0, .inr (11, [.ref a1, .int 0, .int 0, .int (-1), .ref a2, .ref a3, .ref a4, .ref a5, .ref a6, .null])), (a5, .inr (10, [.ref a8, .ref a9, .ref a10])), (a8, .inl (cy 1, 4, .inl (upd (upd (upd (upd (upd (fun _ => 0) 0 (-1)) 1 (-1)) 2 (-1)) 3 (-1)) 2 x1))), (a9, .inl (cy 1, 4, .inl (upd (fun _ => 0) 2 x2))), (a10, .inl (cy 2, 160, .inr (.inl (vp_updL (vp_updL (vp_updL (vp_updL (vp_updL (vp_updL (vp_updL (vp_updL (vp_updL (vp_updL (vp_updL (vp_updL (vp_updL (vp_updL (vp_updL (vp_updL (vp_updL (vp_updL (vp_updL (vp_updL (vp_updL (vp_updL (vp_updL (vp_updL (vp_updL (vp_updL (vp_updL (vp_updL (vp_updL (vp_updL (vp_updL (vp_updL (vp_updL (vp_updL (vp_updL (vp_updL (vp_updL (vp_updL (vp_updL (vp_updL (fun _ => 0) 80 0) 81 0) 82 0) 83 0) 84 0) 85 0) 86 0) 87 0) 88 0) 89 0) 90 0) 91 0) 92 0) 93 0) 94 0) 95 0) 96 0) 97 0) 98 0) 99 0) 100 0) 101 0) 102 0) 103 0) 104 0) 105 0) 106 0) 107 0) 108 0) 109 0) 110 0) 111 0) 112 0) 113 0) 114 0) 115 0) 116 0) 117 0) 118 0) 119 0))))] _ _ := w
  refine r_top (g2 := F0 m 45 ls []) rfl ?_
  exact r_vret C w hlocks () hr rfl trivial [0, 1, 2, 3, 4] rfl rfl ⟨Nat.le_of_ble_eq_true rfl, Nat.le_of_ble_eq_true rfl⟩ dX11_tray_45
set_option maxRecDepth 100000 in
set_option maxHeartbeats 4000000 in
theorem c_X10_lay_3 (l : Launch) (D : va_G) (cy : Nat → ClassId) (a0 a1 a2 a3 : Nat) (x0 : Int32) (x1 : Int32) : Ct l D cy yX10_lay cX10_lay 5 none 0 0 0 0 [(a0, .inr (10, [.ref a1, .ref a2, .ref a3])), (a1, .inl (cy 1, 4, .inl (upd (upd (upd (upd (fun _ => 0) 0 (-1)) 1 (-1)) 2 (-1)) 3 (-1)))), (a2, .inl (cy 1, 4, .inl (fun _ => 0))), (a3, .inl (cy 2, 160, .inr (.inl (fun _ => 0))))] [.ref a0, .int 1, .int x0, .int x1] (fun u : Unit => none) (fun _ => True) (fun u : Unit => [(a0, .inr (10, [.ref a1, .ref a2, .ref a3])), (a1, .inl (cy 1, 4, .inl (upd (upd (upd (upd (upd (fun _ => 0) 0 (-1)) 1 (-1)) 2 (-1)) 3 (-1)) 1 x0))), (a2, .inl (cy 1, 4, .inl (upd (fun _ => 0) 1 x1))), (a3, .inl (cy 2, 160, .inr (.inl (vp_updL (vp_updL (vp_updL (vp_updL (vp_updL (vp_updL (vp_updL (vp_updL (vp_updL (vp_updL (vp_updL (vp_updL (vp_updL (vp_updL (vp_updL (vp_updL (vp_updL (vp_updL (vp_updL (vp_updL (vp_updL (vp_updL (vp_updL (vp_updL (vp_updL (vp_updL (vp_updL (vp_updL (vp_updL (vp_updL (vp_updL (vp_updL (vp_updL (vp_updL (vp_updL (vp_updL (vp_updL (vp_updL (vp_updL (vp_updL (fun _ => 0) 40 0) 41 0) 42 0) 43 0) 44 0) 45 0) 46 0) 47 0) 48 0) 49 0) 50 0) 51 0) 52 0) 53 0) 54 0) 55 0) 56 0) 57 0) 58 0) 59 0) 60 0) 61 0) 62 0) 63 0) 64 0) 65 0) 66 0) 67 0) 68 0) 69 0) 70 0) 71 0) 72 0) 73 0) 74 0) 75 0) 76 0) 77 0) 78 0) 79 0))))]) := by
  refine Ct.of (by decide +kernel) (Nat.le_of_ble_eq_true rfl) ?_
  intro p e s m args below meth c A ls C hr hlocks hml hnm w hl
  have hl : lv_has ls 5 [(0, .ref a0), (1, .int 1), (2, .int x0), (3, .int x1)] := hl
  refine lv_aload_n C.1 C.2.1 dX10_lay_0 rfl (lv_at hl 0 rfl) ?_
  refine r_get C w 0 rfl rfl 0 (by decide) fl_RX10_9 (v := .ref a1) rfl dX10_lay_1 ?_
  refine lv_iload_n C.1 C.2.1 dX10_lay_4 rfl (lv_at hl 1 rfl) ?_
  refine lv_iload_n C.1 C.2.1 dX10_lay_5 rfl (lv_at hl 2 rfl) ?_
  refine r_iast C w 1 rfl (vinD (by decide)) (upd (upd (upd (upd (upd (fun _ => 0) 0 (-1)) 1 (-1)) 2 (-1)) 3 (-1)) 1 x0) rfl [(a0, .inr (10, [.ref a1, .ref a2, .ref a3])), (a1, .inl (cy 1, 4, .inl (upd (upd (upd (upd (upd (fun _ => 0) 0 (-1)) 1 (-1)) 2 (-1)) 3 (-1)) 1 x0))), (a2, .inl (cy 1, 4, .inl (fun _ => 0))), (a3, .inl (cy 2, 160, .inr (.inl (fun _ => 0))))] rfl dX10_lay_6 (fun H locs w => ?_)
  refine lv_aload_n C.1 C.2.1 dX10_lay_7 rfl (lv_at hl 0 rfl) ?_
  refine r_get C w 0 rfl rfl 1 (by decide) fl_RX10_15 (v := .ref a2) rfl dX10_lay_8 ?_
  refine lv_iload_n C.1 C.2.1 dX10_lay_11 rfl (lv_at hl 1 rfl) ?_
  refine lv_iload_n C.1 C.2.1 dX10_lay_12 rfl (lv_at hl 3 rfl) ?_
  refine r_iast C w 2 rfl (vinD (by decide)) (upd (fun _ => 0) 1 x1) rfl [(a0, .inr (10, [.ref a1, .ref a2, .ref a3])), (a1, .inl (cy 1, 4, .inl (upd (upd (upd (upd (upd (fun _ => 0) 0 (-1)) 1 (-1)) 2 (-1)) 3 (-1)) 1 x0))), (a2, .inl (cy 1, 4, .inl (upd (fun _ => 0) 1 x1))), (a3, .inl (cy 2, 160, .inr (.inl (fun _ => 0))))] rfl dX10_lay_13 (fun H locs w => ?_)
  refine lv_iconst (v := 0) C.1 C.2.1 dX10_lay_14 (by decide) ?_
  refine lv_istore (lv' := [(4, .int 0), (0, .ref a0), (1, .int 1), (2, .int x0), (3, .int x1)]) C.1 C.2.1 dX10_lay_15 hl (by decide) rfl (fun ls hl => ?_)
  refine lv_iload C.1 C.2.1 dX10_lay_17 (lv_at hl 0 rfl) ?_
  refine lv_bipush (v := 40) C.1 C.2.1 dX10_lay_19 (by decide) ?_
  refine b_icmp_ge_f C (tgt := 43) dX10_lay_21 (by decide) (by decide) ?_
  refine lv_aload_n C.1 C.2.1 dX10_lay_24 rfl (lv_at hl 1 rfl) ?_
  refine r_get C w 0 rfl rfl 2 (by decide) fl_RX10_18 (v := .ref a3) rfl dX10_lay_25 ?_
  refine lv_iload_n C.1 C.2.1 dX10_lay_28 rfl (lv_at hl 2 rfl) ?_
  refine lv_bipush (v := 40) C.1 C.2.1 dX10_lay_29 (by decide) ?_
  refine r_imul C (v := 40) dX10_lay_31 (by decide) ?_
  refine lv_iload C.1 C.2.1 dX10_lay_32 (lv_at hl 0 rfl) ?_
  refine r_iadd C (v := 40) dX10_lay_34 (by decide) ?_
  refine lv_lconst (v := 0) C.1 C.2.1 dX10_lay_35 (by decide) ?_
  refine r_last C w 3 rfl (vinD (by decide)) (vp_updL (fun _ => 0) 40 0) rfl [(a0, .inr (10, [.ref a1, .ref a2, .ref a3])), (a1, .inl (cy 1, 4, .inl (upd (upd (upd (upd (upd (fun _ => 0) 0 (-1)) 1 (-1)) 2 (-1)) 3 (-1)) 1 x0))), (a2, .inl (cy 1, 4, .inl (upd (fun _ => 0) 1 x1))), (a3, .inl (cy 2, 160, .inr (.inl (vp_updL (fun _ => 0) 40 0))))] rfl dX10_lay_36 (fun H locs w => ?_)
  refine lv_iinc (v := 1) (lv' := [(4, .int 1), (0, .ref a0), (1, .int 1), (2, .int x0), (3, .int x1)]) C.1 C.2.1 dX10_lay_37 hl (k := 0) rfl (by decide) (by decide) rfl (fun ls hl => ?_)
  refine lv_goto (tgt := 17) C.1 C.2.1 dX10_lay_40 (by decide) ?_
  refine lv_iload C.1 C.2.1 dX10_lay_17 (lv_at hl 0 rfl) ?_
  refine lv_bipush (v := 40) C.1 C.2.1 dX10_lay_19 (by decide) ?_
  refine b_icmp_ge_f C (tgt := 43) dX10_lay_21 (by decide) (by decide) ?_
  refine lv_aload_n C.1 C.2.1 dX10_lay_24 rfl (lv_at hl 1 rfl) ?_
  refine r_get C w 0 rfl rfl 2 (by decide) fl_RX10_18 (v := .ref a3) rfl dX10_lay_25 ?_
  refine lv_iload_n C.1 C.2.1 dX10_lay_28 rfl (lv_at hl 2 rfl) ?_
  refine lv_bipush (v := 40) C.1 C.2.1 dX10_lay_29 (by decide) ?_
  refine r_imul C (v := 40) dX10_lay_31 (by decide) ?_
  refine lv_iload C.1 C.2.1 dX10_lay_32 (lv_at hl 0 rfl) ?_
  refine r_iadd C (v := 41) dX10_lay_34 (by decide) ?_
  refine lv_lconst (v := 0) C.1 C.2.1 dX10_lay_35 (by decide) ?_
  refine r_last C w 3 rfl (vinD (by decide)) (vp_updL (vp_updL (fun _ => 0) 40 0) 41 0) rfl [(a0, .inr (10, [.ref a1, .ref a2, .ref a3])), (a1, .inl (cy 1, 4, .inl (upd (upd (upd (upd (upd (fun _ => 0) 0 (-1)) 1 (-1)) 2 (-1)) 3 (-1)) 1 x0))), (a2, .inl (cy 1, 4, .inl (upd (fun _ => 0) 1 x1))), (a3, .inl (cy 2, 160, .inr (.inl (vp_updL (vp_updL (fun _ => 0) 40 0) 41 0))))] rfl dX10_lay_36 (fun H locs w => ?_)
  refine lv_iinc (v := 2) (lv' := [(4, .int 2), (0, .ref a0), (1, .int 1), (2, .int x0), (3, .int x1)]) C.1 C.2.1 dX10_lay_37 hl (k := 0) rfl (by decide) (by decide) rfl (fun ls hl => ?_)
  refine lv_goto (tgt := 17) C.1 C.2.1 dX10_lay_40 (by decide) ?_
  refine lv_iload C.1 C.2.1 dX10_lay_17 (lv_at hl 0 rfl) ?_
  refine lv_bipush (v := 40) C.1 C.2.1 dX10_lay_19 (by decide) ?_
  refine b_icmp_ge_f C (tgt := 43) dX10_lay_21 (by decide) (by decide) ?_
  refine lv_aload_n C.1 C.2.1 dX10_lay_24 rfl (lv_at hl 1 rfl) ?_
  refine r_get C w 0 rfl rfl 2 (by decide) fl_RX10_18 (v := .ref a3) rfl dX10_lay_25 ?_
  refine lv_iload_n C.1 C.2.1 dX10_lay_28 rfl (lv_at hl 2 rfl) ?_
  refine lv_bipush (v := 40) C.1 C.2.1 dX10_lay_29 (by decide) ?_
  refine r_imul C (v := 40) dX10_lay_31 (by decide) ?_
  refine lv_iload C.1 C.2.1 dX10_lay_32 (lv_at hl 0 rfl) ?_
  refine r_iadd C (v := 42) dX10_lay_34 (by decide) ?_
  refine lv_lconst (v := 0) C.1 C.2.1 dX10_lay_35 (by decide) ?_
  refine r_last C w 3 rfl (vinD (by decide)) (vp_updL (vp_updL (vp_updL (fun _ => 0) 40 0) 41 0) 42 0) rfl [(a0, .inr (10, [.ref a1, .ref a2, .ref a3])), (a1, .inl (cy 1, 4, .inl (upd (upd (upd (upd (upd (fun _ => 0) 0 (-1)) 1 (-1)) 2 (-1)) 3 (-1)) 1 x0))), (a2, .inl (cy 1, 4, .inl (upd (fun _ => 0) 1 x1))), (a3, .inl (cy 2, 160, .inr (.inl (vp_updL (vp_updL (vp_updL (fun _ => 0) 40 0) 41 0) 42 0))))] rfl dX10_lay_36 (fun H locs w => ?_)
  refine lv_iinc (v := 3) (lv' := [(4, .int 3), (0, .ref a0), (1, .int 1), (2, .int x0), (3, .int x1)]) C.1 C.2.1 dX10_lay_37 hl (k := 0) rfl (by decide) (by decide) rfl (fun ls hl => ?_)
  refine lv_goto (tgt := 17) C.1 C.2.1 dX10_lay_40 (by decide) ?_
  refine lv_iload C.1 C.2.1 dX10_lay_17 (lv_at hl 0 rfl) ?_
  refine lv_bipush (v := 40) C.1 C.2.1 dX10_lay_19 (by decide) ?_
  refine b_icmp_ge_f C (tgt := 43) dX10_lay_21 (by decide) (by decide) ?_
  refine lv_aload_n C.1 C.2.1 dX10_lay_24 rfl (lv_at hl 1 rfl) ?_
  refine r_get C w 0 rfl rfl 2 (by decide) fl_RX10_18 (v := .ref a3) rfl dX10_lay_25 ?_
  refine lv_iload_n C.1 C.2.1 dX10_lay_28 rfl (lv_at hl 2 rfl) ?_
  refine lv_bipush (v := 40) C.1 C.2.1 dX10_lay_29 (by decide) ?_
  refine r_imul C (v := 40) dX10_lay_31 (by decide) ?_
  refine lv_iload C.1 C.2.1 dX10_lay_32 (lv_at hl 0 rfl) ?_
  refine r_iadd C (v := 43) dX10_lay_34 (by decide) ?_
  refine lv_lconst (v := 0) C.1 C.2.1 dX10_lay_35 (by decide) ?_
  refine r_last C w 3 rfl (vinD (by decide)) (vp_updL (vp_updL (vp_updL (vp_updL (fun _ => 0) 40 0) 41 0) 42 0) 43 0) rfl [(a0, .inr (10, [.ref a1, .ref a2, .ref a3])), (a1, .inl (cy 1, 4, .inl (upd (upd (upd (upd (upd (fun _ => 0) 0 (-1)) 1 (-1)) 2 (-1)) 3 (-1)) 1 x0))), (a2, .inl (cy 1, 4, .inl (upd (fun _ => 0) 1 x1))), (a3, .inl (cy 2, 160, .inr (.inl (vp_updL (vp_updL (vp_updL (vp_updL (fun _ => 0) 40 0) 41 0) 42 0) 43 0))))] rfl dX10_lay_36 (fun H locs w => ?_)
  refine lv_iinc (v := 4) (lv' := [(4, .int 4), (0, .ref a0), (1, .int 1), (2, .int x0), (3, .int x1)]) C.1 C.2.1 dX10_lay_37 hl (k := 0) rfl (by decide) (by decide) rfl (fun ls hl => ?_)
  refine lv_goto (tgt := 17) C.1 C.2.1 dX10_lay_40 (by decide) ?_
  refine lv_iload C.1 C.2.1 dX10_lay_17 (lv_at hl 0 rfl) ?_
  refine lv_bipush (v := 40) C.1 C.2.1 dX10_lay_19 (by decide) ?_
  refine b_icmp_ge_f C (tgt := 43) dX10_lay_21 (by decide) (by decide) ?_
  refine lv_aload_n C.1 C.2.1 dX10_lay_24 rfl (lv_at hl 1 rfl) ?_
  refine r_get C w 0 rfl rfl 2 (by decide) fl_RX10_18 (v := .ref a3) rfl dX10_lay_25 ?_
  refine lv_iload_n C.1 C.2.1 dX10_lay_28 rfl (lv_at hl 2 rfl) ?_
  refine lv_bipush (v := 40) C.1 C.2.1 dX10_lay_29 (by decide) ?_
  refine r_imul C (v := 40) dX10_lay_31 (by decide) ?_
  refine lv_iload C.1 C.2.1 dX10_lay_32 (lv_at hl 0 rfl) ?_
  refine r_iadd C (v := 44) dX10_lay_34 (by decide) ?_
  refine lv_lconst (v := 0) C.1 C.2.1 dX10_lay_35 (by decide) ?_
  refine r_last C w 3 rfl (vinD (by decide)) (vp_updL (vp_updL (vp_updL (vp_updL (vp_updL (fun _ => 0) 40 0) 41 0) 42 0) 43 0) 44 0) rfl [(a0, .inr (10, [.ref a1, .ref a2, .ref a3])), (a1, .inl (cy 1, 4, .inl (upd (upd (upd (upd (upd (fun _ => 0) 0 (-1)) 1 (-1)) 2 (-1)) 3 (-1)) 1 x0))), (a2, .inl (cy 1, 4, .inl (upd (fun _ => 0) 1 x1))), (a3, .inl (cy 2, 160, .inr (.inl (vp_updL (vp_updL (vp_updL (vp_updL (vp_updL (fun _ => 0) 40 0) 41 0) 42 0) 43 0) 44 0))))] rfl dX10_lay_36 (fun H locs w => ?_)
  refine lv_iinc (v := 5) (lv' := [(4, .int 5), (0, .ref a0), (1, .int 1), (2, .int x0), (3, .int x1)]) C.1 C.2.1 dX10_lay_37 hl (k := 0) rfl (by decide) (by decide) rfl (fun ls hl => ?_)
  refine lv_goto (tgt := 17) C.1 C.2.1 dX10_lay_40 (by decide) ?_
  refine lv_iload C.1 C.2.1 dX10_lay_17 (lv_at hl 0 rfl) ?_
  refine lv_bipush (v := 40) C.1 C.2.1 dX10_lay_19 (by decide) ?_
  refine b_icmp_ge_f C (tgt := 43) dX10_lay_21 (by decide) (by decide) ?_
  refine lv_aload_n C.1 C.2.1 dX10_lay_24 rfl (lv_at hl 1 rfl) ?_
  refine r_get C w 0 rfl rfl 2 (by decide) fl_RX10_18 (v := .ref a3) rfl dX10_lay_25 ?_
  refine lv_iload_n C.1 C.2.1 dX10_lay_28 rfl (lv_at hl 2 rfl) ?_
  refine lv_bipush (v := 40) C.1 C.2.1 dX10_lay_29 (by decide) ?_
  refine r_imul C (v := 40) dX10_lay_31 (by decide) ?_
  refine lv_iload C.1 C.2.1 dX10_lay_32 (lv_at hl 0 rfl) ?_
  refine r_iadd C (v := 45) dX10_lay_34 (by decide) ?_
  refine lv_lconst (v := 0) C.1 C.2.1 dX10_lay_35 (by decide) ?_
  refine r_last C w 3 rfl (vinD (by decide)) (vp_updL (vp_updL (vp_updL (vp_updL (vp_updL (vp_updL (fun _ => 0) 40 0) 41 0) 42 0) 43 0) 44 0) 45 0) rfl [(a0, .inr (10, [.ref a1, .ref a2, .ref a3])), (a1, .inl (cy 1, 4, .inl (upd (upd (upd (upd (upd (fun _ => 0) 0 (-1)) 1 (-1)) 2 (-1)) 3 (-1)) 1 x0))), (a2, .inl (cy 1, 4, .inl (upd (fun _ => 0) 1 x1))), (a3, .inl (cy 2, 160, .inr (.inl (vp_updL (vp_updL (vp_updL (vp_updL (vp_updL (vp_updL (fun _ => 0) 40 0) 41 0) 42 0) 43 0) 44 0) 45 0))))] rfl dX10_lay_36 (fun H locs w => ?_)
  refine lv_iinc (v := 6) (lv' := [(4, .int 6), (0, .ref a0), (1, .int 1), (2, .int x0), (3, .int x1)]) C.1 C.2.1 dX10_lay_37 hl (k := 0) rfl (by decide) (by decide) rfl (fun ls hl => ?_)
  refine lv_goto (tgt := 17) C.1 C.2.1 dX10_lay_40 (by decide) ?_
  refine lv_iload C.1 C.2.1 dX10_lay_17 (lv_at hl 0 rfl) ?_
  refine lv_bipush (v := 40) C.1 C.2.1 dX10_lay_19 (by decide) ?_
  refine b_icmp_ge_f C (tgt := 43) dX10_lay_21 (by decide) (by decide) ?_
  refine lv_aload_n C.1 C.2.1 dX10_lay_24 rfl (lv_at hl 1 rfl) ?_
  refine r_get C w 0 rfl rfl 2 (by decide) fl_RX10_18 (v := .ref a3) rfl dX10_lay_25 ?_
  refine lv_iload_n C.1 C.2.1 dX10_lay_28 rfl (lv_at hl 2 rfl) ?_
  refine lv_bipush (v := 40) C.1 C.2.1 dX10_lay_29 (by decide) ?_
  refine r_imul C (v := 40) dX10_lay_31 (by decide) ?_
  refine lv_iload C.1 C.2.1 dX10_lay_32 (lv_at hl 0 rfl) ?_
  refine r_iadd C (v := 46) dX10_lay_34 (by decide) ?_
  refine lv_lconst (v := 0) C.1 C.2.1 dX10_lay_35 (by decide) ?_
  refine r_last C w 3 rfl (vinD (by decide)) (vp_updL (vp_updL (vp_updL (vp_updL (vp_updL (vp_updL (vp_updL (fun _ => 0) 40 0) 41 0) 42 0) 43 0) 44 0) 45 0) 46 0) rfl [(a0, .inr (10, [.ref a1, .ref a2, .ref a3])), (a1, .inl (cy 1, 4, .inl (upd (upd (upd (upd (upd (fun _ => 0) 0 (-1)) 1 (-1)) 2 (-1)) 3 (-1)) 1 x0))), (a2, .inl (cy 1, 4, .inl (upd (fun _ => 0) 1 x1))), (a3, .inl (cy 2, 160, .inr (.inl (vp_updL (vp_updL (vp_updL (vp_updL (vp_updL (vp_updL (vp_updL (fun _ => 0) 40 0) 41 0) 42 0) 43 0) 44 0) 45 0) 46 0))))] rfl dX10_lay_36 (fun H locs w => ?_)
  refine lv_iinc (v := 7) (lv' := [(4, .int 7), (0, .ref a0), (1, .int 1), (2, .int x0), (3, .int x1)]) C.1 C.2.1 dX10_lay_37 hl (k := 0) rfl (by decide) (by decide) rfl (fun ls hl => ?_)
  refine lv_goto (tgt := 17) C.1 C.2.1 dX10_lay_40 (by decide) ?_
  refine lv_iload C.1 C.2.1 dX10_lay_17 (lv_at hl 0 rfl) ?_
  refine lv_bipush (v := 40) C.1 C.2.1 dX10_lay_19 (by decide) ?_
  refine b_icmp_ge_f C (tgt := 43) dX10_lay_21 (by decide) (by decide) ?_
  refine lv_aload_n C.1 C.2.1 dX10_lay_24 rfl (lv_at hl 1 rfl) ?_
  refine r_get C w 0 rfl rfl 2 (by decide) fl_RX10_18 (v := .ref a3) rfl dX10_lay_25 ?_
  refine lv_iload_n C.1 C.2.1 dX10_lay_28 rfl (lv_at hl 2 rfl) ?_
  refine lv_bipush (v := 40) C.1 C.2.1 dX10_lay_29 (by decide) ?_
  refine r_imul C (v := 40) dX10_lay_31 (by decide) ?_
  refine lv_iload C.1 C.2.1 dX10_lay_32 (lv_at hl 0 rfl) ?_
  refine r_iadd C (v := 47) dX10_lay_34 (by decide) ?_
  refine lv_lconst (v := 0) C.1 C.2.1 dX10_lay_35 (by decide) ?_
  refine r_last C w 3 rfl (vinD (by decide)) (vp_updL (vp_updL (vp_updL (vp_updL (vp_updL (vp_updL (vp_updL (vp_updL (fun _ => 0) 40 0) 41 0) 42 0) 43 0) 44 0) 45 0) 46 0) 47 0) rfl [(a0, .inr (10, [.ref a1, .ref a2, .ref a3])), (a1, .inl (cy 1, 4, .inl (upd (upd (upd (upd (upd (fun _ => 0) 0 (-1)) 1 (-1)) 2 (-1)) 3 (-1)) 1 x0))), (a2, .inl (cy 1, 4, .inl (upd (fun _ => 0) 1 x1))), (a3, .inl (cy 2, 160, .inr (.inl (vp_updL (vp_updL (vp_updL (vp_updL (vp_updL (vp_updL (vp_updL (vp_updL (fun _ => 0) 40 0) 41 0) 42 0) 43 0) 44 0) 45 0) 46 0) 47 0))))] rfl dX10_lay_36 (fun H locs w => ?_)
  refine lv_iinc (v := 8) (lv' := [(4, .int 8), (0, .ref a0), (1, .int 1), (2, .int x0), (3, .int x1)]) C.1 C.2.1 dX10_lay_37 hl (k := 0) rfl (by decide) (by decide) rfl (fun ls hl => ?_)
  refine lv_goto (tgt := 17) C.1 C.2.1 dX10_lay_40 (by decide) ?_
  refine lv_iload C.1 C.2.1 dX10_lay_17 (lv_at hl 0 rfl) ?_
  refine lv_bipush (v := 40) C.1 C.2.1 dX10_lay_19 (by decide) ?_
  refine b_icmp_ge_f C (tgt := 43) dX10_lay_21 (by decide) (by decide) ?_
  refine lv_aload_n C.1 C.2.1 dX10_lay_24 rfl (lv_at hl 1 rfl) ?_
  refine r_get C w 0 rfl rfl 2 (by decide) fl_RX10_18 (v := .ref a3) rfl dX10_lay_25 ?_
  refine lv_iload_n C.1 C.2.1 dX10_lay_28 rfl (lv_at hl 2 rfl) ?_
  refine lv_bipush (v := 40) C.1 C.2.1 dX10_lay_29 (by decide) ?_
  refine r_imul C (v := 40) dX10_lay_31 (by decide) ?_
  refine lv_iload C.1 C.2.1 dX10_lay_32 (lv_at hl 0 rfl) ?_
  refine r_iadd C (v := 48) dX10_lay_34 (by decide) ?_
  refine lv_lconst (v := 0) C.1 C.2.1 dX10_lay_35 (by decide) ?_
  refine r_last C w 3 rfl (vinD (by decide)) (vp_updL (vp_updL (vp_updL (vp_updL (vp_updL (vp_updL (vp_updL (vp_updL (vp_updL (fun _ => 0) 40 0) 41 0) 42 0) 43 0) 44 0) 45 0) 46 0) 47 0) 48 0) rfl [(a0, .inr (10, [.ref a1, .ref a2, .ref a3])), (a1, .inl (cy 1, 4, .inl (upd (upd (upd (upd (upd (fun _ => 0) 0 (-1)) 1 (-1)) 2 (-1)) 3 (-1)) 1 x0))), (a2, .inl (cy 1, 4, .inl (upd (fun _ => 0) 1 x1))), (a3, .inl (cy 2, 160, .inr (.inl (vp_updL (vp_updL (vp_updL (vp_updL (vp_updL (vp_updL (vp_updL (vp_updL (vp_updL (fun _ => 0) 40 0) 41 0) 42 0) 43 0) 44 0) 45 0) 46 0) 47 0) 48 0))))] rfl dX10_lay_36 (fun H locs w => ?_)
  refine lv_iinc (v := 9) (lv' := [(4, .int 9), (0, .ref a0), (1, .int 1), (2, .int x0), (3, .int x1)]) C.1 C.2.1 dX10_lay_37 hl (k := 0) rfl (by decide) (by decide) rfl (fun ls hl => ?_)
  refine lv_goto (tgt := 17) C.1 C.2.1 dX10_lay_40 (by decide) ?_
  refine lv_iload C.1 C.2.1 dX10_lay_17 (lv_at hl 0 rfl) ?_
  refine lv_bipush (v := 40) C.1 C.2.1 dX10_lay_19 (by decide) ?_
  refine b_icmp_ge_f C (tgt := 43) dX10_lay_21 (by decide) (by decide) ?_
  refine lv_aload_n C.1 C.2.1 dX10_lay_24 rfl (lv_at hl 1 rfl) ?_
  refine r_get C w 0 rfl rfl 2 (by decide) fl_RX10_18 (v := .ref a3) rfl dX10_lay_25 ?_
  refine lv_iload_n C.1 C.2.1 dX10_lay_28 rfl (lv_at hl 2 rfl) ?_
  refine lv_bipush (v := 40) C.1 C.2.1 dX10_lay_29 (by decide) ?_
  refine r_imul C (v := 40) dX10_lay_31 (by decide) ?_
  refine lv_iload C.1 C.2.1 dX10_lay_32 (lv_at hl 0 rfl) ?_
  refine r_iadd C (v := 49) dX10_lay_34 (by decide) ?_
  refine lv_lconst (v := 0) C.1 C.2.1 dX10_lay_35 (by decide) ?_
  refine r_last C w 3 rfl (vinD (by decide)) (vp_updL (vp_updL (vp_updL (vp_updL (vp_updL (vp_updL (vp_updL (vp_updL (vp_updL (vp_updL (fun _ => 0) 40 0) 41 0) 42 0) 43 0) 44 0) 45 0) 46 0) 47 0) 48 0) 49 0) rfl [(a0, .inr (10, [.ref a1, .ref a2, .ref a3])), (a1, .inl (cy 1, 4, .inl (upd (upd (upd (upd (upd (fun _ => 0) 0 (-1)) 1 (-1)) 2 (-1)) 3 (-1)) 1 x0))), (a2, .inl (cy 1, 4, .inl (upd (fun _ => 0) 1 x1))), (a3, .inl (cy 2, 160, .inr (.inl (vp_updL (vp_updL (vp_updL (vp_updL (vp_updL (vp_updL (vp_updL (vp_updL (vp_updL (vp_updL (fun _ => 0) 40 0) 41 0) 42 0) 43 0) 44 0) 45 0) 46 0) 47 0) 48 0) 49 0))))] rfl dX10_lay_36 (fun H locs w => ?_)
  refine lv_iinc (v := 10) (lv' := [(4, .int 10), (0, .ref a0), (1, .int 1), (2, .int x0), (3, .int x1)]) C.1 C.2.1 dX10_lay_37 hl (k := 0) rfl (by decide) (by decide) rfl (fun ls hl => ?_)
  refine lv_goto (tgt := 17) C.1 C.2.1 dX10_lay_40 (by decide) ?_
  refine lv_iload C.1 C.2.1 dX10_lay_17 (lv_at hl 0 rfl) ?_
  refine lv_bipush (v := 40) C.1 C.2.1 dX10_lay_19 (by decide) ?_
  refine b_icmp_ge_f C (tgt := 43) dX10_lay_21 (by decide) (by decide) ?_
  refine lv_aload_n C.1 C.2.1 dX10_lay_24 rfl (lv_at hl 1 rfl) ?_
  refine r_get C w 0 rfl rfl 2 (by decide) fl_RX10_18 (v := .ref a3) rfl dX10_lay_25 ?_
  refine lv_iload_n C.1 C.2.1 dX10_lay_28 rfl (lv_at hl 2 rfl) ?_
  refine lv_bipush (v := 40) C.1 C.2.1 dX10_lay_29 (by decide) ?_
  refine r_imul C (v := 40) dX10_lay_31 (by decide) ?_
  refine lv_iload C.1 C.2.1 dX10_lay_32 (lv_at hl 0 rfl) ?_
  refine r_iadd C (v := 50) dX10_lay_34 (by decide) ?_
  refine lv_lconst (v := 0) C.1 C.2.1 dX10_lay_35 (by decide) ?_
  refine r_last C w 3 rfl (vinD (by decide)) (vp_updL (vp_updL (vp_updL (vp_updL (vp_updL (vp_updL (vp_updL (vp_updL (vp_updL (vp_updL (vp_updL (fun _ => 0) 40 0) 41 0) 42 0) 43 0) 44 0) 45 0) 46 0) 47 0) 48 0) 49 0) 50 0) rfl [(a0, .inr (10, [.ref a1, .ref a2, .ref a3])), (a1, .inl (cy 1, 4, .inl (upd (upd (upd (upd (upd (fun _ => 0) 0 (-1)) 1 (-1)) 2 (-1)) 3 (-1)) 1 x0))), (a2, .inl (cy 1, 4, .inl (upd (fun _ => 0) 1 x1))), (a3, .inl (cy 2, 160, .inr (.inl (vp_updL (vp_updL (vp_updL (vp_updL (vp_updL (vp_updL (vp_updL (vp_updL (vp_updL (vp_updL (vp_updL (fun _ => 0) 40 0) 41 0) 42 0) 43 0) 44 0) 45 0) 46 0) 47 0) 48 0) 49 0) 50 0))))] rfl dX10_lay_36 (fun H locs w => ?_)
  refine lv_iinc (v := 11) (lv' := [(4, .int 11), (0, .ref a0), (1, .int 1), (2, .int x0), (3, .int x1)]) C.1 C.2.1 dX10_lay_37 hl (k := 0) rfl (by decide) (by decide) rfl (fun ls hl => ?_)
  refine lv_goto (tgt := 17) C.1 C.2.1 dX10_lay_40 (by decide) ?_
  refine lv_iload C.1 C.2.1 dX10_lay_17 (lv_at hl 0 rfl) ?_
  refine lv_bipush (v := 40) C.1 C.2.1 dX10_lay_19 (by decide) ?_
  refine b_icmp_ge_f C (tgt := 43) dX10_lay_21 (by decide) (by decide) ?_
  refine lv_aload_n C.1 C.2.1 dX10_lay_24 rfl (lv_at hl 1 rfl) ?_
  refine r_get C w 0 rfl rfl 2 (by decide) fl_RX10_18 (v := .ref a3) rfl dX10_lay_25 ?_
  refine lv_iload_n C.1 C.2.1 dX10_lay_28 rfl (lv_at hl 2 rfl) ?_
  refine lv_bipush (v := 40) C.1 C.2.1 dX10_lay_29 (by decide) ?_
  refine r_imul C (v := 40) dX10_lay_31 (by decide) ?_
  refine lv_iload C.1 C.2.1 dX10_lay_32 (lv_at hl 0 rfl) ?_
  refine r_iadd C (v := 51) dX10_lay_34 (by decide) ?_
  refine lv_lconst (v := 0) C.1 C.2.1 dX10_lay_35 (by decide) ?_
  refine r_last C w 3 rfl (vinD (by decide)) (vp_updL (vp_updL (vp_updL (vp_updL (vp_updL (vp_updL (vp_updL (vp_updL (vp_updL (vp_updL (vp_updL (vp_updL (fun _ => 0) 40 0) 41 0) 42 0) 43 0) 44 0) 45 0) 46 0) 47 0) 48 0) 49 0) 50 0) 51 0) rfl [(a0, .inr (10, [.ref a1, .ref a2, .ref a3])), (a1, .inl (cy 1, 4, .inl (upd (upd (upd (upd (upd (fun _ => 0) 0 (-1)) 1 (-1)) 2 (-1)) 3 (-1)) 1 x0))), (a2, .inl (cy 1, 4, .inl (upd (fun _ => 0) 1 x1))), (a3, .inl (cy 2, 160, .inr (.inl (vp_updL (vp_updL (vp_updL (vp_updL (vp_updL (vp_updL (vp_updL (vp_updL (vp_updL (vp_updL (vp_updL (vp_updL (fun _ => 0) 40 0) 41 0) 42 0) 43 0) 44 0) 45 0) 46 0) 47 0) 48 0) 49 0) 50 0) 51 0))))] rfl dX10_lay_36 (fun H locs w => ?_)
  refine lv_iinc (v := 12) (lv' := [(4, .int 12), (0, .ref a0), (1, .int 1), (2, .int x0), (3, .int x1)]) C.1 C.2.1 dX10_lay_37 hl (k := 0) rfl (by decide) (by decide) rfl (fun ls hl => ?_)
  refine lv_goto (tgt := 17) C.1 C.2.1 dX10_lay_40 (by decide) ?_
  refine lv_iload C.1 C.2.1 dX10_lay_17 (lv_at hl 0 rfl) ?_
  refine lv_bipush (v := 40) C.1 C.2.1 dX10_lay_19 (by decide) ?_
  refine b_icmp_ge_f C (tgt := 43) dX10_lay_21 (by decide) (by decide) ?_
  refine lv_aload_n C.1 C.2.1 dX10_lay_24 rfl (lv_at hl 1 rfl) ?_
  refine r_get C w 0 rfl rfl 2 (by decide) fl_RX10_18 (v := .ref a3) rfl dX10_lay_25 ?_
  refine lv_iload_n C.1 C.2.1 dX10_lay_28 rfl (lv_at hl 2 rfl) ?_
  refine lv_bipush (v := 40) C.1 C.2.1 dX10_lay_29 (by decide) ?_
  refine r_imul C (v := 40) dX10_lay_31 (by decide) ?_
  refine lv_iload C.1 C.2.1 dX10_lay_32 (lv_at hl 0 rfl) ?_
  refine r_iadd C (v := 52) dX10_lay_34 (by decide) ?_
  refine lv_lconst (v := 0) C.1 C.2.1 dX10_lay_35 (by decide) ?_
  refine r_last C w 3 rfl (vinD (by decide)) (vp_updL (vp_updL (vp_updL (vp_updL (vp_updL (vp_updL (vp_updL (vp_updL (vp_updL (vp_updL (vp_updL (vp_updL (vp_updL (fun _ => 0) 40 0) 41 0) 42 0) 43 0) 44 0) 45 0) 46 0) 47 0) 48 0) 49 0) 50 0) 51 0) 52 0) rfl [(a0, .inr (10, [.ref a1, .ref a2, .ref a3])), (a1, .inl (cy 1, 4, .inl (upd (upd (upd (upd (upd (fun _ => 0) 0 (-1)) 1 (-1)) 2 (-1)) 3 (-1)) 1 x0))), (a2, .inl (cy 1, 4, .inl (upd (fun _ => 0) 1 x1))), (a3, .inl (cy 2, 160, .inr (.inl (vp_updL (vp_updL (vp_updL (vp_updL (vp_updL (vp_updL (vp_updL (vp_updL (vp_updL (vp_updL (vp_updL (vp_updL (vp_updL (fun _ => 0) 40 0) 41 0) 42 0) 43 0) 44 0) 45 0) 46 0) 47 0) 48 0) 49 0) 50 0) 51 0) 52 0))))] rfl dX10_lay_36 (fun H locs w => ?_)
  refine lv_iinc (v := 13) (lv' := [(4, .int 13), (0, .ref a0), (1, .int 1), (2, .int x0), (3, .int x1)]) C.1 C.2.1 dX10_lay_37 hl (k := 0) rfl (by decide) (by decide) rfl (fun ls hl => ?_)
  refine lv_goto (tgt := 17) C.1 C.2.1 dX10_lay_40 (by decide) ?_
  refine lv_iload C.1 C.2.1 dX10_lay_17 (lv_at hl 0 rfl) ?_
  refine lv_bipush (v := 40) C.1 C.2.1 dX10_lay_19 (by decide) ?_
  refine b_icmp_ge_f C (tgt := 43) dX10_lay_21 (by decide) (by decide) ?_
  refine lv_aload_n C.1 C.2.1 dX10_lay_24 rfl (lv_at hl 1 rfl) ?_
  refine r_get C w 0 rfl rfl 2 (by decide) fl_RX10_18 (v := .ref a3) rfl dX10_lay_25 ?_
  refine lv_iload_n C.1 C.2.1 dX10_lay_28 rfl (lv_at hl 2 rfl) ?_
  refine lv_bipush (v := 40) C.1 C.2.1 dX10_lay_29 (by decide) ?_
  refine r_imul C (v := 40) dX10_lay_31 (by decide) ?_
  refine lv_iload C.1 C.2.1 dX10_lay_32 (lv_at hl 0 rfl) ?_
  refine r_iadd C (v := 53) dX10_lay_34 (by decide) ?_
  refine lv_lconst (v := 0) C.1 C.2.1 dX10_lay_35 (by decide) ?_
  refine r_last C w 3 rfl (vinD (by decide)) (vp_updL (vp_updL (vp_updL (vp_updL (vp_updL (vp_updL (vp_updL (vp_updL (vp_updL (vp_updL (vp_updL (vp_updL (vp_updL (vp_updL (fun _ => 0) 40 0) 41 0) 42 0) 43 0) 44 0) 45 0) 46 0) 47 0) 48 0) 49 0) 50 0) 51 0) 52 0) 53 0) rfl [(a0, .inr (10, [.ref a1, .ref a2, .ref a3])), (a1, .inl (cy 1, 4, .inl (upd (upd (upd (upd (upd (fun _ => 0) 0 (-1)) 1 (-1)) 2 (-1)) 3 (-1)) 1 x0))), (a2, .inl (cy 1, 4, .inl (upd (fun _ => 0) 1 x1))), (a3, .inl (cy 2, 160, .inr (.inl (vp_updL (vp_updL (vp_updL (vp_updL (vp_updL (vp_updL (vp_updL (vp_updL (vp_updL (vp_updL (vp_updL (vp_updL (vp_updL (vp_updL (fun _ => 0) 40 0) 41 0) 42 0) 43 0) 44 0) 45 0) 46 0) 47 0) 48 0) 49 0) 50 0) 51 0) 52 0) 53 0))))] rfl dX10_lay_36 (fun H locs w => ?_)
  refine lv_iinc (v := 14) (lv' := [(4, .int 14), (0, .ref a0), (1, .int 1), (2, .int x0), (3, .int x1)]) C.1 C.2.1 dX10_lay_37 hl (k := 0) rfl (by decide) (by decide) rfl (fun ls hl => ?_)
  refine lv_goto (tgt := 17) C.1 C.2.1 dX10_lay_40 (by decide) ?_
  refine lv_iload C.1 C.2.1 dX10_lay_17 (lv_at hl 0 rfl) ?_
  refine lv_bipush (v := 40) C.1 C.2.1 dX10_lay_19 (by decide) ?_
  refine b_icmp_ge_f C (tgt := 43) dX10_lay_21 (by decide) (by decide) ?_
  refine lv_aload_n C.1 C.2.1 dX10_lay_24 rfl (lv_at hl 1 rfl) ?_
  refine r_get C w 0 rfl rfl 2 (by decide) fl_RX10_18 (v := .ref a3) rfl dX10_lay_25 ?_
  refine lv_iload_n C.1 C.2.1 dX10_lay_28 rfl (lv_at hl 2 rfl) ?_
  refine lv_bipush (v := 40) C.1 C.2.1 dX10_lay_29 (by decide) ?_
  refine r_imul C (v := 40) dX10_lay_31 (by decide) ?_
  refine lv_iload C.1 C.2.1 dX10_lay_32 (lv_at hl 0 rfl) ?_
  refine r_iadd C (v := 54) dX10_lay_34 (by decide) ?_
  refine lv_lconst (v := 0) C.1 C.2.1 dX10_lay_35 (by decide) ?_
  refine r_last C w 3 rfl (vinD (by decide)) (vp_updL (vp_updL (vp_updL (vp_updL (vp_updL (vp_updL (vp_updL (vp_updL (vp_updL (vp_updL (vp_updL (vp_updL (vp_updL (vp_updL (vp_updL (fun _ => 0) 40 0) 41 0) 42 0) 43 0) 44 0) 45 0) 46 0) 47 0) 48 0) 49 0) 50 0) 51 0) 52 0) 53 0) 54 0) rfl [(a0, .inr (10, [.ref a1, .ref a2, .ref a3])), (a1, .inl (cy 1, 4, .inl (upd (upd (upd (upd (upd (fun _ => 0) 0 (-1)) 1 (-1)) 2 (-1)) 3 (-1)) 1 x0))), (a2, .inl (cy 1, 4, .inl (upd (fun _ => 0) 1 x1))), (a3, .inl (cy 2, 160, .inr (.inl (vp_updL (vp_updL (vp_updL (vp_updL (vp_updL (vp_updL (vp_updL (vp_updL (vp_updL (vp_updL (vp_updL (vp_updL (vp_updL (vp_updL (vp_updL (fun _ => 0) 40 0) 41 0) 42 0) 43 0) 44 0) 45 0) 46 0) 47 0) 48 0) 49 0) 50 0) 51 0) 52 0) 53 0) 54 0))))] rfl dX10_lay_36 (fun H locs w => ?_)
  refine lv_iinc (v := 15) (lv' := [(4, .int 15), (0, .ref a0), (1, .int 1), (2, .int x0), (3, .int x1)]) C.1 C.2.1 dX10_lay_37 hl (k := 0) rfl (by decide) (by decide) rfl (fun ls hl => ?_)
  refine lv_goto (tgt := 17) C.1 C.2.1 dX10_lay_40 (by decide) ?_
  refine lv_iload C.1 C.2.1 dX10_lay_17 (lv_at hl 0 rfl) ?_
  refine lv_bipush (v := 40) C.1 C.2.1 dX10_lay_19 (by decide) ?_
  refine b_icmp_ge_f C (tgt := 43) dX10_lay_21 (by decide) (by decide) ?_
  refine lv_aload_n C.1 C.2.1 dX10_lay_24 rfl (lv_at hl 1 rfl) ?_
  refine r_get C w 0 rfl rfl 2 (by decide) fl_RX10_18 (v := .ref a3) rfl dX10_lay_25 ?_
  refine lv_iload_n C.1 C.2.1 dX10_lay_28 rfl (lv_at hl 2 rfl) ?_
  refine lv_bipush (v := 40) C.1 C.2.1 dX10_lay_29 (by decide) ?_
  refine r_imul C (v := 40) dX10_lay_31 (by decide) ?_
  refine lv_iload C.1 C.2.1 dX10_lay_32 (lv_at hl 0 rfl) ?_
  refine r_iadd C (v := 55) dX10_lay_34 (by decide) ?_
  refine lv_lconst (v := 0) C.1 C.2.1 dX10_lay_35 (by decide) ?_
  refine r_last C w 3 rfl (vinD (by decide)) (vp_updL (vp_updL (vp_updL (vp_updL (vp_updL (vp_updL (vp_updL (vp_updL (vp_updL (vp_updL (vp_updL (vp_updL (vp_updL (vp_updL (vp_updL (vp_updL (fun _ => 0) 40 0) 41 0) 42 0) 43 0) 44 0) 45 0) 46 0) 47 0) 48 0) 49 0) 50 0) 51 0) 52 0) 53 0) 54 0) 55 0) rfl [(a0, .inr (10, [.ref a1, .ref a2, .ref a3])), (a1, .inl (cy 1, 4, .inl (upd (upd (upd (upd (upd (fun _ => 0) 0 (-1)) 1 (-1)) 2 (-1)) 3 (-1)) 1 x0))), (a2, .inl (cy 1, 4, .inl (upd (fun _ => 0) 1 x1))), (a3, .inl (cy 2, 160, .inr (.inl (vp_updL (vp_updL (vp_updL (vp_updL (vp_updL (vp_updL (vp_updL (vp_updL (vp_updL (vp_updL (vp_updL (vp_updL (vp_updL (vp_updL (vp_updL (vp_updL (fun _ => 0) 40 0) 41 0) 42 0) 43 0) 44 0) 45 0) 46 0) 47 0) 48 0) 49 0) 50 0) 51 0) 52 0) 53 0) 54 0) 55 0))))] rfl dX10_lay_36 (fun H locs w => ?_)
  refine lv_iinc (v := 16) (lv' := [(4, .int 16), (0, .ref a0), (1, .int 1), (2, .int x0), (3, .int x1)]) C.1 C.2.1 dX10_lay_37 hl (k := 0) rfl (by decide) (by decide) rfl (fun ls hl => ?_)
  refine lv_goto (tgt := 17) C.1 C.2.1 dX10_lay_40 (by decide) ?_
  refine lv_iload C.1 C.2.1 dX10_lay_17 (lv_at hl 0 rfl) ?_
  refine lv_bipush (v := 40) C.1 C.2.1 dX10_lay_19 (by decide) ?_
  refine b_icmp_ge_f C (tgt := 43) dX10_lay_21 (by decide) (by decide) ?_
  refine lv_aload_n C.1 C.2.1 dX10_lay_24 rfl (lv_at hl 1 rfl) ?_
  refine r_get C w 0 rfl rfl 2 (by decide) fl_RX10_18 (v := .ref a3) rfl dX10_lay_25 ?_
  refine lv_iload_n C.1 C.2.1 dX10_lay_28 rfl (lv_at hl 2 rfl) ?_
  refine lv_bipush (v := 40) C.1 C.2.1 dX10_lay_29 (by decide) ?_
  refine r_imul C (v := 40) dX10_lay_31 (by decide) ?_
  refine lv_iload C.1 C.2.1 dX10_lay_32 (lv_at hl 0 rfl) ?_
  refine r_iadd C (v := 56) dX10_lay_34 (by decide) ?_
  refine lv_lconst (v := 0) C.1 C.2.1 dX10_lay_35 (by decide) ?_
  refine r_last C w 3 rfl (vinD (by decide)) (vp_updL (vp_updL (vp_updL (vp_updL (vp_updL (vp_updL (vp_updL (vp_updL (vp_updL (vp_updL (vp_updL (vp_updL (vp_updL (vp_updL (vp_updL (vp_updL (vp_updL (fun _ => 0) 40 0) 41 0) 42 0) 43 0) 44 0) 45 0) 46 0) 47 0) 48 0) 49 0) 50 0) 51 0) 52 0) 53 0) 54 0) 55 0) 56 0) rfl [(a0, .inr (10, [.ref a1, .ref a2, .ref a3])), (a1, .inl (cy 1, 4, .inl (upd (upd (upd (upd (upd (fun _ => 0) 0 (-1)) 1 (-1)) 2 (-1)) 3 (-1)) 1 x0))), (a2, .inl (cy 1, 4, .inl (upd (fun _ => 0) 1 x1))), (a3, .inl (cy 2, 160, .inr (.inl (vp_updL (vp_updL (vp_updL (vp_updL (vp_updL (vp_updL (vp_updL (vp_updL (vp_updL (vp_updL (vp_updL (vp_updL (vp_updL (vp_updL (vp_updL (vp_updL (vp_updL (fun _ => 0) 40 0) 41 0) 42 0) 43 0) 44 0) 45 0) 46 0) 47 0) 48 0) 49 0) 50 0) 51 0) 52 0) 53 0) 54 0) 55 0) 56 0))))] rfl dX10_lay_36 (fun H locs w => ?_)
  refine lv_iinc (v := 17) (lv' := [(4, .int 17), (0, .ref a0), (1, .int 1), (2, .int x0), (3, .int x1)]) C.1 C.2.1 dX10_lay_37 hl (k := 0) rfl (by decide) (by decide) rfl (fun ls hl => ?_)
  refine lv_goto (tgt := 17) C.1 C.2.1 dX10_lay_40 (by decide) ?_
  refine lv_iload C.1 C.2.1 dX10_lay_17 (lv_at hl 0 rfl) ?_
  refine lv_bipush (v := 40) C.1 C.2.1 dX10_lay_19 (by decide) ?_
  refine b_icmp_ge_f C (tgt := 43) dX10_lay_21 (by decide) (by decide) ?_
  refine lv_aload_n C.1 C.2.1 dX10_lay_24 rfl (lv_at hl 1 rfl) ?_
  refine r_get C w 0 rfl rfl 2 (by decide) fl_RX10_18 (v := .ref a3) rfl dX10_lay_25 ?_
  refine lv_iload_n C.1 C.2.1 dX10_lay_28 rfl (lv_at hl 2 rfl) ?_
  refine lv_bipush (v := 40) C.1 C.2.1 dX10_lay_29 (by decide) ?_
  refine r_imul C (v := 40) dX10_lay_31 (by decide) ?_
  refine lv_iload C.1 C.2.1 dX10_lay_32 (lv_at hl 0 rfl) ?_
  refine r_iadd C (v := 57) dX10_lay_34 (by decide) ?_
  refine lv_lconst (v := 0) C.1 C.2.1 dX10_lay_35 (by decide) ?_
  refine r_last C w 3 rfl (vinD (by decide)) (vp_updL (vp_updL (vp_updL (vp_updL (vp_updL (vp_updL (vp_updL (vp_updL (vp_updL (vp_updL (vp_updL (vp_updL (vp_updL (vp_updL (vp_updL (vp_updL (vp_updL (vp_updL (fun _ => 0) 40 0) 41 0) 42 0) 43 0) 44 0) 45 0) 46 0) 47 0) 48 0) 49 0) 50 0) 51 0) 52 0) 53 0) 54 0) 55 0) 56 0) 57 0) rfl [(a0, .inr (10, [.ref a1, .ref a2, .ref a3])), (a1, .inl (cy 1, 4, .inl (upd (upd (upd (upd (upd (fun _ => 0) 0 (-1)) 1 (-1)) 2 (-1)) 3 (-1)) 1 x0))), (a2, .inl (cy 1, 4, .inl (upd (fun _ => 0) 1 x1))), (a3, .inl (cy 2, 160, .inr (.inl (vp_updL (vp_updL (vp_updL (vp_updL (vp_updL (vp_updL (vp_updL (vp_updL (vp_updL (vp_updL (vp_updL (vp_updL (vp_updL (vp_updL (vp_updL (vp_updL (vp_updL (vp_updL (fun _ => 0) 40 0) 41 0) 42 0) 43 0) 44 0) 45 0) 46 0) 47 0) 48 0) 49 0) 50 0) 51 0) 52 0) 53 0) 54 0) 55 0) 56 0) 57 0))))] rfl dX10_lay_36 (fun H locs w => ?_)
  refine lv_iinc (v := 18) (lv' := [(4, .int 18), (0, .ref a0), (1, .int 1), (2, .int x0), (3, .int x1)]) C.1 C.2.1 dX10_lay_37 hl (k := 0) rfl (by decide) (by decide) rfl (fun ls hl => ?_)
  refine lv_goto (tgt := 17) C.1 C.2.1 dX10_lay_40 (by decide) ?_
  refine lv_iload C.1 C.2.1 dX10_lay_17 (lv_at hl 0 rfl) ?_
  refine lv_bipush (v := 40) C.1 C.2.1 dX10_lay_19 (by decide) ?_
  refine b_icmp_ge_f C (tgt := 43) dX10_lay_21 (by decide) (by decide) ?_
  refine lv_aload_n C.1 C.2.1 dX10_lay_24 rfl (lv_at hl 1 rfl) ?_
  refine r_get C w 0 rfl rfl 2 (by decide) fl_RX10_18 (v := .ref a3) rfl dX10_lay_25 ?_
  refine lv_iload_n C.1 C.2.1 dX10_lay_28 rfl (lv_at hl 2 rfl) ?_
  refine lv_bipush (v := 40) C.1 C.2.1 dX10_lay_29 (by decide) ?_
  refine r_imul C (v := 40) dX10_lay_31 (by decide) ?_
  refine lv_iload C.1 C.2.1 dX10_lay_32 (lv_at hl 0 rfl) ?_
  refine r_iadd C (v := 58) dX10_lay_34 (by decide) ?_
  refine lv_lconst (v := 0) C.1 C.2.1 dX10_lay_35 (by decide) ?_
  refine r_last C w 3 rfl (vinD (by decide)) (vp_updL (vp_updL (vp_updL (vp_updL (vp_updL (vp_updL (vp_updL (vp_updL (vp_updL (vp_updL (vp_updL (vp_updL (vp_updL (vp_updL (vp_updL (vp_updL (vp_updL (vp_updL (vp_updL (fun _ => 0) 40 0) 41 0) 42 0) 43 0) 44 0) 45 0) 46 0) 47 0) 48 0) 49 0) 50 0) 51 0) 52 0) 53 0) 54 0) 55 0) 56 0) 57 0) 58 0) rfl [(a0, .inr (10, [.ref a1, .ref a2, .ref a3])), (a1, .inl (cy 1, 4, .inl (upd (upd (upd (upd (upd (fun _ => 0) 0 (-1)) 1 (-1)) 2 (-1)) 3 (-1)) 1 x0))), (a2, .inl (cy 1, 4, .inl (upd (fun _ => 0) 1 x1))), (a3, .inl (cy 2, 160, .inr (.inl (vp_updL (vp_updL (vp_updL (vp_updL (vp_updL (vp_updL (vp_updL (vp_updL (vp_updL (vp_updL (vp_updL (vp_updL (vp_updL (vp_updL (vp_updL (vp_updL (vp_updL (vp_updL (vp_updL (fun _ => 0) 40 0) 41 0) 42 0) 43 0) 44 0) 45 0) 46 0) 47 0) 48 0) 49 0) 50 0) 51 0) 52 0) 53 0) 54 0) 55 0) 56 0) 57 0) 58 0))))] rfl dX10_lay_36 (fun H locs w => ?_)
  refine lv_iinc (v := 19) (lv' := [(4, .int 19), (0, .ref a0), (1, .int 1), (2, .int x0), (3, .int x1)]) C.1 C.2.1 dX10_lay_37 hl (k := 0) rfl (by decide) (by decide) rfl (fun ls hl => ?_)
  refine lv_goto (tgt := 17) C.1 C.2.1 dX10_lay_40 (by decide) ?_
  refine lv_iload C.1 C.2.1 dX10_lay_17 (lv_at hl 0 rfl) ?_
  refine lv_bipush (v := 40) C.1 C.2.1 dX10_lay_19 (by decide) ?_
  refine b_icmp_ge_f C (tgt := 43) dX10_lay_21 (by decide) (by decide) ?_
  refine lv_aload_n C.1 C.2.1 dX10_lay_24 rfl (lv_at hl 1 rfl) ?_
  refine r_get C w 0 rfl rfl 2 (by decide) fl_RX10_18 (v := .ref a3) rfl dX10_lay_25 ?_
  refine lv_iload_n C.1 C.2.1 dX10_lay_28 rfl (lv_at hl 2 rfl) ?_
  refine lv_bipush (v := 40) C.1 C.2.1 dX10_lay_29 (by decide) ?_
  refine r_imul C (v := 40) dX10_lay_31 (by decide) ?_
  refine lv_iload C.1 C.2.1 dX10_lay_32 (lv_at hl 0 rfl) ?_
  refine r_iadd C (v := 59) dX10_lay_34 (by decide) ?_
  refine lv_lconst (v := 0) C.1 C.2.1 dX10_lay_35 (by decide) ?_
  refine r_last C w 3 rfl (vinD (by decide)) (vp_updL (vp_updL (vp_updL (vp_updL (vp_updL (vp_updL (vp_updL (vp_updL (vp_updL (vp_updL (vp_updL (vp_updL (vp_updL (vp_updL (vp_updL (vp_updL (vp_updL (vp_updL (vp_updL (vp_updL (fun _ => 0) 40 0) 41 0) 42 0) 43 0) 44 0) 45 0) 46 0) 47 0) 48 0) 49 0) 50 0) 51 0) 52 0) 53 0) 54 0) 55 0) 56 0) 57 0) 58 0) 59 0) rfl [(a0, .inr (10, [.ref a1, .ref a2, .ref a3])), (a1, .inl (cy 1, 4, .inl (upd (upd (upd (upd (upd (fun _ => 0) 0 (-1)) 1 (-1)) 2 (-1)) 3 (-1)) 1 x0))), (a2, .inl (cy 1, 4, .inl (upd (fun _ => 0) 1 x1))), (a3, .inl (cy 2, 160, .inr (.inl (vp_updL (vp_updL (vp_updL (vp_updL (vp_updL (vp_updL (vp_updL (vp_updL (vp_updL (vp_updL (vp_updL (vp_updL (vp_updL (vp_updL (vp_updL (vp_updL (vp_updL (vp_updL (vp_updL (vp_updL (fun _ => 0) 40 0) 41 0) 42 0) 43 0) 44 0) 45 0) 46 0) 47 0) 48 0) 49 0) 50 0) 51 0) 52 0) 53 0) 54 0) 55 0) 56 0) 57 0) 58 0) 59 0))))] rfl dX10_lay_36 (fun H locs w => ?_)
  refine lv_iinc (v := 20) (lv' := [(4, .int 20), (0, .ref a0), (1, .int 1), (2, .int x0), (3, .int x1)]) C.1 C.2.1 dX10_lay_37 hl (k := 0) rfl (by decide) (by decide) rfl (fun ls hl => ?_)
  refine lv_goto (tgt := 17) C.1 C.2.1 dX10_lay_40 (by decide) ?_
  refine lv_iload C.1 C.2.1 dX10_lay_17 (lv_at hl 0 rfl) ?_
  refine lv_bipush (v := 40) C.1 C.2.1 dX10_lay_19 (by decide) ?_
  refine b_icmp_ge_f C (tgt := 43) dX10_lay_21 (by decide) (by decide) ?_
  refine lv_aload_n C.1 C.2.1 dX10_lay_24 rfl (lv_at hl 1 rfl) ?_
  refine r_get C w 0 rfl rfl 2 (by decide) fl_RX10_18 (v := .ref a3) rfl dX10_lay_25 ?_
  refine lv_iload_n C.1 C.2.1 dX10_lay_28 rfl (lv_at hl 2 rfl) ?_
  refine lv_bipush (v := 40) C.1 C.2.1 dX10_lay_29 (by decide) ?_
  refine r_imul C (v := 40) dX10_lay_31 (by decide) ?_
  refine lv_iload C.1 C.2.1 dX10_lay_32 (lv_at hl 0 rfl) ?_
  refine r_iadd C (v := 60) dX10_lay_34 (by decide) ?_
  refine lv_lconst (v := 0) C.1 C.2.1 dX10_lay_35 (by decide) ?_
  refine r_last C w 3 rfl (vinD (by decide)) (vp_updL (vp_updL (vp_updL (vp_updL (vp_updL (vp_updL (vp_updL (vp_updL (vp_updL (vp_updL (vp_updL (vp_updL (vp_updL (vp_updL (vp_updL (vp_updL (vp_updL (vp_updL (vp_updL (vp_updL (vp_updL (fun _ => 0) 40 0) 41 0) 42 0) 43 0) 44 0) 45 0) 46 0) 47 0) 48 0) 49 0) 50 0) 51 0) 52 0) 53 0) 54 0) 55 0) 56 0) 57 0) 58 0) 59 0) 60 0) rfl [(a0, .inr (10, [.ref a1, .ref a2, .ref a3])), (a1, .inl (cy 1, 4, .inl (upd (upd (upd (upd (upd (fun _ => 0) 0 (-1)) 1 (-1)) 2 (-1)) 3 (-1)) 1 x0))), (a2, .inl (cy 1, 4, .inl (upd (fun _ => 0) 1 x1))), (a3, .inl (cy 2, 160, .inr (.inl (vp_updL (vp_updL (vp_updL (vp_updL (vp_updL (vp_updL (vp_updL (vp_updL (vp_updL (vp_updL (vp_updL (vp_updL (vp_updL (vp_updL (vp_updL (vp_updL (vp_updL (vp_updL (vp_updL (vp_updL (vp_updL (fun _ => 0) 40 0) 41 0) 42 0) 43 0) 44 0) 45 0) 46 0) 47 0) 48 0) 49 0) 50 0) 51 0) 52 0) 53 0) 54 0) 55 0) 56 0) 57 0) 58 0) 59 0) 60 0))))] rfl dX10_lay_36 (fun H locs w => ?_)
  refine lv_iinc (v := 21) (lv' := [(4, .int 21), (0, .ref a0), (1, .int 1), (2, .int x0), (3, .int x1)]) C.1 C.2.1 dX10_lay_37 hl (k := 0) rfl (by decide) (by decide) rfl (fun ls hl => ?_)
  refine lv_goto (tgt := 17) C.1 C.2.1 dX10_lay_40 (by decide) ?_
  refine lv_iload C.1 C.2.1 dX10_lay_17 (lv_at hl 0 rfl) ?_
  refine lv_bipush (v := 40) C.1 C.2.1 dX10_lay_19 (by decide) ?_
  refine b_icmp_ge_f C (tgt := 43) dX10_lay_21 (by decide) (by decide) ?_
  refine lv_aload_n C.1 C.2.1 dX10_lay_24 rfl (lv_at hl 1 rfl) ?_
  refine r_get C w 0 rfl rfl 2 (by decide) fl_RX10_18 (v := .ref a3) rfl dX10_lay_25 ?_
  refine lv_iload_n C.1 C.2.1 dX10_lay_28 rfl (lv_at hl 2 rfl) ?_
  refine lv_bipush (v := 40) C.1 C.2.1 dX10_lay_29 (by decide) ?_
  refine r_imul C (v := 40) dX10_lay_31 (by decide) ?_
  refine lv_iload C.1 C.2.1 dX10_lay_32 (lv_at hl 0 rfl) ?_
  refine r_iadd C (v := 61) dX10_lay_34 (by decide) ?_
  refine lv_lconst (v := 0) C.1 C.2.1 dX10_lay_35 (by decide) ?_
  refine r_last C w 3 rfl (vinD (by decide)) (vp_updL (vp_updL (vp_updL (vp_updL (vp_updL (vp_updL (vp_updL (vp_updL (vp_updL (vp_updL (vp_updL (vp_updL (vp_updL (vp_updL (vp_updL (vp_updL (vp_updL (vp_updL (vp_updL (vp_updL (vp_updL (vp_updL (fun _ => 0) 40 0) 41 0) 42 0) 43 0) 44 0) 45 0) 46 0) 47 0) 48 0) 49 0) 50 0) 51 0) 52 0) 53 0) 54 0) 55 0) 56 0) 57 0) 58 0) 59 0) 60 0) 61 0) rfl [(a0, .inr (10, [.ref a1, .ref a2, .ref a3])), (a1, .inl (cy 1, 4, .inl (upd (upd (upd (upd (upd (fun _ => 0) 0 (-1)) 1 (-1)) 2 (-1)) 3 (-1)) 1 x0))), (a2, .inl (cy 1, 4, .inl (upd (fun _ => 0) 1 x1))), (a3, .inl (cy 2, 160, .inr (.inl (vp_updL (vp_updL (vp_updL (vp_updL (vp_updL (vp_updL (vp_updL (vp_updL (vp_updL (vp_updL (vp_updL (vp_updL (vp_updL (vp_updL (vp_updL (vp_updL (vp_updL (vp_updL (vp_updL (vp_updL (vp_updL (vp_updL (fun _ => 0) 40 0) 41 0) 42 0) 43 0) 44 0) 45 0) 46 0) 47 0) 48 0) 49 0) 50 0) 51 0) 52 0) 53 0) 54 0) 55 0) 56 0) 57 0) 58 0) 59 0) 60 0) 61 0))))] rfl dX10_lay_36 (fun H locs w => ?_)
  refine lv_iinc (v := 22) (lv' := [(4, .int 22), (0, .ref a0), (1, .int 1), (2, .int x0), (3, .int x1)]) C.1 C.2.1 dX10_lay_37 hl (k := 0) rfl (by decide) (by decide) rfl (fun ls hl => ?_)
  refine lv_goto (tgt := 17) C.1 C.2.1 dX10_lay_40 (by decide) ?_
  refine lv_iload C.1 C.2.1 dX10_lay_17 (lv_at hl 0 rfl) ?_
  refine lv_bipush (v := 40) C.1 C.2.1 dX10_lay_19 (by decide) ?_
  refine b_icmp_ge_f C (tgt := 43) dX10_lay_21 (by decide) (by decide) ?_
  refine lv_aload_n C.1 C.2.1 dX10_lay_24 rfl (lv_at hl 1 rfl) ?_
  refine r_get C w 0 rfl rfl 2 (by decide) fl_RX10_18 (v := .ref a3) rfl dX10_lay_25 ?_
  refine lv_iload_n C.1 C.2.1 dX10_lay_28 rfl (lv_at hl 2 rfl) ?_
  refine lv_bipush (v := 40) C.1 C.2.1 dX10_lay_29 (by decide) ?_
  refine r_imul C (v := 40) dX10_lay_31 (by decide) ?_
  refine lv_iload C.1 C.2.1 dX10_lay_32 (lv_at hl 0 rfl) ?_
  refine r_iadd C (v := 62) dX10_lay_34 (by decide) ?_
  refine lv_lconst (v := 0) C.1 C.2.1 dX10_lay_35 (by decide) ?_
  refine r_last C w 3 rfl (vinD (by decide)) (vp_updL (vp_updL (vp_updL (vp_updL (vp_updL (vp_updL (vp_updL (vp_updL (vp_updL (vp_updL (vp_updL (vp_updL (vp_updL (vp_updL (vp_updL (vp_updL (vp_updL (vp_updL (vp_updL (vp_updL (vp_updL (vp_updL (vp_updL (fun _ => 0) 40 0) 41 0) 42 0) 43 0) 44 0) 45 0) 46 0) 47 0) 48 0) 49 0) 50 0) 51 0) 52 0) 53 0) 54 0) 55 0) 56 0) 57 0) 58 0) 59 0) 60 0) 61 0) 62 0) rfl [(a0, .inr (10, [.ref a1, .ref a2, .ref a3])), (a1, .inl (cy 1, 4, .inl (upd (upd (upd (upd (upd (fun _ => 0) 0 (-1)) 1 (-1)) 2 (-1)) 3 (-1)) 1 x0))), (a2, .inl (cy 1, 4, .inl (upd (fun _ => 0) 1 x1))), (a3, .inl (cy 2, 160, .inr (.inl (vp_updL (vp_updL (vp_updL (vp_updL (vp_updL (vp_updL (vp_updL (vp_updL (vp_updL (vp_updL (vp_updL (vp_updL (vp_updL (vp_updL (vp_updL (vp_updL (vp_updL (vp_updL (vp_updL (vp_updL (vp_updL (vp_updL (vp_updL (fun _ => 0) 40 0) 41 0) 42 0) 43 0) 44 0) 45 0) 46 0) 47 0) 48 0) 49 0) 50 0) 51 0) 52 0) 53 0) 54 0) 55 0) 56 0) 57 0) 58 0) 59 0) 60 0) 61 0) 62 0))))] rfl dX10_lay_36 (fun H locs w => ?_)
  refine lv_iinc (v := 23) (lv' := [(4, .int 23), (0, .ref a0), (1, .int 1), (2, .int x0), (3, .int x1)]) C.1 C.2.1 dX10_lay_37 hl (k := 0) rfl (by decide) (by decide) rfl (fun ls hl => ?_)
  refine lv_goto (tgt := 17) C.1 C.2.1 dX10_lay_40 (by decide) ?_
  refine lv_iload C.1 C.2.1 dX10_lay_17 (lv_at hl 0 rfl) ?_
  refine lv_bipush (v := 40) C.1 C.2.1 dX10_lay_19 (by decide) ?_
  refine b_icmp_ge_f C (tgt := 43) dX10_lay_21 (by decide) (by decide) ?_
  refine lv_aload_n C.1 C.2.1 dX10_lay_24 rfl (lv_at hl 1 rfl) ?_
  refine r_get C w 0 rfl rfl 2 (by decide) fl_RX10_18 (v := .ref a3) rfl dX10_lay_25 ?_
  refine lv_iload_n C.1 C.2.1 dX10_lay_28 rfl (lv_at hl 2 rfl) ?_
  refine lv_bipush (v := 40) C.1 C.2.1 dX10_lay_29 (by decide) ?_
  refine r_imul C (v := 40) dX10_lay_31 (by decide) ?_
  refine lv_iload C.1 C.2.1 dX10_lay_32 (lv_at hl 0 rfl) ?_
  refine r_iadd C (v := 63) dX10_lay_34 (by decide) ?_
  refine lv_lconst (v := 0) C.1 C.2.1 dX10_lay_35 (by decide) ?_
  refine r_last C w 3 rfl (vinD (by decide)) (vp_updL (vp_updL (vp_updL (vp_updL (vp_updL (vp_updL (vp_updL (vp_updL (vp_updL (vp_updL (vp_updL (vp_updL (vp_updL (vp_updL (vp_updL (vp_updL (vp_updL (vp_updL (vp_updL (vp_updL (vp_updL (vp_updL (vp_updL (vp_updL (fun _ => 0) 40 0) 41 0) 42 0) 43 0) 44 0) 45 0) 46 0) 47 0) 48 0) 49 0) 50 0) 51 0) 52 0) 53 0) 54 0) 55 0) 56 0) 57 0) 58 0) 59 0) 60 0) 61 0) 62 0) 63 0) rfl [(a0, .inr (10, [.ref a1, .ref a2, .ref a3])), (a1, .inl (cy 1, 4, .inl (upd (upd (upd (upd (upd (fun _ => 0) 0 (-1)) 1 (-1)) 2 (-1)) 3 (-1)) 1 x0))), (a2, .inl (cy 1, 4, .inl (upd (fun _ => 0) 1 x1))), (a3, .inl (cy 2, 160, .inr (.inl (vp_updL (vp_updL (vp_updL (vp_updL (vp_updL (vp_updL (vp_updL (vp_updL (vp_updL (vp_updL (vp_updL (vp_updL (vp_updL (vp_updL (vp_updL (vp_updL (vp_updL (vp_updL (vp_updL (vp_updL (vp_updL (vp_updL (vp_updL (vp_updL (fun _ => 0) 40 0) 41 0) 42 0) 43 0) 44 0) 45 0) 46 0) 47 0) 48 0) 49 0) 50 0) 51 0) 52 0) 53 0) 54 0) 55 0) 56 0) 57 0) 58 0) 59 0) 60 0) 61 0) 62 0) 63 0))))] rfl dX10_lay_36 (fun H locs w => ?_)
  refine lv_iinc (v := 24) (lv' := [(4, .int 24), (0, .ref a0), (1, .int 1), (2, .int x0), (3, .int x1)]) C.1 C.2.1 dX10_lay_37 hl (k := 0) rfl (by decide) (by decide) rfl (fun ls hl => ?_)
  refine lv_goto (tgt := 17) C.1 C.2.1 dX10_lay_40 (by decide) ?_
  refine lv_iload C.1 C.2.1 dX10_lay_17 (lv_at hl 0 rfl) ?_
  refine lv_bipush (v := 40) C.1 C.2.1 dX10_lay_19 (by decide) ?_
  refine b_icmp_ge_f C (tgt := 43) dX10_lay_21 (by decide) (by decide) ?_
  refine lv_aload_n C.1 C.2.1 dX10_lay_24 rfl (lv_at hl 1 rfl) ?_
  refine r_get C w 0 rfl rfl 2 (by decide) fl_RX10_18 (v := .ref a3) rfl dX10_lay_25 ?_
  refine lv_iload_n C.1 C.2.1 dX10_lay_28 rfl (lv_at hl 2 rfl) ?_
  refine lv_bipush (v := 40) C.1 C.2.1 dX10_lay_29 (by decide) ?_
  refine r_imul C (v := 40) dX10_lay_31 (by decide) ?_
  refine lv_iload C.1 C.2.1 dX10_lay_32 (lv_at hl 0 rfl) ?_
  refine r_iadd C (v := 64) dX10_lay_34 (by decide) ?_
  refine lv_lconst (v := 0) C.1 C.2.1 dX10_lay_35 (by decide) ?_
  refine r_last C w 3 rfl (vinD (by decide)) (vp_updL (vp_updL (vp_updL (vp_updL (vp_updL (vp_updL (vp_updL (vp_updL (vp_updL (vp_updL (vp_updL (vp_updL (vp_updL (vp_updL (vp_updL (vp_updL (vp_updL (vp_updL (vp_updL (vp_updL (vp_updL (vp_updL (vp_updL (vp_updL (vp_updL (fun _ => 0) 40 0) 41 0) 42 0) 43 0) 44 0) 45 0) 46 0) 47 0) 48 0) 49 0) 50 0) 51 0) 52 0) 53 0) 54 0) 55 0) 56 0) 57 0) 58 0) 59 0) 60 0) 61 0) 62 0) 63 0) 64 0) rfl [(a0, .inr (10, [.ref a1, .ref a2, .ref a3])), (a1, .inl (cy 1, 4, .inl (upd (upd (upd (upd (upd (fun _ => 0) 0 (-1)) 1 (-1)) 2 (-1)) 3 (-1)) 1 x0))), (a2, .inl (cy 1, 4, .inl (upd (fun _ => 0) 1 x1))), (a3, .inl (cy 2, 160, .inr (.inl (vp_updL (vp_updL (vp_updL (vp_updL (vp_updL (vp_updL (vp_updL (vp_updL (vp_updL (vp_updL (vp_updL (vp_updL (vp_updL (vp_updL (vp_updL (vp_updL (vp_updL (vp_updL (vp_updL (vp_updL (vp_updL (vp_updL (vp_updL (vp_updL (vp_updL (fun _ => 0) 40 0) 41 0) 42 0) 43 0) 44 0) 45 0) 46 0) 47 0) 48 0) 49 0) 50 0) 51 0) 52 0) 53 0) 54 0) 55 0) 56 0) 57 0) 58 0) 59 0) 60 0) 61 0) 62 0) 63 0) 64 0))))] rfl dX10_lay_36 (fun H locs w => ?_)
  refine lv_iinc (v := 25) (lv' := [(4, .int 25), (0, .ref a0), (1, .int 1), (2, .int x0), (3, .int x1)]) C.1 C.2.1 dX10_lay_37 hl (k := 0) rfl (by decide) (by decide) rfl (fun ls hl => ?_)
  refine lv_goto (tgt := 17) C.1 C.2.1 dX10_lay_40 (by decide) ?_
  refine lv_iload C.1 C.2.1 dX10_lay_17 (lv_at hl 0 rfl) ?_
  refine lv_bipush (v := 40) C.1 C.2.1 dX10_lay_19 (by decide) ?_
  refine b_icmp_ge_f C (tgt := 43) dX10_lay_21 (by decide) (by decide) ?_
  refine lv_aload_n C.1 C.2.1 dX10_lay_24 rfl (lv_at hl 1 rfl) ?_
  refine r_get C w 0 rfl rfl 2 (by decide) fl_RX10_18 (v := .ref a3) rfl dX10_lay_25 ?_
  refine lv_iload_n C.1 C.2.1 dX10_lay_28 rfl (lv_at hl 2 rfl) ?_
  refine lv_bipush (v := 40) C.1 C.2.1 dX10_lay_29 (by decide) ?_
  refine r_imul C (v := 40) dX10_lay_31 (by decide) ?_
  refine lv_iload C.1 C.2.1 dX10_lay_32 (lv_at hl 0 rfl) ?_
  refine r_iadd C (v := 65) dX10_lay_34 (by decide) ?_
  refine lv_lconst (v := 0) C.1 C.2.1 dX10_lay_35 (by decide) ?_
  refine r_last C w 3 rfl (vinD (by decide)) (vp_updL (vp_updL (vp_updL (vp_updL (vp_updL (vp_updL (vp_updL (vp_updL (vp_updL (vp_updL (vp_updL (vp_updL (vp_updL (vp_updL (vp_updL (vp_updL (vp_updL (vp_updL (vp_updL (vp_updL (vp_updL (vp_updL (vp_updL (vp_updL (vp_updL (vp_updL (fun _ => 0) 40 0) 41 0) 42 0) 43 0) 44 0) 45 0) 46 0) 47 0) 48 0) 49 0) 50 0) 51 0) 52 0) 53 0) 54 0) 55 0) 56 0) 57 0) 58 0) 59 0) 60 0) 61 0) 62 0) 63 0) 64 0) 65 0) rfl [(a0, .inr (10, [.ref a1, .ref a2, .ref a3])), (a1, .inl (cy 1, 4, .inl (upd (upd (upd (upd (upd (fun _ => 0) 0 (-1)) 1 (-1)) 2 (-1)) 3 (-1)) 1 x0))), (a2, .inl (cy 1, 4, .inl (upd (fun _ => 0) 1 x1))), (a3, .inl (cy 2, 160, .inr (.inl (vp_updL (vp_updL (vp_updL (vp_updL (vp_updL (vp_updL (vp_updL (vp_updL (vp_updL (vp_updL (vp_updL (vp_updL (vp_updL (vp_updL (vp_updL (vp_updL (vp_updL (vp_updL (vp_updL (vp_updL (vp_updL (vp_updL (vp_updL (vp_updL (vp_updL (vp_updL (fun _ => 0) 40 0) 41 0) 42 0) 43 0) 44 0) 45 0) 46 0) 47 0) 48 0) 49 0) 50 0) 51 0) 52 0) 53 0) 54 0) 55 0) 56 0) 57 0) 58 0) 59 0) 60 0) 61 0) 62 0) 63 0) 64 0) 65 0))))] rfl dX10_lay_36 (fun H locs w => ?_)
  refine lv_iinc (v := 26) (lv' := [(4, .int 26), (0, .ref a0), (1, .int 1), (2, .int x0), (3, .int x1)]) C.1 C.2.1 dX10_lay_37 hl (k := 0) rfl (by decide) (by decide) rfl (fun ls hl => ?_)
  refine lv_goto (tgt := 17) C.1 C.2.1 dX10_lay_40 (by decide) ?_
  refine lv_iload C.1 C.2.1 dX10_lay_17 (lv_at hl 0 rfl) ?_
  refine lv_bipush (v := 40) C.1 C.2.1 dX10_lay_19 (by decide) ?_
  refine b_icmp_ge_f C (tgt := 43) dX10_lay_21 (by decide) (by decide) ?_
  refine lv_aload_n C.1 C.2.1 dX10_lay_24 rfl (lv_at hl 1 rfl) ?_
  refine r_get C w 0 rfl rfl 2 (by decide) fl_RX10_18 (v := .ref a3) rfl dX10_lay_25 ?_
  refine lv_iload_n C.1 C.2.1 dX10_lay_28 rfl (lv_at hl 2 rfl) ?_
  refine lv_bipush (v := 40) C.1 C.2.1 dX10_lay_29 (by decide) ?_
  refine r_imul C (v := 40) dX10_lay_31 (by decide) ?_
  refine lv_iload C.1 C.2.1 dX10_lay_32 (lv_at hl 0 rfl) ?_
  refine r_iadd C (v := 66) dX10_lay_34 (by decide) ?_
  refine lv_lconst (v := 0) C.1 C.2.1 dX10_lay_35 (by decide) ?_
  refine r_last C w 3 rfl (vinD (by decide)) (vp_updL (vp_updL (vp_updL (vp_updL (vp_updL (vp_updL (vp_updL (vp_updL (vp_updL (vp_updL (vp_updL (vp_updL (vp_updL (vp_updL (vp_updL (vp_updL (vp_updL (vp_updL (vp_updL (vp_updL (vp_updL (vp_updL (vp_updL (vp_updL (vp_updL (vp_updL (vp_updL (fun _ => 0) 40 0) 41 0) 42 0) 43 0) 44 0) 45 0) 46 0) 47 0) 48 0) 49 0) 50 0) 51 0) 52 0) 53 0) 54 0) 55 0) 56 0) 57 0) 58 0) 59 0) 60 0) 61 0) 62 0) 63 0) 64 0) 65 0) 66 0) rfl [(a0, .inr (10, [.ref a1, .ref a2, .ref a3])), (a1, .inl (cy 1, 4, .inl (upd (upd (upd (upd (upd (fun _ => 0) 0 (-1)) 1 (-1)) 2 (-1)) 3 (-1)) 1 x0))), (a2, .inl (cy 1, 4, .inl (upd (fun _ => 0) 1 x1))), (a3, .inl (cy 2, 160, .inr (.inl (vp_updL (vp_updL (vp_updL (vp_updL (vp_updL (vp_updL (vp_updL (vp_updL (vp_updL (vp_updL (vp_updL (vp_updL (vp_updL (vp_updL (vp_updL (vp_updL (vp_updL (vp_updL (vp_updL (vp_updL (vp_updL (vp_updL (vp_updL (vp_updL (vp_updL (vp_updL (vp_updL (fun _ => 0) 40 0) 41 0) 42 0) 43 0) 44 0) 45 0) 46 0) 47 0) 48 0) 49 0) 50 0) 51 0) 52 0) 53 0) 54 0) 55 0) 56 0) 57 0) 58 0) 59 0) 60 0) 61 0) 62 0) 63 0) 64 0) 65 0) 66 0))))] rfl dX10_lay_36 (fun H locs w => ?_)
  refine lv_iinc (v := 27) (lv' := [(4, .int 27), (0, .ref a0), (1, .int 1), (2, .int x0), (3, .int x1)]) C.1 C.2.1 dX10_lay_37 hl (k := 0) rfl (by decide) (by decide) rfl (fun ls hl => ?_)
  refine lv_goto (tgt := 17) C.1 C.2.1 dX10_lay_40 (by decide) ?_
  refine lv_iload C.1 C.2.1 dX10_lay_17 (lv_at hl 0 rfl) ?_
  refine lv_bipush (v := 40) C.1 C.2.1 dX10_lay_19 (by decide) ?_
  refine b_icmp_ge_f C (tgt := 43) dX10_lay_21 (by decide) (by decide) ?_
  refine lv_aload_n C.1 C.2.1 dX10_lay_24 rfl (lv_at hl 1 rfl) ?_
  refine r_get C w 0 rfl rfl 2 (by decide) fl_RX10_18 (v := .ref a3) rfl dX10_lay_25 ?_
  refine lv_iload_n C.1 C.2.1 dX10_lay_28 rfl (lv_at hl 2 rfl) ?_
  refine lv_bipush (v := 40) C.1 C.2.1 dX10_lay_29 (by decide) ?_
  refine r_imul C (v := 40) dX10_lay_31 (by decide) ?_
  refine lv_iload C.1 C.2.1 dX10_lay_32 (lv_at hl 0 rfl) ?_
  refine r_iadd C (v := 67) dX10_lay_34 (by decide) ?_
  refine lv_lconst (v := 0) C.1 C.2.1 dX10_lay_35 (by decide) ?_
  refine r_last C w 3 rfl (vinD (by decide)) (vp_updL (vp_updL (vp_updL (vp_updL (vp_updL (vp_updL (vp_updL (vp_updL (vp_updL (vp_updL (vp_updL (vp_updL (vp_updL (vp_updL (vp_updL (vp_updL (vp_updL (vp_updL (vp_updL (vp_updL (vp_updL (vp_updL (vp_updL (vp_updL (vp_updL (vp_updL (vp_updL (vp_updL (fun _ => 0) 40 0) 41 0) 42 0) 43 0) 44 0) 45 0) 46 0) 47 0) 48 0) 49 0) 50 0) 51 0) 52 0) 53 0) 54 0) 55 0) 56 0) 57 0) 58 0) 59 0) 60 0) 61 0) 62 0) 63 0) 64 0) 65 0) 66 0) 67 0) rfl [(a0, .inr (10, [.ref a1, .ref a2, .ref a3])), (a1, .inl (cy 1, 4, .inl (upd (upd (upd (upd (upd (fun _ => 0) 0 (-1)) 1 (-1)) 2 (-1)) 3 (-1)) 1 x0))), (a2, .inl (cy 1, 4, .inl (upd (fun _ => 0) 1 x1))), (a3, .inl (cy 2, 160, .inr (.inl (vp_updL (vp_updL (vp_updL (vp_updL (vp_updL (vp_updL (vp_updL (vp_updL (vp_updL (vp_updL (vp_updL (vp_updL (vp_updL (vp_updL (vp_updL (vp_updL (vp_updL (vp_updL (vp_updL (vp_updL (vp_updL (vp_updL (vp_updL (vp_updL (vp_updL (vp_updL (vp_updL (vp_updL (fun _ => 0) 40 0) 41 0) 42 0) 43 0) 44 0) 45 0) 46 0) 47 0) 48 0) 49 0) 50 0) 51 0) 52 0) 53 0) 54 0) 55 0) 56 0) 57 0) 58 0) 59 0) 60 0) 61 0) 62 0) 63 0) 64 0) 65 0) 66 0) 67 0))))] rfl dX10_lay_36 (fun H locs w => ?_)
  refine lv_iinc (v := 28) (lv' := [(4, .int 28), (0, .ref a0), (1, .int 1), (2, .int x0), (3, .int x1)]) C.1 C.2.1 dX10_lay_37 hl (k := 0) rfl (by decide) (by decide) rfl (fun ls hl => ?_)
  refine lv_goto (tgt := 17) C.1 C.2.1 dX10_lay_40 (by decide) ?_
  refine lv_iload C.1 C.2.1 dX10_lay_17 (lv_at hl 0 rfl) ?_
  refine lv_bipush (v := 40) C.1 C.2.1 dX10_lay_19 (by decide) ?_
  refine b_icmp_ge_f C (tgt := 43) dX10_lay_21 (by decide) (by decide) ?_
  refine lv_aload_n C.1 C.2.1 dX10_lay_24 rfl (lv_at hl 1 rfl) ?_
  refine r_get C w 0 rfl rfl 2 (by decide) fl_RX10_18 (v := .ref a3) rfl dX10_lay_25 ?_
  refine lv_iload_n C.1 C.2.1 dX10_lay_28 rfl (lv_at hl 2 rfl) ?_
  refine lv_bipush (v := 40) C.1 C.2.1 dX10_lay_29 (by decide) ?_
  refine r_imul C (v := 40) dX10_lay_31 (by decide) ?_
  refine lv_iload C.1 C.2.1 dX10_lay_32 (lv_at hl 0 rfl) ?_
  refine r_iadd C (v := 68) dX10_lay_34 (by decide) ?_
  refine lv_lconst (v := 0) C.1 C.2.1 dX10_lay_35 (by decide) ?_
  refine r_last C w 3 rfl (vinD (by decide)) (vp_updL (vp_updL (vp_updL (vp_updL (vp_updL (vp_updL (vp_updL (vp_updL (vp_updL (vp_updL (vp_updL (vp_updL (vp_updL (vp_updL (vp_updL (vp_updL (vp_updL (vp_updL (vp_updL (vp_updL (vp_updL (vp_updL (vp_updL (vp_updL (vp_updL (vp_updL (vp_updL (vp_updL (vp_updL (fun _ => 0) 40 0) 41 0) 42 0) 43 0) 44 0) 45 0) 46 0) 47 0) 48 0) 49 0) 50 0) 51 0) 52 0) 53 0) 54 0) 55 0) 56 0) 57 0) 58 0) 59 0) 60 0) 61 0) 62 0) 63 0) 64 0) 65 0) 66 0) 67 0) 68 0) rfl [(a0, .inr (10, [.ref a1, .ref a2, .ref a3])), (a1, .inl (cy 1, 4, .inl (upd (upd (upd (upd (upd (fun _ => 0) 0 (-1)) 1 (-1)) 2 (-1)) 3 (-1)) 1 x0))), (a2, .inl (cy 1, 4, .inl (upd (fun _ => 0) 1 x1))), (a3, .inl (cy 2, 160, .inr (.inl (vp_updL (vp_updL (vp_updL (vp_updL (vp_updL (vp_updL (vp_updL (vp_updL (vp_updL (vp_updL (vp_updL (vp_updL (vp_updL (vp_updL (vp_updL (vp_updL (vp_updL (vp_updL (vp_updL (vp_updL (vp_updL (vp_updL (vp_updL (vp_updL (vp_updL (vp_updL (vp_updL (vp_updL (vp_updL (fun _ => 0) 40 0) 41 0) 42 0) 43 0) 44 0) 45 0) 46 0) 47 0) 48 0) 49 0) 50 0) 51 0) 52 0) 53 0) 54 0) 55 0) 56 0) 57 0) 58 0) 59 0) 60 0) 61 0) 62 0) 63 0) 64 0) 65 0) 66 0) 67 0) 68 0))))] rfl dX10_lay_36 (fun H locs w => ?_)
  refine lv_iinc (v := 29) (lv' := [(4, .int 29), (0, .ref a0), (1, .int 1), (2, .int x0), (3, .int x1)]) C.1 C.2.1 dX10_lay_37 hl (k := 0) rfl (by decide) (by decide) rfl (fun ls hl => ?_)
  refine lv_goto (tgt := 17) C.1 C.2.1 dX10_lay_40 (by decide) ?_
  refine lv_iload C.1 C.2.1 dX10_lay_17 (lv_at hl 0 rfl) ?_
  refine lv_bipush (v := 40) C.1 C.2.1 dX10_lay_19 (by decide) ?_
  refine b_icmp_ge_f C (tgt := 43) dX10_lay_21 (by decide) (by decide) ?_
  refine lv_aload_n C.1 C.2.1 dX10_lay_24 rfl (lv_at hl 1 rfl) ?_
  refine r_get C w 0 rfl rfl 2 (by decide) fl_RX10_18 (v := .ref a3) rfl dX10_lay_25 ?_
  refine lv_iload_n C.1 C.2.1 dX10_lay_28 rfl (lv_at hl 2 rfl) ?_
  refine lv_bipush (v := 40) C.1 C.2.1 dX10_lay_29 (by decide) ?_
  refine r_imul C (v := 40) dX10_lay_31 (by decide) ?_
  refine lv_iload C.1 C.2.1 dX10_lay_32 (lv_at hl 0 rfl) ?_
  refine r_iadd C (v := 69) dX10_lay_34 (by decide) ?_
  refine lv_lconst (v := 0) C.1 C.2.1 dX10_lay_35 (by decide) ?_
  refine r_last C w 3 rfl (vinD (by decide)) (vp_updL (vp_updL (vp_updL (vp_updL (vp_updL (vp_updL (vp_updL (vp_updL (vp_updL (vp_updL (vp_updL (vp_updL (vp_updL (vp_updL (vp_updL (vp_updL (vp_updL (vp_updL (vp_updL (vp_updL (vp_updL (vp_updL (vp_updL (vp_updL (vp_updL (vp_updL (vp_updL (vp_updL (vp_updL (vp_updL (fun _ => 0) 40 0) 41 0) 42 0) 43 0) 44 0) 45 0) 46 0) 47 0) 48 0) 49 0) 50 0) 51 0) 52 0) 53 0) 54 0) 55 0) 56 0) 57 0) 58 0) 59 0) 60 0) 61 0) 62 0) 63 0) 64 0) 65 0) 66 0) 67 0) 68 0) 69 0) rfl [(a0, .inr (10, [.ref a1, .ref a2, .ref a3])), (a1, .inl (cy 1, 4, .inl (upd (upd (upd (upd (upd (fun _ => 0) 0 (-1)) 1 (-1)) 2 (-1)) 3 (-1)) 1 x0))), (a2, .inl (cy 1, 4, .inl (upd (fun _ => 0) 1 x1))), (a3, .inl (cy 2, 160, .inr (.inl (vp_updL (vp_updL (vp_updL (vp_updL (vp_updL (vp_updL (vp_updL (vp_updL (vp_updL (vp_updL (vp_updL (vp_updL (vp_updL (vp_updL (vp_updL (vp_updL (vp_updL (vp_updL (vp_updL (vp_updL (vp_updL (vp_updL (vp_updL (vp_updL (vp_updL (vp_updL (vp_updL (vp_updL (vp_updL (vp_updL (fun _ => 0) 40 0) 41 0) 42 0) 43 0) 44 0) 45 0) 46 0) 47 0) 48 0) 49 0) 50 0) 51 0) 52 0) 53 0) 54 0) 55 0) 56 0) 57 0) 58 0) 59 0) 60 0) 61 0) 62 0) 63 0) 64 0) 65 0) 66 0) 67 0) 68 0) 69 0))))] rfl dX10_lay_36 (fun H locs w => ?_)
  refine lv_iinc (v := 30) (lv' := [(4, .int 30), (0, .ref a0), (1, .int 1), (2, .int x0), (3, .int x1)]) C.1 C.2.1 dX10_lay_37 hl (k := 0) rfl (by decide) (by decide) rfl (fun ls hl => ?_)
  refine lv_goto (tgt := 17) C.1 C.2.1 dX10_lay_40 (by decide) ?_
  refine lv_iload C.1 C.2.1 dX10_lay_17 (lv_at hl 0 rfl) ?_
  refine lv_bipush (v := 40) C.1 C.2.1 dX10_lay_19 (by decide) ?_
  refine b_icmp_ge_f C (tgt := 43) dX10_lay_21 (by decide) (by decide) ?_
  refine lv_aload_n C.1 C.2.1 dX10_lay_24 rfl (lv_at hl 1 rfl) ?_
  refine r_get C w 0 rfl rfl 2 (by decide) fl_RX10_18 (v := .ref a3) rfl dX10_lay_25 ?_
  refine lv_iload_n C.1 C.2.1 dX10_lay_28 rfl (lv_at hl 2 rfl) ?_
  refine lv_bipush (v := 40) C.1 C.2.1 dX10_lay_29 (by decide) ?_
  refine r_imul C (v := 40) dX10_lay_31 (by decide) ?_
  refine lv_iload C.1 C.2.1 dX10_lay_32 (lv_at hl 0 rfl) ?_
  refine r_iadd C (v := 70) dX10_lay_34 (by decide) ?_
  refine lv_lconst (v := 0) C.1 C.2.1 dX10_lay_35 (by decide) ?_
  refine r_last C w 3 rfl (vinD (by decide)) (vp_updL (vp_updL (vp_updL (vp_updL (vp_updL (vp_updL (vp_updL (vp_updL (vp_updL (vp_updL (vp_updL (vp_updL (vp_updL (vp_updL (vp_updL (vp_updL (vp_updL (vp_updL (vp_updL (vp_updL (vp_updL (vp_updL (vp_updL (vp_updL (vp_updL (vp_updL (vp_updL (vp_updL (vp_updL (vp_updL (vp_updL (fun _ => 0) 40 0) 41 0) 42 0) 43 0) 44 0) 45 0) 46 0) 47 0) 48 0) 49 0) 50 0) 51 0) 52 0) 53 0) 54 0) 55 0) 56 0) 57 0) 58 0) 59 0) 60 0) 61 0) 62 0) 63 0) 64 0) 65 0) 66 0) 67 0) 68 0) 69 0) 70 0) rfl [(a0, .inr (10, [.ref a1, .ref a2, .ref a3])), (a1, .inl (cy 1, 4, .inl (upd (upd (upd (upd (upd (fun _ => 0) 0 (-1)) 1 (-1)) 2 (-1)) 3 (-1)) 1 x0))), (a2, .inl (cy 1, 4, .inl (upd (fun _ => 0) 1 x1))), (a3, .inl (cy 2, 160, .inr (.inl (vp_updL (vp_updL (vp_updL (vp_updL (vp_updL (vp_updL (vp_updL (vp_updL (vp_updL (vp_updL (vp_updL (vp_updL (vp_updL (vp_updL (vp_updL (vp_updL (vp_updL (vp_updL (vp_updL (vp_updL (vp_updL (vp_updL (vp_updL (vp_updL (vp_updL (vp_updL (vp_updL (vp_updL (vp_updL (vp_updL (vp_updL (fun _ => 0) 40 0) 41 0) 42 0) 43 0) 44 0) 45 0) 46 0) 47 0) 48 0) 49 0) 50 0) 51 0) 52 0) 53 0) 54 0) 55 0) 56 0) 57 0) 58 0) 59 0) 60 0) 61 0) 62 0) 63 0) 64 0) 65 0) 66 0) 67 0) 68 0) 69 0) 70 0))))] rfl dX10_lay_36 (fun H locs w => ?_)
  refine lv_iinc (v := 31) (lv' := [(4, .int 31), (0, .ref a0), (1, .int 1), (2, .int x0), (3, .int x1)]) C.1 C.2.1 dX10_lay_37 hl (k := 0) rfl (by decide) (by decide) rfl (fun ls hl => ?_)
  refine lv_goto (tgt := 17) C.1 C.2.1 dX10_lay_40 (by decide) ?_
  refine lv_iload C.1 C.2.1 dX10_lay_17 (lv_at hl 0 rfl) ?_
  refine lv_bipush (v := 40) C.1 C.2.1 dX10_lay_19 (by decide) ?_
  refine b_icmp_ge_f C (tgt := 43) dX10_lay_21 (by decide) (by decide) ?_
  refine lv_aload_n C.1 C.2.1 dX10_lay_24 rfl (lv_at hl 1 rfl) ?_
  refine r_get C w 0 rfl rfl 2 (by decide) fl_RX10_18 (v := .ref a3) rfl dX10_lay_25 ?_
  refine lv_iload_n C.1 C.2.1 dX10_lay_28 rfl (lv_at hl 2 rfl) ?_
  refine lv_bipush (v := 40) C.1 C.2.1 dX10_lay_29 (by decide) ?_
  refine r_imul C (v := 40) dX10_lay_31 (by decide) ?_
  refine lv_iload C.1 C.2.1 dX10_lay_32 (lv_at hl 0 rfl) ?_
  refine r_iadd C (v := 71) dX10_lay_34 (by decide) ?_
  refine lv_lconst (v := 0) C.1 C.2.1 dX10_lay_35 (by decide) ?_
  refine r_last C w 3 rfl (vinD (by decide)) (vp_updL (vp_updL (vp_updL (vp_updL (vp_updL (vp_updL (vp_updL (vp_updL (vp_updL (vp_updL (vp_updL (vp_updL (vp_updL (vp_updL (vp_updL (vp_updL (vp_updL (vp_updL (vp_updL (vp_updL (vp_updL (vp_updL (vp_updL (vp_updL (vp_updL (vp_updL (vp_updL (vp_updL (vp_updL (vp_updL (vp_updL (vp_updL (fun _ => 0) 40 0) 41 0) 42 0) 43 0) 44 0) 45 0) 46 0) 47 0) 48 0) 49 0) 50 0) 51 0) 52 0) 53 0) 54 0) 55 0) 56 0) 57 0) 58 0) 59 0) 60 0) 61 0) 62 0) 63 0) 64 0) 65 0) 66 0) 67 0) 68 0) 69 0) 70 0) 71 0) rfl [(a0, .inr (10, [.ref a1, .ref a2, .ref a3])), (a1, .inl (cy 1, 4, .inl (upd (upd (upd (upd (upd (fun _ => 0) 0 (-1)) 1 (-1)) 2 (-1)) 3 (-1)) 1 x0))), (a2, .inl (cy 1, 4, .inl (upd (fun _ => 0) 1 x1))), (a3, .inl (cy 2, 160, .inr (.inl (vp_updL (vp_updL (vp_updL (vp_updL (vp_updL (vp_updL (vp_updL (vp_updL (vp_updL (vp_updL (vp_updL (vp_updL (vp_updL (vp_updL (vp_updL (vp_updL (vp_updL (vp_updL (vp_updL (vp_updL (vp_updL (vp_updL (vp_updL (vp_updL (vp_updL (vp_updL (vp_updL (vp_updL (vp_updL (vp_updL (vp_updL (vp_updL (fun _ => 0) 40 0) 41 0) 42 0) 43 0) 44 0) 45 0) 46 0) 47 0) 48 0) 49 0) 50 0) 51 0) 52 0) 53 0) 54 0) 55 0) 56 0) 57 0) 58 0) 59 0) 60 0) 61 0) 62 0) 63 0) 64 0) 65 0) 66 0) 67 0) 68 0) 69 0) 70 0) 71 0))))] rfl dX10_lay_36 (fun H locs w => ?_)
  refine lv_iinc (v := 32) (lv' := [(4, .int 32), (0, .ref a0), (1, .int 1), (2, .int x0), (3, .int x1)]) C.1 C.2.1 dX10_lay_37 hl (k := 0) rfl (by decide) (by decide) rfl (fun ls hl => ?_)
  refine lv_goto (tgt := 17) C.1 C.2.1 dX10_lay_40 (by decide) ?_
  refine lv_iload C.1 C.2.1 dX10_lay_17 (lv_at hl 0 rfl) ?_
  refine lv_bipush (v := 40) C.1 C.2.1 dX10_lay_19 (by decide) ?_
  refine b_icmp_ge_f C (tgt := 43) dX10_lay_21 (by decide) (by decide) ?_
  refine lv_aload_n C.1 C.2.1 dX10_lay_24 rfl (lv_at hl 1 rfl) ?_
  refine r_get C w 0 rfl rfl 2 (by decide) fl_RX10_18 (v := .ref a3) rfl dX10_lay_25 ?_
  refine lv_iload_n C.1 C.2.1 dX10_lay_28 rfl (lv_at hl 2 rfl) ?_
  refine lv_bipush (v := 40) C.1 C.2.1 dX10_lay_29 (by decide) ?_
  refine r_imul C (v := 40) dX10_lay_31 (by decide) ?_
  refine lv_iload C.1 C.2.1 dX10_lay_32 (lv_at hl 0 rfl) ?_
  refine r_iadd C (v := 72) dX10_lay_34 (by decide) ?_
  refine lv_lconst (v := 0) C.1 C.2.1 dX10_lay_35 (by decide) ?_
  refine r_last C w 3 rfl (vinD (by decide)) (vp_updL (vp_updL (vp_updL (vp_updL (vp_updL (vp_updL (vp_updL (vp_updL (vp_updL (vp_updL (vp_updL (vp_updL (vp_updL (vp_updL (vp_updL (vp_updL (vp_updL (vp_updL (vp_updL (vp_updL (vp_updL (vp_updL (vp_updL (vp_updL (vp_updL (vp_updL (vp_updL (vp_updL (vp_updL (vp_updL (vp_updL (vp_updL (vp_updL (fun _ => 0) 40 0) 41 0) 42 0) 43 0) 44 0) 45 0) 46 0) 47 0) 48 0) 49 0) 50 0) 51 0) 52 0) 53 0) 54 0) 55 0) 56 0) 57 0) 58 0) 59 0) 60 0) 61 0) 62 0) 63 0) 64 0) 65 0) 66 0) 67 0) 68 0) 69 0) 70 0) 71 0) 72 0) rfl [(a0, .inr (10, [.ref a1, .ref a2, .ref a3])), (a1, .inl (cy 1, 4, .inl (upd (upd (upd (upd (upd (fun _ => 0) 0 (-1)) 1 (-1)) 2 (-1)) 3 (-1)) 1 x0))), (a2, .inl (cy 1, 4, .inl (upd (fun _ => 0) 1 x1))), (a3, .inl (cy 2, 160, .inr (.inl (vp_updL (vp_updL (vp_updL (vp_updL (vp_updL (vp_updL (vp_updL (vp_updL (vp_updL (vp_updL (vp_updL (vp_updL (vp_updL (vp_updL (vp_updL (vp_updL (vp_updL (vp_updL (vp_updL (vp_updL (vp_updL (vp_updL (vp_updL (vp_updL (vp_updL (vp_updL (vp_updL (vp_updL (vp_updL (vp_updL (vp_updL (vp_updL (vp_updL (fun _ => 0) 40 0) 41 0) 42 0) 43 0) 44 0) 45 0) 46 0) 47 0) 48 0) 49 0) 50 0) 51 0) 52 0) 53 0) 54 0) 55 0) 56 0) 57 0) 58 0) 59 0) 60 0) 61 0) 62 0) 63 0) 64 0) 65 0) 66 0) 67 0) 68 0) 69 0) 70 0) 71 0) 72 0))))] rfl dX10_lay_36 (fun H locs w => ?_)
  refine lv_iinc (v := 33) (lv' := [(4, .int 33), (0, .ref a0), (1, .int 1), (2, .int x0), (3, .int x1)]) C.1 C.2.1 dX10_lay_37 hl (k := 0) rfl (by decide) (by decide) rfl (fun ls hl => ?_)
  refine lv_goto (tgt := 17) C.1 C.2.1 dX10_lay_40 (by decide) ?_
  refine lv_iload C.1 C.2.1 dX10_lay_17 (lv_at hl 0 rfl) ?_
  refine lv_bipush (v := 40) C.1 C.2.1 dX10_lay_19 (by decide) ?_
  refine b_icmp_ge_f C (tgt := 43) dX10_lay_21 (by decide) (by decide) ?_
  refine lv_aload_n C.1 C.2.1 dX10_lay_24 rfl (lv_at hl 1 rfl) ?_
  refine r_get C w 0 rfl rfl 2 (by decide) fl_RX10_18 (v := .ref a3) rfl dX10_lay_25 ?_
  refine lv_iload_n C.1 C.2.1 dX10_lay_28 rfl (lv_at hl 2 rfl) ?_
  refine lv_bipush (v := 40) C.1 C.2.1 dX10_lay_29 (by decide) ?_
  refine r_imul C (v := 40) dX10_lay_31 (by decide) ?_
  refine lv_iload C.1 C.2.1 dX10_lay_32 (lv_at hl 0 rfl) ?_
  refine r_iadd C (v := 73) dX10_lay_34 (by decide) ?_
  refine lv_lconst (v := 0) C.1 C.2.1 dX10_lay_35 (by decide) ?_
  refine r_last C w 3 rfl (vinD (by decide)) (vp_updL (vp_updL (vp_updL (vp_updL (vp_updL (vp_updL (vp_updL (vp_updL (vp_updL (vp_updL (vp_updL (vp_updL (vp_updL (vp_updL (vp_updL (vp_updL (vp_updL (vp_updL (vp_updL (vp_updL (vp_updL (vp_updL (vp_updL (vp_updL (vp_updL (vp_updL (vp_updL (vp_updL (vp_updL (vp_updL (vp_updL (vp_updL (vp_updL (vp_updL (fun _ => 0) 40 0) 41 0) 42 0) 43 0) 44 0) 45 0) 46 0) 47 0) 48 0) 49 0) 50 0) 51 0) 52 0) 53 0) 54 0) 55 0) 56 0) 57 0) 58 0) 59 0) 60 0) 61 0) 62 0) 63 0) 64 0) 65 0) 66 0) 67 0) 68 0) 69 0) 70 0) 71 0) 72 0) 73 0) rfl [(a0, .inr (10, [.ref a1, .ref a2, .ref a3])), (a1, .inl (cy 1, 4, .inl (upd (upd (upd (upd (upd (fun _ => 0) 0 (-1)) 1 (-1)) 2 (-1)) 3 (-1)) 1 x0))), (a2, .inl (cy 1, 4, .inl (upd (fun _ => 0) 1 x1))), (a3, .inl (cy 2, 160, .inr (.inl (vp_updL (vp_updL (vp_updL (vp_updL (vp_updL (vp_updL (vp_updL (vp_updL (vp_updL (vp_updL (vp_updL (vp_updL (vp_updL (vp_updL (vp_updL (vp_updL (vp_updL (vp_updL (vp_updL (vp_updL (vp_updL (vp_updL (vp_updL (vp_updL (vp_updL (vp_updL (vp_updL (vp_updL (vp_updL (vp_updL (vp_updL (vp_updL (vp_updL (vp_updL (fun _ => 0) 40 0) 41 0) 42 0) 43 0) 44 0) 45 0) 46 0) 47 0) 48 0) 49 0) 50 0) 51 0) 52 0) 53 0) 54 0) 55 0) 56 0) 57 0) 58 0) 59 0) 60 0) 61 0) 62 0) 63 0) 64 0) 65 0) 66 0) 67 0) 68 0) 69 0) 70 0) 71 0) 72 0) 73 0))))] rfl dX10_lay_36 (fun H locs w => ?_)
  refine lv_iinc (v := 34) (lv' := [(4, .int 34), (0, .ref a0), (1, .int 1), (2, .int x0), (3, .int x1)]) C.1 C.2.1 dX10_lay_37 hl (k := 0) rfl (by decide) (by decide) rfl (fun ls hl => ?_)
  refine lv_goto (tgt := 17) C.1 C.2.1 dX10_lay_40 (by decide) ?_
  refine lv_iload C.1 C.2.1 dX10_lay_17 (lv_at hl 0 rfl) ?_
  refine lv_bipush (v := 40) C.1 C.2.1 dX10_lay_19 (by decide) ?_
  refine b_icmp_ge_f C (tgt := 43) dX10_lay_21 (by decide) (by decide) ?_
  refine lv_aload_n C.1 C.2.1 dX10_lay_24 rfl (lv_at hl 1 rfl) ?_
  refine r_get C w 0 rfl rfl 2 (by decide) fl_RX10_18 (v := .ref a3) rfl dX10_lay_25 ?_
  refine lv_iload_n C.1 C.2.1 dX10_lay_28 rfl (lv_at hl 2 rfl) ?_
  refine lv_bipush (v := 40) C.1 C.2.1 dX10_lay_29 (by decide) ?_
  refine r_imul C (v := 40) dX10_lay_31 (by decide) ?_
  refine lv_iload C.1 C.2.1 dX10_lay_32 (lv_at hl 0 rfl) ?_
  refine r_iadd C (v := 74) dX10_lay_34 (by decide) ?_
  refine lv_lconst (v := 0) C.1 C.2.1 dX10_lay_35 (by decide) ?_
  refine r_last C w 3 rfl (vinD (by decide)) (vp_updL (vp_updL (vp_updL (vp_updL (vp_updL (vp_updL (vp_updL (vp_updL (vp_updL (vp_updL (vp_updL (vp_updL (vp_updL (vp_updL (vp_updL (vp_updL (vp_updL (vp_updL (vp_updL (vp_updL (vp_updL (vp_updL (vp_updL (vp_updL (vp_updL (vp_updL (vp_updL (vp_updL (vp_updL (vp_updL (vp_updL (vp_updL (vp_updL (vp_updL (vp_updL (fun _ => 0) 40 0) 41 0) 42 0) 43 0) 44 0) 45 0) 46 0) 47 0) 48 0) 49 0) 50 0) 51 0) 52 0) 53 0) 54 0) 55 0) 56 0) 57 0) 58 0) 59 0) 60 0) 61 0) 62 0) 63 0) 64 0) 65 0) 66 0) 67 0) 68 0) 69 0) 70 0) 71 0) 72 0) 73 0) 74 0) rfl [(a0, .inr (10, [.ref a1, .ref a2, .ref a3])), (a1, .inl (cy 1, 4, .inl (upd (upd (upd (upd (upd (fun _ => 0) 0 (-1)) 1 (-1)) 2 (-1)) 3 (-1)) 1 x0))), (a2, .inl (cy 1, 4, .inl (upd (fun _ => 0) 1 x1))), (a3, .inl (cy 2, 160, .inr (.inl (vp_updL (vp_updL (vp_updL (vp_updL (vp_updL (vp_updL (vp_updL (vp_updL (vp_updL (vp_updL (vp_updL (vp_updL (vp_updL (vp_updL (vp_updL (vp_updL (vp_updL (vp_updL (vp_updL (vp_updL (vp_updL (vp_updL (vp_updL (vp_updL (vp_updL (vp_updL (vp_updL (vp_updL (vp_updL (vp_updL (vp_updL (vp_updL (vp_updL (vp_updL (vp_updL (fun _ => 0) 40 0) 41 0) 42 0) 43 0) 44 0) 45 0) 46 0) 47 0) 48 0) 49 0) 50 0) 51 0) 52 0) 53 0) 54 0) 55 0) 56 0) 57 0) 58 0) 59 0) 60 0) 61 0) 62 0) 63 0) 64 0) 65 0) 66 0) 67 0) 68 0) 69 0) 70 0) 71 0) 72 0) 73 0) 74 0))))] rfl dX10_lay_36 (fun H locs w => ?_)
  refine lv_iinc (v := 35) (lv' := [(4, .int 35), (0, .ref a0), (1, .int 1), (2, .int x0), (3, .int x1)]) C.1 C.2.1 dX10_lay_37 hl (k := 0) rfl (by decide) (by decide) rfl (fun ls hl => ?_)
  refine lv_goto (tgt := 17) C.1 C.2.1 dX10_lay_40 (by decide) ?_
  refine lv_iload C.1 C.2.1 dX10_lay_17 (lv_at hl 0 rfl) ?_
  refine lv_bipush (v := 40) C.1 C.2.1 dX10_lay_19 (by decide) ?_
  refine b_icmp_ge_f C (tgt := 43) dX10_lay_21 (by decide) (by decide) ?_
  refine lv_aload_n C.1 C.2.1 dX10_lay_24 rfl (lv_at hl 1 rfl) ?_
  refine r_get C w 0 rfl rfl 2 (by decide) fl_RX10_18 (v := .ref a3) rfl dX10_lay_25 ?_
  refine lv_iload_n C.1 C.2.1 dX10_lay_28 rfl (lv_at hl 2 rfl) ?_
  refine lv_bipush (v := 40) C.1 C.2.1 dX10_lay_29 (by decide) ?_
  refine r_imul C (v := 40) dX10_lay_31 (by decide) ?_
  refine lv_iload C.1 C.2.1 dX10_lay_32 (lv_at hl 0 rfl) ?_
  refine r_iadd C (v := 75) dX10_lay_34 (by decide) ?_
  refine lv_lconst (v := 0) C.1 C.2.1 dX10_lay_35 (by decide) ?_
  refine r_last C w 3 rfl (vinD (by decide)) (vp_updL (vp_updL (vp_updL (vp_updL (vp_updL (vp_updL (vp_updL (vp_updL (vp_updL (vp_updL (vp_updL (vp_updL (vp_updL (vp_updL (vp_updL (vp_updL (vp_updL (vp_updL (vp_updL (vp_updL (vp_updL (vp_updL (vp_updL (vp_updL (vp_updL (vp_updL (vp_updL (vp_updL (vp_updL (vp_updL (vp_updL (vp_updL (vp_updL (vp_updL (vp_updL (vp_updL (fun _ => 0) 40 0) 41 0) 42 0) 43 0) 44 0) 45 0) 46 0) 47 0) 48 0) 49 0) 50 0) 51 0) 52 0) 53 0) 54 0) 55 0) 56 0) 57 0) 58 0) 59 0) 60 0) 61 0) 62 0) 63 0) 64 0) 65 0) 66 0) 67 0) 68 0) 69 0) 70 0) 71 0) 72 0) 73 0) 74 0) 75 0) rfl [(a0, .inr (10, [.ref a1, .ref a2, .ref a3])), (a1, .inl (cy 1, 4, .inl (upd (upd (upd (upd (upd (fun _ => 0) 0 (-1)) 1 (-1)) 2 (-1)) 3 (-1)) 1 x0))), (a2, .inl (cy 1, 4, .inl (upd (fun _ => 0) 1 x1))), (a3, .inl (cy 2, 160, .inr (.inl (vp_updL (vp_updL (vp_updL (vp_updL (vp_updL (vp_updL (vp_updL (vp_updL (vp_updL (vp_updL (vp_updL (vp_updL (vp_updL (vp_updL (vp_updL (vp_updL (vp_updL (vp_updL (vp_updL (vp_updL (vp_updL (vp_updL (vp_updL (vp_updL (vp_updL (vp_updL (vp_updL (vp_updL (vp_updL (vp_updL (vp_updL (vp_updL (vp_updL (vp_updL (vp_updL (vp_updL (fun _ => 0) 40 0) 41 0) 42 0) 43 0) 44 0) 45 0) 46 0) 47 0) 48 0) 49 0) 50 0) 51 0) 52 0) 53 0) 54 0) 55 0) 56 0) 57 0) 58 0) 59 0) 60 0) 61 0) 62 0) 63 0) 64 0) 65 0) 66 0) 67 0) 68 0) 69 0) 70 0) 71 0) 72 0) 73 0) 74 0) 75 0))))] rfl dX10_lay_36 (fun H locs w => ?_)
  refine lv_iinc (v := 36) (lv' := [(4, .int 36), (0, .ref a0), (1, .int 1), (2, .int x0), (3, .int x1)]) C.1 C.2.1 dX10_lay_37 hl (k := 0) rfl (by decide) (by decide) rfl (fun ls hl => ?_)
  refine lv_goto (tgt := 17) C.1 C.2.1 dX10_lay_40 (by decide) ?_
  refine lv_iload C.1 C.2.1 dX10_lay_17 (lv_at hl 0 rfl) ?_
  refine lv_bipush (v := 40) C.1 C.2.1 dX10_lay_19 (by decide) ?_
  refine b_icmp_ge_f C (tgt := 43) dX10_lay_21 (by decide) (by decide) ?_
  refine lv_aload_n C.1 C.2.1 dX10_lay_24 rfl (lv_at hl 1 rfl) ?_
  refine r_get C w 0 rfl rfl 2 (by decide) fl_RX10_18 (v := .ref a3) rfl dX10_lay_25 ?_
  refine lv_iload_n C.1 C.2.1 dX10_lay_28 rfl (lv_at hl 2 rfl) ?_
  refine lv_bipush (v := 40) C.1 C.2.1 dX10_lay_29 (by decide) ?_
  refine r_imul C (v := 40) dX10_lay_31 (by decide) ?_
  refine lv_iload C.1 C.2.1 dX10_lay_32 (lv_at hl 0 rfl) ?_
  refine r_iadd C (v := 76) dX10_lay_34 (by decide) ?_
  refine lv_lconst (v := 0) C.1 C.2.1 dX10_lay_35 (by decide) ?_
  refine r_last C w 3 rfl (vinD (by decide)) (vp_updL (vp_updL (vp_updL (vp_updL (vp_updL (vp_updL (vp_updL (vp_updL (vp_updL (vp_updL (vp_updL (vp_updL (vp_updL (vp_updL (vp_updL (vp_updL (vp_updL (vp_updL (vp_updL (vp_updL (vp_updL (vp_updL (vp_updL (vp_updL (vp_updL (vp_updL (vp_updL (vp_updL (vp_updL (vp_updL (vp_updL (vp_updL (vp_updL (vp_updL (vp_updL (vp_updL (vp_updL (fun _ => 0) 40 0) 41 0) 42 0) 43 0) 44 0) 45 0) 46 0) 47 0) 48 0) 49 0) 50 0) 51 0) 52 0) 53 0) 54 0) 55 0) 56 0) 57 0) 58 0) 59 0) 60 0) 61 0) 62 0) 63 0) 64 0) 65 0) 66 0) 67 0) 68 0) 69 0) 70 0) 71 0) 72 0) 73 0) 74 0) 75 0) 76 0) rfl [(a0, .inr (10, [.ref a1, .ref a2, .ref a3])), (a1, .inl (cy 1, 4, .inl (upd (upd (upd (upd (upd (fun _ => 0) 0 (-1)) 1 (-1)) 2 (-1)) 3 (-1)) 1 x0))), (a2, .inl (cy 1, 4, .inl (upd (fun _ => 0) 1 x1))), (a3, .inl (cy 2, 160, .inr (.inl (vp_updL (vp_updL (vp_updL (vp_updL (vp_updL (vp_updL (vp_updL (vp_updL (vp_updL (vp_updL (vp_updL (vp_updL (vp_updL (vp_updL (vp_updL (vp_updL (vp_updL (vp_updL (vp_updL (vp_updL (vp_updL (vp_updL (vp_updL (vp_updL (vp_updL (vp_updL (vp_updL (vp_updL (vp_updL (vp_updL (vp_updL (vp_updL (vp_updL (vp_updL (vp_updL (vp_updL (vp_updL (fun _ => 0) 40 0) 41 0) 42 0) 43 0) 44 0) 45 0) 46 0) 47 0) 48 0) 49 0) 50 0) 51 0) 52 0) 53 0) 54 0) 55 0) 56 0) 57 0) 58 0) 59 0) 60 0) 61 0) 62 0) 63 0) 64 0) 65 0) 66 0) 67 0) 68 0) 69 0) 70 0) 71 0) 72 0) 73 0) 74 0) 75 0) 76 0))))] rfl dX10_lay_36 (fun H locs w => ?_)
  refine lv_iinc (v := 37) (lv' := [(4, .int 37), (0, .ref a0), (1, .int 1), (2, .int x0), (3, .int x1)]) C.1 C.2.1 dX10_lay_37 hl (k := 0) rfl (by decide) (by decide) rfl (fun ls hl => ?_)
  refine lv_goto (tgt := 17) C.1 C.2.1 dX10_lay_40 (by decide) ?_
  refine lv_iload C.1 C.2.1 dX10_lay_17 (lv_at hl 0 rfl) ?_
  refine lv_bipush (v := 40) C.1 C.2.1 dX10_lay_19 (by decide) ?_
  refine b_icmp_ge_f C (tgt := 43) dX10_lay_21 (by decide) (by decide) ?_
  refine lv_aload_n C.1 C.2.1 dX10_lay_24 rfl (lv_at hl 1 rfl) ?_
  refine r_get C w 0 rfl rfl 2 (by decide) fl_RX10_18 (v := .ref a3) rfl dX10_lay_25 ?_
  refine lv_iload_n C.1 C.2.1 dX10_lay_28 rfl (lv_at hl 2 rfl) ?_
  refine lv_bipush (v := 40) C.1 C.2.1 dX10_lay_29 (by decide) ?_
  refine r_imul C (v := 40) dX10_lay_31 (by decide) ?_
  refine lv_iload C.1 C.2.1 dX10_lay_32 (lv_at hl 0 rfl) ?_
  refine r_iadd C (v := 77) dX10_lay_34 (by decide) ?_
  refine lv_lconst (v := 0) C.1 C.2.1 dX10_lay_35 (by decide) ?_
  refine r_last C w 3 rfl (vinD (by decide)) (vp_updL (vp_updL (vp_updL (vp_updL (vp_updL (vp_updL (vp_updL (vp_updL (vp_updL (vp_updL (vp_updL (vp_updL (vp_updL (vp_updL (vp_updL (vp_updL (vp_updL (vp_updL (vp_updL (vp_updL (vp_updL (vp_updL (vp_updL (vp_updL (vp_updL (vp_updL (vp_updL (vp_updL (vp_updL (vp_updL (vp_updL (vp_updL (vp_updL (vp_updL (vp_updL (vp_updL (vp_updL (vp_updL (fun _ => 0) 40 0) 41 0) 42 0) 43 0) 44 0) 45 0) 46 0) 47 0) 48 0) 49 0) 50 0) 51 0) 52 0) 53 0) 54 0) 55 0) 56 0) 57 0) 58 0) 59 0) 60 0) 61 0) 62 0) 63 0) 64 0) 65 0) 66 0) 67 0) 68 0) 69 0) 70 0) 71 0) 72 0) 73 0) 74 0) 75 0) 76 0) 77 0) rfl [(a0, .inr (10, [.ref a1, .ref a2, .ref a3])), (a1, .inl (cy 1, 4, .inl (upd (upd (upd (upd (upd (fun _ => 0) 0 (-1)) 1 (-1)) 2 (-1)) 3 (-1)) 1 x0))), (a2, .inl (cy 1, 4, .inl (upd (fun _ => 0) 1 x1))), (a3, .inl (cy 2, 160, .inr (.inl (vp_updL (vp_updL (vp_updL (vp_updL (vp_updL (vp_updL (vp_updL (vp_updL (vp_updL (vp_updL (vp_updL (vp_updL (vp_updL (vp_updL (vp_updL (vp_updL (vp_updL (vp_updL (vp_updL (vp_updL (vp_updL (vp_updL (vp_updL (vp_updL (vp_updL (vp_updL (vp_updL (vp_updL (vp_updL (vp_updL (vp_updL (vp_updL (vp_updL (vp_updL (vp_updL (vp_updL (vp_updL (vp_updL (fun _ => 0) 40 0) 41 0) 42 0) 43 0) 44 0) 45 0) 46 0) 47 0) 48 0) 49 0) 50 0) 51 0) 52 0) 53 0) 54 0) 55 0) 56 0) 57 0) 58 0) 59 0) 60 0) 61 0) 62 0) 63 0) 64 0) 65 0) 66 0) 67 0) 68 0) 69 0) 70 0) 71 0) 72 0) 73 0) 74 0) 75 0) 76 0) 77 0))))] rfl dX10_lay_36 (fun H locs w => ?_)
  refine lv_iinc (v := 38) (lv' := [(4, .int 38), (0, .ref a0), (1, .int 1), (2, .int x0), (3, .int x1)]) C.1 C.2.1 dX10_lay_37 hl (k := 0) rfl (by decide) (by decide) rfl (fun ls hl => ?_)
  refine lv_goto (tgt := 17) C.1 C.2.1 dX10_lay_40 (by decide) ?_
  refine lv_iload C.1 C.2.1 dX10_lay_17 (lv_at hl 0 rfl) ?_
  refine lv_bipush (v := 40) C.1 C.2.1 dX10_lay_19 (by decide) ?_
  refine b_icmp_ge_f C (tgt := 43) dX10_lay_21 (by decide) (by decide) ?_
  refine lv_aload_n C.1 C.2.1 dX10_lay_24 rfl (lv_at hl 1 rfl) ?_
  refine r_get C w 0 rfl rfl 2 (by decide) fl_RX10_18 (v := .ref a3) rfl dX10_lay_25 ?_
  refine lv_iload_n C.1 C.2.1 dX10_lay_28 rfl (lv_at hl 2 rfl) ?_
  refine lv_bipush (v := 40) C.1 C.2.1 dX10_lay_29 (by decide) ?_
  refine r_imul C (v := 40) dX10_lay_31 (by decide) ?_
  refine lv_iload C.1 C.2.1 dX10_lay_32 (lv_at hl 0 rfl) ?_
  refine r_iadd C (v := 78) dX10_lay_34 (by decide) ?_
  refine lv_lconst (v := 0) C.1 C.2.1 dX10_lay_35 (by decide) ?_
  refine r_last C w 3 rfl (vinD (by decide)) (vp_updL (vp_updL (vp_updL (vp_updL (vp_updL (vp_updL (vp_updL (vp_updL (vp_updL (vp_updL (vp_updL (vp_updL (vp_updL (vp_updL (vp_updL (vp_updL (vp_updL (vp_updL (vp_updL (vp_updL (vp_updL (vp_updL (vp_updL (vp_updL (vp_updL (vp_updL (vp_updL (vp_updL (vp_updL (vp_updL (vp_updL (vp_updL (vp_updL (vp_updL (vp_updL (vp_updL (vp_updL (vp_updL (vp_updL (fun _ => 0) 40 0) 41 0) 42 0) 43 0) 44 0) 45 0) 46 0) 47 0) 48 0) 49 0) 50 0) 51 0) 52 0) 53 0) 54 0) 55 0) 56 0) 57 0) 58 0) 59 0) 60 0) 61 0) 62 0) 63 0) 64 0) 65 0) 66 0) 67 0) 68 0) 69 0) 70 0) 71 0) 72 0) 73 0) 74 0) 75 0) 76 0) 77 0) 78 0) rfl [(a0, .inr (10, [.ref a1, .ref a2, .ref a3])), (a1, .inl (cy 1, 4, .inl (upd (upd (upd (upd (upd (fun _ => 0) 0 (-1)) 1 (-1)) 2 (-1)) 3 (-1)) 1 x0))), (a2, .inl (cy 1, 4, .inl (upd (fun _ => 0) 1 x1))), (a3, .inl (cy 2, 160, .inr (.inl (vp_updL (vp_updL (vp_updL (vp_updL (vp_updL (vp_updL (vp_updL (vp_updL (vp_updL (vp_updL (vp_updL (vp_updL (vp_updL (vp_updL (vp_updL (vp_updL (vp_updL (vp_updL (vp_updL (vp_updL (vp_updL (vp_updL (vp_updL (vp_updL (vp_updL (vp_updL (vp_updL (vp_updL (vp_updL (vp_updL (vp_updL (vp_updL (vp_updL (vp_updL (vp_updL (vp_updL (vp_updL (vp_updL (vp_updL (fun _ => 0) 40 0) 41 0) 42 0) 43 0) 44 0) 45 0) 46 0) 47 0) 48 0) 49 0) 50 0) 51 0) 52 0) 53 0) 54 0) 55 0) 56 0) 57 0) 58 0) 59 0) 60 0) 61 0) 62 0) 63 0) 64 0) 65 0) 66 0) 67 0) 68 0) 69 0) 70 0) 71 0) 72 0) 73 0) 74 0) 75 0) 76 0) 77 0) 78 0))))] rfl dX10_lay_36 (fun H locs w => ?_)
  refine lv_iinc (v := 39) (lv' := [(4, .int 39), (0, .ref a0), (1, .int 1), (2, .int x0), (3, .int x1)]) C.1 C.2.1 dX10_lay_37 hl (k := 0) rfl (by decide) (by decide) rfl (fun ls hl => ?_)
  refine lv_goto (tgt := 17) C.1 C.2.1 dX10_lay_40 (by decide) ?_
  refine lv_iload C.1 C.2.1 dX10_lay_17 (lv_at hl 0 rfl) ?_
  refine lv_bipush (v := 40) C.1 C.2.1 dX10_lay_19 (by decide) ?_
  refine b_icmp_ge_f C (tgt := 43) dX10_lay_21 (by decide) (by decide) ?_
  refine lv_aload_n C.1 C.2.1 dX10_lay_24 rfl (lv_at hl 1 rfl) ?_
  refine r_get C w 0 rfl rfl 2 (by decide) fl_RX10_18 (v := .ref a3) rfl dX10_lay_25 ?_
  refine lv_iload_n C.1 C.2.1 dX10_lay_28 rfl (lv_at hl 2 rfl) ?_
  refine lv_bipush (v := 40) C.1 C.2.1 dX10_lay_29 (by decide) ?_
  refine r_imul C (v := 40) dX10_lay_31 (by decide) ?_
  refine lv_iload C.1 C.2.1 dX10_lay_32 (lv_at hl 0 rfl) ?_
  refine r_iadd C (v := 79) dX10_lay_34 (by decide) ?_
  refine lv_lconst (v := 0) C.1 C.2.1 dX10_lay_35 (by decide) ?_
  refine r_last C w 3 rfl (vinD (by decide)) (vp_updL (vp_updL (vp_updL (vp_updL (vp_updL (vp_updL (vp_updL (vp_updL (vp_updL (vp_updL (vp_updL (vp_updL (vp_updL (vp_updL (vp_updL (vp_updL (vp_updL (vp_updL (vp_updL (vp_updL (vp_updL (vp_updL (vp_updL (vp_updL (vp_updL (vp_updL (vp_updL (vp_updL (vp_updL (vp_updL (vp_updL (vp_updL (vp_updL (vp_updL (vp_updL (vp_updL (vp_updL (vp_updL (vp_updL (vp_updL (fun _ => 0) 40 0) 41 0) 42 0) 43 0) 44 0) 45 0) 46 0) 47 0) 48 0) 49 0) 50 0) 51 0) 52 0) 53 0) 54 0) 55 0) 56 0) 57 0) 58 0) 59 0) 60 0) 61 0) 62 0) 63 0) 64 0) 65 0) 66 0) 67 0) 68 0) 69 0) 70 0) 71 0) 72 0) 73 0) 74 0) 75 0) 76 0) 77 0) 78 0) 79 0) rfl [(a0, .inr (10, [.ref a1, .ref a2, .ref a3])), (a1, .inl (cy 1, 4, .inl (upd (upd (upd (upd (upd (fun _ => 0) 0 (-1)) 1 (-1)) 2 (-1)) 3 (-1)) 1 x0))), (a2, .inl (cy 1, 4, .inl (upd (fun _ => 0) 1 x1))), (a3, .inl (cy 2, 160, .inr (.inl (vp_updL (vp_updL (vp_updL (vp_updL (vp_updL (vp_updL (vp_updL (vp_updL (vp_updL (vp_updL (vp_updL (vp_updL (vp_updL (vp_updL (vp_updL (vp_updL (vp_updL (vp_updL (vp_updL (vp_updL (vp_updL (vp_updL (vp_updL (vp_updL (vp_updL (vp_updL (vp_updL (vp_updL (vp_updL (vp_updL (vp_updL (vp_updL (vp_updL (vp_updL (vp_updL (vp_updL (vp_updL (vp_updL (vp_updL (vp_updL (fun _ => 0) 40 0) 41 0) 42 0) 43 0) 44 0) 45 0) 46 0) 47 0) 48 0) 49 0) 50 0) 51 0) 52 0) 53 0) 54 0) 55 0) 56 0) 57 0) 58 0) 59 0) 60 0) 61 0) 62 0) 63 0) 64 0) 65 0) 66 0) 67 0) 68 0) 69 0) 70 0) 71 0) 72 0) 73 0) 74 0) 75 0) 76 0) 77 0) 78 0) 79 0))))] rfl dX10_lay_36 (fun H locs w => ?_)
  refine lv_iinc (v := 40) (lv' := [(4, .int 40), (0, .ref a0), (1, .int 1), (2, .int x0), (3, .int x1)]) C.1 C.2.1 dX10_lay_37 hl (k := 0) rfl (by decide) (by decide) rfl (fun ls hl => ?_)
  refine lv_goto (tgt := 17) C.1 C.2.1 dX10_lay_40 (by decide) ?_
  refine lv_iload C.1 C.2.1 dX10_lay_17 (lv_at hl 0 rfl) ?_
  refine lv_bipush (v := 40) C.1 C.2.1 dX10_lay_19 (by decide) ?_
  refine b_icmp_ge_t C (tgt := 43) dX10_lay_21 (by decide) (by decide) ?_
  exact r_vret C w hlocks () hr rfl trivial [0, 1, 2, 3] rfl rfl ⟨Nat.le_of_ble_eq_true rfl, Nat.le_of_ble_eq_true rfl⟩ dX10_lay_43
set_option maxRecDepth 100000 in
set_option maxHeartbeats 4000000 in
theorem c_X11_tray_8 (l : Launch) (D : va_G) (cy : Nat → ClassId) (a0 a1 a2 a3 a4 a5 a6 a8 a9 a10 : Nat) (x1 : Int32) (x2 : Int32) (k0 : ¬ x1 < 0) (k1 : ¬ 4 ≤ x1) (k2 : ¬ x2 < 0) (k3 : x2 ≤ 40) : Ct l D cy yX11_tray cX11_tray 4 none 1 24 0 0 [(a0, .inr (11, [.ref a1, .int 0, .int 0, .int (-1), .ref a2, .ref a3, .ref a4, .ref a5, .ref a6, .null])), (a5, .inr (10, [.ref a8, .ref a9, .ref a10])), (a8, .inl (cy 1, 4, .inl (upd (upd (upd (upd (fun _ => 0) 0 (-1)) 1 (-1)) 2 (-1)) 3 (-1)))), (a9, .inl (cy 1, 4, .inl (fun _ => 0))), (a10, .inl (cy 2, 160, .inr (.inl (fun _ => 0))))] [.ref a0, .int 1, .int x1, .int x2] (fun u : Unit => none) (fun _ => True) (fun u : Unit => [(a0, .inr (11, [.ref a1, .int 0, .int 0, .int (-1), .ref a2, .ref a3, .ref a4, .ref a5, .ref a6, .null])), (a5, .inr (10, [.ref a8, .ref a9, .ref a10])), (a8, .inl (cy 1, 4, .inl (upd (upd (upd (upd (upd (fun _ => 0) 0 (-1)) 1 (-1)) 2 (-1)) 3 (-1)) 1 x1))), (a9, .inl (cy 1, 4, .inl (upd (fun _ => 0) 1 x2))), (a10, .inl (cy 2, 160, .inr (.inl (vp_updL (vp_updL (vp_updL (vp_updL (vp_updL (vp_updL (vp_updL (vp_updL (vp_updL (vp_updL (vp_updL (vp_updL (vp_updL (vp_updL (vp_updL (vp_updL (vp_updL (vp_updL (vp_updL (vp_updL (vp_updL (vp_updL (vp_updL (vp_updL (vp_updL (vp_updL (vp_updL (vp_updL (vp_updL (vp_updL (vp_updL (vp_updL (vp_updL (vp_updL (vp_updL (vp_updL (vp_updL (vp_updL (vp_updL (vp_updL (fun _ => 0) 40 0) 41 0) 42 0) 43 0) 44 0) 45 0) 46 0) 47 0) 48 0) 49 0) 50 0) 51 0) 52 0) 53 0) 54 0) 55 0) 56 0) 57 0) 58 0) 59 0) 60 0) 61 0) 62 0) 63 0) 64 0) 65 0) 66 0) 67 0) 68 0) 69 0) 70 0) 71 0) 72 0) 73 0) 74 0) 75 0) 76 0) 77 0) 78 0) 79 0))))]) := by
  refine Ct.of (by decide +kernel) (Nat.le_of_ble_eq_true rfl) ?_
  intro p e s m args below meth c A ls C hr hlocks hml hnm w hl
  have hl : lv_has ls 4 [(0, .ref a0), (1, .int 1), (2, .int x1), (3, .int x2)] := hl
  refine lv_aload_n C.1 C.2.1 dX11_tray_0 rfl (lv_at hl 0 rfl) ?_
  refine lv_iload_n C.1 C.2.1 dX11_tray_1 rfl (lv_at hl 1 rfl) ?_
  refine r_callV C w fv_RX11_317 (c_X11_checkTray_6 l D cy a0 a1 a2 a3 a4 a5 a6) (hl.1.trans hml.symm) [0] [1, 2, 3, 4] (wr := [(a5, .inr (10, [.ref a8, .ref a9, .ref a10])), (a8, .inl (cy 1, 4, .inl (upd (upd (upd (upd (fun _ => 0) 0 (-1)) 1 (-1)) 2 (-1)) 3 (-1)))), (a9, .inl (cy 1, 4, .inl (fun _ => 0))), (a10, .inl (cy 2, 160, .inr (.inl (fun _ => 0))))]) ⟨rfl, rfl, rfl, rfl, by decide⟩ 0 rfl rfl rfl rfl rfl ⟨Nat.le_of_ble_eq_true rfl, Nat.le_of_ble_eq_true rfl, Nat.le_of_ble_eq_true rfl⟩ 0 0 ⟨rfl, rfl, Nat.le_of_ble_eq_true rfl, Nat.le_of_ble_eq_true rfl⟩ dX11_tray_2 (fun u H locs hp w => ?_)
  have w : Wd D A s.heap [(a5, .inr (10, [.ref a8, .ref a9, .ref a10])), (a8, .inl (cy 1, 4, .inl (upd (upd (upd (upd (fun _ => 0) 0 (-1)) 1 (-1)) 2 (-1)) 3 (-1)))), (a9, .inl (cy 1, 4, .inl (fun _ => 0))), (a10, .inl (cy 2, 160, .inr (.inl (fun _ => 0)))), (a0, .inr (11, [.ref a1, .int 0, .int 0, .int (-1), .ref a2, .ref a3, .ref a4, .ref a5, .ref a6, .null]))] _ _ := w
  refine r_top (g2 := F0 m 5 ls []) rfl ?_
  refine lv_iload_n C.1 C.2.1 dX11_tray_5 rfl (lv_at hl 2 rfl) ?_
  refine b_if_lt_f C (tgt := 24) dX11_tray_6 (by decide) k0 ?_
  refine lv_iload_n C.1 C.2.1 dX11_tray_9 rfl (lv_at hl 2 rfl) ?_
  refine lv_iconst (v := 4) C.1 C.2.1 dX11_tray_10 (by decide) ?_
  refine b_icmp_ge_f C (tgt := 24) dX11_tray_11 (by decide) k1 ?_
  refine lv_iload_n C.1 C.2.1 dX11_tray_14 rfl (lv_at hl 3 rfl) ?_
  refine b_if_lt_f C (tgt := 24) dX11_tray_15 (by decide) k2 ?_
  refine lv_iload_n C.1 C.2.1 dX11_tray_18 rfl (lv_at hl 3 rfl) ?_
  refine lv_bipush (v := 40) C.1 C.2.1 dX11_tray_19 (by decide) ?_
  refine b_icmp_le_t C (tgt := 35) dX11_tray_21 (by decide) k3 ?_
  refine lv_aload_n C.1 C.2.1 dX11_tray_35 rfl (lv_at hl 0 rfl) ?_
  refine r_get C w 4 rfl rfl 7 (by decide) fl_RX11_36 (v := .ref a5) rfl dX11_tray_36 ?_
  refine lv_iload_n C.1 C.2.1 dX11_tray_39 rfl (lv_at hl 1 rfl) ?_
  refine lv_iload_n C.1 C.2.1 dX11_tray_40 rfl (lv_at hl 2 rfl) ?_
  refine lv_iload_n C.1 C.2.1 dX11_tray_41 rfl (lv_at hl 3 rfl) ?_
  refine r_callV C w fv_RX11_322 (c_X10_lay_3 l D cy a5 a8 a9 a10 x1 x2) (hl.1.trans hml.symm) [0, 1, 2, 3] [4] (wr := [(a0, .inr (11, [.ref a1, .int 0, .int 0, .int (-1), .ref a2, .ref a3, .ref a4, .ref a5, .ref a6, .null]))]) ⟨rfl, rfl, rfl, rfl, by decide⟩ 0 rfl rfl rfl rfl rfl ⟨Nat.le_of_ble_eq_true rfl, Nat.le_of_ble_eq_true rfl, Nat.le_of_ble_eq_true rfl⟩ 0 0 ⟨rfl, rfl, Nat.le_of_ble_eq_true rfl, Nat.le_of_ble_eq_true rfl⟩ dX11_tray_42 (fun u H locs hp w => ?_)
  have w : Wd D A s.heap [(a0, .inr (11, [.ref a1, .int 0, .int 0, .int (-1), .ref a2, .ref a3, .ref a4, .ref a5, .ref a6, .null])), (a5, .inr (10, [.ref a8, .ref a9, .ref a10])), (a8, .inl (cy 1, 4, .inl (upd (upd (upd (upd (upd (fun _ => 0) 0 (-1)) 1 (-1)) 2 (-1)) 3 (-1)) 1 x1))), (a9, .inl (cy 1, 4, .inl (upd (fun _ => 0) 1 x2))), (a10, .inl (cy 2, 160, .inr (.inl (vp_updL (vp_updL (vp_updL (vp_updL (vp_updL (vp_updL (vp_updL (vp_updL (vp_updL (vp_updL (vp_updL (vp_updL (vp_updL (vp_updL (vp_updL (vp_updL (vp_updL (vp_updL (vp_updL (vp_updL (vp_updL (vp_updL (vp_updL (vp_updL (vp_updL (vp_updL (vp_updL (vp_updL (vp_updL (vp_updL (vp_updL (vp_updL (vp_updL (vp_updL (vp_updL (vp_updL (vp_updL (vp_updL (vp_updL (vp_updL (fun _ => 0) 40 0) 41 0) 42 0) 43 0) 44 0) 45 0) 46 0) 47 0) 48 0) 49 0) 50 0) 51 0) 52 0) 53 0) 54 0) 55 0) 56 0) 57 0) 58 0) 59 0) 60 0) 61 0) 62 0) 63 0) 64 0) 65 0) 66 0) 67 0) 68 0) 69 0) 70 0) 71 0) 72 0) 73 0) 74 0) 75 0) 76 0) 77 0) 78 0) 79 0))))] _ _ := w
  refine r_top (g2 := F0 m 45 ls []) rfl ?_
  exact r_vret C w hlocks () hr rfl trivial [0, 1, 2, 3, 4] rfl rfl ⟨Nat.le_of_ble_eq_true rfl, Nat.le_of_ble_eq_true rfl⟩ dX11_tray_45
set_option maxRecDepth 100000 in
set_option maxHeartbeats 4000000 in
theorem c_X11_tray_9 (l : Launch) (D : va_G) (cy : Nat → ClassId) (a0 a1 a2 a3 a4 a5 a6 : Nat) (x0 : Int32) (x1 : Int32) (x2 : Int32) (k0 : ¬ x0 < 0) (k1 : x0 < 4) (k2 : ¬ x1 < 0) (k3 : ¬ 4 ≤ x1) (k4 : ¬ x2 < 0) (k5 : ¬ x2 ≤ 40) (hst : l.stackTraces = false) : CtX l D cy yX11_tray cX11_tray 4 none 6 82 1 6 [(a0, .inr (11, [.ref a1, .int 0, .int 0, .int (-1), .ref a2, .ref a3, .ref a4, .ref a5, .ref a6, .null]))] [.ref a0, .int x0, .int x1, .int x2] nIAE := by
  refine CtX.of (by decide +kernel) (Nat.le_of_ble_eq_true rfl) ?_
  intro p e s m args below meth c A ls C hlocks hml htab w hl
  have hl : lv_has ls 4 [(0, .ref a0), (1, .int x0), (2, .int x1), (3, .int x2)] := hl
  refine lv_aload_n C.1 C.2.1 dX11_tray_0 rfl (lv_at hl 0 rfl) ?_
  refine lv_iload_n C.1 C.2.1 dX11_tray_1 rfl (lv_at hl 1 rfl) ?_
  refine r_callV C w fv_RX11_317 (c_X11_checkTray_1 l D cy a0 a1 a2 a3 a4 a5 a6 x0 k0 k1) (hl.1.trans hml.symm) [0] [] (wr := []) ⟨rfl, rfl, rfl, rfl, by decide⟩ 0 rfl rfl rfl rfl rfl ⟨Nat.le_of_ble_eq_true rfl, Nat.le_of_ble_eq_true rfl, Nat.le_of_ble_eq_true rfl⟩ 0 0 ⟨rfl, rfl, Nat.le_of_ble_eq_true rfl, Nat.le_of_ble_eq_true rfl⟩ dX11_tray_2 (fun u H locs hp w => ?_)
  have w : Wd D A s.heap [(a0, .inr (11, [.ref a1, .int 0, .int 0, .int (-1), .ref a2, .ref a3, .ref a4, .ref a5, .ref a6, .null]))] _ _ := w
  refine r_top (g2 := F0 m 5 ls []) rfl ?_
  refine lv_iload_n C.1 C.2.1 dX11_tray_5 rfl (lv_at hl 2 rfl) ?_
  refine b_if_lt_f C (tgt := 24) dX11_tray_6 (by decide) k2 ?_
  refine lv_iload_n C.1 C.2.1 dX11_tray_9 rfl (lv_at hl 2 rfl) ?_
  refine lv_iconst (v := 4) C.1 C.2.1 dX11_tray_10 (by decide) ?_
  refine b_icmp_ge_f C (tgt := 24) dX11_tray_11 (by decide) k3 ?_
  refine lv_iload_n C.1 C.2.1 dX11_tray_14 rfl (lv_at hl 3 rfl) ?_
  refine b_if_lt_f C (tgt := 24) dX11_tray_15 (by decide) k4 ?_
  refine lv_iload_n C.1 C.2.1 dX11_tray_18 rfl (lv_at hl 3 rfl) ?_
  refine lv_bipush (v := 40) C.1 C.2.1 dX11_tray_19 (by decide) ?_
  refine b_icmp_le_f C (tgt := 35) dX11_tray_21 (by decide) k5 ?_
  exact r_throwSW C hst w ft_52_320_56 (hl.1.trans hml.symm) hlocks htab dX11_tray_24 dX11_tray_27 dX11_tray_28 dX11_tray_31 dX11_tray_34 ⟨Nat.le_of_ble_eq_true rfl, Nat.le_of_ble_eq_true rfl, Nat.le_of_ble_eq_true rfl, Nat.le_of_ble_eq_true rfl⟩ ⟨Nat.le_of_ble_eq_true rfl, Nat.le_of_ble_eq_true rfl⟩
theorem dX11_write_0 : decode cX11_write 0 = .ok (.aload_n 0, 1) := by decide +kernel
theorem dX11_write_1 : decode cX11_write 1 = .ok (.iload_n 1, 1) := by decide +kernel
theorem dX11_write_2 : decode cX11_write 2 = .ok (.invokevirtual 295, 3) := by decide +kernel
set_option maxRecDepth 100000 in
set_option maxHeartbeats 4000000 in
theorem c_X11_write_0 (l : Launch) (D : va_G) (cy : Nat → ClassId) (a0 a1 a2 a3 a4 a5 a6 : Nat) (x0 : Int32) (x1 : Int32) (x2 : Int64) (k0 : x0 < 0) (hst : l.stackTraces = false) : CtX l D cy yX11_write cX11_write 5 (some .long) 8 124 1 6 [(a0, .inr (11, [.ref a1, .int 0, .int 0, .int (-1), .ref a2, .ref a3, .ref a4, .ref a5, .ref a6, .null]))] [.ref a0, .int x0, .int x1, .long x2] nNSE := by
  refine CtX.of (by decide +kernel) (Nat.le_of_ble_eq_true rfl) ?_
  intro p e s m args below meth c A ls C hlocks hml htab w hl
  have hl : lv_has ls 5 [(0, .ref a0), (1, .int x0), (2, .int x1), (3, .long x2)] := hl
  refine lv_aload_n C.1 C.2.1 dX11_write_0 rfl (lv_at hl 0 rfl) ?_
  refine lv_iload_n C.1 C.2.1 dX11_write_1 rfl (lv_at hl 1 rfl) ?_
  refine r_thrown C w fv_RX11_295 (c_X11_checkFilled_0 l D cy a0 a1 a2 a3 a4 a5 a6 x0 k0 hst) (hl.1.trans hml.symm) [0] [] (wr := []) ⟨rfl, rfl, rfl, rfl, by decide⟩ 0 rfl rfl rfl rfl rfl ⟨Nat.le_of_ble_eq_true rfl, Nat.le_of_ble_eq_true rfl, Nat.le_of_ble_eq_true rfl⟩ 1 6 ⟨rfl, rfl, Nat.le_of_ble_eq_true rfl, Nat.le_of_ble_eq_true rfl⟩ dX11_write_2 (fun ce q9 H locs w h1 h2 h3 => ?_)
  exact r_pass hlocks htab w h1 h2 h3 ⟨Nat.le_of_ble_eq_true rfl, Nat.le_of_ble_eq_true rfl⟩
set_option maxRecDepth 100000 in
set_option maxHeartbeats 4000000 in
theorem c_X11_write_1 (l : Launch) (D : va_G) (cy : Nat → ClassId) (a0 a1 a2 a3 a4 a5 a6 a8 a9 a10 : Nat) (x1 : Int32) (x2 : Int64) (hst : l.stackTraces = false) : CtX l D cy yX11_write cX11_write 5 (some .long) 7 103 1 6 [(a0, .inr (11, [.ref a1, .int 0, .int 0, .int (-1), .ref a2, .ref a3, .ref a4, .ref a5, .ref a6, .null])), (a5, .inr (10, [.ref a8, .ref a9, .ref a10])), (a8, .inl (cy 1, 4, .inl (upd (upd (upd (upd (fun _ => 0) 0 (-1)) 1 (-1)) 2 (-1)) 3 (-1))))] [.ref a0, .int 1, .int x1, .long x2] nISE := by
  refine CtX.of (by decide +kernel) (Nat.le_of_ble_eq_true rfl) ?_
  intro p e s m args below meth c A ls C hlocks hml htab w hl
  have hl : lv_has ls 5 [(0, .ref a0), (1, .int 1), (2, .int x1), (3, .long x2)] := hl
  refine lv_aload_n C.1 C.2.1 dX11_write_0 rfl (lv_at hl 0 rfl) ?_
  refine lv_iload_n C.1 C.2.1 dX11_write_1 rfl (lv_at hl 1 rfl) ?_
  refine r_thrown C w fv_RX11_295 (c_X11_checkFilled_6 l D cy a0 a1 a2 a3 a4 a5 a6 a8 a9 a10 hst) (hl.1.trans hml.symm) [0, 1, 2] [] (wr := []) ⟨rfl, rfl, rfl, rfl, by decide⟩ 0 rfl rfl rfl rfl rfl ⟨Nat.le_of_ble_eq_true rfl, Nat.le_of_ble_eq_true rfl, Nat.le_of_ble_eq_true rfl⟩ 1 6 ⟨rfl, rfl, Nat.le_of_ble_eq_true rfl, Nat.le_of_ble_eq_true rfl⟩ dX11_write_2 (fun ce q9 H locs w h1 h2 h3 => ?_)
  exact r_pass hlocks htab w h1 h2 h3 ⟨Nat.le_of_ble_eq_true rfl, Nat.le_of_ble_eq_true rfl⟩
set_option maxRecDepth 100000 in
set_option maxHeartbeats 4000000 in
theorem c_X11_write_2 (l : Launch) (D : va_G) (cy : Nat → ClassId) (a0 a1 a2 a3 a4 a5 a6 a8 a9 a10 : Nat) (x1 : Int32) (x2 : Int64) (hst : l.stackTraces = false) : CtX l D cy yX11_write cX11_write 5 (some .long) 7 103 1 6 [(a0, .inr (11, [.ref a1, .int 0, .int 0, .int (-1), .ref a2, .ref a3, .ref a4, .ref a5, .ref a6, .null])), (a5, .inr (10, [.ref a8, .ref a9, .ref a10])), (a8, .inl (cy 1, 4, .inl (upd (upd (upd (upd (fun _ => 0) 0 (-1)) 1 (-1)) 2 (-1)) 3 (-1))))] [.ref a0, .int 2, .int x1, .long x2] nISE := by
  refine CtX.of (by decide +kernel) (Nat.le_of_ble_eq_true rfl) ?_
  intro p e s m args below meth c A ls C hlocks hml htab w hl
  have hl : lv_has ls 5 [(0, .ref a0), (1, .int 2), (2, .int x1), (3, .long x2)] := hl
  refine lv_aload_n C.1 C.2.1 dX11_write_0 rfl (lv_at hl 0 rfl) ?_
  refine lv_iload_n C.1 C.2.1 dX11_write_1 rfl (lv_at hl 1 rfl) ?_
  refine r_thrown C w fv_RX11_295 (c_X11_checkFilled_7 l D cy a0 a1 a2 a3 a4 a5 a6 a8 a9 a10 hst) (hl.1.trans hml.symm) [0, 1, 2] [] (wr := []) ⟨rfl, rfl, rfl, rfl, by decide⟩ 0 rfl rfl rfl rfl rfl ⟨Nat.le_of_ble_eq_true rfl, Nat.le_of_ble_eq_true rfl, Nat.le_of_ble_eq_true rfl⟩ 1 6 ⟨rfl, rfl, Nat.le_of_ble_eq_true rfl, Nat.le_of_ble_eq_true rfl⟩ dX11_write_2 (fun ce q9 H locs w h1 h2 h3 => ?_)
  exact r_pass hlocks htab w h1 h2 h3 ⟨Nat.le_of_ble_eq_true rfl, Nat.le_of_ble_eq_true rfl⟩
set_option maxRecDepth 100000 in
set_option maxHeartbeats 4000000 in
theorem c_X11_write_3 (l : Launch) (D : va_G) (cy : Nat → ClassId) (a0 a1 a2 a3 a4 a5 a6 a8 a9 a10 : Nat) (x1 : Int32) (x2 : Int64) (hst : l.stackTraces = false) : CtX l D cy yX11_write cX11_write 5 (some .long) 7 103 1 6 [(a0, .inr (11, [.ref a1, .int 0, .int 0, .int (-1), .ref a2, .ref a3, .ref a4, .ref a5, .ref a6, .null])), (a5, .inr (10, [.ref a8, .ref a9, .ref a10])), (a8, .inl (cy 1, 4, .inl (upd (upd (upd (upd (fun _ => 0) 0 (-1)) 1 (-1)) 2 (-1)) 3 (-1))))] [.ref a0, .int 3, .int x1, .long x2] nISE := by
  refine CtX.of (by decide +kernel) (Nat.le_of_ble_eq_true rfl) ?_
  intro p e s m args below meth c A ls C hlocks hml htab w hl
  have hl : lv_has ls 5 [(0, .ref a0), (1, .int 3), (2, .int x1), (3, .long x2)] := hl
  refine lv_aload_n C.1 C.2.1 dX11_write_0 rfl (lv_at hl 0 rfl) ?_
  refine lv_iload_n C.1 C.2.1 dX11_write_1 rfl (lv_at hl 1 rfl) ?_
  refine r_thrown C w fv_RX11_295 (c_X11_checkFilled_8 l D cy a0 a1 a2 a3 a4 a5 a6 a8 a9 a10 hst) (hl.1.trans hml.symm) [0, 1, 2] [] (wr := []) ⟨rfl, rfl, rfl, rfl, by decide⟩ 0 rfl rfl rfl rfl rfl ⟨Nat.le_of_ble_eq_true rfl, Nat.le_of_ble_eq_true rfl, Nat.le_of_ble_eq_true rfl⟩ 1 6 ⟨rfl, rfl, Nat.le_of_ble_eq_true rfl, Nat.le_of_ble_eq_true rfl⟩ dX11_write_2 (fun ce q9 H locs w h1 h2 h3 => ?_)
  exact r_pass hlocks htab w h1 h2 h3 ⟨Nat.le_of_ble_eq_true rfl, Nat.le_of_ble_eq_true rfl⟩
set_option maxRecDepth 100000 in
set_option maxHeartbeats 4000000 in
theorem c_X11_write_4 (l : Launch) (D : va_G) (cy : Nat → ClassId) (a0 a1 a2 a3 a4 a5 a6 a8 a9 a10 : Nat) (x1 : Int32) (x2 : Int64) (hst : l.stackTraces = false) : CtX l D cy yX11_write cX11_write 5 (some .long) 7 103 1 6 [(a0, .inr (11, [.ref a1, .int 0, .int 0, .int (-1), .ref a2, .ref a3, .ref a4, .ref a5, .ref a6, .null])), (a5, .inr (10, [.ref a8, .ref a9, .ref a10])), (a8, .inl (cy 1, 4, .inl (upd (upd (upd (upd (fun _ => 0) 0 (-1)) 1 (-1)) 2 (-1)) 3 (-1))))] [.ref a0, .int 0, .int x1, .long x2] nISE := by
  refine CtX.of (by decide +kernel) (Nat.le_of_ble_eq_true rfl) ?_
  intro p e s m args below meth c A ls C hlocks hml htab w hl
  have hl : lv_has ls 5 [(0, .ref a0), (1, .int 0), (2, .int x1), (3, .long x2)] := hl
  refine lv_aload_n C.1 C.2.1 dX11_write_0 rfl (lv_at hl 0 rfl) ?_
  refine lv_iload_n C.1 C.2.1 dX11_write_1 rfl (lv_at hl 1 rfl) ?_
  refine r_thrown C w fv_RX11_295 (c_X11_checkFilled_9 l D cy a0 a1 a2 a3 a4 a5 a6 a8 a9 a10 hst) (hl.1.trans hml.symm) [0, 1, 2] [] (wr := []) ⟨rfl, rfl, rfl, rfl, by decide⟩ 0 rfl rfl rfl rfl rfl ⟨Nat.le_of_ble_eq_true rfl, Nat.le_of_ble_eq_true rfl, Nat.le_of_ble_eq_true rfl⟩ 1 6 ⟨rfl, rfl, Nat.le_of_ble_eq_true rfl, Nat.le_of_ble_eq_true rfl⟩ dX11_write_2 (fun ce q9 H locs w h1 h2 h3 => ?_)
  exact r_pass hlocks htab w h1 h2 h3 ⟨Nat.le_of_ble_eq_true rfl, Nat.le_of_ble_eq_true rfl⟩
set_option maxRecDepth 100000 in
set_option maxHeartbeats 4000000 in
theorem c_X11_write_5 (l : Launch) (D : va_G) (cy : Nat → ClassId) (a0 a1 a2 a3 a4 a5 a6 : Nat) (x0 : Int32) (x1 : Int32) (x2 : Int64) (k0 : ¬ x0 < 0) (k1 : ¬ x0 < 4) (hst : l.stackTraces = false) : CtX l D cy yX11_write cX11_write 5 (some .long) 8 124 1 6 [(a0, .inr (11, [.ref a1, .int 0, .int 0, .int (-1), .ref a2, .ref a3, .ref a4, .ref a5, .ref a6, .null]))] [.ref a0, .int x0, .int x1, .long x2] nNSE := by
  refine CtX.of (by decide +kernel) (Nat.le_of_ble_eq_true rfl) ?_
  intro p e s m args below meth c A ls C hlocks hml htab w hl
  have hl : lv_has ls 5 [(0, .ref a0), (1, .int x0), (2, .int x1), (3, .long x2)] := hl
  refine lv_aload_n C.1 C.2.1 dX11_write_0 rfl (lv_at hl 0 rfl) ?_
  refine lv_iload_n C.1 C.2.1 dX11_write_1 rfl (lv_at hl 1 rfl) ?_
  refine r_thrown C w fv_RX11_295 (c_X11_checkFilled_1 l D cy a0 a1 a2 a3 a4 a5 a6 x0 k0 k1 hst) (hl.1.trans hml.symm) [0] [] (wr := []) ⟨rfl, rfl, rfl, rfl, by decide⟩ 0 rfl rfl rfl rfl rfl ⟨Nat.le_of_ble_eq_true rfl, Nat.le_of_ble_eq_true rfl, Nat.le_of_ble_eq_true rfl⟩ 1 6 ⟨rfl, rfl, Nat.le_of_ble_eq_true rfl, Nat.le_of_ble_eq_true rfl⟩ dX11_write_2 (fun ce q9 H locs w h1 h2 h3 => ?_)
  exact r_pass hlocks htab w h1 h2 h3 ⟨Nat.le_of_ble_eq_true rfl, Nat.le_of_ble_eq_true rfl⟩
theorem dX11_pour_0 : decode cX11_pour 0 = .ok (.aload_n 0, 1) := by decide +kernel
theorem dX11_pour_1 : decode cX11_pour 1 = .ok (.iload_n 1, 1) := by decide +kernel
theorem dX11_pour_2 : decode cX11_pour 2 = .ok (.invokevirtual 295, 3) := by decide +kernel
set_option maxRecDepth 100000 in
set_option maxHeartbeats 4000000 in
theorem c_X11_pour_0 (l : Launch) (D : va_G) (cy : Nat → ClassId) (a0 a1 a2 a3 a4 a5 a6 : Nat) (x0 : Int32) (k0 : x0 < 0) (hst : l.stackTraces = false) : CtX l D cy yX11_pour cX11_pour 5 (some .int) 8 124 1 6 [(a0, .inr (11, [.ref a1, .int 0, .int 0, .int (-1), .ref a2, .ref a3, .ref a4, .ref a5, .ref a6, .null]))] [.ref a0, .int x0] nNSE := by
  refine CtX.of (by decide +kernel) (Nat.le_of_ble_eq_true rfl) ?_
  intro p e s m args below meth c A ls C hlocks hml htab w hl
  have hl : lv_has ls 5 [(0, .ref a0), (1, .int x0)] := hl
  refine lv_aload_n C.1 C.2.1 dX11_pour_0 rfl (lv_at hl 0 rfl) ?_
  refine lv_iload_n C.1 C.2.1 dX11_pour_1 rfl (lv_at hl 1 rfl) ?_
  refine r_thrown C w fv_RX11_295 (c_X11_checkFilled_0 l D cy a0 a1 a2 a3 a4 a5 a6 x0 k0 hst) (hl.1.trans hml.symm) [0] [] (wr := []) ⟨rfl, rfl, rfl, rfl, by decide⟩ 0 rfl rfl rfl rfl rfl ⟨Nat.le_of_ble_eq_true rfl, Nat.le_of_ble_eq_true rfl, Nat.le_of_ble_eq_true rfl⟩ 1 6 ⟨rfl, rfl, Nat.le_of_ble_eq_true rfl, Nat.le_of_ble_eq_true rfl⟩ dX11_pour_2 (fun ce q9 H locs w h1 h2 h3 => ?_)
  exact r_pass hlocks htab w h1 h2 h3 ⟨Nat.le_of_ble_eq_true rfl, Nat.le_of_ble_eq_true rfl⟩
set_option maxRecDepth 100000 in
set_option maxHeartbeats 4000000 in
theorem c_X11_pour_1 (l : Launch) (D : va_G) (cy : Nat → ClassId) (a0 a1 a2 a3 a4 a5 a6 a8 a9 a10 : Nat) (hst : l.stackTraces = false) : CtX l D cy yX11_pour cX11_pour 5 (some .int) 7 103 1 6 [(a0, .inr (11, [.ref a1, .int 0, .int 0, .int (-1), .ref a2, .ref a3, .ref a4, .ref a5, .ref a6, .null])), (a5, .inr (10, [.ref a8, .ref a9, .ref a10])), (a8, .inl (cy 1, 4, .inl (upd (upd (upd (upd (fun _ => 0) 0 (-1)) 1 (-1)) 2 (-1)) 3 (-1))))] [.ref a0, .int 1] nISE := by
  refine CtX.of (by decide +kernel) (Nat.le_of_ble_eq_true rfl) ?_
  intro p e s m args below meth c A ls C hlocks hml htab w hl
  have hl : lv_has ls 5 [(0, .ref a0), (1, .int 1)] := hl
  refine lv_aload_n C.1 C.2.1 dX11_pour_0 rfl (lv_at hl 0 rfl) ?_
  refine lv_iload_n C.1 C.2.1 dX11_pour_1 rfl (lv_at hl 1 rfl) ?_
  refine r_thrown C w fv_RX11_295 (c_X11_checkFilled_6 l D cy a0 a1 a2 a3 a4 a5 a6 a8 a9 a10 hst) (hl.1.trans hml.symm) [0, 1, 2] [] (wr := []) ⟨rfl, rfl, rfl, rfl, by decide⟩ 0 rfl rfl rfl rfl rfl ⟨Nat.le_of_ble_eq_true rfl, Nat.le_of_ble_eq_true rfl, Nat.le_of_ble_eq_true rfl⟩ 1 6 ⟨rfl, rfl, Nat.le_of_ble_eq_true rfl, Nat.le_of_ble_eq_true rfl⟩ dX11_pour_2 (fun ce q9 H locs w h1 h2 h3 => ?_)
  exact r_pass hlocks htab w h1 h2 h3 ⟨Nat.le_of_ble_eq_true rfl, Nat.le_of_ble_eq_true rfl⟩
set_option maxRecDepth 100000 in
set_option maxHeartbeats 4000000 in
theorem c_X11_pour_2 (l : Launch) (D : va_G) (cy : Nat → ClassId) (a0 a1 a2 a3 a4 a5 a6 a8 a9 a10 : Nat) (hst : l.stackTraces = false) : CtX l D cy yX11_pour cX11_pour 5 (some .int) 7 103 1 6 [(a0, .inr (11, [.ref a1, .int 0, .int 0, .int (-1), .ref a2, .ref a3, .ref a4, .ref a5, .ref a6, .null])), (a5, .inr (10, [.ref a8, .ref a9, .ref a10])), (a8, .inl (cy 1, 4, .inl (upd (upd (upd (upd (fun _ => 0) 0 (-1)) 1 (-1)) 2 (-1)) 3 (-1))))] [.ref a0, .int 2] nISE := by
  refine CtX.of (by decide +kernel) (Nat.le_of_ble_eq_true rfl) ?_
  intro p e s m args below meth c A ls C hlocks hml htab w hl
  have hl : lv_has ls 5 [(0, .ref a0), (1, .int 2)] := hl
  refine lv_aload_n C.1 C.2.1 dX11_pour_0 rfl (lv_at hl 0 rfl) ?_
  refine lv_iload_n C.1 C.2.1 dX11_pour_1 rfl (lv_at hl 1 rfl) ?_
  refine r_thrown C w fv_RX11_295 (c_X11_checkFilled_7 l D cy a0 a1 a2 a3 a4 a5 a6 a8 a9 a10 hst) (hl.1.trans hml.symm) [0, 1, 2] [] (wr := []) ⟨rfl, rfl, rfl, rfl, by decide⟩ 0 rfl rfl rfl rfl rfl ⟨Nat.le_of_ble_eq_true rfl, Nat.le_of_ble_eq_true rfl, Nat.le_of_ble_eq_true rfl⟩ 1 6 ⟨rfl, rfl, Nat.le_of_ble_eq_true rfl, Nat.le_of_ble_eq_true rfl⟩ dX11_pour_2 (fun ce q9 H locs w h1 h2 h3 => ?_)
  exact r_pass hlocks htab w h1 h2 h3 ⟨Nat.le_of_ble_eq_true rfl, Nat.le_of_ble_eq_true rfl⟩
set_option maxRecDepth 100000 in
set_option maxHeartbeats 4000000 in
theorem c_X11_pour_3 (l : Launch) (D : va_G) (cy : Nat → ClassId) (a0 a1 a2 a3 a4 a5 a6 a8 a9 a10 : Nat) (hst : l.stackTraces = false) : CtX l D cy yX11_pour cX11_pour 5 (some .int) 7 103 1 6 [(a0, .inr (11, [.ref a1, .int 0, .int 0, .int (-1), .ref a2, .ref a3, .ref a4, .ref a5, .ref a6, .null])), (a5, .inr (10, [.ref a8, .ref a9, .ref a10])), (a8, .inl (cy 1, 4, .inl (upd (upd (upd (upd (fun _ => 0) 0 (-1)) 1 (-1)) 2 (-1)) 3 (-1))))] [.ref a0, .int 3] nISE := by
  refine CtX.of (by decide +kernel) (Nat.le_of_ble_eq_true rfl) ?_
  intro p e s m args below meth c A ls C hlocks hml htab w hl
  have hl : lv_has ls 5 [(0, .ref a0), (1, .int 3)] := hl
  refine lv_aload_n C.1 C.2.1 dX11_pour_0 rfl (lv_at hl 0 rfl) ?_
  refine lv_iload_n C.1 C.2.1 dX11_pour_1 rfl (lv_at hl 1 rfl) ?_
  refine r_thrown C w fv_RX11_295 (c_X11_checkFilled_8 l D cy a0 a1 a2 a3 a4 a5 a6 a8 a9 a10 hst) (hl.1.trans hml.symm) [0, 1, 2] [] (wr := []) ⟨rfl, rfl, rfl, rfl, by decide⟩ 0 rfl rfl rfl rfl rfl ⟨Nat.le_of_ble_eq_true rfl, Nat.le_of_ble_eq_true rfl, Nat.le_of_ble_eq_true rfl⟩ 1 6 ⟨rfl, rfl, Nat.le_of_ble_eq_true rfl, Nat.le_of_ble_eq_true rfl⟩ dX11_pour_2 (fun ce q9 H locs w h1 h2 h3 => ?_)
  exact r_pass hlocks htab w h1 h2 h3 ⟨Nat.le_of_ble_eq_true rfl, Nat.le_of_ble_eq_true rfl⟩
set_option maxRecDepth 100000 in
set_option maxHeartbeats 4000000 in
theorem c_X11_pour_4 (l : Launch) (D : va_G) (cy : Nat → ClassId) (a0 a1 a2 a3 a4 a5 a6 a8 a9 a10 : Nat) (hst : l.stackTraces = false) : CtX l D cy yX11_pour cX11_pour 5 (some .int) 7 103 1 6 [(a0, .inr (11, [.ref a1, .int 0, .int 0, .int (-1), .ref a2, .ref a3, .ref a4, .ref a5, .ref a6, .null])), (a5, .inr (10, [.ref a8, .ref a9, .ref a10])), (a8, .inl (cy 1, 4, .inl (upd (upd (upd (upd (fun _ => 0) 0 (-1)) 1 (-1)) 2 (-1)) 3 (-1))))] [.ref a0, .int 0] nISE := by
  refine CtX.of (by decide +kernel) (Nat.le_of_ble_eq_true rfl) ?_
  intro p e s m args below meth c A ls C hlocks hml htab w hl
  have hl : lv_has ls 5 [(0, .ref a0), (1, .int 0)] := hl
  refine lv_aload_n C.1 C.2.1 dX11_pour_0 rfl (lv_at hl 0 rfl) ?_
  refine lv_iload_n C.1 C.2.1 dX11_pour_1 rfl (lv_at hl 1 rfl) ?_
  refine r_thrown C w fv_RX11_295 (c_X11_checkFilled_9 l D cy a0 a1 a2 a3 a4 a5 a6 a8 a9 a10 hst) (hl.1.trans hml.symm) [0, 1, 2] [] (wr := []) ⟨rfl, rfl, rfl, rfl, by decide⟩ 0 rfl rfl rfl rfl rfl ⟨Nat.le_of_ble_eq_true rfl, Nat.le_of_ble_eq_true rfl, Nat.le_of_ble_eq_true rfl⟩ 1 6 ⟨rfl, rfl, Nat.le_of_ble_eq_true rfl, Nat.le_of_ble_eq_true rfl⟩ dX11_pour_2 (fun ce q9 H locs w h1 h2 h3 => ?_)
  exact r_pass hlocks htab w h1 h2 h3 ⟨Nat.le_of_ble_eq_true rfl, Nat.le_of_ble_eq_true rfl⟩
set_option maxRecDepth 100000 in
set_option maxHeartbeats 4000000 in
theorem c_X11_pour_5 (l : Launch) (D : va_G) (cy : Nat → ClassId) (a0 a1 a2 a3 a4 a5 a6 : Nat) (x0 : Int32) (k0 : ¬ x0 < 0) (k1 : ¬ x0 < 4) (hst : l.stackTraces = false) : CtX l D cy yX11_pour cX11_pour 5 (some .int) 8 124 1 6 [(a0, .inr (11, [.ref a1, .int 0, .int 0, .int (-1), .ref a2, .ref a3, .ref a4, .ref a5, .ref a6, .null]))] [.ref a0, .int x0] nNSE := by
  refine CtX.of (by decide +kernel) (Nat.le_of_ble_eq_true rfl) ?_
  intro p e s m args below meth c A ls C hlocks hml htab w hl
  have hl : lv_has ls 5 [(0, .ref a0), (1, .int x0)] := hl
  refine lv_aload_n C.1 C.2.1 dX11_pour_0 rfl (lv_at hl 0 rfl) ?_
  refine lv_iload_n C.1 C.2.1 dX11_pour_1 rfl (lv_at hl 1 rfl) ?_
  refine r_thrown C w fv_RX11_295 (c_X11_checkFilled_1 l D cy a0 a1 a2 a3 a4 a5 a6 x0 k0 k1 hst) (hl.1.trans hml.symm) [0] [] (wr := []) ⟨rfl, rfl, rfl, rfl, by decide⟩ 0 rfl rfl rfl rfl rfl ⟨Nat.le_of_ble_eq_true rfl, Nat.le_of_ble_eq_true rfl, Nat.le_of_ble_eq_true rfl⟩ 1 6 ⟨rfl, rfl, Nat.le_of_ble_eq_true rfl, Nat.le_of_ble_eq_true rfl⟩ dX11_pour_2 (fun ce q9 H locs w h1 h2 h3 => ?_)
  exact r_pass hlocks htab w h1 h2 h3 ⟨Nat.le_of_ble_eq_true rfl, Nat.le_of_ble_eq_true rfl⟩
