theorem dX11_told_0 : decode cX11_told 0 = .ok (.aload_n 0, 1) := by decide +kernel
theorem dX11_told_1 : decode cX11_told 1 = .ok (.iload_n 1, 1) := by decide +kernel
theorem dX11_told_2 : decode cX11_told 2 = .ok (.invokevirtual 128, 3) := by decide +kernel
theorem dX11_checkSpeaker_0 : decode cX11_checkSpeaker 0 = .ok (.iload_n 1, 1) := by decide +kernel
theorem dX11_checkSpeaker_1 : decode cX11_checkSpeaker 1 = .ok (.ifCond .lt 14, 3) := by decide +kernel
theorem fa5_382 : ∀ w ∈ (nsAtoms RX11 382 nNSE).filter vx_no, w ∈ lw_tbl ∧ (isCas w = true ∨ goodWord w = true) := by decide +kernel
theorem fa6_378_382 : ∀ w ∈ Cond.classLink RX11 378 nNSE :: Cond.initialized nNSE :: (nsAtoms RX11 382 nNSE).filter vx_no, vx_ot w = true := by decide +kernel
theorem ft_378_383_382 : FTn RX11 378 383 382 nNSE "no such speaker" := ftn_of (by decide +kernel) (by decide +kernel) (by decide +kernel) (by decide +kernel) fa5_382 fa6_378_382
theorem dX11_checkSpeaker_15 : decode cX11_checkSpeaker 15 = .ok (.new 378, 3) := by decide +kernel
theorem dX11_checkSpeaker_18 : decode cX11_checkSpeaker 18 = .ok (.dup, 1) := by decide +kernel
theorem dX11_checkSpeaker_19 : decode cX11_checkSpeaker 19 = .ok (.ldc_w 383, 3) := by decide +kernel
theorem dX11_checkSpeaker_22 : decode cX11_checkSpeaker 22 = .ok (.invokespecial 382, 3) := by decide +kernel
theorem dX11_checkSpeaker_25 : decode cX11_checkSpeaker 25 = .ok (.athrow, 1) := by decide +kernel
set_option maxRecDepth 100000 in
set_option maxHeartbeats 4000000 in
theorem c_X11_checkSpeaker_0 (l : Launch) (D : va_G) (cy : Nat → ClassId) (a0 a1 a2 a3 a4 a5 a6 : Nat) (x0 : Int32) (k0 : x0 < 0) (hst : l.stackTraces = false) : CtX l D cy yX11_checkSpeaker cX11_checkSpeaker 2 none 6 82 1 6 [(a0, .inr (11, [.ref a1, .int 0, .int 0, .int (-1), .ref a2, .ref a3, .ref a4, .ref a5, .ref a6, .null]))] [.ref a0, .int x0] nNSE := by
  refine CtX.of (by decide +kernel) (Nat.le_of_ble_eq_true rfl) ?_
  intro p e s m args below meth c A ls C hlocks hml htab w hl
  have hl : lv_has ls 2 [(0, .ref a0), (1, .int x0)] := hl
  refine lv_iload_n C.1 C.2.1 dX11_checkSpeaker_0 rfl (lv_at hl 1 rfl) ?_
  refine b_if_lt_t C (tgt := 15) dX11_checkSpeaker_1 (by decide) k0 ?_
  exact r_throwNW C hst w ft_378_383_382 (hl.1.trans hml.symm) hlocks htab dX11_checkSpeaker_15 dX11_checkSpeaker_18 dX11_checkSpeaker_19 dX11_checkSpeaker_22 dX11_checkSpeaker_25 ⟨Nat.le_of_ble_eq_true rfl, Nat.le_of_ble_eq_true rfl, Nat.le_of_ble_eq_true rfl, Nat.le_of_ble_eq_true rfl⟩ ⟨Nat.le_of_ble_eq_true rfl, Nat.le_of_ble_eq_true rfl⟩
theorem dX11_checkSpeaker_4 : decode cX11_checkSpeaker 4 = .ok (.iload_n 1, 1) := by decide +kernel
theorem dX11_checkSpeaker_5 : decode cX11_checkSpeaker 5 = .ok (.aload_n 0, 1) := by decide +kernel
theorem dX11_checkSpeaker_6 : decode cX11_checkSpeaker 6 = .ok (.getfield 41, 3) := by decide +kernel
theorem fl_RX11_236 : Cond.fieldLink RX11 236 "TwoSlips$Talk" "speakers" "I" ∈ gw := gw_mem (by decide +kernel) (by decide +kernel)
theorem dX11_checkSpeaker_9 : decode cX11_checkSpeaker 9 = .ok (.getfield 236, 3) := by decide +kernel
theorem dX11_checkSpeaker_12 : decode cX11_checkSpeaker 12 = .ok (.if_icmp .lt 14, 3) := by decide +kernel
set_option maxRecDepth 100000 in
set_option maxHeartbeats 4000000 in
theorem c_X11_checkSpeaker_1 (l : Launch) (D : va_G) (cy : Nat → ClassId) (a0 a1 a2 a3 a4 a5 a6 a11 a12 a13 a14 a15 a16 a17 : Nat) (x0 : Int32) (k0 : ¬ x0 < 0) (hst : l.stackTraces = false) : CtX l D cy yX11_checkSpeaker cX11_checkSpeaker 2 none 6 82 1 6 [(a0, .inr (11, [.ref a1, .int 0, .int 0, .int (-1), .ref a2, .ref a3, .ref a4, .ref a5, .ref a6, .null])), (a6, .inr (9, [.int 0, .int 2, .int 20, .int 120, .int 0, .int 0, .int 0, .int 0, .ref a11, .int 0, .ref a12, .ref a13, .int 0, .ref a14, .ref a15, .ref a16, .ref a17]))] [.ref a0, .int x0] nNSE := by
  refine CtX.of (by decide +kernel) (Nat.le_of_ble_eq_true rfl) ?_
  intro p e s m args below meth c A ls C hlocks hml htab w hl
  have hl : lv_has ls 2 [(0, .ref a0), (1, .int x0)] := hl
  refine lv_iload_n C.1 C.2.1 dX11_checkSpeaker_0 rfl (lv_at hl 1 rfl) ?_
  refine b_if_lt_f C (tgt := 15) dX11_checkSpeaker_1 (by decide) k0 ?_
  refine lv_iload_n C.1 C.2.1 dX11_checkSpeaker_4 rfl (lv_at hl 1 rfl) ?_
  refine lv_aload_n C.1 C.2.1 dX11_checkSpeaker_5 rfl (lv_at hl 0 rfl) ?_
  refine r_get C w 0 rfl rfl 8 (by decide) fl_RX11_41 (v := .ref a6) rfl dX11_checkSpeaker_6 ?_
  refine r_get C w 1 rfl rfl 5 (by decide) fl_RX11_236 (v := .int 0) rfl dX11_checkSpeaker_9 ?_
  refine b_icmp_lt_f C (tgt := 26) dX11_checkSpeaker_12 (by decide) k0 ?_
  exact r_throwNW C hst w ft_378_383_382 (hl.1.trans hml.symm) hlocks htab dX11_checkSpeaker_15 dX11_checkSpeaker_18 dX11_checkSpeaker_19 dX11_checkSpeaker_22 dX11_checkSpeaker_25 ⟨Nat.le_of_ble_eq_true rfl, Nat.le_of_ble_eq_true rfl, Nat.le_of_ble_eq_true rfl, Nat.le_of_ble_eq_true rfl⟩ ⟨Nat.le_of_ble_eq_true rfl, Nat.le_of_ble_eq_true rfl⟩
theorem fv_RX11_128 : FV RX11 128 yX11_checkSpeaker cX11_checkSpeaker 2 none 1 := ⟨⟨gw_mem (by decide +kernel) (by decide +kernel), gw_mem (by decide +kernel) (by decide +kernel), gw_mem (by decide +kernel) (by decide +kernel), gw_mem (by decide +kernel) (by decide +kernel), gw_mem (by decide +kernel) (by decide +kernel)⟩, ⟨by decide +kernel, by decide +kernel, by decide +kernel⟩⟩
set_option maxRecDepth 100000 in
set_option maxHeartbeats 4000000 in
theorem c_X11_told_0 (l : Launch) (D : va_G) (cy : Nat → ClassId) (a0 a1 a2 a3 a4 a5 a6 : Nat) (x0 : Int32) (x1 : Int32) (k0 : x0 < 0) (hst : l.stackTraces = false) : CtX l D cy yX11_told cX11_told 4 (some .int) 7 103 1 6 [(a0, .inr (11, [.ref a1, .int 0, .int 0, .int (-1), .ref a2, .ref a3, .ref a4, .ref a5, .ref a6, .null]))] [.ref a0, .int x0, .int x1] nNSE := by
  refine CtX.of (by decide +kernel) (Nat.le_of_ble_eq_true rfl) ?_
  intro p e s m args below meth c A ls C hlocks hml htab w hl
  have hl : lv_has ls 4 [(0, .ref a0), (1, .int x0), (2, .int x1)] := hl
  refine lv_aload_n C.1 C.2.1 dX11_told_0 rfl (lv_at hl 0 rfl) ?_
  refine lv_iload_n C.1 C.2.1 dX11_told_1 rfl (lv_at hl 1 rfl) ?_
  refine r_thrown C w fv_RX11_128 (c_X11_checkSpeaker_0 l D cy a0 a1 a2 a3 a4 a5 a6 x0 k0 hst) (hl.1.trans hml.symm) [0] [] (wr := []) ⟨rfl, rfl, rfl, rfl, by decide⟩ 0 rfl rfl rfl rfl rfl ⟨Nat.le_of_ble_eq_true rfl, Nat.le_of_ble_eq_true rfl, Nat.le_of_ble_eq_true rfl⟩ 1 6 ⟨rfl, rfl, Nat.le_of_ble_eq_true rfl, Nat.le_of_ble_eq_true rfl⟩ dX11_told_2 (fun ce q9 H locs w h1 h2 h3 => ?_)
  exact r_pass hlocks htab w h1 h2 h3 ⟨Nat.le_of_ble_eq_true rfl, Nat.le_of_ble_eq_true rfl⟩
set_option maxRecDepth 100000 in
set_option maxHeartbeats 4000000 in
theorem c_X11_told_1 (l : Launch) (D : va_G) (cy : Nat → ClassId) (a0 a1 a2 a3 a4 a5 a6 a11 a12 a13 a14 a15 a16 a17 : Nat) (x0 : Int32) (x1 : Int32) (k0 : ¬ x0 < 0) (hst : l.stackTraces = false) : CtX l D cy yX11_told cX11_told 4 (some .int) 7 103 1 6 [(a0, .inr (11, [.ref a1, .int 0, .int 0, .int (-1), .ref a2, .ref a3, .ref a4, .ref a5, .ref a6, .null])), (a6, .inr (9, [.int 0, .int 2, .int 20, .int 120, .int 0, .int 0, .int 0, .int 0, .ref a11, .int 0, .ref a12, .ref a13, .int 0, .ref a14, .ref a15, .ref a16, .ref a17]))] [.ref a0, .int x0, .int x1] nNSE := by
  refine CtX.of (by decide +kernel) (Nat.le_of_ble_eq_true rfl) ?_
  intro p e s m args below meth c A ls C hlocks hml htab w hl
  have hl : lv_has ls 4 [(0, .ref a0), (1, .int x0), (2, .int x1)] := hl
  refine lv_aload_n C.1 C.2.1 dX11_told_0 rfl (lv_at hl 0 rfl) ?_
  refine lv_iload_n C.1 C.2.1 dX11_told_1 rfl (lv_at hl 1 rfl) ?_
  refine r_thrown C w fv_RX11_128 (c_X11_checkSpeaker_1 l D cy a0 a1 a2 a3 a4 a5 a6 a11 a12 a13 a14 a15 a16 a17 x0 k0 hst) (hl.1.trans hml.symm) [0, 1] [] (wr := []) ⟨rfl, rfl, rfl, rfl, by decide⟩ 0 rfl rfl rfl rfl rfl ⟨Nat.le_of_ble_eq_true rfl, Nat.le_of_ble_eq_true rfl, Nat.le_of_ble_eq_true rfl⟩ 1 6 ⟨rfl, rfl, Nat.le_of_ble_eq_true rfl, Nat.le_of_ble_eq_true rfl⟩ dX11_told_2 (fun ce q9 H locs w h1 h2 h3 => ?_)
  exact r_pass hlocks htab w h1 h2 h3 ⟨Nat.le_of_ble_eq_true rfl, Nat.le_of_ble_eq_true rfl⟩
theorem dX11_speaker_0 : decode cX11_speaker 0 = .ok (.aload_n 0, 1) := by decide +kernel
theorem dX11_speaker_1 : decode cX11_speaker 1 = .ok (.iload_n 1, 1) := by decide +kernel
theorem dX11_speaker_2 : decode cX11_speaker 2 = .ok (.invokevirtual 128, 3) := by decide +kernel
set_option maxRecDepth 100000 in
set_option maxHeartbeats 4000000 in
theorem c_X11_speaker_0 (l : Launch) (D : va_G) (cy : Nat → ClassId) (a0 a1 a2 a3 a4 a5 a6 : Nat) (x0 : Int32) (x1 : Int32) (k0 : x0 < 0) (hst : l.stackTraces = false) : CtX l D cy yX11_speaker cX11_speaker 3 (some .int) 7 103 1 6 [(a0, .inr (11, [.ref a1, .int 0, .int 0, .int (-1), .ref a2, .ref a3, .ref a4, .ref a5, .ref a6, .null]))] [.ref a0, .int x0, .int x1] nNSE := by
  refine CtX.of (by decide +kernel) (Nat.le_of_ble_eq_true rfl) ?_
  intro p e s m args below meth c A ls C hlocks hml htab w hl
  have hl : lv_has ls 3 [(0, .ref a0), (1, .int x0), (2, .int x1)] := hl
  refine lv_aload_n C.1 C.2.1 dX11_speaker_0 rfl (lv_at hl 0 rfl) ?_
  refine lv_iload_n C.1 C.2.1 dX11_speaker_1 rfl (lv_at hl 1 rfl) ?_
  refine r_thrown C w fv_RX11_128 (c_X11_checkSpeaker_0 l D cy a0 a1 a2 a3 a4 a5 a6 x0 k0 hst) (hl.1.trans hml.symm) [0] [] (wr := []) ⟨rfl, rfl, rfl, rfl, by decide⟩ 0 rfl rfl rfl rfl rfl ⟨Nat.le_of_ble_eq_true rfl, Nat.le_of_ble_eq_true rfl, Nat.le_of_ble_eq_true rfl⟩ 1 6 ⟨rfl, rfl, Nat.le_of_ble_eq_true rfl, Nat.le_of_ble_eq_true rfl⟩ dX11_speaker_2 (fun ce q9 H locs w h1 h2 h3 => ?_)
  exact r_pass hlocks htab w h1 h2 h3 ⟨Nat.le_of_ble_eq_true rfl, Nat.le_of_ble_eq_true rfl⟩
set_option maxRecDepth 100000 in
set_option maxHeartbeats 4000000 in
theorem c_X11_speaker_1 (l : Launch) (D : va_G) (cy : Nat → ClassId) (a0 a1 a2 a3 a4 a5 a6 a11 a12 a13 a14 a15 a16 a17 : Nat) (x0 : Int32) (x1 : Int32) (k0 : ¬ x0 < 0) (hst : l.stackTraces = false) : CtX l D cy yX11_speaker cX11_speaker 3 (some .int) 7 103 1 6 [(a0, .inr (11, [.ref a1, .int 0, .int 0, .int (-1), .ref a2, .ref a3, .ref a4, .ref a5, .ref a6, .null])), (a6, .inr (9, [.int 0, .int 2, .int 20, .int 120, .int 0, .int 0, .int 0, .int 0, .ref a11, .int 0, .ref a12, .ref a13, .int 0, .ref a14, .ref a15, .ref a16, .ref a17]))] [.ref a0, .int x0, .int x1] nNSE := by
  refine CtX.of (by decide +kernel) (Nat.le_of_ble_eq_true rfl) ?_
  intro p e s m args below meth c A ls C hlocks hml htab w hl
  have hl : lv_has ls 3 [(0, .ref a0), (1, .int x0), (2, .int x1)] := hl
  refine lv_aload_n C.1 C.2.1 dX11_speaker_0 rfl (lv_at hl 0 rfl) ?_
  refine lv_iload_n C.1 C.2.1 dX11_speaker_1 rfl (lv_at hl 1 rfl) ?_
  refine r_thrown C w fv_RX11_128 (c_X11_checkSpeaker_1 l D cy a0 a1 a2 a3 a4 a5 a6 a11 a12 a13 a14 a15 a16 a17 x0 k0 hst) (hl.1.trans hml.symm) [0, 1] [] (wr := []) ⟨rfl, rfl, rfl, rfl, by decide⟩ 0 rfl rfl rfl rfl rfl ⟨Nat.le_of_ble_eq_true rfl, Nat.le_of_ble_eq_true rfl, Nat.le_of_ble_eq_true rfl⟩ 1 6 ⟨rfl, rfl, Nat.le_of_ble_eq_true rfl, Nat.le_of_ble_eq_true rfl⟩ dX11_speaker_2 (fun ce q9 H locs w h1 h2 h3 => ?_)
  exact r_pass hlocks htab w h1 h2 h3 ⟨Nat.le_of_ble_eq_true rfl, Nat.le_of_ble_eq_true rfl⟩
theorem dX11_turn_0 : decode cX11_turn 0 = .ok (.aload_n 0, 1) := by decide +kernel
theorem dX11_turn_1 : decode cX11_turn 1 = .ok (.iload_n 1, 1) := by decide +kernel
theorem dX11_turn_2 : decode cX11_turn 2 = .ok (.invokevirtual 148, 3) := by decide +kernel
theorem dX11_checkTurn_0 : decode cX11_checkTurn 0 = .ok (.iload_n 1, 1) := by decide +kernel
theorem dX11_checkTurn_1 : decode cX11_checkTurn 1 = .ok (.ifCond .lt 14, 3) := by decide +kernel
theorem ft_378_387_382 : FTn RX11 378 387 382 nNSE "no such turn" := ftn_of (by decide +kernel) (by decide +kernel) (by decide +kernel) (by decide +kernel) fa5_382 fa6_378_382
theorem dX11_checkTurn_15 : decode cX11_checkTurn 15 = .ok (.new 378, 3) := by decide +kernel
theorem dX11_checkTurn_18 : decode cX11_checkTurn 18 = .ok (.dup, 1) := by decide +kernel
theorem dX11_checkTurn_19 : decode cX11_checkTurn 19 = .ok (.ldc_w 387, 3) := by decide +kernel
theorem dX11_checkTurn_22 : decode cX11_checkTurn 22 = .ok (.invokespecial 382, 3) := by decide +kernel
theorem dX11_checkTurn_25 : decode cX11_checkTurn 25 = .ok (.athrow, 1) := by decide +kernel
set_option maxRecDepth 100000 in
set_option maxHeartbeats 4000000 in
theorem c_X11_checkTurn_0 (l : Launch) (D : va_G) (cy : Nat → ClassId) (a0 a1 a2 a3 a4 a5 a6 : Nat) (x0 : Int32) (k0 : x0 < 0) (hst : l.stackTraces = false) : CtX l D cy yX11_checkTurn cX11_checkTurn 2 none 6 82 1 6 [(a0, .inr (11, [.ref a1, .int 0, .int 0, .int (-1), .ref a2, .ref a3, .ref a4, .ref a5, .ref a6, .null]))] [.ref a0, .int x0] nNSE := by
  refine CtX.of (by decide +kernel) (Nat.le_of_ble_eq_true rfl) ?_
  intro p e s m args below meth c A ls C hlocks hml htab w hl
  have hl : lv_has ls 2 [(0, .ref a0), (1, .int x0)] := hl
  refine lv_iload_n C.1 C.2.1 dX11_checkTurn_0 rfl (lv_at hl 1 rfl) ?_
  refine b_if_lt_t C (tgt := 15) dX11_checkTurn_1 (by decide) k0 ?_
  exact r_throwNW C hst w ft_378_387_382 (hl.1.trans hml.symm) hlocks htab dX11_checkTurn_15 dX11_checkTurn_18 dX11_checkTurn_19 dX11_checkTurn_22 dX11_checkTurn_25 ⟨Nat.le_of_ble_eq_true rfl, Nat.le_of_ble_eq_true rfl, Nat.le_of_ble_eq_true rfl, Nat.le_of_ble_eq_true rfl⟩ ⟨Nat.le_of_ble_eq_true rfl, Nat.le_of_ble_eq_true rfl⟩
theorem dX11_checkTurn_4 : decode cX11_checkTurn 4 = .ok (.iload_n 1, 1) := by decide +kernel
theorem dX11_checkTurn_5 : decode cX11_checkTurn 5 = .ok (.aload_n 0, 1) := by decide +kernel
theorem dX11_checkTurn_6 : decode cX11_checkTurn 6 = .ok (.getfield 41, 3) := by decide +kernel
theorem fl_RX11_169 : Cond.fieldLink RX11 169 "TwoSlips$Talk" "turns" "I" ∈ gw := gw_mem (by decide +kernel) (by decide +kernel)
theorem dX11_checkTurn_9 : decode cX11_checkTurn 9 = .ok (.getfield 169, 3) := by decide +kernel
theorem dX11_checkTurn_12 : decode cX11_checkTurn 12 = .ok (.if_icmp .lt 14, 3) := by decide +kernel
set_option maxRecDepth 100000 in
set_option maxHeartbeats 4000000 in
theorem c_X11_checkTurn_1 (l : Launch) (D : va_G) (cy : Nat → ClassId) (a0 a1 a2 a3 a4 a5 a6 a11 a12 a13 a14 a15 a16 a17 : Nat) (x0 : Int32) (k0 : ¬ x0 < 0) (hst : l.stackTraces = false) : CtX l D cy yX11_checkTurn cX11_checkTurn 2 none 6 82 1 6 [(a0, .inr (11, [.ref a1, .int 0, .int 0, .int (-1), .ref a2, .ref a3, .ref a4, .ref a5, .ref a6, .null])), (a6, .inr (9, [.int 0, .int 2, .int 20, .int 120, .int 0, .int 0, .int 0, .int 0, .ref a11, .int 0, .ref a12, .ref a13, .int 0, .ref a14, .ref a15, .ref a16, .ref a17]))] [.ref a0, .int x0] nNSE := by
  refine CtX.of (by decide +kernel) (Nat.le_of_ble_eq_true rfl) ?_
  intro p e s m args below meth c A ls C hlocks hml htab w hl
  have hl : lv_has ls 2 [(0, .ref a0), (1, .int x0)] := hl
  refine lv_iload_n C.1 C.2.1 dX11_checkTurn_0 rfl (lv_at hl 1 rfl) ?_
  refine b_if_lt_f C (tgt := 15) dX11_checkTurn_1 (by decide) k0 ?_
  refine lv_iload_n C.1 C.2.1 dX11_checkTurn_4 rfl (lv_at hl 1 rfl) ?_
  refine lv_aload_n C.1 C.2.1 dX11_checkTurn_5 rfl (lv_at hl 0 rfl) ?_
  refine r_get C w 0 rfl rfl 8 (by decide) fl_RX11_41 (v := .ref a6) rfl dX11_checkTurn_6 ?_
  refine r_get C w 1 rfl rfl 9 (by decide) fl_RX11_169 (v := .int 0) rfl dX11_checkTurn_9 ?_
  refine b_icmp_lt_f C (tgt := 26) dX11_checkTurn_12 (by decide) k0 ?_
  exact r_throwNW C hst w ft_378_387_382 (hl.1.trans hml.symm) hlocks htab dX11_checkTurn_15 dX11_checkTurn_18 dX11_checkTurn_19 dX11_checkTurn_22 dX11_checkTurn_25 ⟨Nat.le_of_ble_eq_true rfl, Nat.le_of_ble_eq_true rfl, Nat.le_of_ble_eq_true rfl, Nat.le_of_ble_eq_true rfl⟩ ⟨Nat.le_of_ble_eq_true rfl, Nat.le_of_ble_eq_true rfl⟩
theorem fv_RX11_148 : FV RX11 148 yX11_checkTurn cX11_checkTurn 2 none 1 := ⟨⟨gw_mem (by decide +kernel) (by decide +kernel), gw_mem (by decide +kernel) (by decide +kernel), gw_mem (by decide +kernel) (by decide +kernel), gw_mem (by decide +kernel) (by decide +kernel), gw_mem (by decide +kernel) (by decide +kernel)⟩, ⟨by decide +kernel, by decide +kernel, by decide +kernel⟩⟩
set_option maxRecDepth 100000 in
set_option maxHeartbeats 4000000 in
theorem c_X11_turn_0 (l : Launch) (D : va_G) (cy : Nat → ClassId) (a0 a1 a2 a3 a4 a5 a6 : Nat) (x0 : Int32) (k0 : x0 < 0) (hst : l.stackTraces = false) : CtX l D cy yX11_turn cX11_turn 2 (some .int) 7 103 1 6 [(a0, .inr (11, [.ref a1, .int 0, .int 0, .int (-1), .ref a2, .ref a3, .ref a4, .ref a5, .ref a6, .null]))] [.ref a0, .int x0] nNSE := by
  refine CtX.of (by decide +kernel) (Nat.le_of_ble_eq_true rfl) ?_
  intro p e s m args below meth c A ls C hlocks hml htab w hl
  have hl : lv_has ls 2 [(0, .ref a0), (1, .int x0)] := hl
  refine lv_aload_n C.1 C.2.1 dX11_turn_0 rfl (lv_at hl 0 rfl) ?_
  refine lv_iload_n C.1 C.2.1 dX11_turn_1 rfl (lv_at hl 1 rfl) ?_
  refine r_thrown C w fv_RX11_148 (c_X11_checkTurn_0 l D cy a0 a1 a2 a3 a4 a5 a6 x0 k0 hst) (hl.1.trans hml.symm) [0] [] (wr := []) ⟨rfl, rfl, rfl, rfl, by decide⟩ 0 rfl rfl rfl rfl rfl ⟨Nat.le_of_ble_eq_true rfl, Nat.le_of_ble_eq_true rfl, Nat.le_of_ble_eq_true rfl⟩ 1 6 ⟨rfl, rfl, Nat.le_of_ble_eq_true rfl, Nat.le_of_ble_eq_true rfl⟩ dX11_turn_2 (fun ce q9 H locs w h1 h2 h3 => ?_)
  exact r_pass hlocks htab w h1 h2 h3 ⟨Nat.le_of_ble_eq_true rfl, Nat.le_of_ble_eq_true rfl⟩
set_option maxRecDepth 100000 in
set_option maxHeartbeats 4000000 in
theorem c_X11_turn_1 (l : Launch) (D : va_G) (cy : Nat → ClassId) (a0 a1 a2 a3 a4 a5 a6 a11 a12 a13 a14 a15 a16 a17 : Nat) (x0 : Int32) (k0 : ¬ x0 < 0) (hst : l.stackTraces = false) : CtX l D cy yX11_turn cX11_turn 2 (some .int) 7 103 1 6 [(a0, .inr (11, [.ref a1, .int 0, .int 0, .int (-1), .ref a2, .ref a3, .ref a4, .ref a5, .ref a6, .null])), (a6, .inr (9, [.int 0, .int 2, .int 20, .int 120, .int 0, .int 0, .int 0, .int 0, .ref a11, .int 0, .ref a12, .ref a13, .int 0, .ref a14, .ref a15, .ref a16, .ref a17]))] [.ref a0, .int x0] nNSE := by
  refine CtX.of (by decide +kernel) (Nat.le_of_ble_eq_true rfl) ?_
  intro p e s m args below meth c A ls C hlocks hml htab w hl
  have hl : lv_has ls 2 [(0, .ref a0), (1, .int x0)] := hl
  refine lv_aload_n C.1 C.2.1 dX11_turn_0 rfl (lv_at hl 0 rfl) ?_
  refine lv_iload_n C.1 C.2.1 dX11_turn_1 rfl (lv_at hl 1 rfl) ?_
  refine r_thrown C w fv_RX11_148 (c_X11_checkTurn_1 l D cy a0 a1 a2 a3 a4 a5 a6 a11 a12 a13 a14 a15 a16 a17 x0 k0 hst) (hl.1.trans hml.symm) [0, 1] [] (wr := []) ⟨rfl, rfl, rfl, rfl, by decide⟩ 0 rfl rfl rfl rfl rfl ⟨Nat.le_of_ble_eq_true rfl, Nat.le_of_ble_eq_true rfl, Nat.le_of_ble_eq_true rfl⟩ 1 6 ⟨rfl, rfl, Nat.le_of_ble_eq_true rfl, Nat.le_of_ble_eq_true rfl⟩ dX11_turn_2 (fun ce q9 H locs w h1 h2 h3 => ?_)
  exact r_pass hlocks htab w h1 h2 h3 ⟨Nat.le_of_ble_eq_true rfl, Nat.le_of_ble_eq_true rfl⟩
theorem dX11_so_0 : decode cX11_so 0 = .ok (.aload_n 0, 1) := by decide +kernel
theorem dX11_so_1 : decode cX11_so 1 = .ok (.iload_n 1, 1) := by decide +kernel
theorem dX11_so_2 : decode cX11_so 2 = .ok (.invokevirtual 148, 3) := by decide +kernel
set_option maxRecDepth 100000 in
set_option maxHeartbeats 4000000 in
theorem c_X11_so_0 (l : Launch) (D : va_G) (cy : Nat → ClassId) (a0 a1 a2 a3 a4 a5 a6 : Nat) (x0 : Int32) (x1 : Int32) (k0 : x0 < 0) (hst : l.stackTraces = false) : CtX l D cy yX11_so cX11_so 4 (some .boolean) 7 103 1 6 [(a0, .inr (11, [.ref a1, .int 0, .int 0, .int (-1), .ref a2, .ref a3, .ref a4, .ref a5, .ref a6, .null]))] [.ref a0, .int x0, .int x1] nNSE := by
  refine CtX.of (by decide +kernel) (Nat.le_of_ble_eq_true rfl) ?_
  intro p e s m args below meth c A ls C hlocks hml htab w hl
  have hl : lv_has ls 4 [(0, .ref a0), (1, .int x0), (2, .int x1)] := hl
  refine lv_aload_n C.1 C.2.1 dX11_so_0 rfl (lv_at hl 0 rfl) ?_
  refine lv_iload_n C.1 C.2.1 dX11_so_1 rfl (lv_at hl 1 rfl) ?_
  refine r_thrown C w fv_RX11_148 (c_X11_checkTurn_0 l D cy a0 a1 a2 a3 a4 a5 a6 x0 k0 hst) (hl.1.trans hml.symm) [0] [] (wr := []) ⟨rfl, rfl, rfl, rfl, by decide⟩ 0 rfl rfl rfl rfl rfl ⟨Nat.le_of_ble_eq_true rfl, Nat.le_of_ble_eq_true rfl, Nat.le_of_ble_eq_true rfl⟩ 1 6 ⟨rfl, rfl, Nat.le_of_ble_eq_true rfl, Nat.le_of_ble_eq_true rfl⟩ dX11_so_2 (fun ce q9 H locs w h1 h2 h3 => ?_)
  exact r_pass hlocks htab w h1 h2 h3 ⟨Nat.le_of_ble_eq_true rfl, Nat.le_of_ble_eq_true rfl⟩
set_option maxRecDepth 100000 in
set_option maxHeartbeats 4000000 in
theorem c_X11_so_1 (l : Launch) (D : va_G) (cy : Nat → ClassId) (a0 a1 a2 a3 a4 a5 a6 a11 a12 a13 a14 a15 a16 a17 : Nat) (x0 : Int32) (x1 : Int32) (k0 : ¬ x0 < 0) (hst : l.stackTraces = false) : CtX l D cy yX11_so cX11_so 4 (some .boolean) 7 103 1 6 [(a0, .inr (11, [.ref a1, .int 0, .int 0, .int (-1), .ref a2, .ref a3, .ref a4, .ref a5, .ref a6, .null])), (a6, .inr (9, [.int 0, .int 2, .int 20, .int 120, .int 0, .int 0, .int 0, .int 0, .ref a11, .int 0, .ref a12, .ref a13, .int 0, .ref a14, .ref a15, .ref a16, .ref a17]))] [.ref a0, .int x0, .int x1] nNSE := by
  refine CtX.of (by decide +kernel) (Nat.le_of_ble_eq_true rfl) ?_
  intro p e s m args below meth c A ls C hlocks hml htab w hl
  have hl : lv_has ls 4 [(0, .ref a0), (1, .int x0), (2, .int x1)] := hl
  refine lv_aload_n C.1 C.2.1 dX11_so_0 rfl (lv_at hl 0 rfl) ?_
  refine lv_iload_n C.1 C.2.1 dX11_so_1 rfl (lv_at hl 1 rfl) ?_
  refine r_thrown C w fv_RX11_148 (c_X11_checkTurn_1 l D cy a0 a1 a2 a3 a4 a5 a6 a11 a12 a13 a14 a15 a16 a17 x0 k0 hst) (hl.1.trans hml.symm) [0, 1] [] (wr := []) ⟨rfl, rfl, rfl, rfl, by decide⟩ 0 rfl rfl rfl rfl rfl ⟨Nat.le_of_ble_eq_true rfl, Nat.le_of_ble_eq_true rfl, Nat.le_of_ble_eq_true rfl⟩ 1 6 ⟨rfl, rfl, Nat.le_of_ble_eq_true rfl, Nat.le_of_ble_eq_true rfl⟩ dX11_so_2 (fun ce q9 H locs w h1 h2 h3 => ?_)
  exact r_pass hlocks htab w h1 h2 h3 ⟨Nat.le_of_ble_eq_true rfl, Nat.le_of_ble_eq_true rfl⟩
theorem dX11_may_0 : decode cX11_may 0 = .ok (.aload_n 0, 1) := by decide +kernel
theorem dX11_may_1 : decode cX11_may 1 = .ok (.iload_n 1, 1) := by decide +kernel
theorem dX11_may_2 : decode cX11_may 2 = .ok (.invokevirtual 148, 3) := by decide +kernel
set_option maxRecDepth 100000 in
set_option maxHeartbeats 4000000 in
theorem c_X11_may_0 (l : Launch) (D : va_G) (cy : Nat → ClassId) (a0 a1 a2 a3 a4 a5 a6 : Nat) (x0 : Int32) (x1 : Int32) (k0 : x0 < 0) (hst : l.stackTraces = false) : CtX l D cy yX11_may cX11_may 4 (some .boolean) 7 103 1 6 [(a0, .inr (11, [.ref a1, .int 0, .int 0, .int (-1), .ref a2, .ref a3, .ref a4, .ref a5, .ref a6, .null]))] [.ref a0, .int x0, .int x1] nNSE := by
  refine CtX.of (by decide +kernel) (Nat.le_of_ble_eq_true rfl) ?_
  intro p e s m args below meth c A ls C hlocks hml htab w hl
  have hl : lv_has ls 4 [(0, .ref a0), (1, .int x0), (2, .int x1)] := hl
  refine lv_aload_n C.1 C.2.1 dX11_may_0 rfl (lv_at hl 0 rfl) ?_
  refine lv_iload_n C.1 C.2.1 dX11_may_1 rfl (lv_at hl 1 rfl) ?_
  refine r_thrown C w fv_RX11_148 (c_X11_checkTurn_0 l D cy a0 a1 a2 a3 a4 a5 a6 x0 k0 hst) (hl.1.trans hml.symm) [0] [] (wr := []) ⟨rfl, rfl, rfl, rfl, by decide⟩ 0 rfl rfl rfl rfl rfl ⟨Nat.le_of_ble_eq_true rfl, Nat.le_of_ble_eq_true rfl, Nat.le_of_ble_eq_true rfl⟩ 1 6 ⟨rfl, rfl, Nat.le_of_ble_eq_true rfl, Nat.le_of_ble_eq_true rfl⟩ dX11_may_2 (fun ce q9 H locs w h1 h2 h3 => ?_)
  exact r_pass hlocks htab w h1 h2 h3 ⟨Nat.le_of_ble_eq_true rfl, Nat.le_of_ble_eq_true rfl⟩
set_option maxRecDepth 100000 in
set_option maxHeartbeats 4000000 in
theorem c_X11_may_1 (l : Launch) (D : va_G) (cy : Nat → ClassId) (a0 a1 a2 a3 a4 a5 a6 a11 a12 a13 a14 a15 a16 a17 : Nat) (x0 : Int32) (x1 : Int32) (k0 : ¬ x0 < 0) (hst : l.stackTraces = false) : CtX l D cy yX11_may cX11_may 4 (some .boolean) 7 103 1 6 [(a0, .inr (11, [.ref a1, .int 0, .int 0, .int (-1), .ref a2, .ref a3, .ref a4, .ref a5, .ref a6, .null])), (a6, .inr (9, [.int 0, .int 2, .int 20, .int 120, .int 0, .int 0, .int 0, .int 0, .ref a11, .int 0, .ref a12, .ref a13, .int 0, .ref a14, .ref a15, .ref a16, .ref a17]))] [.ref a0, .int x0, .int x1] nNSE := by
  refine CtX.of (by decide +kernel) (Nat.le_of_ble_eq_true rfl) ?_
  intro p e s m args below meth c A ls C hlocks hml htab w hl
  have hl : lv_has ls 4 [(0, .ref a0), (1, .int x0), (2, .int x1)] := hl
  refine lv_aload_n C.1 C.2.1 dX11_may_0 rfl (lv_at hl 0 rfl) ?_
  refine lv_iload_n C.1 C.2.1 dX11_may_1 rfl (lv_at hl 1 rfl) ?_
  refine r_thrown C w fv_RX11_148 (c_X11_checkTurn_1 l D cy a0 a1 a2 a3 a4 a5 a6 a11 a12 a13 a14 a15 a16 a17 x0 k0 hst) (hl.1.trans hml.symm) [0, 1] [] (wr := []) ⟨rfl, rfl, rfl, rfl, by decide⟩ 0 rfl rfl rfl rfl rfl ⟨Nat.le_of_ble_eq_true rfl, Nat.le_of_ble_eq_true rfl, Nat.le_of_ble_eq_true rfl⟩ 1 6 ⟨rfl, rfl, Nat.le_of_ble_eq_true rfl, Nat.le_of_ble_eq_true rfl⟩ dX11_may_2 (fun ce q9 H locs w h1 h2 h3 => ?_)
  exact r_pass hlocks htab w h1 h2 h3 ⟨Nat.le_of_ble_eq_true rfl, Nat.le_of_ble_eq_true rfl⟩
theorem dX11_knows_0 : decode cX11_knows 0 = .ok (.aload_n 0, 1) := by decide +kernel
theorem dX11_knows_1 : decode cX11_knows 1 = .ok (.iload_n 1, 1) := by decide +kernel
theorem dX11_knows_2 : decode cX11_knows 2 = .ok (.invokevirtual 128, 3) := by decide +kernel
set_option maxRecDepth 100000 in
set_option maxHeartbeats 4000000 in
theorem c_X11_knows_0 (l : Launch) (D : va_G) (cy : Nat → ClassId) (a0 a1 a2 a3 a4 a5 a6 : Nat) (x0 : Int32) (x1 : Int32) (x2 : Int32) (k0 : x0 < 0) (hst : l.stackTraces = false) : CtX l D cy yX11_knows cX11_knows 5 (some .boolean) 7 103 1 6 [(a0, .inr (11, [.ref a1, .int 0, .int 0, .int (-1), .ref a2, .ref a3, .ref a4, .ref a5, .ref a6, .null]))] [.ref a0, .int x0, .int x1, .int x2] nNSE := by
  refine CtX.of (by decide +kernel) (Nat.le_of_ble_eq_true rfl) ?_
  intro p e s m args below meth c A ls C hlocks hml htab w hl
  have hl : lv_has ls 5 [(0, .ref a0), (1, .int x0), (2, .int x1), (3, .int x2)] := hl
  refine lv_aload_n C.1 C.2.1 dX11_knows_0 rfl (lv_at hl 0 rfl) ?_
  refine lv_iload_n C.1 C.2.1 dX11_knows_1 rfl (lv_at hl 1 rfl) ?_
  refine r_thrown C w fv_RX11_128 (c_X11_checkSpeaker_0 l D cy a0 a1 a2 a3 a4 a5 a6 x0 k0 hst) (hl.1.trans hml.symm) [0] [] (wr := []) ⟨rfl, rfl, rfl, rfl, by decide⟩ 0 rfl rfl rfl rfl rfl ⟨Nat.le_of_ble_eq_true rfl, Nat.le_of_ble_eq_true rfl, Nat.le_of_ble_eq_true rfl⟩ 1 6 ⟨rfl, rfl, Nat.le_of_ble_eq_true rfl, Nat.le_of_ble_eq_true rfl⟩ dX11_knows_2 (fun ce q9 H locs w h1 h2 h3 => ?_)
  exact r_pass hlocks htab w h1 h2 h3 ⟨Nat.le_of_ble_eq_true rfl, Nat.le_of_ble_eq_true rfl⟩
set_option maxRecDepth 100000 in
set_option maxHeartbeats 4000000 in
theorem c_X11_knows_1 (l : Launch) (D : va_G) (cy : Nat → ClassId) (a0 a1 a2 a3 a4 a5 a6 a11 a12 a13 a14 a15 a16 a17 : Nat) (x0 : Int32) (x1 : Int32) (x2 : Int32) (k0 : ¬ x0 < 0) (hst : l.stackTraces = false) : CtX l D cy yX11_knows cX11_knows 5 (some .boolean) 7 103 1 6 [(a0, .inr (11, [.ref a1, .int 0, .int 0, .int (-1), .ref a2, .ref a3, .ref a4, .ref a5, .ref a6, .null])), (a6, .inr (9, [.int 0, .int 2, .int 20, .int 120, .int 0, .int 0, .int 0, .int 0, .ref a11, .int 0, .ref a12, .ref a13, .int 0, .ref a14, .ref a15, .ref a16, .ref a17]))] [.ref a0, .int x0, .int x1, .int x2] nNSE := by
  refine CtX.of (by decide +kernel) (Nat.le_of_ble_eq_true rfl) ?_
  intro p e s m args below meth c A ls C hlocks hml htab w hl
  have hl : lv_has ls 5 [(0, .ref a0), (1, .int x0), (2, .int x1), (3, .int x2)] := hl
  refine lv_aload_n C.1 C.2.1 dX11_knows_0 rfl (lv_at hl 0 rfl) ?_
  refine lv_iload_n C.1 C.2.1 dX11_knows_1 rfl (lv_at hl 1 rfl) ?_
  refine r_thrown C w fv_RX11_128 (c_X11_checkSpeaker_1 l D cy a0 a1 a2 a3 a4 a5 a6 a11 a12 a13 a14 a15 a16 a17 x0 k0 hst) (hl.1.trans hml.symm) [0, 1] [] (wr := []) ⟨rfl, rfl, rfl, rfl, by decide⟩ 0 rfl rfl rfl rfl rfl ⟨Nat.le_of_ble_eq_true rfl, Nat.le_of_ble_eq_true rfl, Nat.le_of_ble_eq_true rfl⟩ 1 6 ⟨rfl, rfl, Nat.le_of_ble_eq_true rfl, Nat.le_of_ble_eq_true rfl⟩ dX11_knows_2 (fun ce q9 H locs w h1 h2 h3 => ?_)
  exact r_pass hlocks htab w h1 h2 h3 ⟨Nat.le_of_ble_eq_true rfl, Nat.le_of_ble_eq_true rfl⟩
theorem dX11_knowing_0 : decode cX11_knowing 0 = .ok (.aload_n 0, 1) := by decide +kernel
theorem dX11_knowing_1 : decode cX11_knowing 1 = .ok (.iload_n 1, 1) := by decide +kernel
theorem dX11_knowing_2 : decode cX11_knowing 2 = .ok (.invokevirtual 128, 3) := by decide +kernel
set_option maxRecDepth 100000 in
set_option maxHeartbeats 4000000 in
theorem c_X11_knowing_0 (l : Launch) (D : va_G) (cy : Nat → ClassId) (a0 a1 a2 a3 a4 a5 a6 : Nat) (x0 : Int32) (x1 : Int32) (k0 : x0 < 0) (hst : l.stackTraces = false) : CtX l D cy yX11_knowing cX11_knowing 3 (some .int) 7 103 1 6 [(a0, .inr (11, [.ref a1, .int 0, .int 0, .int (-1), .ref a2, .ref a3, .ref a4, .ref a5, .ref a6, .null]))] [.ref a0, .int x0, .int x1] nNSE := by
  refine CtX.of (by decide +kernel) (Nat.le_of_ble_eq_true rfl) ?_
  intro p e s m args below meth c A ls C hlocks hml htab w hl
  have hl : lv_has ls 3 [(0, .ref a0), (1, .int x0), (2, .int x1)] := hl
  refine lv_aload_n C.1 C.2.1 dX11_knowing_0 rfl (lv_at hl 0 rfl) ?_
  refine lv_iload_n C.1 C.2.1 dX11_knowing_1 rfl (lv_at hl 1 rfl) ?_
  refine r_thrown C w fv_RX11_128 (c_X11_checkSpeaker_0 l D cy a0 a1 a2 a3 a4 a5 a6 x0 k0 hst) (hl.1.trans hml.symm) [0] [] (wr := []) ⟨rfl, rfl, rfl, rfl, by decide⟩ 0 rfl rfl rfl rfl rfl ⟨Nat.le_of_ble_eq_true rfl, Nat.le_of_ble_eq_true rfl, Nat.le_of_ble_eq_true rfl⟩ 1 6 ⟨rfl, rfl, Nat.le_of_ble_eq_true rfl, Nat.le_of_ble_eq_true rfl⟩ dX11_knowing_2 (fun ce q9 H locs w h1 h2 h3 => ?_)
  exact r_pass hlocks htab w h1 h2 h3 ⟨Nat.le_of_ble_eq_true rfl, Nat.le_of_ble_eq_true rfl⟩
set_option maxRecDepth 100000 in
set_option maxHeartbeats 4000000 in
theorem c_X11_knowing_1 (l : Launch) (D : va_G) (cy : Nat → ClassId) (a0 a1 a2 a3 a4 a5 a6 a11 a12 a13 a14 a15 a16 a17 : Nat) (x0 : Int32) (x1 : Int32) (k0 : ¬ x0 < 0) (hst : l.stackTraces = false) : CtX l D cy yX11_knowing cX11_knowing 3 (some .int) 7 103 1 6 [(a0, .inr (11, [.ref a1, .int 0, .int 0, .int (-1), .ref a2, .ref a3, .ref a4, .ref a5, .ref a6, .null])), (a6, .inr (9, [.int 0, .int 2, .int 20, .int 120, .int 0, .int 0, .int 0, .int 0, .ref a11, .int 0, .ref a12, .ref a13, .int 0, .ref a14, .ref a15, .ref a16, .ref a17]))] [.ref a0, .int x0, .int x1] nNSE := by
  refine CtX.of (by decide +kernel) (Nat.le_of_ble_eq_true rfl) ?_
  intro p e s m args below meth c A ls C hlocks hml htab w hl
  have hl : lv_has ls 3 [(0, .ref a0), (1, .int x0), (2, .int x1)] := hl
  refine lv_aload_n C.1 C.2.1 dX11_knowing_0 rfl (lv_at hl 0 rfl) ?_
  refine lv_iload_n C.1 C.2.1 dX11_knowing_1 rfl (lv_at hl 1 rfl) ?_
  refine r_thrown C w fv_RX11_128 (c_X11_checkSpeaker_1 l D cy a0 a1 a2 a3 a4 a5 a6 a11 a12 a13 a14 a15 a16 a17 x0 k0 hst) (hl.1.trans hml.symm) [0, 1] [] (wr := []) ⟨rfl, rfl, rfl, rfl, by decide⟩ 0 rfl rfl rfl rfl rfl ⟨Nat.le_of_ble_eq_true rfl, Nat.le_of_ble_eq_true rfl, Nat.le_of_ble_eq_true rfl⟩ 1 6 ⟨rfl, rfl, Nat.le_of_ble_eq_true rfl, Nat.le_of_ble_eq_true rfl⟩ dX11_knowing_2 (fun ce q9 H locs w h1 h2 h3 => ?_)
  exact r_pass hlocks htab w h1 h2 h3 ⟨Nat.le_of_ble_eq_true rfl, Nat.le_of_ble_eq_true rfl⟩
theorem dX11_heap_0 : decode cX11_heap 0 = .ok (.aload_n 0, 1) := by decide +kernel
theorem dX11_heap_1 : decode cX11_heap 1 = .ok (.iload_n 1, 1) := by decide +kernel
theorem dX11_heap_2 : decode cX11_heap 2 = .ok (.invokevirtual 128, 3) := by decide +kernel
set_option maxRecDepth 100000 in
set_option maxHeartbeats 4000000 in
theorem c_X11_heap_0 (l : Launch) (D : va_G) (cy : Nat → ClassId) (a0 a1 a2 a3 a4 a5 a6 : Nat) (x0 : Int32) (x1 : Int32) (x2 : Int32) (k0 : x0 < 0) (hst : l.stackTraces = false) : CtX l D cy yX11_heap cX11_heap 5 (some .int) 7 103 1 6 [(a0, .inr (11, [.ref a1, .int 0, .int 0, .int (-1), .ref a2, .ref a3, .ref a4, .ref a5, .ref a6, .null]))] [.ref a0, .int x0, .int x1, .int x2] nNSE := by
  refine CtX.of (by decide +kernel) (Nat.le_of_ble_eq_true rfl) ?_
  intro p e s m args below meth c A ls C hlocks hml htab w hl
  have hl : lv_has ls 5 [(0, .ref a0), (1, .int x0), (2, .int x1), (3, .int x2)] := hl
  refine lv_aload_n C.1 C.2.1 dX11_heap_0 rfl (lv_at hl 0 rfl) ?_
  refine lv_iload_n C.1 C.2.1 dX11_heap_1 rfl (lv_at hl 1 rfl) ?_
  refine r_thrown C w fv_RX11_128 (c_X11_checkSpeaker_0 l D cy a0 a1 a2 a3 a4 a5 a6 x0 k0 hst) (hl.1.trans hml.symm) [0] [] (wr := []) ⟨rfl, rfl, rfl, rfl, by decide⟩ 0 rfl rfl rfl rfl rfl ⟨Nat.le_of_ble_eq_true rfl, Nat.le_of_ble_eq_true rfl, Nat.le_of_ble_eq_true rfl⟩ 1 6 ⟨rfl, rfl, Nat.le_of_ble_eq_true rfl, Nat.le_of_ble_eq_true rfl⟩ dX11_heap_2 (fun ce q9 H locs w h1 h2 h3 => ?_)
  exact r_pass hlocks htab w h1 h2 h3 ⟨Nat.le_of_ble_eq_true rfl, Nat.le_of_ble_eq_true rfl⟩
set_option maxRecDepth 100000 in
set_option maxHeartbeats 4000000 in
theorem c_X11_heap_1 (l : Launch) (D : va_G) (cy : Nat → ClassId) (a0 a1 a2 a3 a4 a5 a6 a11 a12 a13 a14 a15 a16 a17 : Nat) (x0 : Int32) (x1 : Int32) (x2 : Int32) (k0 : ¬ x0 < 0) (hst : l.stackTraces = false) : CtX l D cy yX11_heap cX11_heap 5 (some .int) 7 103 1 6 [(a0, .inr (11, [.ref a1, .int 0, .int 0, .int (-1), .ref a2, .ref a3, .ref a4, .ref a5, .ref a6, .null])), (a6, .inr (9, [.int 0, .int 2, .int 20, .int 120, .int 0, .int 0, .int 0, .int 0, .ref a11, .int 0, .ref a12, .ref a13, .int 0, .ref a14, .ref a15, .ref a16, .ref a17]))] [.ref a0, .int x0, .int x1, .int x2] nNSE := by
  refine CtX.of (by decide +kernel) (Nat.le_of_ble_eq_true rfl) ?_
  intro p e s m args below meth c A ls C hlocks hml htab w hl
  have hl : lv_has ls 5 [(0, .ref a0), (1, .int x0), (2, .int x1), (3, .int x2)] := hl
  refine lv_aload_n C.1 C.2.1 dX11_heap_0 rfl (lv_at hl 0 rfl) ?_
  refine lv_iload_n C.1 C.2.1 dX11_heap_1 rfl (lv_at hl 1 rfl) ?_
  refine r_thrown C w fv_RX11_128 (c_X11_checkSpeaker_1 l D cy a0 a1 a2 a3 a4 a5 a6 a11 a12 a13 a14 a15 a16 a17 x0 k0 hst) (hl.1.trans hml.symm) [0, 1] [] (wr := []) ⟨rfl, rfl, rfl, rfl, by decide⟩ 0 rfl rfl rfl rfl rfl ⟨Nat.le_of_ble_eq_true rfl, Nat.le_of_ble_eq_true rfl, Nat.le_of_ble_eq_true rfl⟩ 1 6 ⟨rfl, rfl, Nat.le_of_ble_eq_true rfl, Nat.le_of_ble_eq_true rfl⟩ dX11_heap_2 (fun ce q9 H locs w h1 h2 h3 => ?_)
  exact r_pass hlocks htab w h1 h2 h3 ⟨Nat.le_of_ble_eq_true rfl, Nat.le_of_ble_eq_true rfl⟩
theorem dX11_rest_0 : decode cX11_rest 0 = .ok (.aload_n 0, 1) := by decide +kernel
theorem dX11_rest_1 : decode cX11_rest 1 = .ok (.iload_n 1, 1) := by decide +kernel
theorem dX11_rest_2 : decode cX11_rest 2 = .ok (.iload_n 2, 1) := by decide +kernel
theorem dX11_rest_3 : decode cX11_rest 3 = .ok (.invokevirtual 205, 3) := by decide +kernel
theorem dX11_checkTwo_0 : decode cX11_checkTwo 0 = .ok (.aload_n 0, 1) := by decide +kernel
theorem dX11_checkTwo_1 : decode cX11_checkTwo 1 = .ok (.iload_n 1, 1) := by decide +kernel
theorem dX11_checkTwo_2 : decode cX11_checkTwo 2 = .ok (.invokevirtual 128, 3) := by decide +kernel
set_option maxRecDepth 100000 in
set_option maxHeartbeats 4000000 in
theorem c_X11_checkTwo_0 (l : Launch) (D : va_G) (cy : Nat → ClassId) (a0 a1 a2 a3 a4 a5 a6 : Nat) (x0 : Int32) (x1 : Int32) (k0 : x0 < 0) (hst : l.stackTraces = false) : CtX l D cy yX11_checkTwo cX11_checkTwo 3 none 7 103 1 6 [(a0, .inr (11, [.ref a1, .int 0, .int 0, .int (-1), .ref a2, .ref a3, .ref a4, .ref a5, .ref a6, .null]))] [.ref a0, .int x0, .int x1] nNSE := by
  refine CtX.of (by decide +kernel) (Nat.le_of_ble_eq_true rfl) ?_
  intro p e s m args below meth c A ls C hlocks hml htab w hl
  have hl : lv_has ls 3 [(0, .ref a0), (1, .int x0), (2, .int x1)] := hl
  refine lv_aload_n C.1 C.2.1 dX11_checkTwo_0 rfl (lv_at hl 0 rfl) ?_
  refine lv_iload_n C.1 C.2.1 dX11_checkTwo_1 rfl (lv_at hl 1 rfl) ?_
  refine r_thrown C w fv_RX11_128 (c_X11_checkSpeaker_0 l D cy a0 a1 a2 a3 a4 a5 a6 x0 k0 hst) (hl.1.trans hml.symm) [0] [] (wr := []) ⟨rfl, rfl, rfl, rfl, by decide⟩ 0 rfl rfl rfl rfl rfl ⟨Nat.le_of_ble_eq_true rfl, Nat.le_of_ble_eq_true rfl, Nat.le_of_ble_eq_true rfl⟩ 1 6 ⟨rfl, rfl, Nat.le_of_ble_eq_true rfl, Nat.le_of_ble_eq_true rfl⟩ dX11_checkTwo_2 (fun ce q9 H locs w h1 h2 h3 => ?_)
  exact r_pass hlocks htab w h1 h2 h3 ⟨Nat.le_of_ble_eq_true rfl, Nat.le_of_ble_eq_true rfl⟩
set_option maxRecDepth 100000 in
set_option maxHeartbeats 4000000 in
theorem c_X11_checkTwo_1 (l : Launch) (D : va_G) (cy : Nat → ClassId) (a0 a1 a2 a3 a4 a5 a6 a11 a12 a13 a14 a15 a16 a17 : Nat) (x0 : Int32) (x1 : Int32) (k0 : ¬ x0 < 0) (hst : l.stackTraces = false) : CtX l D cy yX11_checkTwo cX11_checkTwo 3 none 7 103 1 6 [(a0, .inr (11, [.ref a1, .int 0, .int 0, .int (-1), .ref a2, .ref a3, .ref a4, .ref a5, .ref a6, .null])), (a6, .inr (9, [.int 0, .int 2, .int 20, .int 120, .int 0, .int 0, .int 0, .int 0, .ref a11, .int 0, .ref a12, .ref a13, .int 0, .ref a14, .ref a15, .ref a16, .ref a17]))] [.ref a0, .int x0, .int x1] nNSE := by
  refine CtX.of (by decide +kernel) (Nat.le_of_ble_eq_true rfl) ?_
  intro p e s m args below meth c A ls C hlocks hml htab w hl
  have hl : lv_has ls 3 [(0, .ref a0), (1, .int x0), (2, .int x1)] := hl
  refine lv_aload_n C.1 C.2.1 dX11_checkTwo_0 rfl (lv_at hl 0 rfl) ?_
  refine lv_iload_n C.1 C.2.1 dX11_checkTwo_1 rfl (lv_at hl 1 rfl) ?_
  refine r_thrown C w fv_RX11_128 (c_X11_checkSpeaker_1 l D cy a0 a1 a2 a3 a4 a5 a6 a11 a12 a13 a14 a15 a16 a17 x0 k0 hst) (hl.1.trans hml.symm) [0, 1] [] (wr := []) ⟨rfl, rfl, rfl, rfl, by decide⟩ 0 rfl rfl rfl rfl rfl ⟨Nat.le_of_ble_eq_true rfl, Nat.le_of_ble_eq_true rfl, Nat.le_of_ble_eq_true rfl⟩ 1 6 ⟨rfl, rfl, Nat.le_of_ble_eq_true rfl, Nat.le_of_ble_eq_true rfl⟩ dX11_checkTwo_2 (fun ce q9 H locs w h1 h2 h3 => ?_)
  exact r_pass hlocks htab w h1 h2 h3 ⟨Nat.le_of_ble_eq_true rfl, Nat.le_of_ble_eq_true rfl⟩
theorem fv_RX11_205 : FV RX11 205 yX11_checkTwo cX11_checkTwo 3 none 2 := ⟨⟨gw_mem (by decide +kernel) (by decide +kernel), gw_mem (by decide +kernel) (by decide +kernel), gw_mem (by decide +kernel) (by decide +kernel), gw_mem (by decide +kernel) (by decide +kernel), gw_mem (by decide +kernel) (by decide +kernel)⟩, ⟨by decide +kernel, by decide +kernel, by decide +kernel⟩⟩
set_option maxRecDepth 100000 in
set_option maxHeartbeats 4000000 in
theorem c_X11_rest_0 (l : Launch) (D : va_G) (cy : Nat → ClassId) (a0 a1 a2 a3 a4 a5 a6 : Nat) (x0 : Int32) (x1 : Int32) (k0 : x0 < 0) (hst : l.stackTraces = false) : CtX l D cy yX11_rest cX11_rest 3 (some .int) 8 125 1 6 [(a0, .inr (11, [.ref a1, .int 0, .int 0, .int (-1), .ref a2, .ref a3, .ref a4, .ref a5, .ref a6, .null]))] [.ref a0, .int x0, .int x1] nNSE := by
  refine CtX.of (by decide +kernel) (Nat.le_of_ble_eq_true rfl) ?_
  intro p e s m args below meth c A ls C hlocks hml htab w hl
  have hl : lv_has ls 3 [(0, .ref a0), (1, .int x0), (2, .int x1)] := hl
  refine lv_aload_n C.1 C.2.1 dX11_rest_0 rfl (lv_at hl 0 rfl) ?_
  refine lv_iload_n C.1 C.2.1 dX11_rest_1 rfl (lv_at hl 1 rfl) ?_
  refine lv_iload_n C.1 C.2.1 dX11_rest_2 rfl (lv_at hl 2 rfl) ?_
  refine r_thrown C w fv_RX11_205 (c_X11_checkTwo_0 l D cy a0 a1 a2 a3 a4 a5 a6 x0 x1 k0 hst) (hl.1.trans hml.symm) [0] [] (wr := []) ⟨rfl, rfl, rfl, rfl, by decide⟩ 0 rfl rfl rfl rfl rfl ⟨Nat.le_of_ble_eq_true rfl, Nat.le_of_ble_eq_true rfl, Nat.le_of_ble_eq_true rfl⟩ 1 6 ⟨rfl, rfl, Nat.le_of_ble_eq_true rfl, Nat.le_of_ble_eq_true rfl⟩ dX11_rest_3 (fun ce q9 H locs w h1 h2 h3 => ?_)
  exact r_pass hlocks htab w h1 h2 h3 ⟨Nat.le_of_ble_eq_true rfl, Nat.le_of_ble_eq_true rfl⟩
set_option maxRecDepth 100000 in
set_option maxHeartbeats 4000000 in
theorem c_X11_rest_1 (l : Launch) (D : va_G) (cy : Nat → ClassId) (a0 a1 a2 a3 a4 a5 a6 a11 a12 a13 a14 a15 a16 a17 : Nat) (x0 : Int32) (x1 : Int32) (k0 : ¬ x0 < 0) (hst : l.stackTraces = false) : CtX l D cy yX11_rest cX11_rest 3 (some .int) 8 125 1 6 [(a0, .inr (11, [.ref a1, .int 0, .int 0, .int (-1), .ref a2, .ref a3, .ref a4, .ref a5, .ref a6, .null])), (a6, .inr (9, [.int 0, .int 2, .int 20, .int 120, .int 0, .int 0, .int 0, .int 0, .ref a11, .int 0, .ref a12, .ref a13, .int 0, .ref a14, .ref a15, .ref a16, .ref a17]))] [.ref a0, .int x0, .int x1] nNSE := by
  refine CtX.of (by decide +kernel) (Nat.le_of_ble_eq_true rfl) ?_
  intro p e s m args below meth c A ls C hlocks hml htab w hl
  have hl : lv_has ls 3 [(0, .ref a0), (1, .int x0), (2, .int x1)] := hl
  refine lv_aload_n C.1 C.2.1 dX11_rest_0 rfl (lv_at hl 0 rfl) ?_
  refine lv_iload_n C.1 C.2.1 dX11_rest_1 rfl (lv_at hl 1 rfl) ?_
  refine lv_iload_n C.1 C.2.1 dX11_rest_2 rfl (lv_at hl 2 rfl) ?_
  refine r_thrown C w fv_RX11_205 (c_X11_checkTwo_1 l D cy a0 a1 a2 a3 a4 a5 a6 a11 a12 a13 a14 a15 a16 a17 x0 x1 k0 hst) (hl.1.trans hml.symm) [0, 1] [] (wr := []) ⟨rfl, rfl, rfl, rfl, by decide⟩ 0 rfl rfl rfl rfl rfl ⟨Nat.le_of_ble_eq_true rfl, Nat.le_of_ble_eq_true rfl, Nat.le_of_ble_eq_true rfl⟩ 1 6 ⟨rfl, rfl, Nat.le_of_ble_eq_true rfl, Nat.le_of_ble_eq_true rfl⟩ dX11_rest_3 (fun ce q9 H locs w h1 h2 h3 => ?_)
  exact r_pass hlocks htab w h1 h2 h3 ⟨Nat.le_of_ble_eq_true rfl, Nat.le_of_ble_eq_true rfl⟩
theorem dX11_longest_0 : decode cX11_longest 0 = .ok (.aload_n 0, 1) := by decide +kernel
theorem dX11_longest_1 : decode cX11_longest 1 = .ok (.iload_n 1, 1) := by decide +kernel
theorem dX11_longest_2 : decode cX11_longest 2 = .ok (.iload_n 2, 1) := by decide +kernel
theorem dX11_longest_3 : decode cX11_longest 3 = .ok (.invokevirtual 205, 3) := by decide +kernel
set_option maxRecDepth 100000 in
set_option maxHeartbeats 4000000 in
theorem c_X11_longest_0 (l : Launch) (D : va_G) (cy : Nat → ClassId) (a0 a1 a2 a3 a4 a5 a6 : Nat) (x0 : Int32) (x1 : Int32) (x2 : Int32) (k0 : x0 < 0) (hst : l.stackTraces = false) : CtX l D cy yX11_longest cX11_longest 4 (some .int) 8 125 1 6 [(a0, .inr (11, [.ref a1, .int 0, .int 0, .int (-1), .ref a2, .ref a3, .ref a4, .ref a5, .ref a6, .null]))] [.ref a0, .int x0, .int x1, .int x2] nNSE := by
  refine CtX.of (by decide +kernel) (Nat.le_of_ble_eq_true rfl) ?_
  intro p e s m args below meth c A ls C hlocks hml htab w hl
  have hl : lv_has ls 4 [(0, .ref a0), (1, .int x0), (2, .int x1), (3, .int x2)] := hl
  refine lv_aload_n C.1 C.2.1 dX11_longest_0 rfl (lv_at hl 0 rfl) ?_
  refine lv_iload_n C.1 C.2.1 dX11_longest_1 rfl (lv_at hl 1 rfl) ?_
  refine lv_iload_n C.1 C.2.1 dX11_longest_2 rfl (lv_at hl 2 rfl) ?_
  refine r_thrown C w fv_RX11_205 (c_X11_checkTwo_0 l D cy a0 a1 a2 a3 a4 a5 a6 x0 x1 k0 hst) (hl.1.trans hml.symm) [0] [] (wr := []) ⟨rfl, rfl, rfl, rfl, by decide⟩ 0 rfl rfl rfl rfl rfl ⟨Nat.le_of_ble_eq_true rfl, Nat.le_of_ble_eq_true rfl, Nat.le_of_ble_eq_true rfl⟩ 1 6 ⟨rfl, rfl, Nat.le_of_ble_eq_true rfl, Nat.le_of_ble_eq_true rfl⟩ dX11_longest_3 (fun ce q9 H locs w h1 h2 h3 => ?_)
  exact r_pass hlocks htab w h1 h2 h3 ⟨Nat.le_of_ble_eq_true rfl, Nat.le_of_ble_eq_true rfl⟩
set_option maxRecDepth 100000 in
set_option maxHeartbeats 4000000 in
theorem c_X11_longest_1 (l : Launch) (D : va_G) (cy : Nat → ClassId) (a0 a1 a2 a3 a4 a5 a6 a11 a12 a13 a14 a15 a16 a17 : Nat) (x0 : Int32) (x1 : Int32) (x2 : Int32) (k0 : ¬ x0 < 0) (hst : l.stackTraces = false) : CtX l D cy yX11_longest cX11_longest 4 (some .int) 8 125 1 6 [(a0, .inr (11, [.ref a1, .int 0, .int 0, .int (-1), .ref a2, .ref a3, .ref a4, .ref a5, .ref a6, .null])), (a6, .inr (9, [.int 0, .int 2, .int 20, .int 120, .int 0, .int 0, .int 0, .int 0, .ref a11, .int 0, .ref a12, .ref a13, .int 0, .ref a14, .ref a15, .ref a16, .ref a17]))] [.ref a0, .int x0, .int x1, .int x2] nNSE := by
  refine CtX.of (by decide +kernel) (Nat.le_of_ble_eq_true rfl) ?_
  intro p e s m args below meth c A ls C hlocks hml htab w hl
  have hl : lv_has ls 4 [(0, .ref a0), (1, .int x0), (2, .int x1), (3, .int x2)] := hl
  refine lv_aload_n C.1 C.2.1 dX11_longest_0 rfl (lv_at hl 0 rfl) ?_
  refine lv_iload_n C.1 C.2.1 dX11_longest_1 rfl (lv_at hl 1 rfl) ?_
  refine lv_iload_n C.1 C.2.1 dX11_longest_2 rfl (lv_at hl 2 rfl) ?_
  refine r_thrown C w fv_RX11_205 (c_X11_checkTwo_1 l D cy a0 a1 a2 a3 a4 a5 a6 a11 a12 a13 a14 a15 a16 a17 x0 x1 k0 hst) (hl.1.trans hml.symm) [0, 1] [] (wr := []) ⟨rfl, rfl, rfl, rfl, by decide⟩ 0 rfl rfl rfl rfl rfl ⟨Nat.le_of_ble_eq_true rfl, Nat.le_of_ble_eq_true rfl, Nat.le_of_ble_eq_true rfl⟩ 1 6 ⟨rfl, rfl, Nat.le_of_ble_eq_true rfl, Nat.le_of_ble_eq_true rfl⟩ dX11_longest_3 (fun ce q9 H locs w h1 h2 h3 => ?_)
  exact r_pass hlocks htab w h1 h2 h3 ⟨Nat.le_of_ble_eq_true rfl, Nat.le_of_ble_eq_true rfl⟩
theorem dX11_liar_0 : decode cX11_liar 0 = .ok (.aload_n 0, 1) := by decide +kernel
theorem dX11_liar_1 : decode cX11_liar 1 = .ok (.iload_n 1, 1) := by decide +kernel
theorem dX11_liar_2 : decode cX11_liar 2 = .ok (.invokevirtual 128, 3) := by decide +kernel
set_option maxRecDepth 100000 in
set_option maxHeartbeats 4000000 in
theorem c_X11_liar_0 (l : Launch) (D : va_G) (cy : Nat → ClassId) (a0 a1 a2 a3 a4 a5 a6 : Nat) (x0 : Int32) (k0 : x0 < 0) (hst : l.stackTraces = false) : CtX l D cy yX11_liar cX11_liar 2 (some .int) 7 103 1 6 [(a0, .inr (11, [.ref a1, .int 0, .int 0, .int (-1), .ref a2, .ref a3, .ref a4, .ref a5, .ref a6, .null]))] [.ref a0, .int x0] nNSE := by
  refine CtX.of (by decide +kernel) (Nat.le_of_ble_eq_true rfl) ?_
  intro p e s m args below meth c A ls C hlocks hml htab w hl
  have hl : lv_has ls 2 [(0, .ref a0), (1, .int x0)] := hl
  refine lv_aload_n C.1 C.2.1 dX11_liar_0 rfl (lv_at hl 0 rfl) ?_
  refine lv_iload_n C.1 C.2.1 dX11_liar_1 rfl (lv_at hl 1 rfl) ?_
  refine r_thrown C w fv_RX11_128 (c_X11_checkSpeaker_0 l D cy a0 a1 a2 a3 a4 a5 a6 x0 k0 hst) (hl.1.trans hml.symm) [0] [] (wr := []) ⟨rfl, rfl, rfl, rfl, by decide⟩ 0 rfl rfl rfl rfl rfl ⟨Nat.le_of_ble_eq_true rfl, Nat.le_of_ble_eq_true rfl, Nat.le_of_ble_eq_true rfl⟩ 1 6 ⟨rfl, rfl, Nat.le_of_ble_eq_true rfl, Nat.le_of_ble_eq_true rfl⟩ dX11_liar_2 (fun ce q9 H locs w h1 h2 h3 => ?_)
  exact r_pass hlocks htab w h1 h2 h3 ⟨Nat.le_of_ble_eq_true rfl, Nat.le_of_ble_eq_true rfl⟩
set_option maxRecDepth 100000 in
set_option maxHeartbeats 4000000 in
theorem c_X11_liar_1 (l : Launch) (D : va_G) (cy : Nat → ClassId) (a0 a1 a2 a3 a4 a5 a6 a11 a12 a13 a14 a15 a16 a17 : Nat) (x0 : Int32) (k0 : ¬ x0 < 0) (hst : l.stackTraces = false) : CtX l D cy yX11_liar cX11_liar 2 (some .int) 7 103 1 6 [(a0, .inr (11, [.ref a1, .int 0, .int 0, .int (-1), .ref a2, .ref a3, .ref a4, .ref a5, .ref a6, .null])), (a6, .inr (9, [.int 0, .int 2, .int 20, .int 120, .int 0, .int 0, .int 0, .int 0, .ref a11, .int 0, .ref a12, .ref a13, .int 0, .ref a14, .ref a15, .ref a16, .ref a17]))] [.ref a0, .int x0] nNSE := by
  refine CtX.of (by decide +kernel) (Nat.le_of_ble_eq_true rfl) ?_
  intro p e s m args below meth c A ls C hlocks hml htab w hl
  have hl : lv_has ls 2 [(0, .ref a0), (1, .int x0)] := hl
  refine lv_aload_n C.1 C.2.1 dX11_liar_0 rfl (lv_at hl 0 rfl) ?_
  refine lv_iload_n C.1 C.2.1 dX11_liar_1 rfl (lv_at hl 1 rfl) ?_
  refine r_thrown C w fv_RX11_128 (c_X11_checkSpeaker_1 l D cy a0 a1 a2 a3 a4 a5 a6 a11 a12 a13 a14 a15 a16 a17 x0 k0 hst) (hl.1.trans hml.symm) [0, 1] [] (wr := []) ⟨rfl, rfl, rfl, rfl, by decide⟩ 0 rfl rfl rfl rfl rfl ⟨Nat.le_of_ble_eq_true rfl, Nat.le_of_ble_eq_true rfl, Nat.le_of_ble_eq_true rfl⟩ 1 6 ⟨rfl, rfl, Nat.le_of_ble_eq_true rfl, Nat.le_of_ble_eq_true rfl⟩ dX11_liar_2 (fun ce q9 H locs w h1 h2 h3 => ?_)
  exact r_pass hlocks htab w h1 h2 h3 ⟨Nat.le_of_ble_eq_true rfl, Nat.le_of_ble_eq_true rfl⟩
theorem dX11_which_0 : decode cX11_which 0 = .ok (.iconst 0, 1) := by decide +kernel
theorem dX11_which_1 : decode cX11_which 1 = .ok (.istore_n 1, 1) := by decide +kernel
theorem dX11_which_2 : decode cX11_which 2 = .ok (.iconst 0, 1) := by decide +kernel
theorem dX11_which_3 : decode cX11_which 3 = .ok (.istore_n 2, 1) := by decide +kernel
theorem dX11_which_4 : decode cX11_which 4 = .ok (.iload_n 2, 1) := by decide +kernel
theorem dX11_which_5 : decode cX11_which 5 = .ok (.aload_n 0, 1) := by decide +kernel
theorem dX11_which_6 : decode cX11_which 6 = .ok (.getfield 41, 3) := by decide +kernel
theorem dX11_which_9 : decode cX11_which 9 = .ok (.getfield 236, 3) := by decide +kernel
theorem dX11_which_12 : decode cX11_which 12 = .ok (.if_icmp .ge 30, 3) := by decide +kernel
theorem dX11_which_42 : decode cX11_which 42 = .ok (.iload_n 1, 1) := by decide +kernel
theorem dX11_which_43 : decode cX11_which 43 = .ok (.ireturn, 1) := by decide +kernel
set_option maxRecDepth 100000 in
set_option maxHeartbeats 4000000 in
theorem c_X11_which_0 (l : Launch) (D : va_G) (cy : Nat → ClassId) (a0 a1 a2 a3 a4 a5 a6 a11 a12 a13 a14 a15 a16 a17 : Nat) : Ct l D cy yX11_which cX11_which 3 (some .int) 0 0 0 0 [(a0, .inr (11, [.ref a1, .int 0, .int 0, .int (-1), .ref a2, .ref a3, .ref a4, .ref a5, .ref a6, .null])), (a6, .inr (9, [.int 0, .int 2, .int 20, .int 120, .int 0, .int 0, .int 0, .int 0, .ref a11, .int 0, .ref a12, .ref a13, .int 0, .ref a14, .ref a15, .ref a16, .ref a17]))] [.ref a0] (fun u : Unit => some (.int 0)) (fun _ => True) (fun u : Unit => [(a0, .inr (11, [.ref a1, .int 0, .int 0, .int (-1), .ref a2, .ref a3, .ref a4, .ref a5, .ref a6, .null])), (a6, .inr (9, [.int 0, .int 2, .int 20, .int 120, .int 0, .int 0, .int 0, .int 0, .ref a11, .int 0, .ref a12, .ref a13, .int 0, .ref a14, .ref a15, .ref a16, .ref a17]))]) := by
  refine Ct.of (by decide +kernel) (Nat.le_of_ble_eq_true rfl) ?_
  intro p e s m args below meth c A ls C hr hlocks hml hnm w hl
  have hl : lv_has ls 3 [(0, .ref a0)] := hl
  refine lv_iconst (v := 0) C.1 C.2.1 dX11_which_0 (by decide) ?_
  refine lv_istore_n (lv' := [(1, .int 0), (0, .ref a0)]) C.1 C.2.1 dX11_which_1 rfl hl (by decide) rfl (fun ls hl => ?_)
  refine lv_iconst (v := 0) C.1 C.2.1 dX11_which_2 (by decide) ?_
  refine lv_istore_n (lv' := [(2, .int 0), (1, .int 0), (0, .ref a0)]) C.1 C.2.1 dX11_which_3 rfl hl (by decide) rfl (fun ls hl => ?_)
  refine lv_iload_n C.1 C.2.1 dX11_which_4 rfl (lv_at hl 0 rfl) ?_
  refine lv_aload_n C.1 C.2.1 dX11_which_5 rfl (lv_at hl 2 rfl) ?_
  refine r_get C w 0 rfl rfl 8 (by decide) fl_RX11_41 (v := .ref a6) rfl dX11_which_6 ?_
  refine r_get C w 1 rfl rfl 5 (by decide) fl_RX11_236 (v := .int 0) rfl dX11_which_9 ?_
  refine b_icmp_ge_t C (tgt := 42) dX11_which_12 (by decide) (by decide) ?_
  refine lv_iload_n C.1 C.2.1 dX11_which_42 rfl (lv_at hl 1 rfl) ?_
  exact r_iret C w hlocks () hr rfl rfl trivial [0, 1] rfl rfl ⟨Nat.le_of_ble_eq_true rfl, Nat.le_of_ble_eq_true rfl⟩ dX11_which_43
theorem dX11_image_0 : decode cX11_image 0 = .ok (.aload_n 0, 1) := by decide +kernel
theorem dX11_image_1 : decode cX11_image 1 = .ok (.iload_n 1, 1) := by decide +kernel
theorem dX11_image_2 : decode cX11_image 2 = .ok (.invokevirtual 347, 3) := by decide +kernel
theorem dX11_checkImage_0 : decode cX11_checkImage 0 = .ok (.iload_n 1, 1) := by decide +kernel
theorem dX11_checkImage_1 : decode cX11_checkImage 1 = .ok (.ifCond .lt 8, 3) := by decide +kernel
theorem ft_378_399_382 : FTn RX11 378 399 382 nNSE "no such image" := ftn_of (by decide +kernel) (by decide +kernel) (by decide +kernel) (by decide +kernel) fa5_382 fa6_378_382
theorem dX11_checkImage_9 : decode cX11_checkImage 9 = .ok (.new 378, 3) := by decide +kernel
theorem dX11_checkImage_12 : decode cX11_checkImage 12 = .ok (.dup, 1) := by decide +kernel
theorem dX11_checkImage_13 : decode cX11_checkImage 13 = .ok (.ldc_w 399, 3) := by decide +kernel
theorem dX11_checkImage_16 : decode cX11_checkImage 16 = .ok (.invokespecial 382, 3) := by decide +kernel
theorem dX11_checkImage_19 : decode cX11_checkImage 19 = .ok (.athrow, 1) := by decide +kernel
set_option maxRecDepth 100000 in
set_option maxHeartbeats 4000000 in
theorem c_X11_checkImage_0 (l : Launch) (D : va_G) (cy : Nat → ClassId) (a0 a1 a2 a3 a4 a5 a6 : Nat) (x0 : Int32) (k0 : x0 < 0) (hst : l.stackTraces = false) : CtX l D cy yX11_checkImage cX11_checkImage 2 none 6 82 1 6 [(a0, .inr (11, [.ref a1, .int 0, .int 0, .int (-1), .ref a2, .ref a3, .ref a4, .ref a5, .ref a6, .null]))] [.ref a0, .int x0] nNSE := by
  refine CtX.of (by decide +kernel) (Nat.le_of_ble_eq_true rfl) ?_
  intro p e s m args below meth c A ls C hlocks hml htab w hl
  have hl : lv_has ls 2 [(0, .ref a0), (1, .int x0)] := hl
  refine lv_iload_n C.1 C.2.1 dX11_checkImage_0 rfl (lv_at hl 1 rfl) ?_
  refine b_if_lt_t C (tgt := 9) dX11_checkImage_1 (by decide) k0 ?_
  exact r_throwNW C hst w ft_378_399_382 (hl.1.trans hml.symm) hlocks htab dX11_checkImage_9 dX11_checkImage_12 dX11_checkImage_13 dX11_checkImage_16 dX11_checkImage_19 ⟨Nat.le_of_ble_eq_true rfl, Nat.le_of_ble_eq_true rfl, Nat.le_of_ble_eq_true rfl, Nat.le_of_ble_eq_true rfl⟩ ⟨Nat.le_of_ble_eq_true rfl, Nat.le_of_ble_eq_true rfl⟩
theorem dX11_checkImage_4 : decode cX11_checkImage 4 = .ok (.iload_n 1, 1) := by decide +kernel
theorem dX11_checkImage_5 : decode cX11_checkImage 5 = .ok (.iconst 3, 1) := by decide +kernel
theorem dX11_checkImage_6 : decode cX11_checkImage 6 = .ok (.if_icmp .lt 14, 3) := by decide +kernel
theorem dX11_checkImage_20 : decode cX11_checkImage 20 = .ok (.return_, 1) := by decide +kernel
set_option maxRecDepth 100000 in
set_option maxHeartbeats 4000000 in
theorem c_X11_checkImage_1 (l : Launch) (D : va_G) (cy : Nat → ClassId) (a0 a1 a2 a3 a4 a5 a6 : Nat) (x0 : Int32) (k0 : ¬ x0 < 0) (k1 : x0 < 3) : Ct l D cy yX11_checkImage cX11_checkImage 2 none 0 0 0 0 [(a0, .inr (11, [.ref a1, .int 0, .int 0, .int (-1), .ref a2, .ref a3, .ref a4, .ref a5, .ref a6, .null]))] [.ref a0, .int x0] (fun u : Unit => none) (fun _ => True) (fun u : Unit => [(a0, .inr (11, [.ref a1, .int 0, .int 0, .int (-1), .ref a2, .ref a3, .ref a4, .ref a5, .ref a6, .null]))]) := by
  refine Ct.of (by decide +kernel) (Nat.le_of_ble_eq_true rfl) ?_
  intro p e s m args below meth c A ls C hr hlocks hml hnm w hl
  have hl : lv_has ls 2 [(0, .ref a0), (1, .int x0)] := hl
  refine lv_iload_n C.1 C.2.1 dX11_checkImage_0 rfl (lv_at hl 1 rfl) ?_
  refine b_if_lt_f C (tgt := 9) dX11_checkImage_1 (by decide) k0 ?_
  refine lv_iload_n C.1 C.2.1 dX11_checkImage_4 rfl (lv_at hl 1 rfl) ?_
  refine lv_iconst (v := 3) C.1 C.2.1 dX11_checkImage_5 (by decide) ?_
  refine b_icmp_lt_t C (tgt := 20) dX11_checkImage_6 (by decide) k1 ?_
  exact r_vret C w hlocks () hr rfl trivial [0] rfl rfl ⟨Nat.le_of_ble_eq_true rfl, Nat.le_of_ble_eq_true rfl⟩ dX11_checkImage_20
set_option maxRecDepth 100000 in
set_option maxHeartbeats 4000000 in
theorem c_X11_checkImage_2 (l : Launch) (D : va_G) (cy : Nat → ClassId) (a0 a1 a2 a3 a4 a5 a6 : Nat) (x0 : Int32) (k0 : ¬ x0 < 0) (k1 : ¬ x0 < 3) (hst : l.stackTraces = false) : CtX l D cy yX11_checkImage cX11_checkImage 2 none 6 82 1 6 [(a0, .inr (11, [.ref a1, .int 0, .int 0, .int (-1), .ref a2, .ref a3, .ref a4, .ref a5, .ref a6, .null]))] [.ref a0, .int x0] nNSE := by
  refine CtX.of (by decide +kernel) (Nat.le_of_ble_eq_true rfl) ?_
  intro p e s m args below meth c A ls C hlocks hml htab w hl
  have hl : lv_has ls 2 [(0, .ref a0), (1, .int x0)] := hl
  refine lv_iload_n C.1 C.2.1 dX11_checkImage_0 rfl (lv_at hl 1 rfl) ?_
  refine b_if_lt_f C (tgt := 9) dX11_checkImage_1 (by decide) k0 ?_
  refine lv_iload_n C.1 C.2.1 dX11_checkImage_4 rfl (lv_at hl 1 rfl) ?_
  refine lv_iconst (v := 3) C.1 C.2.1 dX11_checkImage_5 (by decide) ?_
  refine b_icmp_lt_f C (tgt := 20) dX11_checkImage_6 (by decide) k1 ?_
  exact r_throwNW C hst w ft_378_399_382 (hl.1.trans hml.symm) hlocks htab dX11_checkImage_9 dX11_checkImage_12 dX11_checkImage_13 dX11_checkImage_16 dX11_checkImage_19 ⟨Nat.le_of_ble_eq_true rfl, Nat.le_of_ble_eq_true rfl, Nat.le_of_ble_eq_true rfl, Nat.le_of_ble_eq_true rfl⟩ ⟨Nat.le_of_ble_eq_true rfl, Nat.le_of_ble_eq_true rfl⟩
theorem fv_RX11_347 : FV RX11 347 yX11_checkImage cX11_checkImage 2 none 1 := ⟨⟨gw_mem (by decide +kernel) (by decide +kernel), gw_mem (by decide +kernel) (by decide +kernel), gw_mem (by decide +kernel) (by decide +kernel), gw_mem (by decide +kernel) (by decide +kernel), gw_mem (by decide +kernel) (by decide +kernel)⟩, ⟨by decide +kernel, by decide +kernel, by decide +kernel⟩⟩
set_option maxRecDepth 100000 in
set_option maxHeartbeats 4000000 in
theorem c_X11_image_0 (l : Launch) (D : va_G) (cy : Nat → ClassId) (a0 a1 a2 a3 a4 a5 a6 : Nat) (x0 : Int32) (k0 : x0 < 0) (hst : l.stackTraces = false) : CtX l D cy yX11_image cX11_image 2 none 7 103 1 6 [(a0, .inr (11, [.ref a1, .int 0, .int 0, .int (-1), .ref a2, .ref a3, .ref a4, .ref a5, .ref a6, .null]))] [.ref a0, .int x0] nNSE := by
  refine CtX.of (by decide +kernel) (Nat.le_of_ble_eq_true rfl) ?_
  intro p e s m args below meth c A ls C hlocks hml htab w hl
  have hl : lv_has ls 2 [(0, .ref a0), (1, .int x0)] := hl
  refine lv_aload_n C.1 C.2.1 dX11_image_0 rfl (lv_at hl 0 rfl) ?_
  refine lv_iload_n C.1 C.2.1 dX11_image_1 rfl (lv_at hl 1 rfl) ?_
  refine r_thrown C w fv_RX11_347 (c_X11_checkImage_0 l D cy a0 a1 a2 a3 a4 a5 a6 x0 k0 hst) (hl.1.trans hml.symm) [0] [] (wr := []) ⟨rfl, rfl, rfl, rfl, by decide⟩ 0 rfl rfl rfl rfl rfl ⟨Nat.le_of_ble_eq_true rfl, Nat.le_of_ble_eq_true rfl, Nat.le_of_ble_eq_true rfl⟩ 1 6 ⟨rfl, rfl, Nat.le_of_ble_eq_true rfl, Nat.le_of_ble_eq_true rfl⟩ dX11_image_2 (fun ce q9 H locs w h1 h2 h3 => ?_)
  exact r_pass hlocks htab w h1 h2 h3 ⟨Nat.le_of_ble_eq_true rfl, Nat.le_of_ble_eq_true rfl⟩
set_option maxRecDepth 100000 in
set_option maxHeartbeats 4000000 in
theorem c_X11_image_1 (l : Launch) (D : va_G) (cy : Nat → ClassId) (a0 a1 a2 a3 a4 a5 a6 : Nat) (x0 : Int32) (k0 : ¬ x0 < 0) (k1 : ¬ x0 < 3) (hst : l.stackTraces = false) : CtX l D cy yX11_image cX11_image 2 none 7 103 1 6 [(a0, .inr (11, [.ref a1, .int 0, .int 0, .int (-1), .ref a2, .ref a3, .ref a4, .ref a5, .ref a6, .null]))] [.ref a0, .int x0] nNSE := by
  refine CtX.of (by decide +kernel) (Nat.le_of_ble_eq_true rfl) ?_
  intro p e s m args below meth c A ls C hlocks hml htab w hl
  have hl : lv_has ls 2 [(0, .ref a0), (1, .int x0)] := hl
  refine lv_aload_n C.1 C.2.1 dX11_image_0 rfl (lv_at hl 0 rfl) ?_
  refine lv_iload_n C.1 C.2.1 dX11_image_1 rfl (lv_at hl 1 rfl) ?_
  refine r_thrown C w fv_RX11_347 (c_X11_checkImage_2 l D cy a0 a1 a2 a3 a4 a5 a6 x0 k0 k1 hst) (hl.1.trans hml.symm) [0] [] (wr := []) ⟨rfl, rfl, rfl, rfl, by decide⟩ 0 rfl rfl rfl rfl rfl ⟨Nat.le_of_ble_eq_true rfl, Nat.le_of_ble_eq_true rfl, Nat.le_of_ble_eq_true rfl⟩ 1 6 ⟨rfl, rfl, Nat.le_of_ble_eq_true rfl, Nat.le_of_ble_eq_true rfl⟩ dX11_image_2 (fun ce q9 H locs w h1 h2 h3 => ?_)
  exact r_pass hlocks htab w h1 h2 h3 ⟨Nat.le_of_ble_eq_true rfl, Nat.le_of_ble_eq_true rfl⟩
theorem dX11_image_5 : decode cX11_image 5 = .ok (.aload_n 0, 1) := by decide +kernel
theorem dX11_image_6 : decode cX11_image 6 = .ok (.getfield 30, 3) := by decide +kernel
theorem dX11_image_9 : decode cX11_image 9 = .ok (.iload_n 1, 1) := by decide +kernel
theorem dX11_image_10 : decode cX11_image 10 = .ok (.aload_n 0, 1) := by decide +kernel
theorem dX11_image_11 : decode cX11_image 11 = .ok (.getfield 41, 3) := by decide +kernel
set_option maxRecDepth 100000 in
set_option maxHeartbeats 4000000 in
theorem c_X11_checkImage_3 (l : Launch) (D : va_G) (cy : Nat → ClassId) (a0 a1 a2 a3 a4 a5 a6 : Nat) : Ct l D cy yX11_checkImage cX11_checkImage 2 none 0 0 0 0 [(a0, .inr (11, [.ref a1, .int 0, .int 0, .int (-1), .ref a2, .ref a3, .ref a4, .ref a5, .ref a6, .null]))] [.ref a0, .int 0] (fun u : Unit => none) (fun _ => True) (fun u : Unit => [(a0, .inr (11, [.ref a1, .int 0, .int 0, .int (-1), .ref a2, .ref a3, .ref a4, .ref a5, .ref a6, .null]))]) := by
  refine Ct.of (by decide +kernel) (Nat.le_of_ble_eq_true rfl) ?_
  intro p e s m args below meth c A ls C hr hlocks hml hnm w hl
  have hl : lv_has ls 2 [(0, .ref a0), (1, .int 0)] := hl
  refine lv_iload_n C.1 C.2.1 dX11_checkImage_0 rfl (lv_at hl 1 rfl) ?_
  refine b_if_lt_f C (tgt := 9) dX11_checkImage_1 (by decide) (by decide) ?_
  refine lv_iload_n C.1 C.2.1 dX11_checkImage_4 rfl (lv_at hl 1 rfl) ?_
  refine lv_iconst (v := 3) C.1 C.2.1 dX11_checkImage_5 (by decide) ?_
  refine b_icmp_lt_t C (tgt := 20) dX11_checkImage_6 (by decide) (by decide) ?_
  exact r_vret C w hlocks () hr rfl trivial [0] rfl rfl ⟨Nat.le_of_ble_eq_true rfl, Nat.le_of_ble_eq_true rfl⟩ dX11_checkImage_20
theorem dX11_image_14 : decode cX11_image 14 = .ok (.aastore, 1) := by decide +kernel
theorem dX11_image_15 : decode cX11_image 15 = .ok (.return_, 1) := by decide +kernel
set_option maxRecDepth 100000 in
set_option maxHeartbeats 4000000 in
theorem c_X11_image_2 (l : Launch) (D : va_G) (cy : Nat → ClassId) (a0 a1 a2 a3 a4 a5 a6 a11 a12 a13 a14 a15 a16 a17 : Nat) : Ct l D cy yX11_image cX11_image 2 none 1 21 0 0 [(a0, .inr (11, [.ref a1, .int 0, .int 0, .int (-1), .ref a2, .ref a3, .ref a4, .ref a5, .ref a6, .null])), (a4, .inl (cy 4, 3, .inr (.inr (.inr (.inr (fun _ => none)))))), (a6, .inr (9, [.int 0, .int 2, .int 20, .int 120, .int 0, .int 0, .int 0, .int 0, .ref a11, .int 0, .ref a12, .ref a13, .int 0, .ref a14, .ref a15, .ref a16, .ref a17]))] [.ref a0, .int 0] (fun u : Unit => none) (fun _ => True) (fun u : Unit => [(a4, .inl (cy 4, 3, .inr (.inr (.inr (.inr (va_up (fun _ => none) 0 (some a6))))))), (a6, .inr (9, [.int 0, .int 2, .int 20, .int 120, .int 0, .int 0, .int 0, .int 0, .ref a11, .int 0, .ref a12, .ref a13, .int 0, .ref a14, .ref a15, .ref a16, .ref a17])), (a0, .inr (11, [.ref a1, .int 0, .int 0, .int (-1), .ref a2, .ref a3, .ref a4, .ref a5, .ref a6, .null]))]) := by
  refine Ct.of (by decide +kernel) (Nat.le_of_ble_eq_true rfl) ?_
  intro p e s m args below meth c A ls C hr hlocks hml hnm w hl
  have hl : lv_has ls 2 [(0, .ref a0), (1, .int 0)] := hl
  refine lv_aload_n C.1 C.2.1 dX11_image_0 rfl (lv_at hl 0 rfl) ?_
  refine lv_iload_n C.1 C.2.1 dX11_image_1 rfl (lv_at hl 1 rfl) ?_
  refine r_callV C w fv_RX11_347 (c_X11_checkImage_3 l D cy a0 a1 a2 a3 a4 a5 a6) (hl.1.trans hml.symm) [0] [1, 2] (wr := [(a4, .inl (cy 4, 3, .inr (.inr (.inr (.inr (fun _ => none)))))), (a6, .inr (9, [.int 0, .int 2, .int 20, .int 120, .int 0, .int 0, .int 0, .int 0, .ref a11, .int 0, .ref a12, .ref a13, .int 0, .ref a14, .ref a15, .ref a16, .ref a17]))]) ⟨rfl, rfl, rfl, rfl, by decide⟩ 0 rfl rfl rfl rfl rfl ⟨Nat.le_of_ble_eq_true rfl, Nat.le_of_ble_eq_true rfl, Nat.le_of_ble_eq_true rfl⟩ 0 0 ⟨rfl, rfl, Nat.le_of_ble_eq_true rfl, Nat.le_of_ble_eq_true rfl⟩ dX11_image_2 (fun u H locs hp w => ?_)
  have w : Wd D A s.heap [(a4, .inl (cy 4, 3, .inr (.inr (.inr (.inr (fun _ => none)))))), (a6, .inr (9, [.int 0, .int 2, .int 20, .int 120, .int 0, .int 0, .int 0, .int 0, .ref a11, .int 0, .ref a12, .ref a13, .int 0, .ref a14, .ref a15, .ref a16, .ref a17])), (a0, .inr (11, [.ref a1, .int 0, .int 0, .int (-1), .ref a2, .ref a3, .ref a4, .ref a5, .ref a6, .null]))] _ _ := w
  refine r_top (g2 := F0 m 5 ls []) rfl ?_
  refine lv_aload_n C.1 C.2.1 dX11_image_5 rfl (lv_at hl 0 rfl) ?_
  refine r_get C w 2 rfl rfl 6 (by decide) fl_RX11_30 (v := .ref a4) rfl dX11_image_6 ?_
  refine lv_iload_n C.1 C.2.1 dX11_image_9 rfl (lv_at hl 1 rfl) ?_
  refine lv_aload_n C.1 C.2.1 dX11_image_10 rfl (lv_at hl 0 rfl) ?_
  refine r_get C w 2 rfl rfl 8 (by decide) fl_RX11_41 (v := .ref a6) rfl dX11_image_11 ?_
  refine r_aastT C w 0 1 rfl rfl (vinD (by decide)) (va_up (fun _ => none) 0 (some a6)) rfl [(a4, .inl (cy 4, 3, .inr (.inr (.inr (.inr (va_up (fun _ => none) 0 (some a6))))))), (a6, .inr (9, [.int 0, .int 2, .int 20, .int 120, .int 0, .int 0, .int 0, .int 0, .ref a11, .int 0, .ref a12, .ref a13, .int 0, .ref a14, .ref a15, .ref a16, .ref a17])), (a0, .inr (11, [.ref a1, .int 0, .int 0, .int (-1), .ref a2, .ref a3, .ref a4, .ref a5, .ref a6, .null]))] rfl dX11_image_14 (fun H locs w => ?_)
  exact r_vret C w hlocks () hr rfl trivial [0, 1, 2] rfl rfl ⟨Nat.le_of_ble_eq_true rfl, Nat.le_of_ble_eq_true rfl⟩ dX11_image_15
set_option maxRecDepth 100000 in
set_option maxHeartbeats 4000000 in
theorem c_X11_checkImage_4 (l : Launch) (D : va_G) (cy : Nat → ClassId) (a0 a1 a2 a3 a4 a5 a6 : Nat) : Ct l D cy yX11_checkImage cX11_checkImage 2 none 0 0 0 0 [(a0, .inr (11, [.ref a1, .int 0, .int 0, .int (-1), .ref a2, .ref a3, .ref a4, .ref a5, .ref a6, .null]))] [.ref a0, .int 2] (fun u : Unit => none) (fun _ => True) (fun u : Unit => [(a0, .inr (11, [.ref a1, .int 0, .int 0, .int (-1), .ref a2, .ref a3, .ref a4, .ref a5, .ref a6, .null]))]) := by
  refine Ct.of (by decide +kernel) (Nat.le_of_ble_eq_true rfl) ?_
  intro p e s m args below meth c A ls C hr hlocks hml hnm w hl
  have hl : lv_has ls 2 [(0, .ref a0), (1, .int 2)] := hl
  refine lv_iload_n C.1 C.2.1 dX11_checkImage_0 rfl (lv_at hl 1 rfl) ?_
  refine b_if_lt_f C (tgt := 9) dX11_checkImage_1 (by decide) (by decide) ?_
  refine lv_iload_n C.1 C.2.1 dX11_checkImage_4 rfl (lv_at hl 1 rfl) ?_
  refine lv_iconst (v := 3) C.1 C.2.1 dX11_checkImage_5 (by decide) ?_
  refine b_icmp_lt_t C (tgt := 20) dX11_checkImage_6 (by decide) (by decide) ?_
  exact r_vret C w hlocks () hr rfl trivial [0] rfl rfl ⟨Nat.le_of_ble_eq_true rfl, Nat.le_of_ble_eq_true rfl⟩ dX11_checkImage_20
set_option maxRecDepth 100000 in
set_option maxHeartbeats 4000000 in
theorem c_X11_image_3 (l : Launch) (D : va_G) (cy : Nat → ClassId) (a0 a1 a2 a3 a4 a5 a6 a11 a12 a13 a14 a15 a16 a17 : Nat) : Ct l D cy yX11_image cX11_image 2 none 1 21 0 0 [(a0, .inr (11, [.ref a1, .int 0, .int 0, .int (-1), .ref a2, .ref a3, .ref a4, .ref a5, .ref a6, .null])), (a4, .inl (cy 4, 3, .inr (.inr (.inr (.inr (fun _ => none)))))), (a6, .inr (9, [.int 0, .int 2, .int 20, .int 120, .int 0, .int 0, .int 0, .int 0, .ref a11, .int 0, .ref a12, .ref a13, .int 0, .ref a14, .ref a15, .ref a16, .ref a17]))] [.ref a0, .int 2] (fun u : Unit => none) (fun _ => True) (fun u : Unit => [(a4, .inl (cy 4, 3, .inr (.inr (.inr (.inr (va_up (fun _ => none) 2 (some a6))))))), (a6, .inr (9, [.int 0, .int 2, .int 20, .int 120, .int 0, .int 0, .int 0, .int 0, .ref a11, .int 0, .ref a12, .ref a13, .int 0, .ref a14, .ref a15, .ref a16, .ref a17])), (a0, .inr (11, [.ref a1, .int 0, .int 0, .int (-1), .ref a2, .ref a3, .ref a4, .ref a5, .ref a6, .null]))]) := by
  refine Ct.of (by decide +kernel) (Nat.le_of_ble_eq_true rfl) ?_
  intro p e s m args below meth c A ls C hr hlocks hml hnm w hl
  have hl : lv_has ls 2 [(0, .ref a0), (1, .int 2)] := hl
  refine lv_aload_n C.1 C.2.1 dX11_image_0 rfl (lv_at hl 0 rfl) ?_
  refine lv_iload_n C.1 C.2.1 dX11_image_1 rfl (lv_at hl 1 rfl) ?_
  refine r_callV C w fv_RX11_347 (c_X11_checkImage_4 l D cy a0 a1 a2 a3 a4 a5 a6) (hl.1.trans hml.symm) [0] [1, 2] (wr := [(a4, .inl (cy 4, 3, .inr (.inr (.inr (.inr (fun _ => none)))))), (a6, .inr (9, [.int 0, .int 2, .int 20, .int 120, .int 0, .int 0, .int 0, .int 0, .ref a11, .int 0, .ref a12, .ref a13, .int 0, .ref a14, .ref a15, .ref a16, .ref a17]))]) ⟨rfl, rfl, rfl, rfl, by decide⟩ 0 rfl rfl rfl rfl rfl ⟨Nat.le_of_ble_eq_true rfl, Nat.le_of_ble_eq_true rfl, Nat.le_of_ble_eq_true rfl⟩ 0 0 ⟨rfl, rfl, Nat.le_of_ble_eq_true rfl, Nat.le_of_ble_eq_true rfl⟩ dX11_image_2 (fun u H locs hp w => ?_)
  have w : Wd D A s.heap [(a4, .inl (cy 4, 3, .inr (.inr (.inr (.inr (fun _ => none)))))), (a6, .inr (9, [.int 0, .int 2, .int 20, .int 120, .int 0, .int 0, .int 0, .int 0, .ref a11, .int 0, .ref a12, .ref a13, .int 0, .ref a14, .ref a15, .ref a16, .ref a17])), (a0, .inr (11, [.ref a1, .int 0, .int 0, .int (-1), .ref a2, .ref a3, .ref a4, .ref a5, .ref a6, .null]))] _ _ := w
  refine r_top (g2 := F0 m 5 ls []) rfl ?_
  refine lv_aload_n C.1 C.2.1 dX11_image_5 rfl (lv_at hl 0 rfl) ?_
  refine r_get C w 2 rfl rfl 6 (by decide) fl_RX11_30 (v := .ref a4) rfl dX11_image_6 ?_
  refine lv_iload_n C.1 C.2.1 dX11_image_9 rfl (lv_at hl 1 rfl) ?_
  refine lv_aload_n C.1 C.2.1 dX11_image_10 rfl (lv_at hl 0 rfl) ?_
  refine r_get C w 2 rfl rfl 8 (by decide) fl_RX11_41 (v := .ref a6) rfl dX11_image_11 ?_
  refine r_aastT C w 0 1 rfl rfl (vinD (by decide)) (va_up (fun _ => none) 2 (some a6)) rfl [(a4, .inl (cy 4, 3, .inr (.inr (.inr (.inr (va_up (fun _ => none) 2 (some a6))))))), (a6, .inr (9, [.int 0, .int 2, .int 20, .int 120, .int 0, .int 0, .int 0, .int 0, .ref a11, .int 0, .ref a12, .ref a13, .int 0, .ref a14, .ref a15, .ref a16, .ref a17])), (a0, .inr (11, [.ref a1, .int 0, .int 0, .int (-1), .ref a2, .ref a3, .ref a4, .ref a5, .ref a6, .null]))] rfl dX11_image_14 (fun H locs w => ?_)
  exact r_vret C w hlocks () hr rfl trivial [0, 1, 2] rfl rfl ⟨Nat.le_of_ble_eq_true rfl, Nat.le_of_ble_eq_true rfl⟩ dX11_image_15
set_option maxRecDepth 100000 in
set_option maxHeartbeats 4000000 in
theorem c_X11_checkImage_5 (l : Launch) (D : va_G) (cy : Nat → ClassId) (a0 a1 a2 a3 a4 a5 a6 : Nat) : Ct l D cy yX11_checkImage cX11_checkImage 2 none 0 0 0 0 [(a0, .inr (11, [.ref a1, .int 0, .int 0, .int (-1), .ref a2, .ref a3, .ref a4, .ref a5, .ref a6, .null]))] [.ref a0, .int 1] (fun u : Unit => none) (fun _ => True) (fun u : Unit => [(a0, .inr (11, [.ref a1, .int 0, .int 0, .int (-1), .ref a2, .ref a3, .ref a4, .ref a5, .ref a6, .null]))]) := by
  refine Ct.of (by decide +kernel) (Nat.le_of_ble_eq_true rfl) ?_
  intro p e s m args below meth c A ls C hr hlocks hml hnm w hl
  have hl : lv_has ls 2 [(0, .ref a0), (1, .int 1)] := hl
  refine lv_iload_n C.1 C.2.1 dX11_checkImage_0 rfl (lv_at hl 1 rfl) ?_
  refine b_if_lt_f C (tgt := 9) dX11_checkImage_1 (by decide) (by decide) ?_
  refine lv_iload_n C.1 C.2.1 dX11_checkImage_4 rfl (lv_at hl 1 rfl) ?_
  refine lv_iconst (v := 3) C.1 C.2.1 dX11_checkImage_5 (by decide) ?_
  refine b_icmp_lt_t C (tgt := 20) dX11_checkImage_6 (by decide) (by decide) ?_
  exact r_vret C w hlocks () hr rfl trivial [0] rfl rfl ⟨Nat.le_of_ble_eq_true rfl, Nat.le_of_ble_eq_true rfl⟩ dX11_checkImage_20
set_option maxRecDepth 100000 in
set_option maxHeartbeats 4000000 in
theorem c_X11_image_4 (l : Launch) (D : va_G) (cy : Nat → ClassId) (a0 a1 a2 a3 a4 a5 a6 a11 a12 a13 a14 a15 a16 a17 : Nat) : Ct l D cy yX11_image cX11_image 2 none 1 21 0 0 [(a0, .inr (11, [.ref a1, .int 0, .int 0, .int (-1), .ref a2, .ref a3, .ref a4, .ref a5, .ref a6, .null])), (a4, .inl (cy 4, 3, .inr (.inr (.inr (.inr (fun _ => none)))))), (a6, .inr (9, [.int 0, .int 2, .int 20, .int 120, .int 0, .int 0, .int 0, .int 0, .ref a11, .int 0, .ref a12, .ref a13, .int 0, .ref a14, .ref a15, .ref a16, .ref a17]))] [.ref a0, .int 1] (fun u : Unit => none) (fun _ => True) (fun u : Unit => [(a4, .inl (cy 4, 3, .inr (.inr (.inr (.inr (va_up (fun _ => none) 1 (some a6))))))), (a6, .inr (9, [.int 0, .int 2, .int 20, .int 120, .int 0, .int 0, .int 0, .int 0, .ref a11, .int 0, .ref a12, .ref a13, .int 0, .ref a14, .ref a15, .ref a16, .ref a17])), (a0, .inr (11, [.ref a1, .int 0, .int 0, .int (-1), .ref a2, .ref a3, .ref a4, .ref a5, .ref a6, .null]))]) := by
  refine Ct.of (by decide +kernel) (Nat.le_of_ble_eq_true rfl) ?_
  intro p e s m args below meth c A ls C hr hlocks hml hnm w hl
  have hl : lv_has ls 2 [(0, .ref a0), (1, .int 1)] := hl
  refine lv_aload_n C.1 C.2.1 dX11_image_0 rfl (lv_at hl 0 rfl) ?_
  refine lv_iload_n C.1 C.2.1 dX11_image_1 rfl (lv_at hl 1 rfl) ?_
  refine r_callV C w fv_RX11_347 (c_X11_checkImage_5 l D cy a0 a1 a2 a3 a4 a5 a6) (hl.1.trans hml.symm) [0] [1, 2] (wr := [(a4, .inl (cy 4, 3, .inr (.inr (.inr (.inr (fun _ => none)))))), (a6, .inr (9, [.int 0, .int 2, .int 20, .int 120, .int 0, .int 0, .int 0, .int 0, .ref a11, .int 0, .ref a12, .ref a13, .int 0, .ref a14, .ref a15, .ref a16, .ref a17]))]) ⟨rfl, rfl, rfl, rfl, by decide⟩ 0 rfl rfl rfl rfl rfl ⟨Nat.le_of_ble_eq_true rfl, Nat.le_of_ble_eq_true rfl, Nat.le_of_ble_eq_true rfl⟩ 0 0 ⟨rfl, rfl, Nat.le_of_ble_eq_true rfl, Nat.le_of_ble_eq_true rfl⟩ dX11_image_2 (fun u H locs hp w => ?_)
  have w : Wd D A s.heap [(a4, .inl (cy 4, 3, .inr (.inr (.inr (.inr (fun _ => none)))))), (a6, .inr (9, [.int 0, .int 2, .int 20, .int 120, .int 0, .int 0, .int 0, .int 0, .ref a11, .int 0, .ref a12, .ref a13, .int 0, .ref a14, .ref a15, .ref a16, .ref a17])), (a0, .inr (11, [.ref a1, .int 0, .int 0, .int (-1), .ref a2, .ref a3, .ref a4, .ref a5, .ref a6, .null]))] _ _ := w
  refine r_top (g2 := F0 m 5 ls []) rfl ?_
  refine lv_aload_n C.1 C.2.1 dX11_image_5 rfl (lv_at hl 0 rfl) ?_
  refine r_get C w 2 rfl rfl 6 (by decide) fl_RX11_30 (v := .ref a4) rfl dX11_image_6 ?_
  refine lv_iload_n C.1 C.2.1 dX11_image_9 rfl (lv_at hl 1 rfl) ?_
  refine lv_aload_n C.1 C.2.1 dX11_image_10 rfl (lv_at hl 0 rfl) ?_
  refine r_get C w 2 rfl rfl 8 (by decide) fl_RX11_41 (v := .ref a6) rfl dX11_image_11 ?_
  refine r_aastT C w 0 1 rfl rfl (vinD (by decide)) (va_up (fun _ => none) 1 (some a6)) rfl [(a4, .inl (cy 4, 3, .inr (.inr (.inr (.inr (va_up (fun _ => none) 1 (some a6))))))), (a6, .inr (9, [.int 0, .int 2, .int 20, .int 120, .int 0, .int 0, .int 0, .int 0, .ref a11, .int 0, .ref a12, .ref a13, .int 0, .ref a14, .ref a15, .ref a16, .ref a17])), (a0, .inr (11, [.ref a1, .int 0, .int 0, .int (-1), .ref a2, .ref a3, .ref a4, .ref a5, .ref a6, .null]))] rfl dX11_image_14 (fun H locs w => ?_)
  exact r_vret C w hlocks () hr rfl trivial [0, 1, 2] rfl rfl ⟨Nat.le_of_ble_eq_true rfl, Nat.le_of_ble_eq_true rfl⟩ dX11_image_15
theorem dX11_restore_0 : decode cX11_restore 0 = .ok (.aload_n 0, 1) := by decide +kernel
theorem dX11_restore_1 : decode cX11_restore 1 = .ok (.iload_n 1, 1) := by decide +kernel
theorem dX11_restore_2 : decode cX11_restore 2 = .ok (.invokevirtual 347, 3) := by decide +kernel
set_option maxRecDepth 100000 in
set_option maxHeartbeats 4000000 in
theorem c_X11_restore_0 (l : Launch) (D : va_G) (cy : Nat → ClassId) (a0 a1 a2 a3 a4 a5 a6 : Nat) (x0 : Int32) (k0 : x0 < 0) (hst : l.stackTraces = false) : CtX l D cy yX11_restore cX11_restore 3 none 7 103 1 6 [(a0, .inr (11, [.ref a1, .int 0, .int 0, .int (-1), .ref a2, .ref a3, .ref a4, .ref a5, .ref a6, .null]))] [.ref a0, .int x0] nNSE := by
  refine CtX.of (by decide +kernel) (Nat.le_of_ble_eq_true rfl) ?_
  intro p e s m args below meth c A ls C hlocks hml htab w hl
  have hl : lv_has ls 3 [(0, .ref a0), (1, .int x0)] := hl
  refine lv_aload_n C.1 C.2.1 dX11_restore_0 rfl (lv_at hl 0 rfl) ?_
  refine lv_iload_n C.1 C.2.1 dX11_restore_1 rfl (lv_at hl 1 rfl) ?_
  refine r_thrown C w fv_RX11_347 (c_X11_checkImage_0 l D cy a0 a1 a2 a3 a4 a5 a6 x0 k0 hst) (hl.1.trans hml.symm) [0] [] (wr := []) ⟨rfl, rfl, rfl, rfl, by decide⟩ 0 rfl rfl rfl rfl rfl ⟨Nat.le_of_ble_eq_true rfl, Nat.le_of_ble_eq_true rfl, Nat.le_of_ble_eq_true rfl⟩ 1 6 ⟨rfl, rfl, Nat.le_of_ble_eq_true rfl, Nat.le_of_ble_eq_true rfl⟩ dX11_restore_2 (fun ce q9 H locs w h1 h2 h3 => ?_)
  exact r_pass hlocks htab w h1 h2 h3 ⟨Nat.le_of_ble_eq_true rfl, Nat.le_of_ble_eq_true rfl⟩
set_option maxRecDepth 100000 in
set_option maxHeartbeats 4000000 in
theorem c_X11_restore_1 (l : Launch) (D : va_G) (cy : Nat → ClassId) (a0 a1 a2 a3 a4 a5 a6 : Nat) (x0 : Int32) (k0 : ¬ x0 < 0) (k1 : ¬ x0 < 3) (hst : l.stackTraces = false) : CtX l D cy yX11_restore cX11_restore 3 none 7 103 1 6 [(a0, .inr (11, [.ref a1, .int 0, .int 0, .int (-1), .ref a2, .ref a3, .ref a4, .ref a5, .ref a6, .null]))] [.ref a0, .int x0] nNSE := by
  refine CtX.of (by decide +kernel) (Nat.le_of_ble_eq_true rfl) ?_
  intro p e s m args below meth c A ls C hlocks hml htab w hl
  have hl : lv_has ls 3 [(0, .ref a0), (1, .int x0)] := hl
  refine lv_aload_n C.1 C.2.1 dX11_restore_0 rfl (lv_at hl 0 rfl) ?_
  refine lv_iload_n C.1 C.2.1 dX11_restore_1 rfl (lv_at hl 1 rfl) ?_
  refine r_thrown C w fv_RX11_347 (c_X11_checkImage_2 l D cy a0 a1 a2 a3 a4 a5 a6 x0 k0 k1 hst) (hl.1.trans hml.symm) [0] [] (wr := []) ⟨rfl, rfl, rfl, rfl, by decide⟩ 0 rfl rfl rfl rfl rfl ⟨Nat.le_of_ble_eq_true rfl, Nat.le_of_ble_eq_true rfl, Nat.le_of_ble_eq_true rfl⟩ 1 6 ⟨rfl, rfl, Nat.le_of_ble_eq_true rfl, Nat.le_of_ble_eq_true rfl⟩ dX11_restore_2 (fun ce q9 H locs w h1 h2 h3 => ?_)
  exact r_pass hlocks htab w h1 h2 h3 ⟨Nat.le_of_ble_eq_true rfl, Nat.le_of_ble_eq_true rfl⟩
theorem dX11_restore_5 : decode cX11_restore 5 = .ok (.aload_n 0, 1) := by decide +kernel
theorem dX11_restore_6 : decode cX11_restore 6 = .ok (.getfield 30, 3) := by decide +kernel
theorem dX11_restore_9 : decode cX11_restore 9 = .ok (.iload_n 1, 1) := by decide +kernel
theorem dX11_restore_10 : decode cX11_restore 10 = .ok (.aaload, 1) := by decide +kernel
theorem dX11_restore_11 : decode cX11_restore 11 = .ok (.astore_n 2, 1) := by decide +kernel
theorem dX11_restore_12 : decode cX11_restore 12 = .ok (.aload_n 2, 1) := by decide +kernel
theorem dX11_restore_13 : decode cX11_restore 13 = .ok (.ifnonnull 14, 3) := by decide +kernel
theorem fa5_354 : ∀ w ∈ vx_atS RX11 354 nISE ["java/lang/RuntimeException", "java/lang/Exception"], w ∈ lw_tbl ∧ (isCas w = true ∨ goodWord w = true) := by decide +kernel
theorem fa6_350_354 : ∀ w ∈ Cond.classLink RX11 350 nISE :: Cond.initialized nISE :: vx_atS RX11 354 nISE ["java/lang/RuntimeException", "java/lang/Exception"], vx_ot w = true := by decide +kernel
theorem ft_350_352_354 : FT RX11 350 352 354 nISE "no image was made" := ft_of (by decide +kernel) (by decide +kernel) (by decide +kernel) (by decide +kernel) fa5_354 fa6_350_354
theorem dX11_restore_16 : decode cX11_restore 16 = .ok (.new 350, 3) := by decide +kernel
theorem dX11_restore_19 : decode cX11_restore 19 = .ok (.dup, 1) := by decide +kernel
theorem dX11_restore_20 : decode cX11_restore 20 = .ok (.ldc_w 352, 3) := by decide +kernel
theorem dX11_restore_23 : decode cX11_restore 23 = .ok (.invokespecial 354, 3) := by decide +kernel
theorem dX11_restore_26 : decode cX11_restore 26 = .ok (.athrow, 1) := by decide +kernel
set_option maxRecDepth 100000 in
set_option maxHeartbeats 4000000 in
theorem c_X11_restore_2 (l : Launch) (D : va_G) (cy : Nat → ClassId) (a0 a1 a2 a3 a4 a5 a6 : Nat) (hst : l.stackTraces = false) : CtX l D cy yX11_restore cX11_restore 3 none 6 82 1 6 [(a0, .inr (11, [.ref a1, .int 0, .int 0, .int (-1), .ref a2, .ref a3, .ref a4, .ref a5, .ref a6, .null])), (a4, .inl (cy 4, 3, .inr (.inr (.inr (.inr (fun _ => none))))))] [.ref a0, .int 0] nISE := by
  refine CtX.of (by decide +kernel) (Nat.le_of_ble_eq_true rfl) ?_
  intro p e s m args below meth c A ls C hlocks hml htab w hl
  have hl : lv_has ls 3 [(0, .ref a0), (1, .int 0)] := hl
  refine lv_aload_n C.1 C.2.1 dX11_restore_0 rfl (lv_at hl 0 rfl) ?_
  refine lv_iload_n C.1 C.2.1 dX11_restore_1 rfl (lv_at hl 1 rfl) ?_
  refine r_callV C w fv_RX11_347 (c_X11_checkImage_3 l D cy a0 a1 a2 a3 a4 a5 a6) (hl.1.trans hml.symm) [0] [1] (wr := [(a4, .inl (cy 4, 3, .inr (.inr (.inr (.inr (fun _ => none))))))]) ⟨rfl, rfl, rfl, rfl, by decide⟩ 0 rfl rfl rfl rfl rfl ⟨Nat.le_of_ble_eq_true rfl, Nat.le_of_ble_eq_true rfl, Nat.le_of_ble_eq_true rfl⟩ 0 0 ⟨rfl, rfl, Nat.le_of_ble_eq_true rfl, Nat.le_of_ble_eq_true rfl⟩ dX11_restore_2 (fun u H locs hp w => ?_)
  have w : Wd D A s.heap [(a4, .inl (cy 4, 3, .inr (.inr (.inr (.inr (fun _ => none)))))), (a0, .inr (11, [.ref a1, .int 0, .int 0, .int (-1), .ref a2, .ref a3, .ref a4, .ref a5, .ref a6, .null]))] _ _ := w
  refine r_top (g2 := F0 m 5 ls []) rfl ?_
  refine lv_aload_n C.1 C.2.1 dX11_restore_5 rfl (lv_at hl 0 rfl) ?_
  refine r_get C w 1 rfl rfl 6 (by decide) fl_RX11_30 (v := .ref a4) rfl dX11_restore_6 ?_
  refine lv_iload_n C.1 C.2.1 dX11_restore_9 rfl (lv_at hl 1 rfl) ?_
  refine r_aald C w 0 4 rfl rfl rfl (v := .null) (vinD (by decide)) rfl dX11_restore_10 ?_
  refine lv_astore_nN (lv' := [(2, .null), (0, .ref a0), (1, .int 0)]) C.1 C.2.1 dX11_restore_11 rfl hl (by decide) rfl (fun ls hl => ?_)
  refine lv_aload_nN C.1 C.2.1 dX11_restore_12 rfl (lv_at hl 0 rfl) ?_
  refine lv_ifnonnullN C.1 C.2.1 dX11_restore_13 ?_
  exact r_throwSW C hst w ft_350_352_354 (hl.1.trans hml.symm) hlocks htab dX11_restore_16 dX11_restore_19 dX11_restore_20 dX11_restore_23 dX11_restore_26 ⟨Nat.le_of_ble_eq_true rfl, Nat.le_of_ble_eq_true rfl, Nat.le_of_ble_eq_true rfl, Nat.le_of_ble_eq_true rfl⟩ ⟨Nat.le_of_ble_eq_true rfl, Nat.le_of_ble_eq_true rfl⟩
set_option maxRecDepth 100000 in
set_option maxHeartbeats 4000000 in
theorem c_X11_restore_3 (l : Launch) (D : va_G) (cy : Nat → ClassId) (a0 a1 a2 a3 a4 a5 a6 : Nat) (hst : l.stackTraces = false) : CtX l D cy yX11_restore cX11_restore 3 none 6 82 1 6 [(a0, .inr (11, [.ref a1, .int 0, .int 0, .int (-1), .ref a2, .ref a3, .ref a4, .ref a5, .ref a6, .null])), (a4, .inl (cy 4, 3, .inr (.inr (.inr (.inr (fun _ => none))))))] [.ref a0, .int 2] nISE := by
  refine CtX.of (by decide +kernel) (Nat.le_of_ble_eq_true rfl) ?_
  intro p e s m args below meth c A ls C hlocks hml htab w hl
  have hl : lv_has ls 3 [(0, .ref a0), (1, .int 2)] := hl
  refine lv_aload_n C.1 C.2.1 dX11_restore_0 rfl (lv_at hl 0 rfl) ?_
  refine lv_iload_n C.1 C.2.1 dX11_restore_1 rfl (lv_at hl 1 rfl) ?_
  refine r_callV C w fv_RX11_347 (c_X11_checkImage_4 l D cy a0 a1 a2 a3 a4 a5 a6) (hl.1.trans hml.symm) [0] [1] (wr := [(a4, .inl (cy 4, 3, .inr (.inr (.inr (.inr (fun _ => none))))))]) ⟨rfl, rfl, rfl, rfl, by decide⟩ 0 rfl rfl rfl rfl rfl ⟨Nat.le_of_ble_eq_true rfl, Nat.le_of_ble_eq_true rfl, Nat.le_of_ble_eq_true rfl⟩ 0 0 ⟨rfl, rfl, Nat.le_of_ble_eq_true rfl, Nat.le_of_ble_eq_true rfl⟩ dX11_restore_2 (fun u H locs hp w => ?_)
  have w : Wd D A s.heap [(a4, .inl (cy 4, 3, .inr (.inr (.inr (.inr (fun _ => none)))))), (a0, .inr (11, [.ref a1, .int 0, .int 0, .int (-1), .ref a2, .ref a3, .ref a4, .ref a5, .ref a6, .null]))] _ _ := w
  refine r_top (g2 := F0 m 5 ls []) rfl ?_
  refine lv_aload_n C.1 C.2.1 dX11_restore_5 rfl (lv_at hl 0 rfl) ?_
  refine r_get C w 1 rfl rfl 6 (by decide) fl_RX11_30 (v := .ref a4) rfl dX11_restore_6 ?_
  refine lv_iload_n C.1 C.2.1 dX11_restore_9 rfl (lv_at hl 1 rfl) ?_
  refine r_aald C w 0 4 rfl rfl rfl (v := .null) (vinD (by decide)) rfl dX11_restore_10 ?_
  refine lv_astore_nN (lv' := [(2, .null), (0, .ref a0), (1, .int 2)]) C.1 C.2.1 dX11_restore_11 rfl hl (by decide) rfl (fun ls hl => ?_)
  refine lv_aload_nN C.1 C.2.1 dX11_restore_12 rfl (lv_at hl 0 rfl) ?_
  refine lv_ifnonnullN C.1 C.2.1 dX11_restore_13 ?_
  exact r_throwSW C hst w ft_350_352_354 (hl.1.trans hml.symm) hlocks htab dX11_restore_16 dX11_restore_19 dX11_restore_20 dX11_restore_23 dX11_restore_26 ⟨Nat.le_of_ble_eq_true rfl, Nat.le_of_ble_eq_true rfl, Nat.le_of_ble_eq_true rfl, Nat.le_of_ble_eq_true rfl⟩ ⟨Nat.le_of_ble_eq_true rfl, Nat.le_of_ble_eq_true rfl⟩
set_option maxRecDepth 100000 in
set_option maxHeartbeats 4000000 in
theorem c_X11_restore_4 (l : Launch) (D : va_G) (cy : Nat → ClassId) (a0 a1 a2 a3 a4 a5 a6 : Nat) (hst : l.stackTraces = false) : CtX l D cy yX11_restore cX11_restore 3 none 6 82 1 6 [(a0, .inr (11, [.ref a1, .int 0, .int 0, .int (-1), .ref a2, .ref a3, .ref a4, .ref a5, .ref a6, .null])), (a4, .inl (cy 4, 3, .inr (.inr (.inr (.inr (fun _ => none))))))] [.ref a0, .int 1] nISE := by
  refine CtX.of (by decide +kernel) (Nat.le_of_ble_eq_true rfl) ?_
  intro p e s m args below meth c A ls C hlocks hml htab w hl
  have hl : lv_has ls 3 [(0, .ref a0), (1, .int 1)] := hl
  refine lv_aload_n C.1 C.2.1 dX11_restore_0 rfl (lv_at hl 0 rfl) ?_
  refine lv_iload_n C.1 C.2.1 dX11_restore_1 rfl (lv_at hl 1 rfl) ?_
  refine r_callV C w fv_RX11_347 (c_X11_checkImage_5 l D cy a0 a1 a2 a3 a4 a5 a6) (hl.1.trans hml.symm) [0] [1] (wr := [(a4, .inl (cy 4, 3, .inr (.inr (.inr (.inr (fun _ => none))))))]) ⟨rfl, rfl, rfl, rfl, by decide⟩ 0 rfl rfl rfl rfl rfl ⟨Nat.le_of_ble_eq_true rfl, Nat.le_of_ble_eq_true rfl, Nat.le_of_ble_eq_true rfl⟩ 0 0 ⟨rfl, rfl, Nat.le_of_ble_eq_true rfl, Nat.le_of_ble_eq_true rfl⟩ dX11_restore_2 (fun u H locs hp w => ?_)
  have w : Wd D A s.heap [(a4, .inl (cy 4, 3, .inr (.inr (.inr (.inr (fun _ => none)))))), (a0, .inr (11, [.ref a1, .int 0, .int 0, .int (-1), .ref a2, .ref a3, .ref a4, .ref a5, .ref a6, .null]))] _ _ := w
  refine r_top (g2 := F0 m 5 ls []) rfl ?_
  refine lv_aload_n C.1 C.2.1 dX11_restore_5 rfl (lv_at hl 0 rfl) ?_
  refine r_get C w 1 rfl rfl 6 (by decide) fl_RX11_30 (v := .ref a4) rfl dX11_restore_6 ?_
  refine lv_iload_n C.1 C.2.1 dX11_restore_9 rfl (lv_at hl 1 rfl) ?_
  refine r_aald C w 0 4 rfl rfl rfl (v := .null) (vinD (by decide)) rfl dX11_restore_10 ?_
  refine lv_astore_nN (lv' := [(2, .null), (0, .ref a0), (1, .int 1)]) C.1 C.2.1 dX11_restore_11 rfl hl (by decide) rfl (fun ls hl => ?_)
  refine lv_aload_nN C.1 C.2.1 dX11_restore_12 rfl (lv_at hl 0 rfl) ?_
  refine lv_ifnonnullN C.1 C.2.1 dX11_restore_13 ?_
  exact r_throwSW C hst w ft_350_352_354 (hl.1.trans hml.symm) hlocks htab dX11_restore_16 dX11_restore_19 dX11_restore_20 dX11_restore_23 dX11_restore_26 ⟨Nat.le_of_ble_eq_true rfl, Nat.le_of_ble_eq_true rfl, Nat.le_of_ble_eq_true rfl, Nat.le_of_ble_eq_true rfl⟩ ⟨Nat.le_of_ble_eq_true rfl, Nat.le_of_ble_eq_true rfl⟩
