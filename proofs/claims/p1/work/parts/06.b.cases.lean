theorem dL_law_711 : decode cL_law 711 = .ok (.aload_n 1, 1) := by decide +kernel
theorem dL_law_712 : decode cL_law 712 = .ok (.aload_n 0, 1) := by decide +kernel
theorem dL_law_713 : decode cL_law 713 = .ok (.iload 4, 2) := by decide +kernel
theorem dL_law_715 : decode cL_law 715 = .ok (.iconst 1, 1) := by decide +kernel
theorem dL_law_716 : decode cL_law 716 = .ok (.iadd, 1) := by decide +kernel
theorem dL_law_717 : decode cL_law 717 = .ok (.iaload, 1) := by decide +kernel
theorem dL_law_718 : decode cL_law 718 = .ok (.aload_n 0, 1) := by decide +kernel
theorem dL_law_719 : decode cL_law 719 = .ok (.iload 4, 2) := by decide +kernel
theorem dL_law_721 : decode cL_law 721 = .ok (.iconst 2, 1) := by decide +kernel
theorem dL_law_722 : decode cL_law 722 = .ok (.iadd, 1) := by decide +kernel
theorem dL_law_723 : decode cL_law 723 = .ok (.iaload, 1) := by decide +kernel
theorem dL_law_724 : decode cL_law 724 = .ok (.aload_n 3, 1) := by decide +kernel
theorem dL_law_725 : decode cL_law 725 = .ok (.invokestatic 162, 3) := by decide +kernel
theorem fh_RL_162 : FH RL 162 yL_leftAt cL_leftAt 5 (some .int) [(0, 10, 13, 13)] 4 := ⟨⟨gw_mem (by decide +kernel) (by decide +kernel), gw_mem (by decide +kernel) (by decide +kernel), gw_mem (by decide +kernel) (by decide +kernel), gw_mem (by decide +kernel) (by decide +kernel)⟩, ⟨by decide +kernel, by decide +kernel, by decide +kernel⟩⟩
theorem dL_law_728 : decode cL_law 728 = .ok (.istore 5, 2) := by decide +kernel
theorem dL_law_730 : decode cL_law 730 = .ok (.aload_n 2, 1) := by decide +kernel
theorem dL_law_731 : decode cL_law 731 = .ok (.aload_n 0, 1) := by decide +kernel
theorem dL_law_732 : decode cL_law 732 = .ok (.iload 4, 2) := by decide +kernel
theorem dL_law_734 : decode cL_law 734 = .ok (.iconst 1, 1) := by decide +kernel
theorem dL_law_735 : decode cL_law 735 = .ok (.iadd, 1) := by decide +kernel
theorem dL_law_736 : decode cL_law 736 = .ok (.iaload, 1) := by decide +kernel
theorem dL_law_737 : decode cL_law 737 = .ok (.aload_n 0, 1) := by decide +kernel
theorem dL_law_738 : decode cL_law 738 = .ok (.iload 4, 2) := by decide +kernel
theorem dL_law_740 : decode cL_law 740 = .ok (.iconst 2, 1) := by decide +kernel
theorem dL_law_741 : decode cL_law 741 = .ok (.iadd, 1) := by decide +kernel
theorem dL_law_742 : decode cL_law 742 = .ok (.iaload, 1) := by decide +kernel
theorem dL_law_743 : decode cL_law 743 = .ok (.invokevirtual 164, 3) := by decide +kernel
theorem fv_RL_164 : FV RL 164 yX12_leftAt cX12_leftAt 5 (some .int) 2 := ⟨⟨gw_mem (by decide +kernel) (by decide +kernel), gw_mem (by decide +kernel) (by decide +kernel), gw_mem (by decide +kernel) (by decide +kernel), gw_mem (by decide +kernel) (by decide +kernel), gw_mem (by decide +kernel) (by decide +kernel)⟩, ⟨by decide +kernel, by decide +kernel, by decide +kernel⟩⟩
theorem dL_law_746 : decode cL_law 746 = .ok (.istore 6, 2) := by decide +kernel
theorem dL_law_748 : decode cL_law 748 = .ok (.aload_n 2, 1) := by decide +kernel
theorem dL_law_749 : decode cL_law 749 = .ok (.invokevirtual 134, 3) := by decide +kernel
theorem dL_law_752 : decode cL_law 752 = .ok (.iload 5, 2) := by decide +kernel
theorem dL_law_754 : decode cL_law 754 = .ok (.if_icmp .eq 5, 3) := by decide +kernel
theorem dL_law_759 : decode cL_law 759 = .ok (.iload 5, 2) := by decide +kernel
theorem dL_law_761 : decode cL_law 761 = .ok (.ifCond .ne 15, 3) := by decide +kernel
theorem dL_law_776 : decode cL_law 776 = .ok (.goto 1685, 3) := by decide +kernel
set_option maxRecDepth 100000 in
set_option maxHeartbeats 4000000 in
theorem s_L_9_0 {p : Program} {l : Launch} {e : Env} {s : State} {m : MethodId} {args : Array Value} {below : List Frame} {meth : Method} {c : Code} {Q : State → Prop} {D : va_G} {cy : Nat → ClassId} {A : Nat → Prop} {H : Heap} {locs : List Loc} {ls : Array Slot} {xs : Nat → Int32} (b q0 q1 q2 q4 q5 q6 q10 m0 m1 m2 m3 m4 m5 m6 m7 m8 m9 m10 m11 m12 m13 m14 m15 m16 m17 o0 : Nat) (y1 : Int32) (y2 : Int32) (k0 : y1 < 0) (sx1 : xs 1 = y1) (sx2 : xs 2 = y2) (hst : l.stackTraces = false) (C : Cx p s m args c cL_law RL D cy A) (hml : c.maxLocals = 8) (hX : va_X b 6 xs s s.heap) (hbl : b < s.heap.size) (hbA : ¬ A b) (w : Wd D A s.heap [(q0, .inr (11, [.ref q1, .int 0, .int 0, .int (-1), .ref q2, .ref q4, .ref q5, .ref q6, .ref q10, .null])), (m0, .inr (12, [.ref m1, .ref m2, .ref m3, .ref m4, .ref m5, .int 0, .ref m6, .int 0, .int 0, .int 0, .int 0, .int 0, .int 0, .int 0, .int 0, .int 0, .int 0, .int (-1), .ref m7, .ref m8, .int 0, .ref m9, .int 0, .ref m10, .ref m11, .ref m12, .ref m13, .ref m14, .int 0, .ref m15, .ref m16, .ref m17])), (m1, .inl (cy 1, 1868, .inl (upd (upd (upd (fun _ => 0) 1 2) 2 20) 3 120)))] H locs) (hl : lv_has ls 8 [(0, .ref b), (1, .ref q0), (2, .ref m0), (3, .ref o0), (4, .int 0)]) (kk : ∀ (H : Heap) (locs : List Loc) (ls : Array Slot), va_S A s.heap H locs → lv_has ls 8 [(0, .ref b), (4, .int 0)] → W p l e room_1 s m args below meth c H locs 600002 7302232 Q (F0 m 2461 ls [])) : W p l e room_1 s m args below meth c H locs 37 29845 Q (F0 m 711 ls []) := by
  refine lv_aload_n C.1 C.2.1 dL_law_711 rfl (lv_at hl 1 rfl) ?_
  refine lv_aload_n C.1 C.2.1 dL_law_712 rfl (lv_at hl 0 rfl) ?_
  refine lv_iload C.1 C.2.1 dL_law_713 (lv_at hl 4 rfl) ?_
  refine lv_iconst (v := 1) C.1 C.2.1 dL_law_715 (by decide) ?_
  refine r_iadd C (v := 1) dL_law_716 (by decide) ?_
  refine r_sld C w hX hbl hbA (v := y1) (vinD (by decide)) sx1 dL_law_717 ?_
  refine lv_aload_n C.1 C.2.1 dL_law_718 rfl (lv_at hl 0 rfl) ?_
  refine lv_iload C.1 C.2.1 dL_law_719 (lv_at hl 4 rfl) ?_
  refine lv_iconst (v := 2) C.1 C.2.1 dL_law_721 (by decide) ?_
  refine r_iadd C (v := 2) dL_law_722 (by decide) ?_
  refine r_sld C w hX hbl hbA (v := y2) (vinD (by decide)) sx2 dL_law_723 ?_
  refine lv_aload_n C.1 C.2.1 dL_law_724 rfl (lv_at hl 3 rfl) ?_
  refine r_callH C w fh_RL_162 (c_L_leftAt_0 l D cy q0 o0 q1 q2 q4 q5 q6 q10 y1 y2 k0 hst) (hl.1.trans hml.symm) [0] [1, 2] (wr := [(m0, .inr (12, [.ref m1, .ref m2, .ref m3, .ref m4, .ref m5, .int 0, .ref m6, .int 0, .int 0, .int 0, .int 0, .int 0, .int 0, .int 0, .int 0, .int 0, .int 0, .int (-1), .ref m7, .ref m8, .int 0, .ref m9, .int 0, .ref m10, .ref m11, .ref m12, .ref m13, .ref m14, .int 0, .ref m15, .ref m16, .ref m17])), (m1, .inl (cy 1, 1868, .inl (upd (upd (upd (fun _ => 0) 1 2) 2 20) 3 120)))]) ⟨rfl, rfl, rfl, rfl, by decide⟩ rfl rfl ⟨Nat.le_of_ble_eq_true rfl, Nat.le_of_ble_eq_true rfl, Nat.le_of_ble_eq_true rfl⟩ 38 29851 ⟨rfl, rfl, Nat.le_of_ble_eq_true rfl, Nat.le_of_ble_eq_true rfl⟩ dL_law_725 (fun u H locs hp w => ?_)
  have w : Wd D A s.heap [(m0, .inr (12, [.ref m1, .ref m2, .ref m3, .ref m4, .ref m5, .int 0, .ref m6, .int 0, .int 0, .int 0, .int 0, .int 0, .int 0, .int 0, .int 0, .int 0, .int 0, .int (-1), .ref m7, .ref m8, .int 0, .ref m9, .int 0, .ref m10, .ref m11, .ref m12, .ref m13, .ref m14, .int 0, .ref m15, .ref m16, .ref m17])), (m1, .inl (cy 1, 1868, .inl (upd (upd (upd (fun _ => 0) 1 2) 2 20) 3 120)))] _ _ := w.pick [0, 1] rfl rfl
  refine r_top (g2 := F0 m 728 ls [.int 1]) rfl ?_
  refine lv_istore (lv' := [(5, .int 1), (0, .ref b), (1, .ref q0), (2, .ref m0), (3, .ref o0), (4, .int 0)]) C.1 C.2.1 dL_law_728 hl (by decide) rfl (fun ls hl => ?_)
  refine lv_aload_n C.1 C.2.1 dL_law_730 rfl (lv_at hl 3 rfl) ?_
  refine lv_aload_n C.1 C.2.1 dL_law_731 rfl (lv_at hl 1 rfl) ?_
  refine lv_iload C.1 C.2.1 dL_law_732 (lv_at hl 5 rfl) ?_
  refine lv_iconst (v := 1) C.1 C.2.1 dL_law_734 (by decide) ?_
  refine r_iadd C (v := 1) dL_law_735 (by decide) ?_
  refine r_sld C w hX hbl hbA (v := y1) (vinD (by decide)) sx1 dL_law_736 ?_
  refine lv_aload_n C.1 C.2.1 dL_law_737 rfl (lv_at hl 1 rfl) ?_
  refine lv_iload C.1 C.2.1 dL_law_738 (lv_at hl 5 rfl) ?_
  refine lv_iconst (v := 2) C.1 C.2.1 dL_law_740 (by decide) ?_
  refine r_iadd C (v := 2) dL_law_741 (by decide) ?_
  refine r_sld C w hX hbl hbA (v := y2) (vinD (by decide)) sx2 dL_law_742 ?_
  refine r_callV C w fv_RL_164 (c_X12_leftAt_0 l D cy m0 m1 m2 m3 m4 m5 m6 m7 m8 m9 m10 m11 m12 m13 m14 m15 m16 m17 y1 y2 k0) (hl.1.trans hml.symm) [0, 1] [] (wr := []) ⟨rfl, rfl, rfl, rfl, by decide⟩ 0 rfl rfl rfl rfl rfl ⟨Nat.le_of_ble_eq_true rfl, Nat.le_of_ble_eq_true rfl, Nat.le_of_ble_eq_true rfl⟩ 38 29851 ⟨rfl, rfl, Nat.le_of_ble_eq_true rfl, Nat.le_of_ble_eq_true rfl⟩ dL_law_743 (fun u H locs hp w => ?_)
  have w : Wd D A s.heap [(m0, .inr (12, [.ref m1, .ref m2, .ref m3, .ref m4, .ref m5, .int 1, .ref m6, .int 0, .int 0, .int 0, .int 0, .int 0, .int 0, .int 0, .int 0, .int 0, .int 0, .int (-1), .ref m7, .ref m8, .int 0, .ref m9, .int 0, .ref m10, .ref m11, .ref m12, .ref m13, .ref m14, .int 0, .ref m15, .ref m16, .ref m17]))] _ _ := w.pick [1] rfl rfl
  refine r_top (g2 := F0 m 746 ls [.int 0]) rfl ?_
  refine lv_istore (lv' := [(6, .int 0), (5, .int 1), (0, .ref b), (1, .ref q0), (2, .ref m0), (3, .ref o0), (4, .int 0)]) C.1 C.2.1 dL_law_746 hl (by decide) rfl (fun ls hl => ?_)
  refine lv_aload_n C.1 C.2.1 dL_law_748 rfl (lv_at hl 4 rfl) ?_
  refine r_callV C w fv_RL_134 (c_X12_thrown_0 l D cy m0 m1 m2 m3 m4 m5 m6 m7 m8 m9 m10 m11 m12 m13 m14 m15 m16 m17) (hl.1.trans hml.symm) [0] [] (wr := []) ⟨rfl, rfl, rfl, rfl, by decide⟩ 0 rfl rfl rfl rfl rfl ⟨Nat.le_of_ble_eq_true rfl, Nat.le_of_ble_eq_true rfl, Nat.le_of_ble_eq_true rfl⟩ 38 29851 ⟨rfl, rfl, Nat.le_of_ble_eq_true rfl, Nat.le_of_ble_eq_true rfl⟩ dL_law_749 (fun u H locs hp w => ?_)
  have w : Wd D A s.heap [(m0, .inr (12, [.ref m1, .ref m2, .ref m3, .ref m4, .ref m5, .int 1, .ref m6, .int 0, .int 0, .int 0, .int 0, .int 0, .int 0, .int 0, .int 0, .int 0, .int 0, .int (-1), .ref m7, .ref m8, .int 0, .ref m9, .int 0, .ref m10, .ref m11, .ref m12, .ref m13, .ref m14, .int 0, .ref m15, .ref m16, .ref m17]))] _ _ := w.pick [0] rfl rfl
  refine r_top (g2 := F0 m 752 ls [.int 1]) rfl ?_
  refine lv_iload C.1 C.2.1 dL_law_752 (lv_at hl 1 rfl) ?_
  refine b_icmp_eq_t C (tgt := 759) dL_law_754 (by decide) (by decide) ?_
  refine lv_iload C.1 C.2.1 dL_law_759 (lv_at hl 1 rfl) ?_
  refine b_if_ne_t C (tgt := 776) dL_law_761 (by decide) (by decide) ?_
  refine lv_goto (tgt := 2461) C.1 C.2.1 dL_law_776 (by decide) ?_
  refine W.widen (k := 600002) (n := 7302232) (Nat.le_of_ble_eq_true rfl) (Nat.le_of_ble_eq_true rfl) ?_
  exact kk _ _ _ w.2.2 (lv_sub hl [2, 6] rfl)
set_option maxRecDepth 100000 in
set_option maxHeartbeats 4000000 in
theorem s_L_9_1 {p : Program} {l : Launch} {e : Env} {s : State} {m : MethodId} {args : Array Value} {below : List Frame} {meth : Method} {c : Code} {Q : State → Prop} {D : va_G} {cy : Nat → ClassId} {A : Nat → Prop} {H : Heap} {locs : List Loc} {ls : Array Slot} {xs : Nat → Int32} (b q0 q1 q2 q4 q5 q6 q10 q11 q12 q13 q14 q15 q16 q17 m0 m1 m2 m3 m4 m5 m6 m7 m8 m9 m10 m11 m12 m13 m14 m15 m16 m17 o0 : Nat) (y1 : Int32) (y2 : Int32) (k0 : ¬ y1 < 0) (k1 : ¬ y1 ≤ 0) (sx1 : xs 1 = y1) (sx2 : xs 2 = y2) (hst : l.stackTraces = false) (C : Cx p s m args c cL_law RL D cy A) (hml : c.maxLocals = 8) (hX : va_X b 6 xs s s.heap) (hbl : b < s.heap.size) (hbA : ¬ A b) (w : Wd D A s.heap [(q0, .inr (11, [.ref q1, .int 0, .int 0, .int (-1), .ref q2, .ref q4, .ref q5, .ref q6, .ref q10, .null])), (q10, .inr (9, [.int 0, .int 2, .int 20, .int 120, .int 0, .int 0, .int 0, .int 0, .ref q11, .int 0, .ref q12, .ref q13, .int 0, .ref q14, .ref q15, .ref q16, .ref q17])), (m0, .inr (12, [.ref m1, .ref m2, .ref m3, .ref m4, .ref m5, .int 0, .ref m6, .int 0, .int 0, .int 0, .int 0, .int 0, .int 0, .int 0, .int 0, .int 0, .int 0, .int (-1), .ref m7, .ref m8, .int 0, .ref m9, .int 0, .ref m10, .ref m11, .ref m12, .ref m13, .ref m14, .int 0, .ref m15, .ref m16, .ref m17])), (m1, .inl (cy 1, 1868, .inl (upd (upd (upd (fun _ => 0) 1 2) 2 20) 3 120)))] H locs) (hl : lv_has ls 8 [(0, .ref b), (1, .ref q0), (2, .ref m0), (3, .ref o0), (4, .int 0)]) (kk : ∀ (H : Heap) (locs : List Loc) (ls : Array Slot), va_S A s.heap H locs → lv_has ls 8 [(0, .ref b), (4, .int 0)] → W p l e room_1 s m args below meth c H locs 600002 7302232 Q (F0 m 2461 ls [])) : W p l e room_1 s m args below meth c H locs 37 29845 Q (F0 m 711 ls []) := by
  refine lv_aload_n C.1 C.2.1 dL_law_711 rfl (lv_at hl 1 rfl) ?_
  refine lv_aload_n C.1 C.2.1 dL_law_712 rfl (lv_at hl 0 rfl) ?_
  refine lv_iload C.1 C.2.1 dL_law_713 (lv_at hl 4 rfl) ?_
  refine lv_iconst (v := 1) C.1 C.2.1 dL_law_715 (by decide) ?_
  refine r_iadd C (v := 1) dL_law_716 (by decide) ?_
  refine r_sld C w hX hbl hbA (v := y1) (vinD (by decide)) sx1 dL_law_717 ?_
  refine lv_aload_n C.1 C.2.1 dL_law_718 rfl (lv_at hl 0 rfl) ?_
  refine lv_iload C.1 C.2.1 dL_law_719 (lv_at hl 4 rfl) ?_
  refine lv_iconst (v := 2) C.1 C.2.1 dL_law_721 (by decide) ?_
  refine r_iadd C (v := 2) dL_law_722 (by decide) ?_
  refine r_sld C w hX hbl hbA (v := y2) (vinD (by decide)) sx2 dL_law_723 ?_
  refine lv_aload_n C.1 C.2.1 dL_law_724 rfl (lv_at hl 3 rfl) ?_
  refine r_callH C w fh_RL_162 (c_L_leftAt_1 l D cy q0 o0 q1 q2 q4 q5 q6 q10 q11 q12 q13 q14 q15 q16 q17 y1 y2 k0 k1 hst) (hl.1.trans hml.symm) [0, 1] [2, 3] (wr := [(m0, .inr (12, [.ref m1, .ref m2, .ref m3, .ref m4, .ref m5, .int 0, .ref m6, .int 0, .int 0, .int 0, .int 0, .int 0, .int 0, .int 0, .int 0, .int 0, .int 0, .int (-1), .ref m7, .ref m8, .int 0, .ref m9, .int 0, .ref m10, .ref m11, .ref m12, .ref m13, .ref m14, .int 0, .ref m15, .ref m16, .ref m17])), (m1, .inl (cy 1, 1868, .inl (upd (upd (upd (fun _ => 0) 1 2) 2 20) 3 120)))]) ⟨rfl, rfl, rfl, rfl, by decide⟩ rfl rfl ⟨Nat.le_of_ble_eq_true rfl, Nat.le_of_ble_eq_true rfl, Nat.le_of_ble_eq_true rfl⟩ 38 29851 ⟨rfl, rfl, Nat.le_of_ble_eq_true rfl, Nat.le_of_ble_eq_true rfl⟩ dL_law_725 (fun u H locs hp w => ?_)
  have w : Wd D A s.heap [(m0, .inr (12, [.ref m1, .ref m2, .ref m3, .ref m4, .ref m5, .int 0, .ref m6, .int 0, .int 0, .int 0, .int 0, .int 0, .int 0, .int 0, .int 0, .int 0, .int 0, .int (-1), .ref m7, .ref m8, .int 0, .ref m9, .int 0, .ref m10, .ref m11, .ref m12, .ref m13, .ref m14, .int 0, .ref m15, .ref m16, .ref m17])), (m1, .inl (cy 1, 1868, .inl (upd (upd (upd (fun _ => 0) 1 2) 2 20) 3 120)))] _ _ := w.pick [0, 1] rfl rfl
  refine r_top (g2 := F0 m 728 ls [.int 1]) rfl ?_
  refine lv_istore (lv' := [(5, .int 1), (0, .ref b), (1, .ref q0), (2, .ref m0), (3, .ref o0), (4, .int 0)]) C.1 C.2.1 dL_law_728 hl (by decide) rfl (fun ls hl => ?_)
  refine lv_aload_n C.1 C.2.1 dL_law_730 rfl (lv_at hl 3 rfl) ?_
  refine lv_aload_n C.1 C.2.1 dL_law_731 rfl (lv_at hl 1 rfl) ?_
  refine lv_iload C.1 C.2.1 dL_law_732 (lv_at hl 5 rfl) ?_
  refine lv_iconst (v := 1) C.1 C.2.1 dL_law_734 (by decide) ?_
  refine r_iadd C (v := 1) dL_law_735 (by decide) ?_
  refine r_sld C w hX hbl hbA (v := y1) (vinD (by decide)) sx1 dL_law_736 ?_
  refine lv_aload_n C.1 C.2.1 dL_law_737 rfl (lv_at hl 1 rfl) ?_
  refine lv_iload C.1 C.2.1 dL_law_738 (lv_at hl 5 rfl) ?_
  refine lv_iconst (v := 2) C.1 C.2.1 dL_law_740 (by decide) ?_
  refine r_iadd C (v := 2) dL_law_741 (by decide) ?_
  refine r_sld C w hX hbl hbA (v := y2) (vinD (by decide)) sx2 dL_law_742 ?_
  refine r_callV C w fv_RL_164 (c_X12_leftAt_1 l D cy m0 m1 m2 m3 m4 m5 m6 m7 m8 m9 m10 m11 m12 m13 m14 m15 m16 m17 y1 y2 k0 (by have h0 := (i_nlt k0); have h1 := (i_nle k1); have e0 : (0 : Int32).toInt = 0 := (by decide); rw [fa_lt]; omega)) (hl.1.trans hml.symm) [0, 1] [] (wr := []) ⟨rfl, rfl, rfl, rfl, by decide⟩ 0 rfl rfl rfl rfl rfl ⟨Nat.le_of_ble_eq_true rfl, Nat.le_of_ble_eq_true rfl, Nat.le_of_ble_eq_true rfl⟩ 38 29851 ⟨rfl, rfl, Nat.le_of_ble_eq_true rfl, Nat.le_of_ble_eq_true rfl⟩ dL_law_743 (fun u H locs hp w => ?_)
  have w : Wd D A s.heap [(m0, .inr (12, [.ref m1, .ref m2, .ref m3, .ref m4, .ref m5, .int 1, .ref m6, .int 0, .int 0, .int 0, .int 0, .int 0, .int 0, .int 0, .int 0, .int 0, .int 0, .int (-1), .ref m7, .ref m8, .int 0, .ref m9, .int 0, .ref m10, .ref m11, .ref m12, .ref m13, .ref m14, .int 0, .ref m15, .ref m16, .ref m17]))] _ _ := w.pick [1] rfl rfl
  refine r_top (g2 := F0 m 746 ls [.int 0]) rfl ?_
  refine lv_istore (lv' := [(6, .int 0), (5, .int 1), (0, .ref b), (1, .ref q0), (2, .ref m0), (3, .ref o0), (4, .int 0)]) C.1 C.2.1 dL_law_746 hl (by decide) rfl (fun ls hl => ?_)
  refine lv_aload_n C.1 C.2.1 dL_law_748 rfl (lv_at hl 4 rfl) ?_
  refine r_callV C w fv_RL_134 (c_X12_thrown_0 l D cy m0 m1 m2 m3 m4 m5 m6 m7 m8 m9 m10 m11 m12 m13 m14 m15 m16 m17) (hl.1.trans hml.symm) [0] [] (wr := []) ⟨rfl, rfl, rfl, rfl, by decide⟩ 0 rfl rfl rfl rfl rfl ⟨Nat.le_of_ble_eq_true rfl, Nat.le_of_ble_eq_true rfl, Nat.le_of_ble_eq_true rfl⟩ 38 29851 ⟨rfl, rfl, Nat.le_of_ble_eq_true rfl, Nat.le_of_ble_eq_true rfl⟩ dL_law_749 (fun u H locs hp w => ?_)
  have w : Wd D A s.heap [(m0, .inr (12, [.ref m1, .ref m2, .ref m3, .ref m4, .ref m5, .int 1, .ref m6, .int 0, .int 0, .int 0, .int 0, .int 0, .int 0, .int 0, .int 0, .int 0, .int 0, .int (-1), .ref m7, .ref m8, .int 0, .ref m9, .int 0, .ref m10, .ref m11, .ref m12, .ref m13, .ref m14, .int 0, .ref m15, .ref m16, .ref m17]))] _ _ := w.pick [0] rfl rfl
  refine r_top (g2 := F0 m 752 ls [.int 1]) rfl ?_
  refine lv_iload C.1 C.2.1 dL_law_752 (lv_at hl 1 rfl) ?_
  refine b_icmp_eq_t C (tgt := 759) dL_law_754 (by decide) (by decide) ?_
  refine lv_iload C.1 C.2.1 dL_law_759 (lv_at hl 1 rfl) ?_
  refine b_if_ne_t C (tgt := 776) dL_law_761 (by decide) (by decide) ?_
  refine lv_goto (tgt := 2461) C.1 C.2.1 dL_law_776 (by decide) ?_
  refine W.widen (k := 600002) (n := 7302232) (Nat.le_of_ble_eq_true rfl) (Nat.le_of_ble_eq_true rfl) ?_
  exact kk _ _ _ w.2.2 (lv_sub hl [2, 6] rfl)
theorem dL_law_764 : decode cL_law 764 = .ok (.aload_n 3, 1) := by decide +kernel
theorem dL_law_765 : decode cL_law 765 = .ok (.iconst 0, 1) := by decide +kernel
theorem dL_law_766 : decode cL_law 766 = .ok (.laload, 1) := by decide +kernel
theorem dL_law_767 : decode cL_law 767 = .ok (.iload 6, 2) := by decide +kernel
theorem dL_law_769 : decode cL_law 769 = .ok (.i2l, 1) := by decide +kernel
theorem dL_law_770 : decode cL_law 770 = .ok (.lcmp, 1) := by decide +kernel
theorem dL_law_771 : decode cL_law 771 = .ok (.ifCond .eq 5, 3) := by decide +kernel
set_option maxRecDepth 100000 in
set_option maxHeartbeats 4000000 in
theorem s_L_9_2 {p : Program} {l : Launch} {e : Env} {s : State} {m : MethodId} {args : Array Value} {below : List Frame} {meth : Method} {c : Code} {Q : State → Prop} {D : va_G} {cy : Nat → ClassId} {A : Nat → Prop} {H : Heap} {locs : List Loc} {ls : Array Slot} {xs : Nat → Int32} (b q0 q1 q2 q4 q5 q6 q10 q11 q12 q13 q14 q15 q16 q17 m0 m1 m2 m3 m4 m5 m6 m7 m8 m9 m10 m11 m12 m13 m14 m15 m16 m17 o0 : Nat) (y2 : Int32) (k0 : y2 < 0) (sx1 : xs 1 = 0) (sx2 : xs 2 = y2) (C : Cx p s m args c cL_law RL D cy A) (hml : c.maxLocals = 8) (hX : va_X b 6 xs s s.heap) (hbl : b < s.heap.size) (hbA : ¬ A b) (w : Wd D A s.heap [(q0, .inr (11, [.ref q1, .int 0, .int 0, .int (-1), .ref q2, .ref q4, .ref q5, .ref q6, .ref q10, .null])), (q10, .inr (9, [.int 0, .int 2, .int 20, .int 120, .int 0, .int 0, .int 0, .int 0, .ref q11, .int 0, .ref q12, .ref q13, .int 0, .ref q14, .ref q15, .ref q16, .ref q17])), (m0, .inr (12, [.ref m1, .ref m2, .ref m3, .ref m4, .ref m5, .int 0, .ref m6, .int 0, .int 0, .int 0, .int 0, .int 0, .int 0, .int 0, .int 0, .int 0, .int 0, .int (-1), .ref m7, .ref m8, .int 0, .ref m9, .int 0, .ref m10, .ref m11, .ref m12, .ref m13, .ref m14, .int 0, .ref m15, .ref m16, .ref m17])), (m7, .inl (cy 1, 1830, .inl (fun _ => 0))), (m8, .inl (cy 1, 1830, .inl (fun _ => 0))), (m9, .inl (cy 2, 2465, .inr (.inl (fun _ => 0)))), (m1, .inl (cy 1, 1868, .inl (upd (upd (upd (fun _ => 0) 1 2) 2 20) 3 120))), (o0, .inl (cy 2, 1, .inr (.inl (fun _ => 0))))] H locs) (hl : lv_has ls 8 [(0, .ref b), (1, .ref q0), (2, .ref m0), (3, .ref o0), (4, .int 0)]) (kk : ∀ (H : Heap) (locs : List Loc) (ls : Array Slot), va_S A s.heap H locs → lv_has ls 8 [(0, .ref b), (4, .int 0)] → W p l e room_1 s m args below meth c H locs 600002 7302232 Q (F0 m 2461 ls [])) : W p l e room_1 s m args below meth c H locs 37 29845 Q (F0 m 711 ls []) := by
  refine lv_aload_n C.1 C.2.1 dL_law_711 rfl (lv_at hl 1 rfl) ?_
  refine lv_aload_n C.1 C.2.1 dL_law_712 rfl (lv_at hl 0 rfl) ?_
  refine lv_iload C.1 C.2.1 dL_law_713 (lv_at hl 4 rfl) ?_
  refine lv_iconst (v := 1) C.1 C.2.1 dL_law_715 (by decide) ?_
  refine r_iadd C (v := 1) dL_law_716 (by decide) ?_
  refine r_sld C w hX hbl hbA (v := 0) (vinD (by decide)) sx1 dL_law_717 ?_
  refine lv_aload_n C.1 C.2.1 dL_law_718 rfl (lv_at hl 0 rfl) ?_
  refine lv_iload C.1 C.2.1 dL_law_719 (lv_at hl 4 rfl) ?_
  refine lv_iconst (v := 2) C.1 C.2.1 dL_law_721 (by decide) ?_
  refine r_iadd C (v := 2) dL_law_722 (by decide) ?_
  refine r_sld C w hX hbl hbA (v := y2) (vinD (by decide)) sx2 dL_law_723 ?_
  refine lv_aload_n C.1 C.2.1 dL_law_724 rfl (lv_at hl 3 rfl) ?_
  refine r_callH C w fh_RL_162 (c_L_leftAt_2 l D cy q0 o0 q1 q2 q4 q5 q6 q10 q11 q12 q13 q14 q15 q16 q17 y2 k0) (hl.1.trans hml.symm) [0, 1, 7] [2, 3, 4, 5, 6] (wr := [(m0, .inr (12, [.ref m1, .ref m2, .ref m3, .ref m4, .ref m5, .int 0, .ref m6, .int 0, .int 0, .int 0, .int 0, .int 0, .int 0, .int 0, .int 0, .int 0, .int 0, .int (-1), .ref m7, .ref m8, .int 0, .ref m9, .int 0, .ref m10, .ref m11, .ref m12, .ref m13, .ref m14, .int 0, .ref m15, .ref m16, .ref m17])), (m7, .inl (cy 1, 1830, .inl (fun _ => 0))), (m8, .inl (cy 1, 1830, .inl (fun _ => 0))), (m9, .inl (cy 2, 2465, .inr (.inl (fun _ => 0)))), (m1, .inl (cy 1, 1868, .inl (upd (upd (upd (fun _ => 0) 1 2) 2 20) 3 120)))]) ⟨rfl, rfl, rfl, rfl, by decide⟩ rfl rfl ⟨Nat.le_of_ble_eq_true rfl, Nat.le_of_ble_eq_true rfl, Nat.le_of_ble_eq_true rfl⟩ 73 53662 ⟨rfl, rfl, Nat.le_of_ble_eq_true rfl, Nat.le_of_ble_eq_true rfl⟩ dL_law_725 (fun u H locs hp w => ?_)
  obtain ⟨n1, n2, n3, n4, n5, n6, n7, n8, n9, n10, n11, n12, n13, n14, n15, n16, n17, n18, n19, n20, n21, n22, n23, n24, n25, n26, n27, n28, n29, n30, n31, n32, n33, n34, n35, n36⟩ := u
  have w : Wd D A s.heap [(m0, .inr (12, [.ref m1, .ref m2, .ref m3, .ref m4, .ref m5, .int 0, .ref m6, .int 0, .int 0, .int 0, .int 0, .int 0, .int 0, .int 0, .int 0, .int 0, .int 0, .int (-1), .ref m7, .ref m8, .int 0, .ref m9, .int 0, .ref m10, .ref m11, .ref m12, .ref m13, .ref m14, .int 0, .ref m15, .ref m16, .ref m17])), (m7, .inl (cy 1, 1830, .inl (fun _ => 0))), (m8, .inl (cy 1, 1830, .inl (fun _ => 0))), (m9, .inl (cy 2, 2465, .inr (.inl (fun _ => 0)))), (m1, .inl (cy 1, 1868, .inl (upd (upd (upd (fun _ => 0) 1 2) 2 20) 3 120))), (o0, .inl (cy 2, 1, .inr (.inl (vp_updL (fun _ => 0) 0 (-1)))))] _ _ := w.pick [0, 1, 2, 3, 4, 5] rfl rfl
  refine r_top (g2 := F0 m 728 ls [.int 0]) rfl ?_
  refine lv_istore (lv' := [(5, .int 0), (0, .ref b), (1, .ref q0), (2, .ref m0), (3, .ref o0), (4, .int 0)]) C.1 C.2.1 dL_law_728 hl (by decide) rfl (fun ls hl => ?_)
  refine lv_aload_n C.1 C.2.1 dL_law_730 rfl (lv_at hl 3 rfl) ?_
  refine lv_aload_n C.1 C.2.1 dL_law_731 rfl (lv_at hl 1 rfl) ?_
  refine lv_iload C.1 C.2.1 dL_law_732 (lv_at hl 5 rfl) ?_
  refine lv_iconst (v := 1) C.1 C.2.1 dL_law_734 (by decide) ?_
  refine r_iadd C (v := 1) dL_law_735 (by decide) ?_
  refine r_sld C w hX hbl hbA (v := 0) (vinD (by decide)) sx1 dL_law_736 ?_
  refine lv_aload_n C.1 C.2.1 dL_law_737 rfl (lv_at hl 1 rfl) ?_
  refine lv_iload C.1 C.2.1 dL_law_738 (lv_at hl 5 rfl) ?_
  refine lv_iconst (v := 2) C.1 C.2.1 dL_law_740 (by decide) ?_
  refine r_iadd C (v := 2) dL_law_741 (by decide) ?_
  refine r_sld C w hX hbl hbA (v := y2) (vinD (by decide)) sx2 dL_law_742 ?_
  refine r_callV C w fv_RL_164 (c_X12_leftAt_2 l D cy m0 m1 m2 m3 m4 m5 m6 m7 m8 m9 m10 m11 m12 m13 m14 m15 m16 m17 y2 k0) (hl.1.trans hml.symm) [0, 4, 1, 2, 3] [5] (wr := [(o0, .inl (cy 2, 1, .inr (.inl (vp_updL (fun _ => 0) 0 (-1)))))]) ⟨rfl, rfl, rfl, rfl, by decide⟩ 0 rfl rfl rfl rfl rfl ⟨Nat.le_of_ble_eq_true rfl, Nat.le_of_ble_eq_true rfl, Nat.le_of_ble_eq_true rfl⟩ 73 53662 ⟨rfl, rfl, Nat.le_of_ble_eq_true rfl, Nat.le_of_ble_eq_true rfl⟩ dL_law_743 (fun u H locs hp w => ?_)
  have w : Wd D A s.heap [(o0, .inl (cy 2, 1, .inr (.inl (vp_updL (fun _ => 0) 0 (-1))))), (m0, .inr (12, [.ref m1, .ref m2, .ref m3, .ref m4, .ref m5, .int 0, .ref m6, .int 0, .int 0, .int 0, .int 0, .int 0, .int 0, .int 0, .int 0, .int 0, .int 0, .int (-1), .ref m7, .ref m8, .int 190, .ref m9, .int 21, .ref m10, .ref m11, .ref m12, .ref m13, .ref m14, .int 0, .ref m15, .ref m16, .ref m17]))] _ _ := w.pick [0, 4] rfl rfl
  refine r_top (g2 := F0 m 746 ls [.int (-1)]) rfl ?_
  refine lv_istore (lv' := [(6, .int (-1)), (5, .int 0), (0, .ref b), (1, .ref q0), (2, .ref m0), (3, .ref o0), (4, .int 0)]) C.1 C.2.1 dL_law_746 hl (by decide) rfl (fun ls hl => ?_)
  refine lv_aload_n C.1 C.2.1 dL_law_748 rfl (lv_at hl 4 rfl) ?_
  refine r_callV C w fv_RL_134 (c_X12_thrown_5 l D cy m0 m1 m2 m3 m4 m5 m6 m7 m8 m9 m10 m11 m12 m13 m14 m15 m16 m17) (hl.1.trans hml.symm) [1] [0] (wr := [(o0, .inl (cy 2, 1, .inr (.inl (vp_updL (fun _ => 0) 0 (-1)))))]) ⟨rfl, rfl, rfl, rfl, by decide⟩ 0 rfl rfl rfl rfl rfl ⟨Nat.le_of_ble_eq_true rfl, Nat.le_of_ble_eq_true rfl, Nat.le_of_ble_eq_true rfl⟩ 73 53662 ⟨rfl, rfl, Nat.le_of_ble_eq_true rfl, Nat.le_of_ble_eq_true rfl⟩ dL_law_749 (fun u H locs hp w => ?_)
  have w : Wd D A s.heap [(o0, .inl (cy 2, 1, .inr (.inl (vp_updL (fun _ => 0) 0 (-1))))), (m0, .inr (12, [.ref m1, .ref m2, .ref m3, .ref m4, .ref m5, .int 0, .ref m6, .int 0, .int 0, .int 0, .int 0, .int 0, .int 0, .int 0, .int 0, .int 0, .int 0, .int (-1), .ref m7, .ref m8, .int 190, .ref m9, .int 21, .ref m10, .ref m11, .ref m12, .ref m13, .ref m14, .int 0, .ref m15, .ref m16, .ref m17]))] _ _ := w.pick [0, 1] rfl rfl
  refine r_top (g2 := F0 m 752 ls [.int 0]) rfl ?_
  refine lv_iload C.1 C.2.1 dL_law_752 (lv_at hl 1 rfl) ?_
  refine b_icmp_eq_t C (tgt := 759) dL_law_754 (by decide) (by decide) ?_
  refine lv_iload C.1 C.2.1 dL_law_759 (lv_at hl 1 rfl) ?_
  refine b_if_ne_f C (tgt := 776) dL_law_761 (by decide) (by decide) ?_
  refine lv_aload_n C.1 C.2.1 dL_law_764 rfl (lv_at hl 5 rfl) ?_
  refine lv_iconst (v := 0) C.1 C.2.1 dL_law_765 (by decide) ?_
  refine r_lald C w 0 rfl (v := (-1)) (vinD (by decide)) rfl dL_law_766 ?_
  refine lv_iload C.1 C.2.1 dL_law_767 (lv_at hl 0 rfl) ?_
  refine lv_i2l (v := (-1)) C.1 C.2.1 dL_law_769 (by decide) ?_
  refine r_lcmp C (v := 0) dL_law_770 (by decide) ?_
  refine b_if_eq_t C (tgt := 776) dL_law_771 (by decide) (by decide) ?_
  refine lv_goto (tgt := 2461) C.1 C.2.1 dL_law_776 (by decide) ?_
  refine W.widen (k := 600002) (n := 7302232) (Nat.le_of_ble_eq_true rfl) (Nat.le_of_ble_eq_true rfl) ?_
  exact kk _ _ _ w.2.2 (lv_sub hl [2, 6] rfl)
set_option maxRecDepth 100000 in
set_option maxHeartbeats 4000000 in
theorem s_L_9_3 {p : Program} {l : Launch} {e : Env} {s : State} {m : MethodId} {args : Array Value} {below : List Frame} {meth : Method} {c : Code} {Q : State → Prop} {D : va_G} {cy : Nat → ClassId} {A : Nat → Prop} {H : Heap} {locs : List Loc} {ls : Array Slot} {xs : Nat → Int32} (b q0 q1 q2 q4 q5 q6 q10 q11 q12 q13 q14 q15 q16 q17 m0 m1 m2 m3 m4 m5 m6 m7 m8 m9 m10 m11 m12 m13 m14 m15 m16 m17 o0 : Nat) (y2 : Int32) (k0 : ¬ y2 < 0) (k1 : ¬ y2 < 190) (sx1 : xs 1 = 0) (sx2 : xs 2 = y2) (C : Cx p s m args c cL_law RL D cy A) (hml : c.maxLocals = 8) (hX : va_X b 6 xs s s.heap) (hbl : b < s.heap.size) (hbA : ¬ A b) (w : Wd D A s.heap [(q0, .inr (11, [.ref q1, .int 0, .int 0, .int (-1), .ref q2, .ref q4, .ref q5, .ref q6, .ref q10, .null])), (q10, .inr (9, [.int 0, .int 2, .int 20, .int 120, .int 0, .int 0, .int 0, .int 0, .ref q11, .int 0, .ref q12, .ref q13, .int 0, .ref q14, .ref q15, .ref q16, .ref q17])), (m0, .inr (12, [.ref m1, .ref m2, .ref m3, .ref m4, .ref m5, .int 0, .ref m6, .int 0, .int 0, .int 0, .int 0, .int 0, .int 0, .int 0, .int 0, .int 0, .int 0, .int (-1), .ref m7, .ref m8, .int 0, .ref m9, .int 0, .ref m10, .ref m11, .ref m12, .ref m13, .ref m14, .int 0, .ref m15, .ref m16, .ref m17])), (m7, .inl (cy 1, 1830, .inl (fun _ => 0))), (m8, .inl (cy 1, 1830, .inl (fun _ => 0))), (m9, .inl (cy 2, 2465, .inr (.inl (fun _ => 0)))), (m1, .inl (cy 1, 1868, .inl (upd (upd (upd (fun _ => 0) 1 2) 2 20) 3 120))), (o0, .inl (cy 2, 1, .inr (.inl (fun _ => 0))))] H locs) (hl : lv_has ls 8 [(0, .ref b), (1, .ref q0), (2, .ref m0), (3, .ref o0), (4, .int 0)]) (kk : ∀ (H : Heap) (locs : List Loc) (ls : Array Slot), va_S A s.heap H locs → lv_has ls 8 [(0, .ref b), (4, .int 0)] → W p l e room_1 s m args below meth c H locs 600002 7302232 Q (F0 m 2461 ls [])) : W p l e room_1 s m args below meth c H locs 37 29845 Q (F0 m 711 ls []) := by
  refine lv_aload_n C.1 C.2.1 dL_law_711 rfl (lv_at hl 1 rfl) ?_
  refine lv_aload_n C.1 C.2.1 dL_law_712 rfl (lv_at hl 0 rfl) ?_
  refine lv_iload C.1 C.2.1 dL_law_713 (lv_at hl 4 rfl) ?_
  refine lv_iconst (v := 1) C.1 C.2.1 dL_law_715 (by decide) ?_
  refine r_iadd C (v := 1) dL_law_716 (by decide) ?_
  refine r_sld C w hX hbl hbA (v := 0) (vinD (by decide)) sx1 dL_law_717 ?_
  refine lv_aload_n C.1 C.2.1 dL_law_718 rfl (lv_at hl 0 rfl) ?_
  refine lv_iload C.1 C.2.1 dL_law_719 (lv_at hl 4 rfl) ?_
  refine lv_iconst (v := 2) C.1 C.2.1 dL_law_721 (by decide) ?_
  refine r_iadd C (v := 2) dL_law_722 (by decide) ?_
  refine r_sld C w hX hbl hbA (v := y2) (vinD (by decide)) sx2 dL_law_723 ?_
  refine lv_aload_n C.1 C.2.1 dL_law_724 rfl (lv_at hl 3 rfl) ?_
  refine r_callH C w fh_RL_162 (c_L_leftAt_3 l D cy q0 o0 q1 q2 q4 q5 q6 q10 q11 q12 q13 q14 q15 q16 q17 y2 k0 k1) (hl.1.trans hml.symm) [0, 1, 7] [2, 3, 4, 5, 6] (wr := [(m0, .inr (12, [.ref m1, .ref m2, .ref m3, .ref m4, .ref m5, .int 0, .ref m6, .int 0, .int 0, .int 0, .int 0, .int 0, .int 0, .int 0, .int 0, .int 0, .int 0, .int (-1), .ref m7, .ref m8, .int 0, .ref m9, .int 0, .ref m10, .ref m11, .ref m12, .ref m13, .ref m14, .int 0, .ref m15, .ref m16, .ref m17])), (m7, .inl (cy 1, 1830, .inl (fun _ => 0))), (m8, .inl (cy 1, 1830, .inl (fun _ => 0))), (m9, .inl (cy 2, 2465, .inr (.inl (fun _ => 0)))), (m1, .inl (cy 1, 1868, .inl (upd (upd (upd (fun _ => 0) 1 2) 2 20) 3 120)))]) ⟨rfl, rfl, rfl, rfl, by decide⟩ rfl rfl ⟨Nat.le_of_ble_eq_true rfl, Nat.le_of_ble_eq_true rfl, Nat.le_of_ble_eq_true rfl⟩ 73 53662 ⟨rfl, rfl, Nat.le_of_ble_eq_true rfl, Nat.le_of_ble_eq_true rfl⟩ dL_law_725 (fun u H locs hp w => ?_)
  obtain ⟨n1, n2, n3, n4, n5, n6, n7, n8, n9, n10, n11, n12, n13, n14, n15, n16, n17, n18, n19, n20, n21, n22, n23, n24, n25, n26, n27, n28, n29, n30, n31, n32, n33, n34, n35, n36⟩ := u
  have w : Wd D A s.heap [(m0, .inr (12, [.ref m1, .ref m2, .ref m3, .ref m4, .ref m5, .int 0, .ref m6, .int 0, .int 0, .int 0, .int 0, .int 0, .int 0, .int 0, .int 0, .int 0, .int 0, .int (-1), .ref m7, .ref m8, .int 0, .ref m9, .int 0, .ref m10, .ref m11, .ref m12, .ref m13, .ref m14, .int 0, .ref m15, .ref m16, .ref m17])), (m7, .inl (cy 1, 1830, .inl (fun _ => 0))), (m8, .inl (cy 1, 1830, .inl (fun _ => 0))), (m9, .inl (cy 2, 2465, .inr (.inl (fun _ => 0)))), (m1, .inl (cy 1, 1868, .inl (upd (upd (upd (fun _ => 0) 1 2) 2 20) 3 120))), (o0, .inl (cy 2, 1, .inr (.inl (vp_updL (fun _ => 0) 0 (-1)))))] _ _ := w.pick [0, 1, 2, 3, 4, 5] rfl rfl
  refine r_top (g2 := F0 m 728 ls [.int 0]) rfl ?_
  refine lv_istore (lv' := [(5, .int 0), (0, .ref b), (1, .ref q0), (2, .ref m0), (3, .ref o0), (4, .int 0)]) C.1 C.2.1 dL_law_728 hl (by decide) rfl (fun ls hl => ?_)
  refine lv_aload_n C.1 C.2.1 dL_law_730 rfl (lv_at hl 3 rfl) ?_
  refine lv_aload_n C.1 C.2.1 dL_law_731 rfl (lv_at hl 1 rfl) ?_
  refine lv_iload C.1 C.2.1 dL_law_732 (lv_at hl 5 rfl) ?_
  refine lv_iconst (v := 1) C.1 C.2.1 dL_law_734 (by decide) ?_
  refine r_iadd C (v := 1) dL_law_735 (by decide) ?_
  refine r_sld C w hX hbl hbA (v := 0) (vinD (by decide)) sx1 dL_law_736 ?_
  refine lv_aload_n C.1 C.2.1 dL_law_737 rfl (lv_at hl 1 rfl) ?_
  refine lv_iload C.1 C.2.1 dL_law_738 (lv_at hl 5 rfl) ?_
  refine lv_iconst (v := 2) C.1 C.2.1 dL_law_740 (by decide) ?_
  refine r_iadd C (v := 2) dL_law_741 (by decide) ?_
  refine r_sld C w hX hbl hbA (v := y2) (vinD (by decide)) sx2 dL_law_742 ?_
  refine r_callV C w fv_RL_164 (c_X12_leftAt_4 l D cy m0 m1 m2 m3 m4 m5 m6 m7 m8 m9 m10 m11 m12 m13 m14 m15 m16 m17 y2 k0 k1) (hl.1.trans hml.symm) [0, 4, 1, 2, 3] [5] (wr := [(o0, .inl (cy 2, 1, .inr (.inl (vp_updL (fun _ => 0) 0 (-1)))))]) ⟨rfl, rfl, rfl, rfl, by decide⟩ 0 rfl rfl rfl rfl rfl ⟨Nat.le_of_ble_eq_true rfl, Nat.le_of_ble_eq_true rfl, Nat.le_of_ble_eq_true rfl⟩ 73 53662 ⟨rfl, rfl, Nat.le_of_ble_eq_true rfl, Nat.le_of_ble_eq_true rfl⟩ dL_law_743 (fun u H locs hp w => ?_)
  have w : Wd D A s.heap [(o0, .inl (cy 2, 1, .inr (.inl (vp_updL (fun _ => 0) 0 (-1))))), (m0, .inr (12, [.ref m1, .ref m2, .ref m3, .ref m4, .ref m5, .int 0, .ref m6, .int 0, .int 0, .int 0, .int 0, .int 0, .int 0, .int 0, .int 0, .int 0, .int 0, .int (-1), .ref m7, .ref m8, .int 190, .ref m9, .int 21, .ref m10, .ref m11, .ref m12, .ref m13, .ref m14, .int 0, .ref m15, .ref m16, .ref m17]))] _ _ := w.pick [0, 4] rfl rfl
  refine r_top (g2 := F0 m 746 ls [.int (-1)]) rfl ?_
  refine lv_istore (lv' := [(6, .int (-1)), (5, .int 0), (0, .ref b), (1, .ref q0), (2, .ref m0), (3, .ref o0), (4, .int 0)]) C.1 C.2.1 dL_law_746 hl (by decide) rfl (fun ls hl => ?_)
  refine lv_aload_n C.1 C.2.1 dL_law_748 rfl (lv_at hl 4 rfl) ?_
  refine r_callV C w fv_RL_134 (c_X12_thrown_5 l D cy m0 m1 m2 m3 m4 m5 m6 m7 m8 m9 m10 m11 m12 m13 m14 m15 m16 m17) (hl.1.trans hml.symm) [1] [0] (wr := [(o0, .inl (cy 2, 1, .inr (.inl (vp_updL (fun _ => 0) 0 (-1)))))]) ⟨rfl, rfl, rfl, rfl, by decide⟩ 0 rfl rfl rfl rfl rfl ⟨Nat.le_of_ble_eq_true rfl, Nat.le_of_ble_eq_true rfl, Nat.le_of_ble_eq_true rfl⟩ 73 53662 ⟨rfl, rfl, Nat.le_of_ble_eq_true rfl, Nat.le_of_ble_eq_true rfl⟩ dL_law_749 (fun u H locs hp w => ?_)
  have w : Wd D A s.heap [(o0, .inl (cy 2, 1, .inr (.inl (vp_updL (fun _ => 0) 0 (-1))))), (m0, .inr (12, [.ref m1, .ref m2, .ref m3, .ref m4, .ref m5, .int 0, .ref m6, .int 0, .int 0, .int 0, .int 0, .int 0, .int 0, .int 0, .int 0, .int 0, .int 0, .int (-1), .ref m7, .ref m8, .int 190, .ref m9, .int 21, .ref m10, .ref m11, .ref m12, .ref m13, .ref m14, .int 0, .ref m15, .ref m16, .ref m17]))] _ _ := w.pick [0, 1] rfl rfl
  refine r_top (g2 := F0 m 752 ls [.int 0]) rfl ?_
  refine lv_iload C.1 C.2.1 dL_law_752 (lv_at hl 1 rfl) ?_
  refine b_icmp_eq_t C (tgt := 759) dL_law_754 (by decide) (by decide) ?_
  refine lv_iload C.1 C.2.1 dL_law_759 (lv_at hl 1 rfl) ?_
  refine b_if_ne_f C (tgt := 776) dL_law_761 (by decide) (by decide) ?_
  refine lv_aload_n C.1 C.2.1 dL_law_764 rfl (lv_at hl 5 rfl) ?_
  refine lv_iconst (v := 0) C.1 C.2.1 dL_law_765 (by decide) ?_
  refine r_lald C w 0 rfl (v := (-1)) (vinD (by decide)) rfl dL_law_766 ?_
  refine lv_iload C.1 C.2.1 dL_law_767 (lv_at hl 0 rfl) ?_
  refine lv_i2l (v := (-1)) C.1 C.2.1 dL_law_769 (by decide) ?_
  refine r_lcmp C (v := 0) dL_law_770 (by decide) ?_
  refine b_if_eq_t C (tgt := 776) dL_law_771 (by decide) (by decide) ?_
  refine lv_goto (tgt := 2461) C.1 C.2.1 dL_law_776 (by decide) ?_
  refine W.widen (k := 600002) (n := 7302232) (Nat.le_of_ble_eq_true rfl) (Nat.le_of_ble_eq_true rfl) ?_
  exact kk _ _ _ w.2.2 (lv_sub hl [2, 6] rfl)
set_option maxRecDepth 100000 in
set_option maxHeartbeats 4000000 in
theorem s_L_9_4 {p : Program} {l : Launch} {e : Env} {s : State} {m : MethodId} {args : Array Value} {below : List Frame} {meth : Method} {c : Code} {Q : State → Prop} {D : va_G} {cy : Nat → ClassId} {A : Nat → Prop} {H : Heap} {locs : List Loc} {ls : Array Slot} {xs : Nat → Int32} (b q0 q1 q2 q4 q5 q6 q10 q11 q12 q13 q14 q15 q16 q17 m0 m1 m2 m3 m4 m5 m6 m7 m8 m9 m10 m11 m12 m13 m14 m15 m16 m17 o0 : Nat) (y2 : Int32) (k0 : ¬ y2 < 0) (k1 : y2 < 190) (sx1 : xs 1 = 0) (sx2 : xs 2 = y2) (C : Cx p s m args c cL_law RL D cy A) (hml : c.maxLocals = 8) (hX : va_X b 6 xs s s.heap) (hbl : b < s.heap.size) (hbA : ¬ A b) (w : Wd D A s.heap [(q0, .inr (11, [.ref q1, .int 0, .int 0, .int (-1), .ref q2, .ref q4, .ref q5, .ref q6, .ref q10, .null])), (q10, .inr (9, [.int 0, .int 2, .int 20, .int 120, .int 0, .int 0, .int 0, .int 0, .ref q11, .int 0, .ref q12, .ref q13, .int 0, .ref q14, .ref q15, .ref q16, .ref q17])), (m0, .inr (12, [.ref m1, .ref m2, .ref m3, .ref m4, .ref m5, .int 0, .ref m6, .int 0, .int 0, .int 0, .int 0, .int 0, .int 0, .int 0, .int 0, .int 0, .int 0, .int (-1), .ref m7, .ref m8, .int 0, .ref m9, .int 0, .ref m10, .ref m11, .ref m12, .ref m13, .ref m14, .int 0, .ref m15, .ref m16, .ref m17])), (m7, .inl (cy 1, 1830, .inl (fun _ => 0))), (m8, .inl (cy 1, 1830, .inl (fun _ => 0))), (m9, .inl (cy 2, 2465, .inr (.inl (fun _ => 0)))), (m1, .inl (cy 1, 1868, .inl (upd (upd (upd (fun _ => 0) 1 2) 2 20) 3 120))), (o0, .inl (cy 2, 1, .inr (.inl (fun _ => 0))))] H locs) (hl : lv_has ls 8 [(0, .ref b), (1, .ref q0), (2, .ref m0), (3, .ref o0), (4, .int 0)]) (kk : ∀ (H : Heap) (locs : List Loc) (ls : Array Slot), va_S A s.heap H locs → lv_has ls 8 [(0, .ref b), (4, .int 0)] → W p l e room_1 s m args below meth c H locs 600002 7302232 Q (F0 m 2461 ls [])) : W p l e room_1 s m args below meth c H locs 37 29845 Q (F0 m 711 ls []) := by
  refine lv_aload_n C.1 C.2.1 dL_law_711 rfl (lv_at hl 1 rfl) ?_
  refine lv_aload_n C.1 C.2.1 dL_law_712 rfl (lv_at hl 0 rfl) ?_
  refine lv_iload C.1 C.2.1 dL_law_713 (lv_at hl 4 rfl) ?_
  refine lv_iconst (v := 1) C.1 C.2.1 dL_law_715 (by decide) ?_
  refine r_iadd C (v := 1) dL_law_716 (by decide) ?_
  refine r_sld C w hX hbl hbA (v := 0) (vinD (by decide)) sx1 dL_law_717 ?_
  refine lv_aload_n C.1 C.2.1 dL_law_718 rfl (lv_at hl 0 rfl) ?_
  refine lv_iload C.1 C.2.1 dL_law_719 (lv_at hl 4 rfl) ?_
  refine lv_iconst (v := 2) C.1 C.2.1 dL_law_721 (by decide) ?_
  refine r_iadd C (v := 2) dL_law_722 (by decide) ?_
  refine r_sld C w hX hbl hbA (v := y2) (vinD (by decide)) sx2 dL_law_723 ?_
  refine lv_aload_n C.1 C.2.1 dL_law_724 rfl (lv_at hl 3 rfl) ?_
  refine r_callH C w fh_RL_162 (c_L_leftAt_4 l D cy q0 o0 q1 q2 q4 q5 q6 q10 q11 q12 q13 q14 q15 q16 q17 y2 k0 k1) (hl.1.trans hml.symm) [0, 1, 7] [2, 3, 4, 5, 6] (wr := [(m0, .inr (12, [.ref m1, .ref m2, .ref m3, .ref m4, .ref m5, .int 0, .ref m6, .int 0, .int 0, .int 0, .int 0, .int 0, .int 0, .int 0, .int 0, .int 0, .int 0, .int (-1), .ref m7, .ref m8, .int 0, .ref m9, .int 0, .ref m10, .ref m11, .ref m12, .ref m13, .ref m14, .int 0, .ref m15, .ref m16, .ref m17])), (m7, .inl (cy 1, 1830, .inl (fun _ => 0))), (m8, .inl (cy 1, 1830, .inl (fun _ => 0))), (m9, .inl (cy 2, 2465, .inr (.inl (fun _ => 0)))), (m1, .inl (cy 1, 1868, .inl (upd (upd (upd (fun _ => 0) 1 2) 2 20) 3 120)))]) ⟨rfl, rfl, rfl, rfl, by decide⟩ rfl rfl ⟨Nat.le_of_ble_eq_true rfl, Nat.le_of_ble_eq_true rfl, Nat.le_of_ble_eq_true rfl⟩ 73 53662 ⟨rfl, rfl, Nat.le_of_ble_eq_true rfl, Nat.le_of_ble_eq_true rfl⟩ dL_law_725 (fun u H locs hp w => ?_)
  obtain ⟨n1, n2, n3, n4, n5, n6, n7, n8, n9, n10, n11, n12, n13, n14, n15, n16, n17, n18, n19, n20, n21, n22, n23, n24, n25, n26, n27, n28, n29, n30, n31, n32, n33, n34, n35, n36⟩ := u
  have w : Wd D A s.heap [(m0, .inr (12, [.ref m1, .ref m2, .ref m3, .ref m4, .ref m5, .int 0, .ref m6, .int 0, .int 0, .int 0, .int 0, .int 0, .int 0, .int 0, .int 0, .int 0, .int 0, .int (-1), .ref m7, .ref m8, .int 0, .ref m9, .int 0, .ref m10, .ref m11, .ref m12, .ref m13, .ref m14, .int 0, .ref m15, .ref m16, .ref m17])), (m7, .inl (cy 1, 1830, .inl (fun _ => 0))), (m8, .inl (cy 1, 1830, .inl (fun _ => 0))), (m9, .inl (cy 2, 2465, .inr (.inl (fun _ => 0)))), (m1, .inl (cy 1, 1868, .inl (upd (upd (upd (fun _ => 0) 1 2) 2 20) 3 120))), (o0, .inl (cy 2, 1, .inr (.inl (vp_updL (fun _ => 0) 0 (Int32.toInt64 y2)))))] _ _ := w.pick [0, 1, 2, 3, 4, 5] rfl rfl
  refine r_top (g2 := F0 m 728 ls [.int 0]) rfl ?_
  refine lv_istore (lv' := [(5, .int 0), (0, .ref b), (1, .ref q0), (2, .ref m0), (3, .ref o0), (4, .int 0)]) C.1 C.2.1 dL_law_728 hl (by decide) rfl (fun ls hl => ?_)
  refine lv_aload_n C.1 C.2.1 dL_law_730 rfl (lv_at hl 3 rfl) ?_
  refine lv_aload_n C.1 C.2.1 dL_law_731 rfl (lv_at hl 1 rfl) ?_
  refine lv_iload C.1 C.2.1 dL_law_732 (lv_at hl 5 rfl) ?_
  refine lv_iconst (v := 1) C.1 C.2.1 dL_law_734 (by decide) ?_
  refine r_iadd C (v := 1) dL_law_735 (by decide) ?_
  refine r_sld C w hX hbl hbA (v := 0) (vinD (by decide)) sx1 dL_law_736 ?_
  refine lv_aload_n C.1 C.2.1 dL_law_737 rfl (lv_at hl 1 rfl) ?_
  refine lv_iload C.1 C.2.1 dL_law_738 (lv_at hl 5 rfl) ?_
  refine lv_iconst (v := 2) C.1 C.2.1 dL_law_740 (by decide) ?_
  refine r_iadd C (v := 2) dL_law_741 (by decide) ?_
  refine r_sld C w hX hbl hbA (v := y2) (vinD (by decide)) sx2 dL_law_742 ?_
  refine r_callV C w fv_RL_164 (c_X12_leftAt_3 l D cy m0 m1 m2 m3 m4 m5 m6 m7 m8 m9 m10 m11 m12 m13 m14 m15 m16 m17 y2 k0 k1) (hl.1.trans hml.symm) [0, 4, 1, 2, 3] [5] (wr := [(o0, .inl (cy 2, 1, .inr (.inl (vp_updL (fun _ => 0) 0 (Int32.toInt64 y2)))))]) ⟨rfl, rfl, rfl, rfl, by decide⟩ 0 rfl rfl rfl rfl rfl ⟨Nat.le_of_ble_eq_true rfl, Nat.le_of_ble_eq_true rfl, Nat.le_of_ble_eq_true rfl⟩ 73 53662 ⟨rfl, rfl, Nat.le_of_ble_eq_true rfl, Nat.le_of_ble_eq_true rfl⟩ dL_law_743 (fun u H locs hp w => ?_)
  have w : Wd D A s.heap [(o0, .inl (cy 2, 1, .inr (.inl (vp_updL (fun _ => 0) 0 (Int32.toInt64 y2))))), (m0, .inr (12, [.ref m1, .ref m2, .ref m3, .ref m4, .ref m5, .int 0, .ref m6, .int 0, .int 0, .int 0, .int 0, .int 0, .int 0, .int 0, .int 0, .int 0, .int 0, .int (-1), .ref m7, .ref m8, .int 190, .ref m9, .int 21, .ref m10, .ref m11, .ref m12, .ref m13, .ref m14, .int 0, .ref m15, .ref m16, .ref m17]))] _ _ := w.pick [0, 4] rfl rfl
  refine r_top (g2 := F0 m 746 ls [.int y2]) rfl ?_
  refine lv_istore (lv' := [(6, .int y2), (5, .int 0), (0, .ref b), (1, .ref q0), (2, .ref m0), (3, .ref o0), (4, .int 0)]) C.1 C.2.1 dL_law_746 hl (by decide) rfl (fun ls hl => ?_)
  refine lv_aload_n C.1 C.2.1 dL_law_748 rfl (lv_at hl 4 rfl) ?_
  refine r_callV C w fv_RL_134 (c_X12_thrown_5 l D cy m0 m1 m2 m3 m4 m5 m6 m7 m8 m9 m10 m11 m12 m13 m14 m15 m16 m17) (hl.1.trans hml.symm) [1] [0] (wr := [(o0, .inl (cy 2, 1, .inr (.inl (vp_updL (fun _ => 0) 0 (Int32.toInt64 y2)))))]) ⟨rfl, rfl, rfl, rfl, by decide⟩ 0 rfl rfl rfl rfl rfl ⟨Nat.le_of_ble_eq_true rfl, Nat.le_of_ble_eq_true rfl, Nat.le_of_ble_eq_true rfl⟩ 73 53662 ⟨rfl, rfl, Nat.le_of_ble_eq_true rfl, Nat.le_of_ble_eq_true rfl⟩ dL_law_749 (fun u H locs hp w => ?_)
  have w : Wd D A s.heap [(o0, .inl (cy 2, 1, .inr (.inl (vp_updL (fun _ => 0) 0 (Int32.toInt64 y2))))), (m0, .inr (12, [.ref m1, .ref m2, .ref m3, .ref m4, .ref m5, .int 0, .ref m6, .int 0, .int 0, .int 0, .int 0, .int 0, .int 0, .int 0, .int 0, .int 0, .int 0, .int (-1), .ref m7, .ref m8, .int 190, .ref m9, .int 21, .ref m10, .ref m11, .ref m12, .ref m13, .ref m14, .int 0, .ref m15, .ref m16, .ref m17]))] _ _ := w.pick [0, 1] rfl rfl
  refine r_top (g2 := F0 m 752 ls [.int 0]) rfl ?_
  refine lv_iload C.1 C.2.1 dL_law_752 (lv_at hl 1 rfl) ?_
  refine b_icmp_eq_t C (tgt := 759) dL_law_754 (by decide) (by decide) ?_
  refine lv_iload C.1 C.2.1 dL_law_759 (lv_at hl 1 rfl) ?_
  refine b_if_ne_f C (tgt := 776) dL_law_761 (by decide) (by decide) ?_
  refine lv_aload_n C.1 C.2.1 dL_law_764 rfl (lv_at hl 5 rfl) ?_
  refine lv_iconst (v := 0) C.1 C.2.1 dL_law_765 (by decide) ?_
  refine r_lald C w 0 rfl (v := (Int32.toInt64 y2)) (vinD (by decide)) rfl dL_law_766 ?_
  refine lv_iload C.1 C.2.1 dL_law_767 (lv_at hl 0 rfl) ?_
  refine lv_i2l (v := (Int32.toInt64 y2)) C.1 C.2.1 dL_law_769 rfl ?_
  refine r_lcmp C (v := 0) dL_law_770 (lg_cmp_self _) ?_
  refine b_if_eq_t C (tgt := 776) dL_law_771 (by decide) (by decide) ?_
  refine lv_goto (tgt := 2461) C.1 C.2.1 dL_law_776 (by decide) ?_
  refine W.widen (k := 600002) (n := 7302232) (Nat.le_of_ble_eq_true rfl) (Nat.le_of_ble_eq_true rfl) ?_
  exact kk _ _ _ w.2.2 (lv_sub hl [2, 6] rfl)
set_option maxRecDepth 100000 in
set_option maxHeartbeats 4000000 in
theorem t_L_9 {p : Program} {l : Launch} {e : Env} {s : State} {m : MethodId} {args : Array Value} {below : List Frame} {meth : Method} {c : Code} {Q : State → Prop} {D : va_G} {cy : Nat → ClassId} {A : Nat → Prop} {H : Heap} {locs : List Loc} {ls : Array Slot} {xs : Nat → Int32} (b q0 q1 q2 q4 q5 q6 q10 q3 q7 q8 q9 q11 q12 q13 q14 q15 q16 q17 m0 m1 m2 m3 m4 m5 m6 m7 m8 m9 m10 m11 m12 m13 m14 m15 m16 m17 o0 : Nat) (hst : l.stackTraces = false) (C : Cx p s m args c cL_law RL D cy A) (hml : c.maxLocals = 8) (hX : va_X b 6 xs s s.heap) (hbl : b < s.heap.size) (hbA : ¬ A b) (w : Wd D A s.heap [(q0, .inr (11, [.ref q1, .int 0, .int 0, .int (-1), .ref q2, .ref q4, .ref q5, .ref q6, .ref q10, .null])), (q1, .inl (cy 0, 900, .inl (fun _ => 0))), (q2, .inr (5, [.ref q3, .int 0, .int 0, .int 0, .int 0, .int 0, .int 0, .null])), (q3, .inl (cy 0, 0, .inl (fun _ => 0))), (q4, .inl (cy 4, 5, .inr (.inr (.inr (.inr (va_up (fun _ => none) 0 (some q10))))))), (q5, .inl (cy 4, 3, .inr (.inr (.inr (.inr (fun _ => none)))))), (q6, .inr (10, [.ref q7, .ref q8, .ref q9])), (q7, .inl (cy 1, 4, .inl (upd (upd (upd (upd (fun _ => 0) 0 (-1)) 1 (-1)) 2 (-1)) 3 (-1)))), (q8, .inl (cy 1, 4, .inl (fun _ => 0))), (q9, .inl (cy 2, 160, .inr (.inl (fun _ => 0)))), (q10, .inr (9, [.int 0, .int 2, .int 20, .int 120, .int 0, .int 0, .int 0, .int 0, .ref q11, .int 0, .ref q12, .ref q13, .int 0, .ref q14, .ref q15, .ref q16, .ref q17])), (q11, .inl (cy 1, 6, .inl (fun _ => 0))), (q12, .inl (cy 1, 20, .inl (fun _ => 0))), (q13, .inl (cy 1, 20, .inl (fun _ => 0))), (q14, .inl (cy 1, 300, .inl (fun _ => 0))), (q15, .inl (cy 1, 300, .inl (fun _ => 0))), (q16, .inl (cy 1, 300, .inl (fun _ => 0))), (q17, .inl (cy 1, 300, .inl (fun _ => 0))), (m0, .inr (12, [.ref m1, .ref m2, .ref m3, .ref m4, .ref m5, .int 0, .ref m6, .int 0, .int 0, .int 0, .int 0, .int 0, .int 0, .int 0, .int 0, .int 0, .int 0, .int (-1), .ref m7, .ref m8, .int 0, .ref m9, .int 0, .ref m10, .ref m11, .ref m12, .ref m13, .ref m14, .int 0, .ref m15, .ref m16, .ref m17])), (m2, .inl (cy 1, 1868, .inl (fun _ => 0))), (m3, .inl (cy 1, 1868, .inl (fun _ => 0))), (m4, .inl (cy 1, 5604, .inl (fun _ => 0))), (m5, .inl (cy 3, 3, .inl (fun _ => 0))), (m6, .inl (cy 1, 900, .inl (fun _ => 0))), (m7, .inl (cy 1, 1830, .inl (fun _ => 0))), (m8, .inl (cy 1, 1830, .inl (fun _ => 0))), (m9, .inl (cy 2, 2465, .inr (.inl (fun _ => 0)))), (m10, .inl (cy 1, 7201, .inl (fun _ => 0))), (m11, .inl (cy 1, 1830, .inl (fun _ => 0))), (m12, .inl (cy 1, 5, .inl (fun _ => 0))), (m13, .inl (cy 1, 6, .inl (fun _ => 0))), (m14, .inl (cy 1, 6, .inl (fun _ => 0))), (m15, .inl (cy 1, 4, .inl (upd (upd (upd (upd (fun _ => 0) 0 (-1)) 1 (-1)) 2 (-1)) 3 (-1)))), (m16, .inl (cy 1, 4, .inl (fun _ => 0))), (m17, .inl (cy 2, 160, .inr (.inl (fun _ => 0)))), (m1, .inl (cy 1, 1868, .inl (upd (upd (upd (fun _ => 0) 1 2) 2 20) 3 120))), (o0, .inl (cy 2, 1, .inr (.inl (fun _ => 0))))] H locs) (hl : lv_has ls 8 [(0, .ref b), (1, .ref q0), (2, .ref m0), (3, .ref o0), (4, .int 0)]) (kk : ∀ (H : Heap) (locs : List Loc) (ls : Array Slot), va_S A s.heap H locs → lv_has ls 8 [(0, .ref b), (4, .int 0)] → W p l e room_1 s m args below meth c H locs 600002 7302232 Q (F0 m 2461 ls [])) : W p l e room_1 s m args below meth c H locs 37 29845 Q (F0 m 711 ls []) := by
  obtain ⟨y1, sx1⟩ : ∃ y, xs 1 = y := ⟨_, rfl⟩
  obtain ⟨y2, sx2⟩ : ∃ y, xs 2 = y := ⟨_, rfl⟩
  obtain ⟨y3, sx3⟩ : ∃ y, xs 3 = y := ⟨_, rfl⟩
  obtain ⟨y4, sx4⟩ : ∃ y, xs 4 = y := ⟨_, rfl⟩
  obtain ⟨y5, sx5⟩ : ∃ y, xs 5 = y := ⟨_, rfl⟩
  by_cases g1 : y1 < 0
  · exact s_L_9_0 b q0 q1 q2 q4 q5 q6 q10 m0 m1 m2 m3 m4 m5 m6 m7 m8 m9 m10 m11 m12 m13 m14 m15 m16 m17 o0 y1 y2 g1 sx1 sx2 hst C hml hX hbl hbA (w.pick [0, 18, 35] rfl rfl) hl kk
  · by_cases g2 : y1 ≤ 0
    · by_cases g3 : y1 = 0
      · subst g3
        by_cases g4 : y2 < 0
        · exact s_L_9_2 b q0 q1 q2 q4 q5 q6 q10 q11 q12 q13 q14 q15 q16 q17 m0 m1 m2 m3 m4 m5 m6 m7 m8 m9 m10 m11 m12 m13 m14 m15 m16 m17 o0 y2 g4 sx1 sx2 C hml hX hbl hbA (w.pick [0, 10, 18, 24, 25, 26, 35, 36] rfl rfl) hl kk
        · by_cases g5 : y2 < 190
          · exact s_L_9_4 b q0 q1 q2 q4 q5 q6 q10 q11 q12 q13 q14 q15 q16 q17 m0 m1 m2 m3 m4 m5 m6 m7 m8 m9 m10 m11 m12 m13 m14 m15 m16 m17 o0 y2 g4 g5 sx1 sx2 C hml hX hbl hbA (w.pick [0, 10, 18, 24, 25, 26, 35, 36] rfl rfl) hl kk
          · exact s_L_9_3 b q0 q1 q2 q4 q5 q6 q10 q11 q12 q13 q14 q15 q16 q17 m0 m1 m2 m3 m4 m5 m6 m7 m8 m9 m10 m11 m12 m13 m14 m15 m16 m17 o0 y2 g4 g5 sx1 sx2 C hml hX hbl hbA (w.pick [0, 10, 18, 24, 25, 26, 35, 36] rfl rfl) hl kk
      · exfalso
        have h0 := i_nlt g1
        have h1 := i_le g2
        have h2 := (not_congr (fa_eq _ _)).mp g3
        have e0 : (0 : Int32).toInt = 0 := (by decide)
        omega
    · exact s_L_9_1 b q0 q1 q2 q4 q5 q6 q10 q11 q12 q13 q14 q15 q16 q17 m0 m1 m2 m3 m4 m5 m6 m7 m8 m9 m10 m11 m12 m13 m14 m15 m16 m17 o0 y1 y2 g1 g2 sx1 sx2 hst C hml hX hbl hbA (w.pick [0, 10, 18, 35] rfl rfl) hl kk
theorem dL_law_779 : decode cL_law 779 = .ok (.aload_n 1, 1) := by decide +kernel
theorem dL_law_780 : decode cL_law 780 = .ok (.aload_n 0, 1) := by decide +kernel
theorem dL_law_781 : decode cL_law 781 = .ok (.iload 4, 2) := by decide +kernel
theorem dL_law_783 : decode cL_law 783 = .ok (.iconst 1, 1) := by decide +kernel
theorem dL_law_784 : decode cL_law 784 = .ok (.iadd, 1) := by decide +kernel
theorem dL_law_785 : decode cL_law 785 = .ok (.iaload, 1) := by decide +kernel
theorem dL_law_786 : decode cL_law 786 = .ok (.aload_n 0, 1) := by decide +kernel
theorem dL_law_787 : decode cL_law 787 = .ok (.iload 4, 2) := by decide +kernel
theorem dL_law_789 : decode cL_law 789 = .ok (.iconst 2, 1) := by decide +kernel
theorem dL_law_790 : decode cL_law 790 = .ok (.iadd, 1) := by decide +kernel
theorem dL_law_791 : decode cL_law 791 = .ok (.iaload, 1) := by decide +kernel
theorem dL_law_792 : decode cL_law 792 = .ok (.aload_n 3, 1) := by decide +kernel
theorem dL_law_793 : decode cL_law 793 = .ok (.invokestatic 165, 3) := by decide +kernel
theorem fh_RL_165 : FH RL 165 yL_isLeft cL_isLeft 5 (some .int) [(0, 17, 20, 19), (0, 17, 24, 13)] 4 := ⟨⟨gw_mem (by decide +kernel) (by decide +kernel), gw_mem (by decide +kernel) (by decide +kernel), gw_mem (by decide +kernel) (by decide +kernel), gw_mem (by decide +kernel) (by decide +kernel)⟩, ⟨by decide +kernel, by decide +kernel, by decide +kernel⟩⟩
theorem dL_law_796 : decode cL_law 796 = .ok (.istore 5, 2) := by decide +kernel
theorem dL_law_798 : decode cL_law 798 = .ok (.aload_n 2, 1) := by decide +kernel
theorem dL_law_799 : decode cL_law 799 = .ok (.aload_n 0, 1) := by decide +kernel
theorem dL_law_800 : decode cL_law 800 = .ok (.iload 4, 2) := by decide +kernel
theorem dL_law_802 : decode cL_law 802 = .ok (.iconst 1, 1) := by decide +kernel
theorem dL_law_803 : decode cL_law 803 = .ok (.iadd, 1) := by decide +kernel
theorem dL_law_804 : decode cL_law 804 = .ok (.iaload, 1) := by decide +kernel
theorem dL_law_805 : decode cL_law 805 = .ok (.aload_n 0, 1) := by decide +kernel
theorem dL_law_806 : decode cL_law 806 = .ok (.iload 4, 2) := by decide +kernel
theorem dL_law_808 : decode cL_law 808 = .ok (.iconst 2, 1) := by decide +kernel
theorem dL_law_809 : decode cL_law 809 = .ok (.iadd, 1) := by decide +kernel
theorem dL_law_810 : decode cL_law 810 = .ok (.iaload, 1) := by decide +kernel
theorem dL_law_811 : decode cL_law 811 = .ok (.invokevirtual 167, 3) := by decide +kernel
theorem fv_RL_167 : FV RL 167 yX12_isLeft cX12_isLeft 3 (some .boolean) 2 := ⟨⟨gw_mem (by decide +kernel) (by decide +kernel), gw_mem (by decide +kernel) (by decide +kernel), gw_mem (by decide +kernel) (by decide +kernel), gw_mem (by decide +kernel) (by decide +kernel), gw_mem (by decide +kernel) (by decide +kernel)⟩, ⟨by decide +kernel, by decide +kernel, by decide +kernel⟩⟩
theorem dL_law_814 : decode cL_law 814 = .ok (.istore 6, 2) := by decide +kernel
theorem dL_law_816 : decode cL_law 816 = .ok (.aload_n 2, 1) := by decide +kernel
theorem dL_law_817 : decode cL_law 817 = .ok (.invokevirtual 134, 3) := by decide +kernel
theorem dL_law_820 : decode cL_law 820 = .ok (.iload 5, 2) := by decide +kernel
theorem dL_law_822 : decode cL_law 822 = .ok (.if_icmp .eq 5, 3) := by decide +kernel
theorem dL_law_827 : decode cL_law 827 = .ok (.iload 5, 2) := by decide +kernel
theorem dL_law_829 : decode cL_law 829 = .ok (.ifCond .ne 22, 3) := by decide +kernel
theorem dL_law_851 : decode cL_law 851 = .ok (.goto 1610, 3) := by decide +kernel
set_option maxRecDepth 100000 in
set_option maxHeartbeats 4000000 in
theorem s_L_10_0 {p : Program} {l : Launch} {e : Env} {s : State} {m : MethodId} {args : Array Value} {below : List Frame} {meth : Method} {c : Code} {Q : State → Prop} {D : va_G} {cy : Nat → ClassId} {A : Nat → Prop} {H : Heap} {locs : List Loc} {ls : Array Slot} {xs : Nat → Int32} (b q0 q1 q2 q4 q5 q6 q10 m0 m1 m2 m3 m4 m5 m6 m7 m8 m9 m10 m11 m12 m13 m14 m15 m16 m17 o0 : Nat) (y1 : Int32) (y2 : Int32) (k0 : y2 < 0) (sx1 : xs 1 = y1) (sx2 : xs 2 = y2) (hst : l.stackTraces = false) (C : Cx p s m args c cL_law RL D cy A) (hml : c.maxLocals = 8) (hX : va_X b 6 xs s s.heap) (hbl : b < s.heap.size) (hbA : ¬ A b) (w : Wd D A s.heap [(q0, .inr (11, [.ref q1, .int 0, .int 0, .int (-1), .ref q2, .ref q4, .ref q5, .ref q6, .ref q10, .null])), (m0, .inr (12, [.ref m1, .ref m2, .ref m3, .ref m4, .ref m5, .int 0, .ref m6, .int 0, .int 0, .int 0, .int 0, .int 0, .int 0, .int 0, .int 0, .int 0, .int 0, .int (-1), .ref m7, .ref m8, .int 0, .ref m9, .int 0, .ref m10, .ref m11, .ref m12, .ref m13, .ref m14, .int 0, .ref m15, .ref m16, .ref m17])), (m7, .inl (cy 1, 1830, .inl (fun _ => 0))), (m8, .inl (cy 1, 1830, .inl (fun _ => 0))), (m1, .inl (cy 1, 1868, .inl (upd (upd (upd (fun _ => 0) 1 2) 2 20) 3 120)))] H locs) (hl : lv_has ls 8 [(0, .ref b), (1, .ref q0), (2, .ref m0), (3, .ref o0), (4, .int 0)]) (kk : ∀ (H : Heap) (locs : List Loc) (ls : Array Slot), va_S A s.heap H locs → lv_has ls 8 [(0, .ref b), (4, .int 0)] → W p l e room_1 s m args below meth c H locs 600002 7302232 Q (F0 m 2461 ls [])) : W p l e room_1 s m args below meth c H locs 37 29845 Q (F0 m 779 ls []) := by
  refine lv_aload_n C.1 C.2.1 dL_law_779 rfl (lv_at hl 1 rfl) ?_
  refine lv_aload_n C.1 C.2.1 dL_law_780 rfl (lv_at hl 0 rfl) ?_
  refine lv_iload C.1 C.2.1 dL_law_781 (lv_at hl 4 rfl) ?_
  refine lv_iconst (v := 1) C.1 C.2.1 dL_law_783 (by decide) ?_
  refine r_iadd C (v := 1) dL_law_784 (by decide) ?_
  refine r_sld C w hX hbl hbA (v := y1) (vinD (by decide)) sx1 dL_law_785 ?_
  refine lv_aload_n C.1 C.2.1 dL_law_786 rfl (lv_at hl 0 rfl) ?_
  refine lv_iload C.1 C.2.1 dL_law_787 (lv_at hl 4 rfl) ?_
  refine lv_iconst (v := 2) C.1 C.2.1 dL_law_789 (by decide) ?_
  refine r_iadd C (v := 2) dL_law_790 (by decide) ?_
  refine r_sld C w hX hbl hbA (v := y2) (vinD (by decide)) sx2 dL_law_791 ?_
  refine lv_aload_n C.1 C.2.1 dL_law_792 rfl (lv_at hl 3 rfl) ?_
  refine r_callH C w fh_RL_165 (c_L_isLeft_0 l D cy q0 o0 q1 q2 q4 q5 q6 q10 y1 y2 k0 hst) (hl.1.trans hml.symm) [0] [1, 2, 3, 4] (wr := [(m0, .inr (12, [.ref m1, .ref m2, .ref m3, .ref m4, .ref m5, .int 0, .ref m6, .int 0, .int 0, .int 0, .int 0, .int 0, .int 0, .int 0, .int 0, .int 0, .int 0, .int (-1), .ref m7, .ref m8, .int 0, .ref m9, .int 0, .ref m10, .ref m11, .ref m12, .ref m13, .ref m14, .int 0, .ref m15, .ref m16, .ref m17])), (m7, .inl (cy 1, 1830, .inl (fun _ => 0))), (m8, .inl (cy 1, 1830, .inl (fun _ => 0))), (m1, .inl (cy 1, 1868, .inl (upd (upd (upd (fun _ => 0) 1 2) 2 20) 3 120)))]) ⟨rfl, rfl, rfl, rfl, by decide⟩ rfl rfl ⟨Nat.le_of_ble_eq_true rfl, Nat.le_of_ble_eq_true rfl, Nat.le_of_ble_eq_true rfl⟩ 38 29851 ⟨rfl, rfl, Nat.le_of_ble_eq_true rfl, Nat.le_of_ble_eq_true rfl⟩ dL_law_793 (fun u H locs hp w => ?_)
  have w : Wd D A s.heap [(m0, .inr (12, [.ref m1, .ref m2, .ref m3, .ref m4, .ref m5, .int 0, .ref m6, .int 0, .int 0, .int 0, .int 0, .int 0, .int 0, .int 0, .int 0, .int 0, .int 0, .int (-1), .ref m7, .ref m8, .int 0, .ref m9, .int 0, .ref m10, .ref m11, .ref m12, .ref m13, .ref m14, .int 0, .ref m15, .ref m16, .ref m17])), (m7, .inl (cy 1, 1830, .inl (fun _ => 0))), (m8, .inl (cy 1, 1830, .inl (fun _ => 0))), (m1, .inl (cy 1, 1868, .inl (upd (upd (upd (fun _ => 0) 1 2) 2 20) 3 120)))] _ _ := w.pick [0, 1, 2, 3] rfl rfl
  refine r_top (g2 := F0 m 796 ls [.int 1]) rfl ?_
  refine lv_istore (lv' := [(5, .int 1), (0, .ref b), (1, .ref q0), (2, .ref m0), (3, .ref o0), (4, .int 0)]) C.1 C.2.1 dL_law_796 hl (by decide) rfl (fun ls hl => ?_)
  refine lv_aload_n C.1 C.2.1 dL_law_798 rfl (lv_at hl 3 rfl) ?_
  refine lv_aload_n C.1 C.2.1 dL_law_799 rfl (lv_at hl 1 rfl) ?_
  refine lv_iload C.1 C.2.1 dL_law_800 (lv_at hl 5 rfl) ?_
  refine lv_iconst (v := 1) C.1 C.2.1 dL_law_802 (by decide) ?_
  refine r_iadd C (v := 1) dL_law_803 (by decide) ?_
  refine r_sld C w hX hbl hbA (v := y1) (vinD (by decide)) sx1 dL_law_804 ?_
  refine lv_aload_n C.1 C.2.1 dL_law_805 rfl (lv_at hl 1 rfl) ?_
  refine lv_iload C.1 C.2.1 dL_law_806 (lv_at hl 5 rfl) ?_
  refine lv_iconst (v := 2) C.1 C.2.1 dL_law_808 (by decide) ?_
  refine r_iadd C (v := 2) dL_law_809 (by decide) ?_
  refine r_sld C w hX hbl hbA (v := y2) (vinD (by decide)) sx2 dL_law_810 ?_
  refine r_callV C w fv_RL_167 (c_X12_isLeft_0 l D cy m0 m1 m2 m3 m4 m5 m6 m7 m8 m9 m10 m11 m12 m13 m14 m15 m16 m17 y1 y2 k0) (hl.1.trans hml.symm) [0, 3, 1, 2] [] (wr := []) ⟨rfl, rfl, rfl, rfl, by decide⟩ 0 rfl rfl rfl rfl rfl ⟨Nat.le_of_ble_eq_true rfl, Nat.le_of_ble_eq_true rfl, Nat.le_of_ble_eq_true rfl⟩ 38 29851 ⟨rfl, rfl, Nat.le_of_ble_eq_true rfl, Nat.le_of_ble_eq_true rfl⟩ dL_law_811 (fun u H locs hp w => ?_)
  have w : Wd D A s.heap [(m0, .inr (12, [.ref m1, .ref m2, .ref m3, .ref m4, .ref m5, .int 1, .ref m6, .int 0, .int 0, .int 0, .int 0, .int 0, .int 0, .int 0, .int 0, .int 0, .int 0, .int (-1), .ref m7, .ref m8, .int 190, .ref m9, .int 0, .ref m10, .ref m11, .ref m12, .ref m13, .ref m14, .int 0, .ref m15, .ref m16, .ref m17]))] _ _ := w.pick [0] rfl rfl
  refine r_top (g2 := F0 m 814 ls [.int 0]) rfl ?_
  refine lv_istore (lv' := [(6, .int 0), (5, .int 1), (0, .ref b), (1, .ref q0), (2, .ref m0), (3, .ref o0), (4, .int 0)]) C.1 C.2.1 dL_law_814 hl (by decide) rfl (fun ls hl => ?_)
  refine lv_aload_n C.1 C.2.1 dL_law_816 rfl (lv_at hl 4 rfl) ?_
  refine r_callV C w fv_RL_134 (c_X12_thrown_2 l D cy m0 m1 m2 m3 m4 m5 m6 m7 m8 m9 m10 m11 m12 m13 m14 m15 m16 m17) (hl.1.trans hml.symm) [0] [] (wr := []) ⟨rfl, rfl, rfl, rfl, by decide⟩ 0 rfl rfl rfl rfl rfl ⟨Nat.le_of_ble_eq_true rfl, Nat.le_of_ble_eq_true rfl, Nat.le_of_ble_eq_true rfl⟩ 38 29851 ⟨rfl, rfl, Nat.le_of_ble_eq_true rfl, Nat.le_of_ble_eq_true rfl⟩ dL_law_817 (fun u H locs hp w => ?_)
  have w : Wd D A s.heap [(m0, .inr (12, [.ref m1, .ref m2, .ref m3, .ref m4, .ref m5, .int 1, .ref m6, .int 0, .int 0, .int 0, .int 0, .int 0, .int 0, .int 0, .int 0, .int 0, .int 0, .int (-1), .ref m7, .ref m8, .int 190, .ref m9, .int 0, .ref m10, .ref m11, .ref m12, .ref m13, .ref m14, .int 0, .ref m15, .ref m16, .ref m17]))] _ _ := w.pick [0] rfl rfl
  refine r_top (g2 := F0 m 820 ls [.int 1]) rfl ?_
  refine lv_iload C.1 C.2.1 dL_law_820 (lv_at hl 1 rfl) ?_
  refine b_icmp_eq_t C (tgt := 827) dL_law_822 (by decide) (by decide) ?_
  refine lv_iload C.1 C.2.1 dL_law_827 (lv_at hl 1 rfl) ?_
  refine b_if_ne_t C (tgt := 851) dL_law_829 (by decide) (by decide) ?_
  refine lv_goto (tgt := 2461) C.1 C.2.1 dL_law_851 (by decide) ?_
  refine W.widen (k := 600002) (n := 7302232) (Nat.le_of_ble_eq_true rfl) (Nat.le_of_ble_eq_true rfl) ?_
  exact kk _ _ _ w.2.2 (lv_sub hl [2, 6] rfl)
set_option maxRecDepth 100000 in
set_option maxHeartbeats 4000000 in
theorem s_L_10_1 {p : Program} {l : Launch} {e : Env} {s : State} {m : MethodId} {args : Array Value} {below : List Frame} {meth : Method} {c : Code} {Q : State → Prop} {D : va_G} {cy : Nat → ClassId} {A : Nat → Prop} {H : Heap} {locs : List Loc} {ls : Array Slot} {xs : Nat → Int32} (b q0 q1 q2 q4 q5 q6 q10 q11 q12 q13 q14 q15 q16 q17 m0 m1 m2 m3 m4 m5 m6 m7 m8 m9 m10 m11 m12 m13 m14 m15 m16 m17 o0 : Nat) (y1 : Int32) (y2 : Int32) (k0 : ¬ y2 < 0) (k1 : ¬ y2 < 190) (sx1 : xs 1 = y1) (sx2 : xs 2 = y2) (hst : l.stackTraces = false) (C : Cx p s m args c cL_law RL D cy A) (hml : c.maxLocals = 8) (hX : va_X b 6 xs s s.heap) (hbl : b < s.heap.size) (hbA : ¬ A b) (w : Wd D A s.heap [(q0, .inr (11, [.ref q1, .int 0, .int 0, .int (-1), .ref q2, .ref q4, .ref q5, .ref q6, .ref q10, .null])), (q10, .inr (9, [.int 0, .int 2, .int 20, .int 120, .int 0, .int 0, .int 0, .int 0, .ref q11, .int 0, .ref q12, .ref q13, .int 0, .ref q14, .ref q15, .ref q16, .ref q17])), (m0, .inr (12, [.ref m1, .ref m2, .ref m3, .ref m4, .ref m5, .int 0, .ref m6, .int 0, .int 0, .int 0, .int 0, .int 0, .int 0, .int 0, .int 0, .int 0, .int 0, .int (-1), .ref m7, .ref m8, .int 0, .ref m9, .int 0, .ref m10, .ref m11, .ref m12, .ref m13, .ref m14, .int 0, .ref m15, .ref m16, .ref m17])), (m7, .inl (cy 1, 1830, .inl (fun _ => 0))), (m8, .inl (cy 1, 1830, .inl (fun _ => 0))), (m1, .inl (cy 1, 1868, .inl (upd (upd (upd (fun _ => 0) 1 2) 2 20) 3 120)))] H locs) (hl : lv_has ls 8 [(0, .ref b), (1, .ref q0), (2, .ref m0), (3, .ref o0), (4, .int 0)]) (kk : ∀ (H : Heap) (locs : List Loc) (ls : Array Slot), va_S A s.heap H locs → lv_has ls 8 [(0, .ref b), (4, .int 0)] → W p l e room_1 s m args below meth c H locs 600002 7302232 Q (F0 m 2461 ls [])) : W p l e room_1 s m args below meth c H locs 37 29845 Q (F0 m 779 ls []) := by
  refine lv_aload_n C.1 C.2.1 dL_law_779 rfl (lv_at hl 1 rfl) ?_
  refine lv_aload_n C.1 C.2.1 dL_law_780 rfl (lv_at hl 0 rfl) ?_
  refine lv_iload C.1 C.2.1 dL_law_781 (lv_at hl 4 rfl) ?_
  refine lv_iconst (v := 1) C.1 C.2.1 dL_law_783 (by decide) ?_
  refine r_iadd C (v := 1) dL_law_784 (by decide) ?_
  refine r_sld C w hX hbl hbA (v := y1) (vinD (by decide)) sx1 dL_law_785 ?_
  refine lv_aload_n C.1 C.2.1 dL_law_786 rfl (lv_at hl 0 rfl) ?_
  refine lv_iload C.1 C.2.1 dL_law_787 (lv_at hl 4 rfl) ?_
  refine lv_iconst (v := 2) C.1 C.2.1 dL_law_789 (by decide) ?_
  refine r_iadd C (v := 2) dL_law_790 (by decide) ?_
  refine r_sld C w hX hbl hbA (v := y2) (vinD (by decide)) sx2 dL_law_791 ?_
  refine lv_aload_n C.1 C.2.1 dL_law_792 rfl (lv_at hl 3 rfl) ?_
  refine r_callH C w fh_RL_165 (c_L_isLeft_1 l D cy q0 o0 q1 q2 q4 q5 q6 q10 q11 q12 q13 q14 q15 q16 q17 y1 y2 k0 k1 hst) (hl.1.trans hml.symm) [0, 1] [2, 3, 4, 5] (wr := [(m0, .inr (12, [.ref m1, .ref m2, .ref m3, .ref m4, .ref m5, .int 0, .ref m6, .int 0, .int 0, .int 0, .int 0, .int 0, .int 0, .int 0, .int 0, .int 0, .int 0, .int (-1), .ref m7, .ref m8, .int 0, .ref m9, .int 0, .ref m10, .ref m11, .ref m12, .ref m13, .ref m14, .int 0, .ref m15, .ref m16, .ref m17])), (m7, .inl (cy 1, 1830, .inl (fun _ => 0))), (m8, .inl (cy 1, 1830, .inl (fun _ => 0))), (m1, .inl (cy 1, 1868, .inl (upd (upd (upd (fun _ => 0) 1 2) 2 20) 3 120)))]) ⟨rfl, rfl, rfl, rfl, by decide⟩ rfl rfl ⟨Nat.le_of_ble_eq_true rfl, Nat.le_of_ble_eq_true rfl, Nat.le_of_ble_eq_true rfl⟩ 74 53668 ⟨rfl, rfl, Nat.le_of_ble_eq_true rfl, Nat.le_of_ble_eq_true rfl⟩ dL_law_793 (fun u H locs hp w => ?_)
  have w : Wd D A s.heap [(m0, .inr (12, [.ref m1, .ref m2, .ref m3, .ref m4, .ref m5, .int 0, .ref m6, .int 0, .int 0, .int 0, .int 0, .int 0, .int 0, .int 0, .int 0, .int 0, .int 0, .int (-1), .ref m7, .ref m8, .int 0, .ref m9, .int 0, .ref m10, .ref m11, .ref m12, .ref m13, .ref m14, .int 0, .ref m15, .ref m16, .ref m17])), (m7, .inl (cy 1, 1830, .inl (fun _ => 0))), (m8, .inl (cy 1, 1830, .inl (fun _ => 0))), (m1, .inl (cy 1, 1868, .inl (upd (upd (upd (fun _ => 0) 1 2) 2 20) 3 120)))] _ _ := w.pick [0, 1, 2, 3] rfl rfl
  refine r_top (g2 := F0 m 796 ls [.int 1]) rfl ?_
  refine lv_istore (lv' := [(5, .int 1), (0, .ref b), (1, .ref q0), (2, .ref m0), (3, .ref o0), (4, .int 0)]) C.1 C.2.1 dL_law_796 hl (by decide) rfl (fun ls hl => ?_)
  refine lv_aload_n C.1 C.2.1 dL_law_798 rfl (lv_at hl 3 rfl) ?_
  refine lv_aload_n C.1 C.2.1 dL_law_799 rfl (lv_at hl 1 rfl) ?_
  refine lv_iload C.1 C.2.1 dL_law_800 (lv_at hl 5 rfl) ?_
  refine lv_iconst (v := 1) C.1 C.2.1 dL_law_802 (by decide) ?_
  refine r_iadd C (v := 1) dL_law_803 (by decide) ?_
  refine r_sld C w hX hbl hbA (v := y1) (vinD (by decide)) sx1 dL_law_804 ?_
  refine lv_aload_n C.1 C.2.1 dL_law_805 rfl (lv_at hl 1 rfl) ?_
  refine lv_iload C.1 C.2.1 dL_law_806 (lv_at hl 5 rfl) ?_
  refine lv_iconst (v := 2) C.1 C.2.1 dL_law_808 (by decide) ?_
  refine r_iadd C (v := 2) dL_law_809 (by decide) ?_
  refine r_sld C w hX hbl hbA (v := y2) (vinD (by decide)) sx2 dL_law_810 ?_
  refine r_callV C w fv_RL_167 (c_X12_isLeft_1 l D cy m0 m1 m2 m3 m4 m5 m6 m7 m8 m9 m10 m11 m12 m13 m14 m15 m16 m17 y1 y2 k0 (by have h0 := (i_nlt k0); have h1 := (i_nlt k1); have e0 : (0 : Int32).toInt = 0 := (by decide); have e1 : (189 : Int32).toInt = 189 := (by decide); have e2 : (190 : Int32).toInt = 190 := (by decide); rw [fa_lt]; omega)) (hl.1.trans hml.symm) [0, 3, 1, 2] [] (wr := []) ⟨rfl, rfl, rfl, rfl, by decide⟩ 0 rfl rfl rfl rfl rfl ⟨Nat.le_of_ble_eq_true rfl, Nat.le_of_ble_eq_true rfl, Nat.le_of_ble_eq_true rfl⟩ 74 53668 ⟨rfl, rfl, Nat.le_of_ble_eq_true rfl, Nat.le_of_ble_eq_true rfl⟩ dL_law_811 (fun u H locs hp w => ?_)
  have w : Wd D A s.heap [(m0, .inr (12, [.ref m1, .ref m2, .ref m3, .ref m4, .ref m5, .int 1, .ref m6, .int 0, .int 0, .int 0, .int 0, .int 0, .int 0, .int 0, .int 0, .int 0, .int 0, .int (-1), .ref m7, .ref m8, .int 190, .ref m9, .int 0, .ref m10, .ref m11, .ref m12, .ref m13, .ref m14, .int 0, .ref m15, .ref m16, .ref m17]))] _ _ := w.pick [0] rfl rfl
  refine r_top (g2 := F0 m 814 ls [.int 0]) rfl ?_
  refine lv_istore (lv' := [(6, .int 0), (5, .int 1), (0, .ref b), (1, .ref q0), (2, .ref m0), (3, .ref o0), (4, .int 0)]) C.1 C.2.1 dL_law_814 hl (by decide) rfl (fun ls hl => ?_)
  refine lv_aload_n C.1 C.2.1 dL_law_816 rfl (lv_at hl 4 rfl) ?_
  refine r_callV C w fv_RL_134 (c_X12_thrown_2 l D cy m0 m1 m2 m3 m4 m5 m6 m7 m8 m9 m10 m11 m12 m13 m14 m15 m16 m17) (hl.1.trans hml.symm) [0] [] (wr := []) ⟨rfl, rfl, rfl, rfl, by decide⟩ 0 rfl rfl rfl rfl rfl ⟨Nat.le_of_ble_eq_true rfl, Nat.le_of_ble_eq_true rfl, Nat.le_of_ble_eq_true rfl⟩ 74 53668 ⟨rfl, rfl, Nat.le_of_ble_eq_true rfl, Nat.le_of_ble_eq_true rfl⟩ dL_law_817 (fun u H locs hp w => ?_)
  have w : Wd D A s.heap [(m0, .inr (12, [.ref m1, .ref m2, .ref m3, .ref m4, .ref m5, .int 1, .ref m6, .int 0, .int 0, .int 0, .int 0, .int 0, .int 0, .int 0, .int 0, .int 0, .int 0, .int (-1), .ref m7, .ref m8, .int 190, .ref m9, .int 0, .ref m10, .ref m11, .ref m12, .ref m13, .ref m14, .int 0, .ref m15, .ref m16, .ref m17]))] _ _ := w.pick [0] rfl rfl
  refine r_top (g2 := F0 m 820 ls [.int 1]) rfl ?_
  refine lv_iload C.1 C.2.1 dL_law_820 (lv_at hl 1 rfl) ?_
  refine b_icmp_eq_t C (tgt := 827) dL_law_822 (by decide) (by decide) ?_
  refine lv_iload C.1 C.2.1 dL_law_827 (lv_at hl 1 rfl) ?_
  refine b_if_ne_t C (tgt := 851) dL_law_829 (by decide) (by decide) ?_
  refine lv_goto (tgt := 2461) C.1 C.2.1 dL_law_851 (by decide) ?_
  refine W.widen (k := 600002) (n := 7302232) (Nat.le_of_ble_eq_true rfl) (Nat.le_of_ble_eq_true rfl) ?_
  exact kk _ _ _ w.2.2 (lv_sub hl [2, 6] rfl)
set_option maxRecDepth 100000 in
set_option maxHeartbeats 4000000 in
theorem s_L_10_2 {p : Program} {l : Launch} {e : Env} {s : State} {m : MethodId} {args : Array Value} {below : List Frame} {meth : Method} {c : Code} {Q : State → Prop} {D : va_G} {cy : Nat → ClassId} {A : Nat → Prop} {H : Heap} {locs : List Loc} {ls : Array Slot} {xs : Nat → Int32} (b q0 q1 q2 q4 q5 q6 q10 q11 q12 q13 q14 q15 q16 q17 m0 m1 m2 m3 m4 m5 m6 m7 m8 m9 m10 m11 m12 m13 m14 m15 m16 m17 o0 : Nat) (y1 : Int32) (y2 : Int32) (k0 : ¬ y2 < 0) (k1 : y2 < 190) (k2 : y1 < 0) (sx1 : xs 1 = y1) (sx2 : xs 2 = y2) (hst : l.stackTraces = false) (C : Cx p s m args c cL_law RL D cy A) (hml : c.maxLocals = 8) (hX : va_X b 6 xs s s.heap) (hbl : b < s.heap.size) (hbA : ¬ A b) (w : Wd D A s.heap [(q0, .inr (11, [.ref q1, .int 0, .int 0, .int (-1), .ref q2, .ref q4, .ref q5, .ref q6, .ref q10, .null])), (q10, .inr (9, [.int 0, .int 2, .int 20, .int 120, .int 0, .int 0, .int 0, .int 0, .ref q11, .int 0, .ref q12, .ref q13, .int 0, .ref q14, .ref q15, .ref q16, .ref q17])), (m0, .inr (12, [.ref m1, .ref m2, .ref m3, .ref m4, .ref m5, .int 0, .ref m6, .int 0, .int 0, .int 0, .int 0, .int 0, .int 0, .int 0, .int 0, .int 0, .int 0, .int (-1), .ref m7, .ref m8, .int 0, .ref m9, .int 0, .ref m10, .ref m11, .ref m12, .ref m13, .ref m14, .int 0, .ref m15, .ref m16, .ref m17])), (m7, .inl (cy 1, 1830, .inl (fun _ => 0))), (m8, .inl (cy 1, 1830, .inl (fun _ => 0))), (m1, .inl (cy 1, 1868, .inl (upd (upd (upd (fun _ => 0) 1 2) 2 20) 3 120)))] H locs) (hl : lv_has ls 8 [(0, .ref b), (1, .ref q0), (2, .ref m0), (3, .ref o0), (4, .int 0)]) (kk : ∀ (H : Heap) (locs : List Loc) (ls : Array Slot), va_S A s.heap H locs → lv_has ls 8 [(0, .ref b), (4, .int 0)] → W p l e room_1 s m args below meth c H locs 600002 7302232 Q (F0 m 2461 ls [])) : W p l e room_1 s m args below meth c H locs 37 29845 Q (F0 m 779 ls []) := by
  refine lv_aload_n C.1 C.2.1 dL_law_779 rfl (lv_at hl 1 rfl) ?_
  refine lv_aload_n C.1 C.2.1 dL_law_780 rfl (lv_at hl 0 rfl) ?_
  refine lv_iload C.1 C.2.1 dL_law_781 (lv_at hl 4 rfl) ?_
  refine lv_iconst (v := 1) C.1 C.2.1 dL_law_783 (by decide) ?_
  refine r_iadd C (v := 1) dL_law_784 (by decide) ?_
  refine r_sld C w hX hbl hbA (v := y1) (vinD (by decide)) sx1 dL_law_785 ?_
  refine lv_aload_n C.1 C.2.1 dL_law_786 rfl (lv_at hl 0 rfl) ?_
  refine lv_iload C.1 C.2.1 dL_law_787 (lv_at hl 4 rfl) ?_
  refine lv_iconst (v := 2) C.1 C.2.1 dL_law_789 (by decide) ?_
  refine r_iadd C (v := 2) dL_law_790 (by decide) ?_
  refine r_sld C w hX hbl hbA (v := y2) (vinD (by decide)) sx2 dL_law_791 ?_
  refine lv_aload_n C.1 C.2.1 dL_law_792 rfl (lv_at hl 3 rfl) ?_
  refine r_callH C w fh_RL_165 (c_L_isLeft_2 l D cy q0 o0 q1 q2 q4 q5 q6 q10 q11 q12 q13 q14 q15 q16 q17 y1 y2 k0 k1 k2 hst) (hl.1.trans hml.symm) [0, 1] [2, 3, 4, 5] (wr := [(m0, .inr (12, [.ref m1, .ref m2, .ref m3, .ref m4, .ref m5, .int 0, .ref m6, .int 0, .int 0, .int 0, .int 0, .int 0, .int 0, .int 0, .int 0, .int 0, .int 0, .int (-1), .ref m7, .ref m8, .int 0, .ref m9, .int 0, .ref m10, .ref m11, .ref m12, .ref m13, .ref m14, .int 0, .ref m15, .ref m16, .ref m17])), (m7, .inl (cy 1, 1830, .inl (fun _ => 0))), (m8, .inl (cy 1, 1830, .inl (fun _ => 0))), (m1, .inl (cy 1, 1868, .inl (upd (upd (upd (fun _ => 0) 1 2) 2 20) 3 120)))]) ⟨rfl, rfl, rfl, rfl, by decide⟩ rfl rfl ⟨Nat.le_of_ble_eq_true rfl, Nat.le_of_ble_eq_true rfl, Nat.le_of_ble_eq_true rfl⟩ 74 53668 ⟨rfl, rfl, Nat.le_of_ble_eq_true rfl, Nat.le_of_ble_eq_true rfl⟩ dL_law_793 (fun u H locs hp w => ?_)
  have w : Wd D A s.heap [(m0, .inr (12, [.ref m1, .ref m2, .ref m3, .ref m4, .ref m5, .int 0, .ref m6, .int 0, .int 0, .int 0, .int 0, .int 0, .int 0, .int 0, .int 0, .int 0, .int 0, .int (-1), .ref m7, .ref m8, .int 0, .ref m9, .int 0, .ref m10, .ref m11, .ref m12, .ref m13, .ref m14, .int 0, .ref m15, .ref m16, .ref m17])), (m7, .inl (cy 1, 1830, .inl (fun _ => 0))), (m8, .inl (cy 1, 1830, .inl (fun _ => 0))), (m1, .inl (cy 1, 1868, .inl (upd (upd (upd (fun _ => 0) 1 2) 2 20) 3 120)))] _ _ := w.pick [0, 1, 2, 3] rfl rfl
  refine r_top (g2 := F0 m 796 ls [.int 2]) rfl ?_
  refine lv_istore (lv' := [(5, .int 2), (0, .ref b), (1, .ref q0), (2, .ref m0), (3, .ref o0), (4, .int 0)]) C.1 C.2.1 dL_law_796 hl (by decide) rfl (fun ls hl => ?_)
  refine lv_aload_n C.1 C.2.1 dL_law_798 rfl (lv_at hl 3 rfl) ?_
  refine lv_aload_n C.1 C.2.1 dL_law_799 rfl (lv_at hl 1 rfl) ?_
  refine lv_iload C.1 C.2.1 dL_law_800 (lv_at hl 5 rfl) ?_
  refine lv_iconst (v := 1) C.1 C.2.1 dL_law_802 (by decide) ?_
  refine r_iadd C (v := 1) dL_law_803 (by decide) ?_
  refine r_sld C w hX hbl hbA (v := y1) (vinD (by decide)) sx1 dL_law_804 ?_
  refine lv_aload_n C.1 C.2.1 dL_law_805 rfl (lv_at hl 1 rfl) ?_
  refine lv_iload C.1 C.2.1 dL_law_806 (lv_at hl 5 rfl) ?_
  refine lv_iconst (v := 2) C.1 C.2.1 dL_law_808 (by decide) ?_
  refine r_iadd C (v := 2) dL_law_809 (by decide) ?_
  refine r_sld C w hX hbl hbA (v := y2) (vinD (by decide)) sx2 dL_law_810 ?_
  refine r_callV C w fv_RL_167 (c_X12_isLeft_2 l D cy m0 m1 m2 m3 m4 m5 m6 m7 m8 m9 m10 m11 m12 m13 m14 m15 m16 m17 y1 y2 k0 (by have h0 := (i_nlt k0); have h1 := (i_lt k1); have e0 : (0 : Int32).toInt = 0 := (by decide); have e1 : (189 : Int32).toInt = 189 := (by decide); have e2 : (190 : Int32).toInt = 190 := (by decide); rw [fa_lt]; omega) k2) (hl.1.trans hml.symm) [0, 3, 1, 2] [] (wr := []) ⟨rfl, rfl, rfl, rfl, by decide⟩ 0 rfl rfl rfl rfl rfl ⟨Nat.le_of_ble_eq_true rfl, Nat.le_of_ble_eq_true rfl, Nat.le_of_ble_eq_true rfl⟩ 74 53668 ⟨rfl, rfl, Nat.le_of_ble_eq_true rfl, Nat.le_of_ble_eq_true rfl⟩ dL_law_811 (fun u H locs hp w => ?_)
  have w : Wd D A s.heap [(m0, .inr (12, [.ref m1, .ref m2, .ref m3, .ref m4, .ref m5, .int 2, .ref m6, .int 0, .int 0, .int 0, .int 0, .int 0, .int 0, .int 0, .int 0, .int 0, .int 0, .int (-1), .ref m7, .ref m8, .int 190, .ref m9, .int 0, .ref m10, .ref m11, .ref m12, .ref m13, .ref m14, .int 0, .ref m15, .ref m16, .ref m17]))] _ _ := w.pick [2] rfl rfl
  refine r_top (g2 := F0 m 814 ls [.int 0]) rfl ?_
  refine lv_istore (lv' := [(6, .int 0), (5, .int 2), (0, .ref b), (1, .ref q0), (2, .ref m0), (3, .ref o0), (4, .int 0)]) C.1 C.2.1 dL_law_814 hl (by decide) rfl (fun ls hl => ?_)
  refine lv_aload_n C.1 C.2.1 dL_law_816 rfl (lv_at hl 4 rfl) ?_
  refine r_callV C w fv_RL_134 (c_X12_thrown_4 l D cy m0 m1 m2 m3 m4 m5 m6 m7 m8 m9 m10 m11 m12 m13 m14 m15 m16 m17) (hl.1.trans hml.symm) [0] [] (wr := []) ⟨rfl, rfl, rfl, rfl, by decide⟩ 0 rfl rfl rfl rfl rfl ⟨Nat.le_of_ble_eq_true rfl, Nat.le_of_ble_eq_true rfl, Nat.le_of_ble_eq_true rfl⟩ 74 53668 ⟨rfl, rfl, Nat.le_of_ble_eq_true rfl, Nat.le_of_ble_eq_true rfl⟩ dL_law_817 (fun u H locs hp w => ?_)
  have w : Wd D A s.heap [(m0, .inr (12, [.ref m1, .ref m2, .ref m3, .ref m4, .ref m5, .int 2, .ref m6, .int 0, .int 0, .int 0, .int 0, .int 0, .int 0, .int 0, .int 0, .int 0, .int 0, .int (-1), .ref m7, .ref m8, .int 190, .ref m9, .int 0, .ref m10, .ref m11, .ref m12, .ref m13, .ref m14, .int 0, .ref m15, .ref m16, .ref m17]))] _ _ := w.pick [0] rfl rfl
  refine r_top (g2 := F0 m 820 ls [.int 2]) rfl ?_
  refine lv_iload C.1 C.2.1 dL_law_820 (lv_at hl 1 rfl) ?_
  refine b_icmp_eq_t C (tgt := 827) dL_law_822 (by decide) (by decide) ?_
  refine lv_iload C.1 C.2.1 dL_law_827 (lv_at hl 1 rfl) ?_
  refine b_if_ne_t C (tgt := 851) dL_law_829 (by decide) (by decide) ?_
  refine lv_goto (tgt := 2461) C.1 C.2.1 dL_law_851 (by decide) ?_
  refine W.widen (k := 600002) (n := 7302232) (Nat.le_of_ble_eq_true rfl) (Nat.le_of_ble_eq_true rfl) ?_
  exact kk _ _ _ w.2.2 (lv_sub hl [2, 6] rfl)
set_option maxRecDepth 100000 in
set_option maxHeartbeats 4000000 in
theorem s_L_10_3 {p : Program} {l : Launch} {e : Env} {s : State} {m : MethodId} {args : Array Value} {below : List Frame} {meth : Method} {c : Code} {Q : State → Prop} {D : va_G} {cy : Nat → ClassId} {A : Nat → Prop} {H : Heap} {locs : List Loc} {ls : Array Slot} {xs : Nat → Int32} (b q0 q1 q2 q4 q5 q6 q10 q11 q12 q13 q14 q15 q16 q17 m0 m1 m2 m3 m4 m5 m6 m7 m8 m9 m10 m11 m12 m13 m14 m15 m16 m17 o0 : Nat) (y1 : Int32) (y2 : Int32) (k0 : ¬ y2 < 0) (k1 : y2 < 190) (k2 : ¬ y1 < 0) (k3 : ¬ y1 ≤ 0) (sx1 : xs 1 = y1) (sx2 : xs 2 = y2) (hst : l.stackTraces = false) (C : Cx p s m args c cL_law RL D cy A) (hml : c.maxLocals = 8) (hX : va_X b 6 xs s s.heap) (hbl : b < s.heap.size) (hbA : ¬ A b) (w : Wd D A s.heap [(q0, .inr (11, [.ref q1, .int 0, .int 0, .int (-1), .ref q2, .ref q4, .ref q5, .ref q6, .ref q10, .null])), (q10, .inr (9, [.int 0, .int 2, .int 20, .int 120, .int 0, .int 0, .int 0, .int 0, .ref q11, .int 0, .ref q12, .ref q13, .int 0, .ref q14, .ref q15, .ref q16, .ref q17])), (m0, .inr (12, [.ref m1, .ref m2, .ref m3, .ref m4, .ref m5, .int 0, .ref m6, .int 0, .int 0, .int 0, .int 0, .int 0, .int 0, .int 0, .int 0, .int 0, .int 0, .int (-1), .ref m7, .ref m8, .int 0, .ref m9, .int 0, .ref m10, .ref m11, .ref m12, .ref m13, .ref m14, .int 0, .ref m15, .ref m16, .ref m17])), (m7, .inl (cy 1, 1830, .inl (fun _ => 0))), (m8, .inl (cy 1, 1830, .inl (fun _ => 0))), (m1, .inl (cy 1, 1868, .inl (upd (upd (upd (fun _ => 0) 1 2) 2 20) 3 120)))] H locs) (hl : lv_has ls 8 [(0, .ref b), (1, .ref q0), (2, .ref m0), (3, .ref o0), (4, .int 0)]) (kk : ∀ (H : Heap) (locs : List Loc) (ls : Array Slot), va_S A s.heap H locs → lv_has ls 8 [(0, .ref b), (4, .int 0)] → W p l e room_1 s m args below meth c H locs 600002 7302232 Q (F0 m 2461 ls [])) : W p l e room_1 s m args below meth c H locs 37 29845 Q (F0 m 779 ls []) := by
  refine lv_aload_n C.1 C.2.1 dL_law_779 rfl (lv_at hl 1 rfl) ?_
  refine lv_aload_n C.1 C.2.1 dL_law_780 rfl (lv_at hl 0 rfl) ?_
  refine lv_iload C.1 C.2.1 dL_law_781 (lv_at hl 4 rfl) ?_
  refine lv_iconst (v := 1) C.1 C.2.1 dL_law_783 (by decide) ?_
  refine r_iadd C (v := 1) dL_law_784 (by decide) ?_
  refine r_sld C w hX hbl hbA (v := y1) (vinD (by decide)) sx1 dL_law_785 ?_
  refine lv_aload_n C.1 C.2.1 dL_law_786 rfl (lv_at hl 0 rfl) ?_
  refine lv_iload C.1 C.2.1 dL_law_787 (lv_at hl 4 rfl) ?_
  refine lv_iconst (v := 2) C.1 C.2.1 dL_law_789 (by decide) ?_
  refine r_iadd C (v := 2) dL_law_790 (by decide) ?_
  refine r_sld C w hX hbl hbA (v := y2) (vinD (by decide)) sx2 dL_law_791 ?_
  refine lv_aload_n C.1 C.2.1 dL_law_792 rfl (lv_at hl 3 rfl) ?_
  refine r_callH C w fh_RL_165 (c_L_isLeft_3 l D cy q0 o0 q1 q2 q4 q5 q6 q10 q11 q12 q13 q14 q15 q16 q17 y1 y2 k0 k1 k2 k3 hst) (hl.1.trans hml.symm) [0, 1] [2, 3, 4, 5] (wr := [(m0, .inr (12, [.ref m1, .ref m2, .ref m3, .ref m4, .ref m5, .int 0, .ref m6, .int 0, .int 0, .int 0, .int 0, .int 0, .int 0, .int 0, .int 0, .int 0, .int 0, .int (-1), .ref m7, .ref m8, .int 0, .ref m9, .int 0, .ref m10, .ref m11, .ref m12, .ref m13, .ref m14, .int 0, .ref m15, .ref m16, .ref m17])), (m7, .inl (cy 1, 1830, .inl (fun _ => 0))), (m8, .inl (cy 1, 1830, .inl (fun _ => 0))), (m1, .inl (cy 1, 1868, .inl (upd (upd (upd (fun _ => 0) 1 2) 2 20) 3 120)))]) ⟨rfl, rfl, rfl, rfl, by decide⟩ rfl rfl ⟨Nat.le_of_ble_eq_true rfl, Nat.le_of_ble_eq_true rfl, Nat.le_of_ble_eq_true rfl⟩ 74 53668 ⟨rfl, rfl, Nat.le_of_ble_eq_true rfl, Nat.le_of_ble_eq_true rfl⟩ dL_law_793 (fun u H locs hp w => ?_)
  have w : Wd D A s.heap [(m0, .inr (12, [.ref m1, .ref m2, .ref m3, .ref m4, .ref m5, .int 0, .ref m6, .int 0, .int 0, .int 0, .int 0, .int 0, .int 0, .int 0, .int 0, .int 0, .int 0, .int (-1), .ref m7, .ref m8, .int 0, .ref m9, .int 0, .ref m10, .ref m11, .ref m12, .ref m13, .ref m14, .int 0, .ref m15, .ref m16, .ref m17])), (m7, .inl (cy 1, 1830, .inl (fun _ => 0))), (m8, .inl (cy 1, 1830, .inl (fun _ => 0))), (m1, .inl (cy 1, 1868, .inl (upd (upd (upd (fun _ => 0) 1 2) 2 20) 3 120)))] _ _ := w.pick [0, 1, 2, 3] rfl rfl
  refine r_top (g2 := F0 m 796 ls [.int 2]) rfl ?_
  refine lv_istore (lv' := [(5, .int 2), (0, .ref b), (1, .ref q0), (2, .ref m0), (3, .ref o0), (4, .int 0)]) C.1 C.2.1 dL_law_796 hl (by decide) rfl (fun ls hl => ?_)
  refine lv_aload_n C.1 C.2.1 dL_law_798 rfl (lv_at hl 3 rfl) ?_
  refine lv_aload_n C.1 C.2.1 dL_law_799 rfl (lv_at hl 1 rfl) ?_
  refine lv_iload C.1 C.2.1 dL_law_800 (lv_at hl 5 rfl) ?_
  refine lv_iconst (v := 1) C.1 C.2.1 dL_law_802 (by decide) ?_
  refine r_iadd C (v := 1) dL_law_803 (by decide) ?_
  refine r_sld C w hX hbl hbA (v := y1) (vinD (by decide)) sx1 dL_law_804 ?_
  refine lv_aload_n C.1 C.2.1 dL_law_805 rfl (lv_at hl 1 rfl) ?_
  refine lv_iload C.1 C.2.1 dL_law_806 (lv_at hl 5 rfl) ?_
  refine lv_iconst (v := 2) C.1 C.2.1 dL_law_808 (by decide) ?_
  refine r_iadd C (v := 2) dL_law_809 (by decide) ?_
  refine r_sld C w hX hbl hbA (v := y2) (vinD (by decide)) sx2 dL_law_810 ?_
  refine r_callV C w fv_RL_167 (c_X12_isLeft_3 l D cy m0 m1 m2 m3 m4 m5 m6 m7 m8 m9 m10 m11 m12 m13 m14 m15 m16 m17 y1 y2 k0 (by have h0 := (i_nlt k0); have h1 := (i_lt k1); have e0 : (0 : Int32).toInt = 0 := (by decide); have e1 : (189 : Int32).toInt = 189 := (by decide); have e2 : (190 : Int32).toInt = 190 := (by decide); rw [fa_lt]; omega) k2 (by have h0 := (i_nlt k2); have h1 := (i_nle k3); have e0 : (0 : Int32).toInt = 0 := (by decide); rw [fa_lt]; omega)) (hl.1.trans hml.symm) [0, 3, 1, 2] [] (wr := []) ⟨rfl, rfl, rfl, rfl, by decide⟩ 0 rfl rfl rfl rfl rfl ⟨Nat.le_of_ble_eq_true rfl, Nat.le_of_ble_eq_true rfl, Nat.le_of_ble_eq_true rfl⟩ 74 53668 ⟨rfl, rfl, Nat.le_of_ble_eq_true rfl, Nat.le_of_ble_eq_true rfl⟩ dL_law_811 (fun u H locs hp w => ?_)
  have w : Wd D A s.heap [(m0, .inr (12, [.ref m1, .ref m2, .ref m3, .ref m4, .ref m5, .int 2, .ref m6, .int 0, .int 0, .int 0, .int 0, .int 0, .int 0, .int 0, .int 0, .int 0, .int 0, .int (-1), .ref m7, .ref m8, .int 190, .ref m9, .int 0, .ref m10, .ref m11, .ref m12, .ref m13, .ref m14, .int 0, .ref m15, .ref m16, .ref m17]))] _ _ := w.pick [2] rfl rfl
  refine r_top (g2 := F0 m 814 ls [.int 0]) rfl ?_
  refine lv_istore (lv' := [(6, .int 0), (5, .int 2), (0, .ref b), (1, .ref q0), (2, .ref m0), (3, .ref o0), (4, .int 0)]) C.1 C.2.1 dL_law_814 hl (by decide) rfl (fun ls hl => ?_)
  refine lv_aload_n C.1 C.2.1 dL_law_816 rfl (lv_at hl 4 rfl) ?_
  refine r_callV C w fv_RL_134 (c_X12_thrown_4 l D cy m0 m1 m2 m3 m4 m5 m6 m7 m8 m9 m10 m11 m12 m13 m14 m15 m16 m17) (hl.1.trans hml.symm) [0] [] (wr := []) ⟨rfl, rfl, rfl, rfl, by decide⟩ 0 rfl rfl rfl rfl rfl ⟨Nat.le_of_ble_eq_true rfl, Nat.le_of_ble_eq_true rfl, Nat.le_of_ble_eq_true rfl⟩ 74 53668 ⟨rfl, rfl, Nat.le_of_ble_eq_true rfl, Nat.le_of_ble_eq_true rfl⟩ dL_law_817 (fun u H locs hp w => ?_)
  have w : Wd D A s.heap [(m0, .inr (12, [.ref m1, .ref m2, .ref m3, .ref m4, .ref m5, .int 2, .ref m6, .int 0, .int 0, .int 0, .int 0, .int 0, .int 0, .int 0, .int 0, .int 0, .int 0, .int (-1), .ref m7, .ref m8, .int 190, .ref m9, .int 0, .ref m10, .ref m11, .ref m12, .ref m13, .ref m14, .int 0, .ref m15, .ref m16, .ref m17]))] _ _ := w.pick [0] rfl rfl
  refine r_top (g2 := F0 m 820 ls [.int 2]) rfl ?_
  refine lv_iload C.1 C.2.1 dL_law_820 (lv_at hl 1 rfl) ?_
  refine b_icmp_eq_t C (tgt := 827) dL_law_822 (by decide) (by decide) ?_
  refine lv_iload C.1 C.2.1 dL_law_827 (lv_at hl 1 rfl) ?_
  refine b_if_ne_t C (tgt := 851) dL_law_829 (by decide) (by decide) ?_
  refine lv_goto (tgt := 2461) C.1 C.2.1 dL_law_851 (by decide) ?_
  refine W.widen (k := 600002) (n := 7302232) (Nat.le_of_ble_eq_true rfl) (Nat.le_of_ble_eq_true rfl) ?_
  exact kk _ _ _ w.2.2 (lv_sub hl [2, 6] rfl)
theorem dL_law_832 : decode cL_law 832 = .ok (.aload_n 3, 1) := by decide +kernel
theorem dL_law_833 : decode cL_law 833 = .ok (.iconst 0, 1) := by decide +kernel
theorem dL_law_834 : decode cL_law 834 = .ok (.laload, 1) := by decide +kernel
theorem dL_law_835 : decode cL_law 835 = .ok (.iload 6, 2) := by decide +kernel
theorem dL_law_837 : decode cL_law 837 = .ok (.ifCond .eq 7, 3) := by decide +kernel
theorem dL_law_840 : decode cL_law 840 = .ok (.lconst 1, 1) := by decide +kernel
theorem dL_law_841 : decode cL_law 841 = .ok (.goto 4, 3) := by decide +kernel
theorem dL_law_845 : decode cL_law 845 = .ok (.lcmp, 1) := by decide +kernel
theorem dL_law_846 : decode cL_law 846 = .ok (.ifCond .eq 5, 3) := by decide +kernel
set_option maxRecDepth 100000 in
set_option maxHeartbeats 4000000 in
theorem s_L_10_4 {p : Program} {l : Launch} {e : Env} {s : State} {m : MethodId} {args : Array Value} {below : List Frame} {meth : Method} {c : Code} {Q : State → Prop} {D : va_G} {cy : Nat → ClassId} {A : Nat → Prop} {H : Heap} {locs : List Loc} {ls : Array Slot} {xs : Nat → Int32} (b q0 q1 q2 q4 q5 q6 q10 q11 q12 q13 q14 q15 q16 q17 m0 m1 m2 m3 m4 m5 m6 m7 m8 m9 m10 m11 m12 m13 m14 m15 m16 m17 o0 : Nat) (y2 : Int32) (k0 : ¬ y2 < 0) (k1 : y2 < 190) (sx1 : xs 1 = 0) (sx2 : xs 2 = y2) (C : Cx p s m args c cL_law RL D cy A) (hml : c.maxLocals = 8) (hX : va_X b 6 xs s s.heap) (hbl : b < s.heap.size) (hbA : ¬ A b) (w : Wd D A s.heap [(q0, .inr (11, [.ref q1, .int 0, .int 0, .int (-1), .ref q2, .ref q4, .ref q5, .ref q6, .ref q10, .null])), (q10, .inr (9, [.int 0, .int 2, .int 20, .int 120, .int 0, .int 0, .int 0, .int 0, .ref q11, .int 0, .ref q12, .ref q13, .int 0, .ref q14, .ref q15, .ref q16, .ref q17])), (m0, .inr (12, [.ref m1, .ref m2, .ref m3, .ref m4, .ref m5, .int 0, .ref m6, .int 0, .int 0, .int 0, .int 0, .int 0, .int 0, .int 0, .int 0, .int 0, .int 0, .int (-1), .ref m7, .ref m8, .int 0, .ref m9, .int 0, .ref m10, .ref m11, .ref m12, .ref m13, .ref m14, .int 0, .ref m15, .ref m16, .ref m17])), (m7, .inl (cy 1, 1830, .inl (fun _ => 0))), (m8, .inl (cy 1, 1830, .inl (fun _ => 0))), (m9, .inl (cy 2, 2465, .inr (.inl (fun _ => 0)))), (m1, .inl (cy 1, 1868, .inl (upd (upd (upd (fun _ => 0) 1 2) 2 20) 3 120))), (o0, .inl (cy 2, 1, .inr (.inl (fun _ => 0))))] H locs) (hl : lv_has ls 8 [(0, .ref b), (1, .ref q0), (2, .ref m0), (3, .ref o0), (4, .int 0)]) (kk : ∀ (H : Heap) (locs : List Loc) (ls : Array Slot), va_S A s.heap H locs → lv_has ls 8 [(0, .ref b), (4, .int 0)] → W p l e room_1 s m args below meth c H locs 600002 7302232 Q (F0 m 2461 ls [])) : W p l e room_1 s m args below meth c H locs 37 29845 Q (F0 m 779 ls []) := by
  refine lv_aload_n C.1 C.2.1 dL_law_779 rfl (lv_at hl 1 rfl) ?_
  refine lv_aload_n C.1 C.2.1 dL_law_780 rfl (lv_at hl 0 rfl) ?_
  refine lv_iload C.1 C.2.1 dL_law_781 (lv_at hl 4 rfl) ?_
  refine lv_iconst (v := 1) C.1 C.2.1 dL_law_783 (by decide) ?_
  refine r_iadd C (v := 1) dL_law_784 (by decide) ?_
  refine r_sld C w hX hbl hbA (v := 0) (vinD (by decide)) sx1 dL_law_785 ?_
  refine lv_aload_n C.1 C.2.1 dL_law_786 rfl (lv_at hl 0 rfl) ?_
  refine lv_iload C.1 C.2.1 dL_law_787 (lv_at hl 4 rfl) ?_
  refine lv_iconst (v := 2) C.1 C.2.1 dL_law_789 (by decide) ?_
  refine r_iadd C (v := 2) dL_law_790 (by decide) ?_
  refine r_sld C w hX hbl hbA (v := y2) (vinD (by decide)) sx2 dL_law_791 ?_
  refine lv_aload_n C.1 C.2.1 dL_law_792 rfl (lv_at hl 3 rfl) ?_
  refine r_callH C w fh_RL_165 (c_L_isLeft_4 l D cy q0 o0 q1 q2 q4 q5 q6 q10 q11 q12 q13 q14 q15 q16 q17 y2 k0 k1) (hl.1.trans hml.symm) [0, 1, 7] [2, 3, 4, 5, 6] (wr := [(m0, .inr (12, [.ref m1, .ref m2, .ref m3, .ref m4, .ref m5, .int 0, .ref m6, .int 0, .int 0, .int 0, .int 0, .int 0, .int 0, .int 0, .int 0, .int 0, .int 0, .int (-1), .ref m7, .ref m8, .int 0, .ref m9, .int 0, .ref m10, .ref m11, .ref m12, .ref m13, .ref m14, .int 0, .ref m15, .ref m16, .ref m17])), (m7, .inl (cy 1, 1830, .inl (fun _ => 0))), (m8, .inl (cy 1, 1830, .inl (fun _ => 0))), (m9, .inl (cy 2, 2465, .inr (.inl (fun _ => 0)))), (m1, .inl (cy 1, 1868, .inl (upd (upd (upd (fun _ => 0) 1 2) 2 20) 3 120)))]) ⟨rfl, rfl, rfl, rfl, by decide⟩ rfl rfl ⟨Nat.le_of_ble_eq_true rfl, Nat.le_of_ble_eq_true rfl, Nat.le_of_ble_eq_true rfl⟩ 73 53662 ⟨rfl, rfl, Nat.le_of_ble_eq_true rfl, Nat.le_of_ble_eq_true rfl⟩ dL_law_793 (fun u H locs hp w => ?_)
  obtain ⟨n1, n2, n3, n4, n5, n6, n7, n8, n9, n10, n11, n12, n13, n14, n15, n16, n17, n18, n19, n20, n21, n22, n23, n24, n25, n26, n27, n28, n29, n30, n31, n32, n33, n34, n35, n36⟩ := u
  have w : Wd D A s.heap [(m0, .inr (12, [.ref m1, .ref m2, .ref m3, .ref m4, .ref m5, .int 0, .ref m6, .int 0, .int 0, .int 0, .int 0, .int 0, .int 0, .int 0, .int 0, .int 0, .int 0, .int (-1), .ref m7, .ref m8, .int 0, .ref m9, .int 0, .ref m10, .ref m11, .ref m12, .ref m13, .ref m14, .int 0, .ref m15, .ref m16, .ref m17])), (m7, .inl (cy 1, 1830, .inl (fun _ => 0))), (m8, .inl (cy 1, 1830, .inl (fun _ => 0))), (m9, .inl (cy 2, 2465, .inr (.inl (fun _ => 0)))), (m1, .inl (cy 1, 1868, .inl (upd (upd (upd (fun _ => 0) 1 2) 2 20) 3 120))), (o0, .inl (cy 2, 1, .inr (.inl (vp_updL (fun _ => 0) 0 1))))] _ _ := w.pick [0, 1, 2, 3, 4, 5] rfl rfl
  refine r_top (g2 := F0 m 796 ls [.int 0]) rfl ?_
  refine lv_istore (lv' := [(5, .int 0), (0, .ref b), (1, .ref q0), (2, .ref m0), (3, .ref o0), (4, .int 0)]) C.1 C.2.1 dL_law_796 hl (by decide) rfl (fun ls hl => ?_)
  refine lv_aload_n C.1 C.2.1 dL_law_798 rfl (lv_at hl 3 rfl) ?_
  refine lv_aload_n C.1 C.2.1 dL_law_799 rfl (lv_at hl 1 rfl) ?_
  refine lv_iload C.1 C.2.1 dL_law_800 (lv_at hl 5 rfl) ?_
  refine lv_iconst (v := 1) C.1 C.2.1 dL_law_802 (by decide) ?_
  refine r_iadd C (v := 1) dL_law_803 (by decide) ?_
  refine r_sld C w hX hbl hbA (v := 0) (vinD (by decide)) sx1 dL_law_804 ?_
  refine lv_aload_n C.1 C.2.1 dL_law_805 rfl (lv_at hl 1 rfl) ?_
  refine lv_iload C.1 C.2.1 dL_law_806 (lv_at hl 5 rfl) ?_
  refine lv_iconst (v := 2) C.1 C.2.1 dL_law_808 (by decide) ?_
  refine r_iadd C (v := 2) dL_law_809 (by decide) ?_
  refine r_sld C w hX hbl hbA (v := y2) (vinD (by decide)) sx2 dL_law_810 ?_
  refine r_callV C w fv_RL_167 (c_X12_isLeft_4 l D cy m0 m1 m2 m3 m4 m5 m6 m7 m8 m9 m10 m11 m12 m13 m14 m15 m16 m17 y2 k0 (by have h0 := (i_nlt k0); have h1 := (i_lt k1); have e0 : (0 : Int32).toInt = 0 := (by decide); have e1 : (189 : Int32).toInt = 189 := (by decide); have e2 : (190 : Int32).toInt = 190 := (by decide); rw [fa_lt]; omega)) (hl.1.trans hml.symm) [0, 4, 1, 2, 3] [5] (wr := [(o0, .inl (cy 2, 1, .inr (.inl (vp_updL (fun _ => 0) 0 1))))]) ⟨rfl, rfl, rfl, rfl, by decide⟩ 0 rfl rfl rfl rfl rfl ⟨Nat.le_of_ble_eq_true rfl, Nat.le_of_ble_eq_true rfl, Nat.le_of_ble_eq_true rfl⟩ 73 53662 ⟨rfl, rfl, Nat.le_of_ble_eq_true rfl, Nat.le_of_ble_eq_true rfl⟩ dL_law_811 (fun u H locs hp w => ?_)
  have w : Wd D A s.heap [(o0, .inl (cy 2, 1, .inr (.inl (vp_updL (fun _ => 0) 0 1)))), (m0, .inr (12, [.ref m1, .ref m2, .ref m3, .ref m4, .ref m5, .int 0, .ref m6, .int 0, .int 0, .int 0, .int 0, .int 0, .int 0, .int 0, .int 0, .int 0, .int 0, .int (-1), .ref m7, .ref m8, .int 190, .ref m9, .int 21, .ref m10, .ref m11, .ref m12, .ref m13, .ref m14, .int 0, .ref m15, .ref m16, .ref m17]))] _ _ := w.pick [0, 4] rfl rfl
  refine r_top (g2 := F0 m 814 ls [.int 1]) rfl ?_
  refine lv_istore (lv' := [(6, .int 1), (5, .int 0), (0, .ref b), (1, .ref q0), (2, .ref m0), (3, .ref o0), (4, .int 0)]) C.1 C.2.1 dL_law_814 hl (by decide) rfl (fun ls hl => ?_)
  refine lv_aload_n C.1 C.2.1 dL_law_816 rfl (lv_at hl 4 rfl) ?_
  refine r_callV C w fv_RL_134 (c_X12_thrown_5 l D cy m0 m1 m2 m3 m4 m5 m6 m7 m8 m9 m10 m11 m12 m13 m14 m15 m16 m17) (hl.1.trans hml.symm) [1] [0] (wr := [(o0, .inl (cy 2, 1, .inr (.inl (vp_updL (fun _ => 0) 0 1))))]) ⟨rfl, rfl, rfl, rfl, by decide⟩ 0 rfl rfl rfl rfl rfl ⟨Nat.le_of_ble_eq_true rfl, Nat.le_of_ble_eq_true rfl, Nat.le_of_ble_eq_true rfl⟩ 73 53662 ⟨rfl, rfl, Nat.le_of_ble_eq_true rfl, Nat.le_of_ble_eq_true rfl⟩ dL_law_817 (fun u H locs hp w => ?_)
  have w : Wd D A s.heap [(o0, .inl (cy 2, 1, .inr (.inl (vp_updL (fun _ => 0) 0 1)))), (m0, .inr (12, [.ref m1, .ref m2, .ref m3, .ref m4, .ref m5, .int 0, .ref m6, .int 0, .int 0, .int 0, .int 0, .int 0, .int 0, .int 0, .int 0, .int 0, .int 0, .int (-1), .ref m7, .ref m8, .int 190, .ref m9, .int 21, .ref m10, .ref m11, .ref m12, .ref m13, .ref m14, .int 0, .ref m15, .ref m16, .ref m17]))] _ _ := w.pick [0, 1] rfl rfl
  refine r_top (g2 := F0 m 820 ls [.int 0]) rfl ?_
  refine lv_iload C.1 C.2.1 dL_law_820 (lv_at hl 1 rfl) ?_
  refine b_icmp_eq_t C (tgt := 827) dL_law_822 (by decide) (by decide) ?_
  refine lv_iload C.1 C.2.1 dL_law_827 (lv_at hl 1 rfl) ?_
  refine b_if_ne_f C (tgt := 851) dL_law_829 (by decide) (by decide) ?_
  refine lv_aload_n C.1 C.2.1 dL_law_832 rfl (lv_at hl 5 rfl) ?_
  refine lv_iconst (v := 0) C.1 C.2.1 dL_law_833 (by decide) ?_
  refine r_lald C w 0 rfl (v := 1) (vinD (by decide)) rfl dL_law_834 ?_
  refine lv_iload C.1 C.2.1 dL_law_835 (lv_at hl 0 rfl) ?_
  refine b_if_eq_f C (tgt := 844) dL_law_837 (by decide) (by decide) ?_
  refine lv_lconst (v := 1) C.1 C.2.1 dL_law_840 (by decide) ?_
  refine lv_goto (tgt := 845) C.1 C.2.1 dL_law_841 (by decide) ?_
  refine r_lcmp C (v := 0) dL_law_845 (by decide) ?_
  refine b_if_eq_t C (tgt := 851) dL_law_846 (by decide) (by decide) ?_
  refine lv_goto (tgt := 2461) C.1 C.2.1 dL_law_851 (by decide) ?_
  refine W.widen (k := 600002) (n := 7302232) (Nat.le_of_ble_eq_true rfl) (Nat.le_of_ble_eq_true rfl) ?_
  exact kk _ _ _ w.2.2 (lv_sub hl [2, 6] rfl)
set_option maxRecDepth 100000 in
set_option maxHeartbeats 4000000 in
theorem t_L_10 {p : Program} {l : Launch} {e : Env} {s : State} {m : MethodId} {args : Array Value} {below : List Frame} {meth : Method} {c : Code} {Q : State → Prop} {D : va_G} {cy : Nat → ClassId} {A : Nat → Prop} {H : Heap} {locs : List Loc} {ls : Array Slot} {xs : Nat → Int32} (b q0 q1 q2 q4 q5 q6 q10 q3 q7 q8 q9 q11 q12 q13 q14 q15 q16 q17 m0 m1 m2 m3 m4 m5 m6 m7 m8 m9 m10 m11 m12 m13 m14 m15 m16 m17 o0 : Nat) (hst : l.stackTraces = false) (C : Cx p s m args c cL_law RL D cy A) (hml : c.maxLocals = 8) (hX : va_X b 6 xs s s.heap) (hbl : b < s.heap.size) (hbA : ¬ A b) (w : Wd D A s.heap [(q0, .inr (11, [.ref q1, .int 0, .int 0, .int (-1), .ref q2, .ref q4, .ref q5, .ref q6, .ref q10, .null])), (q1, .inl (cy 0, 900, .inl (fun _ => 0))), (q2, .inr (5, [.ref q3, .int 0, .int 0, .int 0, .int 0, .int 0, .int 0, .null])), (q3, .inl (cy 0, 0, .inl (fun _ => 0))), (q4, .inl (cy 4, 5, .inr (.inr (.inr (.inr (va_up (fun _ => none) 0 (some q10))))))), (q5, .inl (cy 4, 3, .inr (.inr (.inr (.inr (fun _ => none)))))), (q6, .inr (10, [.ref q7, .ref q8, .ref q9])), (q7, .inl (cy 1, 4, .inl (upd (upd (upd (upd (fun _ => 0) 0 (-1)) 1 (-1)) 2 (-1)) 3 (-1)))), (q8, .inl (cy 1, 4, .inl (fun _ => 0))), (q9, .inl (cy 2, 160, .inr (.inl (fun _ => 0)))), (q10, .inr (9, [.int 0, .int 2, .int 20, .int 120, .int 0, .int 0, .int 0, .int 0, .ref q11, .int 0, .ref q12, .ref q13, .int 0, .ref q14, .ref q15, .ref q16, .ref q17])), (q11, .inl (cy 1, 6, .inl (fun _ => 0))), (q12, .inl (cy 1, 20, .inl (fun _ => 0))), (q13, .inl (cy 1, 20, .inl (fun _ => 0))), (q14, .inl (cy 1, 300, .inl (fun _ => 0))), (q15, .inl (cy 1, 300, .inl (fun _ => 0))), (q16, .inl (cy 1, 300, .inl (fun _ => 0))), (q17, .inl (cy 1, 300, .inl (fun _ => 0))), (m0, .inr (12, [.ref m1, .ref m2, .ref m3, .ref m4, .ref m5, .int 0, .ref m6, .int 0, .int 0, .int 0, .int 0, .int 0, .int 0, .int 0, .int 0, .int 0, .int 0, .int (-1), .ref m7, .ref m8, .int 0, .ref m9, .int 0, .ref m10, .ref m11, .ref m12, .ref m13, .ref m14, .int 0, .ref m15, .ref m16, .ref m17])), (m2, .inl (cy 1, 1868, .inl (fun _ => 0))), (m3, .inl (cy 1, 1868, .inl (fun _ => 0))), (m4, .inl (cy 1, 5604, .inl (fun _ => 0))), (m5, .inl (cy 3, 3, .inl (fun _ => 0))), (m6, .inl (cy 1, 900, .inl (fun _ => 0))), (m7, .inl (cy 1, 1830, .inl (fun _ => 0))), (m8, .inl (cy 1, 1830, .inl (fun _ => 0))), (m9, .inl (cy 2, 2465, .inr (.inl (fun _ => 0)))), (m10, .inl (cy 1, 7201, .inl (fun _ => 0))), (m11, .inl (cy 1, 1830, .inl (fun _ => 0))), (m12, .inl (cy 1, 5, .inl (fun _ => 0))), (m13, .inl (cy 1, 6, .inl (fun _ => 0))), (m14, .inl (cy 1, 6, .inl (fun _ => 0))), (m15, .inl (cy 1, 4, .inl (upd (upd (upd (upd (fun _ => 0) 0 (-1)) 1 (-1)) 2 (-1)) 3 (-1)))), (m16, .inl (cy 1, 4, .inl (fun _ => 0))), (m17, .inl (cy 2, 160, .inr (.inl (fun _ => 0)))), (m1, .inl (cy 1, 1868, .inl (upd (upd (upd (fun _ => 0) 1 2) 2 20) 3 120))), (o0, .inl (cy 2, 1, .inr (.inl (fun _ => 0))))] H locs) (hl : lv_has ls 8 [(0, .ref b), (1, .ref q0), (2, .ref m0), (3, .ref o0), (4, .int 0)]) (kk : ∀ (H : Heap) (locs : List Loc) (ls : Array Slot), va_S A s.heap H locs → lv_has ls 8 [(0, .ref b), (4, .int 0)] → W p l e room_1 s m args below meth c H locs 600002 7302232 Q (F0 m 2461 ls [])) : W p l e room_1 s m args below meth c H locs 37 29845 Q (F0 m 779 ls []) := by
  obtain ⟨y1, sx1⟩ : ∃ y, xs 1 = y := ⟨_, rfl⟩
  obtain ⟨y2, sx2⟩ : ∃ y, xs 2 = y := ⟨_, rfl⟩
  obtain ⟨y3, sx3⟩ : ∃ y, xs 3 = y := ⟨_, rfl⟩
  obtain ⟨y4, sx4⟩ : ∃ y, xs 4 = y := ⟨_, rfl⟩
  obtain ⟨y5, sx5⟩ : ∃ y, xs 5 = y := ⟨_, rfl⟩
  by_cases g1 : y2 < 0
  · exact s_L_10_0 b q0 q1 q2 q4 q5 q6 q10 m0 m1 m2 m3 m4 m5 m6 m7 m8 m9 m10 m11 m12 m13 m14 m15 m16 m17 o0 y1 y2 g1 sx1 sx2 hst C hml hX hbl hbA (w.pick [0, 18, 24, 25, 35] rfl rfl) hl kk
  · by_cases g2 : y2 < 190
    · by_cases g3 : y1 < 0
      · exact s_L_10_2 b q0 q1 q2 q4 q5 q6 q10 q11 q12 q13 q14 q15 q16 q17 m0 m1 m2 m3 m4 m5 m6 m7 m8 m9 m10 m11 m12 m13 m14 m15 m16 m17 o0 y1 y2 g1 g2 g3 sx1 sx2 hst C hml hX hbl hbA (w.pick [0, 10, 18, 24, 25, 35] rfl rfl) hl kk
      · by_cases g4 : y1 ≤ 0
        · by_cases g5 : y1 = 0
          · subst g5
            exact s_L_10_4 b q0 q1 q2 q4 q5 q6 q10 q11 q12 q13 q14 q15 q16 q17 m0 m1 m2 m3 m4 m5 m6 m7 m8 m9 m10 m11 m12 m13 m14 m15 m16 m17 o0 y2 g1 g2 sx1 sx2 C hml hX hbl hbA (w.pick [0, 10, 18, 24, 25, 26, 35, 36] rfl rfl) hl kk
          · exfalso
            have h0 := i_nlt g1
            have h1 := i_lt g2
            have h2 := i_nlt g3
            have h3 := i_le g4
            have h4 := (not_congr (fa_eq _ _)).mp g5
            have e0 : (0 : Int32).toInt = 0 := (by decide)
            have e1 : (190 : Int32).toInt = 190 := (by decide)
            omega
        · exact s_L_10_3 b q0 q1 q2 q4 q5 q6 q10 q11 q12 q13 q14 q15 q16 q17 m0 m1 m2 m3 m4 m5 m6 m7 m8 m9 m10 m11 m12 m13 m14 m15 m16 m17 o0 y1 y2 g1 g2 g3 g4 sx1 sx2 hst C hml hX hbl hbA (w.pick [0, 10, 18, 24, 25, 35] rfl rfl) hl kk
    · exact s_L_10_1 b q0 q1 q2 q4 q5 q6 q10 q11 q12 q13 q14 q15 q16 q17 m0 m1 m2 m3 m4 m5 m6 m7 m8 m9 m10 m11 m12 m13 m14 m15 m16 m17 o0 y1 y2 g1 g2 sx1 sx2 hst C hml hX hbl hbA (w.pick [0, 10, 18, 24, 25, 35] rfl rfl) hl kk
theorem dL_law_854 : decode cL_law 854 = .ok (.aload_n 1, 1) := by decide +kernel
theorem dL_law_855 : decode cL_law 855 = .ok (.invokevirtual 168, 3) := by decide +kernel
theorem fv_RL_168 : FV RL 168 yX11_only cX11_only 1 (some .int) 0 := ⟨⟨gw_mem (by decide +kernel) (by decide +kernel), gw_mem (by decide +kernel) (by decide +kernel), gw_mem (by decide +kernel) (by decide +kernel), gw_mem (by decide +kernel) (by decide +kernel), gw_mem (by decide +kernel) (by decide +kernel)⟩, ⟨by decide +kernel, by decide +kernel, by decide +kernel⟩⟩
theorem dL_law_858 : decode cL_law 858 = .ok (.aload_n 2, 1) := by decide +kernel
theorem dL_law_859 : decode cL_law 859 = .ok (.invokevirtual 171, 3) := by decide +kernel
theorem fv_RL_171 : FV RL 171 yX12_only cX12_only 1 (some .int) 0 := ⟨⟨gw_mem (by decide +kernel) (by decide +kernel), gw_mem (by decide +kernel) (by decide +kernel), gw_mem (by decide +kernel) (by decide +kernel), gw_mem (by decide +kernel) (by decide +kernel), gw_mem (by decide +kernel) (by decide +kernel)⟩, ⟨by decide +kernel, by decide +kernel, by decide +kernel⟩⟩
theorem dL_law_862 : decode cL_law 862 = .ok (.if_icmp .eq 1599, 3) := by decide +kernel
set_option maxRecDepth 100000 in
set_option maxHeartbeats 4000000 in
theorem s_L_11_0 {p : Program} {l : Launch} {e : Env} {s : State} {m : MethodId} {args : Array Value} {below : List Frame} {meth : Method} {c : Code} {Q : State → Prop} {D : va_G} {cy : Nat → ClassId} {A : Nat → Prop} {H : Heap} {locs : List Loc} {ls : Array Slot} {xs : Nat → Int32} (b q0 q1 q2 q4 q5 q6 q10 q11 q12 q13 q14 q15 q16 q17 m0 m1 m2 m3 m4 m5 m6 m7 m8 m9 m10 m11 m12 m13 m14 m15 m16 m17 o0 : Nat) (C : Cx p s m args c cL_law RL D cy A) (hml : c.maxLocals = 8) (hX : va_X b 6 xs s s.heap) (hbl : b < s.heap.size) (hbA : ¬ A b) (w : Wd D A s.heap [(q0, .inr (11, [.ref q1, .int 0, .int 0, .int (-1), .ref q2, .ref q4, .ref q5, .ref q6, .ref q10, .null])), (q10, .inr (9, [.int 0, .int 2, .int 20, .int 120, .int 0, .int 0, .int 0, .int 0, .ref q11, .int 0, .ref q12, .ref q13, .int 0, .ref q14, .ref q15, .ref q16, .ref q17])), (m0, .inr (12, [.ref m1, .ref m2, .ref m3, .ref m4, .ref m5, .int 0, .ref m6, .int 0, .int 0, .int 0, .int 0, .int 0, .int 0, .int 0, .int 0, .int 0, .int 0, .int (-1), .ref m7, .ref m8, .int 0, .ref m9, .int 0, .ref m10, .ref m11, .ref m12, .ref m13, .ref m14, .int 0, .ref m15, .ref m16, .ref m17])), (m7, .inl (cy 1, 1830, .inl (fun _ => 0))), (m8, .inl (cy 1, 1830, .inl (fun _ => 0))), (m9, .inl (cy 2, 2465, .inr (.inl (fun _ => 0)))), (m1, .inl (cy 1, 1868, .inl (upd (upd (upd (fun _ => 0) 1 2) 2 20) 3 120)))] H locs) (hl : lv_has ls 8 [(0, .ref b), (1, .ref q0), (2, .ref m0), (3, .ref o0), (4, .int 0)]) (kk : ∀ (H : Heap) (locs : List Loc) (ls : Array Slot), va_S A s.heap H locs → lv_has ls 8 [(0, .ref b), (4, .int 0)] → W p l e room_1 s m args below meth c H locs 600002 7302232 Q (F0 m 2461 ls [])) : W p l e room_1 s m args below meth c H locs 37 29845 Q (F0 m 854 ls []) := by
  refine lv_aload_n C.1 C.2.1 dL_law_854 rfl (lv_at hl 1 rfl) ?_
  refine r_callV C w fv_RL_168 (c_X11_only_0 l D cy q0 q1 q2 q4 q5 q6 q10 q11 q12 q13 q14 q15 q16 q17) (hl.1.trans hml.symm) [0, 1] [2, 3, 4, 5, 6] (wr := [(m0, .inr (12, [.ref m1, .ref m2, .ref m3, .ref m4, .ref m5, .int 0, .ref m6, .int 0, .int 0, .int 0, .int 0, .int 0, .int 0, .int 0, .int 0, .int 0, .int 0, .int (-1), .ref m7, .ref m8, .int 0, .ref m9, .int 0, .ref m10, .ref m11, .ref m12, .ref m13, .ref m14, .int 0, .ref m15, .ref m16, .ref m17])), (m7, .inl (cy 1, 1830, .inl (fun _ => 0))), (m8, .inl (cy 1, 1830, .inl (fun _ => 0))), (m9, .inl (cy 2, 2465, .inr (.inl (fun _ => 0)))), (m1, .inl (cy 1, 1868, .inl (upd (upd (upd (fun _ => 0) 1 2) 2 20) 3 120)))]) ⟨rfl, rfl, rfl, rfl, by decide⟩ 0 rfl rfl rfl rfl rfl ⟨Nat.le_of_ble_eq_true rfl, Nat.le_of_ble_eq_true rfl, Nat.le_of_ble_eq_true rfl⟩ 73 53662 ⟨rfl, rfl, Nat.le_of_ble_eq_true rfl, Nat.le_of_ble_eq_true rfl⟩ dL_law_855 (fun u H locs hp w => ?_)
  obtain ⟨n1, n2, n3, n4, n5, n6, n7, n8, n9, n10, n11, n12, n13, n14, n15, n16, n17, n18, n19, n20, n21, n22, n23, n24, n25, n26, n27, n28, n29, n30, n31, n32, n33, n34, n35, n36⟩ := u
  have w : Wd D A s.heap [(m0, .inr (12, [.ref m1, .ref m2, .ref m3, .ref m4, .ref m5, .int 0, .ref m6, .int 0, .int 0, .int 0, .int 0, .int 0, .int 0, .int 0, .int 0, .int 0, .int 0, .int (-1), .ref m7, .ref m8, .int 0, .ref m9, .int 0, .ref m10, .ref m11, .ref m12, .ref m13, .ref m14, .int 0, .ref m15, .ref m16, .ref m17])), (m7, .inl (cy 1, 1830, .inl (fun _ => 0))), (m8, .inl (cy 1, 1830, .inl (fun _ => 0))), (m9, .inl (cy 2, 2465, .inr (.inl (fun _ => 0)))), (m1, .inl (cy 1, 1868, .inl (upd (upd (upd (fun _ => 0) 1 2) 2 20) 3 120)))] _ _ := w.pick [0, 1, 2, 3, 4] rfl rfl
  refine r_top (g2 := F0 m 858 ls [.int (-1)]) rfl ?_
  refine lv_aload_n C.1 C.2.1 dL_law_858 rfl (lv_at hl 2 rfl) ?_
  refine r_callV C w fv_RL_171 (c_X12_only_0 l D cy m0 m1 m2 m3 m4 m5 m6 m7 m8 m9 m10 m11 m12 m13 m14 m15 m16 m17) (hl.1.trans hml.symm) [0, 4, 1, 2, 3] [] (wr := []) ⟨rfl, rfl, rfl, rfl, by decide⟩ 0 rfl rfl rfl rfl rfl ⟨Nat.le_of_ble_eq_true rfl, Nat.le_of_ble_eq_true rfl, Nat.le_of_ble_eq_true rfl⟩ 73 53662 ⟨rfl, rfl, Nat.le_of_ble_eq_true rfl, Nat.le_of_ble_eq_true rfl⟩ dL_law_859 (fun u H locs hp w => ?_)
  have w : Wd D A s.heap [(m0, .inr (12, [.ref m1, .ref m2, .ref m3, .ref m4, .ref m5, .int 0, .ref m6, .int 0, .int 0, .int 0, .int 0, .int 0, .int 0, .int 0, .int 0, .int 0, .int 0, .int (-1), .ref m7, .ref m8, .int 190, .ref m9, .int 21, .ref m10, .ref m11, .ref m12, .ref m13, .ref m14, .int 0, .ref m15, .ref m16, .ref m17]))] _ _ := w.pick [3] rfl rfl
  refine r_top (g2 := F0 m 862 ls [.int (-1), .int (-1)]) rfl ?_
  refine b_icmp_eq_t C (tgt := 2461) dL_law_862 (by decide) (by decide) ?_
  refine W.widen (k := 600002) (n := 7302232) (Nat.le_of_ble_eq_true rfl) (Nat.le_of_ble_eq_true rfl) ?_
  exact kk _ _ _ w.2.2 (lv_sub hl [0, 4] rfl)
set_option maxRecDepth 100000 in
set_option maxHeartbeats 4000000 in
theorem t_L_11 {p : Program} {l : Launch} {e : Env} {s : State} {m : MethodId} {args : Array Value} {below : List Frame} {meth : Method} {c : Code} {Q : State → Prop} {D : va_G} {cy : Nat → ClassId} {A : Nat → Prop} {H : Heap} {locs : List Loc} {ls : Array Slot} {xs : Nat → Int32} (b q0 q1 q2 q4 q5 q6 q10 q3 q7 q8 q9 q11 q12 q13 q14 q15 q16 q17 m0 m1 m2 m3 m4 m5 m6 m7 m8 m9 m10 m11 m12 m13 m14 m15 m16 m17 o0 : Nat) (hst : l.stackTraces = false) (C : Cx p s m args c cL_law RL D cy A) (hml : c.maxLocals = 8) (hX : va_X b 6 xs s s.heap) (hbl : b < s.heap.size) (hbA : ¬ A b) (w : Wd D A s.heap [(q0, .inr (11, [.ref q1, .int 0, .int 0, .int (-1), .ref q2, .ref q4, .ref q5, .ref q6, .ref q10, .null])), (q1, .inl (cy 0, 900, .inl (fun _ => 0))), (q2, .inr (5, [.ref q3, .int 0, .int 0, .int 0, .int 0, .int 0, .int 0, .null])), (q3, .inl (cy 0, 0, .inl (fun _ => 0))), (q4, .inl (cy 4, 5, .inr (.inr (.inr (.inr (va_up (fun _ => none) 0 (some q10))))))), (q5, .inl (cy 4, 3, .inr (.inr (.inr (.inr (fun _ => none)))))), (q6, .inr (10, [.ref q7, .ref q8, .ref q9])), (q7, .inl (cy 1, 4, .inl (upd (upd (upd (upd (fun _ => 0) 0 (-1)) 1 (-1)) 2 (-1)) 3 (-1)))), (q8, .inl (cy 1, 4, .inl (fun _ => 0))), (q9, .inl (cy 2, 160, .inr (.inl (fun _ => 0)))), (q10, .inr (9, [.int 0, .int 2, .int 20, .int 120, .int 0, .int 0, .int 0, .int 0, .ref q11, .int 0, .ref q12, .ref q13, .int 0, .ref q14, .ref q15, .ref q16, .ref q17])), (q11, .inl (cy 1, 6, .inl (fun _ => 0))), (q12, .inl (cy 1, 20, .inl (fun _ => 0))), (q13, .inl (cy 1, 20, .inl (fun _ => 0))), (q14, .inl (cy 1, 300, .inl (fun _ => 0))), (q15, .inl (cy 1, 300, .inl (fun _ => 0))), (q16, .inl (cy 1, 300, .inl (fun _ => 0))), (q17, .inl (cy 1, 300, .inl (fun _ => 0))), (m0, .inr (12, [.ref m1, .ref m2, .ref m3, .ref m4, .ref m5, .int 0, .ref m6, .int 0, .int 0, .int 0, .int 0, .int 0, .int 0, .int 0, .int 0, .int 0, .int 0, .int (-1), .ref m7, .ref m8, .int 0, .ref m9, .int 0, .ref m10, .ref m11, .ref m12, .ref m13, .ref m14, .int 0, .ref m15, .ref m16, .ref m17])), (m2, .inl (cy 1, 1868, .inl (fun _ => 0))), (m3, .inl (cy 1, 1868, .inl (fun _ => 0))), (m4, .inl (cy 1, 5604, .inl (fun _ => 0))), (m5, .inl (cy 3, 3, .inl (fun _ => 0))), (m6, .inl (cy 1, 900, .inl (fun _ => 0))), (m7, .inl (cy 1, 1830, .inl (fun _ => 0))), (m8, .inl (cy 1, 1830, .inl (fun _ => 0))), (m9, .inl (cy 2, 2465, .inr (.inl (fun _ => 0)))), (m10, .inl (cy 1, 7201, .inl (fun _ => 0))), (m11, .inl (cy 1, 1830, .inl (fun _ => 0))), (m12, .inl (cy 1, 5, .inl (fun _ => 0))), (m13, .inl (cy 1, 6, .inl (fun _ => 0))), (m14, .inl (cy 1, 6, .inl (fun _ => 0))), (m15, .inl (cy 1, 4, .inl (upd (upd (upd (upd (fun _ => 0) 0 (-1)) 1 (-1)) 2 (-1)) 3 (-1)))), (m16, .inl (cy 1, 4, .inl (fun _ => 0))), (m17, .inl (cy 2, 160, .inr (.inl (fun _ => 0)))), (m1, .inl (cy 1, 1868, .inl (upd (upd (upd (fun _ => 0) 1 2) 2 20) 3 120))), (o0, .inl (cy 2, 1, .inr (.inl (fun _ => 0))))] H locs) (hl : lv_has ls 8 [(0, .ref b), (1, .ref q0), (2, .ref m0), (3, .ref o0), (4, .int 0)]) (kk : ∀ (H : Heap) (locs : List Loc) (ls : Array Slot), va_S A s.heap H locs → lv_has ls 8 [(0, .ref b), (4, .int 0)] → W p l e room_1 s m args below meth c H locs 600002 7302232 Q (F0 m 2461 ls [])) : W p l e room_1 s m args below meth c H locs 37 29845 Q (F0 m 854 ls []) := by
  obtain ⟨y1, sx1⟩ : ∃ y, xs 1 = y := ⟨_, rfl⟩
  obtain ⟨y2, sx2⟩ : ∃ y, xs 2 = y := ⟨_, rfl⟩
  obtain ⟨y3, sx3⟩ : ∃ y, xs 3 = y := ⟨_, rfl⟩
  obtain ⟨y4, sx4⟩ : ∃ y, xs 4 = y := ⟨_, rfl⟩
  obtain ⟨y5, sx5⟩ : ∃ y, xs 5 = y := ⟨_, rfl⟩
  exact s_L_11_0 b q0 q1 q2 q4 q5 q6 q10 q11 q12 q13 q14 q15 q16 q17 m0 m1 m2 m3 m4 m5 m6 m7 m8 m9 m10 m11 m12 m13 m14 m15 m16 m17 o0 C hml hX hbl hbA (w.pick [0, 10, 18, 24, 25, 26, 35] rfl rfl) hl kk
theorem dL_law_867 : decode cL_law 867 = .ok (.aload_n 1, 1) := by decide +kernel
theorem dL_law_868 : decode cL_law 868 = .ok (.aload_n 0, 1) := by decide +kernel
theorem dL_law_869 : decode cL_law 869 = .ok (.iload 4, 2) := by decide +kernel
theorem dL_law_871 : decode cL_law 871 = .ok (.iconst 1, 1) := by decide +kernel
theorem dL_law_872 : decode cL_law 872 = .ok (.iadd, 1) := by decide +kernel
theorem dL_law_873 : decode cL_law 873 = .ok (.iaload, 1) := by decide +kernel
theorem dL_law_874 : decode cL_law 874 = .ok (.aload_n 0, 1) := by decide +kernel
theorem dL_law_875 : decode cL_law 875 = .ok (.iload 4, 2) := by decide +kernel
theorem dL_law_877 : decode cL_law 877 = .ok (.iconst 2, 1) := by decide +kernel
theorem dL_law_878 : decode cL_law 878 = .ok (.iadd, 1) := by decide +kernel
theorem dL_law_879 : decode cL_law 879 = .ok (.iaload, 1) := by decide +kernel
theorem dL_law_880 : decode cL_law 880 = .ok (.aload_n 3, 1) := by decide +kernel
theorem dL_law_881 : decode cL_law 881 = .ok (.invokestatic 172, 3) := by decide +kernel
theorem fh_RL_172 : FH RL 172 yL_so cL_so 5 (some .int) [(0, 17, 20, 19)] 4 := ⟨⟨gw_mem (by decide +kernel) (by decide +kernel), gw_mem (by decide +kernel) (by decide +kernel), gw_mem (by decide +kernel) (by decide +kernel), gw_mem (by decide +kernel) (by decide +kernel)⟩, ⟨by decide +kernel, by decide +kernel, by decide +kernel⟩⟩
theorem dL_law_884 : decode cL_law 884 = .ok (.istore 5, 2) := by decide +kernel
theorem dL_law_886 : decode cL_law 886 = .ok (.aload_n 2, 1) := by decide +kernel
theorem dL_law_887 : decode cL_law 887 = .ok (.aload_n 0, 1) := by decide +kernel
theorem dL_law_888 : decode cL_law 888 = .ok (.iload 4, 2) := by decide +kernel
theorem dL_law_890 : decode cL_law 890 = .ok (.iconst 1, 1) := by decide +kernel
theorem dL_law_891 : decode cL_law 891 = .ok (.iadd, 1) := by decide +kernel
theorem dL_law_892 : decode cL_law 892 = .ok (.iaload, 1) := by decide +kernel
theorem dL_law_893 : decode cL_law 893 = .ok (.aload_n 0, 1) := by decide +kernel
theorem dL_law_894 : decode cL_law 894 = .ok (.iload 4, 2) := by decide +kernel
theorem dL_law_896 : decode cL_law 896 = .ok (.iconst 2, 1) := by decide +kernel
theorem dL_law_897 : decode cL_law 897 = .ok (.iadd, 1) := by decide +kernel
theorem dL_law_898 : decode cL_law 898 = .ok (.iaload, 1) := by decide +kernel
theorem dL_law_899 : decode cL_law 899 = .ok (.invokevirtual 174, 3) := by decide +kernel
theorem fv_RL_174 : FV RL 174 yX12_so cX12_so 3 (some .boolean) 2 := ⟨⟨gw_mem (by decide +kernel) (by decide +kernel), gw_mem (by decide +kernel) (by decide +kernel), gw_mem (by decide +kernel) (by decide +kernel), gw_mem (by decide +kernel) (by decide +kernel), gw_mem (by decide +kernel) (by decide +kernel)⟩, ⟨by decide +kernel, by decide +kernel, by decide +kernel⟩⟩
theorem dL_law_902 : decode cL_law 902 = .ok (.istore 6, 2) := by decide +kernel
theorem dL_law_904 : decode cL_law 904 = .ok (.aload_n 2, 1) := by decide +kernel
theorem dL_law_905 : decode cL_law 905 = .ok (.invokevirtual 134, 3) := by decide +kernel
theorem dL_law_908 : decode cL_law 908 = .ok (.iload 5, 2) := by decide +kernel
theorem dL_law_910 : decode cL_law 910 = .ok (.if_icmp .eq 5, 3) := by decide +kernel
theorem dL_law_915 : decode cL_law 915 = .ok (.iload 5, 2) := by decide +kernel
theorem dL_law_917 : decode cL_law 917 = .ok (.ifCond .ne 22, 3) := by decide +kernel
theorem dL_law_939 : decode cL_law 939 = .ok (.goto 1522, 3) := by decide +kernel
set_option maxRecDepth 100000 in
set_option maxHeartbeats 4000000 in
theorem s_L_12_0 {p : Program} {l : Launch} {e : Env} {s : State} {m : MethodId} {args : Array Value} {below : List Frame} {meth : Method} {c : Code} {Q : State → Prop} {D : va_G} {cy : Nat → ClassId} {A : Nat → Prop} {H : Heap} {locs : List Loc} {ls : Array Slot} {xs : Nat → Int32} (b q0 q1 q2 q4 q5 q6 q10 m0 m1 m2 m3 m4 m5 m6 m7 m8 m9 m10 m11 m12 m13 m14 m15 m16 m17 o0 : Nat) (y1 : Int32) (y2 : Int32) (k0 : y1 < 0) (sx1 : xs 1 = y1) (sx2 : xs 2 = y2) (hst : l.stackTraces = false) (C : Cx p s m args c cL_law RL D cy A) (hml : c.maxLocals = 8) (hX : va_X b 6 xs s s.heap) (hbl : b < s.heap.size) (hbA : ¬ A b) (w : Wd D A s.heap [(q0, .inr (11, [.ref q1, .int 0, .int 0, .int (-1), .ref q2, .ref q4, .ref q5, .ref q6, .ref q10, .null])), (m0, .inr (12, [.ref m1, .ref m2, .ref m3, .ref m4, .ref m5, .int 0, .ref m6, .int 0, .int 0, .int 0, .int 0, .int 0, .int 0, .int 0, .int 0, .int 0, .int 0, .int (-1), .ref m7, .ref m8, .int 0, .ref m9, .int 0, .ref m10, .ref m11, .ref m12, .ref m13, .ref m14, .int 0, .ref m15, .ref m16, .ref m17])), (m1, .inl (cy 1, 1868, .inl (upd (upd (upd (fun _ => 0) 1 2) 2 20) 3 120)))] H locs) (hl : lv_has ls 8 [(0, .ref b), (1, .ref q0), (2, .ref m0), (3, .ref o0), (4, .int 0)]) (kk : ∀ (H : Heap) (locs : List Loc) (ls : Array Slot), va_S A s.heap H locs → lv_has ls 8 [(0, .ref b), (4, .int 0)] → W p l e room_1 s m args below meth c H locs 600002 7302232 Q (F0 m 2461 ls [])) : W p l e room_1 s m args below meth c H locs 37 29845 Q (F0 m 867 ls []) := by
  refine lv_aload_n C.1 C.2.1 dL_law_867 rfl (lv_at hl 1 rfl) ?_
  refine lv_aload_n C.1 C.2.1 dL_law_868 rfl (lv_at hl 0 rfl) ?_
  refine lv_iload C.1 C.2.1 dL_law_869 (lv_at hl 4 rfl) ?_
  refine lv_iconst (v := 1) C.1 C.2.1 dL_law_871 (by decide) ?_
  refine r_iadd C (v := 1) dL_law_872 (by decide) ?_
  refine r_sld C w hX hbl hbA (v := y1) (vinD (by decide)) sx1 dL_law_873 ?_
  refine lv_aload_n C.1 C.2.1 dL_law_874 rfl (lv_at hl 0 rfl) ?_
  refine lv_iload C.1 C.2.1 dL_law_875 (lv_at hl 4 rfl) ?_
  refine lv_iconst (v := 2) C.1 C.2.1 dL_law_877 (by decide) ?_
  refine r_iadd C (v := 2) dL_law_878 (by decide) ?_
  refine r_sld C w hX hbl hbA (v := y2) (vinD (by decide)) sx2 dL_law_879 ?_
  refine lv_aload_n C.1 C.2.1 dL_law_880 rfl (lv_at hl 3 rfl) ?_
  refine r_callH C w fh_RL_172 (c_L_so_0 l D cy q0 o0 q1 q2 q4 q5 q6 q10 y1 y2 k0 hst) (hl.1.trans hml.symm) [0] [1, 2] (wr := [(m0, .inr (12, [.ref m1, .ref m2, .ref m3, .ref m4, .ref m5, .int 0, .ref m6, .int 0, .int 0, .int 0, .int 0, .int 0, .int 0, .int 0, .int 0, .int 0, .int 0, .int (-1), .ref m7, .ref m8, .int 0, .ref m9, .int 0, .ref m10, .ref m11, .ref m12, .ref m13, .ref m14, .int 0, .ref m15, .ref m16, .ref m17])), (m1, .inl (cy 1, 1868, .inl (upd (upd (upd (fun _ => 0) 1 2) 2 20) 3 120)))]) ⟨rfl, rfl, rfl, rfl, by decide⟩ rfl rfl ⟨Nat.le_of_ble_eq_true rfl, Nat.le_of_ble_eq_true rfl, Nat.le_of_ble_eq_true rfl⟩ 38 29851 ⟨rfl, rfl, Nat.le_of_ble_eq_true rfl, Nat.le_of_ble_eq_true rfl⟩ dL_law_881 (fun u H locs hp w => ?_)
  have w : Wd D A s.heap [(m0, .inr (12, [.ref m1, .ref m2, .ref m3, .ref m4, .ref m5, .int 0, .ref m6, .int 0, .int 0, .int 0, .int 0, .int 0, .int 0, .int 0, .int 0, .int 0, .int 0, .int (-1), .ref m7, .ref m8, .int 0, .ref m9, .int 0, .ref m10, .ref m11, .ref m12, .ref m13, .ref m14, .int 0, .ref m15, .ref m16, .ref m17])), (m1, .inl (cy 1, 1868, .inl (upd (upd (upd (fun _ => 0) 1 2) 2 20) 3 120)))] _ _ := w.pick [0, 1] rfl rfl
  refine r_top (g2 := F0 m 884 ls [.int 1]) rfl ?_
  refine lv_istore (lv' := [(5, .int 1), (0, .ref b), (1, .ref q0), (2, .ref m0), (3, .ref o0), (4, .int 0)]) C.1 C.2.1 dL_law_884 hl (by decide) rfl (fun ls hl => ?_)
  refine lv_aload_n C.1 C.2.1 dL_law_886 rfl (lv_at hl 3 rfl) ?_
  refine lv_aload_n C.1 C.2.1 dL_law_887 rfl (lv_at hl 1 rfl) ?_
  refine lv_iload C.1 C.2.1 dL_law_888 (lv_at hl 5 rfl) ?_
  refine lv_iconst (v := 1) C.1 C.2.1 dL_law_890 (by decide) ?_
  refine r_iadd C (v := 1) dL_law_891 (by decide) ?_
  refine r_sld C w hX hbl hbA (v := y1) (vinD (by decide)) sx1 dL_law_892 ?_
  refine lv_aload_n C.1 C.2.1 dL_law_893 rfl (lv_at hl 1 rfl) ?_
  refine lv_iload C.1 C.2.1 dL_law_894 (lv_at hl 5 rfl) ?_
  refine lv_iconst (v := 2) C.1 C.2.1 dL_law_896 (by decide) ?_
  refine r_iadd C (v := 2) dL_law_897 (by decide) ?_
  refine r_sld C w hX hbl hbA (v := y2) (vinD (by decide)) sx2 dL_law_898 ?_
  refine r_callV C w fv_RL_174 (c_X12_so_0 l D cy m0 m1 m2 m3 m4 m5 m6 m7 m8 m9 m10 m11 m12 m13 m14 m15 m16 m17 y1 y2 k0) (hl.1.trans hml.symm) [0, 1] [] (wr := []) ⟨rfl, rfl, rfl, rfl, by decide⟩ 0 rfl rfl rfl rfl rfl ⟨Nat.le_of_ble_eq_true rfl, Nat.le_of_ble_eq_true rfl, Nat.le_of_ble_eq_true rfl⟩ 38 29851 ⟨rfl, rfl, Nat.le_of_ble_eq_true rfl, Nat.le_of_ble_eq_true rfl⟩ dL_law_899 (fun u H locs hp w => ?_)
  have w : Wd D A s.heap [(m0, .inr (12, [.ref m1, .ref m2, .ref m3, .ref m4, .ref m5, .int 1, .ref m6, .int 0, .int 0, .int 0, .int 0, .int 0, .int 0, .int 0, .int 0, .int 0, .int 0, .int (-1), .ref m7, .ref m8, .int 0, .ref m9, .int 0, .ref m10, .ref m11, .ref m12, .ref m13, .ref m14, .int 0, .ref m15, .ref m16, .ref m17]))] _ _ := w.pick [0] rfl rfl
  refine r_top (g2 := F0 m 902 ls [.int 0]) rfl ?_
  refine lv_istore (lv' := [(6, .int 0), (5, .int 1), (0, .ref b), (1, .ref q0), (2, .ref m0), (3, .ref o0), (4, .int 0)]) C.1 C.2.1 dL_law_902 hl (by decide) rfl (fun ls hl => ?_)
  refine lv_aload_n C.1 C.2.1 dL_law_904 rfl (lv_at hl 4 rfl) ?_
  refine r_callV C w fv_RL_134 (c_X12_thrown_0 l D cy m0 m1 m2 m3 m4 m5 m6 m7 m8 m9 m10 m11 m12 m13 m14 m15 m16 m17) (hl.1.trans hml.symm) [0] [] (wr := []) ⟨rfl, rfl, rfl, rfl, by decide⟩ 0 rfl rfl rfl rfl rfl ⟨Nat.le_of_ble_eq_true rfl, Nat.le_of_ble_eq_true rfl, Nat.le_of_ble_eq_true rfl⟩ 38 29851 ⟨rfl, rfl, Nat.le_of_ble_eq_true rfl, Nat.le_of_ble_eq_true rfl⟩ dL_law_905 (fun u H locs hp w => ?_)
  have w : Wd D A s.heap [(m0, .inr (12, [.ref m1, .ref m2, .ref m3, .ref m4, .ref m5, .int 1, .ref m6, .int 0, .int 0, .int 0, .int 0, .int 0, .int 0, .int 0, .int 0, .int 0, .int 0, .int (-1), .ref m7, .ref m8, .int 0, .ref m9, .int 0, .ref m10, .ref m11, .ref m12, .ref m13, .ref m14, .int 0, .ref m15, .ref m16, .ref m17]))] _ _ := w.pick [0] rfl rfl
  refine r_top (g2 := F0 m 908 ls [.int 1]) rfl ?_
  refine lv_iload C.1 C.2.1 dL_law_908 (lv_at hl 1 rfl) ?_
  refine b_icmp_eq_t C (tgt := 915) dL_law_910 (by decide) (by decide) ?_
  refine lv_iload C.1 C.2.1 dL_law_915 (lv_at hl 1 rfl) ?_
  refine b_if_ne_t C (tgt := 939) dL_law_917 (by decide) (by decide) ?_
  refine lv_goto (tgt := 2461) C.1 C.2.1 dL_law_939 (by decide) ?_
  refine W.widen (k := 600002) (n := 7302232) (Nat.le_of_ble_eq_true rfl) (Nat.le_of_ble_eq_true rfl) ?_
  exact kk _ _ _ w.2.2 (lv_sub hl [2, 6] rfl)
set_option maxRecDepth 100000 in
set_option maxHeartbeats 4000000 in
theorem s_L_12_1 {p : Program} {l : Launch} {e : Env} {s : State} {m : MethodId} {args : Array Value} {below : List Frame} {meth : Method} {c : Code} {Q : State → Prop} {D : va_G} {cy : Nat → ClassId} {A : Nat → Prop} {H : Heap} {locs : List Loc} {ls : Array Slot} {xs : Nat → Int32} (b q0 q1 q2 q4 q5 q6 q10 q11 q12 q13 q14 q15 q16 q17 m0 m1 m2 m3 m4 m5 m6 m7 m8 m9 m10 m11 m12 m13 m14 m15 m16 m17 o0 : Nat) (y1 : Int32) (y2 : Int32) (k0 : ¬ y1 < 0) (sx1 : xs 1 = y1) (sx2 : xs 2 = y2) (hst : l.stackTraces = false) (C : Cx p s m args c cL_law RL D cy A) (hml : c.maxLocals = 8) (hX : va_X b 6 xs s s.heap) (hbl : b < s.heap.size) (hbA : ¬ A b) (w : Wd D A s.heap [(q0, .inr (11, [.ref q1, .int 0, .int 0, .int (-1), .ref q2, .ref q4, .ref q5, .ref q6, .ref q10, .null])), (q10, .inr (9, [.int 0, .int 2, .int 20, .int 120, .int 0, .int 0, .int 0, .int 0, .ref q11, .int 0, .ref q12, .ref q13, .int 0, .ref q14, .ref q15, .ref q16, .ref q17])), (m0, .inr (12, [.ref m1, .ref m2, .ref m3, .ref m4, .ref m5, .int 0, .ref m6, .int 0, .int 0, .int 0, .int 0, .int 0, .int 0, .int 0, .int 0, .int 0, .int 0, .int (-1), .ref m7, .ref m8, .int 0, .ref m9, .int 0, .ref m10, .ref m11, .ref m12, .ref m13, .ref m14, .int 0, .ref m15, .ref m16, .ref m17])), (m1, .inl (cy 1, 1868, .inl (upd (upd (upd (fun _ => 0) 1 2) 2 20) 3 120)))] H locs) (hl : lv_has ls 8 [(0, .ref b), (1, .ref q0), (2, .ref m0), (3, .ref o0), (4, .int 0)]) (kk : ∀ (H : Heap) (locs : List Loc) (ls : Array Slot), va_S A s.heap H locs → lv_has ls 8 [(0, .ref b), (4, .int 0)] → W p l e room_1 s m args below meth c H locs 600002 7302232 Q (F0 m 2461 ls [])) : W p l e room_1 s m args below meth c H locs 37 29845 Q (F0 m 867 ls []) := by
  refine lv_aload_n C.1 C.2.1 dL_law_867 rfl (lv_at hl 1 rfl) ?_
  refine lv_aload_n C.1 C.2.1 dL_law_868 rfl (lv_at hl 0 rfl) ?_
  refine lv_iload C.1 C.2.1 dL_law_869 (lv_at hl 4 rfl) ?_
  refine lv_iconst (v := 1) C.1 C.2.1 dL_law_871 (by decide) ?_
  refine r_iadd C (v := 1) dL_law_872 (by decide) ?_
  refine r_sld C w hX hbl hbA (v := y1) (vinD (by decide)) sx1 dL_law_873 ?_
  refine lv_aload_n C.1 C.2.1 dL_law_874 rfl (lv_at hl 0 rfl) ?_
  refine lv_iload C.1 C.2.1 dL_law_875 (lv_at hl 4 rfl) ?_
  refine lv_iconst (v := 2) C.1 C.2.1 dL_law_877 (by decide) ?_
  refine r_iadd C (v := 2) dL_law_878 (by decide) ?_
  refine r_sld C w hX hbl hbA (v := y2) (vinD (by decide)) sx2 dL_law_879 ?_
  refine lv_aload_n C.1 C.2.1 dL_law_880 rfl (lv_at hl 3 rfl) ?_
  refine r_callH C w fh_RL_172 (c_L_so_1 l D cy q0 o0 q1 q2 q4 q5 q6 q10 q11 q12 q13 q14 q15 q16 q17 y1 y2 k0 hst) (hl.1.trans hml.symm) [0, 1] [2, 3] (wr := [(m0, .inr (12, [.ref m1, .ref m2, .ref m3, .ref m4, .ref m5, .int 0, .ref m6, .int 0, .int 0, .int 0, .int 0, .int 0, .int 0, .int 0, .int 0, .int 0, .int 0, .int (-1), .ref m7, .ref m8, .int 0, .ref m9, .int 0, .ref m10, .ref m11, .ref m12, .ref m13, .ref m14, .int 0, .ref m15, .ref m16, .ref m17])), (m1, .inl (cy 1, 1868, .inl (upd (upd (upd (fun _ => 0) 1 2) 2 20) 3 120)))]) ⟨rfl, rfl, rfl, rfl, by decide⟩ rfl rfl ⟨Nat.le_of_ble_eq_true rfl, Nat.le_of_ble_eq_true rfl, Nat.le_of_ble_eq_true rfl⟩ 38 29851 ⟨rfl, rfl, Nat.le_of_ble_eq_true rfl, Nat.le_of_ble_eq_true rfl⟩ dL_law_881 (fun u H locs hp w => ?_)
  have w : Wd D A s.heap [(m0, .inr (12, [.ref m1, .ref m2, .ref m3, .ref m4, .ref m5, .int 0, .ref m6, .int 0, .int 0, .int 0, .int 0, .int 0, .int 0, .int 0, .int 0, .int 0, .int 0, .int (-1), .ref m7, .ref m8, .int 0, .ref m9, .int 0, .ref m10, .ref m11, .ref m12, .ref m13, .ref m14, .int 0, .ref m15, .ref m16, .ref m17])), (m1, .inl (cy 1, 1868, .inl (upd (upd (upd (fun _ => 0) 1 2) 2 20) 3 120)))] _ _ := w.pick [0, 1] rfl rfl
  refine r_top (g2 := F0 m 884 ls [.int 1]) rfl ?_
  refine lv_istore (lv' := [(5, .int 1), (0, .ref b), (1, .ref q0), (2, .ref m0), (3, .ref o0), (4, .int 0)]) C.1 C.2.1 dL_law_884 hl (by decide) rfl (fun ls hl => ?_)
  refine lv_aload_n C.1 C.2.1 dL_law_886 rfl (lv_at hl 3 rfl) ?_
  refine lv_aload_n C.1 C.2.1 dL_law_887 rfl (lv_at hl 1 rfl) ?_
  refine lv_iload C.1 C.2.1 dL_law_888 (lv_at hl 5 rfl) ?_
  refine lv_iconst (v := 1) C.1 C.2.1 dL_law_890 (by decide) ?_
  refine r_iadd C (v := 1) dL_law_891 (by decide) ?_
  refine r_sld C w hX hbl hbA (v := y1) (vinD (by decide)) sx1 dL_law_892 ?_
  refine lv_aload_n C.1 C.2.1 dL_law_893 rfl (lv_at hl 1 rfl) ?_
  refine lv_iload C.1 C.2.1 dL_law_894 (lv_at hl 5 rfl) ?_
  refine lv_iconst (v := 2) C.1 C.2.1 dL_law_896 (by decide) ?_
  refine r_iadd C (v := 2) dL_law_897 (by decide) ?_
  refine r_sld C w hX hbl hbA (v := y2) (vinD (by decide)) sx2 dL_law_898 ?_
  refine r_callV C w fv_RL_174 (c_X12_so_1 l D cy m0 m1 m2 m3 m4 m5 m6 m7 m8 m9 m10 m11 m12 m13 m14 m15 m16 m17 y1 y2 k0) (hl.1.trans hml.symm) [0, 1] [] (wr := []) ⟨rfl, rfl, rfl, rfl, by decide⟩ 0 rfl rfl rfl rfl rfl ⟨Nat.le_of_ble_eq_true rfl, Nat.le_of_ble_eq_true rfl, Nat.le_of_ble_eq_true rfl⟩ 38 29851 ⟨rfl, rfl, Nat.le_of_ble_eq_true rfl, Nat.le_of_ble_eq_true rfl⟩ dL_law_899 (fun u H locs hp w => ?_)
  have w : Wd D A s.heap [(m0, .inr (12, [.ref m1, .ref m2, .ref m3, .ref m4, .ref m5, .int 1, .ref m6, .int 0, .int 0, .int 0, .int 0, .int 0, .int 0, .int 0, .int 0, .int 0, .int 0, .int (-1), .ref m7, .ref m8, .int 0, .ref m9, .int 0, .ref m10, .ref m11, .ref m12, .ref m13, .ref m14, .int 0, .ref m15, .ref m16, .ref m17]))] _ _ := w.pick [0] rfl rfl
  refine r_top (g2 := F0 m 902 ls [.int 0]) rfl ?_
  refine lv_istore (lv' := [(6, .int 0), (5, .int 1), (0, .ref b), (1, .ref q0), (2, .ref m0), (3, .ref o0), (4, .int 0)]) C.1 C.2.1 dL_law_902 hl (by decide) rfl (fun ls hl => ?_)
  refine lv_aload_n C.1 C.2.1 dL_law_904 rfl (lv_at hl 4 rfl) ?_
  refine r_callV C w fv_RL_134 (c_X12_thrown_0 l D cy m0 m1 m2 m3 m4 m5 m6 m7 m8 m9 m10 m11 m12 m13 m14 m15 m16 m17) (hl.1.trans hml.symm) [0] [] (wr := []) ⟨rfl, rfl, rfl, rfl, by decide⟩ 0 rfl rfl rfl rfl rfl ⟨Nat.le_of_ble_eq_true rfl, Nat.le_of_ble_eq_true rfl, Nat.le_of_ble_eq_true rfl⟩ 38 29851 ⟨rfl, rfl, Nat.le_of_ble_eq_true rfl, Nat.le_of_ble_eq_true rfl⟩ dL_law_905 (fun u H locs hp w => ?_)
  have w : Wd D A s.heap [(m0, .inr (12, [.ref m1, .ref m2, .ref m3, .ref m4, .ref m5, .int 1, .ref m6, .int 0, .int 0, .int 0, .int 0, .int 0, .int 0, .int 0, .int 0, .int 0, .int 0, .int (-1), .ref m7, .ref m8, .int 0, .ref m9, .int 0, .ref m10, .ref m11, .ref m12, .ref m13, .ref m14, .int 0, .ref m15, .ref m16, .ref m17]))] _ _ := w.pick [0] rfl rfl
  refine r_top (g2 := F0 m 908 ls [.int 1]) rfl ?_
  refine lv_iload C.1 C.2.1 dL_law_908 (lv_at hl 1 rfl) ?_
  refine b_icmp_eq_t C (tgt := 915) dL_law_910 (by decide) (by decide) ?_
  refine lv_iload C.1 C.2.1 dL_law_915 (lv_at hl 1 rfl) ?_
  refine b_if_ne_t C (tgt := 939) dL_law_917 (by decide) (by decide) ?_
  refine lv_goto (tgt := 2461) C.1 C.2.1 dL_law_939 (by decide) ?_
  refine W.widen (k := 600002) (n := 7302232) (Nat.le_of_ble_eq_true rfl) (Nat.le_of_ble_eq_true rfl) ?_
  exact kk _ _ _ w.2.2 (lv_sub hl [2, 6] rfl)
set_option maxRecDepth 100000 in
set_option maxHeartbeats 4000000 in
theorem t_L_12 {p : Program} {l : Launch} {e : Env} {s : State} {m : MethodId} {args : Array Value} {below : List Frame} {meth : Method} {c : Code} {Q : State → Prop} {D : va_G} {cy : Nat → ClassId} {A : Nat → Prop} {H : Heap} {locs : List Loc} {ls : Array Slot} {xs : Nat → Int32} (b q0 q1 q2 q4 q5 q6 q10 q3 q7 q8 q9 q11 q12 q13 q14 q15 q16 q17 m0 m1 m2 m3 m4 m5 m6 m7 m8 m9 m10 m11 m12 m13 m14 m15 m16 m17 o0 : Nat) (hst : l.stackTraces = false) (C : Cx p s m args c cL_law RL D cy A) (hml : c.maxLocals = 8) (hX : va_X b 6 xs s s.heap) (hbl : b < s.heap.size) (hbA : ¬ A b) (w : Wd D A s.heap [(q0, .inr (11, [.ref q1, .int 0, .int 0, .int (-1), .ref q2, .ref q4, .ref q5, .ref q6, .ref q10, .null])), (q1, .inl (cy 0, 900, .inl (fun _ => 0))), (q2, .inr (5, [.ref q3, .int 0, .int 0, .int 0, .int 0, .int 0, .int 0, .null])), (q3, .inl (cy 0, 0, .inl (fun _ => 0))), (q4, .inl (cy 4, 5, .inr (.inr (.inr (.inr (va_up (fun _ => none) 0 (some q10))))))), (q5, .inl (cy 4, 3, .inr (.inr (.inr (.inr (fun _ => none)))))), (q6, .inr (10, [.ref q7, .ref q8, .ref q9])), (q7, .inl (cy 1, 4, .inl (upd (upd (upd (upd (fun _ => 0) 0 (-1)) 1 (-1)) 2 (-1)) 3 (-1)))), (q8, .inl (cy 1, 4, .inl (fun _ => 0))), (q9, .inl (cy 2, 160, .inr (.inl (fun _ => 0)))), (q10, .inr (9, [.int 0, .int 2, .int 20, .int 120, .int 0, .int 0, .int 0, .int 0, .ref q11, .int 0, .ref q12, .ref q13, .int 0, .ref q14, .ref q15, .ref q16, .ref q17])), (q11, .inl (cy 1, 6, .inl (fun _ => 0))), (q12, .inl (cy 1, 20, .inl (fun _ => 0))), (q13, .inl (cy 1, 20, .inl (fun _ => 0))), (q14, .inl (cy 1, 300, .inl (fun _ => 0))), (q15, .inl (cy 1, 300, .inl (fun _ => 0))), (q16, .inl (cy 1, 300, .inl (fun _ => 0))), (q17, .inl (cy 1, 300, .inl (fun _ => 0))), (m0, .inr (12, [.ref m1, .ref m2, .ref m3, .ref m4, .ref m5, .int 0, .ref m6, .int 0, .int 0, .int 0, .int 0, .int 0, .int 0, .int 0, .int 0, .int 0, .int 0, .int (-1), .ref m7, .ref m8, .int 0, .ref m9, .int 0, .ref m10, .ref m11, .ref m12, .ref m13, .ref m14, .int 0, .ref m15, .ref m16, .ref m17])), (m2, .inl (cy 1, 1868, .inl (fun _ => 0))), (m3, .inl (cy 1, 1868, .inl (fun _ => 0))), (m4, .inl (cy 1, 5604, .inl (fun _ => 0))), (m5, .inl (cy 3, 3, .inl (fun _ => 0))), (m6, .inl (cy 1, 900, .inl (fun _ => 0))), (m7, .inl (cy 1, 1830, .inl (fun _ => 0))), (m8, .inl (cy 1, 1830, .inl (fun _ => 0))), (m9, .inl (cy 2, 2465, .inr (.inl (fun _ => 0)))), (m10, .inl (cy 1, 7201, .inl (fun _ => 0))), (m11, .inl (cy 1, 1830, .inl (fun _ => 0))), (m12, .inl (cy 1, 5, .inl (fun _ => 0))), (m13, .inl (cy 1, 6, .inl (fun _ => 0))), (m14, .inl (cy 1, 6, .inl (fun _ => 0))), (m15, .inl (cy 1, 4, .inl (upd (upd (upd (upd (fun _ => 0) 0 (-1)) 1 (-1)) 2 (-1)) 3 (-1)))), (m16, .inl (cy 1, 4, .inl (fun _ => 0))), (m17, .inl (cy 2, 160, .inr (.inl (fun _ => 0)))), (m1, .inl (cy 1, 1868, .inl (upd (upd (upd (fun _ => 0) 1 2) 2 20) 3 120))), (o0, .inl (cy 2, 1, .inr (.inl (fun _ => 0))))] H locs) (hl : lv_has ls 8 [(0, .ref b), (1, .ref q0), (2, .ref m0), (3, .ref o0), (4, .int 0)]) (kk : ∀ (H : Heap) (locs : List Loc) (ls : Array Slot), va_S A s.heap H locs → lv_has ls 8 [(0, .ref b), (4, .int 0)] → W p l e room_1 s m args below meth c H locs 600002 7302232 Q (F0 m 2461 ls [])) : W p l e room_1 s m args below meth c H locs 37 29845 Q (F0 m 867 ls []) := by
  obtain ⟨y1, sx1⟩ : ∃ y, xs 1 = y := ⟨_, rfl⟩
  obtain ⟨y2, sx2⟩ : ∃ y, xs 2 = y := ⟨_, rfl⟩
  obtain ⟨y3, sx3⟩ : ∃ y, xs 3 = y := ⟨_, rfl⟩
  obtain ⟨y4, sx4⟩ : ∃ y, xs 4 = y := ⟨_, rfl⟩
  obtain ⟨y5, sx5⟩ : ∃ y, xs 5 = y := ⟨_, rfl⟩
  by_cases g1 : y1 < 0
  · exact s_L_12_0 b q0 q1 q2 q4 q5 q6 q10 m0 m1 m2 m3 m4 m5 m6 m7 m8 m9 m10 m11 m12 m13 m14 m15 m16 m17 o0 y1 y2 g1 sx1 sx2 hst C hml hX hbl hbA (w.pick [0, 18, 35] rfl rfl) hl kk
  · exact s_L_12_1 b q0 q1 q2 q4 q5 q6 q10 q11 q12 q13 q14 q15 q16 q17 m0 m1 m2 m3 m4 m5 m6 m7 m8 m9 m10 m11 m12 m13 m14 m15 m16 m17 o0 y1 y2 g1 sx1 sx2 hst C hml hX hbl hbA (w.pick [0, 10, 18, 35] rfl rfl) hl kk
theorem dL_law_942 : decode cL_law 942 = .ok (.aload_n 1, 1) := by decide +kernel
theorem dL_law_943 : decode cL_law 943 = .ok (.aload_n 0, 1) := by decide +kernel
theorem dL_law_944 : decode cL_law 944 = .ok (.iload 4, 2) := by decide +kernel
theorem dL_law_946 : decode cL_law 946 = .ok (.iconst 1, 1) := by decide +kernel
theorem dL_law_947 : decode cL_law 947 = .ok (.iadd, 1) := by decide +kernel
theorem dL_law_948 : decode cL_law 948 = .ok (.iaload, 1) := by decide +kernel
theorem dL_law_949 : decode cL_law 949 = .ok (.aload_n 0, 1) := by decide +kernel
theorem dL_law_950 : decode cL_law 950 = .ok (.iload 4, 2) := by decide +kernel
theorem dL_law_952 : decode cL_law 952 = .ok (.iconst 2, 1) := by decide +kernel
theorem dL_law_953 : decode cL_law 953 = .ok (.iadd, 1) := by decide +kernel
theorem dL_law_954 : decode cL_law 954 = .ok (.iaload, 1) := by decide +kernel
theorem dL_law_955 : decode cL_law 955 = .ok (.aload_n 3, 1) := by decide +kernel
theorem dL_law_956 : decode cL_law 956 = .ok (.invokestatic 175, 3) := by decide +kernel
theorem fh_RL_175 : FH RL 175 yL_may cL_may 5 (some .int) [(0, 17, 20, 19)] 4 := ⟨⟨gw_mem (by decide +kernel) (by decide +kernel), gw_mem (by decide +kernel) (by decide +kernel), gw_mem (by decide +kernel) (by decide +kernel), gw_mem (by decide +kernel) (by decide +kernel)⟩, ⟨by decide +kernel, by decide +kernel, by decide +kernel⟩⟩
theorem dL_law_959 : decode cL_law 959 = .ok (.istore 5, 2) := by decide +kernel
theorem dL_law_961 : decode cL_law 961 = .ok (.aload_n 2, 1) := by decide +kernel
theorem dL_law_962 : decode cL_law 962 = .ok (.aload_n 0, 1) := by decide +kernel
theorem dL_law_963 : decode cL_law 963 = .ok (.iload 4, 2) := by decide +kernel
theorem dL_law_965 : decode cL_law 965 = .ok (.iconst 1, 1) := by decide +kernel
theorem dL_law_966 : decode cL_law 966 = .ok (.iadd, 1) := by decide +kernel
theorem dL_law_967 : decode cL_law 967 = .ok (.iaload, 1) := by decide +kernel
theorem dL_law_968 : decode cL_law 968 = .ok (.aload_n 0, 1) := by decide +kernel
theorem dL_law_969 : decode cL_law 969 = .ok (.iload 4, 2) := by decide +kernel
theorem dL_law_971 : decode cL_law 971 = .ok (.iconst 2, 1) := by decide +kernel
theorem dL_law_972 : decode cL_law 972 = .ok (.iadd, 1) := by decide +kernel
theorem dL_law_973 : decode cL_law 973 = .ok (.iaload, 1) := by decide +kernel
theorem dL_law_974 : decode cL_law 974 = .ok (.invokevirtual 177, 3) := by decide +kernel
theorem fv_RL_177 : FV RL 177 yX12_may cX12_may 3 (some .boolean) 2 := ⟨⟨gw_mem (by decide +kernel) (by decide +kernel), gw_mem (by decide +kernel) (by decide +kernel), gw_mem (by decide +kernel) (by decide +kernel), gw_mem (by decide +kernel) (by decide +kernel), gw_mem (by decide +kernel) (by decide +kernel)⟩, ⟨by decide +kernel, by decide +kernel, by decide +kernel⟩⟩
theorem dL_law_977 : decode cL_law 977 = .ok (.istore 6, 2) := by decide +kernel
theorem dL_law_979 : decode cL_law 979 = .ok (.aload_n 2, 1) := by decide +kernel
theorem dL_law_980 : decode cL_law 980 = .ok (.invokevirtual 134, 3) := by decide +kernel
theorem dL_law_983 : decode cL_law 983 = .ok (.iload 5, 2) := by decide +kernel
theorem dL_law_985 : decode cL_law 985 = .ok (.if_icmp .eq 5, 3) := by decide +kernel
theorem dL_law_990 : decode cL_law 990 = .ok (.iload 5, 2) := by decide +kernel
theorem dL_law_992 : decode cL_law 992 = .ok (.ifCond .ne 22, 3) := by decide +kernel
theorem dL_law_1014 : decode cL_law 1014 = .ok (.goto 1447, 3) := by decide +kernel
set_option maxRecDepth 100000 in
set_option maxHeartbeats 4000000 in
theorem s_L_13_0 {p : Program} {l : Launch} {e : Env} {s : State} {m : MethodId} {args : Array Value} {below : List Frame} {meth : Method} {c : Code} {Q : State → Prop} {D : va_G} {cy : Nat → ClassId} {A : Nat → Prop} {H : Heap} {locs : List Loc} {ls : Array Slot} {xs : Nat → Int32} (b q0 q1 q2 q4 q5 q6 q10 m0 m1 m2 m3 m4 m5 m6 m7 m8 m9 m10 m11 m12 m13 m14 m15 m16 m17 o0 : Nat) (y1 : Int32) (y2 : Int32) (k0 : y1 < 0) (sx1 : xs 1 = y1) (sx2 : xs 2 = y2) (hst : l.stackTraces = false) (C : Cx p s m args c cL_law RL D cy A) (hml : c.maxLocals = 8) (hX : va_X b 6 xs s s.heap) (hbl : b < s.heap.size) (hbA : ¬ A b) (w : Wd D A s.heap [(q0, .inr (11, [.ref q1, .int 0, .int 0, .int (-1), .ref q2, .ref q4, .ref q5, .ref q6, .ref q10, .null])), (m0, .inr (12, [.ref m1, .ref m2, .ref m3, .ref m4, .ref m5, .int 0, .ref m6, .int 0, .int 0, .int 0, .int 0, .int 0, .int 0, .int 0, .int 0, .int 0, .int 0, .int (-1), .ref m7, .ref m8, .int 0, .ref m9, .int 0, .ref m10, .ref m11, .ref m12, .ref m13, .ref m14, .int 0, .ref m15, .ref m16, .ref m17])), (m1, .inl (cy 1, 1868, .inl (upd (upd (upd (fun _ => 0) 1 2) 2 20) 3 120)))] H locs) (hl : lv_has ls 8 [(0, .ref b), (1, .ref q0), (2, .ref m0), (3, .ref o0), (4, .int 0)]) (kk : ∀ (H : Heap) (locs : List Loc) (ls : Array Slot), va_S A s.heap H locs → lv_has ls 8 [(0, .ref b), (4, .int 0)] → W p l e room_1 s m args below meth c H locs 600002 7302232 Q (F0 m 2461 ls [])) : W p l e room_1 s m args below meth c H locs 37 29845 Q (F0 m 942 ls []) := by
  refine lv_aload_n C.1 C.2.1 dL_law_942 rfl (lv_at hl 1 rfl) ?_
  refine lv_aload_n C.1 C.2.1 dL_law_943 rfl (lv_at hl 0 rfl) ?_
  refine lv_iload C.1 C.2.1 dL_law_944 (lv_at hl 4 rfl) ?_
  refine lv_iconst (v := 1) C.1 C.2.1 dL_law_946 (by decide) ?_
  refine r_iadd C (v := 1) dL_law_947 (by decide) ?_
  refine r_sld C w hX hbl hbA (v := y1) (vinD (by decide)) sx1 dL_law_948 ?_
  refine lv_aload_n C.1 C.2.1 dL_law_949 rfl (lv_at hl 0 rfl) ?_
  refine lv_iload C.1 C.2.1 dL_law_950 (lv_at hl 4 rfl) ?_
  refine lv_iconst (v := 2) C.1 C.2.1 dL_law_952 (by decide) ?_
  refine r_iadd C (v := 2) dL_law_953 (by decide) ?_
  refine r_sld C w hX hbl hbA (v := y2) (vinD (by decide)) sx2 dL_law_954 ?_
  refine lv_aload_n C.1 C.2.1 dL_law_955 rfl (lv_at hl 3 rfl) ?_
  refine r_callH C w fh_RL_175 (c_L_may_0 l D cy q0 o0 q1 q2 q4 q5 q6 q10 y1 y2 k0 hst) (hl.1.trans hml.symm) [0] [1, 2] (wr := [(m0, .inr (12, [.ref m1, .ref m2, .ref m3, .ref m4, .ref m5, .int 0, .ref m6, .int 0, .int 0, .int 0, .int 0, .int 0, .int 0, .int 0, .int 0, .int 0, .int 0, .int (-1), .ref m7, .ref m8, .int 0, .ref m9, .int 0, .ref m10, .ref m11, .ref m12, .ref m13, .ref m14, .int 0, .ref m15, .ref m16, .ref m17])), (m1, .inl (cy 1, 1868, .inl (upd (upd (upd (fun _ => 0) 1 2) 2 20) 3 120)))]) ⟨rfl, rfl, rfl, rfl, by decide⟩ rfl rfl ⟨Nat.le_of_ble_eq_true rfl, Nat.le_of_ble_eq_true rfl, Nat.le_of_ble_eq_true rfl⟩ 38 29851 ⟨rfl, rfl, Nat.le_of_ble_eq_true rfl, Nat.le_of_ble_eq_true rfl⟩ dL_law_956 (fun u H locs hp w => ?_)
  have w : Wd D A s.heap [(m0, .inr (12, [.ref m1, .ref m2, .ref m3, .ref m4, .ref m5, .int 0, .ref m6, .int 0, .int 0, .int 0, .int 0, .int 0, .int 0, .int 0, .int 0, .int 0, .int 0, .int (-1), .ref m7, .ref m8, .int 0, .ref m9, .int 0, .ref m10, .ref m11, .ref m12, .ref m13, .ref m14, .int 0, .ref m15, .ref m16, .ref m17])), (m1, .inl (cy 1, 1868, .inl (upd (upd (upd (fun _ => 0) 1 2) 2 20) 3 120)))] _ _ := w.pick [0, 1] rfl rfl
  refine r_top (g2 := F0 m 959 ls [.int 1]) rfl ?_
  refine lv_istore (lv' := [(5, .int 1), (0, .ref b), (1, .ref q0), (2, .ref m0), (3, .ref o0), (4, .int 0)]) C.1 C.2.1 dL_law_959 hl (by decide) rfl (fun ls hl => ?_)
  refine lv_aload_n C.1 C.2.1 dL_law_961 rfl (lv_at hl 3 rfl) ?_
  refine lv_aload_n C.1 C.2.1 dL_law_962 rfl (lv_at hl 1 rfl) ?_
  refine lv_iload C.1 C.2.1 dL_law_963 (lv_at hl 5 rfl) ?_
  refine lv_iconst (v := 1) C.1 C.2.1 dL_law_965 (by decide) ?_
  refine r_iadd C (v := 1) dL_law_966 (by decide) ?_
  refine r_sld C w hX hbl hbA (v := y1) (vinD (by decide)) sx1 dL_law_967 ?_
  refine lv_aload_n C.1 C.2.1 dL_law_968 rfl (lv_at hl 1 rfl) ?_
  refine lv_iload C.1 C.2.1 dL_law_969 (lv_at hl 5 rfl) ?_
  refine lv_iconst (v := 2) C.1 C.2.1 dL_law_971 (by decide) ?_
  refine r_iadd C (v := 2) dL_law_972 (by decide) ?_
  refine r_sld C w hX hbl hbA (v := y2) (vinD (by decide)) sx2 dL_law_973 ?_
  refine r_callV C w fv_RL_177 (c_X12_may_0 l D cy m0 m1 m2 m3 m4 m5 m6 m7 m8 m9 m10 m11 m12 m13 m14 m15 m16 m17 y1 y2 k0) (hl.1.trans hml.symm) [0, 1] [] (wr := []) ⟨rfl, rfl, rfl, rfl, by decide⟩ 0 rfl rfl rfl rfl rfl ⟨Nat.le_of_ble_eq_true rfl, Nat.le_of_ble_eq_true rfl, Nat.le_of_ble_eq_true rfl⟩ 38 29851 ⟨rfl, rfl, Nat.le_of_ble_eq_true rfl, Nat.le_of_ble_eq_true rfl⟩ dL_law_974 (fun u H locs hp w => ?_)
  have w : Wd D A s.heap [(m0, .inr (12, [.ref m1, .ref m2, .ref m3, .ref m4, .ref m5, .int 1, .ref m6, .int 0, .int 0, .int 0, .int 0, .int 0, .int 0, .int 0, .int 0, .int 0, .int 0, .int (-1), .ref m7, .ref m8, .int 0, .ref m9, .int 0, .ref m10, .ref m11, .ref m12, .ref m13, .ref m14, .int 0, .ref m15, .ref m16, .ref m17]))] _ _ := w.pick [0] rfl rfl
  refine r_top (g2 := F0 m 977 ls [.int 0]) rfl ?_
  refine lv_istore (lv' := [(6, .int 0), (5, .int 1), (0, .ref b), (1, .ref q0), (2, .ref m0), (3, .ref o0), (4, .int 0)]) C.1 C.2.1 dL_law_977 hl (by decide) rfl (fun ls hl => ?_)
  refine lv_aload_n C.1 C.2.1 dL_law_979 rfl (lv_at hl 4 rfl) ?_
  refine r_callV C w fv_RL_134 (c_X12_thrown_0 l D cy m0 m1 m2 m3 m4 m5 m6 m7 m8 m9 m10 m11 m12 m13 m14 m15 m16 m17) (hl.1.trans hml.symm) [0] [] (wr := []) ⟨rfl, rfl, rfl, rfl, by decide⟩ 0 rfl rfl rfl rfl rfl ⟨Nat.le_of_ble_eq_true rfl, Nat.le_of_ble_eq_true rfl, Nat.le_of_ble_eq_true rfl⟩ 38 29851 ⟨rfl, rfl, Nat.le_of_ble_eq_true rfl, Nat.le_of_ble_eq_true rfl⟩ dL_law_980 (fun u H locs hp w => ?_)
  have w : Wd D A s.heap [(m0, .inr (12, [.ref m1, .ref m2, .ref m3, .ref m4, .ref m5, .int 1, .ref m6, .int 0, .int 0, .int 0, .int 0, .int 0, .int 0, .int 0, .int 0, .int 0, .int 0, .int (-1), .ref m7, .ref m8, .int 0, .ref m9, .int 0, .ref m10, .ref m11, .ref m12, .ref m13, .ref m14, .int 0, .ref m15, .ref m16, .ref m17]))] _ _ := w.pick [0] rfl rfl
  refine r_top (g2 := F0 m 983 ls [.int 1]) rfl ?_
  refine lv_iload C.1 C.2.1 dL_law_983 (lv_at hl 1 rfl) ?_
  refine b_icmp_eq_t C (tgt := 990) dL_law_985 (by decide) (by decide) ?_
  refine lv_iload C.1 C.2.1 dL_law_990 (lv_at hl 1 rfl) ?_
  refine b_if_ne_t C (tgt := 1014) dL_law_992 (by decide) (by decide) ?_
  refine lv_goto (tgt := 2461) C.1 C.2.1 dL_law_1014 (by decide) ?_
  refine W.widen (k := 600002) (n := 7302232) (Nat.le_of_ble_eq_true rfl) (Nat.le_of_ble_eq_true rfl) ?_
  exact kk _ _ _ w.2.2 (lv_sub hl [2, 6] rfl)
set_option maxRecDepth 100000 in
set_option maxHeartbeats 4000000 in
theorem s_L_13_1 {p : Program} {l : Launch} {e : Env} {s : State} {m : MethodId} {args : Array Value} {below : List Frame} {meth : Method} {c : Code} {Q : State → Prop} {D : va_G} {cy : Nat → ClassId} {A : Nat → Prop} {H : Heap} {locs : List Loc} {ls : Array Slot} {xs : Nat → Int32} (b q0 q1 q2 q4 q5 q6 q10 q11 q12 q13 q14 q15 q16 q17 m0 m1 m2 m3 m4 m5 m6 m7 m8 m9 m10 m11 m12 m13 m14 m15 m16 m17 o0 : Nat) (y1 : Int32) (y2 : Int32) (k0 : ¬ y1 < 0) (sx1 : xs 1 = y1) (sx2 : xs 2 = y2) (hst : l.stackTraces = false) (C : Cx p s m args c cL_law RL D cy A) (hml : c.maxLocals = 8) (hX : va_X b 6 xs s s.heap) (hbl : b < s.heap.size) (hbA : ¬ A b) (w : Wd D A s.heap [(q0, .inr (11, [.ref q1, .int 0, .int 0, .int (-1), .ref q2, .ref q4, .ref q5, .ref q6, .ref q10, .null])), (q10, .inr (9, [.int 0, .int 2, .int 20, .int 120, .int 0, .int 0, .int 0, .int 0, .ref q11, .int 0, .ref q12, .ref q13, .int 0, .ref q14, .ref q15, .ref q16, .ref q17])), (m0, .inr (12, [.ref m1, .ref m2, .ref m3, .ref m4, .ref m5, .int 0, .ref m6, .int 0, .int 0, .int 0, .int 0, .int 0, .int 0, .int 0, .int 0, .int 0, .int 0, .int (-1), .ref m7, .ref m8, .int 0, .ref m9, .int 0, .ref m10, .ref m11, .ref m12, .ref m13, .ref m14, .int 0, .ref m15, .ref m16, .ref m17])), (m1, .inl (cy 1, 1868, .inl (upd (upd (upd (fun _ => 0) 1 2) 2 20) 3 120)))] H locs) (hl : lv_has ls 8 [(0, .ref b), (1, .ref q0), (2, .ref m0), (3, .ref o0), (4, .int 0)]) (kk : ∀ (H : Heap) (locs : List Loc) (ls : Array Slot), va_S A s.heap H locs → lv_has ls 8 [(0, .ref b), (4, .int 0)] → W p l e room_1 s m args below meth c H locs 600002 7302232 Q (F0 m 2461 ls [])) : W p l e room_1 s m args below meth c H locs 37 29845 Q (F0 m 942 ls []) := by
  refine lv_aload_n C.1 C.2.1 dL_law_942 rfl (lv_at hl 1 rfl) ?_
  refine lv_aload_n C.1 C.2.1 dL_law_943 rfl (lv_at hl 0 rfl) ?_
  refine lv_iload C.1 C.2.1 dL_law_944 (lv_at hl 4 rfl) ?_
  refine lv_iconst (v := 1) C.1 C.2.1 dL_law_946 (by decide) ?_
  refine r_iadd C (v := 1) dL_law_947 (by decide) ?_
  refine r_sld C w hX hbl hbA (v := y1) (vinD (by decide)) sx1 dL_law_948 ?_
  refine lv_aload_n C.1 C.2.1 dL_law_949 rfl (lv_at hl 0 rfl) ?_
  refine lv_iload C.1 C.2.1 dL_law_950 (lv_at hl 4 rfl) ?_
  refine lv_iconst (v := 2) C.1 C.2.1 dL_law_952 (by decide) ?_
  refine r_iadd C (v := 2) dL_law_953 (by decide) ?_
  refine r_sld C w hX hbl hbA (v := y2) (vinD (by decide)) sx2 dL_law_954 ?_
  refine lv_aload_n C.1 C.2.1 dL_law_955 rfl (lv_at hl 3 rfl) ?_
  refine r_callH C w fh_RL_175 (c_L_may_1 l D cy q0 o0 q1 q2 q4 q5 q6 q10 q11 q12 q13 q14 q15 q16 q17 y1 y2 k0 hst) (hl.1.trans hml.symm) [0, 1] [2, 3] (wr := [(m0, .inr (12, [.ref m1, .ref m2, .ref m3, .ref m4, .ref m5, .int 0, .ref m6, .int 0, .int 0, .int 0, .int 0, .int 0, .int 0, .int 0, .int 0, .int 0, .int 0, .int (-1), .ref m7, .ref m8, .int 0, .ref m9, .int 0, .ref m10, .ref m11, .ref m12, .ref m13, .ref m14, .int 0, .ref m15, .ref m16, .ref m17])), (m1, .inl (cy 1, 1868, .inl (upd (upd (upd (fun _ => 0) 1 2) 2 20) 3 120)))]) ⟨rfl, rfl, rfl, rfl, by decide⟩ rfl rfl ⟨Nat.le_of_ble_eq_true rfl, Nat.le_of_ble_eq_true rfl, Nat.le_of_ble_eq_true rfl⟩ 38 29851 ⟨rfl, rfl, Nat.le_of_ble_eq_true rfl, Nat.le_of_ble_eq_true rfl⟩ dL_law_956 (fun u H locs hp w => ?_)
  have w : Wd D A s.heap [(m0, .inr (12, [.ref m1, .ref m2, .ref m3, .ref m4, .ref m5, .int 0, .ref m6, .int 0, .int 0, .int 0, .int 0, .int 0, .int 0, .int 0, .int 0, .int 0, .int 0, .int (-1), .ref m7, .ref m8, .int 0, .ref m9, .int 0, .ref m10, .ref m11, .ref m12, .ref m13, .ref m14, .int 0, .ref m15, .ref m16, .ref m17])), (m1, .inl (cy 1, 1868, .inl (upd (upd (upd (fun _ => 0) 1 2) 2 20) 3 120)))] _ _ := w.pick [0, 1] rfl rfl
  refine r_top (g2 := F0 m 959 ls [.int 1]) rfl ?_
  refine lv_istore (lv' := [(5, .int 1), (0, .ref b), (1, .ref q0), (2, .ref m0), (3, .ref o0), (4, .int 0)]) C.1 C.2.1 dL_law_959 hl (by decide) rfl (fun ls hl => ?_)
  refine lv_aload_n C.1 C.2.1 dL_law_961 rfl (lv_at hl 3 rfl) ?_
  refine lv_aload_n C.1 C.2.1 dL_law_962 rfl (lv_at hl 1 rfl) ?_
  refine lv_iload C.1 C.2.1 dL_law_963 (lv_at hl 5 rfl) ?_
  refine lv_iconst (v := 1) C.1 C.2.1 dL_law_965 (by decide) ?_
  refine r_iadd C (v := 1) dL_law_966 (by decide) ?_
  refine r_sld C w hX hbl hbA (v := y1) (vinD (by decide)) sx1 dL_law_967 ?_
  refine lv_aload_n C.1 C.2.1 dL_law_968 rfl (lv_at hl 1 rfl) ?_
  refine lv_iload C.1 C.2.1 dL_law_969 (lv_at hl 5 rfl) ?_
  refine lv_iconst (v := 2) C.1 C.2.1 dL_law_971 (by decide) ?_
  refine r_iadd C (v := 2) dL_law_972 (by decide) ?_
  refine r_sld C w hX hbl hbA (v := y2) (vinD (by decide)) sx2 dL_law_973 ?_
  refine r_callV C w fv_RL_177 (c_X12_may_1 l D cy m0 m1 m2 m3 m4 m5 m6 m7 m8 m9 m10 m11 m12 m13 m14 m15 m16 m17 y1 y2 k0) (hl.1.trans hml.symm) [0, 1] [] (wr := []) ⟨rfl, rfl, rfl, rfl, by decide⟩ 0 rfl rfl rfl rfl rfl ⟨Nat.le_of_ble_eq_true rfl, Nat.le_of_ble_eq_true rfl, Nat.le_of_ble_eq_true rfl⟩ 38 29851 ⟨rfl, rfl, Nat.le_of_ble_eq_true rfl, Nat.le_of_ble_eq_true rfl⟩ dL_law_974 (fun u H locs hp w => ?_)
  have w : Wd D A s.heap [(m0, .inr (12, [.ref m1, .ref m2, .ref m3, .ref m4, .ref m5, .int 1, .ref m6, .int 0, .int 0, .int 0, .int 0, .int 0, .int 0, .int 0, .int 0, .int 0, .int 0, .int (-1), .ref m7, .ref m8, .int 0, .ref m9, .int 0, .ref m10, .ref m11, .ref m12, .ref m13, .ref m14, .int 0, .ref m15, .ref m16, .ref m17]))] _ _ := w.pick [0] rfl rfl
  refine r_top (g2 := F0 m 977 ls [.int 0]) rfl ?_
  refine lv_istore (lv' := [(6, .int 0), (5, .int 1), (0, .ref b), (1, .ref q0), (2, .ref m0), (3, .ref o0), (4, .int 0)]) C.1 C.2.1 dL_law_977 hl (by decide) rfl (fun ls hl => ?_)
  refine lv_aload_n C.1 C.2.1 dL_law_979 rfl (lv_at hl 4 rfl) ?_
  refine r_callV C w fv_RL_134 (c_X12_thrown_0 l D cy m0 m1 m2 m3 m4 m5 m6 m7 m8 m9 m10 m11 m12 m13 m14 m15 m16 m17) (hl.1.trans hml.symm) [0] [] (wr := []) ⟨rfl, rfl, rfl, rfl, by decide⟩ 0 rfl rfl rfl rfl rfl ⟨Nat.le_of_ble_eq_true rfl, Nat.le_of_ble_eq_true rfl, Nat.le_of_ble_eq_true rfl⟩ 38 29851 ⟨rfl, rfl, Nat.le_of_ble_eq_true rfl, Nat.le_of_ble_eq_true rfl⟩ dL_law_980 (fun u H locs hp w => ?_)
  have w : Wd D A s.heap [(m0, .inr (12, [.ref m1, .ref m2, .ref m3, .ref m4, .ref m5, .int 1, .ref m6, .int 0, .int 0, .int 0, .int 0, .int 0, .int 0, .int 0, .int 0, .int 0, .int 0, .int (-1), .ref m7, .ref m8, .int 0, .ref m9, .int 0, .ref m10, .ref m11, .ref m12, .ref m13, .ref m14, .int 0, .ref m15, .ref m16, .ref m17]))] _ _ := w.pick [0] rfl rfl
  refine r_top (g2 := F0 m 983 ls [.int 1]) rfl ?_
  refine lv_iload C.1 C.2.1 dL_law_983 (lv_at hl 1 rfl) ?_
  refine b_icmp_eq_t C (tgt := 990) dL_law_985 (by decide) (by decide) ?_
  refine lv_iload C.1 C.2.1 dL_law_990 (lv_at hl 1 rfl) ?_
  refine b_if_ne_t C (tgt := 1014) dL_law_992 (by decide) (by decide) ?_
  refine lv_goto (tgt := 2461) C.1 C.2.1 dL_law_1014 (by decide) ?_
  refine W.widen (k := 600002) (n := 7302232) (Nat.le_of_ble_eq_true rfl) (Nat.le_of_ble_eq_true rfl) ?_
  exact kk _ _ _ w.2.2 (lv_sub hl [2, 6] rfl)
set_option maxRecDepth 100000 in
set_option maxHeartbeats 4000000 in
theorem t_L_13 {p : Program} {l : Launch} {e : Env} {s : State} {m : MethodId} {args : Array Value} {below : List Frame} {meth : Method} {c : Code} {Q : State → Prop} {D : va_G} {cy : Nat → ClassId} {A : Nat → Prop} {H : Heap} {locs : List Loc} {ls : Array Slot} {xs : Nat → Int32} (b q0 q1 q2 q4 q5 q6 q10 q3 q7 q8 q9 q11 q12 q13 q14 q15 q16 q17 m0 m1 m2 m3 m4 m5 m6 m7 m8 m9 m10 m11 m12 m13 m14 m15 m16 m17 o0 : Nat) (hst : l.stackTraces = false) (C : Cx p s m args c cL_law RL D cy A) (hml : c.maxLocals = 8) (hX : va_X b 6 xs s s.heap) (hbl : b < s.heap.size) (hbA : ¬ A b) (w : Wd D A s.heap [(q0, .inr (11, [.ref q1, .int 0, .int 0, .int (-1), .ref q2, .ref q4, .ref q5, .ref q6, .ref q10, .null])), (q1, .inl (cy 0, 900, .inl (fun _ => 0))), (q2, .inr (5, [.ref q3, .int 0, .int 0, .int 0, .int 0, .int 0, .int 0, .null])), (q3, .inl (cy 0, 0, .inl (fun _ => 0))), (q4, .inl (cy 4, 5, .inr (.inr (.inr (.inr (va_up (fun _ => none) 0 (some q10))))))), (q5, .inl (cy 4, 3, .inr (.inr (.inr (.inr (fun _ => none)))))), (q6, .inr (10, [.ref q7, .ref q8, .ref q9])), (q7, .inl (cy 1, 4, .inl (upd (upd (upd (upd (fun _ => 0) 0 (-1)) 1 (-1)) 2 (-1)) 3 (-1)))), (q8, .inl (cy 1, 4, .inl (fun _ => 0))), (q9, .inl (cy 2, 160, .inr (.inl (fun _ => 0)))), (q10, .inr (9, [.int 0, .int 2, .int 20, .int 120, .int 0, .int 0, .int 0, .int 0, .ref q11, .int 0, .ref q12, .ref q13, .int 0, .ref q14, .ref q15, .ref q16, .ref q17])), (q11, .inl (cy 1, 6, .inl (fun _ => 0))), (q12, .inl (cy 1, 20, .inl (fun _ => 0))), (q13, .inl (cy 1, 20, .inl (fun _ => 0))), (q14, .inl (cy 1, 300, .inl (fun _ => 0))), (q15, .inl (cy 1, 300, .inl (fun _ => 0))), (q16, .inl (cy 1, 300, .inl (fun _ => 0))), (q17, .inl (cy 1, 300, .inl (fun _ => 0))), (m0, .inr (12, [.ref m1, .ref m2, .ref m3, .ref m4, .ref m5, .int 0, .ref m6, .int 0, .int 0, .int 0, .int 0, .int 0, .int 0, .int 0, .int 0, .int 0, .int 0, .int (-1), .ref m7, .ref m8, .int 0, .ref m9, .int 0, .ref m10, .ref m11, .ref m12, .ref m13, .ref m14, .int 0, .ref m15, .ref m16, .ref m17])), (m2, .inl (cy 1, 1868, .inl (fun _ => 0))), (m3, .inl (cy 1, 1868, .inl (fun _ => 0))), (m4, .inl (cy 1, 5604, .inl (fun _ => 0))), (m5, .inl (cy 3, 3, .inl (fun _ => 0))), (m6, .inl (cy 1, 900, .inl (fun _ => 0))), (m7, .inl (cy 1, 1830, .inl (fun _ => 0))), (m8, .inl (cy 1, 1830, .inl (fun _ => 0))), (m9, .inl (cy 2, 2465, .inr (.inl (fun _ => 0)))), (m10, .inl (cy 1, 7201, .inl (fun _ => 0))), (m11, .inl (cy 1, 1830, .inl (fun _ => 0))), (m12, .inl (cy 1, 5, .inl (fun _ => 0))), (m13, .inl (cy 1, 6, .inl (fun _ => 0))), (m14, .inl (cy 1, 6, .inl (fun _ => 0))), (m15, .inl (cy 1, 4, .inl (upd (upd (upd (upd (fun _ => 0) 0 (-1)) 1 (-1)) 2 (-1)) 3 (-1)))), (m16, .inl (cy 1, 4, .inl (fun _ => 0))), (m17, .inl (cy 2, 160, .inr (.inl (fun _ => 0)))), (m1, .inl (cy 1, 1868, .inl (upd (upd (upd (fun _ => 0) 1 2) 2 20) 3 120))), (o0, .inl (cy 2, 1, .inr (.inl (fun _ => 0))))] H locs) (hl : lv_has ls 8 [(0, .ref b), (1, .ref q0), (2, .ref m0), (3, .ref o0), (4, .int 0)]) (kk : ∀ (H : Heap) (locs : List Loc) (ls : Array Slot), va_S A s.heap H locs → lv_has ls 8 [(0, .ref b), (4, .int 0)] → W p l e room_1 s m args below meth c H locs 600002 7302232 Q (F0 m 2461 ls [])) : W p l e room_1 s m args below meth c H locs 37 29845 Q (F0 m 942 ls []) := by
  obtain ⟨y1, sx1⟩ : ∃ y, xs 1 = y := ⟨_, rfl⟩
  obtain ⟨y2, sx2⟩ : ∃ y, xs 2 = y := ⟨_, rfl⟩
  obtain ⟨y3, sx3⟩ : ∃ y, xs 3 = y := ⟨_, rfl⟩
  obtain ⟨y4, sx4⟩ : ∃ y, xs 4 = y := ⟨_, rfl⟩
  obtain ⟨y5, sx5⟩ : ∃ y, xs 5 = y := ⟨_, rfl⟩
  by_cases g1 : y1 < 0
  · exact s_L_13_0 b q0 q1 q2 q4 q5 q6 q10 m0 m1 m2 m3 m4 m5 m6 m7 m8 m9 m10 m11 m12 m13 m14 m15 m16 m17 o0 y1 y2 g1 sx1 sx2 hst C hml hX hbl hbA (w.pick [0, 18, 35] rfl rfl) hl kk
  · exact s_L_13_1 b q0 q1 q2 q4 q5 q6 q10 q11 q12 q13 q14 q15 q16 q17 m0 m1 m2 m3 m4 m5 m6 m7 m8 m9 m10 m11 m12 m13 m14 m15 m16 m17 o0 y1 y2 g1 sx1 sx2 hst C hml hX hbl hbA (w.pick [0, 10, 18, 35] rfl rfl) hl kk
theorem dL_law_1017 : decode cL_law 1017 = .ok (.aload_n 1, 1) := by decide +kernel
theorem dL_law_1018 : decode cL_law 1018 = .ok (.aload_n 0, 1) := by decide +kernel
theorem dL_law_1019 : decode cL_law 1019 = .ok (.iload 4, 2) := by decide +kernel
theorem dL_law_1021 : decode cL_law 1021 = .ok (.iconst 1, 1) := by decide +kernel
theorem dL_law_1022 : decode cL_law 1022 = .ok (.iadd, 1) := by decide +kernel
theorem dL_law_1023 : decode cL_law 1023 = .ok (.iaload, 1) := by decide +kernel
theorem dL_law_1024 : decode cL_law 1024 = .ok (.aload_n 3, 1) := by decide +kernel
theorem dL_law_1025 : decode cL_law 1025 = .ok (.invokestatic 178, 3) := by decide +kernel
theorem fh_RL_178 : FH RL 178 yL_judge cL_judge 4 (some .int) [(0, 9, 12, 19)] 3 := ⟨⟨gw_mem (by decide +kernel) (by decide +kernel), gw_mem (by decide +kernel) (by decide +kernel), gw_mem (by decide +kernel) (by decide +kernel), gw_mem (by decide +kernel) (by decide +kernel)⟩, ⟨by decide +kernel, by decide +kernel, by decide +kernel⟩⟩
theorem dL_law_1028 : decode cL_law 1028 = .ok (.istore 5, 2) := by decide +kernel
theorem dL_law_1030 : decode cL_law 1030 = .ok (.aload_n 2, 1) := by decide +kernel
theorem dL_law_1031 : decode cL_law 1031 = .ok (.aload_n 0, 1) := by decide +kernel
theorem dL_law_1032 : decode cL_law 1032 = .ok (.iload 4, 2) := by decide +kernel
theorem dL_law_1034 : decode cL_law 1034 = .ok (.iconst 1, 1) := by decide +kernel
theorem dL_law_1035 : decode cL_law 1035 = .ok (.iadd, 1) := by decide +kernel
theorem dL_law_1036 : decode cL_law 1036 = .ok (.iaload, 1) := by decide +kernel
theorem dL_law_1037 : decode cL_law 1037 = .ok (.invokevirtual 180, 3) := by decide +kernel
theorem fv_RL_180 : FV RL 180 yX12_judge cX12_judge 3 (some .int) 1 := ⟨⟨gw_mem (by decide +kernel) (by decide +kernel), gw_mem (by decide +kernel) (by decide +kernel), gw_mem (by decide +kernel) (by decide +kernel), gw_mem (by decide +kernel) (by decide +kernel), gw_mem (by decide +kernel) (by decide +kernel)⟩, ⟨by decide +kernel, by decide +kernel, by decide +kernel⟩⟩
theorem dL_law_1040 : decode cL_law 1040 = .ok (.istore 6, 2) := by decide +kernel
theorem dL_law_1042 : decode cL_law 1042 = .ok (.aload_n 2, 1) := by decide +kernel
theorem dL_law_1043 : decode cL_law 1043 = .ok (.invokevirtual 134, 3) := by decide +kernel
theorem dL_law_1046 : decode cL_law 1046 = .ok (.iload 5, 2) := by decide +kernel
theorem dL_law_1048 : decode cL_law 1048 = .ok (.if_icmp .eq 5, 3) := by decide +kernel
theorem dL_law_1053 : decode cL_law 1053 = .ok (.iload 5, 2) := by decide +kernel
theorem dL_law_1055 : decode cL_law 1055 = .ok (.ifCond .ne 15, 3) := by decide +kernel
theorem dL_law_1070 : decode cL_law 1070 = .ok (.goto 1391, 3) := by decide +kernel
set_option maxRecDepth 100000 in
set_option maxHeartbeats 4000000 in
theorem s_L_14_0 {p : Program} {l : Launch} {e : Env} {s : State} {m : MethodId} {args : Array Value} {below : List Frame} {meth : Method} {c : Code} {Q : State → Prop} {D : va_G} {cy : Nat → ClassId} {A : Nat → Prop} {H : Heap} {locs : List Loc} {ls : Array Slot} {xs : Nat → Int32} (b q0 q1 q2 q4 q5 q6 q10 m0 m1 m2 m3 m4 m5 m6 m7 m8 m9 m10 m11 m12 m13 m14 m15 m16 m17 o0 : Nat) (y1 : Int32) (k0 : y1 < 0) (sx1 : xs 1 = y1) (hst : l.stackTraces = false) (C : Cx p s m args c cL_law RL D cy A) (hml : c.maxLocals = 8) (hX : va_X b 6 xs s s.heap) (hbl : b < s.heap.size) (hbA : ¬ A b) (w : Wd D A s.heap [(q0, .inr (11, [.ref q1, .int 0, .int 0, .int (-1), .ref q2, .ref q4, .ref q5, .ref q6, .ref q10, .null])), (m0, .inr (12, [.ref m1, .ref m2, .ref m3, .ref m4, .ref m5, .int 0, .ref m6, .int 0, .int 0, .int 0, .int 0, .int 0, .int 0, .int 0, .int 0, .int 0, .int 0, .int (-1), .ref m7, .ref m8, .int 0, .ref m9, .int 0, .ref m10, .ref m11, .ref m12, .ref m13, .ref m14, .int 0, .ref m15, .ref m16, .ref m17])), (m7, .inl (cy 1, 1830, .inl (fun _ => 0))), (m8, .inl (cy 1, 1830, .inl (fun _ => 0))), (m1, .inl (cy 1, 1868, .inl (upd (upd (upd (fun _ => 0) 1 2) 2 20) 3 120)))] H locs) (hl : lv_has ls 8 [(0, .ref b), (1, .ref q0), (2, .ref m0), (3, .ref o0), (4, .int 0)]) (kk : ∀ (H : Heap) (locs : List Loc) (ls : Array Slot), va_S A s.heap H locs → lv_has ls 8 [(0, .ref b), (4, .int 0)] → W p l e room_1 s m args below meth c H locs 600002 7302232 Q (F0 m 2461 ls [])) : W p l e room_1 s m args below meth c H locs 37 29845 Q (F0 m 1017 ls []) := by
  refine lv_aload_n C.1 C.2.1 dL_law_1017 rfl (lv_at hl 1 rfl) ?_
  refine lv_aload_n C.1 C.2.1 dL_law_1018 rfl (lv_at hl 0 rfl) ?_
  refine lv_iload C.1 C.2.1 dL_law_1019 (lv_at hl 4 rfl) ?_
  refine lv_iconst (v := 1) C.1 C.2.1 dL_law_1021 (by decide) ?_
  refine r_iadd C (v := 1) dL_law_1022 (by decide) ?_
  refine r_sld C w hX hbl hbA (v := y1) (vinD (by decide)) sx1 dL_law_1023 ?_
  refine lv_aload_n C.1 C.2.1 dL_law_1024 rfl (lv_at hl 3 rfl) ?_
  refine r_callH C w fh_RL_178 (c_L_judge_0 l D cy q0 o0 q1 q2 q4 q5 q6 q10 y1 k0 hst) (hl.1.trans hml.symm) [0] [1, 2, 3, 4] (wr := [(m0, .inr (12, [.ref m1, .ref m2, .ref m3, .ref m4, .ref m5, .int 0, .ref m6, .int 0, .int 0, .int 0, .int 0, .int 0, .int 0, .int 0, .int 0, .int 0, .int 0, .int (-1), .ref m7, .ref m8, .int 0, .ref m9, .int 0, .ref m10, .ref m11, .ref m12, .ref m13, .ref m14, .int 0, .ref m15, .ref m16, .ref m17])), (m7, .inl (cy 1, 1830, .inl (fun _ => 0))), (m8, .inl (cy 1, 1830, .inl (fun _ => 0))), (m1, .inl (cy 1, 1868, .inl (upd (upd (upd (fun _ => 0) 1 2) 2 20) 3 120)))]) ⟨rfl, rfl, rfl, rfl, by decide⟩ rfl rfl ⟨Nat.le_of_ble_eq_true rfl, Nat.le_of_ble_eq_true rfl, Nat.le_of_ble_eq_true rfl⟩ 38 29851 ⟨rfl, rfl, Nat.le_of_ble_eq_true rfl, Nat.le_of_ble_eq_true rfl⟩ dL_law_1025 (fun u H locs hp w => ?_)
  have w : Wd D A s.heap [(m0, .inr (12, [.ref m1, .ref m2, .ref m3, .ref m4, .ref m5, .int 0, .ref m6, .int 0, .int 0, .int 0, .int 0, .int 0, .int 0, .int 0, .int 0, .int 0, .int 0, .int (-1), .ref m7, .ref m8, .int 0, .ref m9, .int 0, .ref m10, .ref m11, .ref m12, .ref m13, .ref m14, .int 0, .ref m15, .ref m16, .ref m17])), (m7, .inl (cy 1, 1830, .inl (fun _ => 0))), (m8, .inl (cy 1, 1830, .inl (fun _ => 0))), (m1, .inl (cy 1, 1868, .inl (upd (upd (upd (fun _ => 0) 1 2) 2 20) 3 120)))] _ _ := w.pick [0, 1, 2, 3] rfl rfl
  refine r_top (g2 := F0 m 1028 ls [.int 1]) rfl ?_
  refine lv_istore (lv' := [(5, .int 1), (0, .ref b), (1, .ref q0), (2, .ref m0), (3, .ref o0), (4, .int 0)]) C.1 C.2.1 dL_law_1028 hl (by decide) rfl (fun ls hl => ?_)
  refine lv_aload_n C.1 C.2.1 dL_law_1030 rfl (lv_at hl 3 rfl) ?_
  refine lv_aload_n C.1 C.2.1 dL_law_1031 rfl (lv_at hl 1 rfl) ?_
  refine lv_iload C.1 C.2.1 dL_law_1032 (lv_at hl 5 rfl) ?_
  refine lv_iconst (v := 1) C.1 C.2.1 dL_law_1034 (by decide) ?_
  refine r_iadd C (v := 1) dL_law_1035 (by decide) ?_
  refine r_sld C w hX hbl hbA (v := y1) (vinD (by decide)) sx1 dL_law_1036 ?_
  refine r_callV C w fv_RL_180 (c_X12_judge_0 l D cy m0 m1 m2 m3 m4 m5 m6 m7 m8 m9 m10 m11 m12 m13 m14 m15 m16 m17 y1 k0) (hl.1.trans hml.symm) [0, 3, 1, 2] [] (wr := []) ⟨rfl, rfl, rfl, rfl, by decide⟩ 0 rfl rfl rfl rfl rfl ⟨Nat.le_of_ble_eq_true rfl, Nat.le_of_ble_eq_true rfl, Nat.le_of_ble_eq_true rfl⟩ 38 29851 ⟨rfl, rfl, Nat.le_of_ble_eq_true rfl, Nat.le_of_ble_eq_true rfl⟩ dL_law_1037 (fun u H locs hp w => ?_)
  have w : Wd D A s.heap [(m0, .inr (12, [.ref m1, .ref m2, .ref m3, .ref m4, .ref m5, .int 1, .ref m6, .int 0, .int 0, .int 0, .int 0, .int 0, .int 0, .int 0, .int 0, .int 0, .int 0, .int (-1), .ref m7, .ref m8, .int 190, .ref m9, .int 0, .ref m10, .ref m11, .ref m12, .ref m13, .ref m14, .int 0, .ref m15, .ref m16, .ref m17]))] _ _ := w.pick [3] rfl rfl
  refine r_top (g2 := F0 m 1040 ls [.int 0]) rfl ?_
  refine lv_istore (lv' := [(6, .int 0), (5, .int 1), (0, .ref b), (1, .ref q0), (2, .ref m0), (3, .ref o0), (4, .int 0)]) C.1 C.2.1 dL_law_1040 hl (by decide) rfl (fun ls hl => ?_)
  refine lv_aload_n C.1 C.2.1 dL_law_1042 rfl (lv_at hl 4 rfl) ?_
  refine r_callV C w fv_RL_134 (c_X12_thrown_2 l D cy m0 m1 m2 m3 m4 m5 m6 m7 m8 m9 m10 m11 m12 m13 m14 m15 m16 m17) (hl.1.trans hml.symm) [0] [] (wr := []) ⟨rfl, rfl, rfl, rfl, by decide⟩ 0 rfl rfl rfl rfl rfl ⟨Nat.le_of_ble_eq_true rfl, Nat.le_of_ble_eq_true rfl, Nat.le_of_ble_eq_true rfl⟩ 38 29851 ⟨rfl, rfl, Nat.le_of_ble_eq_true rfl, Nat.le_of_ble_eq_true rfl⟩ dL_law_1043 (fun u H locs hp w => ?_)
  have w : Wd D A s.heap [(m0, .inr (12, [.ref m1, .ref m2, .ref m3, .ref m4, .ref m5, .int 1, .ref m6, .int 0, .int 0, .int 0, .int 0, .int 0, .int 0, .int 0, .int 0, .int 0, .int 0, .int (-1), .ref m7, .ref m8, .int 190, .ref m9, .int 0, .ref m10, .ref m11, .ref m12, .ref m13, .ref m14, .int 0, .ref m15, .ref m16, .ref m17]))] _ _ := w.pick [0] rfl rfl
  refine r_top (g2 := F0 m 1046 ls [.int 1]) rfl ?_
  refine lv_iload C.1 C.2.1 dL_law_1046 (lv_at hl 1 rfl) ?_
  refine b_icmp_eq_t C (tgt := 1053) dL_law_1048 (by decide) (by decide) ?_
  refine lv_iload C.1 C.2.1 dL_law_1053 (lv_at hl 1 rfl) ?_
  refine b_if_ne_t C (tgt := 1070) dL_law_1055 (by decide) (by decide) ?_
  refine lv_goto (tgt := 2461) C.1 C.2.1 dL_law_1070 (by decide) ?_
  refine W.widen (k := 600002) (n := 7302232) (Nat.le_of_ble_eq_true rfl) (Nat.le_of_ble_eq_true rfl) ?_
  exact kk _ _ _ w.2.2 (lv_sub hl [2, 6] rfl)
set_option maxRecDepth 100000 in
set_option maxHeartbeats 4000000 in
theorem s_L_14_1 {p : Program} {l : Launch} {e : Env} {s : State} {m : MethodId} {args : Array Value} {below : List Frame} {meth : Method} {c : Code} {Q : State → Prop} {D : va_G} {cy : Nat → ClassId} {A : Nat → Prop} {H : Heap} {locs : List Loc} {ls : Array Slot} {xs : Nat → Int32} (b q0 q1 q2 q4 q5 q6 q10 q11 q12 q13 q14 q15 q16 q17 m0 m1 m2 m3 m4 m5 m6 m7 m8 m9 m10 m11 m12 m13 m14 m15 m16 m17 o0 : Nat) (y1 : Int32) (k0 : ¬ y1 < 0) (k1 : ¬ y1 < 190) (sx1 : xs 1 = y1) (hst : l.stackTraces = false) (C : Cx p s m args c cL_law RL D cy A) (hml : c.maxLocals = 8) (hX : va_X b 6 xs s s.heap) (hbl : b < s.heap.size) (hbA : ¬ A b) (w : Wd D A s.heap [(q0, .inr (11, [.ref q1, .int 0, .int 0, .int (-1), .ref q2, .ref q4, .ref q5, .ref q6, .ref q10, .null])), (q10, .inr (9, [.int 0, .int 2, .int 20, .int 120, .int 0, .int 0, .int 0, .int 0, .ref q11, .int 0, .ref q12, .ref q13, .int 0, .ref q14, .ref q15, .ref q16, .ref q17])), (m0, .inr (12, [.ref m1, .ref m2, .ref m3, .ref m4, .ref m5, .int 0, .ref m6, .int 0, .int 0, .int 0, .int 0, .int 0, .int 0, .int 0, .int 0, .int 0, .int 0, .int (-1), .ref m7, .ref m8, .int 0, .ref m9, .int 0, .ref m10, .ref m11, .ref m12, .ref m13, .ref m14, .int 0, .ref m15, .ref m16, .ref m17])), (m7, .inl (cy 1, 1830, .inl (fun _ => 0))), (m8, .inl (cy 1, 1830, .inl (fun _ => 0))), (m1, .inl (cy 1, 1868, .inl (upd (upd (upd (fun _ => 0) 1 2) 2 20) 3 120)))] H locs) (hl : lv_has ls 8 [(0, .ref b), (1, .ref q0), (2, .ref m0), (3, .ref o0), (4, .int 0)]) (kk : ∀ (H : Heap) (locs : List Loc) (ls : Array Slot), va_S A s.heap H locs → lv_has ls 8 [(0, .ref b), (4, .int 0)] → W p l e room_1 s m args below meth c H locs 600002 7302232 Q (F0 m 2461 ls [])) : W p l e room_1 s m args below meth c H locs 37 29845 Q (F0 m 1017 ls []) := by
  refine lv_aload_n C.1 C.2.1 dL_law_1017 rfl (lv_at hl 1 rfl) ?_
  refine lv_aload_n C.1 C.2.1 dL_law_1018 rfl (lv_at hl 0 rfl) ?_
  refine lv_iload C.1 C.2.1 dL_law_1019 (lv_at hl 4 rfl) ?_
  refine lv_iconst (v := 1) C.1 C.2.1 dL_law_1021 (by decide) ?_
  refine r_iadd C (v := 1) dL_law_1022 (by decide) ?_
  refine r_sld C w hX hbl hbA (v := y1) (vinD (by decide)) sx1 dL_law_1023 ?_
  refine lv_aload_n C.1 C.2.1 dL_law_1024 rfl (lv_at hl 3 rfl) ?_
  refine r_callH C w fh_RL_178 (c_L_judge_1 l D cy q0 o0 q1 q2 q4 q5 q6 q10 q11 q12 q13 q14 q15 q16 q17 y1 k0 k1 hst) (hl.1.trans hml.symm) [0, 1] [2, 3, 4, 5] (wr := [(m0, .inr (12, [.ref m1, .ref m2, .ref m3, .ref m4, .ref m5, .int 0, .ref m6, .int 0, .int 0, .int 0, .int 0, .int 0, .int 0, .int 0, .int 0, .int 0, .int 0, .int (-1), .ref m7, .ref m8, .int 0, .ref m9, .int 0, .ref m10, .ref m11, .ref m12, .ref m13, .ref m14, .int 0, .ref m15, .ref m16, .ref m17])), (m7, .inl (cy 1, 1830, .inl (fun _ => 0))), (m8, .inl (cy 1, 1830, .inl (fun _ => 0))), (m1, .inl (cy 1, 1868, .inl (upd (upd (upd (fun _ => 0) 1 2) 2 20) 3 120)))]) ⟨rfl, rfl, rfl, rfl, by decide⟩ rfl rfl ⟨Nat.le_of_ble_eq_true rfl, Nat.le_of_ble_eq_true rfl, Nat.le_of_ble_eq_true rfl⟩ 74 53668 ⟨rfl, rfl, Nat.le_of_ble_eq_true rfl, Nat.le_of_ble_eq_true rfl⟩ dL_law_1025 (fun u H locs hp w => ?_)
  have w : Wd D A s.heap [(m0, .inr (12, [.ref m1, .ref m2, .ref m3, .ref m4, .ref m5, .int 0, .ref m6, .int 0, .int 0, .int 0, .int 0, .int 0, .int 0, .int 0, .int 0, .int 0, .int 0, .int (-1), .ref m7, .ref m8, .int 0, .ref m9, .int 0, .ref m10, .ref m11, .ref m12, .ref m13, .ref m14, .int 0, .ref m15, .ref m16, .ref m17])), (m7, .inl (cy 1, 1830, .inl (fun _ => 0))), (m8, .inl (cy 1, 1830, .inl (fun _ => 0))), (m1, .inl (cy 1, 1868, .inl (upd (upd (upd (fun _ => 0) 1 2) 2 20) 3 120)))] _ _ := w.pick [0, 1, 2, 3] rfl rfl
  refine r_top (g2 := F0 m 1028 ls [.int 1]) rfl ?_
  refine lv_istore (lv' := [(5, .int 1), (0, .ref b), (1, .ref q0), (2, .ref m0), (3, .ref o0), (4, .int 0)]) C.1 C.2.1 dL_law_1028 hl (by decide) rfl (fun ls hl => ?_)
  refine lv_aload_n C.1 C.2.1 dL_law_1030 rfl (lv_at hl 3 rfl) ?_
  refine lv_aload_n C.1 C.2.1 dL_law_1031 rfl (lv_at hl 1 rfl) ?_
  refine lv_iload C.1 C.2.1 dL_law_1032 (lv_at hl 5 rfl) ?_
  refine lv_iconst (v := 1) C.1 C.2.1 dL_law_1034 (by decide) ?_
  refine r_iadd C (v := 1) dL_law_1035 (by decide) ?_
  refine r_sld C w hX hbl hbA (v := y1) (vinD (by decide)) sx1 dL_law_1036 ?_
  refine r_callV C w fv_RL_180 (c_X12_judge_1 l D cy m0 m1 m2 m3 m4 m5 m6 m7 m8 m9 m10 m11 m12 m13 m14 m15 m16 m17 y1 k0 (by have h0 := (i_nlt k0); have h1 := (i_nlt k1); have e0 : (0 : Int32).toInt = 0 := (by decide); have e1 : (189 : Int32).toInt = 189 := (by decide); have e2 : (190 : Int32).toInt = 190 := (by decide); rw [fa_lt]; omega)) (hl.1.trans hml.symm) [0, 3, 1, 2] [] (wr := []) ⟨rfl, rfl, rfl, rfl, by decide⟩ 0 rfl rfl rfl rfl rfl ⟨Nat.le_of_ble_eq_true rfl, Nat.le_of_ble_eq_true rfl, Nat.le_of_ble_eq_true rfl⟩ 74 53668 ⟨rfl, rfl, Nat.le_of_ble_eq_true rfl, Nat.le_of_ble_eq_true rfl⟩ dL_law_1037 (fun u H locs hp w => ?_)
  have w : Wd D A s.heap [(m0, .inr (12, [.ref m1, .ref m2, .ref m3, .ref m4, .ref m5, .int 1, .ref m6, .int 0, .int 0, .int 0, .int 0, .int 0, .int 0, .int 0, .int 0, .int 0, .int 0, .int (-1), .ref m7, .ref m8, .int 190, .ref m9, .int 0, .ref m10, .ref m11, .ref m12, .ref m13, .ref m14, .int 0, .ref m15, .ref m16, .ref m17]))] _ _ := w.pick [3] rfl rfl
  refine r_top (g2 := F0 m 1040 ls [.int 0]) rfl ?_
  refine lv_istore (lv' := [(6, .int 0), (5, .int 1), (0, .ref b), (1, .ref q0), (2, .ref m0), (3, .ref o0), (4, .int 0)]) C.1 C.2.1 dL_law_1040 hl (by decide) rfl (fun ls hl => ?_)
  refine lv_aload_n C.1 C.2.1 dL_law_1042 rfl (lv_at hl 4 rfl) ?_
  refine r_callV C w fv_RL_134 (c_X12_thrown_2 l D cy m0 m1 m2 m3 m4 m5 m6 m7 m8 m9 m10 m11 m12 m13 m14 m15 m16 m17) (hl.1.trans hml.symm) [0] [] (wr := []) ⟨rfl, rfl, rfl, rfl, by decide⟩ 0 rfl rfl rfl rfl rfl ⟨Nat.le_of_ble_eq_true rfl, Nat.le_of_ble_eq_true rfl, Nat.le_of_ble_eq_true rfl⟩ 74 53668 ⟨rfl, rfl, Nat.le_of_ble_eq_true rfl, Nat.le_of_ble_eq_true rfl⟩ dL_law_1043 (fun u H locs hp w => ?_)
  have w : Wd D A s.heap [(m0, .inr (12, [.ref m1, .ref m2, .ref m3, .ref m4, .ref m5, .int 1, .ref m6, .int 0, .int 0, .int 0, .int 0, .int 0, .int 0, .int 0, .int 0, .int 0, .int 0, .int (-1), .ref m7, .ref m8, .int 190, .ref m9, .int 0, .ref m10, .ref m11, .ref m12, .ref m13, .ref m14, .int 0, .ref m15, .ref m16, .ref m17]))] _ _ := w.pick [0] rfl rfl
  refine r_top (g2 := F0 m 1046 ls [.int 1]) rfl ?_
  refine lv_iload C.1 C.2.1 dL_law_1046 (lv_at hl 1 rfl) ?_
  refine b_icmp_eq_t C (tgt := 1053) dL_law_1048 (by decide) (by decide) ?_
  refine lv_iload C.1 C.2.1 dL_law_1053 (lv_at hl 1 rfl) ?_
  refine b_if_ne_t C (tgt := 1070) dL_law_1055 (by decide) (by decide) ?_
  refine lv_goto (tgt := 2461) C.1 C.2.1 dL_law_1070 (by decide) ?_
  refine W.widen (k := 600002) (n := 7302232) (Nat.le_of_ble_eq_true rfl) (Nat.le_of_ble_eq_true rfl) ?_
  exact kk _ _ _ w.2.2 (lv_sub hl [2, 6] rfl)
theorem dL_law_1058 : decode cL_law 1058 = .ok (.aload_n 3, 1) := by decide +kernel
theorem dL_law_1059 : decode cL_law 1059 = .ok (.iconst 0, 1) := by decide +kernel
theorem dL_law_1060 : decode cL_law 1060 = .ok (.laload, 1) := by decide +kernel
theorem dL_law_1061 : decode cL_law 1061 = .ok (.iload 6, 2) := by decide +kernel
theorem dL_law_1063 : decode cL_law 1063 = .ok (.i2l, 1) := by decide +kernel
theorem dL_law_1064 : decode cL_law 1064 = .ok (.lcmp, 1) := by decide +kernel
theorem dL_law_1065 : decode cL_law 1065 = .ok (.ifCond .eq 5, 3) := by decide +kernel
set_option maxRecDepth 100000 in
set_option maxHeartbeats 4000000 in
theorem s_L_14_2 {p : Program} {l : Launch} {e : Env} {s : State} {m : MethodId} {args : Array Value} {below : List Frame} {meth : Method} {c : Code} {Q : State → Prop} {D : va_G} {cy : Nat → ClassId} {A : Nat → Prop} {H : Heap} {locs : List Loc} {ls : Array Slot} {xs : Nat → Int32} (b q0 q1 q2 q4 q5 q6 q10 q11 q12 q13 q14 q15 q16 q17 m0 m1 m2 m3 m4 m5 m6 m7 m8 m9 m10 m11 m12 m13 m14 m15 m16 m17 o0 : Nat) (y1 : Int32) (k0 : ¬ y1 < 0) (k1 : y1 < 190) (sx1 : xs 1 = y1) (C : Cx p s m args c cL_law RL D cy A) (hml : c.maxLocals = 8) (hX : va_X b 6 xs s s.heap) (hbl : b < s.heap.size) (hbA : ¬ A b) (w : Wd D A s.heap [(q0, .inr (11, [.ref q1, .int 0, .int 0, .int (-1), .ref q2, .ref q4, .ref q5, .ref q6, .ref q10, .null])), (q10, .inr (9, [.int 0, .int 2, .int 20, .int 120, .int 0, .int 0, .int 0, .int 0, .ref q11, .int 0, .ref q12, .ref q13, .int 0, .ref q14, .ref q15, .ref q16, .ref q17])), (m0, .inr (12, [.ref m1, .ref m2, .ref m3, .ref m4, .ref m5, .int 0, .ref m6, .int 0, .int 0, .int 0, .int 0, .int 0, .int 0, .int 0, .int 0, .int 0, .int 0, .int (-1), .ref m7, .ref m8, .int 0, .ref m9, .int 0, .ref m10, .ref m11, .ref m12, .ref m13, .ref m14, .int 0, .ref m15, .ref m16, .ref m17])), (m7, .inl (cy 1, 1830, .inl (fun _ => 0))), (m8, .inl (cy 1, 1830, .inl (fun _ => 0))), (m9, .inl (cy 2, 2465, .inr (.inl (fun _ => 0)))), (m1, .inl (cy 1, 1868, .inl (upd (upd (upd (fun _ => 0) 1 2) 2 20) 3 120))), (o0, .inl (cy 2, 1, .inr (.inl (fun _ => 0))))] H locs) (hl : lv_has ls 8 [(0, .ref b), (1, .ref q0), (2, .ref m0), (3, .ref o0), (4, .int 0)]) (kk : ∀ (H : Heap) (locs : List Loc) (ls : Array Slot), va_S A s.heap H locs → lv_has ls 8 [(0, .ref b), (4, .int 0)] → W p l e room_1 s m args below meth c H locs 600002 7302232 Q (F0 m 2461 ls [])) : W p l e room_1 s m args below meth c H locs 37 29845 Q (F0 m 1017 ls []) := by
  refine lv_aload_n C.1 C.2.1 dL_law_1017 rfl (lv_at hl 1 rfl) ?_
  refine lv_aload_n C.1 C.2.1 dL_law_1018 rfl (lv_at hl 0 rfl) ?_
  refine lv_iload C.1 C.2.1 dL_law_1019 (lv_at hl 4 rfl) ?_
  refine lv_iconst (v := 1) C.1 C.2.1 dL_law_1021 (by decide) ?_
  refine r_iadd C (v := 1) dL_law_1022 (by decide) ?_
  refine r_sld C w hX hbl hbA (v := y1) (vinD (by decide)) sx1 dL_law_1023 ?_
  refine lv_aload_n C.1 C.2.1 dL_law_1024 rfl (lv_at hl 3 rfl) ?_
  refine r_callH C w fh_RL_178 (c_L_judge_2 l D cy q0 o0 q1 q2 q4 q5 q6 q10 q11 q12 q13 q14 q15 q16 q17 y1 k0 k1) (hl.1.trans hml.symm) [0, 1, 7] [2, 3, 4, 5, 6] (wr := [(m0, .inr (12, [.ref m1, .ref m2, .ref m3, .ref m4, .ref m5, .int 0, .ref m6, .int 0, .int 0, .int 0, .int 0, .int 0, .int 0, .int 0, .int 0, .int 0, .int 0, .int (-1), .ref m7, .ref m8, .int 0, .ref m9, .int 0, .ref m10, .ref m11, .ref m12, .ref m13, .ref m14, .int 0, .ref m15, .ref m16, .ref m17])), (m7, .inl (cy 1, 1830, .inl (fun _ => 0))), (m8, .inl (cy 1, 1830, .inl (fun _ => 0))), (m9, .inl (cy 2, 2465, .inr (.inl (fun _ => 0)))), (m1, .inl (cy 1, 1868, .inl (upd (upd (upd (fun _ => 0) 1 2) 2 20) 3 120)))]) ⟨rfl, rfl, rfl, rfl, by decide⟩ rfl rfl ⟨Nat.le_of_ble_eq_true rfl, Nat.le_of_ble_eq_true rfl, Nat.le_of_ble_eq_true rfl⟩ 73 53662 ⟨rfl, rfl, Nat.le_of_ble_eq_true rfl, Nat.le_of_ble_eq_true rfl⟩ dL_law_1025 (fun u H locs hp w => ?_)
  obtain ⟨n1, n2, n3, n4, n5, n6, n7, n8, n9, n10, n11, n12, n13, n14, n15, n16, n17, n18, n19, n20, n21, n22, n23, n24, n25, n26, n27, n28, n29, n30, n31, n32, n33, n34, n35, n36⟩ := u
  have w : Wd D A s.heap [(m0, .inr (12, [.ref m1, .ref m2, .ref m3, .ref m4, .ref m5, .int 0, .ref m6, .int 0, .int 0, .int 0, .int 0, .int 0, .int 0, .int 0, .int 0, .int 0, .int 0, .int (-1), .ref m7, .ref m8, .int 0, .ref m9, .int 0, .ref m10, .ref m11, .ref m12, .ref m13, .ref m14, .int 0, .ref m15, .ref m16, .ref m17])), (m7, .inl (cy 1, 1830, .inl (fun _ => 0))), (m8, .inl (cy 1, 1830, .inl (fun _ => 0))), (m9, .inl (cy 2, 2465, .inr (.inl (fun _ => 0)))), (m1, .inl (cy 1, 1868, .inl (upd (upd (upd (fun _ => 0) 1 2) 2 20) 3 120))), (o0, .inl (cy 2, 1, .inr (.inl (vp_updL (fun _ => 0) 0 (-1)))))] _ _ := w.pick [0, 1, 2, 3, 4, 5] rfl rfl
  refine r_top (g2 := F0 m 1028 ls [.int 0]) rfl ?_
  refine lv_istore (lv' := [(5, .int 0), (0, .ref b), (1, .ref q0), (2, .ref m0), (3, .ref o0), (4, .int 0)]) C.1 C.2.1 dL_law_1028 hl (by decide) rfl (fun ls hl => ?_)
  refine lv_aload_n C.1 C.2.1 dL_law_1030 rfl (lv_at hl 3 rfl) ?_
  refine lv_aload_n C.1 C.2.1 dL_law_1031 rfl (lv_at hl 1 rfl) ?_
  refine lv_iload C.1 C.2.1 dL_law_1032 (lv_at hl 5 rfl) ?_
  refine lv_iconst (v := 1) C.1 C.2.1 dL_law_1034 (by decide) ?_
  refine r_iadd C (v := 1) dL_law_1035 (by decide) ?_
  refine r_sld C w hX hbl hbA (v := y1) (vinD (by decide)) sx1 dL_law_1036 ?_
  refine r_callV C w fv_RL_180 (c_X12_judge_2 l D cy m0 m1 m2 m3 m4 m5 m6 m7 m8 m9 m10 m11 m12 m13 m14 m15 m16 m17 y1 k0 (by have h0 := (i_nlt k0); have h1 := (i_lt k1); have e0 : (0 : Int32).toInt = 0 := (by decide); have e1 : (189 : Int32).toInt = 189 := (by decide); have e2 : (190 : Int32).toInt = 190 := (by decide); rw [fa_lt]; omega)) (hl.1.trans hml.symm) [0, 4, 1, 2, 3] [5] (wr := [(o0, .inl (cy 2, 1, .inr (.inl (vp_updL (fun _ => 0) 0 (-1)))))]) ⟨rfl, rfl, rfl, rfl, by decide⟩ 0 rfl rfl rfl rfl rfl ⟨Nat.le_of_ble_eq_true rfl, Nat.le_of_ble_eq_true rfl, Nat.le_of_ble_eq_true rfl⟩ 73 53662 ⟨rfl, rfl, Nat.le_of_ble_eq_true rfl, Nat.le_of_ble_eq_true rfl⟩ dL_law_1037 (fun u H locs hp w => ?_)
  have w : Wd D A s.heap [(o0, .inl (cy 2, 1, .inr (.inl (vp_updL (fun _ => 0) 0 (-1))))), (m0, .inr (12, [.ref m1, .ref m2, .ref m3, .ref m4, .ref m5, .int 0, .ref m6, .int 0, .int 0, .int 0, .int 0, .int 0, .int 0, .int 0, .int 0, .int 0, .int 0, .int (-1), .ref m7, .ref m8, .int 190, .ref m9, .int 21, .ref m10, .ref m11, .ref m12, .ref m13, .ref m14, .int 0, .ref m15, .ref m16, .ref m17]))] _ _ := w.pick [0, 4] rfl rfl
  refine r_top (g2 := F0 m 1040 ls [.int (-1)]) rfl ?_
  refine lv_istore (lv' := [(6, .int (-1)), (5, .int 0), (0, .ref b), (1, .ref q0), (2, .ref m0), (3, .ref o0), (4, .int 0)]) C.1 C.2.1 dL_law_1040 hl (by decide) rfl (fun ls hl => ?_)
  refine lv_aload_n C.1 C.2.1 dL_law_1042 rfl (lv_at hl 4 rfl) ?_
  refine r_callV C w fv_RL_134 (c_X12_thrown_5 l D cy m0 m1 m2 m3 m4 m5 m6 m7 m8 m9 m10 m11 m12 m13 m14 m15 m16 m17) (hl.1.trans hml.symm) [1] [0] (wr := [(o0, .inl (cy 2, 1, .inr (.inl (vp_updL (fun _ => 0) 0 (-1)))))]) ⟨rfl, rfl, rfl, rfl, by decide⟩ 0 rfl rfl rfl rfl rfl ⟨Nat.le_of_ble_eq_true rfl, Nat.le_of_ble_eq_true rfl, Nat.le_of_ble_eq_true rfl⟩ 73 53662 ⟨rfl, rfl, Nat.le_of_ble_eq_true rfl, Nat.le_of_ble_eq_true rfl⟩ dL_law_1043 (fun u H locs hp w => ?_)
  have w : Wd D A s.heap [(o0, .inl (cy 2, 1, .inr (.inl (vp_updL (fun _ => 0) 0 (-1))))), (m0, .inr (12, [.ref m1, .ref m2, .ref m3, .ref m4, .ref m5, .int 0, .ref m6, .int 0, .int 0, .int 0, .int 0, .int 0, .int 0, .int 0, .int 0, .int 0, .int 0, .int (-1), .ref m7, .ref m8, .int 190, .ref m9, .int 21, .ref m10, .ref m11, .ref m12, .ref m13, .ref m14, .int 0, .ref m15, .ref m16, .ref m17]))] _ _ := w.pick [0, 1] rfl rfl
  refine r_top (g2 := F0 m 1046 ls [.int 0]) rfl ?_
  refine lv_iload C.1 C.2.1 dL_law_1046 (lv_at hl 1 rfl) ?_
  refine b_icmp_eq_t C (tgt := 1053) dL_law_1048 (by decide) (by decide) ?_
  refine lv_iload C.1 C.2.1 dL_law_1053 (lv_at hl 1 rfl) ?_
  refine b_if_ne_f C (tgt := 1070) dL_law_1055 (by decide) (by decide) ?_
  refine lv_aload_n C.1 C.2.1 dL_law_1058 rfl (lv_at hl 5 rfl) ?_
  refine lv_iconst (v := 0) C.1 C.2.1 dL_law_1059 (by decide) ?_
  refine r_lald C w 0 rfl (v := (-1)) (vinD (by decide)) rfl dL_law_1060 ?_
  refine lv_iload C.1 C.2.1 dL_law_1061 (lv_at hl 0 rfl) ?_
  refine lv_i2l (v := (-1)) C.1 C.2.1 dL_law_1063 (by decide) ?_
  refine r_lcmp C (v := 0) dL_law_1064 (by decide) ?_
  refine b_if_eq_t C (tgt := 1070) dL_law_1065 (by decide) (by decide) ?_
  refine lv_goto (tgt := 2461) C.1 C.2.1 dL_law_1070 (by decide) ?_
  refine W.widen (k := 600002) (n := 7302232) (Nat.le_of_ble_eq_true rfl) (Nat.le_of_ble_eq_true rfl) ?_
  exact kk _ _ _ w.2.2 (lv_sub hl [2, 6] rfl)
set_option maxRecDepth 100000 in
set_option maxHeartbeats 4000000 in
theorem t_L_14 {p : Program} {l : Launch} {e : Env} {s : State} {m : MethodId} {args : Array Value} {below : List Frame} {meth : Method} {c : Code} {Q : State → Prop} {D : va_G} {cy : Nat → ClassId} {A : Nat → Prop} {H : Heap} {locs : List Loc} {ls : Array Slot} {xs : Nat → Int32} (b q0 q1 q2 q4 q5 q6 q10 q3 q7 q8 q9 q11 q12 q13 q14 q15 q16 q17 m0 m1 m2 m3 m4 m5 m6 m7 m8 m9 m10 m11 m12 m13 m14 m15 m16 m17 o0 : Nat) (hst : l.stackTraces = false) (C : Cx p s m args c cL_law RL D cy A) (hml : c.maxLocals = 8) (hX : va_X b 6 xs s s.heap) (hbl : b < s.heap.size) (hbA : ¬ A b) (w : Wd D A s.heap [(q0, .inr (11, [.ref q1, .int 0, .int 0, .int (-1), .ref q2, .ref q4, .ref q5, .ref q6, .ref q10, .null])), (q1, .inl (cy 0, 900, .inl (fun _ => 0))), (q2, .inr (5, [.ref q3, .int 0, .int 0, .int 0, .int 0, .int 0, .int 0, .null])), (q3, .inl (cy 0, 0, .inl (fun _ => 0))), (q4, .inl (cy 4, 5, .inr (.inr (.inr (.inr (va_up (fun _ => none) 0 (some q10))))))), (q5, .inl (cy 4, 3, .inr (.inr (.inr (.inr (fun _ => none)))))), (q6, .inr (10, [.ref q7, .ref q8, .ref q9])), (q7, .inl (cy 1, 4, .inl (upd (upd (upd (upd (fun _ => 0) 0 (-1)) 1 (-1)) 2 (-1)) 3 (-1)))), (q8, .inl (cy 1, 4, .inl (fun _ => 0))), (q9, .inl (cy 2, 160, .inr (.inl (fun _ => 0)))), (q10, .inr (9, [.int 0, .int 2, .int 20, .int 120, .int 0, .int 0, .int 0, .int 0, .ref q11, .int 0, .ref q12, .ref q13, .int 0, .ref q14, .ref q15, .ref q16, .ref q17])), (q11, .inl (cy 1, 6, .inl (fun _ => 0))), (q12, .inl (cy 1, 20, .inl (fun _ => 0))), (q13, .inl (cy 1, 20, .inl (fun _ => 0))), (q14, .inl (cy 1, 300, .inl (fun _ => 0))), (q15, .inl (cy 1, 300, .inl (fun _ => 0))), (q16, .inl (cy 1, 300, .inl (fun _ => 0))), (q17, .inl (cy 1, 300, .inl (fun _ => 0))), (m0, .inr (12, [.ref m1, .ref m2, .ref m3, .ref m4, .ref m5, .int 0, .ref m6, .int 0, .int 0, .int 0, .int 0, .int 0, .int 0, .int 0, .int 0, .int 0, .int 0, .int (-1), .ref m7, .ref m8, .int 0, .ref m9, .int 0, .ref m10, .ref m11, .ref m12, .ref m13, .ref m14, .int 0, .ref m15, .ref m16, .ref m17])), (m2, .inl (cy 1, 1868, .inl (fun _ => 0))), (m3, .inl (cy 1, 1868, .inl (fun _ => 0))), (m4, .inl (cy 1, 5604, .inl (fun _ => 0))), (m5, .inl (cy 3, 3, .inl (fun _ => 0))), (m6, .inl (cy 1, 900, .inl (fun _ => 0))), (m7, .inl (cy 1, 1830, .inl (fun _ => 0))), (m8, .inl (cy 1, 1830, .inl (fun _ => 0))), (m9, .inl (cy 2, 2465, .inr (.inl (fun _ => 0)))), (m10, .inl (cy 1, 7201, .inl (fun _ => 0))), (m11, .inl (cy 1, 1830, .inl (fun _ => 0))), (m12, .inl (cy 1, 5, .inl (fun _ => 0))), (m13, .inl (cy 1, 6, .inl (fun _ => 0))), (m14, .inl (cy 1, 6, .inl (fun _ => 0))), (m15, .inl (cy 1, 4, .inl (upd (upd (upd (upd (fun _ => 0) 0 (-1)) 1 (-1)) 2 (-1)) 3 (-1)))), (m16, .inl (cy 1, 4, .inl (fun _ => 0))), (m17, .inl (cy 2, 160, .inr (.inl (fun _ => 0)))), (m1, .inl (cy 1, 1868, .inl (upd (upd (upd (fun _ => 0) 1 2) 2 20) 3 120))), (o0, .inl (cy 2, 1, .inr (.inl (fun _ => 0))))] H locs) (hl : lv_has ls 8 [(0, .ref b), (1, .ref q0), (2, .ref m0), (3, .ref o0), (4, .int 0)]) (kk : ∀ (H : Heap) (locs : List Loc) (ls : Array Slot), va_S A s.heap H locs → lv_has ls 8 [(0, .ref b), (4, .int 0)] → W p l e room_1 s m args below meth c H locs 600002 7302232 Q (F0 m 2461 ls [])) : W p l e room_1 s m args below meth c H locs 37 29845 Q (F0 m 1017 ls []) := by
  obtain ⟨y1, sx1⟩ : ∃ y, xs 1 = y := ⟨_, rfl⟩
  obtain ⟨y2, sx2⟩ : ∃ y, xs 2 = y := ⟨_, rfl⟩
  obtain ⟨y3, sx3⟩ : ∃ y, xs 3 = y := ⟨_, rfl⟩
  obtain ⟨y4, sx4⟩ : ∃ y, xs 4 = y := ⟨_, rfl⟩
  obtain ⟨y5, sx5⟩ : ∃ y, xs 5 = y := ⟨_, rfl⟩
  by_cases g1 : y1 < 0
  · exact s_L_14_0 b q0 q1 q2 q4 q5 q6 q10 m0 m1 m2 m3 m4 m5 m6 m7 m8 m9 m10 m11 m12 m13 m14 m15 m16 m17 o0 y1 g1 sx1 hst C hml hX hbl hbA (w.pick [0, 18, 24, 25, 35] rfl rfl) hl kk
  · by_cases g2 : y1 < 190
    · exact s_L_14_2 b q0 q1 q2 q4 q5 q6 q10 q11 q12 q13 q14 q15 q16 q17 m0 m1 m2 m3 m4 m5 m6 m7 m8 m9 m10 m11 m12 m13 m14 m15 m16 m17 o0 y1 g1 g2 sx1 C hml hX hbl hbA (w.pick [0, 10, 18, 24, 25, 26, 35, 36] rfl rfl) hl kk
    · exact s_L_14_1 b q0 q1 q2 q4 q5 q6 q10 q11 q12 q13 q14 q15 q16 q17 m0 m1 m2 m3 m4 m5 m6 m7 m8 m9 m10 m11 m12 m13 m14 m15 m16 m17 o0 y1 g1 g2 sx1 hst C hml hX hbl hbA (w.pick [0, 10, 18, 24, 25, 35] rfl rfl) hl kk
theorem dL_law_1073 : decode cL_law 1073 = .ok (.aload_n 1, 1) := by decide +kernel
theorem dL_law_1074 : decode cL_law 1074 = .ok (.aload_n 0, 1) := by decide +kernel
theorem dL_law_1075 : decode cL_law 1075 = .ok (.iload 4, 2) := by decide +kernel
theorem dL_law_1077 : decode cL_law 1077 = .ok (.iconst 1, 1) := by decide +kernel
theorem dL_law_1078 : decode cL_law 1078 = .ok (.iadd, 1) := by decide +kernel
theorem dL_law_1079 : decode cL_law 1079 = .ok (.iaload, 1) := by decide +kernel
theorem dL_law_1080 : decode cL_law 1080 = .ok (.aload_n 0, 1) := by decide +kernel
theorem dL_law_1081 : decode cL_law 1081 = .ok (.iload 4, 2) := by decide +kernel
theorem dL_law_1083 : decode cL_law 1083 = .ok (.iconst 2, 1) := by decide +kernel
theorem dL_law_1084 : decode cL_law 1084 = .ok (.iadd, 1) := by decide +kernel
theorem dL_law_1085 : decode cL_law 1085 = .ok (.iaload, 1) := by decide +kernel
theorem dL_law_1086 : decode cL_law 1086 = .ok (.aload_n 0, 1) := by decide +kernel
theorem dL_law_1087 : decode cL_law 1087 = .ok (.iload 4, 2) := by decide +kernel
theorem dL_law_1089 : decode cL_law 1089 = .ok (.iconst 3, 1) := by decide +kernel
theorem dL_law_1090 : decode cL_law 1090 = .ok (.iadd, 1) := by decide +kernel
theorem dL_law_1091 : decode cL_law 1091 = .ok (.iaload, 1) := by decide +kernel
theorem dL_law_1092 : decode cL_law 1092 = .ok (.aload_n 3, 1) := by decide +kernel
theorem dL_law_1093 : decode cL_law 1093 = .ok (.invokestatic 181, 3) := by decide +kernel
theorem fh_RL_181 : FH RL 181 yL_knows cL_knows 6 (some .int) [(0, 19, 22, 19), (0, 19, 26, 13)] 5 := ⟨⟨gw_mem (by decide +kernel) (by decide +kernel), gw_mem (by decide +kernel) (by decide +kernel), gw_mem (by decide +kernel) (by decide +kernel), gw_mem (by decide +kernel) (by decide +kernel)⟩, ⟨by decide +kernel, by decide +kernel, by decide +kernel⟩⟩
theorem dL_law_1096 : decode cL_law 1096 = .ok (.istore 5, 2) := by decide +kernel
theorem dL_law_1098 : decode cL_law 1098 = .ok (.aload_n 2, 1) := by decide +kernel
theorem dL_law_1099 : decode cL_law 1099 = .ok (.aload_n 0, 1) := by decide +kernel
theorem dL_law_1100 : decode cL_law 1100 = .ok (.iload 4, 2) := by decide +kernel
theorem dL_law_1102 : decode cL_law 1102 = .ok (.iconst 1, 1) := by decide +kernel
theorem dL_law_1103 : decode cL_law 1103 = .ok (.iadd, 1) := by decide +kernel
theorem dL_law_1104 : decode cL_law 1104 = .ok (.iaload, 1) := by decide +kernel
theorem dL_law_1105 : decode cL_law 1105 = .ok (.aload_n 0, 1) := by decide +kernel
theorem dL_law_1106 : decode cL_law 1106 = .ok (.iload 4, 2) := by decide +kernel
theorem dL_law_1108 : decode cL_law 1108 = .ok (.iconst 2, 1) := by decide +kernel
theorem dL_law_1109 : decode cL_law 1109 = .ok (.iadd, 1) := by decide +kernel
theorem dL_law_1110 : decode cL_law 1110 = .ok (.iaload, 1) := by decide +kernel
theorem dL_law_1111 : decode cL_law 1111 = .ok (.aload_n 0, 1) := by decide +kernel
theorem dL_law_1112 : decode cL_law 1112 = .ok (.iload 4, 2) := by decide +kernel
theorem dL_law_1114 : decode cL_law 1114 = .ok (.iconst 3, 1) := by decide +kernel
theorem dL_law_1115 : decode cL_law 1115 = .ok (.iadd, 1) := by decide +kernel
theorem dL_law_1116 : decode cL_law 1116 = .ok (.iaload, 1) := by decide +kernel
theorem dL_law_1117 : decode cL_law 1117 = .ok (.invokevirtual 184, 3) := by decide +kernel
theorem fv_RL_184 : FV RL 184 yX12_knows cX12_knows 5 (some .boolean) 3 := ⟨⟨gw_mem (by decide +kernel) (by decide +kernel), gw_mem (by decide +kernel) (by decide +kernel), gw_mem (by decide +kernel) (by decide +kernel), gw_mem (by decide +kernel) (by decide +kernel), gw_mem (by decide +kernel) (by decide +kernel)⟩, ⟨by decide +kernel, by decide +kernel, by decide +kernel⟩⟩
theorem dL_law_1120 : decode cL_law 1120 = .ok (.istore 6, 2) := by decide +kernel
theorem dL_law_1122 : decode cL_law 1122 = .ok (.aload_n 2, 1) := by decide +kernel
theorem dL_law_1123 : decode cL_law 1123 = .ok (.invokevirtual 134, 3) := by decide +kernel
theorem dL_law_1126 : decode cL_law 1126 = .ok (.iload 5, 2) := by decide +kernel
theorem dL_law_1128 : decode cL_law 1128 = .ok (.if_icmp .eq 5, 3) := by decide +kernel
theorem dL_law_1133 : decode cL_law 1133 = .ok (.iload 5, 2) := by decide +kernel
theorem dL_law_1135 : decode cL_law 1135 = .ok (.ifCond .ne 22, 3) := by decide +kernel
theorem dL_law_1157 : decode cL_law 1157 = .ok (.goto 1304, 3) := by decide +kernel
set_option maxRecDepth 100000 in
set_option maxHeartbeats 4000000 in
theorem s_L_15_0 {p : Program} {l : Launch} {e : Env} {s : State} {m : MethodId} {args : Array Value} {below : List Frame} {meth : Method} {c : Code} {Q : State → Prop} {D : va_G} {cy : Nat → ClassId} {A : Nat → Prop} {H : Heap} {locs : List Loc} {ls : Array Slot} {xs : Nat → Int32} (b q0 q1 q2 q4 q5 q6 q10 m0 m1 m2 m3 m4 m5 m6 m7 m8 m9 m10 m11 m12 m13 m14 m15 m16 m17 o0 : Nat) (y1 : Int32) (y2 : Int32) (y3 : Int32) (k0 : y1 < 0) (sx1 : xs 1 = y1) (sx2 : xs 2 = y2) (sx3 : xs 3 = y3) (hst : l.stackTraces = false) (C : Cx p s m args c cL_law RL D cy A) (hml : c.maxLocals = 8) (hX : va_X b 6 xs s s.heap) (hbl : b < s.heap.size) (hbA : ¬ A b) (w : Wd D A s.heap [(q0, .inr (11, [.ref q1, .int 0, .int 0, .int (-1), .ref q2, .ref q4, .ref q5, .ref q6, .ref q10, .null])), (m0, .inr (12, [.ref m1, .ref m2, .ref m3, .ref m4, .ref m5, .int 0, .ref m6, .int 0, .int 0, .int 0, .int 0, .int 0, .int 0, .int 0, .int 0, .int 0, .int 0, .int (-1), .ref m7, .ref m8, .int 0, .ref m9, .int 0, .ref m10, .ref m11, .ref m12, .ref m13, .ref m14, .int 0, .ref m15, .ref m16, .ref m17])), (m1, .inl (cy 1, 1868, .inl (upd (upd (upd (fun _ => 0) 1 2) 2 20) 3 120)))] H locs) (hl : lv_has ls 8 [(0, .ref b), (1, .ref q0), (2, .ref m0), (3, .ref o0), (4, .int 0)]) (kk : ∀ (H : Heap) (locs : List Loc) (ls : Array Slot), va_S A s.heap H locs → lv_has ls 8 [(0, .ref b), (4, .int 0)] → W p l e room_1 s m args below meth c H locs 600002 7302232 Q (F0 m 2461 ls [])) : W p l e room_1 s m args below meth c H locs 37 29845 Q (F0 m 1073 ls []) := by
  refine lv_aload_n C.1 C.2.1 dL_law_1073 rfl (lv_at hl 1 rfl) ?_
  refine lv_aload_n C.1 C.2.1 dL_law_1074 rfl (lv_at hl 0 rfl) ?_
  refine lv_iload C.1 C.2.1 dL_law_1075 (lv_at hl 4 rfl) ?_
  refine lv_iconst (v := 1) C.1 C.2.1 dL_law_1077 (by decide) ?_
  refine r_iadd C (v := 1) dL_law_1078 (by decide) ?_
  refine r_sld C w hX hbl hbA (v := y1) (vinD (by decide)) sx1 dL_law_1079 ?_
  refine lv_aload_n C.1 C.2.1 dL_law_1080 rfl (lv_at hl 0 rfl) ?_
  refine lv_iload C.1 C.2.1 dL_law_1081 (lv_at hl 4 rfl) ?_
  refine lv_iconst (v := 2) C.1 C.2.1 dL_law_1083 (by decide) ?_
  refine r_iadd C (v := 2) dL_law_1084 (by decide) ?_
  refine r_sld C w hX hbl hbA (v := y2) (vinD (by decide)) sx2 dL_law_1085 ?_
  refine lv_aload_n C.1 C.2.1 dL_law_1086 rfl (lv_at hl 0 rfl) ?_
  refine lv_iload C.1 C.2.1 dL_law_1087 (lv_at hl 4 rfl) ?_
  refine lv_iconst (v := 3) C.1 C.2.1 dL_law_1089 (by decide) ?_
  refine r_iadd C (v := 3) dL_law_1090 (by decide) ?_
  refine r_sld C w hX hbl hbA (v := y3) (vinD (by decide)) sx3 dL_law_1091 ?_
  refine lv_aload_n C.1 C.2.1 dL_law_1092 rfl (lv_at hl 3 rfl) ?_
  refine r_callH C w fh_RL_181 (c_L_knows_0 l D cy q0 o0 q1 q2 q4 q5 q6 q10 y1 y2 y3 k0 hst) (hl.1.trans hml.symm) [0] [1, 2] (wr := [(m0, .inr (12, [.ref m1, .ref m2, .ref m3, .ref m4, .ref m5, .int 0, .ref m6, .int 0, .int 0, .int 0, .int 0, .int 0, .int 0, .int 0, .int 0, .int 0, .int 0, .int (-1), .ref m7, .ref m8, .int 0, .ref m9, .int 0, .ref m10, .ref m11, .ref m12, .ref m13, .ref m14, .int 0, .ref m15, .ref m16, .ref m17])), (m1, .inl (cy 1, 1868, .inl (upd (upd (upd (fun _ => 0) 1 2) 2 20) 3 120)))]) ⟨rfl, rfl, rfl, rfl, by decide⟩ rfl rfl ⟨Nat.le_of_ble_eq_true rfl, Nat.le_of_ble_eq_true rfl, Nat.le_of_ble_eq_true rfl⟩ 38 29851 ⟨rfl, rfl, Nat.le_of_ble_eq_true rfl, Nat.le_of_ble_eq_true rfl⟩ dL_law_1093 (fun u H locs hp w => ?_)
  have w : Wd D A s.heap [(m0, .inr (12, [.ref m1, .ref m2, .ref m3, .ref m4, .ref m5, .int 0, .ref m6, .int 0, .int 0, .int 0, .int 0, .int 0, .int 0, .int 0, .int 0, .int 0, .int 0, .int (-1), .ref m7, .ref m8, .int 0, .ref m9, .int 0, .ref m10, .ref m11, .ref m12, .ref m13, .ref m14, .int 0, .ref m15, .ref m16, .ref m17])), (m1, .inl (cy 1, 1868, .inl (upd (upd (upd (fun _ => 0) 1 2) 2 20) 3 120)))] _ _ := w.pick [0, 1] rfl rfl
  refine r_top (g2 := F0 m 1096 ls [.int 1]) rfl ?_
  refine lv_istore (lv' := [(5, .int 1), (0, .ref b), (1, .ref q0), (2, .ref m0), (3, .ref o0), (4, .int 0)]) C.1 C.2.1 dL_law_1096 hl (by decide) rfl (fun ls hl => ?_)
  refine lv_aload_n C.1 C.2.1 dL_law_1098 rfl (lv_at hl 3 rfl) ?_
  refine lv_aload_n C.1 C.2.1 dL_law_1099 rfl (lv_at hl 1 rfl) ?_
  refine lv_iload C.1 C.2.1 dL_law_1100 (lv_at hl 5 rfl) ?_
  refine lv_iconst (v := 1) C.1 C.2.1 dL_law_1102 (by decide) ?_
  refine r_iadd C (v := 1) dL_law_1103 (by decide) ?_
  refine r_sld C w hX hbl hbA (v := y1) (vinD (by decide)) sx1 dL_law_1104 ?_
  refine lv_aload_n C.1 C.2.1 dL_law_1105 rfl (lv_at hl 1 rfl) ?_
  refine lv_iload C.1 C.2.1 dL_law_1106 (lv_at hl 5 rfl) ?_
  refine lv_iconst (v := 2) C.1 C.2.1 dL_law_1108 (by decide) ?_
  refine r_iadd C (v := 2) dL_law_1109 (by decide) ?_
  refine r_sld C w hX hbl hbA (v := y2) (vinD (by decide)) sx2 dL_law_1110 ?_
  refine lv_aload_n C.1 C.2.1 dL_law_1111 rfl (lv_at hl 1 rfl) ?_
  refine lv_iload C.1 C.2.1 dL_law_1112 (lv_at hl 5 rfl) ?_
  refine lv_iconst (v := 3) C.1 C.2.1 dL_law_1114 (by decide) ?_
  refine r_iadd C (v := 3) dL_law_1115 (by decide) ?_
  refine r_sld C w hX hbl hbA (v := y3) (vinD (by decide)) sx3 dL_law_1116 ?_
  refine r_callV C w fv_RL_184 (c_X12_knows_0 l D cy m0 m1 m2 m3 m4 m5 m6 m7 m8 m9 m10 m11 m12 m13 m14 m15 m16 m17 y1 y2 y3 k0) (hl.1.trans hml.symm) [0, 1] [] (wr := []) ⟨rfl, rfl, rfl, rfl, by decide⟩ 0 rfl rfl rfl rfl rfl ⟨Nat.le_of_ble_eq_true rfl, Nat.le_of_ble_eq_true rfl, Nat.le_of_ble_eq_true rfl⟩ 38 29851 ⟨rfl, rfl, Nat.le_of_ble_eq_true rfl, Nat.le_of_ble_eq_true rfl⟩ dL_law_1117 (fun u H locs hp w => ?_)
  have w : Wd D A s.heap [(m0, .inr (12, [.ref m1, .ref m2, .ref m3, .ref m4, .ref m5, .int 1, .ref m6, .int 0, .int 0, .int 0, .int 0, .int 0, .int 0, .int 0, .int 0, .int 0, .int 0, .int (-1), .ref m7, .ref m8, .int 0, .ref m9, .int 0, .ref m10, .ref m11, .ref m12, .ref m13, .ref m14, .int 0, .ref m15, .ref m16, .ref m17]))] _ _ := w.pick [0] rfl rfl
  refine r_top (g2 := F0 m 1120 ls [.int 0]) rfl ?_
  refine lv_istore (lv' := [(6, .int 0), (5, .int 1), (0, .ref b), (1, .ref q0), (2, .ref m0), (3, .ref o0), (4, .int 0)]) C.1 C.2.1 dL_law_1120 hl (by decide) rfl (fun ls hl => ?_)
  refine lv_aload_n C.1 C.2.1 dL_law_1122 rfl (lv_at hl 4 rfl) ?_
  refine r_callV C w fv_RL_134 (c_X12_thrown_0 l D cy m0 m1 m2 m3 m4 m5 m6 m7 m8 m9 m10 m11 m12 m13 m14 m15 m16 m17) (hl.1.trans hml.symm) [0] [] (wr := []) ⟨rfl, rfl, rfl, rfl, by decide⟩ 0 rfl rfl rfl rfl rfl ⟨Nat.le_of_ble_eq_true rfl, Nat.le_of_ble_eq_true rfl, Nat.le_of_ble_eq_true rfl⟩ 38 29851 ⟨rfl, rfl, Nat.le_of_ble_eq_true rfl, Nat.le_of_ble_eq_true rfl⟩ dL_law_1123 (fun u H locs hp w => ?_)
  have w : Wd D A s.heap [(m0, .inr (12, [.ref m1, .ref m2, .ref m3, .ref m4, .ref m5, .int 1, .ref m6, .int 0, .int 0, .int 0, .int 0, .int 0, .int 0, .int 0, .int 0, .int 0, .int 0, .int (-1), .ref m7, .ref m8, .int 0, .ref m9, .int 0, .ref m10, .ref m11, .ref m12, .ref m13, .ref m14, .int 0, .ref m15, .ref m16, .ref m17]))] _ _ := w.pick [0] rfl rfl
  refine r_top (g2 := F0 m 1126 ls [.int 1]) rfl ?_
  refine lv_iload C.1 C.2.1 dL_law_1126 (lv_at hl 1 rfl) ?_
  refine b_icmp_eq_t C (tgt := 1133) dL_law_1128 (by decide) (by decide) ?_
  refine lv_iload C.1 C.2.1 dL_law_1133 (lv_at hl 1 rfl) ?_
  refine b_if_ne_t C (tgt := 1157) dL_law_1135 (by decide) (by decide) ?_
  refine lv_goto (tgt := 2461) C.1 C.2.1 dL_law_1157 (by decide) ?_
  refine W.widen (k := 600002) (n := 7302232) (Nat.le_of_ble_eq_true rfl) (Nat.le_of_ble_eq_true rfl) ?_
  exact kk _ _ _ w.2.2 (lv_sub hl [2, 6] rfl)
set_option maxRecDepth 100000 in
set_option maxHeartbeats 4000000 in
theorem s_L_15_1 {p : Program} {l : Launch} {e : Env} {s : State} {m : MethodId} {args : Array Value} {below : List Frame} {meth : Method} {c : Code} {Q : State → Prop} {D : va_G} {cy : Nat → ClassId} {A : Nat → Prop} {H : Heap} {locs : List Loc} {ls : Array Slot} {xs : Nat → Int32} (b q0 q1 q2 q4 q5 q6 q10 q11 q12 q13 q14 q15 q16 q17 m0 m1 m2 m3 m4 m5 m6 m7 m8 m9 m10 m11 m12 m13 m14 m15 m16 m17 o0 : Nat) (y1 : Int32) (y2 : Int32) (y3 : Int32) (k0 : ¬ y1 < 0) (sx1 : xs 1 = y1) (sx2 : xs 2 = y2) (sx3 : xs 3 = y3) (hst : l.stackTraces = false) (C : Cx p s m args c cL_law RL D cy A) (hml : c.maxLocals = 8) (hX : va_X b 6 xs s s.heap) (hbl : b < s.heap.size) (hbA : ¬ A b) (w : Wd D A s.heap [(q0, .inr (11, [.ref q1, .int 0, .int 0, .int (-1), .ref q2, .ref q4, .ref q5, .ref q6, .ref q10, .null])), (q10, .inr (9, [.int 0, .int 2, .int 20, .int 120, .int 0, .int 0, .int 0, .int 0, .ref q11, .int 0, .ref q12, .ref q13, .int 0, .ref q14, .ref q15, .ref q16, .ref q17])), (m0, .inr (12, [.ref m1, .ref m2, .ref m3, .ref m4, .ref m5, .int 0, .ref m6, .int 0, .int 0, .int 0, .int 0, .int 0, .int 0, .int 0, .int 0, .int 0, .int 0, .int (-1), .ref m7, .ref m8, .int 0, .ref m9, .int 0, .ref m10, .ref m11, .ref m12, .ref m13, .ref m14, .int 0, .ref m15, .ref m16, .ref m17])), (m1, .inl (cy 1, 1868, .inl (upd (upd (upd (fun _ => 0) 1 2) 2 20) 3 120)))] H locs) (hl : lv_has ls 8 [(0, .ref b), (1, .ref q0), (2, .ref m0), (3, .ref o0), (4, .int 0)]) (kk : ∀ (H : Heap) (locs : List Loc) (ls : Array Slot), va_S A s.heap H locs → lv_has ls 8 [(0, .ref b), (4, .int 0)] → W p l e room_1 s m args below meth c H locs 600002 7302232 Q (F0 m 2461 ls [])) : W p l e room_1 s m args below meth c H locs 37 29845 Q (F0 m 1073 ls []) := by
  refine lv_aload_n C.1 C.2.1 dL_law_1073 rfl (lv_at hl 1 rfl) ?_
  refine lv_aload_n C.1 C.2.1 dL_law_1074 rfl (lv_at hl 0 rfl) ?_
  refine lv_iload C.1 C.2.1 dL_law_1075 (lv_at hl 4 rfl) ?_
  refine lv_iconst (v := 1) C.1 C.2.1 dL_law_1077 (by decide) ?_
  refine r_iadd C (v := 1) dL_law_1078 (by decide) ?_
  refine r_sld C w hX hbl hbA (v := y1) (vinD (by decide)) sx1 dL_law_1079 ?_
  refine lv_aload_n C.1 C.2.1 dL_law_1080 rfl (lv_at hl 0 rfl) ?_
  refine lv_iload C.1 C.2.1 dL_law_1081 (lv_at hl 4 rfl) ?_
  refine lv_iconst (v := 2) C.1 C.2.1 dL_law_1083 (by decide) ?_
  refine r_iadd C (v := 2) dL_law_1084 (by decide) ?_
  refine r_sld C w hX hbl hbA (v := y2) (vinD (by decide)) sx2 dL_law_1085 ?_
  refine lv_aload_n C.1 C.2.1 dL_law_1086 rfl (lv_at hl 0 rfl) ?_
  refine lv_iload C.1 C.2.1 dL_law_1087 (lv_at hl 4 rfl) ?_
  refine lv_iconst (v := 3) C.1 C.2.1 dL_law_1089 (by decide) ?_
  refine r_iadd C (v := 3) dL_law_1090 (by decide) ?_
  refine r_sld C w hX hbl hbA (v := y3) (vinD (by decide)) sx3 dL_law_1091 ?_
  refine lv_aload_n C.1 C.2.1 dL_law_1092 rfl (lv_at hl 3 rfl) ?_
  refine r_callH C w fh_RL_181 (c_L_knows_1 l D cy q0 o0 q1 q2 q4 q5 q6 q10 q11 q12 q13 q14 q15 q16 q17 y1 y2 y3 k0 hst) (hl.1.trans hml.symm) [0, 1] [2, 3] (wr := [(m0, .inr (12, [.ref m1, .ref m2, .ref m3, .ref m4, .ref m5, .int 0, .ref m6, .int 0, .int 0, .int 0, .int 0, .int 0, .int 0, .int 0, .int 0, .int 0, .int 0, .int (-1), .ref m7, .ref m8, .int 0, .ref m9, .int 0, .ref m10, .ref m11, .ref m12, .ref m13, .ref m14, .int 0, .ref m15, .ref m16, .ref m17])), (m1, .inl (cy 1, 1868, .inl (upd (upd (upd (fun _ => 0) 1 2) 2 20) 3 120)))]) ⟨rfl, rfl, rfl, rfl, by decide⟩ rfl rfl ⟨Nat.le_of_ble_eq_true rfl, Nat.le_of_ble_eq_true rfl, Nat.le_of_ble_eq_true rfl⟩ 38 29851 ⟨rfl, rfl, Nat.le_of_ble_eq_true rfl, Nat.le_of_ble_eq_true rfl⟩ dL_law_1093 (fun u H locs hp w => ?_)
  have w : Wd D A s.heap [(m0, .inr (12, [.ref m1, .ref m2, .ref m3, .ref m4, .ref m5, .int 0, .ref m6, .int 0, .int 0, .int 0, .int 0, .int 0, .int 0, .int 0, .int 0, .int 0, .int 0, .int (-1), .ref m7, .ref m8, .int 0, .ref m9, .int 0, .ref m10, .ref m11, .ref m12, .ref m13, .ref m14, .int 0, .ref m15, .ref m16, .ref m17])), (m1, .inl (cy 1, 1868, .inl (upd (upd (upd (fun _ => 0) 1 2) 2 20) 3 120)))] _ _ := w.pick [0, 1] rfl rfl
  refine r_top (g2 := F0 m 1096 ls [.int 1]) rfl ?_
  refine lv_istore (lv' := [(5, .int 1), (0, .ref b), (1, .ref q0), (2, .ref m0), (3, .ref o0), (4, .int 0)]) C.1 C.2.1 dL_law_1096 hl (by decide) rfl (fun ls hl => ?_)
  refine lv_aload_n C.1 C.2.1 dL_law_1098 rfl (lv_at hl 3 rfl) ?_
  refine lv_aload_n C.1 C.2.1 dL_law_1099 rfl (lv_at hl 1 rfl) ?_
  refine lv_iload C.1 C.2.1 dL_law_1100 (lv_at hl 5 rfl) ?_
  refine lv_iconst (v := 1) C.1 C.2.1 dL_law_1102 (by decide) ?_
  refine r_iadd C (v := 1) dL_law_1103 (by decide) ?_
  refine r_sld C w hX hbl hbA (v := y1) (vinD (by decide)) sx1 dL_law_1104 ?_
  refine lv_aload_n C.1 C.2.1 dL_law_1105 rfl (lv_at hl 1 rfl) ?_
  refine lv_iload C.1 C.2.1 dL_law_1106 (lv_at hl 5 rfl) ?_
  refine lv_iconst (v := 2) C.1 C.2.1 dL_law_1108 (by decide) ?_
  refine r_iadd C (v := 2) dL_law_1109 (by decide) ?_
  refine r_sld C w hX hbl hbA (v := y2) (vinD (by decide)) sx2 dL_law_1110 ?_
  refine lv_aload_n C.1 C.2.1 dL_law_1111 rfl (lv_at hl 1 rfl) ?_
  refine lv_iload C.1 C.2.1 dL_law_1112 (lv_at hl 5 rfl) ?_
  refine lv_iconst (v := 3) C.1 C.2.1 dL_law_1114 (by decide) ?_
  refine r_iadd C (v := 3) dL_law_1115 (by decide) ?_
  refine r_sld C w hX hbl hbA (v := y3) (vinD (by decide)) sx3 dL_law_1116 ?_
  refine r_callV C w fv_RL_184 (c_X12_knows_1 l D cy m0 m1 m2 m3 m4 m5 m6 m7 m8 m9 m10 m11 m12 m13 m14 m15 m16 m17 y1 y2 y3 k0) (hl.1.trans hml.symm) [0, 1] [] (wr := []) ⟨rfl, rfl, rfl, rfl, by decide⟩ 0 rfl rfl rfl rfl rfl ⟨Nat.le_of_ble_eq_true rfl, Nat.le_of_ble_eq_true rfl, Nat.le_of_ble_eq_true rfl⟩ 38 29851 ⟨rfl, rfl, Nat.le_of_ble_eq_true rfl, Nat.le_of_ble_eq_true rfl⟩ dL_law_1117 (fun u H locs hp w => ?_)
  have w : Wd D A s.heap [(m0, .inr (12, [.ref m1, .ref m2, .ref m3, .ref m4, .ref m5, .int 1, .ref m6, .int 0, .int 0, .int 0, .int 0, .int 0, .int 0, .int 0, .int 0, .int 0, .int 0, .int (-1), .ref m7, .ref m8, .int 0, .ref m9, .int 0, .ref m10, .ref m11, .ref m12, .ref m13, .ref m14, .int 0, .ref m15, .ref m16, .ref m17]))] _ _ := w.pick [0] rfl rfl
  refine r_top (g2 := F0 m 1120 ls [.int 0]) rfl ?_
  refine lv_istore (lv' := [(6, .int 0), (5, .int 1), (0, .ref b), (1, .ref q0), (2, .ref m0), (3, .ref o0), (4, .int 0)]) C.1 C.2.1 dL_law_1120 hl (by decide) rfl (fun ls hl => ?_)
  refine lv_aload_n C.1 C.2.1 dL_law_1122 rfl (lv_at hl 4 rfl) ?_
  refine r_callV C w fv_RL_134 (c_X12_thrown_0 l D cy m0 m1 m2 m3 m4 m5 m6 m7 m8 m9 m10 m11 m12 m13 m14 m15 m16 m17) (hl.1.trans hml.symm) [0] [] (wr := []) ⟨rfl, rfl, rfl, rfl, by decide⟩ 0 rfl rfl rfl rfl rfl ⟨Nat.le_of_ble_eq_true rfl, Nat.le_of_ble_eq_true rfl, Nat.le_of_ble_eq_true rfl⟩ 38 29851 ⟨rfl, rfl, Nat.le_of_ble_eq_true rfl, Nat.le_of_ble_eq_true rfl⟩ dL_law_1123 (fun u H locs hp w => ?_)
  have w : Wd D A s.heap [(m0, .inr (12, [.ref m1, .ref m2, .ref m3, .ref m4, .ref m5, .int 1, .ref m6, .int 0, .int 0, .int 0, .int 0, .int 0, .int 0, .int 0, .int 0, .int 0, .int 0, .int (-1), .ref m7, .ref m8, .int 0, .ref m9, .int 0, .ref m10, .ref m11, .ref m12, .ref m13, .ref m14, .int 0, .ref m15, .ref m16, .ref m17]))] _ _ := w.pick [0] rfl rfl
  refine r_top (g2 := F0 m 1126 ls [.int 1]) rfl ?_
  refine lv_iload C.1 C.2.1 dL_law_1126 (lv_at hl 1 rfl) ?_
  refine b_icmp_eq_t C (tgt := 1133) dL_law_1128 (by decide) (by decide) ?_
  refine lv_iload C.1 C.2.1 dL_law_1133 (lv_at hl 1 rfl) ?_
  refine b_if_ne_t C (tgt := 1157) dL_law_1135 (by decide) (by decide) ?_
  refine lv_goto (tgt := 2461) C.1 C.2.1 dL_law_1157 (by decide) ?_
  refine W.widen (k := 600002) (n := 7302232) (Nat.le_of_ble_eq_true rfl) (Nat.le_of_ble_eq_true rfl) ?_
  exact kk _ _ _ w.2.2 (lv_sub hl [2, 6] rfl)
set_option maxRecDepth 100000 in
set_option maxHeartbeats 4000000 in
theorem t_L_15 {p : Program} {l : Launch} {e : Env} {s : State} {m : MethodId} {args : Array Value} {below : List Frame} {meth : Method} {c : Code} {Q : State → Prop} {D : va_G} {cy : Nat → ClassId} {A : Nat → Prop} {H : Heap} {locs : List Loc} {ls : Array Slot} {xs : Nat → Int32} (b q0 q1 q2 q4 q5 q6 q10 q3 q7 q8 q9 q11 q12 q13 q14 q15 q16 q17 m0 m1 m2 m3 m4 m5 m6 m7 m8 m9 m10 m11 m12 m13 m14 m15 m16 m17 o0 : Nat) (hst : l.stackTraces = false) (C : Cx p s m args c cL_law RL D cy A) (hml : c.maxLocals = 8) (hX : va_X b 6 xs s s.heap) (hbl : b < s.heap.size) (hbA : ¬ A b) (w : Wd D A s.heap [(q0, .inr (11, [.ref q1, .int 0, .int 0, .int (-1), .ref q2, .ref q4, .ref q5, .ref q6, .ref q10, .null])), (q1, .inl (cy 0, 900, .inl (fun _ => 0))), (q2, .inr (5, [.ref q3, .int 0, .int 0, .int 0, .int 0, .int 0, .int 0, .null])), (q3, .inl (cy 0, 0, .inl (fun _ => 0))), (q4, .inl (cy 4, 5, .inr (.inr (.inr (.inr (va_up (fun _ => none) 0 (some q10))))))), (q5, .inl (cy 4, 3, .inr (.inr (.inr (.inr (fun _ => none)))))), (q6, .inr (10, [.ref q7, .ref q8, .ref q9])), (q7, .inl (cy 1, 4, .inl (upd (upd (upd (upd (fun _ => 0) 0 (-1)) 1 (-1)) 2 (-1)) 3 (-1)))), (q8, .inl (cy 1, 4, .inl (fun _ => 0))), (q9, .inl (cy 2, 160, .inr (.inl (fun _ => 0)))), (q10, .inr (9, [.int 0, .int 2, .int 20, .int 120, .int 0, .int 0, .int 0, .int 0, .ref q11, .int 0, .ref q12, .ref q13, .int 0, .ref q14, .ref q15, .ref q16, .ref q17])), (q11, .inl (cy 1, 6, .inl (fun _ => 0))), (q12, .inl (cy 1, 20, .inl (fun _ => 0))), (q13, .inl (cy 1, 20, .inl (fun _ => 0))), (q14, .inl (cy 1, 300, .inl (fun _ => 0))), (q15, .inl (cy 1, 300, .inl (fun _ => 0))), (q16, .inl (cy 1, 300, .inl (fun _ => 0))), (q17, .inl (cy 1, 300, .inl (fun _ => 0))), (m0, .inr (12, [.ref m1, .ref m2, .ref m3, .ref m4, .ref m5, .int 0, .ref m6, .int 0, .int 0, .int 0, .int 0, .int 0, .int 0, .int 0, .int 0, .int 0, .int 0, .int (-1), .ref m7, .ref m8, .int 0, .ref m9, .int 0, .ref m10, .ref m11, .ref m12, .ref m13, .ref m14, .int 0, .ref m15, .ref m16, .ref m17])), (m2, .inl (cy 1, 1868, .inl (fun _ => 0))), (m3, .inl (cy 1, 1868, .inl (fun _ => 0))), (m4, .inl (cy 1, 5604, .inl (fun _ => 0))), (m5, .inl (cy 3, 3, .inl (fun _ => 0))), (m6, .inl (cy 1, 900, .inl (fun _ => 0))), (m7, .inl (cy 1, 1830, .inl (fun _ => 0))), (m8, .inl (cy 1, 1830, .inl (fun _ => 0))), (m9, .inl (cy 2, 2465, .inr (.inl (fun _ => 0)))), (m10, .inl (cy 1, 7201, .inl (fun _ => 0))), (m11, .inl (cy 1, 1830, .inl (fun _ => 0))), (m12, .inl (cy 1, 5, .inl (fun _ => 0))), (m13, .inl (cy 1, 6, .inl (fun _ => 0))), (m14, .inl (cy 1, 6, .inl (fun _ => 0))), (m15, .inl (cy 1, 4, .inl (upd (upd (upd (upd (fun _ => 0) 0 (-1)) 1 (-1)) 2 (-1)) 3 (-1)))), (m16, .inl (cy 1, 4, .inl (fun _ => 0))), (m17, .inl (cy 2, 160, .inr (.inl (fun _ => 0)))), (m1, .inl (cy 1, 1868, .inl (upd (upd (upd (fun _ => 0) 1 2) 2 20) 3 120))), (o0, .inl (cy 2, 1, .inr (.inl (fun _ => 0))))] H locs) (hl : lv_has ls 8 [(0, .ref b), (1, .ref q0), (2, .ref m0), (3, .ref o0), (4, .int 0)]) (kk : ∀ (H : Heap) (locs : List Loc) (ls : Array Slot), va_S A s.heap H locs → lv_has ls 8 [(0, .ref b), (4, .int 0)] → W p l e room_1 s m args below meth c H locs 600002 7302232 Q (F0 m 2461 ls [])) : W p l e room_1 s m args below meth c H locs 37 29845 Q (F0 m 1073 ls []) := by
  obtain ⟨y1, sx1⟩ : ∃ y, xs 1 = y := ⟨_, rfl⟩
  obtain ⟨y2, sx2⟩ : ∃ y, xs 2 = y := ⟨_, rfl⟩
  obtain ⟨y3, sx3⟩ : ∃ y, xs 3 = y := ⟨_, rfl⟩
  obtain ⟨y4, sx4⟩ : ∃ y, xs 4 = y := ⟨_, rfl⟩
  obtain ⟨y5, sx5⟩ : ∃ y, xs 5 = y := ⟨_, rfl⟩
  by_cases g1 : y1 < 0
  · exact s_L_15_0 b q0 q1 q2 q4 q5 q6 q10 m0 m1 m2 m3 m4 m5 m6 m7 m8 m9 m10 m11 m12 m13 m14 m15 m16 m17 o0 y1 y2 y3 g1 sx1 sx2 sx3 hst C hml hX hbl hbA (w.pick [0, 18, 35] rfl rfl) hl kk
  · exact s_L_15_1 b q0 q1 q2 q4 q5 q6 q10 q11 q12 q13 q14 q15 q16 q17 m0 m1 m2 m3 m4 m5 m6 m7 m8 m9 m10 m11 m12 m13 m14 m15 m16 m17 o0 y1 y2 y3 g1 sx1 sx2 sx3 hst C hml hX hbl hbA (w.pick [0, 10, 18, 35] rfl rfl) hl kk
theorem dL_law_1160 : decode cL_law 1160 = .ok (.aload_n 1, 1) := by decide +kernel
theorem dL_law_1161 : decode cL_law 1161 = .ok (.aload_n 0, 1) := by decide +kernel
theorem dL_law_1162 : decode cL_law 1162 = .ok (.iload 4, 2) := by decide +kernel
theorem dL_law_1164 : decode cL_law 1164 = .ok (.iconst 1, 1) := by decide +kernel
theorem dL_law_1165 : decode cL_law 1165 = .ok (.iadd, 1) := by decide +kernel
theorem dL_law_1166 : decode cL_law 1166 = .ok (.iaload, 1) := by decide +kernel
theorem dL_law_1167 : decode cL_law 1167 = .ok (.aload_n 0, 1) := by decide +kernel
theorem dL_law_1168 : decode cL_law 1168 = .ok (.iload 4, 2) := by decide +kernel
theorem dL_law_1170 : decode cL_law 1170 = .ok (.iconst 2, 1) := by decide +kernel
theorem dL_law_1171 : decode cL_law 1171 = .ok (.iadd, 1) := by decide +kernel
theorem dL_law_1172 : decode cL_law 1172 = .ok (.iaload, 1) := by decide +kernel
theorem dL_law_1173 : decode cL_law 1173 = .ok (.aload_n 3, 1) := by decide +kernel
theorem dL_law_1174 : decode cL_law 1174 = .ok (.invokestatic 185, 3) := by decide +kernel
theorem fh_RL_185 : FH RL 185 yL_knowing cL_knowing 5 (some .int) [(0, 10, 13, 19), (0, 10, 17, 13)] 4 := ⟨⟨gw_mem (by decide +kernel) (by decide +kernel), gw_mem (by decide +kernel) (by decide +kernel), gw_mem (by decide +kernel) (by decide +kernel), gw_mem (by decide +kernel) (by decide +kernel)⟩, ⟨by decide +kernel, by decide +kernel, by decide +kernel⟩⟩
theorem dL_law_1177 : decode cL_law 1177 = .ok (.istore 5, 2) := by decide +kernel
theorem dL_law_1179 : decode cL_law 1179 = .ok (.aload_n 2, 1) := by decide +kernel
theorem dL_law_1180 : decode cL_law 1180 = .ok (.aload_n 0, 1) := by decide +kernel
theorem dL_law_1181 : decode cL_law 1181 = .ok (.iload 4, 2) := by decide +kernel
theorem dL_law_1183 : decode cL_law 1183 = .ok (.iconst 1, 1) := by decide +kernel
theorem dL_law_1184 : decode cL_law 1184 = .ok (.iadd, 1) := by decide +kernel
theorem dL_law_1185 : decode cL_law 1185 = .ok (.iaload, 1) := by decide +kernel
theorem dL_law_1186 : decode cL_law 1186 = .ok (.aload_n 0, 1) := by decide +kernel
theorem dL_law_1187 : decode cL_law 1187 = .ok (.iload 4, 2) := by decide +kernel
theorem dL_law_1189 : decode cL_law 1189 = .ok (.iconst 2, 1) := by decide +kernel
theorem dL_law_1190 : decode cL_law 1190 = .ok (.iadd, 1) := by decide +kernel
theorem dL_law_1191 : decode cL_law 1191 = .ok (.iaload, 1) := by decide +kernel
theorem dL_law_1192 : decode cL_law 1192 = .ok (.invokevirtual 187, 3) := by decide +kernel
theorem fv_RL_187 : FV RL 187 yX12_knowing cX12_knowing 6 (some .int) 2 := ⟨⟨gw_mem (by decide +kernel) (by decide +kernel), gw_mem (by decide +kernel) (by decide +kernel), gw_mem (by decide +kernel) (by decide +kernel), gw_mem (by decide +kernel) (by decide +kernel), gw_mem (by decide +kernel) (by decide +kernel)⟩, ⟨by decide +kernel, by decide +kernel, by decide +kernel⟩⟩
theorem dL_law_1195 : decode cL_law 1195 = .ok (.istore 6, 2) := by decide +kernel
theorem dL_law_1197 : decode cL_law 1197 = .ok (.aload_n 2, 1) := by decide +kernel
theorem dL_law_1198 : decode cL_law 1198 = .ok (.invokevirtual 134, 3) := by decide +kernel
theorem dL_law_1201 : decode cL_law 1201 = .ok (.iload 5, 2) := by decide +kernel
theorem dL_law_1203 : decode cL_law 1203 = .ok (.if_icmp .eq 5, 3) := by decide +kernel
theorem dL_law_1208 : decode cL_law 1208 = .ok (.iload 5, 2) := by decide +kernel
theorem dL_law_1210 : decode cL_law 1210 = .ok (.ifCond .ne 15, 3) := by decide +kernel
theorem dL_law_1225 : decode cL_law 1225 = .ok (.goto 1236, 3) := by decide +kernel
set_option maxRecDepth 100000 in
set_option maxHeartbeats 4000000 in
theorem s_L_16_0 {p : Program} {l : Launch} {e : Env} {s : State} {m : MethodId} {args : Array Value} {below : List Frame} {meth : Method} {c : Code} {Q : State → Prop} {D : va_G} {cy : Nat → ClassId} {A : Nat → Prop} {H : Heap} {locs : List Loc} {ls : Array Slot} {xs : Nat → Int32} (b q0 q1 q2 q4 q5 q6 q10 m0 m1 m2 m3 m4 m5 m6 m7 m8 m9 m10 m11 m12 m13 m14 m15 m16 m17 o0 : Nat) (y1 : Int32) (y2 : Int32) (k0 : y1 < 0) (sx1 : xs 1 = y1) (sx2 : xs 2 = y2) (hst : l.stackTraces = false) (C : Cx p s m args c cL_law RL D cy A) (hml : c.maxLocals = 8) (hX : va_X b 6 xs s s.heap) (hbl : b < s.heap.size) (hbA : ¬ A b) (w : Wd D A s.heap [(q0, .inr (11, [.ref q1, .int 0, .int 0, .int (-1), .ref q2, .ref q4, .ref q5, .ref q6, .ref q10, .null])), (m0, .inr (12, [.ref m1, .ref m2, .ref m3, .ref m4, .ref m5, .int 0, .ref m6, .int 0, .int 0, .int 0, .int 0, .int 0, .int 0, .int 0, .int 0, .int 0, .int 0, .int (-1), .ref m7, .ref m8, .int 0, .ref m9, .int 0, .ref m10, .ref m11, .ref m12, .ref m13, .ref m14, .int 0, .ref m15, .ref m16, .ref m17])), (m1, .inl (cy 1, 1868, .inl (upd (upd (upd (fun _ => 0) 1 2) 2 20) 3 120)))] H locs) (hl : lv_has ls 8 [(0, .ref b), (1, .ref q0), (2, .ref m0), (3, .ref o0), (4, .int 0)]) (kk : ∀ (H : Heap) (locs : List Loc) (ls : Array Slot), va_S A s.heap H locs → lv_has ls 8 [(0, .ref b), (4, .int 0)] → W p l e room_1 s m args below meth c H locs 600002 7302232 Q (F0 m 2461 ls [])) : W p l e room_1 s m args below meth c H locs 37 29845 Q (F0 m 1160 ls []) := by
  refine lv_aload_n C.1 C.2.1 dL_law_1160 rfl (lv_at hl 1 rfl) ?_
  refine lv_aload_n C.1 C.2.1 dL_law_1161 rfl (lv_at hl 0 rfl) ?_
  refine lv_iload C.1 C.2.1 dL_law_1162 (lv_at hl 4 rfl) ?_
  refine lv_iconst (v := 1) C.1 C.2.1 dL_law_1164 (by decide) ?_
  refine r_iadd C (v := 1) dL_law_1165 (by decide) ?_
  refine r_sld C w hX hbl hbA (v := y1) (vinD (by decide)) sx1 dL_law_1166 ?_
  refine lv_aload_n C.1 C.2.1 dL_law_1167 rfl (lv_at hl 0 rfl) ?_
  refine lv_iload C.1 C.2.1 dL_law_1168 (lv_at hl 4 rfl) ?_
  refine lv_iconst (v := 2) C.1 C.2.1 dL_law_1170 (by decide) ?_
  refine r_iadd C (v := 2) dL_law_1171 (by decide) ?_
  refine r_sld C w hX hbl hbA (v := y2) (vinD (by decide)) sx2 dL_law_1172 ?_
  refine lv_aload_n C.1 C.2.1 dL_law_1173 rfl (lv_at hl 3 rfl) ?_
  refine r_callH C w fh_RL_185 (c_L_knowing_0 l D cy q0 o0 q1 q2 q4 q5 q6 q10 y1 y2 k0 hst) (hl.1.trans hml.symm) [0] [1, 2] (wr := [(m0, .inr (12, [.ref m1, .ref m2, .ref m3, .ref m4, .ref m5, .int 0, .ref m6, .int 0, .int 0, .int 0, .int 0, .int 0, .int 0, .int 0, .int 0, .int 0, .int 0, .int (-1), .ref m7, .ref m8, .int 0, .ref m9, .int 0, .ref m10, .ref m11, .ref m12, .ref m13, .ref m14, .int 0, .ref m15, .ref m16, .ref m17])), (m1, .inl (cy 1, 1868, .inl (upd (upd (upd (fun _ => 0) 1 2) 2 20) 3 120)))]) ⟨rfl, rfl, rfl, rfl, by decide⟩ rfl rfl ⟨Nat.le_of_ble_eq_true rfl, Nat.le_of_ble_eq_true rfl, Nat.le_of_ble_eq_true rfl⟩ 38 29851 ⟨rfl, rfl, Nat.le_of_ble_eq_true rfl, Nat.le_of_ble_eq_true rfl⟩ dL_law_1174 (fun u H locs hp w => ?_)
  have w : Wd D A s.heap [(m0, .inr (12, [.ref m1, .ref m2, .ref m3, .ref m4, .ref m5, .int 0, .ref m6, .int 0, .int 0, .int 0, .int 0, .int 0, .int 0, .int 0, .int 0, .int 0, .int 0, .int (-1), .ref m7, .ref m8, .int 0, .ref m9, .int 0, .ref m10, .ref m11, .ref m12, .ref m13, .ref m14, .int 0, .ref m15, .ref m16, .ref m17])), (m1, .inl (cy 1, 1868, .inl (upd (upd (upd (fun _ => 0) 1 2) 2 20) 3 120)))] _ _ := w.pick [0, 1] rfl rfl
  refine r_top (g2 := F0 m 1177 ls [.int 1]) rfl ?_
  refine lv_istore (lv' := [(5, .int 1), (0, .ref b), (1, .ref q0), (2, .ref m0), (3, .ref o0), (4, .int 0)]) C.1 C.2.1 dL_law_1177 hl (by decide) rfl (fun ls hl => ?_)
  refine lv_aload_n C.1 C.2.1 dL_law_1179 rfl (lv_at hl 3 rfl) ?_
  refine lv_aload_n C.1 C.2.1 dL_law_1180 rfl (lv_at hl 1 rfl) ?_
  refine lv_iload C.1 C.2.1 dL_law_1181 (lv_at hl 5 rfl) ?_
  refine lv_iconst (v := 1) C.1 C.2.1 dL_law_1183 (by decide) ?_
  refine r_iadd C (v := 1) dL_law_1184 (by decide) ?_
  refine r_sld C w hX hbl hbA (v := y1) (vinD (by decide)) sx1 dL_law_1185 ?_
  refine lv_aload_n C.1 C.2.1 dL_law_1186 rfl (lv_at hl 1 rfl) ?_
  refine lv_iload C.1 C.2.1 dL_law_1187 (lv_at hl 5 rfl) ?_
  refine lv_iconst (v := 2) C.1 C.2.1 dL_law_1189 (by decide) ?_
  refine r_iadd C (v := 2) dL_law_1190 (by decide) ?_
  refine r_sld C w hX hbl hbA (v := y2) (vinD (by decide)) sx2 dL_law_1191 ?_
  refine r_callV C w fv_RL_187 (c_X12_knowing_0 l D cy m0 m1 m2 m3 m4 m5 m6 m7 m8 m9 m10 m11 m12 m13 m14 m15 m16 m17 y1 y2 k0) (hl.1.trans hml.symm) [0, 1] [] (wr := []) ⟨rfl, rfl, rfl, rfl, by decide⟩ 0 rfl rfl rfl rfl rfl ⟨Nat.le_of_ble_eq_true rfl, Nat.le_of_ble_eq_true rfl, Nat.le_of_ble_eq_true rfl⟩ 38 29851 ⟨rfl, rfl, Nat.le_of_ble_eq_true rfl, Nat.le_of_ble_eq_true rfl⟩ dL_law_1192 (fun u H locs hp w => ?_)
  have w : Wd D A s.heap [(m0, .inr (12, [.ref m1, .ref m2, .ref m3, .ref m4, .ref m5, .int 1, .ref m6, .int 0, .int 0, .int 0, .int 0, .int 0, .int 0, .int 0, .int 0, .int 0, .int 0, .int (-1), .ref m7, .ref m8, .int 0, .ref m9, .int 0, .ref m10, .ref m11, .ref m12, .ref m13, .ref m14, .int 0, .ref m15, .ref m16, .ref m17]))] _ _ := w.pick [0] rfl rfl
  refine r_top (g2 := F0 m 1195 ls [.int 0]) rfl ?_
  refine lv_istore (lv' := [(6, .int 0), (5, .int 1), (0, .ref b), (1, .ref q0), (2, .ref m0), (3, .ref o0), (4, .int 0)]) C.1 C.2.1 dL_law_1195 hl (by decide) rfl (fun ls hl => ?_)
  refine lv_aload_n C.1 C.2.1 dL_law_1197 rfl (lv_at hl 4 rfl) ?_
  refine r_callV C w fv_RL_134 (c_X12_thrown_0 l D cy m0 m1 m2 m3 m4 m5 m6 m7 m8 m9 m10 m11 m12 m13 m14 m15 m16 m17) (hl.1.trans hml.symm) [0] [] (wr := []) ⟨rfl, rfl, rfl, rfl, by decide⟩ 0 rfl rfl rfl rfl rfl ⟨Nat.le_of_ble_eq_true rfl, Nat.le_of_ble_eq_true rfl, Nat.le_of_ble_eq_true rfl⟩ 38 29851 ⟨rfl, rfl, Nat.le_of_ble_eq_true rfl, Nat.le_of_ble_eq_true rfl⟩ dL_law_1198 (fun u H locs hp w => ?_)
  have w : Wd D A s.heap [(m0, .inr (12, [.ref m1, .ref m2, .ref m3, .ref m4, .ref m5, .int 1, .ref m6, .int 0, .int 0, .int 0, .int 0, .int 0, .int 0, .int 0, .int 0, .int 0, .int 0, .int (-1), .ref m7, .ref m8, .int 0, .ref m9, .int 0, .ref m10, .ref m11, .ref m12, .ref m13, .ref m14, .int 0, .ref m15, .ref m16, .ref m17]))] _ _ := w.pick [0] rfl rfl
  refine r_top (g2 := F0 m 1201 ls [.int 1]) rfl ?_
  refine lv_iload C.1 C.2.1 dL_law_1201 (lv_at hl 1 rfl) ?_
  refine b_icmp_eq_t C (tgt := 1208) dL_law_1203 (by decide) (by decide) ?_
  refine lv_iload C.1 C.2.1 dL_law_1208 (lv_at hl 1 rfl) ?_
  refine b_if_ne_t C (tgt := 1225) dL_law_1210 (by decide) (by decide) ?_
  refine lv_goto (tgt := 2461) C.1 C.2.1 dL_law_1225 (by decide) ?_
  refine W.widen (k := 600002) (n := 7302232) (Nat.le_of_ble_eq_true rfl) (Nat.le_of_ble_eq_true rfl) ?_
  exact kk _ _ _ w.2.2 (lv_sub hl [2, 6] rfl)
set_option maxRecDepth 100000 in
set_option maxHeartbeats 4000000 in
theorem s_L_16_1 {p : Program} {l : Launch} {e : Env} {s : State} {m : MethodId} {args : Array Value} {below : List Frame} {meth : Method} {c : Code} {Q : State → Prop} {D : va_G} {cy : Nat → ClassId} {A : Nat → Prop} {H : Heap} {locs : List Loc} {ls : Array Slot} {xs : Nat → Int32} (b q0 q1 q2 q4 q5 q6 q10 q11 q12 q13 q14 q15 q16 q17 m0 m1 m2 m3 m4 m5 m6 m7 m8 m9 m10 m11 m12 m13 m14 m15 m16 m17 o0 : Nat) (y1 : Int32) (y2 : Int32) (k0 : ¬ y1 < 0) (sx1 : xs 1 = y1) (sx2 : xs 2 = y2) (hst : l.stackTraces = false) (C : Cx p s m args c cL_law RL D cy A) (hml : c.maxLocals = 8) (hX : va_X b 6 xs s s.heap) (hbl : b < s.heap.size) (hbA : ¬ A b) (w : Wd D A s.heap [(q0, .inr (11, [.ref q1, .int 0, .int 0, .int (-1), .ref q2, .ref q4, .ref q5, .ref q6, .ref q10, .null])), (q10, .inr (9, [.int 0, .int 2, .int 20, .int 120, .int 0, .int 0, .int 0, .int 0, .ref q11, .int 0, .ref q12, .ref q13, .int 0, .ref q14, .ref q15, .ref q16, .ref q17])), (m0, .inr (12, [.ref m1, .ref m2, .ref m3, .ref m4, .ref m5, .int 0, .ref m6, .int 0, .int 0, .int 0, .int 0, .int 0, .int 0, .int 0, .int 0, .int 0, .int 0, .int (-1), .ref m7, .ref m8, .int 0, .ref m9, .int 0, .ref m10, .ref m11, .ref m12, .ref m13, .ref m14, .int 0, .ref m15, .ref m16, .ref m17])), (m1, .inl (cy 1, 1868, .inl (upd (upd (upd (fun _ => 0) 1 2) 2 20) 3 120)))] H locs) (hl : lv_has ls 8 [(0, .ref b), (1, .ref q0), (2, .ref m0), (3, .ref o0), (4, .int 0)]) (kk : ∀ (H : Heap) (locs : List Loc) (ls : Array Slot), va_S A s.heap H locs → lv_has ls 8 [(0, .ref b), (4, .int 0)] → W p l e room_1 s m args below meth c H locs 600002 7302232 Q (F0 m 2461 ls [])) : W p l e room_1 s m args below meth c H locs 37 29845 Q (F0 m 1160 ls []) := by
  refine lv_aload_n C.1 C.2.1 dL_law_1160 rfl (lv_at hl 1 rfl) ?_
  refine lv_aload_n C.1 C.2.1 dL_law_1161 rfl (lv_at hl 0 rfl) ?_
  refine lv_iload C.1 C.2.1 dL_law_1162 (lv_at hl 4 rfl) ?_
  refine lv_iconst (v := 1) C.1 C.2.1 dL_law_1164 (by decide) ?_
  refine r_iadd C (v := 1) dL_law_1165 (by decide) ?_
  refine r_sld C w hX hbl hbA (v := y1) (vinD (by decide)) sx1 dL_law_1166 ?_
  refine lv_aload_n C.1 C.2.1 dL_law_1167 rfl (lv_at hl 0 rfl) ?_
  refine lv_iload C.1 C.2.1 dL_law_1168 (lv_at hl 4 rfl) ?_
  refine lv_iconst (v := 2) C.1 C.2.1 dL_law_1170 (by decide) ?_
  refine r_iadd C (v := 2) dL_law_1171 (by decide) ?_
  refine r_sld C w hX hbl hbA (v := y2) (vinD (by decide)) sx2 dL_law_1172 ?_
  refine lv_aload_n C.1 C.2.1 dL_law_1173 rfl (lv_at hl 3 rfl) ?_
  refine r_callH C w fh_RL_185 (c_L_knowing_1 l D cy q0 o0 q1 q2 q4 q5 q6 q10 q11 q12 q13 q14 q15 q16 q17 y1 y2 k0 hst) (hl.1.trans hml.symm) [0, 1] [2, 3] (wr := [(m0, .inr (12, [.ref m1, .ref m2, .ref m3, .ref m4, .ref m5, .int 0, .ref m6, .int 0, .int 0, .int 0, .int 0, .int 0, .int 0, .int 0, .int 0, .int 0, .int 0, .int (-1), .ref m7, .ref m8, .int 0, .ref m9, .int 0, .ref m10, .ref m11, .ref m12, .ref m13, .ref m14, .int 0, .ref m15, .ref m16, .ref m17])), (m1, .inl (cy 1, 1868, .inl (upd (upd (upd (fun _ => 0) 1 2) 2 20) 3 120)))]) ⟨rfl, rfl, rfl, rfl, by decide⟩ rfl rfl ⟨Nat.le_of_ble_eq_true rfl, Nat.le_of_ble_eq_true rfl, Nat.le_of_ble_eq_true rfl⟩ 38 29851 ⟨rfl, rfl, Nat.le_of_ble_eq_true rfl, Nat.le_of_ble_eq_true rfl⟩ dL_law_1174 (fun u H locs hp w => ?_)
  have w : Wd D A s.heap [(m0, .inr (12, [.ref m1, .ref m2, .ref m3, .ref m4, .ref m5, .int 0, .ref m6, .int 0, .int 0, .int 0, .int 0, .int 0, .int 0, .int 0, .int 0, .int 0, .int 0, .int (-1), .ref m7, .ref m8, .int 0, .ref m9, .int 0, .ref m10, .ref m11, .ref m12, .ref m13, .ref m14, .int 0, .ref m15, .ref m16, .ref m17])), (m1, .inl (cy 1, 1868, .inl (upd (upd (upd (fun _ => 0) 1 2) 2 20) 3 120)))] _ _ := w.pick [0, 1] rfl rfl
  refine r_top (g2 := F0 m 1177 ls [.int 1]) rfl ?_
  refine lv_istore (lv' := [(5, .int 1), (0, .ref b), (1, .ref q0), (2, .ref m0), (3, .ref o0), (4, .int 0)]) C.1 C.2.1 dL_law_1177 hl (by decide) rfl (fun ls hl => ?_)
  refine lv_aload_n C.1 C.2.1 dL_law_1179 rfl (lv_at hl 3 rfl) ?_
  refine lv_aload_n C.1 C.2.1 dL_law_1180 rfl (lv_at hl 1 rfl) ?_
  refine lv_iload C.1 C.2.1 dL_law_1181 (lv_at hl 5 rfl) ?_
  refine lv_iconst (v := 1) C.1 C.2.1 dL_law_1183 (by decide) ?_
  refine r_iadd C (v := 1) dL_law_1184 (by decide) ?_
  refine r_sld C w hX hbl hbA (v := y1) (vinD (by decide)) sx1 dL_law_1185 ?_
  refine lv_aload_n C.1 C.2.1 dL_law_1186 rfl (lv_at hl 1 rfl) ?_
  refine lv_iload C.1 C.2.1 dL_law_1187 (lv_at hl 5 rfl) ?_
  refine lv_iconst (v := 2) C.1 C.2.1 dL_law_1189 (by decide) ?_
  refine r_iadd C (v := 2) dL_law_1190 (by decide) ?_
  refine r_sld C w hX hbl hbA (v := y2) (vinD (by decide)) sx2 dL_law_1191 ?_
  refine r_callV C w fv_RL_187 (c_X12_knowing_1 l D cy m0 m1 m2 m3 m4 m5 m6 m7 m8 m9 m10 m11 m12 m13 m14 m15 m16 m17 y1 y2 k0) (hl.1.trans hml.symm) [0, 1] [] (wr := []) ⟨rfl, rfl, rfl, rfl, by decide⟩ 0 rfl rfl rfl rfl rfl ⟨Nat.le_of_ble_eq_true rfl, Nat.le_of_ble_eq_true rfl, Nat.le_of_ble_eq_true rfl⟩ 38 29851 ⟨rfl, rfl, Nat.le_of_ble_eq_true rfl, Nat.le_of_ble_eq_true rfl⟩ dL_law_1192 (fun u H locs hp w => ?_)
  have w : Wd D A s.heap [(m0, .inr (12, [.ref m1, .ref m2, .ref m3, .ref m4, .ref m5, .int 1, .ref m6, .int 0, .int 0, .int 0, .int 0, .int 0, .int 0, .int 0, .int 0, .int 0, .int 0, .int (-1), .ref m7, .ref m8, .int 0, .ref m9, .int 0, .ref m10, .ref m11, .ref m12, .ref m13, .ref m14, .int 0, .ref m15, .ref m16, .ref m17]))] _ _ := w.pick [0] rfl rfl
  refine r_top (g2 := F0 m 1195 ls [.int 0]) rfl ?_
  refine lv_istore (lv' := [(6, .int 0), (5, .int 1), (0, .ref b), (1, .ref q0), (2, .ref m0), (3, .ref o0), (4, .int 0)]) C.1 C.2.1 dL_law_1195 hl (by decide) rfl (fun ls hl => ?_)
  refine lv_aload_n C.1 C.2.1 dL_law_1197 rfl (lv_at hl 4 rfl) ?_
  refine r_callV C w fv_RL_134 (c_X12_thrown_0 l D cy m0 m1 m2 m3 m4 m5 m6 m7 m8 m9 m10 m11 m12 m13 m14 m15 m16 m17) (hl.1.trans hml.symm) [0] [] (wr := []) ⟨rfl, rfl, rfl, rfl, by decide⟩ 0 rfl rfl rfl rfl rfl ⟨Nat.le_of_ble_eq_true rfl, Nat.le_of_ble_eq_true rfl, Nat.le_of_ble_eq_true rfl⟩ 38 29851 ⟨rfl, rfl, Nat.le_of_ble_eq_true rfl, Nat.le_of_ble_eq_true rfl⟩ dL_law_1198 (fun u H locs hp w => ?_)
  have w : Wd D A s.heap [(m0, .inr (12, [.ref m1, .ref m2, .ref m3, .ref m4, .ref m5, .int 1, .ref m6, .int 0, .int 0, .int 0, .int 0, .int 0, .int 0, .int 0, .int 0, .int 0, .int 0, .int (-1), .ref m7, .ref m8, .int 0, .ref m9, .int 0, .ref m10, .ref m11, .ref m12, .ref m13, .ref m14, .int 0, .ref m15, .ref m16, .ref m17]))] _ _ := w.pick [0] rfl rfl
  refine r_top (g2 := F0 m 1201 ls [.int 1]) rfl ?_
  refine lv_iload C.1 C.2.1 dL_law_1201 (lv_at hl 1 rfl) ?_
  refine b_icmp_eq_t C (tgt := 1208) dL_law_1203 (by decide) (by decide) ?_
  refine lv_iload C.1 C.2.1 dL_law_1208 (lv_at hl 1 rfl) ?_
  refine b_if_ne_t C (tgt := 1225) dL_law_1210 (by decide) (by decide) ?_
  refine lv_goto (tgt := 2461) C.1 C.2.1 dL_law_1225 (by decide) ?_
  refine W.widen (k := 600002) (n := 7302232) (Nat.le_of_ble_eq_true rfl) (Nat.le_of_ble_eq_true rfl) ?_
  exact kk _ _ _ w.2.2 (lv_sub hl [2, 6] rfl)
set_option maxRecDepth 100000 in
set_option maxHeartbeats 4000000 in
theorem t_L_16 {p : Program} {l : Launch} {e : Env} {s : State} {m : MethodId} {args : Array Value} {below : List Frame} {meth : Method} {c : Code} {Q : State → Prop} {D : va_G} {cy : Nat → ClassId} {A : Nat → Prop} {H : Heap} {locs : List Loc} {ls : Array Slot} {xs : Nat → Int32} (b q0 q1 q2 q4 q5 q6 q10 q3 q7 q8 q9 q11 q12 q13 q14 q15 q16 q17 m0 m1 m2 m3 m4 m5 m6 m7 m8 m9 m10 m11 m12 m13 m14 m15 m16 m17 o0 : Nat) (hst : l.stackTraces = false) (C : Cx p s m args c cL_law RL D cy A) (hml : c.maxLocals = 8) (hX : va_X b 6 xs s s.heap) (hbl : b < s.heap.size) (hbA : ¬ A b) (w : Wd D A s.heap [(q0, .inr (11, [.ref q1, .int 0, .int 0, .int (-1), .ref q2, .ref q4, .ref q5, .ref q6, .ref q10, .null])), (q1, .inl (cy 0, 900, .inl (fun _ => 0))), (q2, .inr (5, [.ref q3, .int 0, .int 0, .int 0, .int 0, .int 0, .int 0, .null])), (q3, .inl (cy 0, 0, .inl (fun _ => 0))), (q4, .inl (cy 4, 5, .inr (.inr (.inr (.inr (va_up (fun _ => none) 0 (some q10))))))), (q5, .inl (cy 4, 3, .inr (.inr (.inr (.inr (fun _ => none)))))), (q6, .inr (10, [.ref q7, .ref q8, .ref q9])), (q7, .inl (cy 1, 4, .inl (upd (upd (upd (upd (fun _ => 0) 0 (-1)) 1 (-1)) 2 (-1)) 3 (-1)))), (q8, .inl (cy 1, 4, .inl (fun _ => 0))), (q9, .inl (cy 2, 160, .inr (.inl (fun _ => 0)))), (q10, .inr (9, [.int 0, .int 2, .int 20, .int 120, .int 0, .int 0, .int 0, .int 0, .ref q11, .int 0, .ref q12, .ref q13, .int 0, .ref q14, .ref q15, .ref q16, .ref q17])), (q11, .inl (cy 1, 6, .inl (fun _ => 0))), (q12, .inl (cy 1, 20, .inl (fun _ => 0))), (q13, .inl (cy 1, 20, .inl (fun _ => 0))), (q14, .inl (cy 1, 300, .inl (fun _ => 0))), (q15, .inl (cy 1, 300, .inl (fun _ => 0))), (q16, .inl (cy 1, 300, .inl (fun _ => 0))), (q17, .inl (cy 1, 300, .inl (fun _ => 0))), (m0, .inr (12, [.ref m1, .ref m2, .ref m3, .ref m4, .ref m5, .int 0, .ref m6, .int 0, .int 0, .int 0, .int 0, .int 0, .int 0, .int 0, .int 0, .int 0, .int 0, .int (-1), .ref m7, .ref m8, .int 0, .ref m9, .int 0, .ref m10, .ref m11, .ref m12, .ref m13, .ref m14, .int 0, .ref m15, .ref m16, .ref m17])), (m2, .inl (cy 1, 1868, .inl (fun _ => 0))), (m3, .inl (cy 1, 1868, .inl (fun _ => 0))), (m4, .inl (cy 1, 5604, .inl (fun _ => 0))), (m5, .inl (cy 3, 3, .inl (fun _ => 0))), (m6, .inl (cy 1, 900, .inl (fun _ => 0))), (m7, .inl (cy 1, 1830, .inl (fun _ => 0))), (m8, .inl (cy 1, 1830, .inl (fun _ => 0))), (m9, .inl (cy 2, 2465, .inr (.inl (fun _ => 0)))), (m10, .inl (cy 1, 7201, .inl (fun _ => 0))), (m11, .inl (cy 1, 1830, .inl (fun _ => 0))), (m12, .inl (cy 1, 5, .inl (fun _ => 0))), (m13, .inl (cy 1, 6, .inl (fun _ => 0))), (m14, .inl (cy 1, 6, .inl (fun _ => 0))), (m15, .inl (cy 1, 4, .inl (upd (upd (upd (upd (fun _ => 0) 0 (-1)) 1 (-1)) 2 (-1)) 3 (-1)))), (m16, .inl (cy 1, 4, .inl (fun _ => 0))), (m17, .inl (cy 2, 160, .inr (.inl (fun _ => 0)))), (m1, .inl (cy 1, 1868, .inl (upd (upd (upd (fun _ => 0) 1 2) 2 20) 3 120))), (o0, .inl (cy 2, 1, .inr (.inl (fun _ => 0))))] H locs) (hl : lv_has ls 8 [(0, .ref b), (1, .ref q0), (2, .ref m0), (3, .ref o0), (4, .int 0)]) (kk : ∀ (H : Heap) (locs : List Loc) (ls : Array Slot), va_S A s.heap H locs → lv_has ls 8 [(0, .ref b), (4, .int 0)] → W p l e room_1 s m args below meth c H locs 600002 7302232 Q (F0 m 2461 ls [])) : W p l e room_1 s m args below meth c H locs 37 29845 Q (F0 m 1160 ls []) := by
  obtain ⟨y1, sx1⟩ : ∃ y, xs 1 = y := ⟨_, rfl⟩
  obtain ⟨y2, sx2⟩ : ∃ y, xs 2 = y := ⟨_, rfl⟩
  obtain ⟨y3, sx3⟩ : ∃ y, xs 3 = y := ⟨_, rfl⟩
  obtain ⟨y4, sx4⟩ : ∃ y, xs 4 = y := ⟨_, rfl⟩
  obtain ⟨y5, sx5⟩ : ∃ y, xs 5 = y := ⟨_, rfl⟩
  by_cases g1 : y1 < 0
  · exact s_L_16_0 b q0 q1 q2 q4 q5 q6 q10 m0 m1 m2 m3 m4 m5 m6 m7 m8 m9 m10 m11 m12 m13 m14 m15 m16 m17 o0 y1 y2 g1 sx1 sx2 hst C hml hX hbl hbA (w.pick [0, 18, 35] rfl rfl) hl kk
  · exact s_L_16_1 b q0 q1 q2 q4 q5 q6 q10 q11 q12 q13 q14 q15 q16 q17 m0 m1 m2 m3 m4 m5 m6 m7 m8 m9 m10 m11 m12 m13 m14 m15 m16 m17 o0 y1 y2 g1 sx1 sx2 hst C hml hX hbl hbA (w.pick [0, 10, 18, 35] rfl rfl) hl kk
theorem dL_law_1228 : decode cL_law 1228 = .ok (.aload_n 1, 1) := by decide +kernel
theorem dL_law_1229 : decode cL_law 1229 = .ok (.aload_n 0, 1) := by decide +kernel
theorem dL_law_1230 : decode cL_law 1230 = .ok (.iload 4, 2) := by decide +kernel
theorem dL_law_1232 : decode cL_law 1232 = .ok (.iconst 1, 1) := by decide +kernel
theorem dL_law_1233 : decode cL_law 1233 = .ok (.iadd, 1) := by decide +kernel
theorem dL_law_1234 : decode cL_law 1234 = .ok (.iaload, 1) := by decide +kernel
theorem dL_law_1235 : decode cL_law 1235 = .ok (.aload_n 0, 1) := by decide +kernel
theorem dL_law_1236 : decode cL_law 1236 = .ok (.iload 4, 2) := by decide +kernel
theorem dL_law_1238 : decode cL_law 1238 = .ok (.iconst 2, 1) := by decide +kernel
theorem dL_law_1239 : decode cL_law 1239 = .ok (.iadd, 1) := by decide +kernel
theorem dL_law_1240 : decode cL_law 1240 = .ok (.iaload, 1) := by decide +kernel
theorem dL_law_1241 : decode cL_law 1241 = .ok (.aload_n 0, 1) := by decide +kernel
theorem dL_law_1242 : decode cL_law 1242 = .ok (.iload 4, 2) := by decide +kernel
theorem dL_law_1244 : decode cL_law 1244 = .ok (.iconst 3, 1) := by decide +kernel
theorem dL_law_1245 : decode cL_law 1245 = .ok (.iadd, 1) := by decide +kernel
theorem dL_law_1246 : decode cL_law 1246 = .ok (.iaload, 1) := by decide +kernel
theorem dL_law_1247 : decode cL_law 1247 = .ok (.aload_n 3, 1) := by decide +kernel
theorem dL_law_1248 : decode cL_law 1248 = .ok (.invokestatic 188, 3) := by decide +kernel
theorem fh_RL_188 : FH RL 188 yL_heap cL_heap 6 (some .int) [(0, 12, 15, 19), (0, 12, 19, 13)] 5 := ⟨⟨gw_mem (by decide +kernel) (by decide +kernel), gw_mem (by decide +kernel) (by decide +kernel), gw_mem (by decide +kernel) (by decide +kernel), gw_mem (by decide +kernel) (by decide +kernel)⟩, ⟨by decide +kernel, by decide +kernel, by decide +kernel⟩⟩
theorem dL_law_1251 : decode cL_law 1251 = .ok (.istore 5, 2) := by decide +kernel
theorem dL_law_1253 : decode cL_law 1253 = .ok (.aload_n 2, 1) := by decide +kernel
theorem dL_law_1254 : decode cL_law 1254 = .ok (.aload_n 0, 1) := by decide +kernel
theorem dL_law_1255 : decode cL_law 1255 = .ok (.iload 4, 2) := by decide +kernel
theorem dL_law_1257 : decode cL_law 1257 = .ok (.iconst 1, 1) := by decide +kernel
theorem dL_law_1258 : decode cL_law 1258 = .ok (.iadd, 1) := by decide +kernel
theorem dL_law_1259 : decode cL_law 1259 = .ok (.iaload, 1) := by decide +kernel
theorem dL_law_1260 : decode cL_law 1260 = .ok (.aload_n 0, 1) := by decide +kernel
theorem dL_law_1261 : decode cL_law 1261 = .ok (.iload 4, 2) := by decide +kernel
theorem dL_law_1263 : decode cL_law 1263 = .ok (.iconst 2, 1) := by decide +kernel
theorem dL_law_1264 : decode cL_law 1264 = .ok (.iadd, 1) := by decide +kernel
theorem dL_law_1265 : decode cL_law 1265 = .ok (.iaload, 1) := by decide +kernel
theorem dL_law_1266 : decode cL_law 1266 = .ok (.aload_n 0, 1) := by decide +kernel
theorem dL_law_1267 : decode cL_law 1267 = .ok (.iload 4, 2) := by decide +kernel
theorem dL_law_1269 : decode cL_law 1269 = .ok (.iconst 3, 1) := by decide +kernel
theorem dL_law_1270 : decode cL_law 1270 = .ok (.iadd, 1) := by decide +kernel
theorem dL_law_1271 : decode cL_law 1271 = .ok (.iaload, 1) := by decide +kernel
theorem dL_law_1272 : decode cL_law 1272 = .ok (.invokevirtual 190, 3) := by decide +kernel
theorem fv_RL_190 : FV RL 190 yX12_heap cX12_heap 4 (some .int) 3 := ⟨⟨gw_mem (by decide +kernel) (by decide +kernel), gw_mem (by decide +kernel) (by decide +kernel), gw_mem (by decide +kernel) (by decide +kernel), gw_mem (by decide +kernel) (by decide +kernel), gw_mem (by decide +kernel) (by decide +kernel)⟩, ⟨by decide +kernel, by decide +kernel, by decide +kernel⟩⟩
theorem dL_law_1275 : decode cL_law 1275 = .ok (.istore 6, 2) := by decide +kernel
theorem dL_law_1277 : decode cL_law 1277 = .ok (.aload_n 2, 1) := by decide +kernel
theorem dL_law_1278 : decode cL_law 1278 = .ok (.invokevirtual 134, 3) := by decide +kernel
theorem dL_law_1281 : decode cL_law 1281 = .ok (.iload 5, 2) := by decide +kernel
theorem dL_law_1283 : decode cL_law 1283 = .ok (.if_icmp .eq 5, 3) := by decide +kernel
theorem dL_law_1288 : decode cL_law 1288 = .ok (.iload 5, 2) := by decide +kernel
theorem dL_law_1290 : decode cL_law 1290 = .ok (.ifCond .ne 15, 3) := by decide +kernel
theorem dL_law_1305 : decode cL_law 1305 = .ok (.goto 1156, 3) := by decide +kernel
set_option maxRecDepth 100000 in
set_option maxHeartbeats 4000000 in
theorem s_L_17_0 {p : Program} {l : Launch} {e : Env} {s : State} {m : MethodId} {args : Array Value} {below : List Frame} {meth : Method} {c : Code} {Q : State → Prop} {D : va_G} {cy : Nat → ClassId} {A : Nat → Prop} {H : Heap} {locs : List Loc} {ls : Array Slot} {xs : Nat → Int32} (b q0 q1 q2 q4 q5 q6 q10 m0 m1 m2 m3 m4 m5 m6 m7 m8 m9 m10 m11 m12 m13 m14 m15 m16 m17 o0 : Nat) (y1 : Int32) (y2 : Int32) (y3 : Int32) (k0 : y1 < 0) (sx1 : xs 1 = y1) (sx2 : xs 2 = y2) (sx3 : xs 3 = y3) (hst : l.stackTraces = false) (C : Cx p s m args c cL_law RL D cy A) (hml : c.maxLocals = 8) (hX : va_X b 6 xs s s.heap) (hbl : b < s.heap.size) (hbA : ¬ A b) (w : Wd D A s.heap [(q0, .inr (11, [.ref q1, .int 0, .int 0, .int (-1), .ref q2, .ref q4, .ref q5, .ref q6, .ref q10, .null])), (m0, .inr (12, [.ref m1, .ref m2, .ref m3, .ref m4, .ref m5, .int 0, .ref m6, .int 0, .int 0, .int 0, .int 0, .int 0, .int 0, .int 0, .int 0, .int 0, .int 0, .int (-1), .ref m7, .ref m8, .int 0, .ref m9, .int 0, .ref m10, .ref m11, .ref m12, .ref m13, .ref m14, .int 0, .ref m15, .ref m16, .ref m17])), (m1, .inl (cy 1, 1868, .inl (upd (upd (upd (fun _ => 0) 1 2) 2 20) 3 120)))] H locs) (hl : lv_has ls 8 [(0, .ref b), (1, .ref q0), (2, .ref m0), (3, .ref o0), (4, .int 0)]) (kk : ∀ (H : Heap) (locs : List Loc) (ls : Array Slot), va_S A s.heap H locs → lv_has ls 8 [(0, .ref b), (4, .int 0)] → W p l e room_1 s m args below meth c H locs 600002 7302232 Q (F0 m 2461 ls [])) : W p l e room_1 s m args below meth c H locs 37 29845 Q (F0 m 1228 ls []) := by
  refine lv_aload_n C.1 C.2.1 dL_law_1228 rfl (lv_at hl 1 rfl) ?_
  refine lv_aload_n C.1 C.2.1 dL_law_1229 rfl (lv_at hl 0 rfl) ?_
  refine lv_iload C.1 C.2.1 dL_law_1230 (lv_at hl 4 rfl) ?_
  refine lv_iconst (v := 1) C.1 C.2.1 dL_law_1232 (by decide) ?_
  refine r_iadd C (v := 1) dL_law_1233 (by decide) ?_
  refine r_sld C w hX hbl hbA (v := y1) (vinD (by decide)) sx1 dL_law_1234 ?_
  refine lv_aload_n C.1 C.2.1 dL_law_1235 rfl (lv_at hl 0 rfl) ?_
  refine lv_iload C.1 C.2.1 dL_law_1236 (lv_at hl 4 rfl) ?_
  refine lv_iconst (v := 2) C.1 C.2.1 dL_law_1238 (by decide) ?_
  refine r_iadd C (v := 2) dL_law_1239 (by decide) ?_
  refine r_sld C w hX hbl hbA (v := y2) (vinD (by decide)) sx2 dL_law_1240 ?_
  refine lv_aload_n C.1 C.2.1 dL_law_1241 rfl (lv_at hl 0 rfl) ?_
  refine lv_iload C.1 C.2.1 dL_law_1242 (lv_at hl 4 rfl) ?_
  refine lv_iconst (v := 3) C.1 C.2.1 dL_law_1244 (by decide) ?_
  refine r_iadd C (v := 3) dL_law_1245 (by decide) ?_
  refine r_sld C w hX hbl hbA (v := y3) (vinD (by decide)) sx3 dL_law_1246 ?_
  refine lv_aload_n C.1 C.2.1 dL_law_1247 rfl (lv_at hl 3 rfl) ?_
  refine r_callH C w fh_RL_188 (c_L_heap_0 l D cy q0 o0 q1 q2 q4 q5 q6 q10 y1 y2 y3 k0 hst) (hl.1.trans hml.symm) [0] [1, 2] (wr := [(m0, .inr (12, [.ref m1, .ref m2, .ref m3, .ref m4, .ref m5, .int 0, .ref m6, .int 0, .int 0, .int 0, .int 0, .int 0, .int 0, .int 0, .int 0, .int 0, .int 0, .int (-1), .ref m7, .ref m8, .int 0, .ref m9, .int 0, .ref m10, .ref m11, .ref m12, .ref m13, .ref m14, .int 0, .ref m15, .ref m16, .ref m17])), (m1, .inl (cy 1, 1868, .inl (upd (upd (upd (fun _ => 0) 1 2) 2 20) 3 120)))]) ⟨rfl, rfl, rfl, rfl, by decide⟩ rfl rfl ⟨Nat.le_of_ble_eq_true rfl, Nat.le_of_ble_eq_true rfl, Nat.le_of_ble_eq_true rfl⟩ 38 29851 ⟨rfl, rfl, Nat.le_of_ble_eq_true rfl, Nat.le_of_ble_eq_true rfl⟩ dL_law_1248 (fun u H locs hp w => ?_)
  have w : Wd D A s.heap [(m0, .inr (12, [.ref m1, .ref m2, .ref m3, .ref m4, .ref m5, .int 0, .ref m6, .int 0, .int 0, .int 0, .int 0, .int 0, .int 0, .int 0, .int 0, .int 0, .int 0, .int (-1), .ref m7, .ref m8, .int 0, .ref m9, .int 0, .ref m10, .ref m11, .ref m12, .ref m13, .ref m14, .int 0, .ref m15, .ref m16, .ref m17])), (m1, .inl (cy 1, 1868, .inl (upd (upd (upd (fun _ => 0) 1 2) 2 20) 3 120)))] _ _ := w.pick [0, 1] rfl rfl
  refine r_top (g2 := F0 m 1251 ls [.int 1]) rfl ?_
  refine lv_istore (lv' := [(5, .int 1), (0, .ref b), (1, .ref q0), (2, .ref m0), (3, .ref o0), (4, .int 0)]) C.1 C.2.1 dL_law_1251 hl (by decide) rfl (fun ls hl => ?_)
  refine lv_aload_n C.1 C.2.1 dL_law_1253 rfl (lv_at hl 3 rfl) ?_
  refine lv_aload_n C.1 C.2.1 dL_law_1254 rfl (lv_at hl 1 rfl) ?_
  refine lv_iload C.1 C.2.1 dL_law_1255 (lv_at hl 5 rfl) ?_
  refine lv_iconst (v := 1) C.1 C.2.1 dL_law_1257 (by decide) ?_
  refine r_iadd C (v := 1) dL_law_1258 (by decide) ?_
  refine r_sld C w hX hbl hbA (v := y1) (vinD (by decide)) sx1 dL_law_1259 ?_
  refine lv_aload_n C.1 C.2.1 dL_law_1260 rfl (lv_at hl 1 rfl) ?_
  refine lv_iload C.1 C.2.1 dL_law_1261 (lv_at hl 5 rfl) ?_
  refine lv_iconst (v := 2) C.1 C.2.1 dL_law_1263 (by decide) ?_
  refine r_iadd C (v := 2) dL_law_1264 (by decide) ?_
  refine r_sld C w hX hbl hbA (v := y2) (vinD (by decide)) sx2 dL_law_1265 ?_
  refine lv_aload_n C.1 C.2.1 dL_law_1266 rfl (lv_at hl 1 rfl) ?_
  refine lv_iload C.1 C.2.1 dL_law_1267 (lv_at hl 5 rfl) ?_
  refine lv_iconst (v := 3) C.1 C.2.1 dL_law_1269 (by decide) ?_
  refine r_iadd C (v := 3) dL_law_1270 (by decide) ?_
  refine r_sld C w hX hbl hbA (v := y3) (vinD (by decide)) sx3 dL_law_1271 ?_
  refine r_callV C w fv_RL_190 (c_X12_heap_0 l D cy m0 m1 m2 m3 m4 m5 m6 m7 m8 m9 m10 m11 m12 m13 m14 m15 m16 m17 y1 y2 y3 k0) (hl.1.trans hml.symm) [0, 1] [] (wr := []) ⟨rfl, rfl, rfl, rfl, by decide⟩ 0 rfl rfl rfl rfl rfl ⟨Nat.le_of_ble_eq_true rfl, Nat.le_of_ble_eq_true rfl, Nat.le_of_ble_eq_true rfl⟩ 38 29851 ⟨rfl, rfl, Nat.le_of_ble_eq_true rfl, Nat.le_of_ble_eq_true rfl⟩ dL_law_1272 (fun u H locs hp w => ?_)
  have w : Wd D A s.heap [(m0, .inr (12, [.ref m1, .ref m2, .ref m3, .ref m4, .ref m5, .int 1, .ref m6, .int 0, .int 0, .int 0, .int 0, .int 0, .int 0, .int 0, .int 0, .int 0, .int 0, .int (-1), .ref m7, .ref m8, .int 0, .ref m9, .int 0, .ref m10, .ref m11, .ref m12, .ref m13, .ref m14, .int 0, .ref m15, .ref m16, .ref m17]))] _ _ := w.pick [0] rfl rfl
  refine r_top (g2 := F0 m 1275 ls [.int 0]) rfl ?_
  refine lv_istore (lv' := [(6, .int 0), (5, .int 1), (0, .ref b), (1, .ref q0), (2, .ref m0), (3, .ref o0), (4, .int 0)]) C.1 C.2.1 dL_law_1275 hl (by decide) rfl (fun ls hl => ?_)
  refine lv_aload_n C.1 C.2.1 dL_law_1277 rfl (lv_at hl 4 rfl) ?_
  refine r_callV C w fv_RL_134 (c_X12_thrown_0 l D cy m0 m1 m2 m3 m4 m5 m6 m7 m8 m9 m10 m11 m12 m13 m14 m15 m16 m17) (hl.1.trans hml.symm) [0] [] (wr := []) ⟨rfl, rfl, rfl, rfl, by decide⟩ 0 rfl rfl rfl rfl rfl ⟨Nat.le_of_ble_eq_true rfl, Nat.le_of_ble_eq_true rfl, Nat.le_of_ble_eq_true rfl⟩ 38 29851 ⟨rfl, rfl, Nat.le_of_ble_eq_true rfl, Nat.le_of_ble_eq_true rfl⟩ dL_law_1278 (fun u H locs hp w => ?_)
  have w : Wd D A s.heap [(m0, .inr (12, [.ref m1, .ref m2, .ref m3, .ref m4, .ref m5, .int 1, .ref m6, .int 0, .int 0, .int 0, .int 0, .int 0, .int 0, .int 0, .int 0, .int 0, .int 0, .int (-1), .ref m7, .ref m8, .int 0, .ref m9, .int 0, .ref m10, .ref m11, .ref m12, .ref m13, .ref m14, .int 0, .ref m15, .ref m16, .ref m17]))] _ _ := w.pick [0] rfl rfl
  refine r_top (g2 := F0 m 1281 ls [.int 1]) rfl ?_
  refine lv_iload C.1 C.2.1 dL_law_1281 (lv_at hl 1 rfl) ?_
  refine b_icmp_eq_t C (tgt := 1288) dL_law_1283 (by decide) (by decide) ?_
  refine lv_iload C.1 C.2.1 dL_law_1288 (lv_at hl 1 rfl) ?_
  refine b_if_ne_t C (tgt := 1305) dL_law_1290 (by decide) (by decide) ?_
  refine lv_goto (tgt := 2461) C.1 C.2.1 dL_law_1305 (by decide) ?_
  refine W.widen (k := 600002) (n := 7302232) (Nat.le_of_ble_eq_true rfl) (Nat.le_of_ble_eq_true rfl) ?_
  exact kk _ _ _ w.2.2 (lv_sub hl [2, 6] rfl)
set_option maxRecDepth 100000 in
set_option maxHeartbeats 4000000 in
theorem s_L_17_1 {p : Program} {l : Launch} {e : Env} {s : State} {m : MethodId} {args : Array Value} {below : List Frame} {meth : Method} {c : Code} {Q : State → Prop} {D : va_G} {cy : Nat → ClassId} {A : Nat → Prop} {H : Heap} {locs : List Loc} {ls : Array Slot} {xs : Nat → Int32} (b q0 q1 q2 q4 q5 q6 q10 q11 q12 q13 q14 q15 q16 q17 m0 m1 m2 m3 m4 m5 m6 m7 m8 m9 m10 m11 m12 m13 m14 m15 m16 m17 o0 : Nat) (y1 : Int32) (y2 : Int32) (y3 : Int32) (k0 : ¬ y1 < 0) (sx1 : xs 1 = y1) (sx2 : xs 2 = y2) (sx3 : xs 3 = y3) (hst : l.stackTraces = false) (C : Cx p s m args c cL_law RL D cy A) (hml : c.maxLocals = 8) (hX : va_X b 6 xs s s.heap) (hbl : b < s.heap.size) (hbA : ¬ A b) (w : Wd D A s.heap [(q0, .inr (11, [.ref q1, .int 0, .int 0, .int (-1), .ref q2, .ref q4, .ref q5, .ref q6, .ref q10, .null])), (q10, .inr (9, [.int 0, .int 2, .int 20, .int 120, .int 0, .int 0, .int 0, .int 0, .ref q11, .int 0, .ref q12, .ref q13, .int 0, .ref q14, .ref q15, .ref q16, .ref q17])), (m0, .inr (12, [.ref m1, .ref m2, .ref m3, .ref m4, .ref m5, .int 0, .ref m6, .int 0, .int 0, .int 0, .int 0, .int 0, .int 0, .int 0, .int 0, .int 0, .int 0, .int (-1), .ref m7, .ref m8, .int 0, .ref m9, .int 0, .ref m10, .ref m11, .ref m12, .ref m13, .ref m14, .int 0, .ref m15, .ref m16, .ref m17])), (m1, .inl (cy 1, 1868, .inl (upd (upd (upd (fun _ => 0) 1 2) 2 20) 3 120)))] H locs) (hl : lv_has ls 8 [(0, .ref b), (1, .ref q0), (2, .ref m0), (3, .ref o0), (4, .int 0)]) (kk : ∀ (H : Heap) (locs : List Loc) (ls : Array Slot), va_S A s.heap H locs → lv_has ls 8 [(0, .ref b), (4, .int 0)] → W p l e room_1 s m args below meth c H locs 600002 7302232 Q (F0 m 2461 ls [])) : W p l e room_1 s m args below meth c H locs 37 29845 Q (F0 m 1228 ls []) := by
  refine lv_aload_n C.1 C.2.1 dL_law_1228 rfl (lv_at hl 1 rfl) ?_
  refine lv_aload_n C.1 C.2.1 dL_law_1229 rfl (lv_at hl 0 rfl) ?_
  refine lv_iload C.1 C.2.1 dL_law_1230 (lv_at hl 4 rfl) ?_
  refine lv_iconst (v := 1) C.1 C.2.1 dL_law_1232 (by decide) ?_
  refine r_iadd C (v := 1) dL_law_1233 (by decide) ?_
  refine r_sld C w hX hbl hbA (v := y1) (vinD (by decide)) sx1 dL_law_1234 ?_
  refine lv_aload_n C.1 C.2.1 dL_law_1235 rfl (lv_at hl 0 rfl) ?_
  refine lv_iload C.1 C.2.1 dL_law_1236 (lv_at hl 4 rfl) ?_
  refine lv_iconst (v := 2) C.1 C.2.1 dL_law_1238 (by decide) ?_
  refine r_iadd C (v := 2) dL_law_1239 (by decide) ?_
  refine r_sld C w hX hbl hbA (v := y2) (vinD (by decide)) sx2 dL_law_1240 ?_
  refine lv_aload_n C.1 C.2.1 dL_law_1241 rfl (lv_at hl 0 rfl) ?_
  refine lv_iload C.1 C.2.1 dL_law_1242 (lv_at hl 4 rfl) ?_
  refine lv_iconst (v := 3) C.1 C.2.1 dL_law_1244 (by decide) ?_
  refine r_iadd C (v := 3) dL_law_1245 (by decide) ?_
  refine r_sld C w hX hbl hbA (v := y3) (vinD (by decide)) sx3 dL_law_1246 ?_
  refine lv_aload_n C.1 C.2.1 dL_law_1247 rfl (lv_at hl 3 rfl) ?_
  refine r_callH C w fh_RL_188 (c_L_heap_1 l D cy q0 o0 q1 q2 q4 q5 q6 q10 q11 q12 q13 q14 q15 q16 q17 y1 y2 y3 k0 hst) (hl.1.trans hml.symm) [0, 1] [2, 3] (wr := [(m0, .inr (12, [.ref m1, .ref m2, .ref m3, .ref m4, .ref m5, .int 0, .ref m6, .int 0, .int 0, .int 0, .int 0, .int 0, .int 0, .int 0, .int 0, .int 0, .int 0, .int (-1), .ref m7, .ref m8, .int 0, .ref m9, .int 0, .ref m10, .ref m11, .ref m12, .ref m13, .ref m14, .int 0, .ref m15, .ref m16, .ref m17])), (m1, .inl (cy 1, 1868, .inl (upd (upd (upd (fun _ => 0) 1 2) 2 20) 3 120)))]) ⟨rfl, rfl, rfl, rfl, by decide⟩ rfl rfl ⟨Nat.le_of_ble_eq_true rfl, Nat.le_of_ble_eq_true rfl, Nat.le_of_ble_eq_true rfl⟩ 38 29851 ⟨rfl, rfl, Nat.le_of_ble_eq_true rfl, Nat.le_of_ble_eq_true rfl⟩ dL_law_1248 (fun u H locs hp w => ?_)
  have w : Wd D A s.heap [(m0, .inr (12, [.ref m1, .ref m2, .ref m3, .ref m4, .ref m5, .int 0, .ref m6, .int 0, .int 0, .int 0, .int 0, .int 0, .int 0, .int 0, .int 0, .int 0, .int 0, .int (-1), .ref m7, .ref m8, .int 0, .ref m9, .int 0, .ref m10, .ref m11, .ref m12, .ref m13, .ref m14, .int 0, .ref m15, .ref m16, .ref m17])), (m1, .inl (cy 1, 1868, .inl (upd (upd (upd (fun _ => 0) 1 2) 2 20) 3 120)))] _ _ := w.pick [0, 1] rfl rfl
  refine r_top (g2 := F0 m 1251 ls [.int 1]) rfl ?_
  refine lv_istore (lv' := [(5, .int 1), (0, .ref b), (1, .ref q0), (2, .ref m0), (3, .ref o0), (4, .int 0)]) C.1 C.2.1 dL_law_1251 hl (by decide) rfl (fun ls hl => ?_)
  refine lv_aload_n C.1 C.2.1 dL_law_1253 rfl (lv_at hl 3 rfl) ?_
  refine lv_aload_n C.1 C.2.1 dL_law_1254 rfl (lv_at hl 1 rfl) ?_
  refine lv_iload C.1 C.2.1 dL_law_1255 (lv_at hl 5 rfl) ?_
  refine lv_iconst (v := 1) C.1 C.2.1 dL_law_1257 (by decide) ?_
  refine r_iadd C (v := 1) dL_law_1258 (by decide) ?_
  refine r_sld C w hX hbl hbA (v := y1) (vinD (by decide)) sx1 dL_law_1259 ?_
  refine lv_aload_n C.1 C.2.1 dL_law_1260 rfl (lv_at hl 1 rfl) ?_
  refine lv_iload C.1 C.2.1 dL_law_1261 (lv_at hl 5 rfl) ?_
  refine lv_iconst (v := 2) C.1 C.2.1 dL_law_1263 (by decide) ?_
  refine r_iadd C (v := 2) dL_law_1264 (by decide) ?_
  refine r_sld C w hX hbl hbA (v := y2) (vinD (by decide)) sx2 dL_law_1265 ?_
  refine lv_aload_n C.1 C.2.1 dL_law_1266 rfl (lv_at hl 1 rfl) ?_
  refine lv_iload C.1 C.2.1 dL_law_1267 (lv_at hl 5 rfl) ?_
  refine lv_iconst (v := 3) C.1 C.2.1 dL_law_1269 (by decide) ?_
  refine r_iadd C (v := 3) dL_law_1270 (by decide) ?_
  refine r_sld C w hX hbl hbA (v := y3) (vinD (by decide)) sx3 dL_law_1271 ?_
  refine r_callV C w fv_RL_190 (c_X12_heap_1 l D cy m0 m1 m2 m3 m4 m5 m6 m7 m8 m9 m10 m11 m12 m13 m14 m15 m16 m17 y1 y2 y3 k0) (hl.1.trans hml.symm) [0, 1] [] (wr := []) ⟨rfl, rfl, rfl, rfl, by decide⟩ 0 rfl rfl rfl rfl rfl ⟨Nat.le_of_ble_eq_true rfl, Nat.le_of_ble_eq_true rfl, Nat.le_of_ble_eq_true rfl⟩ 38 29851 ⟨rfl, rfl, Nat.le_of_ble_eq_true rfl, Nat.le_of_ble_eq_true rfl⟩ dL_law_1272 (fun u H locs hp w => ?_)
  have w : Wd D A s.heap [(m0, .inr (12, [.ref m1, .ref m2, .ref m3, .ref m4, .ref m5, .int 1, .ref m6, .int 0, .int 0, .int 0, .int 0, .int 0, .int 0, .int 0, .int 0, .int 0, .int 0, .int (-1), .ref m7, .ref m8, .int 0, .ref m9, .int 0, .ref m10, .ref m11, .ref m12, .ref m13, .ref m14, .int 0, .ref m15, .ref m16, .ref m17]))] _ _ := w.pick [0] rfl rfl
  refine r_top (g2 := F0 m 1275 ls [.int 0]) rfl ?_
  refine lv_istore (lv' := [(6, .int 0), (5, .int 1), (0, .ref b), (1, .ref q0), (2, .ref m0), (3, .ref o0), (4, .int 0)]) C.1 C.2.1 dL_law_1275 hl (by decide) rfl (fun ls hl => ?_)
  refine lv_aload_n C.1 C.2.1 dL_law_1277 rfl (lv_at hl 4 rfl) ?_
  refine r_callV C w fv_RL_134 (c_X12_thrown_0 l D cy m0 m1 m2 m3 m4 m5 m6 m7 m8 m9 m10 m11 m12 m13 m14 m15 m16 m17) (hl.1.trans hml.symm) [0] [] (wr := []) ⟨rfl, rfl, rfl, rfl, by decide⟩ 0 rfl rfl rfl rfl rfl ⟨Nat.le_of_ble_eq_true rfl, Nat.le_of_ble_eq_true rfl, Nat.le_of_ble_eq_true rfl⟩ 38 29851 ⟨rfl, rfl, Nat.le_of_ble_eq_true rfl, Nat.le_of_ble_eq_true rfl⟩ dL_law_1278 (fun u H locs hp w => ?_)
  have w : Wd D A s.heap [(m0, .inr (12, [.ref m1, .ref m2, .ref m3, .ref m4, .ref m5, .int 1, .ref m6, .int 0, .int 0, .int 0, .int 0, .int 0, .int 0, .int 0, .int 0, .int 0, .int 0, .int (-1), .ref m7, .ref m8, .int 0, .ref m9, .int 0, .ref m10, .ref m11, .ref m12, .ref m13, .ref m14, .int 0, .ref m15, .ref m16, .ref m17]))] _ _ := w.pick [0] rfl rfl
  refine r_top (g2 := F0 m 1281 ls [.int 1]) rfl ?_
  refine lv_iload C.1 C.2.1 dL_law_1281 (lv_at hl 1 rfl) ?_
  refine b_icmp_eq_t C (tgt := 1288) dL_law_1283 (by decide) (by decide) ?_
  refine lv_iload C.1 C.2.1 dL_law_1288 (lv_at hl 1 rfl) ?_
  refine b_if_ne_t C (tgt := 1305) dL_law_1290 (by decide) (by decide) ?_
  refine lv_goto (tgt := 2461) C.1 C.2.1 dL_law_1305 (by decide) ?_
  refine W.widen (k := 600002) (n := 7302232) (Nat.le_of_ble_eq_true rfl) (Nat.le_of_ble_eq_true rfl) ?_
  exact kk _ _ _ w.2.2 (lv_sub hl [2, 6] rfl)
set_option maxRecDepth 100000 in
set_option maxHeartbeats 4000000 in
theorem t_L_17 {p : Program} {l : Launch} {e : Env} {s : State} {m : MethodId} {args : Array Value} {below : List Frame} {meth : Method} {c : Code} {Q : State → Prop} {D : va_G} {cy : Nat → ClassId} {A : Nat → Prop} {H : Heap} {locs : List Loc} {ls : Array Slot} {xs : Nat → Int32} (b q0 q1 q2 q4 q5 q6 q10 q3 q7 q8 q9 q11 q12 q13 q14 q15 q16 q17 m0 m1 m2 m3 m4 m5 m6 m7 m8 m9 m10 m11 m12 m13 m14 m15 m16 m17 o0 : Nat) (hst : l.stackTraces = false) (C : Cx p s m args c cL_law RL D cy A) (hml : c.maxLocals = 8) (hX : va_X b 6 xs s s.heap) (hbl : b < s.heap.size) (hbA : ¬ A b) (w : Wd D A s.heap [(q0, .inr (11, [.ref q1, .int 0, .int 0, .int (-1), .ref q2, .ref q4, .ref q5, .ref q6, .ref q10, .null])), (q1, .inl (cy 0, 900, .inl (fun _ => 0))), (q2, .inr (5, [.ref q3, .int 0, .int 0, .int 0, .int 0, .int 0, .int 0, .null])), (q3, .inl (cy 0, 0, .inl (fun _ => 0))), (q4, .inl (cy 4, 5, .inr (.inr (.inr (.inr (va_up (fun _ => none) 0 (some q10))))))), (q5, .inl (cy 4, 3, .inr (.inr (.inr (.inr (fun _ => none)))))), (q6, .inr (10, [.ref q7, .ref q8, .ref q9])), (q7, .inl (cy 1, 4, .inl (upd (upd (upd (upd (fun _ => 0) 0 (-1)) 1 (-1)) 2 (-1)) 3 (-1)))), (q8, .inl (cy 1, 4, .inl (fun _ => 0))), (q9, .inl (cy 2, 160, .inr (.inl (fun _ => 0)))), (q10, .inr (9, [.int 0, .int 2, .int 20, .int 120, .int 0, .int 0, .int 0, .int 0, .ref q11, .int 0, .ref q12, .ref q13, .int 0, .ref q14, .ref q15, .ref q16, .ref q17])), (q11, .inl (cy 1, 6, .inl (fun _ => 0))), (q12, .inl (cy 1, 20, .inl (fun _ => 0))), (q13, .inl (cy 1, 20, .inl (fun _ => 0))), (q14, .inl (cy 1, 300, .inl (fun _ => 0))), (q15, .inl (cy 1, 300, .inl (fun _ => 0))), (q16, .inl (cy 1, 300, .inl (fun _ => 0))), (q17, .inl (cy 1, 300, .inl (fun _ => 0))), (m0, .inr (12, [.ref m1, .ref m2, .ref m3, .ref m4, .ref m5, .int 0, .ref m6, .int 0, .int 0, .int 0, .int 0, .int 0, .int 0, .int 0, .int 0, .int 0, .int 0, .int (-1), .ref m7, .ref m8, .int 0, .ref m9, .int 0, .ref m10, .ref m11, .ref m12, .ref m13, .ref m14, .int 0, .ref m15, .ref m16, .ref m17])), (m2, .inl (cy 1, 1868, .inl (fun _ => 0))), (m3, .inl (cy 1, 1868, .inl (fun _ => 0))), (m4, .inl (cy 1, 5604, .inl (fun _ => 0))), (m5, .inl (cy 3, 3, .inl (fun _ => 0))), (m6, .inl (cy 1, 900, .inl (fun _ => 0))), (m7, .inl (cy 1, 1830, .inl (fun _ => 0))), (m8, .inl (cy 1, 1830, .inl (fun _ => 0))), (m9, .inl (cy 2, 2465, .inr (.inl (fun _ => 0)))), (m10, .inl (cy 1, 7201, .inl (fun _ => 0))), (m11, .inl (cy 1, 1830, .inl (fun _ => 0))), (m12, .inl (cy 1, 5, .inl (fun _ => 0))), (m13, .inl (cy 1, 6, .inl (fun _ => 0))), (m14, .inl (cy 1, 6, .inl (fun _ => 0))), (m15, .inl (cy 1, 4, .inl (upd (upd (upd (upd (fun _ => 0) 0 (-1)) 1 (-1)) 2 (-1)) 3 (-1)))), (m16, .inl (cy 1, 4, .inl (fun _ => 0))), (m17, .inl (cy 2, 160, .inr (.inl (fun _ => 0)))), (m1, .inl (cy 1, 1868, .inl (upd (upd (upd (fun _ => 0) 1 2) 2 20) 3 120))), (o0, .inl (cy 2, 1, .inr (.inl (fun _ => 0))))] H locs) (hl : lv_has ls 8 [(0, .ref b), (1, .ref q0), (2, .ref m0), (3, .ref o0), (4, .int 0)]) (kk : ∀ (H : Heap) (locs : List Loc) (ls : Array Slot), va_S A s.heap H locs → lv_has ls 8 [(0, .ref b), (4, .int 0)] → W p l e room_1 s m args below meth c H locs 600002 7302232 Q (F0 m 2461 ls [])) : W p l e room_1 s m args below meth c H locs 37 29845 Q (F0 m 1228 ls []) := by
  obtain ⟨y1, sx1⟩ : ∃ y, xs 1 = y := ⟨_, rfl⟩
  obtain ⟨y2, sx2⟩ : ∃ y, xs 2 = y := ⟨_, rfl⟩
  obtain ⟨y3, sx3⟩ : ∃ y, xs 3 = y := ⟨_, rfl⟩
  obtain ⟨y4, sx4⟩ : ∃ y, xs 4 = y := ⟨_, rfl⟩
  obtain ⟨y5, sx5⟩ : ∃ y, xs 5 = y := ⟨_, rfl⟩
  by_cases g1 : y1 < 0
  · exact s_L_17_0 b q0 q1 q2 q4 q5 q6 q10 m0 m1 m2 m3 m4 m5 m6 m7 m8 m9 m10 m11 m12 m13 m14 m15 m16 m17 o0 y1 y2 y3 g1 sx1 sx2 sx3 hst C hml hX hbl hbA (w.pick [0, 18, 35] rfl rfl) hl kk
  · exact s_L_17_1 b q0 q1 q2 q4 q5 q6 q10 q11 q12 q13 q14 q15 q16 q17 m0 m1 m2 m3 m4 m5 m6 m7 m8 m9 m10 m11 m12 m13 m14 m15 m16 m17 o0 y1 y2 y3 g1 sx1 sx2 sx3 hst C hml hX hbl hbA (w.pick [0, 10, 18, 35] rfl rfl) hl kk
theorem dL_law_1308 : decode cL_law 1308 = .ok (.aload_n 1, 1) := by decide +kernel
theorem dL_law_1309 : decode cL_law 1309 = .ok (.aload_n 0, 1) := by decide +kernel
theorem dL_law_1310 : decode cL_law 1310 = .ok (.iload 4, 2) := by decide +kernel
theorem dL_law_1312 : decode cL_law 1312 = .ok (.iconst 1, 1) := by decide +kernel
theorem dL_law_1313 : decode cL_law 1313 = .ok (.iadd, 1) := by decide +kernel
theorem dL_law_1314 : decode cL_law 1314 = .ok (.iaload, 1) := by decide +kernel
theorem dL_law_1315 : decode cL_law 1315 = .ok (.aload_n 3, 1) := by decide +kernel
theorem dL_law_1316 : decode cL_law 1316 = .ok (.invokestatic 191, 3) := by decide +kernel
theorem fh_RL_191 : FH RL 191 yL_strikes cL_strikes 4 (some .int) [(0, 9, 12, 13)] 3 := ⟨⟨gw_mem (by decide +kernel) (by decide +kernel), gw_mem (by decide +kernel) (by decide +kernel), gw_mem (by decide +kernel) (by decide +kernel), gw_mem (by decide +kernel) (by decide +kernel)⟩, ⟨by decide +kernel, by decide +kernel, by decide +kernel⟩⟩
theorem dL_law_1319 : decode cL_law 1319 = .ok (.istore 5, 2) := by decide +kernel
theorem dL_law_1321 : decode cL_law 1321 = .ok (.aload_n 2, 1) := by decide +kernel
theorem dL_law_1322 : decode cL_law 1322 = .ok (.aload_n 0, 1) := by decide +kernel
theorem dL_law_1323 : decode cL_law 1323 = .ok (.iload 4, 2) := by decide +kernel
theorem dL_law_1325 : decode cL_law 1325 = .ok (.iconst 1, 1) := by decide +kernel
theorem dL_law_1326 : decode cL_law 1326 = .ok (.iadd, 1) := by decide +kernel
theorem dL_law_1327 : decode cL_law 1327 = .ok (.iaload, 1) := by decide +kernel
theorem dL_law_1328 : decode cL_law 1328 = .ok (.invokevirtual 193, 3) := by decide +kernel
theorem fv_RL_193 : FV RL 193 yX12_strikes cX12_strikes 6 (some .int) 1 := ⟨⟨gw_mem (by decide +kernel) (by decide +kernel), gw_mem (by decide +kernel) (by decide +kernel), gw_mem (by decide +kernel) (by decide +kernel), gw_mem (by decide +kernel) (by decide +kernel), gw_mem (by decide +kernel) (by decide +kernel)⟩, ⟨by decide +kernel, by decide +kernel, by decide +kernel⟩⟩
theorem dL_law_1331 : decode cL_law 1331 = .ok (.istore 6, 2) := by decide +kernel
theorem dL_law_1333 : decode cL_law 1333 = .ok (.aload_n 2, 1) := by decide +kernel
theorem dL_law_1334 : decode cL_law 1334 = .ok (.invokevirtual 134, 3) := by decide +kernel
theorem dL_law_1337 : decode cL_law 1337 = .ok (.iload 5, 2) := by decide +kernel
theorem dL_law_1339 : decode cL_law 1339 = .ok (.if_icmp .eq 5, 3) := by decide +kernel
theorem dL_law_1344 : decode cL_law 1344 = .ok (.iload 5, 2) := by decide +kernel
theorem dL_law_1346 : decode cL_law 1346 = .ok (.ifCond .ne 15, 3) := by decide +kernel
theorem dL_law_1349 : decode cL_law 1349 = .ok (.aload_n 3, 1) := by decide +kernel
theorem dL_law_1350 : decode cL_law 1350 = .ok (.iconst 0, 1) := by decide +kernel
theorem dL_law_1351 : decode cL_law 1351 = .ok (.laload, 1) := by decide +kernel
theorem dL_law_1352 : decode cL_law 1352 = .ok (.iload 6, 2) := by decide +kernel
theorem dL_law_1354 : decode cL_law 1354 = .ok (.i2l, 1) := by decide +kernel
theorem dL_law_1355 : decode cL_law 1355 = .ok (.lcmp, 1) := by decide +kernel
theorem dL_law_1356 : decode cL_law 1356 = .ok (.ifCond .eq 5, 3) := by decide +kernel
theorem dL_law_1361 : decode cL_law 1361 = .ok (.goto 1100, 3) := by decide +kernel
set_option maxRecDepth 100000 in
set_option maxHeartbeats 4000000 in
theorem s_L_18_0 {p : Program} {l : Launch} {e : Env} {s : State} {m : MethodId} {args : Array Value} {below : List Frame} {meth : Method} {c : Code} {Q : State → Prop} {D : va_G} {cy : Nat → ClassId} {A : Nat → Prop} {H : Heap} {locs : List Loc} {ls : Array Slot} {xs : Nat → Int32} (b q0 q1 q2 q4 q5 q6 q10 q11 q12 q13 q14 q15 q16 q17 m0 m1 m2 m3 m4 m5 m6 m7 m8 m9 m10 m11 m12 m13 m14 m15 m16 m17 o0 : Nat) (sx1 : xs 1 = 0) (C : Cx p s m args c cL_law RL D cy A) (hml : c.maxLocals = 8) (hX : va_X b 6 xs s s.heap) (hbl : b < s.heap.size) (hbA : ¬ A b) (w : Wd D A s.heap [(q0, .inr (11, [.ref q1, .int 0, .int 0, .int (-1), .ref q2, .ref q4, .ref q5, .ref q6, .ref q10, .null])), (q10, .inr (9, [.int 0, .int 2, .int 20, .int 120, .int 0, .int 0, .int 0, .int 0, .ref q11, .int 0, .ref q12, .ref q13, .int 0, .ref q14, .ref q15, .ref q16, .ref q17])), (m0, .inr (12, [.ref m1, .ref m2, .ref m3, .ref m4, .ref m5, .int 0, .ref m6, .int 0, .int 0, .int 0, .int 0, .int 0, .int 0, .int 0, .int 0, .int 0, .int 0, .int (-1), .ref m7, .ref m8, .int 0, .ref m9, .int 0, .ref m10, .ref m11, .ref m12, .ref m13, .ref m14, .int 0, .ref m15, .ref m16, .ref m17])), (m7, .inl (cy 1, 1830, .inl (fun _ => 0))), (m8, .inl (cy 1, 1830, .inl (fun _ => 0))), (m9, .inl (cy 2, 2465, .inr (.inl (fun _ => 0)))), (m1, .inl (cy 1, 1868, .inl (upd (upd (upd (fun _ => 0) 1 2) 2 20) 3 120))), (o0, .inl (cy 2, 1, .inr (.inl (fun _ => 0))))] H locs) (hl : lv_has ls 8 [(0, .ref b), (1, .ref q0), (2, .ref m0), (3, .ref o0), (4, .int 0)]) (kk : ∀ (H : Heap) (locs : List Loc) (ls : Array Slot), va_S A s.heap H locs → lv_has ls 8 [(0, .ref b), (4, .int 0)] → W p l e room_1 s m args below meth c H locs 600002 7302232 Q (F0 m 2461 ls [])) : W p l e room_1 s m args below meth c H locs 37 29845 Q (F0 m 1308 ls []) := by
  refine lv_aload_n C.1 C.2.1 dL_law_1308 rfl (lv_at hl 1 rfl) ?_
  refine lv_aload_n C.1 C.2.1 dL_law_1309 rfl (lv_at hl 0 rfl) ?_
  refine lv_iload C.1 C.2.1 dL_law_1310 (lv_at hl 4 rfl) ?_
  refine lv_iconst (v := 1) C.1 C.2.1 dL_law_1312 (by decide) ?_
  refine r_iadd C (v := 1) dL_law_1313 (by decide) ?_
  refine r_sld C w hX hbl hbA (v := 0) (vinD (by decide)) sx1 dL_law_1314 ?_
  refine lv_aload_n C.1 C.2.1 dL_law_1315 rfl (lv_at hl 3 rfl) ?_
  refine r_callH C w fh_RL_191 (c_L_strikes_0 l D cy q0 o0 q1 q2 q4 q5 q6 q10 q11 q12 q13 q14 q15 q16 q17) (hl.1.trans hml.symm) [0, 1, 7] [2, 3, 4, 5, 6] (wr := [(m0, .inr (12, [.ref m1, .ref m2, .ref m3, .ref m4, .ref m5, .int 0, .ref m6, .int 0, .int 0, .int 0, .int 0, .int 0, .int 0, .int 0, .int 0, .int 0, .int 0, .int (-1), .ref m7, .ref m8, .int 0, .ref m9, .int 0, .ref m10, .ref m11, .ref m12, .ref m13, .ref m14, .int 0, .ref m15, .ref m16, .ref m17])), (m7, .inl (cy 1, 1830, .inl (fun _ => 0))), (m8, .inl (cy 1, 1830, .inl (fun _ => 0))), (m9, .inl (cy 2, 2465, .inr (.inl (fun _ => 0)))), (m1, .inl (cy 1, 1868, .inl (upd (upd (upd (fun _ => 0) 1 2) 2 20) 3 120)))]) ⟨rfl, rfl, rfl, rfl, by decide⟩ rfl rfl ⟨Nat.le_of_ble_eq_true rfl, Nat.le_of_ble_eq_true rfl, Nat.le_of_ble_eq_true rfl⟩ 73 53662 ⟨rfl, rfl, Nat.le_of_ble_eq_true rfl, Nat.le_of_ble_eq_true rfl⟩ dL_law_1316 (fun u H locs hp w => ?_)
  obtain ⟨n1, n2, n3, n4, n5, n6, n7, n8, n9, n10, n11, n12, n13, n14, n15, n16, n17, n18, n19, n20, n21, n22, n23, n24, n25, n26, n27, n28, n29, n30, n31, n32, n33, n34, n35, n36⟩ := u
  have w : Wd D A s.heap [(m0, .inr (12, [.ref m1, .ref m2, .ref m3, .ref m4, .ref m5, .int 0, .ref m6, .int 0, .int 0, .int 0, .int 0, .int 0, .int 0, .int 0, .int 0, .int 0, .int 0, .int (-1), .ref m7, .ref m8, .int 0, .ref m9, .int 0, .ref m10, .ref m11, .ref m12, .ref m13, .ref m14, .int 0, .ref m15, .ref m16, .ref m17])), (m7, .inl (cy 1, 1830, .inl (fun _ => 0))), (m8, .inl (cy 1, 1830, .inl (fun _ => 0))), (m9, .inl (cy 2, 2465, .inr (.inl (fun _ => 0)))), (m1, .inl (cy 1, 1868, .inl (upd (upd (upd (fun _ => 0) 1 2) 2 20) 3 120))), (o0, .inl (cy 2, 1, .inr (.inl (vp_updL (fun _ => 0) 0 0))))] _ _ := w.pick [0, 1, 2, 3, 4, 5] rfl rfl
  refine r_top (g2 := F0 m 1319 ls [.int 0]) rfl ?_
  refine lv_istore (lv' := [(5, .int 0), (0, .ref b), (1, .ref q0), (2, .ref m0), (3, .ref o0), (4, .int 0)]) C.1 C.2.1 dL_law_1319 hl (by decide) rfl (fun ls hl => ?_)
  refine lv_aload_n C.1 C.2.1 dL_law_1321 rfl (lv_at hl 3 rfl) ?_
  refine lv_aload_n C.1 C.2.1 dL_law_1322 rfl (lv_at hl 1 rfl) ?_
  refine lv_iload C.1 C.2.1 dL_law_1323 (lv_at hl 5 rfl) ?_
  refine lv_iconst (v := 1) C.1 C.2.1 dL_law_1325 (by decide) ?_
  refine r_iadd C (v := 1) dL_law_1326 (by decide) ?_
  refine r_sld C w hX hbl hbA (v := 0) (vinD (by decide)) sx1 dL_law_1327 ?_
  refine r_callV C w fv_RL_193 (c_X12_strikes_2 l D cy m0 m1 m2 m3 m4 m5 m6 m7 m8 m9 m10 m11 m12 m13 m14 m15 m16 m17) (hl.1.trans hml.symm) [0, 4, 1, 2, 3] [5] (wr := [(o0, .inl (cy 2, 1, .inr (.inl (vp_updL (fun _ => 0) 0 0))))]) ⟨rfl, rfl, rfl, rfl, by decide⟩ 0 rfl rfl rfl rfl rfl ⟨Nat.le_of_ble_eq_true rfl, Nat.le_of_ble_eq_true rfl, Nat.le_of_ble_eq_true rfl⟩ 73 53662 ⟨rfl, rfl, Nat.le_of_ble_eq_true rfl, Nat.le_of_ble_eq_true rfl⟩ dL_law_1328 (fun u H locs hp w => ?_)
  have w : Wd D A s.heap [(o0, .inl (cy 2, 1, .inr (.inl (vp_updL (fun _ => 0) 0 0)))), (m0, .inr (12, [.ref m1, .ref m2, .ref m3, .ref m4, .ref m5, .int 0, .ref m6, .int 0, .int 0, .int 0, .int 0, .int 0, .int 0, .int 0, .int 0, .int 0, .int 0, .int (-1), .ref m7, .ref m8, .int 190, .ref m9, .int 21, .ref m10, .ref m11, .ref m12, .ref m13, .ref m14, .int 0, .ref m15, .ref m16, .ref m17]))] _ _ := w.pick [0, 4] rfl rfl
  refine r_top (g2 := F0 m 1331 ls [.int 0]) rfl ?_
  refine lv_istore (lv' := [(6, .int 0), (5, .int 0), (0, .ref b), (1, .ref q0), (2, .ref m0), (3, .ref o0), (4, .int 0)]) C.1 C.2.1 dL_law_1331 hl (by decide) rfl (fun ls hl => ?_)
  refine lv_aload_n C.1 C.2.1 dL_law_1333 rfl (lv_at hl 4 rfl) ?_
  refine r_callV C w fv_RL_134 (c_X12_thrown_5 l D cy m0 m1 m2 m3 m4 m5 m6 m7 m8 m9 m10 m11 m12 m13 m14 m15 m16 m17) (hl.1.trans hml.symm) [1] [0] (wr := [(o0, .inl (cy 2, 1, .inr (.inl (vp_updL (fun _ => 0) 0 0))))]) ⟨rfl, rfl, rfl, rfl, by decide⟩ 0 rfl rfl rfl rfl rfl ⟨Nat.le_of_ble_eq_true rfl, Nat.le_of_ble_eq_true rfl, Nat.le_of_ble_eq_true rfl⟩ 73 53662 ⟨rfl, rfl, Nat.le_of_ble_eq_true rfl, Nat.le_of_ble_eq_true rfl⟩ dL_law_1334 (fun u H locs hp w => ?_)
  have w : Wd D A s.heap [(o0, .inl (cy 2, 1, .inr (.inl (vp_updL (fun _ => 0) 0 0)))), (m0, .inr (12, [.ref m1, .ref m2, .ref m3, .ref m4, .ref m5, .int 0, .ref m6, .int 0, .int 0, .int 0, .int 0, .int 0, .int 0, .int 0, .int 0, .int 0, .int 0, .int (-1), .ref m7, .ref m8, .int 190, .ref m9, .int 21, .ref m10, .ref m11, .ref m12, .ref m13, .ref m14, .int 0, .ref m15, .ref m16, .ref m17]))] _ _ := w.pick [0, 1] rfl rfl
  refine r_top (g2 := F0 m 1337 ls [.int 0]) rfl ?_
  refine lv_iload C.1 C.2.1 dL_law_1337 (lv_at hl 1 rfl) ?_
  refine b_icmp_eq_t C (tgt := 1344) dL_law_1339 (by decide) (by decide) ?_
  refine lv_iload C.1 C.2.1 dL_law_1344 (lv_at hl 1 rfl) ?_
  refine b_if_ne_f C (tgt := 1361) dL_law_1346 (by decide) (by decide) ?_
  refine lv_aload_n C.1 C.2.1 dL_law_1349 rfl (lv_at hl 5 rfl) ?_
  refine lv_iconst (v := 0) C.1 C.2.1 dL_law_1350 (by decide) ?_
  refine r_lald C w 0 rfl (v := 0) (vinD (by decide)) rfl dL_law_1351 ?_
  refine lv_iload C.1 C.2.1 dL_law_1352 (lv_at hl 0 rfl) ?_
  refine lv_i2l (v := 0) C.1 C.2.1 dL_law_1354 (by decide) ?_
  refine r_lcmp C (v := 0) dL_law_1355 (by decide) ?_
  refine b_if_eq_t C (tgt := 1361) dL_law_1356 (by decide) (by decide) ?_
  refine lv_goto (tgt := 2461) C.1 C.2.1 dL_law_1361 (by decide) ?_
  refine W.widen (k := 600002) (n := 7302232) (Nat.le_of_ble_eq_true rfl) (Nat.le_of_ble_eq_true rfl) ?_
  exact kk _ _ _ w.2.2 (lv_sub hl [2, 6] rfl)
set_option maxRecDepth 100000 in
set_option maxHeartbeats 4000000 in
theorem s_L_18_1 {p : Program} {l : Launch} {e : Env} {s : State} {m : MethodId} {args : Array Value} {below : List Frame} {meth : Method} {c : Code} {Q : State → Prop} {D : va_G} {cy : Nat → ClassId} {A : Nat → Prop} {H : Heap} {locs : List Loc} {ls : Array Slot} {xs : Nat → Int32} (b q0 q1 q2 q4 q5 q6 q10 q11 q12 q13 q14 q15 q16 q17 m0 m1 m2 m3 m4 m5 m6 m7 m8 m9 m10 m11 m12 m13 m14 m15 m16 m17 o0 : Nat) (sx1 : xs 1 = 1) (C : Cx p s m args c cL_law RL D cy A) (hml : c.maxLocals = 8) (hX : va_X b 6 xs s s.heap) (hbl : b < s.heap.size) (hbA : ¬ A b) (w : Wd D A s.heap [(q0, .inr (11, [.ref q1, .int 0, .int 0, .int (-1), .ref q2, .ref q4, .ref q5, .ref q6, .ref q10, .null])), (q10, .inr (9, [.int 0, .int 2, .int 20, .int 120, .int 0, .int 0, .int 0, .int 0, .ref q11, .int 0, .ref q12, .ref q13, .int 0, .ref q14, .ref q15, .ref q16, .ref q17])), (m0, .inr (12, [.ref m1, .ref m2, .ref m3, .ref m4, .ref m5, .int 0, .ref m6, .int 0, .int 0, .int 0, .int 0, .int 0, .int 0, .int 0, .int 0, .int 0, .int 0, .int (-1), .ref m7, .ref m8, .int 0, .ref m9, .int 0, .ref m10, .ref m11, .ref m12, .ref m13, .ref m14, .int 0, .ref m15, .ref m16, .ref m17])), (m7, .inl (cy 1, 1830, .inl (fun _ => 0))), (m8, .inl (cy 1, 1830, .inl (fun _ => 0))), (m9, .inl (cy 2, 2465, .inr (.inl (fun _ => 0)))), (m1, .inl (cy 1, 1868, .inl (upd (upd (upd (fun _ => 0) 1 2) 2 20) 3 120))), (o0, .inl (cy 2, 1, .inr (.inl (fun _ => 0))))] H locs) (hl : lv_has ls 8 [(0, .ref b), (1, .ref q0), (2, .ref m0), (3, .ref o0), (4, .int 0)]) (kk : ∀ (H : Heap) (locs : List Loc) (ls : Array Slot), va_S A s.heap H locs → lv_has ls 8 [(0, .ref b), (4, .int 0)] → W p l e room_1 s m args below meth c H locs 600002 7302232 Q (F0 m 2461 ls [])) : W p l e room_1 s m args below meth c H locs 37 29845 Q (F0 m 1308 ls []) := by
  refine lv_aload_n C.1 C.2.1 dL_law_1308 rfl (lv_at hl 1 rfl) ?_
  refine lv_aload_n C.1 C.2.1 dL_law_1309 rfl (lv_at hl 0 rfl) ?_
  refine lv_iload C.1 C.2.1 dL_law_1310 (lv_at hl 4 rfl) ?_
  refine lv_iconst (v := 1) C.1 C.2.1 dL_law_1312 (by decide) ?_
  refine r_iadd C (v := 1) dL_law_1313 (by decide) ?_
  refine r_sld C w hX hbl hbA (v := 1) (vinD (by decide)) sx1 dL_law_1314 ?_
  refine lv_aload_n C.1 C.2.1 dL_law_1315 rfl (lv_at hl 3 rfl) ?_
  refine r_callH C w fh_RL_191 (c_L_strikes_1 l D cy q0 o0 q1 q2 q4 q5 q6 q10 q11 q12 q13 q14 q15 q16 q17) (hl.1.trans hml.symm) [0, 1, 7] [2, 3, 4, 5, 6] (wr := [(m0, .inr (12, [.ref m1, .ref m2, .ref m3, .ref m4, .ref m5, .int 0, .ref m6, .int 0, .int 0, .int 0, .int 0, .int 0, .int 0, .int 0, .int 0, .int 0, .int 0, .int (-1), .ref m7, .ref m8, .int 0, .ref m9, .int 0, .ref m10, .ref m11, .ref m12, .ref m13, .ref m14, .int 0, .ref m15, .ref m16, .ref m17])), (m7, .inl (cy 1, 1830, .inl (fun _ => 0))), (m8, .inl (cy 1, 1830, .inl (fun _ => 0))), (m9, .inl (cy 2, 2465, .inr (.inl (fun _ => 0)))), (m1, .inl (cy 1, 1868, .inl (upd (upd (upd (fun _ => 0) 1 2) 2 20) 3 120)))]) ⟨rfl, rfl, rfl, rfl, by decide⟩ rfl rfl ⟨Nat.le_of_ble_eq_true rfl, Nat.le_of_ble_eq_true rfl, Nat.le_of_ble_eq_true rfl⟩ 73 53662 ⟨rfl, rfl, Nat.le_of_ble_eq_true rfl, Nat.le_of_ble_eq_true rfl⟩ dL_law_1316 (fun u H locs hp w => ?_)
  obtain ⟨n1, n2, n3, n4, n5, n6, n7, n8, n9, n10, n11, n12, n13, n14, n15, n16, n17, n18, n19, n20, n21, n22, n23, n24, n25, n26, n27, n28, n29, n30, n31, n32, n33, n34, n35, n36⟩ := u
  have w : Wd D A s.heap [(m0, .inr (12, [.ref m1, .ref m2, .ref m3, .ref m4, .ref m5, .int 0, .ref m6, .int 0, .int 0, .int 0, .int 0, .int 0, .int 0, .int 0, .int 0, .int 0, .int 0, .int (-1), .ref m7, .ref m8, .int 0, .ref m9, .int 0, .ref m10, .ref m11, .ref m12, .ref m13, .ref m14, .int 0, .ref m15, .ref m16, .ref m17])), (m7, .inl (cy 1, 1830, .inl (fun _ => 0))), (m8, .inl (cy 1, 1830, .inl (fun _ => 0))), (m9, .inl (cy 2, 2465, .inr (.inl (fun _ => 0)))), (m1, .inl (cy 1, 1868, .inl (upd (upd (upd (fun _ => 0) 1 2) 2 20) 3 120))), (o0, .inl (cy 2, 1, .inr (.inl (vp_updL (fun _ => 0) 0 (-1)))))] _ _ := w.pick [0, 1, 2, 3, 4, 5] rfl rfl
  refine r_top (g2 := F0 m 1319 ls [.int 0]) rfl ?_
  refine lv_istore (lv' := [(5, .int 0), (0, .ref b), (1, .ref q0), (2, .ref m0), (3, .ref o0), (4, .int 0)]) C.1 C.2.1 dL_law_1319 hl (by decide) rfl (fun ls hl => ?_)
  refine lv_aload_n C.1 C.2.1 dL_law_1321 rfl (lv_at hl 3 rfl) ?_
  refine lv_aload_n C.1 C.2.1 dL_law_1322 rfl (lv_at hl 1 rfl) ?_
  refine lv_iload C.1 C.2.1 dL_law_1323 (lv_at hl 5 rfl) ?_
  refine lv_iconst (v := 1) C.1 C.2.1 dL_law_1325 (by decide) ?_
  refine r_iadd C (v := 1) dL_law_1326 (by decide) ?_
  refine r_sld C w hX hbl hbA (v := 1) (vinD (by decide)) sx1 dL_law_1327 ?_
  refine r_callV C w fv_RL_193 (c_X12_strikes_1 l D cy m0 m1 m2 m3 m4 m5 m6 m7 m8 m9 m10 m11 m12 m13 m14 m15 m16 m17 1 (by decide) (by decide) (by decide)) (hl.1.trans hml.symm) [0, 4, 1, 2, 3] [5] (wr := [(o0, .inl (cy 2, 1, .inr (.inl (vp_updL (fun _ => 0) 0 (-1)))))]) ⟨rfl, rfl, rfl, rfl, by decide⟩ 0 rfl rfl rfl rfl rfl ⟨Nat.le_of_ble_eq_true rfl, Nat.le_of_ble_eq_true rfl, Nat.le_of_ble_eq_true rfl⟩ 73 53662 ⟨rfl, rfl, Nat.le_of_ble_eq_true rfl, Nat.le_of_ble_eq_true rfl⟩ dL_law_1328 (fun u H locs hp w => ?_)
  have w : Wd D A s.heap [(o0, .inl (cy 2, 1, .inr (.inl (vp_updL (fun _ => 0) 0 (-1))))), (m0, .inr (12, [.ref m1, .ref m2, .ref m3, .ref m4, .ref m5, .int 0, .ref m6, .int 0, .int 0, .int 0, .int 0, .int 0, .int 0, .int 0, .int 0, .int 0, .int 0, .int (-1), .ref m7, .ref m8, .int 190, .ref m9, .int 21, .ref m10, .ref m11, .ref m12, .ref m13, .ref m14, .int 0, .ref m15, .ref m16, .ref m17]))] _ _ := w.pick [0, 4] rfl rfl
  refine r_top (g2 := F0 m 1331 ls [.int (-1)]) rfl ?_
  refine lv_istore (lv' := [(6, .int (-1)), (5, .int 0), (0, .ref b), (1, .ref q0), (2, .ref m0), (3, .ref o0), (4, .int 0)]) C.1 C.2.1 dL_law_1331 hl (by decide) rfl (fun ls hl => ?_)
  refine lv_aload_n C.1 C.2.1 dL_law_1333 rfl (lv_at hl 4 rfl) ?_
  refine r_callV C w fv_RL_134 (c_X12_thrown_5 l D cy m0 m1 m2 m3 m4 m5 m6 m7 m8 m9 m10 m11 m12 m13 m14 m15 m16 m17) (hl.1.trans hml.symm) [1] [0] (wr := [(o0, .inl (cy 2, 1, .inr (.inl (vp_updL (fun _ => 0) 0 (-1)))))]) ⟨rfl, rfl, rfl, rfl, by decide⟩ 0 rfl rfl rfl rfl rfl ⟨Nat.le_of_ble_eq_true rfl, Nat.le_of_ble_eq_true rfl, Nat.le_of_ble_eq_true rfl⟩ 73 53662 ⟨rfl, rfl, Nat.le_of_ble_eq_true rfl, Nat.le_of_ble_eq_true rfl⟩ dL_law_1334 (fun u H locs hp w => ?_)
  have w : Wd D A s.heap [(o0, .inl (cy 2, 1, .inr (.inl (vp_updL (fun _ => 0) 0 (-1))))), (m0, .inr (12, [.ref m1, .ref m2, .ref m3, .ref m4, .ref m5, .int 0, .ref m6, .int 0, .int 0, .int 0, .int 0, .int 0, .int 0, .int 0, .int 0, .int 0, .int 0, .int (-1), .ref m7, .ref m8, .int 190, .ref m9, .int 21, .ref m10, .ref m11, .ref m12, .ref m13, .ref m14, .int 0, .ref m15, .ref m16, .ref m17]))] _ _ := w.pick [0, 1] rfl rfl
  refine r_top (g2 := F0 m 1337 ls [.int 0]) rfl ?_
  refine lv_iload C.1 C.2.1 dL_law_1337 (lv_at hl 1 rfl) ?_
  refine b_icmp_eq_t C (tgt := 1344) dL_law_1339 (by decide) (by decide) ?_
  refine lv_iload C.1 C.2.1 dL_law_1344 (lv_at hl 1 rfl) ?_
  refine b_if_ne_f C (tgt := 1361) dL_law_1346 (by decide) (by decide) ?_
  refine lv_aload_n C.1 C.2.1 dL_law_1349 rfl (lv_at hl 5 rfl) ?_
  refine lv_iconst (v := 0) C.1 C.2.1 dL_law_1350 (by decide) ?_
  refine r_lald C w 0 rfl (v := (-1)) (vinD (by decide)) rfl dL_law_1351 ?_
  refine lv_iload C.1 C.2.1 dL_law_1352 (lv_at hl 0 rfl) ?_
  refine lv_i2l (v := (-1)) C.1 C.2.1 dL_law_1354 (by decide) ?_
  refine r_lcmp C (v := 0) dL_law_1355 (by decide) ?_
  refine b_if_eq_t C (tgt := 1361) dL_law_1356 (by decide) (by decide) ?_
  refine lv_goto (tgt := 2461) C.1 C.2.1 dL_law_1361 (by decide) ?_
  refine W.widen (k := 600002) (n := 7302232) (Nat.le_of_ble_eq_true rfl) (Nat.le_of_ble_eq_true rfl) ?_
  exact kk _ _ _ w.2.2 (lv_sub hl [2, 6] rfl)
set_option maxRecDepth 100000 in
set_option maxHeartbeats 4000000 in
theorem s_L_18_2 {p : Program} {l : Launch} {e : Env} {s : State} {m : MethodId} {args : Array Value} {below : List Frame} {meth : Method} {c : Code} {Q : State → Prop} {D : va_G} {cy : Nat → ClassId} {A : Nat → Prop} {H : Heap} {locs : List Loc} {ls : Array Slot} {xs : Nat → Int32} (b q0 q1 q2 q4 q5 q6 q10 m0 m1 m2 m3 m4 m5 m6 m7 m8 m9 m10 m11 m12 m13 m14 m15 m16 m17 o0 : Nat) (y1 : Int32) (k0 : ¬ y1 = 0) (k1 : ¬ y1 = 1) (k2 : y1 < 0) (sx1 : xs 1 = y1) (hst : l.stackTraces = false) (C : Cx p s m args c cL_law RL D cy A) (hml : c.maxLocals = 8) (hX : va_X b 6 xs s s.heap) (hbl : b < s.heap.size) (hbA : ¬ A b) (w : Wd D A s.heap [(q0, .inr (11, [.ref q1, .int 0, .int 0, .int (-1), .ref q2, .ref q4, .ref q5, .ref q6, .ref q10, .null])), (m0, .inr (12, [.ref m1, .ref m2, .ref m3, .ref m4, .ref m5, .int 0, .ref m6, .int 0, .int 0, .int 0, .int 0, .int 0, .int 0, .int 0, .int 0, .int 0, .int 0, .int (-1), .ref m7, .ref m8, .int 0, .ref m9, .int 0, .ref m10, .ref m11, .ref m12, .ref m13, .ref m14, .int 0, .ref m15, .ref m16, .ref m17]))] H locs) (hl : lv_has ls 8 [(0, .ref b), (1, .ref q0), (2, .ref m0), (3, .ref o0), (4, .int 0)]) (kk : ∀ (H : Heap) (locs : List Loc) (ls : Array Slot), va_S A s.heap H locs → lv_has ls 8 [(0, .ref b), (4, .int 0)] → W p l e room_1 s m args below meth c H locs 600002 7302232 Q (F0 m 2461 ls [])) : W p l e room_1 s m args below meth c H locs 37 29845 Q (F0 m 1308 ls []) := by
  refine lv_aload_n C.1 C.2.1 dL_law_1308 rfl (lv_at hl 1 rfl) ?_
  refine lv_aload_n C.1 C.2.1 dL_law_1309 rfl (lv_at hl 0 rfl) ?_
  refine lv_iload C.1 C.2.1 dL_law_1310 (lv_at hl 4 rfl) ?_
  refine lv_iconst (v := 1) C.1 C.2.1 dL_law_1312 (by decide) ?_
  refine r_iadd C (v := 1) dL_law_1313 (by decide) ?_
  refine r_sld C w hX hbl hbA (v := y1) (vinD (by decide)) sx1 dL_law_1314 ?_
  refine lv_aload_n C.1 C.2.1 dL_law_1315 rfl (lv_at hl 3 rfl) ?_
  refine r_callH C w fh_RL_191 (c_L_strikes_2 l D cy q0 o0 q1 q2 q4 q5 q6 q10 y1 k0 k1 hst) (hl.1.trans hml.symm) [0] [1] (wr := [(m0, .inr (12, [.ref m1, .ref m2, .ref m3, .ref m4, .ref m5, .int 0, .ref m6, .int 0, .int 0, .int 0, .int 0, .int 0, .int 0, .int 0, .int 0, .int 0, .int 0, .int (-1), .ref m7, .ref m8, .int 0, .ref m9, .int 0, .ref m10, .ref m11, .ref m12, .ref m13, .ref m14, .int 0, .ref m15, .ref m16, .ref m17]))]) ⟨rfl, rfl, rfl, rfl, by decide⟩ rfl rfl ⟨Nat.le_of_ble_eq_true rfl, Nat.le_of_ble_eq_true rfl, Nat.le_of_ble_eq_true rfl⟩ 38 29851 ⟨rfl, rfl, Nat.le_of_ble_eq_true rfl, Nat.le_of_ble_eq_true rfl⟩ dL_law_1316 (fun u H locs hp w => ?_)
  have w : Wd D A s.heap [(m0, .inr (12, [.ref m1, .ref m2, .ref m3, .ref m4, .ref m5, .int 0, .ref m6, .int 0, .int 0, .int 0, .int 0, .int 0, .int 0, .int 0, .int 0, .int 0, .int 0, .int (-1), .ref m7, .ref m8, .int 0, .ref m9, .int 0, .ref m10, .ref m11, .ref m12, .ref m13, .ref m14, .int 0, .ref m15, .ref m16, .ref m17]))] _ _ := w.pick [0] rfl rfl
  refine r_top (g2 := F0 m 1319 ls [.int 1]) rfl ?_
  refine lv_istore (lv' := [(5, .int 1), (0, .ref b), (1, .ref q0), (2, .ref m0), (3, .ref o0), (4, .int 0)]) C.1 C.2.1 dL_law_1319 hl (by decide) rfl (fun ls hl => ?_)
  refine lv_aload_n C.1 C.2.1 dL_law_1321 rfl (lv_at hl 3 rfl) ?_
  refine lv_aload_n C.1 C.2.1 dL_law_1322 rfl (lv_at hl 1 rfl) ?_
  refine lv_iload C.1 C.2.1 dL_law_1323 (lv_at hl 5 rfl) ?_
  refine lv_iconst (v := 1) C.1 C.2.1 dL_law_1325 (by decide) ?_
  refine r_iadd C (v := 1) dL_law_1326 (by decide) ?_
  refine r_sld C w hX hbl hbA (v := y1) (vinD (by decide)) sx1 dL_law_1327 ?_
  refine r_callV C w fv_RL_193 (c_X12_strikes_0 l D cy m0 m1 m2 m3 m4 m5 m6 m7 m8 m9 m10 m11 m12 m13 m14 m15 m16 m17 y1 k2) (hl.1.trans hml.symm) [0] [] (wr := []) ⟨rfl, rfl, rfl, rfl, by decide⟩ 0 rfl rfl rfl rfl rfl ⟨Nat.le_of_ble_eq_true rfl, Nat.le_of_ble_eq_true rfl, Nat.le_of_ble_eq_true rfl⟩ 38 29851 ⟨rfl, rfl, Nat.le_of_ble_eq_true rfl, Nat.le_of_ble_eq_true rfl⟩ dL_law_1328 (fun u H locs hp w => ?_)
  have w : Wd D A s.heap [(m0, .inr (12, [.ref m1, .ref m2, .ref m3, .ref m4, .ref m5, .int 1, .ref m6, .int 0, .int 0, .int 0, .int 0, .int 0, .int 0, .int 0, .int 0, .int 0, .int 0, .int (-1), .ref m7, .ref m8, .int 0, .ref m9, .int 0, .ref m10, .ref m11, .ref m12, .ref m13, .ref m14, .int 0, .ref m15, .ref m16, .ref m17]))] _ _ := w.pick [0] rfl rfl
  refine r_top (g2 := F0 m 1331 ls [.int 0]) rfl ?_
  refine lv_istore (lv' := [(6, .int 0), (5, .int 1), (0, .ref b), (1, .ref q0), (2, .ref m0), (3, .ref o0), (4, .int 0)]) C.1 C.2.1 dL_law_1331 hl (by decide) rfl (fun ls hl => ?_)
  refine lv_aload_n C.1 C.2.1 dL_law_1333 rfl (lv_at hl 4 rfl) ?_
  refine r_callV C w fv_RL_134 (c_X12_thrown_0 l D cy m0 m1 m2 m3 m4 m5 m6 m7 m8 m9 m10 m11 m12 m13 m14 m15 m16 m17) (hl.1.trans hml.symm) [0] [] (wr := []) ⟨rfl, rfl, rfl, rfl, by decide⟩ 0 rfl rfl rfl rfl rfl ⟨Nat.le_of_ble_eq_true rfl, Nat.le_of_ble_eq_true rfl, Nat.le_of_ble_eq_true rfl⟩ 38 29851 ⟨rfl, rfl, Nat.le_of_ble_eq_true rfl, Nat.le_of_ble_eq_true rfl⟩ dL_law_1334 (fun u H locs hp w => ?_)
  have w : Wd D A s.heap [(m0, .inr (12, [.ref m1, .ref m2, .ref m3, .ref m4, .ref m5, .int 1, .ref m6, .int 0, .int 0, .int 0, .int 0, .int 0, .int 0, .int 0, .int 0, .int 0, .int 0, .int (-1), .ref m7, .ref m8, .int 0, .ref m9, .int 0, .ref m10, .ref m11, .ref m12, .ref m13, .ref m14, .int 0, .ref m15, .ref m16, .ref m17]))] _ _ := w.pick [0] rfl rfl
  refine r_top (g2 := F0 m 1337 ls [.int 1]) rfl ?_
  refine lv_iload C.1 C.2.1 dL_law_1337 (lv_at hl 1 rfl) ?_
  refine b_icmp_eq_t C (tgt := 1344) dL_law_1339 (by decide) (by decide) ?_
  refine lv_iload C.1 C.2.1 dL_law_1344 (lv_at hl 1 rfl) ?_
  refine b_if_ne_t C (tgt := 1361) dL_law_1346 (by decide) (by decide) ?_
  refine lv_goto (tgt := 2461) C.1 C.2.1 dL_law_1361 (by decide) ?_
  refine W.widen (k := 600002) (n := 7302232) (Nat.le_of_ble_eq_true rfl) (Nat.le_of_ble_eq_true rfl) ?_
  exact kk _ _ _ w.2.2 (lv_sub hl [2, 6] rfl)
set_option maxRecDepth 100000 in
set_option maxHeartbeats 4000000 in
theorem s_L_18_3 {p : Program} {l : Launch} {e : Env} {s : State} {m : MethodId} {args : Array Value} {below : List Frame} {meth : Method} {c : Code} {Q : State → Prop} {D : va_G} {cy : Nat → ClassId} {A : Nat → Prop} {H : Heap} {locs : List Loc} {ls : Array Slot} {xs : Nat → Int32} (b q0 q1 q2 q4 q5 q6 q10 m0 m1 m2 m3 m4 m5 m6 m7 m8 m9 m10 m11 m12 m13 m14 m15 m16 m17 o0 : Nat) (y1 : Int32) (k0 : ¬ y1 = 0) (k1 : ¬ y1 = 1) (k2 : ¬ y1 < 0) (k3 : 1 < y1) (sx1 : xs 1 = y1) (hst : l.stackTraces = false) (C : Cx p s m args c cL_law RL D cy A) (hml : c.maxLocals = 8) (hX : va_X b 6 xs s s.heap) (hbl : b < s.heap.size) (hbA : ¬ A b) (w : Wd D A s.heap [(q0, .inr (11, [.ref q1, .int 0, .int 0, .int (-1), .ref q2, .ref q4, .ref q5, .ref q6, .ref q10, .null])), (m0, .inr (12, [.ref m1, .ref m2, .ref m3, .ref m4, .ref m5, .int 0, .ref m6, .int 0, .int 0, .int 0, .int 0, .int 0, .int 0, .int 0, .int 0, .int 0, .int 0, .int (-1), .ref m7, .ref m8, .int 0, .ref m9, .int 0, .ref m10, .ref m11, .ref m12, .ref m13, .ref m14, .int 0, .ref m15, .ref m16, .ref m17]))] H locs) (hl : lv_has ls 8 [(0, .ref b), (1, .ref q0), (2, .ref m0), (3, .ref o0), (4, .int 0)]) (kk : ∀ (H : Heap) (locs : List Loc) (ls : Array Slot), va_S A s.heap H locs → lv_has ls 8 [(0, .ref b), (4, .int 0)] → W p l e room_1 s m args below meth c H locs 600002 7302232 Q (F0 m 2461 ls [])) : W p l e room_1 s m args below meth c H locs 37 29845 Q (F0 m 1308 ls []) := by
  refine lv_aload_n C.1 C.2.1 dL_law_1308 rfl (lv_at hl 1 rfl) ?_
  refine lv_aload_n C.1 C.2.1 dL_law_1309 rfl (lv_at hl 0 rfl) ?_
  refine lv_iload C.1 C.2.1 dL_law_1310 (lv_at hl 4 rfl) ?_
  refine lv_iconst (v := 1) C.1 C.2.1 dL_law_1312 (by decide) ?_
  refine r_iadd C (v := 1) dL_law_1313 (by decide) ?_
  refine r_sld C w hX hbl hbA (v := y1) (vinD (by decide)) sx1 dL_law_1314 ?_
  refine lv_aload_n C.1 C.2.1 dL_law_1315 rfl (lv_at hl 3 rfl) ?_
  refine r_callH C w fh_RL_191 (c_L_strikes_2 l D cy q0 o0 q1 q2 q4 q5 q6 q10 y1 k0 k1 hst) (hl.1.trans hml.symm) [0] [1] (wr := [(m0, .inr (12, [.ref m1, .ref m2, .ref m3, .ref m4, .ref m5, .int 0, .ref m6, .int 0, .int 0, .int 0, .int 0, .int 0, .int 0, .int 0, .int 0, .int 0, .int 0, .int (-1), .ref m7, .ref m8, .int 0, .ref m9, .int 0, .ref m10, .ref m11, .ref m12, .ref m13, .ref m14, .int 0, .ref m15, .ref m16, .ref m17]))]) ⟨rfl, rfl, rfl, rfl, by decide⟩ rfl rfl ⟨Nat.le_of_ble_eq_true rfl, Nat.le_of_ble_eq_true rfl, Nat.le_of_ble_eq_true rfl⟩ 38 29851 ⟨rfl, rfl, Nat.le_of_ble_eq_true rfl, Nat.le_of_ble_eq_true rfl⟩ dL_law_1316 (fun u H locs hp w => ?_)
  have w : Wd D A s.heap [(m0, .inr (12, [.ref m1, .ref m2, .ref m3, .ref m4, .ref m5, .int 0, .ref m6, .int 0, .int 0, .int 0, .int 0, .int 0, .int 0, .int 0, .int 0, .int 0, .int 0, .int (-1), .ref m7, .ref m8, .int 0, .ref m9, .int 0, .ref m10, .ref m11, .ref m12, .ref m13, .ref m14, .int 0, .ref m15, .ref m16, .ref m17]))] _ _ := w.pick [0] rfl rfl
  refine r_top (g2 := F0 m 1319 ls [.int 1]) rfl ?_
  refine lv_istore (lv' := [(5, .int 1), (0, .ref b), (1, .ref q0), (2, .ref m0), (3, .ref o0), (4, .int 0)]) C.1 C.2.1 dL_law_1319 hl (by decide) rfl (fun ls hl => ?_)
  refine lv_aload_n C.1 C.2.1 dL_law_1321 rfl (lv_at hl 3 rfl) ?_
  refine lv_aload_n C.1 C.2.1 dL_law_1322 rfl (lv_at hl 1 rfl) ?_
  refine lv_iload C.1 C.2.1 dL_law_1323 (lv_at hl 5 rfl) ?_
  refine lv_iconst (v := 1) C.1 C.2.1 dL_law_1325 (by decide) ?_
  refine r_iadd C (v := 1) dL_law_1326 (by decide) ?_
  refine r_sld C w hX hbl hbA (v := y1) (vinD (by decide)) sx1 dL_law_1327 ?_
  refine r_callV C w fv_RL_193 (c_X12_strikes_3 l D cy m0 m1 m2 m3 m4 m5 m6 m7 m8 m9 m10 m11 m12 m13 m14 m15 m16 m17 y1 k2 k3) (hl.1.trans hml.symm) [0] [] (wr := []) ⟨rfl, rfl, rfl, rfl, by decide⟩ 0 rfl rfl rfl rfl rfl ⟨Nat.le_of_ble_eq_true rfl, Nat.le_of_ble_eq_true rfl, Nat.le_of_ble_eq_true rfl⟩ 38 29851 ⟨rfl, rfl, Nat.le_of_ble_eq_true rfl, Nat.le_of_ble_eq_true rfl⟩ dL_law_1328 (fun u H locs hp w => ?_)
  have w : Wd D A s.heap [(m0, .inr (12, [.ref m1, .ref m2, .ref m3, .ref m4, .ref m5, .int 1, .ref m6, .int 0, .int 0, .int 0, .int 0, .int 0, .int 0, .int 0, .int 0, .int 0, .int 0, .int (-1), .ref m7, .ref m8, .int 0, .ref m9, .int 0, .ref m10, .ref m11, .ref m12, .ref m13, .ref m14, .int 0, .ref m15, .ref m16, .ref m17]))] _ _ := w.pick [0] rfl rfl
  refine r_top (g2 := F0 m 1331 ls [.int 0]) rfl ?_
  refine lv_istore (lv' := [(6, .int 0), (5, .int 1), (0, .ref b), (1, .ref q0), (2, .ref m0), (3, .ref o0), (4, .int 0)]) C.1 C.2.1 dL_law_1331 hl (by decide) rfl (fun ls hl => ?_)
  refine lv_aload_n C.1 C.2.1 dL_law_1333 rfl (lv_at hl 4 rfl) ?_
  refine r_callV C w fv_RL_134 (c_X12_thrown_0 l D cy m0 m1 m2 m3 m4 m5 m6 m7 m8 m9 m10 m11 m12 m13 m14 m15 m16 m17) (hl.1.trans hml.symm) [0] [] (wr := []) ⟨rfl, rfl, rfl, rfl, by decide⟩ 0 rfl rfl rfl rfl rfl ⟨Nat.le_of_ble_eq_true rfl, Nat.le_of_ble_eq_true rfl, Nat.le_of_ble_eq_true rfl⟩ 38 29851 ⟨rfl, rfl, Nat.le_of_ble_eq_true rfl, Nat.le_of_ble_eq_true rfl⟩ dL_law_1334 (fun u H locs hp w => ?_)
  have w : Wd D A s.heap [(m0, .inr (12, [.ref m1, .ref m2, .ref m3, .ref m4, .ref m5, .int 1, .ref m6, .int 0, .int 0, .int 0, .int 0, .int 0, .int 0, .int 0, .int 0, .int 0, .int 0, .int (-1), .ref m7, .ref m8, .int 0, .ref m9, .int 0, .ref m10, .ref m11, .ref m12, .ref m13, .ref m14, .int 0, .ref m15, .ref m16, .ref m17]))] _ _ := w.pick [0] rfl rfl
  refine r_top (g2 := F0 m 1337 ls [.int 1]) rfl ?_
  refine lv_iload C.1 C.2.1 dL_law_1337 (lv_at hl 1 rfl) ?_
  refine b_icmp_eq_t C (tgt := 1344) dL_law_1339 (by decide) (by decide) ?_
  refine lv_iload C.1 C.2.1 dL_law_1344 (lv_at hl 1 rfl) ?_
  refine b_if_ne_t C (tgt := 1361) dL_law_1346 (by decide) (by decide) ?_
  refine lv_goto (tgt := 2461) C.1 C.2.1 dL_law_1361 (by decide) ?_
  refine W.widen (k := 600002) (n := 7302232) (Nat.le_of_ble_eq_true rfl) (Nat.le_of_ble_eq_true rfl) ?_
  exact kk _ _ _ w.2.2 (lv_sub hl [2, 6] rfl)
set_option maxRecDepth 100000 in
set_option maxHeartbeats 4000000 in
theorem t_L_18 {p : Program} {l : Launch} {e : Env} {s : State} {m : MethodId} {args : Array Value} {below : List Frame} {meth : Method} {c : Code} {Q : State → Prop} {D : va_G} {cy : Nat → ClassId} {A : Nat → Prop} {H : Heap} {locs : List Loc} {ls : Array Slot} {xs : Nat → Int32} (b q0 q1 q2 q4 q5 q6 q10 q3 q7 q8 q9 q11 q12 q13 q14 q15 q16 q17 m0 m1 m2 m3 m4 m5 m6 m7 m8 m9 m10 m11 m12 m13 m14 m15 m16 m17 o0 : Nat) (hst : l.stackTraces = false) (C : Cx p s m args c cL_law RL D cy A) (hml : c.maxLocals = 8) (hX : va_X b 6 xs s s.heap) (hbl : b < s.heap.size) (hbA : ¬ A b) (w : Wd D A s.heap [(q0, .inr (11, [.ref q1, .int 0, .int 0, .int (-1), .ref q2, .ref q4, .ref q5, .ref q6, .ref q10, .null])), (q1, .inl (cy 0, 900, .inl (fun _ => 0))), (q2, .inr (5, [.ref q3, .int 0, .int 0, .int 0, .int 0, .int 0, .int 0, .null])), (q3, .inl (cy 0, 0, .inl (fun _ => 0))), (q4, .inl (cy 4, 5, .inr (.inr (.inr (.inr (va_up (fun _ => none) 0 (some q10))))))), (q5, .inl (cy 4, 3, .inr (.inr (.inr (.inr (fun _ => none)))))), (q6, .inr (10, [.ref q7, .ref q8, .ref q9])), (q7, .inl (cy 1, 4, .inl (upd (upd (upd (upd (fun _ => 0) 0 (-1)) 1 (-1)) 2 (-1)) 3 (-1)))), (q8, .inl (cy 1, 4, .inl (fun _ => 0))), (q9, .inl (cy 2, 160, .inr (.inl (fun _ => 0)))), (q10, .inr (9, [.int 0, .int 2, .int 20, .int 120, .int 0, .int 0, .int 0, .int 0, .ref q11, .int 0, .ref q12, .ref q13, .int 0, .ref q14, .ref q15, .ref q16, .ref q17])), (q11, .inl (cy 1, 6, .inl (fun _ => 0))), (q12, .inl (cy 1, 20, .inl (fun _ => 0))), (q13, .inl (cy 1, 20, .inl (fun _ => 0))), (q14, .inl (cy 1, 300, .inl (fun _ => 0))), (q15, .inl (cy 1, 300, .inl (fun _ => 0))), (q16, .inl (cy 1, 300, .inl (fun _ => 0))), (q17, .inl (cy 1, 300, .inl (fun _ => 0))), (m0, .inr (12, [.ref m1, .ref m2, .ref m3, .ref m4, .ref m5, .int 0, .ref m6, .int 0, .int 0, .int 0, .int 0, .int 0, .int 0, .int 0, .int 0, .int 0, .int 0, .int (-1), .ref m7, .ref m8, .int 0, .ref m9, .int 0, .ref m10, .ref m11, .ref m12, .ref m13, .ref m14, .int 0, .ref m15, .ref m16, .ref m17])), (m2, .inl (cy 1, 1868, .inl (fun _ => 0))), (m3, .inl (cy 1, 1868, .inl (fun _ => 0))), (m4, .inl (cy 1, 5604, .inl (fun _ => 0))), (m5, .inl (cy 3, 3, .inl (fun _ => 0))), (m6, .inl (cy 1, 900, .inl (fun _ => 0))), (m7, .inl (cy 1, 1830, .inl (fun _ => 0))), (m8, .inl (cy 1, 1830, .inl (fun _ => 0))), (m9, .inl (cy 2, 2465, .inr (.inl (fun _ => 0)))), (m10, .inl (cy 1, 7201, .inl (fun _ => 0))), (m11, .inl (cy 1, 1830, .inl (fun _ => 0))), (m12, .inl (cy 1, 5, .inl (fun _ => 0))), (m13, .inl (cy 1, 6, .inl (fun _ => 0))), (m14, .inl (cy 1, 6, .inl (fun _ => 0))), (m15, .inl (cy 1, 4, .inl (upd (upd (upd (upd (fun _ => 0) 0 (-1)) 1 (-1)) 2 (-1)) 3 (-1)))), (m16, .inl (cy 1, 4, .inl (fun _ => 0))), (m17, .inl (cy 2, 160, .inr (.inl (fun _ => 0)))), (m1, .inl (cy 1, 1868, .inl (upd (upd (upd (fun _ => 0) 1 2) 2 20) 3 120))), (o0, .inl (cy 2, 1, .inr (.inl (fun _ => 0))))] H locs) (hl : lv_has ls 8 [(0, .ref b), (1, .ref q0), (2, .ref m0), (3, .ref o0), (4, .int 0)]) (kk : ∀ (H : Heap) (locs : List Loc) (ls : Array Slot), va_S A s.heap H locs → lv_has ls 8 [(0, .ref b), (4, .int 0)] → W p l e room_1 s m args below meth c H locs 600002 7302232 Q (F0 m 2461 ls [])) : W p l e room_1 s m args below meth c H locs 37 29845 Q (F0 m 1308 ls []) := by
  obtain ⟨y1, sx1⟩ : ∃ y, xs 1 = y := ⟨_, rfl⟩
  obtain ⟨y2, sx2⟩ : ∃ y, xs 2 = y := ⟨_, rfl⟩
  obtain ⟨y3, sx3⟩ : ∃ y, xs 3 = y := ⟨_, rfl⟩
  obtain ⟨y4, sx4⟩ : ∃ y, xs 4 = y := ⟨_, rfl⟩
  obtain ⟨y5, sx5⟩ : ∃ y, xs 5 = y := ⟨_, rfl⟩
  by_cases g1 : y1 = 0
  · subst g1
    exact s_L_18_0 b q0 q1 q2 q4 q5 q6 q10 q11 q12 q13 q14 q15 q16 q17 m0 m1 m2 m3 m4 m5 m6 m7 m8 m9 m10 m11 m12 m13 m14 m15 m16 m17 o0 sx1 C hml hX hbl hbA (w.pick [0, 10, 18, 24, 25, 26, 35, 36] rfl rfl) hl kk
  · by_cases g2 : y1 = 1
    · subst g2
      exact s_L_18_1 b q0 q1 q2 q4 q5 q6 q10 q11 q12 q13 q14 q15 q16 q17 m0 m1 m2 m3 m4 m5 m6 m7 m8 m9 m10 m11 m12 m13 m14 m15 m16 m17 o0 sx1 C hml hX hbl hbA (w.pick [0, 10, 18, 24, 25, 26, 35, 36] rfl rfl) hl kk
    · by_cases g3 : y1 < 0
      · exact s_L_18_2 b q0 q1 q2 q4 q5 q6 q10 m0 m1 m2 m3 m4 m5 m6 m7 m8 m9 m10 m11 m12 m13 m14 m15 m16 m17 o0 y1 g1 g2 g3 sx1 hst C hml hX hbl hbA (w.pick [0, 18] rfl rfl) hl kk
      · by_cases g4 : 1 < y1
        · exact s_L_18_3 b q0 q1 q2 q4 q5 q6 q10 m0 m1 m2 m3 m4 m5 m6 m7 m8 m9 m10 m11 m12 m13 m14 m15 m16 m17 o0 y1 g1 g2 g3 g4 sx1 hst C hml hX hbl hbA (w.pick [0, 18] rfl rfl) hl kk
        · exfalso
          have h0 := (not_congr (fa_eq _ _)).mp g1
          have h1 := (not_congr (fa_eq _ _)).mp g2
          have h2 := i_nlt g3
          have h3 := i_nlt g4
          have e0 : (0 : Int32).toInt = 0 := (by decide)
          have e1 : (1 : Int32).toInt = 1 := (by decide)
          omega
