theorem dL_law_2069 : decode cL_law 2069 = .ok (.aload_n 1, 1) := by decide +kernel
theorem dL_law_2070 : decode cL_law 2070 = .ok (.aload_n 0, 1) := by decide +kernel
theorem dL_law_2071 : decode cL_law 2071 = .ok (.iload 4, 2) := by decide +kernel
theorem dL_law_2073 : decode cL_law 2073 = .ok (.iconst 1, 1) := by decide +kernel
theorem dL_law_2074 : decode cL_law 2074 = .ok (.iadd, 1) := by decide +kernel
theorem dL_law_2075 : decode cL_law 2075 = .ok (.iaload, 1) := by decide +kernel
theorem dL_law_2076 : decode cL_law 2076 = .ok (.aload_n 0, 1) := by decide +kernel
theorem dL_law_2077 : decode cL_law 2077 = .ok (.iload 4, 2) := by decide +kernel
theorem dL_law_2079 : decode cL_law 2079 = .ok (.iconst 2, 1) := by decide +kernel
theorem dL_law_2080 : decode cL_law 2080 = .ok (.iadd, 1) := by decide +kernel
theorem dL_law_2081 : decode cL_law 2081 = .ok (.iaload, 1) := by decide +kernel
theorem dL_law_2082 : decode cL_law 2082 = .ok (.aload_n 3, 1) := by decide +kernel
theorem dL_law_2083 : decode cL_law 2083 = .ok (.invokestatic 229, 3) := by decide +kernel
theorem fh_RL_229 : FH RL 229 yL_answers cL_answers 5 (some .int) [(0, 10, 13, 19), (0, 10, 17, 97), (0, 10, 21, 13)] 4 := ⟨⟨gw_mem (by decide +kernel) (by decide +kernel), gw_mem (by decide +kernel) (by decide +kernel), gw_mem (by decide +kernel) (by decide +kernel), gw_mem (by decide +kernel) (by decide +kernel)⟩, ⟨by decide +kernel, by decide +kernel, by decide +kernel⟩⟩
theorem dL_law_2086 : decode cL_law 2086 = .ok (.istore 5, 2) := by decide +kernel
theorem dL_law_2088 : decode cL_law 2088 = .ok (.aload_n 2, 1) := by decide +kernel
theorem dL_law_2089 : decode cL_law 2089 = .ok (.aload_n 0, 1) := by decide +kernel
theorem dL_law_2090 : decode cL_law 2090 = .ok (.iload 4, 2) := by decide +kernel
theorem dL_law_2092 : decode cL_law 2092 = .ok (.iconst 1, 1) := by decide +kernel
theorem dL_law_2093 : decode cL_law 2093 = .ok (.iadd, 1) := by decide +kernel
theorem dL_law_2094 : decode cL_law 2094 = .ok (.iaload, 1) := by decide +kernel
theorem dL_law_2095 : decode cL_law 2095 = .ok (.aload_n 0, 1) := by decide +kernel
theorem dL_law_2096 : decode cL_law 2096 = .ok (.iload 4, 2) := by decide +kernel
theorem dL_law_2098 : decode cL_law 2098 = .ok (.iconst 2, 1) := by decide +kernel
theorem dL_law_2099 : decode cL_law 2099 = .ok (.iadd, 1) := by decide +kernel
theorem dL_law_2100 : decode cL_law 2100 = .ok (.iaload, 1) := by decide +kernel
theorem dL_law_2101 : decode cL_law 2101 = .ok (.invokevirtual 231, 3) := by decide +kernel
theorem fv_RL_231 : FV RL 231 yX12_answers cX12_answers 8 (some .int) 2 := ⟨⟨gw_mem (by decide +kernel) (by decide +kernel), gw_mem (by decide +kernel) (by decide +kernel), gw_mem (by decide +kernel) (by decide +kernel), gw_mem (by decide +kernel) (by decide +kernel), gw_mem (by decide +kernel) (by decide +kernel)⟩, ⟨by decide +kernel, by decide +kernel, by decide +kernel⟩⟩
theorem dL_law_2104 : decode cL_law 2104 = .ok (.istore 6, 2) := by decide +kernel
theorem dL_law_2106 : decode cL_law 2106 = .ok (.aload_n 2, 1) := by decide +kernel
theorem dL_law_2107 : decode cL_law 2107 = .ok (.invokevirtual 134, 3) := by decide +kernel
theorem dL_law_2110 : decode cL_law 2110 = .ok (.iload 5, 2) := by decide +kernel
theorem dL_law_2112 : decode cL_law 2112 = .ok (.if_icmp .eq 5, 3) := by decide +kernel
theorem dL_law_2117 : decode cL_law 2117 = .ok (.iload 5, 2) := by decide +kernel
theorem dL_law_2119 : decode cL_law 2119 = .ok (.ifCond .ne 15, 3) := by decide +kernel
theorem dL_law_2134 : decode cL_law 2134 = .ok (.goto 327, 3) := by decide +kernel
set_option maxRecDepth 100000 in
set_option maxHeartbeats 4000000 in
theorem s_L_30_0 {p : Program} {l : Launch} {e : Env} {s : State} {m : MethodId} {args : Array Value} {below : List Frame} {meth : Method} {c : Code} {Q : State → Prop} {D : va_G} {cy : Nat → ClassId} {A : Nat → Prop} {H : Heap} {locs : List Loc} {ls : Array Slot} {xs : Nat → Int32} (b q0 q1 q2 q4 q5 q6 q10 m0 m1 m2 m3 m4 m5 m6 m7 m8 m9 m10 m11 m12 m13 m14 m15 m16 m17 o0 : Nat) (y1 : Int32) (y2 : Int32) (k0 : y1 < 0) (sx1 : xs 1 = y1) (sx2 : xs 2 = y2) (hst : l.stackTraces = false) (C : Cx p s m args c cL_law RL D cy A) (hml : c.maxLocals = 8) (hX : va_X b 6 xs s s.heap) (hbl : b < s.heap.size) (hbA : ¬ A b) (w : Wd D A s.heap [(q0, .inr (11, [.ref q1, .int 0, .int 0, .int (-1), .ref q2, .ref q4, .ref q5, .ref q6, .ref q10, .null])), (m0, .inr (12, [.ref m1, .ref m2, .ref m3, .ref m4, .ref m5, .int 0, .ref m6, .int 0, .int 0, .int 0, .int 0, .int 0, .int 0, .int 0, .int 0, .int 0, .int 0, .int (-1), .ref m7, .ref m8, .int 0, .ref m9, .int 0, .ref m10, .ref m11, .ref m12, .ref m13, .ref m14, .int 0, .ref m15, .ref m16, .ref m17]))] H locs) (hl : lv_has ls 8 [(0, .ref b), (1, .ref q0), (2, .ref m0), (3, .ref o0), (4, .int 0)]) (kk : ∀ (H : Heap) (locs : List Loc) (ls : Array Slot), va_S A s.heap H locs → lv_has ls 8 [(0, .ref b), (4, .int 0)] → W p l e room_1 s m args below meth c H locs 600002 7302232 Q (F0 m 2461 ls [])) : W p l e room_1 s m args below meth c H locs 37 29845 Q (F0 m 2069 ls []) := by
  refine lv_aload_n C.1 C.2.1 dL_law_2069 rfl (lv_at hl 1 rfl) ?_
  refine lv_aload_n C.1 C.2.1 dL_law_2070 rfl (lv_at hl 0 rfl) ?_
  refine lv_iload C.1 C.2.1 dL_law_2071 (lv_at hl 4 rfl) ?_
  refine lv_iconst (v := 1) C.1 C.2.1 dL_law_2073 (by decide) ?_
  refine r_iadd C (v := 1) dL_law_2074 (by decide) ?_
  refine r_sld C w hX hbl hbA (v := y1) (vinD (by decide)) sx1 dL_law_2075 ?_
  refine lv_aload_n C.1 C.2.1 dL_law_2076 rfl (lv_at hl 0 rfl) ?_
  refine lv_iload C.1 C.2.1 dL_law_2077 (lv_at hl 4 rfl) ?_
  refine lv_iconst (v := 2) C.1 C.2.1 dL_law_2079 (by decide) ?_
  refine r_iadd C (v := 2) dL_law_2080 (by decide) ?_
  refine r_sld C w hX hbl hbA (v := y2) (vinD (by decide)) sx2 dL_law_2081 ?_
  refine lv_aload_n C.1 C.2.1 dL_law_2082 rfl (lv_at hl 3 rfl) ?_
  refine r_callH C w fh_RL_229 (c_L_answers_0 l D cy q0 o0 q1 q2 q4 q5 q6 q10 y1 y2 k0 hst) (hl.1.trans hml.symm) [0] [1] (wr := [(m0, .inr (12, [.ref m1, .ref m2, .ref m3, .ref m4, .ref m5, .int 0, .ref m6, .int 0, .int 0, .int 0, .int 0, .int 0, .int 0, .int 0, .int 0, .int 0, .int 0, .int (-1), .ref m7, .ref m8, .int 0, .ref m9, .int 0, .ref m10, .ref m11, .ref m12, .ref m13, .ref m14, .int 0, .ref m15, .ref m16, .ref m17]))]) ⟨rfl, rfl, rfl, rfl, by decide⟩ rfl rfl ⟨Nat.le_of_ble_eq_true rfl, Nat.le_of_ble_eq_true rfl, Nat.le_of_ble_eq_true rfl⟩ 38 29851 ⟨rfl, rfl, Nat.le_of_ble_eq_true rfl, Nat.le_of_ble_eq_true rfl⟩ dL_law_2083 (fun u H locs hp w => ?_)
  have w : Wd D A s.heap [(m0, .inr (12, [.ref m1, .ref m2, .ref m3, .ref m4, .ref m5, .int 0, .ref m6, .int 0, .int 0, .int 0, .int 0, .int 0, .int 0, .int 0, .int 0, .int 0, .int 0, .int (-1), .ref m7, .ref m8, .int 0, .ref m9, .int 0, .ref m10, .ref m11, .ref m12, .ref m13, .ref m14, .int 0, .ref m15, .ref m16, .ref m17]))] _ _ := w.pick [0] rfl rfl
  refine r_top (g2 := F0 m 2086 ls [.int 1]) rfl ?_
  refine lv_istore (lv' := [(5, .int 1), (0, .ref b), (1, .ref q0), (2, .ref m0), (3, .ref o0), (4, .int 0)]) C.1 C.2.1 dL_law_2086 hl (by decide) rfl (fun ls hl => ?_)
  refine lv_aload_n C.1 C.2.1 dL_law_2088 rfl (lv_at hl 3 rfl) ?_
  refine lv_aload_n C.1 C.2.1 dL_law_2089 rfl (lv_at hl 1 rfl) ?_
  refine lv_iload C.1 C.2.1 dL_law_2090 (lv_at hl 5 rfl) ?_
  refine lv_iconst (v := 1) C.1 C.2.1 dL_law_2092 (by decide) ?_
  refine r_iadd C (v := 1) dL_law_2093 (by decide) ?_
  refine r_sld C w hX hbl hbA (v := y1) (vinD (by decide)) sx1 dL_law_2094 ?_
  refine lv_aload_n C.1 C.2.1 dL_law_2095 rfl (lv_at hl 1 rfl) ?_
  refine lv_iload C.1 C.2.1 dL_law_2096 (lv_at hl 5 rfl) ?_
  refine lv_iconst (v := 2) C.1 C.2.1 dL_law_2098 (by decide) ?_
  refine r_iadd C (v := 2) dL_law_2099 (by decide) ?_
  refine r_sld C w hX hbl hbA (v := y2) (vinD (by decide)) sx2 dL_law_2100 ?_
  refine r_callV C w fv_RL_231 (c_X12_answers_0 l D cy m0 m1 m2 m3 m4 m5 m6 m7 m8 m9 m10 m11 m12 m13 m14 m15 m16 m17 y1 y2 k0) (hl.1.trans hml.symm) [0] [] (wr := []) ⟨rfl, rfl, rfl, rfl, by decide⟩ 0 rfl rfl rfl rfl rfl ⟨Nat.le_of_ble_eq_true rfl, Nat.le_of_ble_eq_true rfl, Nat.le_of_ble_eq_true rfl⟩ 38 29851 ⟨rfl, rfl, Nat.le_of_ble_eq_true rfl, Nat.le_of_ble_eq_true rfl⟩ dL_law_2101 (fun u H locs hp w => ?_)
  have w : Wd D A s.heap [(m0, .inr (12, [.ref m1, .ref m2, .ref m3, .ref m4, .ref m5, .int 1, .ref m6, .int 0, .int 0, .int 0, .int 0, .int 0, .int 0, .int 0, .int 0, .int 0, .int 0, .int (-1), .ref m7, .ref m8, .int 0, .ref m9, .int 0, .ref m10, .ref m11, .ref m12, .ref m13, .ref m14, .int 0, .ref m15, .ref m16, .ref m17]))] _ _ := w.pick [0] rfl rfl
  refine r_top (g2 := F0 m 2104 ls [.int 0]) rfl ?_
  refine lv_istore (lv' := [(6, .int 0), (5, .int 1), (0, .ref b), (1, .ref q0), (2, .ref m0), (3, .ref o0), (4, .int 0)]) C.1 C.2.1 dL_law_2104 hl (by decide) rfl (fun ls hl => ?_)
  refine lv_aload_n C.1 C.2.1 dL_law_2106 rfl (lv_at hl 4 rfl) ?_
  refine r_callV C w fv_RL_134 (c_X12_thrown_0 l D cy m0 m1 m2 m3 m4 m5 m6 m7 m8 m9 m10 m11 m12 m13 m14 m15 m16 m17) (hl.1.trans hml.symm) [0] [] (wr := []) ⟨rfl, rfl, rfl, rfl, by decide⟩ 0 rfl rfl rfl rfl rfl ⟨Nat.le_of_ble_eq_true rfl, Nat.le_of_ble_eq_true rfl, Nat.le_of_ble_eq_true rfl⟩ 38 29851 ⟨rfl, rfl, Nat.le_of_ble_eq_true rfl, Nat.le_of_ble_eq_true rfl⟩ dL_law_2107 (fun u H locs hp w => ?_)
  have w : Wd D A s.heap [(m0, .inr (12, [.ref m1, .ref m2, .ref m3, .ref m4, .ref m5, .int 1, .ref m6, .int 0, .int 0, .int 0, .int 0, .int 0, .int 0, .int 0, .int 0, .int 0, .int 0, .int (-1), .ref m7, .ref m8, .int 0, .ref m9, .int 0, .ref m10, .ref m11, .ref m12, .ref m13, .ref m14, .int 0, .ref m15, .ref m16, .ref m17]))] _ _ := w.pick [0] rfl rfl
  refine r_top (g2 := F0 m 2110 ls [.int 1]) rfl ?_
  refine lv_iload C.1 C.2.1 dL_law_2110 (lv_at hl 1 rfl) ?_
  refine b_icmp_eq_t C (tgt := 2117) dL_law_2112 (by decide) (by decide) ?_
  refine lv_iload C.1 C.2.1 dL_law_2117 (lv_at hl 1 rfl) ?_
  refine b_if_ne_t C (tgt := 2134) dL_law_2119 (by decide) (by decide) ?_
  refine lv_goto (tgt := 2461) C.1 C.2.1 dL_law_2134 (by decide) ?_
  refine W.widen (k := 600002) (n := 7302232) (Nat.le_of_ble_eq_true rfl) (Nat.le_of_ble_eq_true rfl) ?_
  exact kk _ _ _ w.2.2 (lv_sub hl [2, 6] rfl)
set_option maxRecDepth 100000 in
set_option maxHeartbeats 4000000 in
theorem c_X12_thrown_10 (l : Launch) (D : va_G) (cy : Nat → ClassId) (a0 a1 a2 a3 a4 a5 a6 a7 a8 a9 a10 a11 a12 a13 a14 a15 a16 a17 : Nat) : Ct l D cy yX12_thrown cX12_thrown 1 (some .int) 0 0 0 0 [(a0, .inr (12, [.ref a1, .ref a2, .ref a3, .ref a4, .ref a5, .int 2, .ref a6, .int 0, .int 0, .int 0, .int 0, .int 0, .int 0, .int 0, .int 0, .int 0, .int 0, .int (-1), .ref a7, .ref a8, .int 0, .ref a9, .int 0, .ref a10, .ref a11, .ref a12, .ref a13, .ref a14, .int 0, .ref a15, .ref a16, .ref a17]))] [.ref a0] (fun u : Unit => some (.int 2)) (fun _ => True) (fun u : Unit => [(a0, .inr (12, [.ref a1, .ref a2, .ref a3, .ref a4, .ref a5, .int 2, .ref a6, .int 0, .int 0, .int 0, .int 0, .int 0, .int 0, .int 0, .int 0, .int 0, .int 0, .int (-1), .ref a7, .ref a8, .int 0, .ref a9, .int 0, .ref a10, .ref a11, .ref a12, .ref a13, .ref a14, .int 0, .ref a15, .ref a16, .ref a17]))]) := by
  refine Ct.of (by decide +kernel) (Nat.le_of_ble_eq_true rfl) ?_
  intro p e s m args below meth c A ls C hr hlocks hml hnm w hl
  have hl : lv_has ls 1 [(0, .ref a0)] := hl
  refine lv_aload_n C.1 C.2.1 dX12_thrown_0 rfl (lv_at hl 0 rfl) ?_
  refine r_get C w 0 rfl rfl 5 (by decide) fl_RX12_71 (v := .int 2) rfl dX12_thrown_1 ?_
  exact r_iret C w hlocks () hr rfl rfl trivial [0] rfl rfl ⟨Nat.le_of_ble_eq_true rfl, Nat.le_of_ble_eq_true rfl⟩ dX12_thrown_4
set_option maxRecDepth 100000 in
set_option maxHeartbeats 4000000 in
theorem s_L_30_1 {p : Program} {l : Launch} {e : Env} {s : State} {m : MethodId} {args : Array Value} {below : List Frame} {meth : Method} {c : Code} {Q : State → Prop} {D : va_G} {cy : Nat → ClassId} {A : Nat → Prop} {H : Heap} {locs : List Loc} {ls : Array Slot} {xs : Nat → Int32} (b q0 q1 q2 q4 q5 q6 q10 q7 q8 q9 m0 m1 m2 m3 m4 m5 m6 m7 m8 m9 m10 m11 m12 m13 m14 m15 m16 m17 o0 : Nat) (y2 : Int32) (sx1 : xs 1 = 1) (sx2 : xs 2 = y2) (hst : l.stackTraces = false) (C : Cx p s m args c cL_law RL D cy A) (hml : c.maxLocals = 8) (hX : va_X b 6 xs s s.heap) (hbl : b < s.heap.size) (hbA : ¬ A b) (w : Wd D A s.heap [(q0, .inr (11, [.ref q1, .int 0, .int 0, .int (-1), .ref q2, .ref q4, .ref q5, .ref q6, .ref q10, .null])), (q6, .inr (10, [.ref q7, .ref q8, .ref q9])), (q7, .inl (cy 1, 4, .inl (upd (upd (upd (upd (fun _ => 0) 0 (-1)) 1 (-1)) 2 (-1)) 3 (-1)))), (m0, .inr (12, [.ref m1, .ref m2, .ref m3, .ref m4, .ref m5, .int 0, .ref m6, .int 0, .int 0, .int 0, .int 0, .int 0, .int 0, .int 0, .int 0, .int 0, .int 0, .int (-1), .ref m7, .ref m8, .int 0, .ref m9, .int 0, .ref m10, .ref m11, .ref m12, .ref m13, .ref m14, .int 0, .ref m15, .ref m16, .ref m17])), (m15, .inl (cy 1, 4, .inl (upd (upd (upd (upd (fun _ => 0) 0 (-1)) 1 (-1)) 2 (-1)) 3 (-1))))] H locs) (hl : lv_has ls 8 [(0, .ref b), (1, .ref q0), (2, .ref m0), (3, .ref o0), (4, .int 0)]) (kk : ∀ (H : Heap) (locs : List Loc) (ls : Array Slot), va_S A s.heap H locs → lv_has ls 8 [(0, .ref b), (4, .int 0)] → W p l e room_1 s m args below meth c H locs 600002 7302232 Q (F0 m 2461 ls [])) : W p l e room_1 s m args below meth c H locs 37 29845 Q (F0 m 2069 ls []) := by
  refine lv_aload_n C.1 C.2.1 dL_law_2069 rfl (lv_at hl 1 rfl) ?_
  refine lv_aload_n C.1 C.2.1 dL_law_2070 rfl (lv_at hl 0 rfl) ?_
  refine lv_iload C.1 C.2.1 dL_law_2071 (lv_at hl 4 rfl) ?_
  refine lv_iconst (v := 1) C.1 C.2.1 dL_law_2073 (by decide) ?_
  refine r_iadd C (v := 1) dL_law_2074 (by decide) ?_
  refine r_sld C w hX hbl hbA (v := 1) (vinD (by decide)) sx1 dL_law_2075 ?_
  refine lv_aload_n C.1 C.2.1 dL_law_2076 rfl (lv_at hl 0 rfl) ?_
  refine lv_iload C.1 C.2.1 dL_law_2077 (lv_at hl 4 rfl) ?_
  refine lv_iconst (v := 2) C.1 C.2.1 dL_law_2079 (by decide) ?_
  refine r_iadd C (v := 2) dL_law_2080 (by decide) ?_
  refine r_sld C w hX hbl hbA (v := y2) (vinD (by decide)) sx2 dL_law_2081 ?_
  refine lv_aload_n C.1 C.2.1 dL_law_2082 rfl (lv_at hl 3 rfl) ?_
  refine r_callH C w fh_RL_229 (c_L_answers_1 l D cy q0 o0 q1 q2 q4 q5 q6 q10 q7 q8 q9 y2 hst) (hl.1.trans hml.symm) [0, 1, 2] [3, 4] (wr := [(m0, .inr (12, [.ref m1, .ref m2, .ref m3, .ref m4, .ref m5, .int 0, .ref m6, .int 0, .int 0, .int 0, .int 0, .int 0, .int 0, .int 0, .int 0, .int 0, .int 0, .int (-1), .ref m7, .ref m8, .int 0, .ref m9, .int 0, .ref m10, .ref m11, .ref m12, .ref m13, .ref m14, .int 0, .ref m15, .ref m16, .ref m17])), (m15, .inl (cy 1, 4, .inl (upd (upd (upd (upd (fun _ => 0) 0 (-1)) 1 (-1)) 2 (-1)) 3 (-1))))]) ⟨rfl, rfl, rfl, rfl, by decide⟩ rfl rfl ⟨Nat.le_of_ble_eq_true rfl, Nat.le_of_ble_eq_true rfl, Nat.le_of_ble_eq_true rfl⟩ 38 29851 ⟨rfl, rfl, Nat.le_of_ble_eq_true rfl, Nat.le_of_ble_eq_true rfl⟩ dL_law_2083 (fun u H locs hp w => ?_)
  have w : Wd D A s.heap [(m0, .inr (12, [.ref m1, .ref m2, .ref m3, .ref m4, .ref m5, .int 0, .ref m6, .int 0, .int 0, .int 0, .int 0, .int 0, .int 0, .int 0, .int 0, .int 0, .int 0, .int (-1), .ref m7, .ref m8, .int 0, .ref m9, .int 0, .ref m10, .ref m11, .ref m12, .ref m13, .ref m14, .int 0, .ref m15, .ref m16, .ref m17])), (m15, .inl (cy 1, 4, .inl (upd (upd (upd (upd (fun _ => 0) 0 (-1)) 1 (-1)) 2 (-1)) 3 (-1))))] _ _ := w.pick [0, 1] rfl rfl
  refine r_top (g2 := F0 m 2086 ls [.int 2]) rfl ?_
  refine lv_istore (lv' := [(5, .int 2), (0, .ref b), (1, .ref q0), (2, .ref m0), (3, .ref o0), (4, .int 0)]) C.1 C.2.1 dL_law_2086 hl (by decide) rfl (fun ls hl => ?_)
  refine lv_aload_n C.1 C.2.1 dL_law_2088 rfl (lv_at hl 3 rfl) ?_
  refine lv_aload_n C.1 C.2.1 dL_law_2089 rfl (lv_at hl 1 rfl) ?_
  refine lv_iload C.1 C.2.1 dL_law_2090 (lv_at hl 5 rfl) ?_
  refine lv_iconst (v := 1) C.1 C.2.1 dL_law_2092 (by decide) ?_
  refine r_iadd C (v := 1) dL_law_2093 (by decide) ?_
  refine r_sld C w hX hbl hbA (v := 1) (vinD (by decide)) sx1 dL_law_2094 ?_
  refine lv_aload_n C.1 C.2.1 dL_law_2095 rfl (lv_at hl 1 rfl) ?_
  refine lv_iload C.1 C.2.1 dL_law_2096 (lv_at hl 5 rfl) ?_
  refine lv_iconst (v := 2) C.1 C.2.1 dL_law_2098 (by decide) ?_
  refine r_iadd C (v := 2) dL_law_2099 (by decide) ?_
  refine r_sld C w hX hbl hbA (v := y2) (vinD (by decide)) sx2 dL_law_2100 ?_
  refine r_callV C w fv_RL_231 (c_X12_answers_1 l D cy m0 m1 m2 m3 m4 m5 m6 m7 m8 m9 m10 m11 m12 m13 m14 m15 m16 m17 y2) (hl.1.trans hml.symm) [0, 1] [] (wr := []) ⟨rfl, rfl, rfl, rfl, by decide⟩ 0 rfl rfl rfl rfl rfl ⟨Nat.le_of_ble_eq_true rfl, Nat.le_of_ble_eq_true rfl, Nat.le_of_ble_eq_true rfl⟩ 38 29851 ⟨rfl, rfl, Nat.le_of_ble_eq_true rfl, Nat.le_of_ble_eq_true rfl⟩ dL_law_2101 (fun u H locs hp w => ?_)
  have w : Wd D A s.heap [(m0, .inr (12, [.ref m1, .ref m2, .ref m3, .ref m4, .ref m5, .int 2, .ref m6, .int 0, .int 0, .int 0, .int 0, .int 0, .int 0, .int 0, .int 0, .int 0, .int 0, .int (-1), .ref m7, .ref m8, .int 0, .ref m9, .int 0, .ref m10, .ref m11, .ref m12, .ref m13, .ref m14, .int 0, .ref m15, .ref m16, .ref m17]))] _ _ := w.pick [0] rfl rfl
  refine r_top (g2 := F0 m 2104 ls [.int 0]) rfl ?_
  refine lv_istore (lv' := [(6, .int 0), (5, .int 2), (0, .ref b), (1, .ref q0), (2, .ref m0), (3, .ref o0), (4, .int 0)]) C.1 C.2.1 dL_law_2104 hl (by decide) rfl (fun ls hl => ?_)
  refine lv_aload_n C.1 C.2.1 dL_law_2106 rfl (lv_at hl 4 rfl) ?_
  refine r_callV C w fv_RL_134 (c_X12_thrown_10 l D cy m0 m1 m2 m3 m4 m5 m6 m7 m8 m9 m10 m11 m12 m13 m14 m15 m16 m17) (hl.1.trans hml.symm) [0] [] (wr := []) ⟨rfl, rfl, rfl, rfl, by decide⟩ 0 rfl rfl rfl rfl rfl ⟨Nat.le_of_ble_eq_true rfl, Nat.le_of_ble_eq_true rfl, Nat.le_of_ble_eq_true rfl⟩ 38 29851 ⟨rfl, rfl, Nat.le_of_ble_eq_true rfl, Nat.le_of_ble_eq_true rfl⟩ dL_law_2107 (fun u H locs hp w => ?_)
  have w : Wd D A s.heap [(m0, .inr (12, [.ref m1, .ref m2, .ref m3, .ref m4, .ref m5, .int 2, .ref m6, .int 0, .int 0, .int 0, .int 0, .int 0, .int 0, .int 0, .int 0, .int 0, .int 0, .int (-1), .ref m7, .ref m8, .int 0, .ref m9, .int 0, .ref m10, .ref m11, .ref m12, .ref m13, .ref m14, .int 0, .ref m15, .ref m16, .ref m17]))] _ _ := w.pick [0] rfl rfl
  refine r_top (g2 := F0 m 2110 ls [.int 2]) rfl ?_
  refine lv_iload C.1 C.2.1 dL_law_2110 (lv_at hl 1 rfl) ?_
  refine b_icmp_eq_t C (tgt := 2117) dL_law_2112 (by decide) (by decide) ?_
  refine lv_iload C.1 C.2.1 dL_law_2117 (lv_at hl 1 rfl) ?_
  refine b_if_ne_t C (tgt := 2134) dL_law_2119 (by decide) (by decide) ?_
  refine lv_goto (tgt := 2461) C.1 C.2.1 dL_law_2134 (by decide) ?_
  refine W.widen (k := 600002) (n := 7302232) (Nat.le_of_ble_eq_true rfl) (Nat.le_of_ble_eq_true rfl) ?_
  exact kk _ _ _ w.2.2 (lv_sub hl [2, 6] rfl)
set_option maxRecDepth 100000 in
set_option maxHeartbeats 4000000 in
theorem s_L_30_2 {p : Program} {l : Launch} {e : Env} {s : State} {m : MethodId} {args : Array Value} {below : List Frame} {meth : Method} {c : Code} {Q : State → Prop} {D : va_G} {cy : Nat → ClassId} {A : Nat → Prop} {H : Heap} {locs : List Loc} {ls : Array Slot} {xs : Nat → Int32} (b q0 q1 q2 q4 q5 q6 q10 q7 q8 q9 m0 m1 m2 m3 m4 m5 m6 m7 m8 m9 m10 m11 m12 m13 m14 m15 m16 m17 o0 : Nat) (y2 : Int32) (sx1 : xs 1 = 2) (sx2 : xs 2 = y2) (hst : l.stackTraces = false) (C : Cx p s m args c cL_law RL D cy A) (hml : c.maxLocals = 8) (hX : va_X b 6 xs s s.heap) (hbl : b < s.heap.size) (hbA : ¬ A b) (w : Wd D A s.heap [(q0, .inr (11, [.ref q1, .int 0, .int 0, .int (-1), .ref q2, .ref q4, .ref q5, .ref q6, .ref q10, .null])), (q6, .inr (10, [.ref q7, .ref q8, .ref q9])), (q7, .inl (cy 1, 4, .inl (upd (upd (upd (upd (fun _ => 0) 0 (-1)) 1 (-1)) 2 (-1)) 3 (-1)))), (m0, .inr (12, [.ref m1, .ref m2, .ref m3, .ref m4, .ref m5, .int 0, .ref m6, .int 0, .int 0, .int 0, .int 0, .int 0, .int 0, .int 0, .int 0, .int 0, .int 0, .int (-1), .ref m7, .ref m8, .int 0, .ref m9, .int 0, .ref m10, .ref m11, .ref m12, .ref m13, .ref m14, .int 0, .ref m15, .ref m16, .ref m17])), (m15, .inl (cy 1, 4, .inl (upd (upd (upd (upd (fun _ => 0) 0 (-1)) 1 (-1)) 2 (-1)) 3 (-1))))] H locs) (hl : lv_has ls 8 [(0, .ref b), (1, .ref q0), (2, .ref m0), (3, .ref o0), (4, .int 0)]) (kk : ∀ (H : Heap) (locs : List Loc) (ls : Array Slot), va_S A s.heap H locs → lv_has ls 8 [(0, .ref b), (4, .int 0)] → W p l e room_1 s m args below meth c H locs 600002 7302232 Q (F0 m 2461 ls [])) : W p l e room_1 s m args below meth c H locs 37 29845 Q (F0 m 2069 ls []) := by
  refine lv_aload_n C.1 C.2.1 dL_law_2069 rfl (lv_at hl 1 rfl) ?_
  refine lv_aload_n C.1 C.2.1 dL_law_2070 rfl (lv_at hl 0 rfl) ?_
  refine lv_iload C.1 C.2.1 dL_law_2071 (lv_at hl 4 rfl) ?_
  refine lv_iconst (v := 1) C.1 C.2.1 dL_law_2073 (by decide) ?_
  refine r_iadd C (v := 1) dL_law_2074 (by decide) ?_
  refine r_sld C w hX hbl hbA (v := 2) (vinD (by decide)) sx1 dL_law_2075 ?_
  refine lv_aload_n C.1 C.2.1 dL_law_2076 rfl (lv_at hl 0 rfl) ?_
  refine lv_iload C.1 C.2.1 dL_law_2077 (lv_at hl 4 rfl) ?_
  refine lv_iconst (v := 2) C.1 C.2.1 dL_law_2079 (by decide) ?_
  refine r_iadd C (v := 2) dL_law_2080 (by decide) ?_
  refine r_sld C w hX hbl hbA (v := y2) (vinD (by decide)) sx2 dL_law_2081 ?_
  refine lv_aload_n C.1 C.2.1 dL_law_2082 rfl (lv_at hl 3 rfl) ?_
  refine r_callH C w fh_RL_229 (c_L_answers_2 l D cy q0 o0 q1 q2 q4 q5 q6 q10 q7 q8 q9 y2 hst) (hl.1.trans hml.symm) [0, 1, 2] [3, 4] (wr := [(m0, .inr (12, [.ref m1, .ref m2, .ref m3, .ref m4, .ref m5, .int 0, .ref m6, .int 0, .int 0, .int 0, .int 0, .int 0, .int 0, .int 0, .int 0, .int 0, .int 0, .int (-1), .ref m7, .ref m8, .int 0, .ref m9, .int 0, .ref m10, .ref m11, .ref m12, .ref m13, .ref m14, .int 0, .ref m15, .ref m16, .ref m17])), (m15, .inl (cy 1, 4, .inl (upd (upd (upd (upd (fun _ => 0) 0 (-1)) 1 (-1)) 2 (-1)) 3 (-1))))]) ⟨rfl, rfl, rfl, rfl, by decide⟩ rfl rfl ⟨Nat.le_of_ble_eq_true rfl, Nat.le_of_ble_eq_true rfl, Nat.le_of_ble_eq_true rfl⟩ 38 29851 ⟨rfl, rfl, Nat.le_of_ble_eq_true rfl, Nat.le_of_ble_eq_true rfl⟩ dL_law_2083 (fun u H locs hp w => ?_)
  have w : Wd D A s.heap [(m0, .inr (12, [.ref m1, .ref m2, .ref m3, .ref m4, .ref m5, .int 0, .ref m6, .int 0, .int 0, .int 0, .int 0, .int 0, .int 0, .int 0, .int 0, .int 0, .int 0, .int (-1), .ref m7, .ref m8, .int 0, .ref m9, .int 0, .ref m10, .ref m11, .ref m12, .ref m13, .ref m14, .int 0, .ref m15, .ref m16, .ref m17])), (m15, .inl (cy 1, 4, .inl (upd (upd (upd (upd (fun _ => 0) 0 (-1)) 1 (-1)) 2 (-1)) 3 (-1))))] _ _ := w.pick [0, 1] rfl rfl
  refine r_top (g2 := F0 m 2086 ls [.int 2]) rfl ?_
  refine lv_istore (lv' := [(5, .int 2), (0, .ref b), (1, .ref q0), (2, .ref m0), (3, .ref o0), (4, .int 0)]) C.1 C.2.1 dL_law_2086 hl (by decide) rfl (fun ls hl => ?_)
  refine lv_aload_n C.1 C.2.1 dL_law_2088 rfl (lv_at hl 3 rfl) ?_
  refine lv_aload_n C.1 C.2.1 dL_law_2089 rfl (lv_at hl 1 rfl) ?_
  refine lv_iload C.1 C.2.1 dL_law_2090 (lv_at hl 5 rfl) ?_
  refine lv_iconst (v := 1) C.1 C.2.1 dL_law_2092 (by decide) ?_
  refine r_iadd C (v := 1) dL_law_2093 (by decide) ?_
  refine r_sld C w hX hbl hbA (v := 2) (vinD (by decide)) sx1 dL_law_2094 ?_
  refine lv_aload_n C.1 C.2.1 dL_law_2095 rfl (lv_at hl 1 rfl) ?_
  refine lv_iload C.1 C.2.1 dL_law_2096 (lv_at hl 5 rfl) ?_
  refine lv_iconst (v := 2) C.1 C.2.1 dL_law_2098 (by decide) ?_
  refine r_iadd C (v := 2) dL_law_2099 (by decide) ?_
  refine r_sld C w hX hbl hbA (v := y2) (vinD (by decide)) sx2 dL_law_2100 ?_
  refine r_callV C w fv_RL_231 (c_X12_answers_2 l D cy m0 m1 m2 m3 m4 m5 m6 m7 m8 m9 m10 m11 m12 m13 m14 m15 m16 m17 y2) (hl.1.trans hml.symm) [0, 1] [] (wr := []) ⟨rfl, rfl, rfl, rfl, by decide⟩ 0 rfl rfl rfl rfl rfl ⟨Nat.le_of_ble_eq_true rfl, Nat.le_of_ble_eq_true rfl, Nat.le_of_ble_eq_true rfl⟩ 38 29851 ⟨rfl, rfl, Nat.le_of_ble_eq_true rfl, Nat.le_of_ble_eq_true rfl⟩ dL_law_2101 (fun u H locs hp w => ?_)
  have w : Wd D A s.heap [(m0, .inr (12, [.ref m1, .ref m2, .ref m3, .ref m4, .ref m5, .int 2, .ref m6, .int 0, .int 0, .int 0, .int 0, .int 0, .int 0, .int 0, .int 0, .int 0, .int 0, .int (-1), .ref m7, .ref m8, .int 0, .ref m9, .int 0, .ref m10, .ref m11, .ref m12, .ref m13, .ref m14, .int 0, .ref m15, .ref m16, .ref m17]))] _ _ := w.pick [0] rfl rfl
  refine r_top (g2 := F0 m 2104 ls [.int 0]) rfl ?_
  refine lv_istore (lv' := [(6, .int 0), (5, .int 2), (0, .ref b), (1, .ref q0), (2, .ref m0), (3, .ref o0), (4, .int 0)]) C.1 C.2.1 dL_law_2104 hl (by decide) rfl (fun ls hl => ?_)
  refine lv_aload_n C.1 C.2.1 dL_law_2106 rfl (lv_at hl 4 rfl) ?_
  refine r_callV C w fv_RL_134 (c_X12_thrown_10 l D cy m0 m1 m2 m3 m4 m5 m6 m7 m8 m9 m10 m11 m12 m13 m14 m15 m16 m17) (hl.1.trans hml.symm) [0] [] (wr := []) ⟨rfl, rfl, rfl, rfl, by decide⟩ 0 rfl rfl rfl rfl rfl ⟨Nat.le_of_ble_eq_true rfl, Nat.le_of_ble_eq_true rfl, Nat.le_of_ble_eq_true rfl⟩ 38 29851 ⟨rfl, rfl, Nat.le_of_ble_eq_true rfl, Nat.le_of_ble_eq_true rfl⟩ dL_law_2107 (fun u H locs hp w => ?_)
  have w : Wd D A s.heap [(m0, .inr (12, [.ref m1, .ref m2, .ref m3, .ref m4, .ref m5, .int 2, .ref m6, .int 0, .int 0, .int 0, .int 0, .int 0, .int 0, .int 0, .int 0, .int 0, .int 0, .int (-1), .ref m7, .ref m8, .int 0, .ref m9, .int 0, .ref m10, .ref m11, .ref m12, .ref m13, .ref m14, .int 0, .ref m15, .ref m16, .ref m17]))] _ _ := w.pick [0] rfl rfl
  refine r_top (g2 := F0 m 2110 ls [.int 2]) rfl ?_
  refine lv_iload C.1 C.2.1 dL_law_2110 (lv_at hl 1 rfl) ?_
  refine b_icmp_eq_t C (tgt := 2117) dL_law_2112 (by decide) (by decide) ?_
  refine lv_iload C.1 C.2.1 dL_law_2117 (lv_at hl 1 rfl) ?_
  refine b_if_ne_t C (tgt := 2134) dL_law_2119 (by decide) (by decide) ?_
  refine lv_goto (tgt := 2461) C.1 C.2.1 dL_law_2134 (by decide) ?_
  refine W.widen (k := 600002) (n := 7302232) (Nat.le_of_ble_eq_true rfl) (Nat.le_of_ble_eq_true rfl) ?_
  exact kk _ _ _ w.2.2 (lv_sub hl [2, 6] rfl)
set_option maxRecDepth 100000 in
set_option maxHeartbeats 4000000 in
theorem s_L_30_3 {p : Program} {l : Launch} {e : Env} {s : State} {m : MethodId} {args : Array Value} {below : List Frame} {meth : Method} {c : Code} {Q : State → Prop} {D : va_G} {cy : Nat → ClassId} {A : Nat → Prop} {H : Heap} {locs : List Loc} {ls : Array Slot} {xs : Nat → Int32} (b q0 q1 q2 q4 q5 q6 q10 q7 q8 q9 m0 m1 m2 m3 m4 m5 m6 m7 m8 m9 m10 m11 m12 m13 m14 m15 m16 m17 o0 : Nat) (y2 : Int32) (sx1 : xs 1 = 3) (sx2 : xs 2 = y2) (hst : l.stackTraces = false) (C : Cx p s m args c cL_law RL D cy A) (hml : c.maxLocals = 8) (hX : va_X b 6 xs s s.heap) (hbl : b < s.heap.size) (hbA : ¬ A b) (w : Wd D A s.heap [(q0, .inr (11, [.ref q1, .int 0, .int 0, .int (-1), .ref q2, .ref q4, .ref q5, .ref q6, .ref q10, .null])), (q6, .inr (10, [.ref q7, .ref q8, .ref q9])), (q7, .inl (cy 1, 4, .inl (upd (upd (upd (upd (fun _ => 0) 0 (-1)) 1 (-1)) 2 (-1)) 3 (-1)))), (m0, .inr (12, [.ref m1, .ref m2, .ref m3, .ref m4, .ref m5, .int 0, .ref m6, .int 0, .int 0, .int 0, .int 0, .int 0, .int 0, .int 0, .int 0, .int 0, .int 0, .int (-1), .ref m7, .ref m8, .int 0, .ref m9, .int 0, .ref m10, .ref m11, .ref m12, .ref m13, .ref m14, .int 0, .ref m15, .ref m16, .ref m17])), (m15, .inl (cy 1, 4, .inl (upd (upd (upd (upd (fun _ => 0) 0 (-1)) 1 (-1)) 2 (-1)) 3 (-1))))] H locs) (hl : lv_has ls 8 [(0, .ref b), (1, .ref q0), (2, .ref m0), (3, .ref o0), (4, .int 0)]) (kk : ∀ (H : Heap) (locs : List Loc) (ls : Array Slot), va_S A s.heap H locs → lv_has ls 8 [(0, .ref b), (4, .int 0)] → W p l e room_1 s m args below meth c H locs 600002 7302232 Q (F0 m 2461 ls [])) : W p l e room_1 s m args below meth c H locs 37 29845 Q (F0 m 2069 ls []) := by
  refine lv_aload_n C.1 C.2.1 dL_law_2069 rfl (lv_at hl 1 rfl) ?_
  refine lv_aload_n C.1 C.2.1 dL_law_2070 rfl (lv_at hl 0 rfl) ?_
  refine lv_iload C.1 C.2.1 dL_law_2071 (lv_at hl 4 rfl) ?_
  refine lv_iconst (v := 1) C.1 C.2.1 dL_law_2073 (by decide) ?_
  refine r_iadd C (v := 1) dL_law_2074 (by decide) ?_
  refine r_sld C w hX hbl hbA (v := 3) (vinD (by decide)) sx1 dL_law_2075 ?_
  refine lv_aload_n C.1 C.2.1 dL_law_2076 rfl (lv_at hl 0 rfl) ?_
  refine lv_iload C.1 C.2.1 dL_law_2077 (lv_at hl 4 rfl) ?_
  refine lv_iconst (v := 2) C.1 C.2.1 dL_law_2079 (by decide) ?_
  refine r_iadd C (v := 2) dL_law_2080 (by decide) ?_
  refine r_sld C w hX hbl hbA (v := y2) (vinD (by decide)) sx2 dL_law_2081 ?_
  refine lv_aload_n C.1 C.2.1 dL_law_2082 rfl (lv_at hl 3 rfl) ?_
  refine r_callH C w fh_RL_229 (c_L_answers_3 l D cy q0 o0 q1 q2 q4 q5 q6 q10 q7 q8 q9 y2 hst) (hl.1.trans hml.symm) [0, 1, 2] [3, 4] (wr := [(m0, .inr (12, [.ref m1, .ref m2, .ref m3, .ref m4, .ref m5, .int 0, .ref m6, .int 0, .int 0, .int 0, .int 0, .int 0, .int 0, .int 0, .int 0, .int 0, .int 0, .int (-1), .ref m7, .ref m8, .int 0, .ref m9, .int 0, .ref m10, .ref m11, .ref m12, .ref m13, .ref m14, .int 0, .ref m15, .ref m16, .ref m17])), (m15, .inl (cy 1, 4, .inl (upd (upd (upd (upd (fun _ => 0) 0 (-1)) 1 (-1)) 2 (-1)) 3 (-1))))]) ⟨rfl, rfl, rfl, rfl, by decide⟩ rfl rfl ⟨Nat.le_of_ble_eq_true rfl, Nat.le_of_ble_eq_true rfl, Nat.le_of_ble_eq_true rfl⟩ 38 29851 ⟨rfl, rfl, Nat.le_of_ble_eq_true rfl, Nat.le_of_ble_eq_true rfl⟩ dL_law_2083 (fun u H locs hp w => ?_)
  have w : Wd D A s.heap [(m0, .inr (12, [.ref m1, .ref m2, .ref m3, .ref m4, .ref m5, .int 0, .ref m6, .int 0, .int 0, .int 0, .int 0, .int 0, .int 0, .int 0, .int 0, .int 0, .int 0, .int (-1), .ref m7, .ref m8, .int 0, .ref m9, .int 0, .ref m10, .ref m11, .ref m12, .ref m13, .ref m14, .int 0, .ref m15, .ref m16, .ref m17])), (m15, .inl (cy 1, 4, .inl (upd (upd (upd (upd (fun _ => 0) 0 (-1)) 1 (-1)) 2 (-1)) 3 (-1))))] _ _ := w.pick [0, 1] rfl rfl
  refine r_top (g2 := F0 m 2086 ls [.int 2]) rfl ?_
  refine lv_istore (lv' := [(5, .int 2), (0, .ref b), (1, .ref q0), (2, .ref m0), (3, .ref o0), (4, .int 0)]) C.1 C.2.1 dL_law_2086 hl (by decide) rfl (fun ls hl => ?_)
  refine lv_aload_n C.1 C.2.1 dL_law_2088 rfl (lv_at hl 3 rfl) ?_
  refine lv_aload_n C.1 C.2.1 dL_law_2089 rfl (lv_at hl 1 rfl) ?_
  refine lv_iload C.1 C.2.1 dL_law_2090 (lv_at hl 5 rfl) ?_
  refine lv_iconst (v := 1) C.1 C.2.1 dL_law_2092 (by decide) ?_
  refine r_iadd C (v := 1) dL_law_2093 (by decide) ?_
  refine r_sld C w hX hbl hbA (v := 3) (vinD (by decide)) sx1 dL_law_2094 ?_
  refine lv_aload_n C.1 C.2.1 dL_law_2095 rfl (lv_at hl 1 rfl) ?_
  refine lv_iload C.1 C.2.1 dL_law_2096 (lv_at hl 5 rfl) ?_
  refine lv_iconst (v := 2) C.1 C.2.1 dL_law_2098 (by decide) ?_
  refine r_iadd C (v := 2) dL_law_2099 (by decide) ?_
  refine r_sld C w hX hbl hbA (v := y2) (vinD (by decide)) sx2 dL_law_2100 ?_
  refine r_callV C w fv_RL_231 (c_X12_answers_3 l D cy m0 m1 m2 m3 m4 m5 m6 m7 m8 m9 m10 m11 m12 m13 m14 m15 m16 m17 y2) (hl.1.trans hml.symm) [0, 1] [] (wr := []) ⟨rfl, rfl, rfl, rfl, by decide⟩ 0 rfl rfl rfl rfl rfl ⟨Nat.le_of_ble_eq_true rfl, Nat.le_of_ble_eq_true rfl, Nat.le_of_ble_eq_true rfl⟩ 38 29851 ⟨rfl, rfl, Nat.le_of_ble_eq_true rfl, Nat.le_of_ble_eq_true rfl⟩ dL_law_2101 (fun u H locs hp w => ?_)
  have w : Wd D A s.heap [(m0, .inr (12, [.ref m1, .ref m2, .ref m3, .ref m4, .ref m5, .int 2, .ref m6, .int 0, .int 0, .int 0, .int 0, .int 0, .int 0, .int 0, .int 0, .int 0, .int 0, .int (-1), .ref m7, .ref m8, .int 0, .ref m9, .int 0, .ref m10, .ref m11, .ref m12, .ref m13, .ref m14, .int 0, .ref m15, .ref m16, .ref m17]))] _ _ := w.pick [0] rfl rfl
  refine r_top (g2 := F0 m 2104 ls [.int 0]) rfl ?_
  refine lv_istore (lv' := [(6, .int 0), (5, .int 2), (0, .ref b), (1, .ref q0), (2, .ref m0), (3, .ref o0), (4, .int 0)]) C.1 C.2.1 dL_law_2104 hl (by decide) rfl (fun ls hl => ?_)
  refine lv_aload_n C.1 C.2.1 dL_law_2106 rfl (lv_at hl 4 rfl) ?_
  refine r_callV C w fv_RL_134 (c_X12_thrown_10 l D cy m0 m1 m2 m3 m4 m5 m6 m7 m8 m9 m10 m11 m12 m13 m14 m15 m16 m17) (hl.1.trans hml.symm) [0] [] (wr := []) ⟨rfl, rfl, rfl, rfl, by decide⟩ 0 rfl rfl rfl rfl rfl ⟨Nat.le_of_ble_eq_true rfl, Nat.le_of_ble_eq_true rfl, Nat.le_of_ble_eq_true rfl⟩ 38 29851 ⟨rfl, rfl, Nat.le_of_ble_eq_true rfl, Nat.le_of_ble_eq_true rfl⟩ dL_law_2107 (fun u H locs hp w => ?_)
  have w : Wd D A s.heap [(m0, .inr (12, [.ref m1, .ref m2, .ref m3, .ref m4, .ref m5, .int 2, .ref m6, .int 0, .int 0, .int 0, .int 0, .int 0, .int 0, .int 0, .int 0, .int 0, .int 0, .int (-1), .ref m7, .ref m8, .int 0, .ref m9, .int 0, .ref m10, .ref m11, .ref m12, .ref m13, .ref m14, .int 0, .ref m15, .ref m16, .ref m17]))] _ _ := w.pick [0] rfl rfl
  refine r_top (g2 := F0 m 2110 ls [.int 2]) rfl ?_
  refine lv_iload C.1 C.2.1 dL_law_2110 (lv_at hl 1 rfl) ?_
  refine b_icmp_eq_t C (tgt := 2117) dL_law_2112 (by decide) (by decide) ?_
  refine lv_iload C.1 C.2.1 dL_law_2117 (lv_at hl 1 rfl) ?_
  refine b_if_ne_t C (tgt := 2134) dL_law_2119 (by decide) (by decide) ?_
  refine lv_goto (tgt := 2461) C.1 C.2.1 dL_law_2134 (by decide) ?_
  refine W.widen (k := 600002) (n := 7302232) (Nat.le_of_ble_eq_true rfl) (Nat.le_of_ble_eq_true rfl) ?_
  exact kk _ _ _ w.2.2 (lv_sub hl [2, 6] rfl)
set_option maxRecDepth 100000 in
set_option maxHeartbeats 4000000 in
theorem s_L_30_4 {p : Program} {l : Launch} {e : Env} {s : State} {m : MethodId} {args : Array Value} {below : List Frame} {meth : Method} {c : Code} {Q : State → Prop} {D : va_G} {cy : Nat → ClassId} {A : Nat → Prop} {H : Heap} {locs : List Loc} {ls : Array Slot} {xs : Nat → Int32} (b q0 q1 q2 q4 q5 q6 q10 q7 q8 q9 m0 m1 m2 m3 m4 m5 m6 m7 m8 m9 m10 m11 m12 m13 m14 m15 m16 m17 o0 : Nat) (y2 : Int32) (sx1 : xs 1 = 0) (sx2 : xs 2 = y2) (hst : l.stackTraces = false) (C : Cx p s m args c cL_law RL D cy A) (hml : c.maxLocals = 8) (hX : va_X b 6 xs s s.heap) (hbl : b < s.heap.size) (hbA : ¬ A b) (w : Wd D A s.heap [(q0, .inr (11, [.ref q1, .int 0, .int 0, .int (-1), .ref q2, .ref q4, .ref q5, .ref q6, .ref q10, .null])), (q6, .inr (10, [.ref q7, .ref q8, .ref q9])), (q7, .inl (cy 1, 4, .inl (upd (upd (upd (upd (fun _ => 0) 0 (-1)) 1 (-1)) 2 (-1)) 3 (-1)))), (m0, .inr (12, [.ref m1, .ref m2, .ref m3, .ref m4, .ref m5, .int 0, .ref m6, .int 0, .int 0, .int 0, .int 0, .int 0, .int 0, .int 0, .int 0, .int 0, .int 0, .int (-1), .ref m7, .ref m8, .int 0, .ref m9, .int 0, .ref m10, .ref m11, .ref m12, .ref m13, .ref m14, .int 0, .ref m15, .ref m16, .ref m17])), (m15, .inl (cy 1, 4, .inl (upd (upd (upd (upd (fun _ => 0) 0 (-1)) 1 (-1)) 2 (-1)) 3 (-1))))] H locs) (hl : lv_has ls 8 [(0, .ref b), (1, .ref q0), (2, .ref m0), (3, .ref o0), (4, .int 0)]) (kk : ∀ (H : Heap) (locs : List Loc) (ls : Array Slot), va_S A s.heap H locs → lv_has ls 8 [(0, .ref b), (4, .int 0)] → W p l e room_1 s m args below meth c H locs 600002 7302232 Q (F0 m 2461 ls [])) : W p l e room_1 s m args below meth c H locs 37 29845 Q (F0 m 2069 ls []) := by
  refine lv_aload_n C.1 C.2.1 dL_law_2069 rfl (lv_at hl 1 rfl) ?_
  refine lv_aload_n C.1 C.2.1 dL_law_2070 rfl (lv_at hl 0 rfl) ?_
  refine lv_iload C.1 C.2.1 dL_law_2071 (lv_at hl 4 rfl) ?_
  refine lv_iconst (v := 1) C.1 C.2.1 dL_law_2073 (by decide) ?_
  refine r_iadd C (v := 1) dL_law_2074 (by decide) ?_
  refine r_sld C w hX hbl hbA (v := 0) (vinD (by decide)) sx1 dL_law_2075 ?_
  refine lv_aload_n C.1 C.2.1 dL_law_2076 rfl (lv_at hl 0 rfl) ?_
  refine lv_iload C.1 C.2.1 dL_law_2077 (lv_at hl 4 rfl) ?_
  refine lv_iconst (v := 2) C.1 C.2.1 dL_law_2079 (by decide) ?_
  refine r_iadd C (v := 2) dL_law_2080 (by decide) ?_
  refine r_sld C w hX hbl hbA (v := y2) (vinD (by decide)) sx2 dL_law_2081 ?_
  refine lv_aload_n C.1 C.2.1 dL_law_2082 rfl (lv_at hl 3 rfl) ?_
  refine r_callH C w fh_RL_229 (c_L_answers_4 l D cy q0 o0 q1 q2 q4 q5 q6 q10 q7 q8 q9 y2 hst) (hl.1.trans hml.symm) [0, 1, 2] [3, 4] (wr := [(m0, .inr (12, [.ref m1, .ref m2, .ref m3, .ref m4, .ref m5, .int 0, .ref m6, .int 0, .int 0, .int 0, .int 0, .int 0, .int 0, .int 0, .int 0, .int 0, .int 0, .int (-1), .ref m7, .ref m8, .int 0, .ref m9, .int 0, .ref m10, .ref m11, .ref m12, .ref m13, .ref m14, .int 0, .ref m15, .ref m16, .ref m17])), (m15, .inl (cy 1, 4, .inl (upd (upd (upd (upd (fun _ => 0) 0 (-1)) 1 (-1)) 2 (-1)) 3 (-1))))]) ⟨rfl, rfl, rfl, rfl, by decide⟩ rfl rfl ⟨Nat.le_of_ble_eq_true rfl, Nat.le_of_ble_eq_true rfl, Nat.le_of_ble_eq_true rfl⟩ 38 29851 ⟨rfl, rfl, Nat.le_of_ble_eq_true rfl, Nat.le_of_ble_eq_true rfl⟩ dL_law_2083 (fun u H locs hp w => ?_)
  have w : Wd D A s.heap [(m0, .inr (12, [.ref m1, .ref m2, .ref m3, .ref m4, .ref m5, .int 0, .ref m6, .int 0, .int 0, .int 0, .int 0, .int 0, .int 0, .int 0, .int 0, .int 0, .int 0, .int (-1), .ref m7, .ref m8, .int 0, .ref m9, .int 0, .ref m10, .ref m11, .ref m12, .ref m13, .ref m14, .int 0, .ref m15, .ref m16, .ref m17])), (m15, .inl (cy 1, 4, .inl (upd (upd (upd (upd (fun _ => 0) 0 (-1)) 1 (-1)) 2 (-1)) 3 (-1))))] _ _ := w.pick [0, 1] rfl rfl
  refine r_top (g2 := F0 m 2086 ls [.int 2]) rfl ?_
  refine lv_istore (lv' := [(5, .int 2), (0, .ref b), (1, .ref q0), (2, .ref m0), (3, .ref o0), (4, .int 0)]) C.1 C.2.1 dL_law_2086 hl (by decide) rfl (fun ls hl => ?_)
  refine lv_aload_n C.1 C.2.1 dL_law_2088 rfl (lv_at hl 3 rfl) ?_
  refine lv_aload_n C.1 C.2.1 dL_law_2089 rfl (lv_at hl 1 rfl) ?_
  refine lv_iload C.1 C.2.1 dL_law_2090 (lv_at hl 5 rfl) ?_
  refine lv_iconst (v := 1) C.1 C.2.1 dL_law_2092 (by decide) ?_
  refine r_iadd C (v := 1) dL_law_2093 (by decide) ?_
  refine r_sld C w hX hbl hbA (v := 0) (vinD (by decide)) sx1 dL_law_2094 ?_
  refine lv_aload_n C.1 C.2.1 dL_law_2095 rfl (lv_at hl 1 rfl) ?_
  refine lv_iload C.1 C.2.1 dL_law_2096 (lv_at hl 5 rfl) ?_
  refine lv_iconst (v := 2) C.1 C.2.1 dL_law_2098 (by decide) ?_
  refine r_iadd C (v := 2) dL_law_2099 (by decide) ?_
  refine r_sld C w hX hbl hbA (v := y2) (vinD (by decide)) sx2 dL_law_2100 ?_
  refine r_callV C w fv_RL_231 (c_X12_answers_4 l D cy m0 m1 m2 m3 m4 m5 m6 m7 m8 m9 m10 m11 m12 m13 m14 m15 m16 m17 y2) (hl.1.trans hml.symm) [0, 1] [] (wr := []) ⟨rfl, rfl, rfl, rfl, by decide⟩ 0 rfl rfl rfl rfl rfl ⟨Nat.le_of_ble_eq_true rfl, Nat.le_of_ble_eq_true rfl, Nat.le_of_ble_eq_true rfl⟩ 38 29851 ⟨rfl, rfl, Nat.le_of_ble_eq_true rfl, Nat.le_of_ble_eq_true rfl⟩ dL_law_2101 (fun u H locs hp w => ?_)
  have w : Wd D A s.heap [(m0, .inr (12, [.ref m1, .ref m2, .ref m3, .ref m4, .ref m5, .int 2, .ref m6, .int 0, .int 0, .int 0, .int 0, .int 0, .int 0, .int 0, .int 0, .int 0, .int 0, .int (-1), .ref m7, .ref m8, .int 0, .ref m9, .int 0, .ref m10, .ref m11, .ref m12, .ref m13, .ref m14, .int 0, .ref m15, .ref m16, .ref m17]))] _ _ := w.pick [0] rfl rfl
  refine r_top (g2 := F0 m 2104 ls [.int 0]) rfl ?_
  refine lv_istore (lv' := [(6, .int 0), (5, .int 2), (0, .ref b), (1, .ref q0), (2, .ref m0), (3, .ref o0), (4, .int 0)]) C.1 C.2.1 dL_law_2104 hl (by decide) rfl (fun ls hl => ?_)
  refine lv_aload_n C.1 C.2.1 dL_law_2106 rfl (lv_at hl 4 rfl) ?_
  refine r_callV C w fv_RL_134 (c_X12_thrown_10 l D cy m0 m1 m2 m3 m4 m5 m6 m7 m8 m9 m10 m11 m12 m13 m14 m15 m16 m17) (hl.1.trans hml.symm) [0] [] (wr := []) ⟨rfl, rfl, rfl, rfl, by decide⟩ 0 rfl rfl rfl rfl rfl ⟨Nat.le_of_ble_eq_true rfl, Nat.le_of_ble_eq_true rfl, Nat.le_of_ble_eq_true rfl⟩ 38 29851 ⟨rfl, rfl, Nat.le_of_ble_eq_true rfl, Nat.le_of_ble_eq_true rfl⟩ dL_law_2107 (fun u H locs hp w => ?_)
  have w : Wd D A s.heap [(m0, .inr (12, [.ref m1, .ref m2, .ref m3, .ref m4, .ref m5, .int 2, .ref m6, .int 0, .int 0, .int 0, .int 0, .int 0, .int 0, .int 0, .int 0, .int 0, .int 0, .int (-1), .ref m7, .ref m8, .int 0, .ref m9, .int 0, .ref m10, .ref m11, .ref m12, .ref m13, .ref m14, .int 0, .ref m15, .ref m16, .ref m17]))] _ _ := w.pick [0] rfl rfl
  refine r_top (g2 := F0 m 2110 ls [.int 2]) rfl ?_
  refine lv_iload C.1 C.2.1 dL_law_2110 (lv_at hl 1 rfl) ?_
  refine b_icmp_eq_t C (tgt := 2117) dL_law_2112 (by decide) (by decide) ?_
  refine lv_iload C.1 C.2.1 dL_law_2117 (lv_at hl 1 rfl) ?_
  refine b_if_ne_t C (tgt := 2134) dL_law_2119 (by decide) (by decide) ?_
  refine lv_goto (tgt := 2461) C.1 C.2.1 dL_law_2134 (by decide) ?_
  refine W.widen (k := 600002) (n := 7302232) (Nat.le_of_ble_eq_true rfl) (Nat.le_of_ble_eq_true rfl) ?_
  exact kk _ _ _ w.2.2 (lv_sub hl [2, 6] rfl)
set_option maxRecDepth 100000 in
set_option maxHeartbeats 4000000 in
theorem s_L_30_5 {p : Program} {l : Launch} {e : Env} {s : State} {m : MethodId} {args : Array Value} {below : List Frame} {meth : Method} {c : Code} {Q : State → Prop} {D : va_G} {cy : Nat → ClassId} {A : Nat → Prop} {H : Heap} {locs : List Loc} {ls : Array Slot} {xs : Nat → Int32} (b q0 q1 q2 q4 q5 q6 q10 m0 m1 m2 m3 m4 m5 m6 m7 m8 m9 m10 m11 m12 m13 m14 m15 m16 m17 o0 : Nat) (y1 : Int32) (y2 : Int32) (k0 : ¬ y1 < 0) (k1 : ¬ y1 < 4) (sx1 : xs 1 = y1) (sx2 : xs 2 = y2) (hst : l.stackTraces = false) (C : Cx p s m args c cL_law RL D cy A) (hml : c.maxLocals = 8) (hX : va_X b 6 xs s s.heap) (hbl : b < s.heap.size) (hbA : ¬ A b) (w : Wd D A s.heap [(q0, .inr (11, [.ref q1, .int 0, .int 0, .int (-1), .ref q2, .ref q4, .ref q5, .ref q6, .ref q10, .null])), (m0, .inr (12, [.ref m1, .ref m2, .ref m3, .ref m4, .ref m5, .int 0, .ref m6, .int 0, .int 0, .int 0, .int 0, .int 0, .int 0, .int 0, .int 0, .int 0, .int 0, .int (-1), .ref m7, .ref m8, .int 0, .ref m9, .int 0, .ref m10, .ref m11, .ref m12, .ref m13, .ref m14, .int 0, .ref m15, .ref m16, .ref m17]))] H locs) (hl : lv_has ls 8 [(0, .ref b), (1, .ref q0), (2, .ref m0), (3, .ref o0), (4, .int 0)]) (kk : ∀ (H : Heap) (locs : List Loc) (ls : Array Slot), va_S A s.heap H locs → lv_has ls 8 [(0, .ref b), (4, .int 0)] → W p l e room_1 s m args below meth c H locs 600002 7302232 Q (F0 m 2461 ls [])) : W p l e room_1 s m args below meth c H locs 37 29845 Q (F0 m 2069 ls []) := by
  refine lv_aload_n C.1 C.2.1 dL_law_2069 rfl (lv_at hl 1 rfl) ?_
  refine lv_aload_n C.1 C.2.1 dL_law_2070 rfl (lv_at hl 0 rfl) ?_
  refine lv_iload C.1 C.2.1 dL_law_2071 (lv_at hl 4 rfl) ?_
  refine lv_iconst (v := 1) C.1 C.2.1 dL_law_2073 (by decide) ?_
  refine r_iadd C (v := 1) dL_law_2074 (by decide) ?_
  refine r_sld C w hX hbl hbA (v := y1) (vinD (by decide)) sx1 dL_law_2075 ?_
  refine lv_aload_n C.1 C.2.1 dL_law_2076 rfl (lv_at hl 0 rfl) ?_
  refine lv_iload C.1 C.2.1 dL_law_2077 (lv_at hl 4 rfl) ?_
  refine lv_iconst (v := 2) C.1 C.2.1 dL_law_2079 (by decide) ?_
  refine r_iadd C (v := 2) dL_law_2080 (by decide) ?_
  refine r_sld C w hX hbl hbA (v := y2) (vinD (by decide)) sx2 dL_law_2081 ?_
  refine lv_aload_n C.1 C.2.1 dL_law_2082 rfl (lv_at hl 3 rfl) ?_
  refine r_callH C w fh_RL_229 (c_L_answers_5 l D cy q0 o0 q1 q2 q4 q5 q6 q10 y1 y2 k0 k1 hst) (hl.1.trans hml.symm) [0] [1] (wr := [(m0, .inr (12, [.ref m1, .ref m2, .ref m3, .ref m4, .ref m5, .int 0, .ref m6, .int 0, .int 0, .int 0, .int 0, .int 0, .int 0, .int 0, .int 0, .int 0, .int 0, .int (-1), .ref m7, .ref m8, .int 0, .ref m9, .int 0, .ref m10, .ref m11, .ref m12, .ref m13, .ref m14, .int 0, .ref m15, .ref m16, .ref m17]))]) ⟨rfl, rfl, rfl, rfl, by decide⟩ rfl rfl ⟨Nat.le_of_ble_eq_true rfl, Nat.le_of_ble_eq_true rfl, Nat.le_of_ble_eq_true rfl⟩ 38 29851 ⟨rfl, rfl, Nat.le_of_ble_eq_true rfl, Nat.le_of_ble_eq_true rfl⟩ dL_law_2083 (fun u H locs hp w => ?_)
  have w : Wd D A s.heap [(m0, .inr (12, [.ref m1, .ref m2, .ref m3, .ref m4, .ref m5, .int 0, .ref m6, .int 0, .int 0, .int 0, .int 0, .int 0, .int 0, .int 0, .int 0, .int 0, .int 0, .int (-1), .ref m7, .ref m8, .int 0, .ref m9, .int 0, .ref m10, .ref m11, .ref m12, .ref m13, .ref m14, .int 0, .ref m15, .ref m16, .ref m17]))] _ _ := w.pick [0] rfl rfl
  refine r_top (g2 := F0 m 2086 ls [.int 1]) rfl ?_
  refine lv_istore (lv' := [(5, .int 1), (0, .ref b), (1, .ref q0), (2, .ref m0), (3, .ref o0), (4, .int 0)]) C.1 C.2.1 dL_law_2086 hl (by decide) rfl (fun ls hl => ?_)
  refine lv_aload_n C.1 C.2.1 dL_law_2088 rfl (lv_at hl 3 rfl) ?_
  refine lv_aload_n C.1 C.2.1 dL_law_2089 rfl (lv_at hl 1 rfl) ?_
  refine lv_iload C.1 C.2.1 dL_law_2090 (lv_at hl 5 rfl) ?_
  refine lv_iconst (v := 1) C.1 C.2.1 dL_law_2092 (by decide) ?_
  refine r_iadd C (v := 1) dL_law_2093 (by decide) ?_
  refine r_sld C w hX hbl hbA (v := y1) (vinD (by decide)) sx1 dL_law_2094 ?_
  refine lv_aload_n C.1 C.2.1 dL_law_2095 rfl (lv_at hl 1 rfl) ?_
  refine lv_iload C.1 C.2.1 dL_law_2096 (lv_at hl 5 rfl) ?_
  refine lv_iconst (v := 2) C.1 C.2.1 dL_law_2098 (by decide) ?_
  refine r_iadd C (v := 2) dL_law_2099 (by decide) ?_
  refine r_sld C w hX hbl hbA (v := y2) (vinD (by decide)) sx2 dL_law_2100 ?_
  refine r_callV C w fv_RL_231 (c_X12_answers_5 l D cy m0 m1 m2 m3 m4 m5 m6 m7 m8 m9 m10 m11 m12 m13 m14 m15 m16 m17 y1 y2 k0 (by have h0 := (i_nlt k0); have h1 := (i_nlt k1); have e0 : (0 : Int32).toInt = 0 := (by decide); have e1 : (3 : Int32).toInt = 3 := (by decide); have e2 : (4 : Int32).toInt = 4 := (by decide); rw [fa_lt]; omega)) (hl.1.trans hml.symm) [0] [] (wr := []) ⟨rfl, rfl, rfl, rfl, by decide⟩ 0 rfl rfl rfl rfl rfl ⟨Nat.le_of_ble_eq_true rfl, Nat.le_of_ble_eq_true rfl, Nat.le_of_ble_eq_true rfl⟩ 38 29851 ⟨rfl, rfl, Nat.le_of_ble_eq_true rfl, Nat.le_of_ble_eq_true rfl⟩ dL_law_2101 (fun u H locs hp w => ?_)
  have w : Wd D A s.heap [(m0, .inr (12, [.ref m1, .ref m2, .ref m3, .ref m4, .ref m5, .int 1, .ref m6, .int 0, .int 0, .int 0, .int 0, .int 0, .int 0, .int 0, .int 0, .int 0, .int 0, .int (-1), .ref m7, .ref m8, .int 0, .ref m9, .int 0, .ref m10, .ref m11, .ref m12, .ref m13, .ref m14, .int 0, .ref m15, .ref m16, .ref m17]))] _ _ := w.pick [0] rfl rfl
  refine r_top (g2 := F0 m 2104 ls [.int 0]) rfl ?_
  refine lv_istore (lv' := [(6, .int 0), (5, .int 1), (0, .ref b), (1, .ref q0), (2, .ref m0), (3, .ref o0), (4, .int 0)]) C.1 C.2.1 dL_law_2104 hl (by decide) rfl (fun ls hl => ?_)
  refine lv_aload_n C.1 C.2.1 dL_law_2106 rfl (lv_at hl 4 rfl) ?_
  refine r_callV C w fv_RL_134 (c_X12_thrown_0 l D cy m0 m1 m2 m3 m4 m5 m6 m7 m8 m9 m10 m11 m12 m13 m14 m15 m16 m17) (hl.1.trans hml.symm) [0] [] (wr := []) ⟨rfl, rfl, rfl, rfl, by decide⟩ 0 rfl rfl rfl rfl rfl ⟨Nat.le_of_ble_eq_true rfl, Nat.le_of_ble_eq_true rfl, Nat.le_of_ble_eq_true rfl⟩ 38 29851 ⟨rfl, rfl, Nat.le_of_ble_eq_true rfl, Nat.le_of_ble_eq_true rfl⟩ dL_law_2107 (fun u H locs hp w => ?_)
  have w : Wd D A s.heap [(m0, .inr (12, [.ref m1, .ref m2, .ref m3, .ref m4, .ref m5, .int 1, .ref m6, .int 0, .int 0, .int 0, .int 0, .int 0, .int 0, .int 0, .int 0, .int 0, .int 0, .int (-1), .ref m7, .ref m8, .int 0, .ref m9, .int 0, .ref m10, .ref m11, .ref m12, .ref m13, .ref m14, .int 0, .ref m15, .ref m16, .ref m17]))] _ _ := w.pick [0] rfl rfl
  refine r_top (g2 := F0 m 2110 ls [.int 1]) rfl ?_
  refine lv_iload C.1 C.2.1 dL_law_2110 (lv_at hl 1 rfl) ?_
  refine b_icmp_eq_t C (tgt := 2117) dL_law_2112 (by decide) (by decide) ?_
  refine lv_iload C.1 C.2.1 dL_law_2117 (lv_at hl 1 rfl) ?_
  refine b_if_ne_t C (tgt := 2134) dL_law_2119 (by decide) (by decide) ?_
  refine lv_goto (tgt := 2461) C.1 C.2.1 dL_law_2134 (by decide) ?_
  refine W.widen (k := 600002) (n := 7302232) (Nat.le_of_ble_eq_true rfl) (Nat.le_of_ble_eq_true rfl) ?_
  exact kk _ _ _ w.2.2 (lv_sub hl [2, 6] rfl)
set_option maxRecDepth 100000 in
set_option maxHeartbeats 4000000 in
theorem t_L_30 {p : Program} {l : Launch} {e : Env} {s : State} {m : MethodId} {args : Array Value} {below : List Frame} {meth : Method} {c : Code} {Q : State → Prop} {D : va_G} {cy : Nat → ClassId} {A : Nat → Prop} {H : Heap} {locs : List Loc} {ls : Array Slot} {xs : Nat → Int32} (b q0 q1 q2 q4 q5 q6 q10 q3 q7 q8 q9 q11 q12 q13 q14 q15 q16 q17 m0 m1 m2 m3 m4 m5 m6 m7 m8 m9 m10 m11 m12 m13 m14 m15 m16 m17 o0 : Nat) (hst : l.stackTraces = false) (C : Cx p s m args c cL_law RL D cy A) (hml : c.maxLocals = 8) (hX : va_X b 6 xs s s.heap) (hbl : b < s.heap.size) (hbA : ¬ A b) (w : Wd D A s.heap [(q0, .inr (11, [.ref q1, .int 0, .int 0, .int (-1), .ref q2, .ref q4, .ref q5, .ref q6, .ref q10, .null])), (q1, .inl (cy 0, 900, .inl (fun _ => 0))), (q2, .inr (5, [.ref q3, .int 0, .int 0, .int 0, .int 0, .int 0, .int 0, .null])), (q3, .inl (cy 0, 0, .inl (fun _ => 0))), (q4, .inl (cy 4, 5, .inr (.inr (.inr (.inr (va_up (fun _ => none) 0 (some q10))))))), (q5, .inl (cy 4, 3, .inr (.inr (.inr (.inr (fun _ => none)))))), (q6, .inr (10, [.ref q7, .ref q8, .ref q9])), (q7, .inl (cy 1, 4, .inl (upd (upd (upd (upd (fun _ => 0) 0 (-1)) 1 (-1)) 2 (-1)) 3 (-1)))), (q8, .inl (cy 1, 4, .inl (fun _ => 0))), (q9, .inl (cy 2, 160, .inr (.inl (fun _ => 0)))), (q10, .inr (9, [.int 0, .int 2, .int 20, .int 120, .int 0, .int 0, .int 0, .int 0, .ref q11, .int 0, .ref q12, .ref q13, .int 0, .ref q14, .ref q15, .ref q16, .ref q17])), (q11, .inl (cy 1, 6, .inl (fun _ => 0))), (q12, .inl (cy 1, 20, .inl (fun _ => 0))), (q13, .inl (cy 1, 20, .inl (fun _ => 0))), (q14, .inl (cy 1, 300, .inl (fun _ => 0))), (q15, .inl (cy 1, 300, .inl (fun _ => 0))), (q16, .inl (cy 1, 300, .inl (fun _ => 0))), (q17, .inl (cy 1, 300, .inl (fun _ => 0))), (m0, .inr (12, [.ref m1, .ref m2, .ref m3, .ref m4, .ref m5, .int 0, .ref m6, .int 0, .int 0, .int 0, .int 0, .int 0, .int 0, .int 0, .int 0, .int 0, .int 0, .int (-1), .ref m7, .ref m8, .int 0, .ref m9, .int 0, .ref m10, .ref m11, .ref m12, .ref m13, .ref m14, .int 0, .ref m15, .ref m16, .ref m17])), (m2, .inl (cy 1, 1868, .inl (fun _ => 0))), (m3, .inl (cy 1, 1868, .inl (fun _ => 0))), (m4, .inl (cy 1, 5604, .inl (fun _ => 0))), (m5, .inl (cy 3, 3, .inl (fun _ => 0))), (m6, .inl (cy 1, 900, .inl (fun _ => 0))), (m7, .inl (cy 1, 1830, .inl (fun _ => 0))), (m8, .inl (cy 1, 1830, .inl (fun _ => 0))), (m9, .inl (cy 2, 2465, .inr (.inl (fun _ => 0)))), (m10, .inl (cy 1, 7201, .inl (fun _ => 0))), (m11, .inl (cy 1, 1830, .inl (fun _ => 0))), (m12, .inl (cy 1, 5, .inl (fun _ => 0))), (m13, .inl (cy 1, 6, .inl (fun _ => 0))), (m14, .inl (cy 1, 6, .inl (fun _ => 0))), (m15, .inl (cy 1, 4, .inl (upd (upd (upd (upd (fun _ => 0) 0 (-1)) 1 (-1)) 2 (-1)) 3 (-1)))), (m16, .inl (cy 1, 4, .inl (fun _ => 0))), (m17, .inl (cy 2, 160, .inr (.inl (fun _ => 0)))), (m1, .inl (cy 1, 1868, .inl (upd (upd (upd (fun _ => 0) 1 2) 2 20) 3 120))), (o0, .inl (cy 2, 1, .inr (.inl (fun _ => 0))))] H locs) (hl : lv_has ls 8 [(0, .ref b), (1, .ref q0), (2, .ref m0), (3, .ref o0), (4, .int 0)]) (kk : ∀ (H : Heap) (locs : List Loc) (ls : Array Slot), va_S A s.heap H locs → lv_has ls 8 [(0, .ref b), (4, .int 0)] → W p l e room_1 s m args below meth c H locs 600002 7302232 Q (F0 m 2461 ls [])) : W p l e room_1 s m args below meth c H locs 37 29845 Q (F0 m 2069 ls []) := by
  obtain ⟨y1, sx1⟩ : ∃ y, xs 1 = y := ⟨_, rfl⟩
  obtain ⟨y2, sx2⟩ : ∃ y, xs 2 = y := ⟨_, rfl⟩
  obtain ⟨y3, sx3⟩ : ∃ y, xs 3 = y := ⟨_, rfl⟩
  obtain ⟨y4, sx4⟩ : ∃ y, xs 4 = y := ⟨_, rfl⟩
  obtain ⟨y5, sx5⟩ : ∃ y, xs 5 = y := ⟨_, rfl⟩
  by_cases g1 : y1 < 0
  · exact s_L_30_0 b q0 q1 q2 q4 q5 q6 q10 m0 m1 m2 m3 m4 m5 m6 m7 m8 m9 m10 m11 m12 m13 m14 m15 m16 m17 o0 y1 y2 g1 sx1 sx2 hst C hml hX hbl hbA (w.pick [0, 18] rfl rfl) hl kk
  · by_cases g2 : y1 = 1
    · subst g2
      exact s_L_30_1 b q0 q1 q2 q4 q5 q6 q10 q7 q8 q9 m0 m1 m2 m3 m4 m5 m6 m7 m8 m9 m10 m11 m12 m13 m14 m15 m16 m17 o0 y2 sx1 sx2 hst C hml hX hbl hbA (w.pick [0, 6, 7, 18, 32] rfl rfl) hl kk
    · by_cases g3 : y1 = 2
      · subst g3
        exact s_L_30_2 b q0 q1 q2 q4 q5 q6 q10 q7 q8 q9 m0 m1 m2 m3 m4 m5 m6 m7 m8 m9 m10 m11 m12 m13 m14 m15 m16 m17 o0 y2 sx1 sx2 hst C hml hX hbl hbA (w.pick [0, 6, 7, 18, 32] rfl rfl) hl kk
      · by_cases g4 : y1 = 3
        · subst g4
          exact s_L_30_3 b q0 q1 q2 q4 q5 q6 q10 q7 q8 q9 m0 m1 m2 m3 m4 m5 m6 m7 m8 m9 m10 m11 m12 m13 m14 m15 m16 m17 o0 y2 sx1 sx2 hst C hml hX hbl hbA (w.pick [0, 6, 7, 18, 32] rfl rfl) hl kk
        · by_cases g5 : y1 = 0
          · subst g5
            exact s_L_30_4 b q0 q1 q2 q4 q5 q6 q10 q7 q8 q9 m0 m1 m2 m3 m4 m5 m6 m7 m8 m9 m10 m11 m12 m13 m14 m15 m16 m17 o0 y2 sx1 sx2 hst C hml hX hbl hbA (w.pick [0, 6, 7, 18, 32] rfl rfl) hl kk
          · by_cases g6 : y1 < 4
            · exfalso
              have h0 := i_nlt g1
              have h1 := (not_congr (fa_eq _ _)).mp g2
              have h2 := (not_congr (fa_eq _ _)).mp g3
              have h3 := (not_congr (fa_eq _ _)).mp g4
              have h4 := (not_congr (fa_eq _ _)).mp g5
              have h5 := i_lt g6
              have e0 : (0 : Int32).toInt = 0 := (by decide)
              have e1 : (1 : Int32).toInt = 1 := (by decide)
              have e2 : (2 : Int32).toInt = 2 := (by decide)
              have e3 : (3 : Int32).toInt = 3 := (by decide)
              have e4 : (4 : Int32).toInt = 4 := (by decide)
              omega
            · exact s_L_30_5 b q0 q1 q2 q4 q5 q6 q10 m0 m1 m2 m3 m4 m5 m6 m7 m8 m9 m10 m11 m12 m13 m14 m15 m16 m17 o0 y1 y2 g1 g6 sx1 sx2 hst C hml hX hbl hbA (w.pick [0, 18] rfl rfl) hl kk
theorem dL_law_2137 : decode cL_law 2137 = .ok (.aload_n 1, 1) := by decide +kernel
theorem dL_law_2138 : decode cL_law 2138 = .ok (.aload_n 0, 1) := by decide +kernel
theorem dL_law_2139 : decode cL_law 2139 = .ok (.iload 4, 2) := by decide +kernel
theorem dL_law_2141 : decode cL_law 2141 = .ok (.iconst 1, 1) := by decide +kernel
theorem dL_law_2142 : decode cL_law 2142 = .ok (.iadd, 1) := by decide +kernel
theorem dL_law_2143 : decode cL_law 2143 = .ok (.iaload, 1) := by decide +kernel
theorem dL_law_2144 : decode cL_law 2144 = .ok (.aload_n 0, 1) := by decide +kernel
theorem dL_law_2145 : decode cL_law 2145 = .ok (.iload 4, 2) := by decide +kernel
theorem dL_law_2147 : decode cL_law 2147 = .ok (.iconst 2, 1) := by decide +kernel
theorem dL_law_2148 : decode cL_law 2148 = .ok (.iadd, 1) := by decide +kernel
theorem dL_law_2149 : decode cL_law 2149 = .ok (.iaload, 1) := by decide +kernel
theorem dL_law_2150 : decode cL_law 2150 = .ok (.aload_n 0, 1) := by decide +kernel
theorem dL_law_2151 : decode cL_law 2151 = .ok (.iload 4, 2) := by decide +kernel
theorem dL_law_2153 : decode cL_law 2153 = .ok (.iconst 3, 1) := by decide +kernel
theorem dL_law_2154 : decode cL_law 2154 = .ok (.iadd, 1) := by decide +kernel
theorem dL_law_2155 : decode cL_law 2155 = .ok (.iaload, 1) := by decide +kernel
theorem dL_law_2156 : decode cL_law 2156 = .ok (.invokestatic 232, 3) := by decide +kernel
theorem fh_RL_232 : FH RL 232 yL_tray cL_tray 5 (some .int) [(0, 7, 10, 19), (0, 7, 14, 13)] 4 := ⟨⟨gw_mem (by decide +kernel) (by decide +kernel), gw_mem (by decide +kernel) (by decide +kernel), gw_mem (by decide +kernel) (by decide +kernel), gw_mem (by decide +kernel) (by decide +kernel)⟩, ⟨by decide +kernel, by decide +kernel, by decide +kernel⟩⟩
theorem dL_law_2159 : decode cL_law 2159 = .ok (.istore 5, 2) := by decide +kernel
theorem dL_law_2161 : decode cL_law 2161 = .ok (.aload_n 2, 1) := by decide +kernel
theorem dL_law_2162 : decode cL_law 2162 = .ok (.aload_n 0, 1) := by decide +kernel
theorem dL_law_2163 : decode cL_law 2163 = .ok (.iload 4, 2) := by decide +kernel
theorem dL_law_2165 : decode cL_law 2165 = .ok (.iconst 1, 1) := by decide +kernel
theorem dL_law_2166 : decode cL_law 2166 = .ok (.iadd, 1) := by decide +kernel
theorem dL_law_2167 : decode cL_law 2167 = .ok (.iaload, 1) := by decide +kernel
theorem dL_law_2168 : decode cL_law 2168 = .ok (.aload_n 0, 1) := by decide +kernel
theorem dL_law_2169 : decode cL_law 2169 = .ok (.iload 4, 2) := by decide +kernel
theorem dL_law_2171 : decode cL_law 2171 = .ok (.iconst 2, 1) := by decide +kernel
theorem dL_law_2172 : decode cL_law 2172 = .ok (.iadd, 1) := by decide +kernel
theorem dL_law_2173 : decode cL_law 2173 = .ok (.iaload, 1) := by decide +kernel
theorem dL_law_2174 : decode cL_law 2174 = .ok (.aload_n 0, 1) := by decide +kernel
theorem dL_law_2175 : decode cL_law 2175 = .ok (.iload 4, 2) := by decide +kernel
theorem dL_law_2177 : decode cL_law 2177 = .ok (.iconst 3, 1) := by decide +kernel
theorem dL_law_2178 : decode cL_law 2178 = .ok (.iadd, 1) := by decide +kernel
theorem dL_law_2179 : decode cL_law 2179 = .ok (.iaload, 1) := by decide +kernel
theorem dL_law_2180 : decode cL_law 2180 = .ok (.invokevirtual 235, 3) := by decide +kernel
theorem fv_RL_235 : FV RL 235 yX12_tray cX12_tray 5 none 3 := ⟨⟨gw_mem (by decide +kernel) (by decide +kernel), gw_mem (by decide +kernel) (by decide +kernel), gw_mem (by decide +kernel) (by decide +kernel), gw_mem (by decide +kernel) (by decide +kernel), gw_mem (by decide +kernel) (by decide +kernel)⟩, ⟨by decide +kernel, by decide +kernel, by decide +kernel⟩⟩
theorem dL_law_2183 : decode cL_law 2183 = .ok (.aload_n 2, 1) := by decide +kernel
theorem dL_law_2184 : decode cL_law 2184 = .ok (.invokevirtual 134, 3) := by decide +kernel
theorem dL_law_2187 : decode cL_law 2187 = .ok (.iload 5, 2) := by decide +kernel
theorem dL_law_2189 : decode cL_law 2189 = .ok (.if_icmp .eq 5, 3) := by decide +kernel
theorem dL_law_2194 : decode cL_law 2194 = .ok (.goto 267, 3) := by decide +kernel
set_option maxRecDepth 100000 in
set_option maxHeartbeats 4000000 in
theorem s_L_31_0 {p : Program} {l : Launch} {e : Env} {s : State} {m : MethodId} {args : Array Value} {below : List Frame} {meth : Method} {c : Code} {Q : State → Prop} {D : va_G} {cy : Nat → ClassId} {A : Nat → Prop} {H : Heap} {locs : List Loc} {ls : Array Slot} {xs : Nat → Int32} (b q0 q1 q2 q4 q5 q6 q10 m0 m1 m2 m3 m4 m5 m6 m7 m8 m9 m10 m11 m12 m13 m14 m15 m16 m17 o0 : Nat) (y1 : Int32) (y2 : Int32) (y3 : Int32) (k0 : y1 < 0) (sx1 : xs 1 = y1) (sx2 : xs 2 = y2) (sx3 : xs 3 = y3) (hst : l.stackTraces = false) (C : Cx p s m args c cL_law RL D cy A) (hml : c.maxLocals = 8) (hX : va_X b 6 xs s s.heap) (hbl : b < s.heap.size) (hbA : ¬ A b) (w : Wd D A s.heap [(q0, .inr (11, [.ref q1, .int 0, .int 0, .int (-1), .ref q2, .ref q4, .ref q5, .ref q6, .ref q10, .null])), (m0, .inr (12, [.ref m1, .ref m2, .ref m3, .ref m4, .ref m5, .int 0, .ref m6, .int 0, .int 0, .int 0, .int 0, .int 0, .int 0, .int 0, .int 0, .int 0, .int 0, .int (-1), .ref m7, .ref m8, .int 0, .ref m9, .int 0, .ref m10, .ref m11, .ref m12, .ref m13, .ref m14, .int 0, .ref m15, .ref m16, .ref m17]))] H locs) (hl : lv_has ls 8 [(0, .ref b), (1, .ref q0), (2, .ref m0), (3, .ref o0), (4, .int 0)]) (kk : ∀ (H : Heap) (locs : List Loc) (ls : Array Slot), va_S A s.heap H locs → lv_has ls 8 [(0, .ref b), (4, .int 0)] → W p l e room_1 s m args below meth c H locs 600002 7302232 Q (F0 m 2461 ls [])) : W p l e room_1 s m args below meth c H locs 37 29845 Q (F0 m 2137 ls []) := by
  refine lv_aload_n C.1 C.2.1 dL_law_2137 rfl (lv_at hl 1 rfl) ?_
  refine lv_aload_n C.1 C.2.1 dL_law_2138 rfl (lv_at hl 0 rfl) ?_
  refine lv_iload C.1 C.2.1 dL_law_2139 (lv_at hl 4 rfl) ?_
  refine lv_iconst (v := 1) C.1 C.2.1 dL_law_2141 (by decide) ?_
  refine r_iadd C (v := 1) dL_law_2142 (by decide) ?_
  refine r_sld C w hX hbl hbA (v := y1) (vinD (by decide)) sx1 dL_law_2143 ?_
  refine lv_aload_n C.1 C.2.1 dL_law_2144 rfl (lv_at hl 0 rfl) ?_
  refine lv_iload C.1 C.2.1 dL_law_2145 (lv_at hl 4 rfl) ?_
  refine lv_iconst (v := 2) C.1 C.2.1 dL_law_2147 (by decide) ?_
  refine r_iadd C (v := 2) dL_law_2148 (by decide) ?_
  refine r_sld C w hX hbl hbA (v := y2) (vinD (by decide)) sx2 dL_law_2149 ?_
  refine lv_aload_n C.1 C.2.1 dL_law_2150 rfl (lv_at hl 0 rfl) ?_
  refine lv_iload C.1 C.2.1 dL_law_2151 (lv_at hl 4 rfl) ?_
  refine lv_iconst (v := 3) C.1 C.2.1 dL_law_2153 (by decide) ?_
  refine r_iadd C (v := 3) dL_law_2154 (by decide) ?_
  refine r_sld C w hX hbl hbA (v := y3) (vinD (by decide)) sx3 dL_law_2155 ?_
  refine r_callH C w fh_RL_232 (c_L_tray_0 l D cy q0 q1 q2 q4 q5 q6 q10 y1 y2 y3 k0 hst) (hl.1.trans hml.symm) [0] [1] (wr := [(m0, .inr (12, [.ref m1, .ref m2, .ref m3, .ref m4, .ref m5, .int 0, .ref m6, .int 0, .int 0, .int 0, .int 0, .int 0, .int 0, .int 0, .int 0, .int 0, .int 0, .int (-1), .ref m7, .ref m8, .int 0, .ref m9, .int 0, .ref m10, .ref m11, .ref m12, .ref m13, .ref m14, .int 0, .ref m15, .ref m16, .ref m17]))]) ⟨rfl, rfl, rfl, rfl, by decide⟩ rfl rfl ⟨Nat.le_of_ble_eq_true rfl, Nat.le_of_ble_eq_true rfl, Nat.le_of_ble_eq_true rfl⟩ 38 29851 ⟨rfl, rfl, Nat.le_of_ble_eq_true rfl, Nat.le_of_ble_eq_true rfl⟩ dL_law_2156 (fun u H locs hp w => ?_)
  have w : Wd D A s.heap [(m0, .inr (12, [.ref m1, .ref m2, .ref m3, .ref m4, .ref m5, .int 0, .ref m6, .int 0, .int 0, .int 0, .int 0, .int 0, .int 0, .int 0, .int 0, .int 0, .int 0, .int (-1), .ref m7, .ref m8, .int 0, .ref m9, .int 0, .ref m10, .ref m11, .ref m12, .ref m13, .ref m14, .int 0, .ref m15, .ref m16, .ref m17]))] _ _ := w.pick [0] rfl rfl
  refine r_top (g2 := F0 m 2159 ls [.int 1]) rfl ?_
  refine lv_istore (lv' := [(5, .int 1), (0, .ref b), (1, .ref q0), (2, .ref m0), (3, .ref o0), (4, .int 0)]) C.1 C.2.1 dL_law_2159 hl (by decide) rfl (fun ls hl => ?_)
  refine lv_aload_n C.1 C.2.1 dL_law_2161 rfl (lv_at hl 3 rfl) ?_
  refine lv_aload_n C.1 C.2.1 dL_law_2162 rfl (lv_at hl 1 rfl) ?_
  refine lv_iload C.1 C.2.1 dL_law_2163 (lv_at hl 5 rfl) ?_
  refine lv_iconst (v := 1) C.1 C.2.1 dL_law_2165 (by decide) ?_
  refine r_iadd C (v := 1) dL_law_2166 (by decide) ?_
  refine r_sld C w hX hbl hbA (v := y1) (vinD (by decide)) sx1 dL_law_2167 ?_
  refine lv_aload_n C.1 C.2.1 dL_law_2168 rfl (lv_at hl 1 rfl) ?_
  refine lv_iload C.1 C.2.1 dL_law_2169 (lv_at hl 5 rfl) ?_
  refine lv_iconst (v := 2) C.1 C.2.1 dL_law_2171 (by decide) ?_
  refine r_iadd C (v := 2) dL_law_2172 (by decide) ?_
  refine r_sld C w hX hbl hbA (v := y2) (vinD (by decide)) sx2 dL_law_2173 ?_
  refine lv_aload_n C.1 C.2.1 dL_law_2174 rfl (lv_at hl 1 rfl) ?_
  refine lv_iload C.1 C.2.1 dL_law_2175 (lv_at hl 5 rfl) ?_
  refine lv_iconst (v := 3) C.1 C.2.1 dL_law_2177 (by decide) ?_
  refine r_iadd C (v := 3) dL_law_2178 (by decide) ?_
  refine r_sld C w hX hbl hbA (v := y3) (vinD (by decide)) sx3 dL_law_2179 ?_
  refine r_callV C w fv_RL_235 (c_X12_tray_0 l D cy m0 m1 m2 m3 m4 m5 m6 m7 m8 m9 m10 m11 m12 m13 m14 m15 m16 m17 y1 y2 y3 k0) (hl.1.trans hml.symm) [0] [] (wr := []) ⟨rfl, rfl, rfl, rfl, by decide⟩ 0 rfl rfl rfl rfl rfl ⟨Nat.le_of_ble_eq_true rfl, Nat.le_of_ble_eq_true rfl, Nat.le_of_ble_eq_true rfl⟩ 38 29851 ⟨rfl, rfl, Nat.le_of_ble_eq_true rfl, Nat.le_of_ble_eq_true rfl⟩ dL_law_2180 (fun u H locs hp w => ?_)
  have w : Wd D A s.heap [(m0, .inr (12, [.ref m1, .ref m2, .ref m3, .ref m4, .ref m5, .int 1, .ref m6, .int 0, .int 0, .int 0, .int 0, .int 0, .int 0, .int 0, .int 0, .int 0, .int 0, .int (-1), .ref m7, .ref m8, .int 0, .ref m9, .int 0, .ref m10, .ref m11, .ref m12, .ref m13, .ref m14, .int 0, .ref m15, .ref m16, .ref m17]))] _ _ := w.pick [0] rfl rfl
  refine r_top (g2 := F0 m 2183 ls []) rfl ?_
  refine lv_aload_n C.1 C.2.1 dL_law_2183 rfl (lv_at hl 3 rfl) ?_
  refine r_callV C w fv_RL_134 (c_X12_thrown_0 l D cy m0 m1 m2 m3 m4 m5 m6 m7 m8 m9 m10 m11 m12 m13 m14 m15 m16 m17) (hl.1.trans hml.symm) [0] [] (wr := []) ⟨rfl, rfl, rfl, rfl, by decide⟩ 0 rfl rfl rfl rfl rfl ⟨Nat.le_of_ble_eq_true rfl, Nat.le_of_ble_eq_true rfl, Nat.le_of_ble_eq_true rfl⟩ 38 29851 ⟨rfl, rfl, Nat.le_of_ble_eq_true rfl, Nat.le_of_ble_eq_true rfl⟩ dL_law_2184 (fun u H locs hp w => ?_)
  have w : Wd D A s.heap [(m0, .inr (12, [.ref m1, .ref m2, .ref m3, .ref m4, .ref m5, .int 1, .ref m6, .int 0, .int 0, .int 0, .int 0, .int 0, .int 0, .int 0, .int 0, .int 0, .int 0, .int (-1), .ref m7, .ref m8, .int 0, .ref m9, .int 0, .ref m10, .ref m11, .ref m12, .ref m13, .ref m14, .int 0, .ref m15, .ref m16, .ref m17]))] _ _ := w.pick [0] rfl rfl
  refine r_top (g2 := F0 m 2187 ls [.int 1]) rfl ?_
  refine lv_iload C.1 C.2.1 dL_law_2187 (lv_at hl 0 rfl) ?_
  refine b_icmp_eq_t C (tgt := 2194) dL_law_2189 (by decide) (by decide) ?_
  refine lv_goto (tgt := 2461) C.1 C.2.1 dL_law_2194 (by decide) ?_
  refine W.widen (k := 600002) (n := 7302232) (Nat.le_of_ble_eq_true rfl) (Nat.le_of_ble_eq_true rfl) ?_
  exact kk _ _ _ w.2.2 (lv_sub hl [1, 5] rfl)
set_option maxRecDepth 100000 in
set_option maxHeartbeats 4000000 in
theorem s_L_31_1 {p : Program} {l : Launch} {e : Env} {s : State} {m : MethodId} {args : Array Value} {below : List Frame} {meth : Method} {c : Code} {Q : State → Prop} {D : va_G} {cy : Nat → ClassId} {A : Nat → Prop} {H : Heap} {locs : List Loc} {ls : Array Slot} {xs : Nat → Int32} (b q0 q1 q2 q4 q5 q6 q10 m0 m1 m2 m3 m4 m5 m6 m7 m8 m9 m10 m11 m12 m13 m14 m15 m16 m17 o0 : Nat) (y1 : Int32) (y2 : Int32) (y3 : Int32) (k0 : ¬ y1 < 0) (k1 : ¬ y1 < 4) (sx1 : xs 1 = y1) (sx2 : xs 2 = y2) (sx3 : xs 3 = y3) (hst : l.stackTraces = false) (C : Cx p s m args c cL_law RL D cy A) (hml : c.maxLocals = 8) (hX : va_X b 6 xs s s.heap) (hbl : b < s.heap.size) (hbA : ¬ A b) (w : Wd D A s.heap [(q0, .inr (11, [.ref q1, .int 0, .int 0, .int (-1), .ref q2, .ref q4, .ref q5, .ref q6, .ref q10, .null])), (m0, .inr (12, [.ref m1, .ref m2, .ref m3, .ref m4, .ref m5, .int 0, .ref m6, .int 0, .int 0, .int 0, .int 0, .int 0, .int 0, .int 0, .int 0, .int 0, .int 0, .int (-1), .ref m7, .ref m8, .int 0, .ref m9, .int 0, .ref m10, .ref m11, .ref m12, .ref m13, .ref m14, .int 0, .ref m15, .ref m16, .ref m17]))] H locs) (hl : lv_has ls 8 [(0, .ref b), (1, .ref q0), (2, .ref m0), (3, .ref o0), (4, .int 0)]) (kk : ∀ (H : Heap) (locs : List Loc) (ls : Array Slot), va_S A s.heap H locs → lv_has ls 8 [(0, .ref b), (4, .int 0)] → W p l e room_1 s m args below meth c H locs 600002 7302232 Q (F0 m 2461 ls [])) : W p l e room_1 s m args below meth c H locs 37 29845 Q (F0 m 2137 ls []) := by
  refine lv_aload_n C.1 C.2.1 dL_law_2137 rfl (lv_at hl 1 rfl) ?_
  refine lv_aload_n C.1 C.2.1 dL_law_2138 rfl (lv_at hl 0 rfl) ?_
  refine lv_iload C.1 C.2.1 dL_law_2139 (lv_at hl 4 rfl) ?_
  refine lv_iconst (v := 1) C.1 C.2.1 dL_law_2141 (by decide) ?_
  refine r_iadd C (v := 1) dL_law_2142 (by decide) ?_
  refine r_sld C w hX hbl hbA (v := y1) (vinD (by decide)) sx1 dL_law_2143 ?_
  refine lv_aload_n C.1 C.2.1 dL_law_2144 rfl (lv_at hl 0 rfl) ?_
  refine lv_iload C.1 C.2.1 dL_law_2145 (lv_at hl 4 rfl) ?_
  refine lv_iconst (v := 2) C.1 C.2.1 dL_law_2147 (by decide) ?_
  refine r_iadd C (v := 2) dL_law_2148 (by decide) ?_
  refine r_sld C w hX hbl hbA (v := y2) (vinD (by decide)) sx2 dL_law_2149 ?_
  refine lv_aload_n C.1 C.2.1 dL_law_2150 rfl (lv_at hl 0 rfl) ?_
  refine lv_iload C.1 C.2.1 dL_law_2151 (lv_at hl 4 rfl) ?_
  refine lv_iconst (v := 3) C.1 C.2.1 dL_law_2153 (by decide) ?_
  refine r_iadd C (v := 3) dL_law_2154 (by decide) ?_
  refine r_sld C w hX hbl hbA (v := y3) (vinD (by decide)) sx3 dL_law_2155 ?_
  refine r_callH C w fh_RL_232 (c_L_tray_1 l D cy q0 q1 q2 q4 q5 q6 q10 y1 y2 y3 k0 k1 hst) (hl.1.trans hml.symm) [0] [1] (wr := [(m0, .inr (12, [.ref m1, .ref m2, .ref m3, .ref m4, .ref m5, .int 0, .ref m6, .int 0, .int 0, .int 0, .int 0, .int 0, .int 0, .int 0, .int 0, .int 0, .int 0, .int (-1), .ref m7, .ref m8, .int 0, .ref m9, .int 0, .ref m10, .ref m11, .ref m12, .ref m13, .ref m14, .int 0, .ref m15, .ref m16, .ref m17]))]) ⟨rfl, rfl, rfl, rfl, by decide⟩ rfl rfl ⟨Nat.le_of_ble_eq_true rfl, Nat.le_of_ble_eq_true rfl, Nat.le_of_ble_eq_true rfl⟩ 38 29851 ⟨rfl, rfl, Nat.le_of_ble_eq_true rfl, Nat.le_of_ble_eq_true rfl⟩ dL_law_2156 (fun u H locs hp w => ?_)
  have w : Wd D A s.heap [(m0, .inr (12, [.ref m1, .ref m2, .ref m3, .ref m4, .ref m5, .int 0, .ref m6, .int 0, .int 0, .int 0, .int 0, .int 0, .int 0, .int 0, .int 0, .int 0, .int 0, .int (-1), .ref m7, .ref m8, .int 0, .ref m9, .int 0, .ref m10, .ref m11, .ref m12, .ref m13, .ref m14, .int 0, .ref m15, .ref m16, .ref m17]))] _ _ := w.pick [0] rfl rfl
  refine r_top (g2 := F0 m 2159 ls [.int 1]) rfl ?_
  refine lv_istore (lv' := [(5, .int 1), (0, .ref b), (1, .ref q0), (2, .ref m0), (3, .ref o0), (4, .int 0)]) C.1 C.2.1 dL_law_2159 hl (by decide) rfl (fun ls hl => ?_)
  refine lv_aload_n C.1 C.2.1 dL_law_2161 rfl (lv_at hl 3 rfl) ?_
  refine lv_aload_n C.1 C.2.1 dL_law_2162 rfl (lv_at hl 1 rfl) ?_
  refine lv_iload C.1 C.2.1 dL_law_2163 (lv_at hl 5 rfl) ?_
  refine lv_iconst (v := 1) C.1 C.2.1 dL_law_2165 (by decide) ?_
  refine r_iadd C (v := 1) dL_law_2166 (by decide) ?_
  refine r_sld C w hX hbl hbA (v := y1) (vinD (by decide)) sx1 dL_law_2167 ?_
  refine lv_aload_n C.1 C.2.1 dL_law_2168 rfl (lv_at hl 1 rfl) ?_
  refine lv_iload C.1 C.2.1 dL_law_2169 (lv_at hl 5 rfl) ?_
  refine lv_iconst (v := 2) C.1 C.2.1 dL_law_2171 (by decide) ?_
  refine r_iadd C (v := 2) dL_law_2172 (by decide) ?_
  refine r_sld C w hX hbl hbA (v := y2) (vinD (by decide)) sx2 dL_law_2173 ?_
  refine lv_aload_n C.1 C.2.1 dL_law_2174 rfl (lv_at hl 1 rfl) ?_
  refine lv_iload C.1 C.2.1 dL_law_2175 (lv_at hl 5 rfl) ?_
  refine lv_iconst (v := 3) C.1 C.2.1 dL_law_2177 (by decide) ?_
  refine r_iadd C (v := 3) dL_law_2178 (by decide) ?_
  refine r_sld C w hX hbl hbA (v := y3) (vinD (by decide)) sx3 dL_law_2179 ?_
  refine r_callV C w fv_RL_235 (c_X12_tray_1 l D cy m0 m1 m2 m3 m4 m5 m6 m7 m8 m9 m10 m11 m12 m13 m14 m15 m16 m17 y1 y2 y3 k0 (by have h0 := (i_nlt k0); have h1 := (i_nlt k1); have e0 : (0 : Int32).toInt = 0 := (by decide); have e1 : (3 : Int32).toInt = 3 := (by decide); have e2 : (4 : Int32).toInt = 4 := (by decide); rw [fa_lt]; omega)) (hl.1.trans hml.symm) [0] [] (wr := []) ⟨rfl, rfl, rfl, rfl, by decide⟩ 0 rfl rfl rfl rfl rfl ⟨Nat.le_of_ble_eq_true rfl, Nat.le_of_ble_eq_true rfl, Nat.le_of_ble_eq_true rfl⟩ 38 29851 ⟨rfl, rfl, Nat.le_of_ble_eq_true rfl, Nat.le_of_ble_eq_true rfl⟩ dL_law_2180 (fun u H locs hp w => ?_)
  have w : Wd D A s.heap [(m0, .inr (12, [.ref m1, .ref m2, .ref m3, .ref m4, .ref m5, .int 1, .ref m6, .int 0, .int 0, .int 0, .int 0, .int 0, .int 0, .int 0, .int 0, .int 0, .int 0, .int (-1), .ref m7, .ref m8, .int 0, .ref m9, .int 0, .ref m10, .ref m11, .ref m12, .ref m13, .ref m14, .int 0, .ref m15, .ref m16, .ref m17]))] _ _ := w.pick [0] rfl rfl
  refine r_top (g2 := F0 m 2183 ls []) rfl ?_
  refine lv_aload_n C.1 C.2.1 dL_law_2183 rfl (lv_at hl 3 rfl) ?_
  refine r_callV C w fv_RL_134 (c_X12_thrown_0 l D cy m0 m1 m2 m3 m4 m5 m6 m7 m8 m9 m10 m11 m12 m13 m14 m15 m16 m17) (hl.1.trans hml.symm) [0] [] (wr := []) ⟨rfl, rfl, rfl, rfl, by decide⟩ 0 rfl rfl rfl rfl rfl ⟨Nat.le_of_ble_eq_true rfl, Nat.le_of_ble_eq_true rfl, Nat.le_of_ble_eq_true rfl⟩ 38 29851 ⟨rfl, rfl, Nat.le_of_ble_eq_true rfl, Nat.le_of_ble_eq_true rfl⟩ dL_law_2184 (fun u H locs hp w => ?_)
  have w : Wd D A s.heap [(m0, .inr (12, [.ref m1, .ref m2, .ref m3, .ref m4, .ref m5, .int 1, .ref m6, .int 0, .int 0, .int 0, .int 0, .int 0, .int 0, .int 0, .int 0, .int 0, .int 0, .int (-1), .ref m7, .ref m8, .int 0, .ref m9, .int 0, .ref m10, .ref m11, .ref m12, .ref m13, .ref m14, .int 0, .ref m15, .ref m16, .ref m17]))] _ _ := w.pick [0] rfl rfl
  refine r_top (g2 := F0 m 2187 ls [.int 1]) rfl ?_
  refine lv_iload C.1 C.2.1 dL_law_2187 (lv_at hl 0 rfl) ?_
  refine b_icmp_eq_t C (tgt := 2194) dL_law_2189 (by decide) (by decide) ?_
  refine lv_goto (tgt := 2461) C.1 C.2.1 dL_law_2194 (by decide) ?_
  refine W.widen (k := 600002) (n := 7302232) (Nat.le_of_ble_eq_true rfl) (Nat.le_of_ble_eq_true rfl) ?_
  exact kk _ _ _ w.2.2 (lv_sub hl [1, 5] rfl)
set_option maxRecDepth 100000 in
set_option maxHeartbeats 4000000 in
theorem s_L_31_2 {p : Program} {l : Launch} {e : Env} {s : State} {m : MethodId} {args : Array Value} {below : List Frame} {meth : Method} {c : Code} {Q : State → Prop} {D : va_G} {cy : Nat → ClassId} {A : Nat → Prop} {H : Heap} {locs : List Loc} {ls : Array Slot} {xs : Nat → Int32} (b q0 q1 q2 q4 q5 q6 q10 m0 m1 m2 m3 m4 m5 m6 m7 m8 m9 m10 m11 m12 m13 m14 m15 m16 m17 o0 : Nat) (y1 : Int32) (y2 : Int32) (y3 : Int32) (k0 : ¬ y1 < 0) (k1 : y1 < 4) (k2 : y2 < 0) (sx1 : xs 1 = y1) (sx2 : xs 2 = y2) (sx3 : xs 3 = y3) (hst : l.stackTraces = false) (C : Cx p s m args c cL_law RL D cy A) (hml : c.maxLocals = 8) (hX : va_X b 6 xs s s.heap) (hbl : b < s.heap.size) (hbA : ¬ A b) (w : Wd D A s.heap [(q0, .inr (11, [.ref q1, .int 0, .int 0, .int (-1), .ref q2, .ref q4, .ref q5, .ref q6, .ref q10, .null])), (m0, .inr (12, [.ref m1, .ref m2, .ref m3, .ref m4, .ref m5, .int 0, .ref m6, .int 0, .int 0, .int 0, .int 0, .int 0, .int 0, .int 0, .int 0, .int 0, .int 0, .int (-1), .ref m7, .ref m8, .int 0, .ref m9, .int 0, .ref m10, .ref m11, .ref m12, .ref m13, .ref m14, .int 0, .ref m15, .ref m16, .ref m17]))] H locs) (hl : lv_has ls 8 [(0, .ref b), (1, .ref q0), (2, .ref m0), (3, .ref o0), (4, .int 0)]) (kk : ∀ (H : Heap) (locs : List Loc) (ls : Array Slot), va_S A s.heap H locs → lv_has ls 8 [(0, .ref b), (4, .int 0)] → W p l e room_1 s m args below meth c H locs 600002 7302232 Q (F0 m 2461 ls [])) : W p l e room_1 s m args below meth c H locs 37 29845 Q (F0 m 2137 ls []) := by
  refine lv_aload_n C.1 C.2.1 dL_law_2137 rfl (lv_at hl 1 rfl) ?_
  refine lv_aload_n C.1 C.2.1 dL_law_2138 rfl (lv_at hl 0 rfl) ?_
  refine lv_iload C.1 C.2.1 dL_law_2139 (lv_at hl 4 rfl) ?_
  refine lv_iconst (v := 1) C.1 C.2.1 dL_law_2141 (by decide) ?_
  refine r_iadd C (v := 1) dL_law_2142 (by decide) ?_
  refine r_sld C w hX hbl hbA (v := y1) (vinD (by decide)) sx1 dL_law_2143 ?_
  refine lv_aload_n C.1 C.2.1 dL_law_2144 rfl (lv_at hl 0 rfl) ?_
  refine lv_iload C.1 C.2.1 dL_law_2145 (lv_at hl 4 rfl) ?_
  refine lv_iconst (v := 2) C.1 C.2.1 dL_law_2147 (by decide) ?_
  refine r_iadd C (v := 2) dL_law_2148 (by decide) ?_
  refine r_sld C w hX hbl hbA (v := y2) (vinD (by decide)) sx2 dL_law_2149 ?_
  refine lv_aload_n C.1 C.2.1 dL_law_2150 rfl (lv_at hl 0 rfl) ?_
  refine lv_iload C.1 C.2.1 dL_law_2151 (lv_at hl 4 rfl) ?_
  refine lv_iconst (v := 3) C.1 C.2.1 dL_law_2153 (by decide) ?_
  refine r_iadd C (v := 3) dL_law_2154 (by decide) ?_
  refine r_sld C w hX hbl hbA (v := y3) (vinD (by decide)) sx3 dL_law_2155 ?_
  refine r_callH C w fh_RL_232 (c_L_tray_2 l D cy q0 q1 q2 q4 q5 q6 q10 y1 y2 y3 k0 k1 k2 hst) (hl.1.trans hml.symm) [0] [1] (wr := [(m0, .inr (12, [.ref m1, .ref m2, .ref m3, .ref m4, .ref m5, .int 0, .ref m6, .int 0, .int 0, .int 0, .int 0, .int 0, .int 0, .int 0, .int 0, .int 0, .int 0, .int (-1), .ref m7, .ref m8, .int 0, .ref m9, .int 0, .ref m10, .ref m11, .ref m12, .ref m13, .ref m14, .int 0, .ref m15, .ref m16, .ref m17]))]) ⟨rfl, rfl, rfl, rfl, by decide⟩ rfl rfl ⟨Nat.le_of_ble_eq_true rfl, Nat.le_of_ble_eq_true rfl, Nat.le_of_ble_eq_true rfl⟩ 38 29851 ⟨rfl, rfl, Nat.le_of_ble_eq_true rfl, Nat.le_of_ble_eq_true rfl⟩ dL_law_2156 (fun u H locs hp w => ?_)
  have w : Wd D A s.heap [(m0, .inr (12, [.ref m1, .ref m2, .ref m3, .ref m4, .ref m5, .int 0, .ref m6, .int 0, .int 0, .int 0, .int 0, .int 0, .int 0, .int 0, .int 0, .int 0, .int 0, .int (-1), .ref m7, .ref m8, .int 0, .ref m9, .int 0, .ref m10, .ref m11, .ref m12, .ref m13, .ref m14, .int 0, .ref m15, .ref m16, .ref m17]))] _ _ := w.pick [0] rfl rfl
  refine r_top (g2 := F0 m 2159 ls [.int 2]) rfl ?_
  refine lv_istore (lv' := [(5, .int 2), (0, .ref b), (1, .ref q0), (2, .ref m0), (3, .ref o0), (4, .int 0)]) C.1 C.2.1 dL_law_2159 hl (by decide) rfl (fun ls hl => ?_)
  refine lv_aload_n C.1 C.2.1 dL_law_2161 rfl (lv_at hl 3 rfl) ?_
  refine lv_aload_n C.1 C.2.1 dL_law_2162 rfl (lv_at hl 1 rfl) ?_
  refine lv_iload C.1 C.2.1 dL_law_2163 (lv_at hl 5 rfl) ?_
  refine lv_iconst (v := 1) C.1 C.2.1 dL_law_2165 (by decide) ?_
  refine r_iadd C (v := 1) dL_law_2166 (by decide) ?_
  refine r_sld C w hX hbl hbA (v := y1) (vinD (by decide)) sx1 dL_law_2167 ?_
  refine lv_aload_n C.1 C.2.1 dL_law_2168 rfl (lv_at hl 1 rfl) ?_
  refine lv_iload C.1 C.2.1 dL_law_2169 (lv_at hl 5 rfl) ?_
  refine lv_iconst (v := 2) C.1 C.2.1 dL_law_2171 (by decide) ?_
  refine r_iadd C (v := 2) dL_law_2172 (by decide) ?_
  refine r_sld C w hX hbl hbA (v := y2) (vinD (by decide)) sx2 dL_law_2173 ?_
  refine lv_aload_n C.1 C.2.1 dL_law_2174 rfl (lv_at hl 1 rfl) ?_
  refine lv_iload C.1 C.2.1 dL_law_2175 (lv_at hl 5 rfl) ?_
  refine lv_iconst (v := 3) C.1 C.2.1 dL_law_2177 (by decide) ?_
  refine r_iadd C (v := 3) dL_law_2178 (by decide) ?_
  refine r_sld C w hX hbl hbA (v := y3) (vinD (by decide)) sx3 dL_law_2179 ?_
  refine r_callV C w fv_RL_235 (c_X12_tray_2 l D cy m0 m1 m2 m3 m4 m5 m6 m7 m8 m9 m10 m11 m12 m13 m14 m15 m16 m17 y1 y2 y3 k0 (by have h0 := (i_nlt k0); have h1 := (i_lt k1); have e0 : (0 : Int32).toInt = 0 := (by decide); have e1 : (3 : Int32).toInt = 3 := (by decide); have e2 : (4 : Int32).toInt = 4 := (by decide); rw [fa_lt]; omega) k2) (hl.1.trans hml.symm) [0] [] (wr := []) ⟨rfl, rfl, rfl, rfl, by decide⟩ 0 rfl rfl rfl rfl rfl ⟨Nat.le_of_ble_eq_true rfl, Nat.le_of_ble_eq_true rfl, Nat.le_of_ble_eq_true rfl⟩ 38 29851 ⟨rfl, rfl, Nat.le_of_ble_eq_true rfl, Nat.le_of_ble_eq_true rfl⟩ dL_law_2180 (fun u H locs hp w => ?_)
  have w : Wd D A s.heap [(m0, .inr (12, [.ref m1, .ref m2, .ref m3, .ref m4, .ref m5, .int 2, .ref m6, .int 0, .int 0, .int 0, .int 0, .int 0, .int 0, .int 0, .int 0, .int 0, .int 0, .int (-1), .ref m7, .ref m8, .int 0, .ref m9, .int 0, .ref m10, .ref m11, .ref m12, .ref m13, .ref m14, .int 0, .ref m15, .ref m16, .ref m17]))] _ _ := w.pick [0] rfl rfl
  refine r_top (g2 := F0 m 2183 ls []) rfl ?_
  refine lv_aload_n C.1 C.2.1 dL_law_2183 rfl (lv_at hl 3 rfl) ?_
  refine r_callV C w fv_RL_134 (c_X12_thrown_10 l D cy m0 m1 m2 m3 m4 m5 m6 m7 m8 m9 m10 m11 m12 m13 m14 m15 m16 m17) (hl.1.trans hml.symm) [0] [] (wr := []) ⟨rfl, rfl, rfl, rfl, by decide⟩ 0 rfl rfl rfl rfl rfl ⟨Nat.le_of_ble_eq_true rfl, Nat.le_of_ble_eq_true rfl, Nat.le_of_ble_eq_true rfl⟩ 38 29851 ⟨rfl, rfl, Nat.le_of_ble_eq_true rfl, Nat.le_of_ble_eq_true rfl⟩ dL_law_2184 (fun u H locs hp w => ?_)
  have w : Wd D A s.heap [(m0, .inr (12, [.ref m1, .ref m2, .ref m3, .ref m4, .ref m5, .int 2, .ref m6, .int 0, .int 0, .int 0, .int 0, .int 0, .int 0, .int 0, .int 0, .int 0, .int 0, .int (-1), .ref m7, .ref m8, .int 0, .ref m9, .int 0, .ref m10, .ref m11, .ref m12, .ref m13, .ref m14, .int 0, .ref m15, .ref m16, .ref m17]))] _ _ := w.pick [0] rfl rfl
  refine r_top (g2 := F0 m 2187 ls [.int 2]) rfl ?_
  refine lv_iload C.1 C.2.1 dL_law_2187 (lv_at hl 0 rfl) ?_
  refine b_icmp_eq_t C (tgt := 2194) dL_law_2189 (by decide) (by decide) ?_
  refine lv_goto (tgt := 2461) C.1 C.2.1 dL_law_2194 (by decide) ?_
  refine W.widen (k := 600002) (n := 7302232) (Nat.le_of_ble_eq_true rfl) (Nat.le_of_ble_eq_true rfl) ?_
  exact kk _ _ _ w.2.2 (lv_sub hl [1, 5] rfl)
set_option maxRecDepth 100000 in
set_option maxHeartbeats 4000000 in
theorem s_L_31_3 {p : Program} {l : Launch} {e : Env} {s : State} {m : MethodId} {args : Array Value} {below : List Frame} {meth : Method} {c : Code} {Q : State → Prop} {D : va_G} {cy : Nat → ClassId} {A : Nat → Prop} {H : Heap} {locs : List Loc} {ls : Array Slot} {xs : Nat → Int32} (b q0 q1 q2 q4 q5 q6 q10 m0 m1 m2 m3 m4 m5 m6 m7 m8 m9 m10 m11 m12 m13 m14 m15 m16 m17 o0 : Nat) (y1 : Int32) (y2 : Int32) (y3 : Int32) (k0 : ¬ y1 < 0) (k1 : y1 < 4) (k2 : ¬ y2 < 0) (k3 : 4 ≤ y2) (sx1 : xs 1 = y1) (sx2 : xs 2 = y2) (sx3 : xs 3 = y3) (hst : l.stackTraces = false) (C : Cx p s m args c cL_law RL D cy A) (hml : c.maxLocals = 8) (hX : va_X b 6 xs s s.heap) (hbl : b < s.heap.size) (hbA : ¬ A b) (w : Wd D A s.heap [(q0, .inr (11, [.ref q1, .int 0, .int 0, .int (-1), .ref q2, .ref q4, .ref q5, .ref q6, .ref q10, .null])), (m0, .inr (12, [.ref m1, .ref m2, .ref m3, .ref m4, .ref m5, .int 0, .ref m6, .int 0, .int 0, .int 0, .int 0, .int 0, .int 0, .int 0, .int 0, .int 0, .int 0, .int (-1), .ref m7, .ref m8, .int 0, .ref m9, .int 0, .ref m10, .ref m11, .ref m12, .ref m13, .ref m14, .int 0, .ref m15, .ref m16, .ref m17]))] H locs) (hl : lv_has ls 8 [(0, .ref b), (1, .ref q0), (2, .ref m0), (3, .ref o0), (4, .int 0)]) (kk : ∀ (H : Heap) (locs : List Loc) (ls : Array Slot), va_S A s.heap H locs → lv_has ls 8 [(0, .ref b), (4, .int 0)] → W p l e room_1 s m args below meth c H locs 600002 7302232 Q (F0 m 2461 ls [])) : W p l e room_1 s m args below meth c H locs 37 29845 Q (F0 m 2137 ls []) := by
  refine lv_aload_n C.1 C.2.1 dL_law_2137 rfl (lv_at hl 1 rfl) ?_
  refine lv_aload_n C.1 C.2.1 dL_law_2138 rfl (lv_at hl 0 rfl) ?_
  refine lv_iload C.1 C.2.1 dL_law_2139 (lv_at hl 4 rfl) ?_
  refine lv_iconst (v := 1) C.1 C.2.1 dL_law_2141 (by decide) ?_
  refine r_iadd C (v := 1) dL_law_2142 (by decide) ?_
  refine r_sld C w hX hbl hbA (v := y1) (vinD (by decide)) sx1 dL_law_2143 ?_
  refine lv_aload_n C.1 C.2.1 dL_law_2144 rfl (lv_at hl 0 rfl) ?_
  refine lv_iload C.1 C.2.1 dL_law_2145 (lv_at hl 4 rfl) ?_
  refine lv_iconst (v := 2) C.1 C.2.1 dL_law_2147 (by decide) ?_
  refine r_iadd C (v := 2) dL_law_2148 (by decide) ?_
  refine r_sld C w hX hbl hbA (v := y2) (vinD (by decide)) sx2 dL_law_2149 ?_
  refine lv_aload_n C.1 C.2.1 dL_law_2150 rfl (lv_at hl 0 rfl) ?_
  refine lv_iload C.1 C.2.1 dL_law_2151 (lv_at hl 4 rfl) ?_
  refine lv_iconst (v := 3) C.1 C.2.1 dL_law_2153 (by decide) ?_
  refine r_iadd C (v := 3) dL_law_2154 (by decide) ?_
  refine r_sld C w hX hbl hbA (v := y3) (vinD (by decide)) sx3 dL_law_2155 ?_
  refine r_callH C w fh_RL_232 (c_L_tray_3 l D cy q0 q1 q2 q4 q5 q6 q10 y1 y2 y3 k0 k1 k2 k3 hst) (hl.1.trans hml.symm) [0] [1] (wr := [(m0, .inr (12, [.ref m1, .ref m2, .ref m3, .ref m4, .ref m5, .int 0, .ref m6, .int 0, .int 0, .int 0, .int 0, .int 0, .int 0, .int 0, .int 0, .int 0, .int 0, .int (-1), .ref m7, .ref m8, .int 0, .ref m9, .int 0, .ref m10, .ref m11, .ref m12, .ref m13, .ref m14, .int 0, .ref m15, .ref m16, .ref m17]))]) ⟨rfl, rfl, rfl, rfl, by decide⟩ rfl rfl ⟨Nat.le_of_ble_eq_true rfl, Nat.le_of_ble_eq_true rfl, Nat.le_of_ble_eq_true rfl⟩ 38 29851 ⟨rfl, rfl, Nat.le_of_ble_eq_true rfl, Nat.le_of_ble_eq_true rfl⟩ dL_law_2156 (fun u H locs hp w => ?_)
  have w : Wd D A s.heap [(m0, .inr (12, [.ref m1, .ref m2, .ref m3, .ref m4, .ref m5, .int 0, .ref m6, .int 0, .int 0, .int 0, .int 0, .int 0, .int 0, .int 0, .int 0, .int 0, .int 0, .int (-1), .ref m7, .ref m8, .int 0, .ref m9, .int 0, .ref m10, .ref m11, .ref m12, .ref m13, .ref m14, .int 0, .ref m15, .ref m16, .ref m17]))] _ _ := w.pick [0] rfl rfl
  refine r_top (g2 := F0 m 2159 ls [.int 2]) rfl ?_
  refine lv_istore (lv' := [(5, .int 2), (0, .ref b), (1, .ref q0), (2, .ref m0), (3, .ref o0), (4, .int 0)]) C.1 C.2.1 dL_law_2159 hl (by decide) rfl (fun ls hl => ?_)
  refine lv_aload_n C.1 C.2.1 dL_law_2161 rfl (lv_at hl 3 rfl) ?_
  refine lv_aload_n C.1 C.2.1 dL_law_2162 rfl (lv_at hl 1 rfl) ?_
  refine lv_iload C.1 C.2.1 dL_law_2163 (lv_at hl 5 rfl) ?_
  refine lv_iconst (v := 1) C.1 C.2.1 dL_law_2165 (by decide) ?_
  refine r_iadd C (v := 1) dL_law_2166 (by decide) ?_
  refine r_sld C w hX hbl hbA (v := y1) (vinD (by decide)) sx1 dL_law_2167 ?_
  refine lv_aload_n C.1 C.2.1 dL_law_2168 rfl (lv_at hl 1 rfl) ?_
  refine lv_iload C.1 C.2.1 dL_law_2169 (lv_at hl 5 rfl) ?_
  refine lv_iconst (v := 2) C.1 C.2.1 dL_law_2171 (by decide) ?_
  refine r_iadd C (v := 2) dL_law_2172 (by decide) ?_
  refine r_sld C w hX hbl hbA (v := y2) (vinD (by decide)) sx2 dL_law_2173 ?_
  refine lv_aload_n C.1 C.2.1 dL_law_2174 rfl (lv_at hl 1 rfl) ?_
  refine lv_iload C.1 C.2.1 dL_law_2175 (lv_at hl 5 rfl) ?_
  refine lv_iconst (v := 3) C.1 C.2.1 dL_law_2177 (by decide) ?_
  refine r_iadd C (v := 3) dL_law_2178 (by decide) ?_
  refine r_sld C w hX hbl hbA (v := y3) (vinD (by decide)) sx3 dL_law_2179 ?_
  refine r_callV C w fv_RL_235 (c_X12_tray_9 l D cy m0 m1 m2 m3 m4 m5 m6 m7 m8 m9 m10 m11 m12 m13 m14 m15 m16 m17 y1 y2 y3 k0 (by have h0 := (i_nlt k0); have h1 := (i_lt k1); have e0 : (0 : Int32).toInt = 0 := (by decide); have e1 : (3 : Int32).toInt = 3 := (by decide); have e2 : (4 : Int32).toInt = 4 := (by decide); rw [fa_lt]; omega) k2 (by have h0 := (i_nlt k2); have h1 := (i_le k3); have e0 : (0 : Int32).toInt = 0 := (by decide); have e1 : (3 : Int32).toInt = 3 := (by decide); have e2 : (4 : Int32).toInt = 4 := (by decide); rw [fa_lt]; omega)) (hl.1.trans hml.symm) [0] [] (wr := []) ⟨rfl, rfl, rfl, rfl, by decide⟩ 0 rfl rfl rfl rfl rfl ⟨Nat.le_of_ble_eq_true rfl, Nat.le_of_ble_eq_true rfl, Nat.le_of_ble_eq_true rfl⟩ 38 29851 ⟨rfl, rfl, Nat.le_of_ble_eq_true rfl, Nat.le_of_ble_eq_true rfl⟩ dL_law_2180 (fun u H locs hp w => ?_)
  have w : Wd D A s.heap [(m0, .inr (12, [.ref m1, .ref m2, .ref m3, .ref m4, .ref m5, .int 2, .ref m6, .int 0, .int 0, .int 0, .int 0, .int 0, .int 0, .int 0, .int 0, .int 0, .int 0, .int (-1), .ref m7, .ref m8, .int 0, .ref m9, .int 0, .ref m10, .ref m11, .ref m12, .ref m13, .ref m14, .int 0, .ref m15, .ref m16, .ref m17]))] _ _ := w.pick [0] rfl rfl
  refine r_top (g2 := F0 m 2183 ls []) rfl ?_
  refine lv_aload_n C.1 C.2.1 dL_law_2183 rfl (lv_at hl 3 rfl) ?_
  refine r_callV C w fv_RL_134 (c_X12_thrown_10 l D cy m0 m1 m2 m3 m4 m5 m6 m7 m8 m9 m10 m11 m12 m13 m14 m15 m16 m17) (hl.1.trans hml.symm) [0] [] (wr := []) ⟨rfl, rfl, rfl, rfl, by decide⟩ 0 rfl rfl rfl rfl rfl ⟨Nat.le_of_ble_eq_true rfl, Nat.le_of_ble_eq_true rfl, Nat.le_of_ble_eq_true rfl⟩ 38 29851 ⟨rfl, rfl, Nat.le_of_ble_eq_true rfl, Nat.le_of_ble_eq_true rfl⟩ dL_law_2184 (fun u H locs hp w => ?_)
  have w : Wd D A s.heap [(m0, .inr (12, [.ref m1, .ref m2, .ref m3, .ref m4, .ref m5, .int 2, .ref m6, .int 0, .int 0, .int 0, .int 0, .int 0, .int 0, .int 0, .int 0, .int 0, .int 0, .int (-1), .ref m7, .ref m8, .int 0, .ref m9, .int 0, .ref m10, .ref m11, .ref m12, .ref m13, .ref m14, .int 0, .ref m15, .ref m16, .ref m17]))] _ _ := w.pick [0] rfl rfl
  refine r_top (g2 := F0 m 2187 ls [.int 2]) rfl ?_
  refine lv_iload C.1 C.2.1 dL_law_2187 (lv_at hl 0 rfl) ?_
  refine b_icmp_eq_t C (tgt := 2194) dL_law_2189 (by decide) (by decide) ?_
  refine lv_goto (tgt := 2461) C.1 C.2.1 dL_law_2194 (by decide) ?_
  refine W.widen (k := 600002) (n := 7302232) (Nat.le_of_ble_eq_true rfl) (Nat.le_of_ble_eq_true rfl) ?_
  exact kk _ _ _ w.2.2 (lv_sub hl [1, 5] rfl)
set_option maxRecDepth 100000 in
set_option maxHeartbeats 4000000 in
theorem s_L_31_4 {p : Program} {l : Launch} {e : Env} {s : State} {m : MethodId} {args : Array Value} {below : List Frame} {meth : Method} {c : Code} {Q : State → Prop} {D : va_G} {cy : Nat → ClassId} {A : Nat → Prop} {H : Heap} {locs : List Loc} {ls : Array Slot} {xs : Nat → Int32} (b q0 q1 q2 q4 q5 q6 q10 m0 m1 m2 m3 m4 m5 m6 m7 m8 m9 m10 m11 m12 m13 m14 m15 m16 m17 o0 : Nat) (y1 : Int32) (y2 : Int32) (y3 : Int32) (k0 : ¬ y1 < 0) (k1 : y1 < 4) (k2 : ¬ y2 < 0) (k3 : ¬ 4 ≤ y2) (k4 : y3 < 0) (sx1 : xs 1 = y1) (sx2 : xs 2 = y2) (sx3 : xs 3 = y3) (hst : l.stackTraces = false) (C : Cx p s m args c cL_law RL D cy A) (hml : c.maxLocals = 8) (hX : va_X b 6 xs s s.heap) (hbl : b < s.heap.size) (hbA : ¬ A b) (w : Wd D A s.heap [(q0, .inr (11, [.ref q1, .int 0, .int 0, .int (-1), .ref q2, .ref q4, .ref q5, .ref q6, .ref q10, .null])), (m0, .inr (12, [.ref m1, .ref m2, .ref m3, .ref m4, .ref m5, .int 0, .ref m6, .int 0, .int 0, .int 0, .int 0, .int 0, .int 0, .int 0, .int 0, .int 0, .int 0, .int (-1), .ref m7, .ref m8, .int 0, .ref m9, .int 0, .ref m10, .ref m11, .ref m12, .ref m13, .ref m14, .int 0, .ref m15, .ref m16, .ref m17]))] H locs) (hl : lv_has ls 8 [(0, .ref b), (1, .ref q0), (2, .ref m0), (3, .ref o0), (4, .int 0)]) (kk : ∀ (H : Heap) (locs : List Loc) (ls : Array Slot), va_S A s.heap H locs → lv_has ls 8 [(0, .ref b), (4, .int 0)] → W p l e room_1 s m args below meth c H locs 600002 7302232 Q (F0 m 2461 ls [])) : W p l e room_1 s m args below meth c H locs 37 29845 Q (F0 m 2137 ls []) := by
  refine lv_aload_n C.1 C.2.1 dL_law_2137 rfl (lv_at hl 1 rfl) ?_
  refine lv_aload_n C.1 C.2.1 dL_law_2138 rfl (lv_at hl 0 rfl) ?_
  refine lv_iload C.1 C.2.1 dL_law_2139 (lv_at hl 4 rfl) ?_
  refine lv_iconst (v := 1) C.1 C.2.1 dL_law_2141 (by decide) ?_
  refine r_iadd C (v := 1) dL_law_2142 (by decide) ?_
  refine r_sld C w hX hbl hbA (v := y1) (vinD (by decide)) sx1 dL_law_2143 ?_
  refine lv_aload_n C.1 C.2.1 dL_law_2144 rfl (lv_at hl 0 rfl) ?_
  refine lv_iload C.1 C.2.1 dL_law_2145 (lv_at hl 4 rfl) ?_
  refine lv_iconst (v := 2) C.1 C.2.1 dL_law_2147 (by decide) ?_
  refine r_iadd C (v := 2) dL_law_2148 (by decide) ?_
  refine r_sld C w hX hbl hbA (v := y2) (vinD (by decide)) sx2 dL_law_2149 ?_
  refine lv_aload_n C.1 C.2.1 dL_law_2150 rfl (lv_at hl 0 rfl) ?_
  refine lv_iload C.1 C.2.1 dL_law_2151 (lv_at hl 4 rfl) ?_
  refine lv_iconst (v := 3) C.1 C.2.1 dL_law_2153 (by decide) ?_
  refine r_iadd C (v := 3) dL_law_2154 (by decide) ?_
  refine r_sld C w hX hbl hbA (v := y3) (vinD (by decide)) sx3 dL_law_2155 ?_
  refine r_callH C w fh_RL_232 (c_L_tray_4 l D cy q0 q1 q2 q4 q5 q6 q10 y1 y2 y3 k0 k1 k2 k3 k4 hst) (hl.1.trans hml.symm) [0] [1] (wr := [(m0, .inr (12, [.ref m1, .ref m2, .ref m3, .ref m4, .ref m5, .int 0, .ref m6, .int 0, .int 0, .int 0, .int 0, .int 0, .int 0, .int 0, .int 0, .int 0, .int 0, .int (-1), .ref m7, .ref m8, .int 0, .ref m9, .int 0, .ref m10, .ref m11, .ref m12, .ref m13, .ref m14, .int 0, .ref m15, .ref m16, .ref m17]))]) ⟨rfl, rfl, rfl, rfl, by decide⟩ rfl rfl ⟨Nat.le_of_ble_eq_true rfl, Nat.le_of_ble_eq_true rfl, Nat.le_of_ble_eq_true rfl⟩ 38 29851 ⟨rfl, rfl, Nat.le_of_ble_eq_true rfl, Nat.le_of_ble_eq_true rfl⟩ dL_law_2156 (fun u H locs hp w => ?_)
  have w : Wd D A s.heap [(m0, .inr (12, [.ref m1, .ref m2, .ref m3, .ref m4, .ref m5, .int 0, .ref m6, .int 0, .int 0, .int 0, .int 0, .int 0, .int 0, .int 0, .int 0, .int 0, .int 0, .int (-1), .ref m7, .ref m8, .int 0, .ref m9, .int 0, .ref m10, .ref m11, .ref m12, .ref m13, .ref m14, .int 0, .ref m15, .ref m16, .ref m17]))] _ _ := w.pick [0] rfl rfl
  refine r_top (g2 := F0 m 2159 ls [.int 2]) rfl ?_
  refine lv_istore (lv' := [(5, .int 2), (0, .ref b), (1, .ref q0), (2, .ref m0), (3, .ref o0), (4, .int 0)]) C.1 C.2.1 dL_law_2159 hl (by decide) rfl (fun ls hl => ?_)
  refine lv_aload_n C.1 C.2.1 dL_law_2161 rfl (lv_at hl 3 rfl) ?_
  refine lv_aload_n C.1 C.2.1 dL_law_2162 rfl (lv_at hl 1 rfl) ?_
  refine lv_iload C.1 C.2.1 dL_law_2163 (lv_at hl 5 rfl) ?_
  refine lv_iconst (v := 1) C.1 C.2.1 dL_law_2165 (by decide) ?_
  refine r_iadd C (v := 1) dL_law_2166 (by decide) ?_
  refine r_sld C w hX hbl hbA (v := y1) (vinD (by decide)) sx1 dL_law_2167 ?_
  refine lv_aload_n C.1 C.2.1 dL_law_2168 rfl (lv_at hl 1 rfl) ?_
  refine lv_iload C.1 C.2.1 dL_law_2169 (lv_at hl 5 rfl) ?_
  refine lv_iconst (v := 2) C.1 C.2.1 dL_law_2171 (by decide) ?_
  refine r_iadd C (v := 2) dL_law_2172 (by decide) ?_
  refine r_sld C w hX hbl hbA (v := y2) (vinD (by decide)) sx2 dL_law_2173 ?_
  refine lv_aload_n C.1 C.2.1 dL_law_2174 rfl (lv_at hl 1 rfl) ?_
  refine lv_iload C.1 C.2.1 dL_law_2175 (lv_at hl 5 rfl) ?_
  refine lv_iconst (v := 3) C.1 C.2.1 dL_law_2177 (by decide) ?_
  refine r_iadd C (v := 3) dL_law_2178 (by decide) ?_
  refine r_sld C w hX hbl hbA (v := y3) (vinD (by decide)) sx3 dL_law_2179 ?_
  refine r_callV C w fv_RL_235 (c_X12_tray_3 l D cy m0 m1 m2 m3 m4 m5 m6 m7 m8 m9 m10 m11 m12 m13 m14 m15 m16 m17 y1 y2 y3 k0 (by have h0 := (i_nlt k0); have h1 := (i_lt k1); have e0 : (0 : Int32).toInt = 0 := (by decide); have e1 : (3 : Int32).toInt = 3 := (by decide); have e2 : (4 : Int32).toInt = 4 := (by decide); rw [fa_lt]; omega) k2 (by have h0 := (i_nlt k2); have h1 := (i_nle k3); have e0 : (0 : Int32).toInt = 0 := (by decide); have e1 : (3 : Int32).toInt = 3 := (by decide); have e2 : (4 : Int32).toInt = 4 := (by decide); rw [fa_lt]; omega) k4) (hl.1.trans hml.symm) [0] [] (wr := []) ⟨rfl, rfl, rfl, rfl, by decide⟩ 0 rfl rfl rfl rfl rfl ⟨Nat.le_of_ble_eq_true rfl, Nat.le_of_ble_eq_true rfl, Nat.le_of_ble_eq_true rfl⟩ 38 29851 ⟨rfl, rfl, Nat.le_of_ble_eq_true rfl, Nat.le_of_ble_eq_true rfl⟩ dL_law_2180 (fun u H locs hp w => ?_)
  have w : Wd D A s.heap [(m0, .inr (12, [.ref m1, .ref m2, .ref m3, .ref m4, .ref m5, .int 2, .ref m6, .int 0, .int 0, .int 0, .int 0, .int 0, .int 0, .int 0, .int 0, .int 0, .int 0, .int (-1), .ref m7, .ref m8, .int 0, .ref m9, .int 0, .ref m10, .ref m11, .ref m12, .ref m13, .ref m14, .int 0, .ref m15, .ref m16, .ref m17]))] _ _ := w.pick [0] rfl rfl
  refine r_top (g2 := F0 m 2183 ls []) rfl ?_
  refine lv_aload_n C.1 C.2.1 dL_law_2183 rfl (lv_at hl 3 rfl) ?_
  refine r_callV C w fv_RL_134 (c_X12_thrown_10 l D cy m0 m1 m2 m3 m4 m5 m6 m7 m8 m9 m10 m11 m12 m13 m14 m15 m16 m17) (hl.1.trans hml.symm) [0] [] (wr := []) ⟨rfl, rfl, rfl, rfl, by decide⟩ 0 rfl rfl rfl rfl rfl ⟨Nat.le_of_ble_eq_true rfl, Nat.le_of_ble_eq_true rfl, Nat.le_of_ble_eq_true rfl⟩ 38 29851 ⟨rfl, rfl, Nat.le_of_ble_eq_true rfl, Nat.le_of_ble_eq_true rfl⟩ dL_law_2184 (fun u H locs hp w => ?_)
  have w : Wd D A s.heap [(m0, .inr (12, [.ref m1, .ref m2, .ref m3, .ref m4, .ref m5, .int 2, .ref m6, .int 0, .int 0, .int 0, .int 0, .int 0, .int 0, .int 0, .int 0, .int 0, .int 0, .int (-1), .ref m7, .ref m8, .int 0, .ref m9, .int 0, .ref m10, .ref m11, .ref m12, .ref m13, .ref m14, .int 0, .ref m15, .ref m16, .ref m17]))] _ _ := w.pick [0] rfl rfl
  refine r_top (g2 := F0 m 2187 ls [.int 2]) rfl ?_
  refine lv_iload C.1 C.2.1 dL_law_2187 (lv_at hl 0 rfl) ?_
  refine b_icmp_eq_t C (tgt := 2194) dL_law_2189 (by decide) (by decide) ?_
  refine lv_goto (tgt := 2461) C.1 C.2.1 dL_law_2194 (by decide) ?_
  refine W.widen (k := 600002) (n := 7302232) (Nat.le_of_ble_eq_true rfl) (Nat.le_of_ble_eq_true rfl) ?_
  exact kk _ _ _ w.2.2 (lv_sub hl [1, 5] rfl)
set_option maxRecDepth 100000 in
set_option maxHeartbeats 4000000 in
theorem s_L_31_5 {p : Program} {l : Launch} {e : Env} {s : State} {m : MethodId} {args : Array Value} {below : List Frame} {meth : Method} {c : Code} {Q : State → Prop} {D : va_G} {cy : Nat → ClassId} {A : Nat → Prop} {H : Heap} {locs : List Loc} {ls : Array Slot} {xs : Nat → Int32} (b q0 q1 q2 q4 q5 q6 q10 q7 q8 q9 m0 m1 m2 m3 m4 m5 m6 m7 m8 m9 m10 m11 m12 m13 m14 m15 m16 m17 o0 : Nat) (y2 : Int32) (y3 : Int32) (k0 : ¬ y2 < 0) (k1 : ¬ 4 ≤ y2) (k2 : ¬ y3 < 0) (k3 : y3 ≤ 40) (sx1 : xs 1 = 0) (sx2 : xs 2 = y2) (sx3 : xs 3 = y3) (C : Cx p s m args c cL_law RL D cy A) (hml : c.maxLocals = 8) (hX : va_X b 6 xs s s.heap) (hbl : b < s.heap.size) (hbA : ¬ A b) (w : Wd D A s.heap [(q0, .inr (11, [.ref q1, .int 0, .int 0, .int (-1), .ref q2, .ref q4, .ref q5, .ref q6, .ref q10, .null])), (q6, .inr (10, [.ref q7, .ref q8, .ref q9])), (q7, .inl (cy 1, 4, .inl (upd (upd (upd (upd (fun _ => 0) 0 (-1)) 1 (-1)) 2 (-1)) 3 (-1)))), (q8, .inl (cy 1, 4, .inl (fun _ => 0))), (q9, .inl (cy 2, 160, .inr (.inl (fun _ => 0)))), (m0, .inr (12, [.ref m1, .ref m2, .ref m3, .ref m4, .ref m5, .int 0, .ref m6, .int 0, .int 0, .int 0, .int 0, .int 0, .int 0, .int 0, .int 0, .int 0, .int 0, .int (-1), .ref m7, .ref m8, .int 0, .ref m9, .int 0, .ref m10, .ref m11, .ref m12, .ref m13, .ref m14, .int 0, .ref m15, .ref m16, .ref m17])), (m15, .inl (cy 1, 4, .inl (upd (upd (upd (upd (fun _ => 0) 0 (-1)) 1 (-1)) 2 (-1)) 3 (-1)))), (m16, .inl (cy 1, 4, .inl (fun _ => 0))), (m17, .inl (cy 2, 160, .inr (.inl (fun _ => 0))))] H locs) (hl : lv_has ls 8 [(0, .ref b), (1, .ref q0), (2, .ref m0), (3, .ref o0), (4, .int 0)]) (kk : ∀ (H : Heap) (locs : List Loc) (ls : Array Slot), va_S A s.heap H locs → lv_has ls 8 [(0, .ref b), (4, .int 0)] → W p l e room_1 s m args below meth c H locs 600002 7302232 Q (F0 m 2461 ls [])) : W p l e room_1 s m args below meth c H locs 37 29845 Q (F0 m 2137 ls []) := by
  refine lv_aload_n C.1 C.2.1 dL_law_2137 rfl (lv_at hl 1 rfl) ?_
  refine lv_aload_n C.1 C.2.1 dL_law_2138 rfl (lv_at hl 0 rfl) ?_
  refine lv_iload C.1 C.2.1 dL_law_2139 (lv_at hl 4 rfl) ?_
  refine lv_iconst (v := 1) C.1 C.2.1 dL_law_2141 (by decide) ?_
  refine r_iadd C (v := 1) dL_law_2142 (by decide) ?_
  refine r_sld C w hX hbl hbA (v := 0) (vinD (by decide)) sx1 dL_law_2143 ?_
  refine lv_aload_n C.1 C.2.1 dL_law_2144 rfl (lv_at hl 0 rfl) ?_
  refine lv_iload C.1 C.2.1 dL_law_2145 (lv_at hl 4 rfl) ?_
  refine lv_iconst (v := 2) C.1 C.2.1 dL_law_2147 (by decide) ?_
  refine r_iadd C (v := 2) dL_law_2148 (by decide) ?_
  refine r_sld C w hX hbl hbA (v := y2) (vinD (by decide)) sx2 dL_law_2149 ?_
  refine lv_aload_n C.1 C.2.1 dL_law_2150 rfl (lv_at hl 0 rfl) ?_
  refine lv_iload C.1 C.2.1 dL_law_2151 (lv_at hl 4 rfl) ?_
  refine lv_iconst (v := 3) C.1 C.2.1 dL_law_2153 (by decide) ?_
  refine r_iadd C (v := 3) dL_law_2154 (by decide) ?_
  refine r_sld C w hX hbl hbA (v := y3) (vinD (by decide)) sx3 dL_law_2155 ?_
  refine r_callH C w fh_RL_232 (c_L_tray_5 l D cy q0 q1 q2 q4 q5 q6 q10 q7 q8 q9 y2 y3 k0 k1 k2 k3) (hl.1.trans hml.symm) [0, 1, 2, 3, 4] [5, 6, 7, 8] (wr := [(m0, .inr (12, [.ref m1, .ref m2, .ref m3, .ref m4, .ref m5, .int 0, .ref m6, .int 0, .int 0, .int 0, .int 0, .int 0, .int 0, .int 0, .int 0, .int 0, .int 0, .int (-1), .ref m7, .ref m8, .int 0, .ref m9, .int 0, .ref m10, .ref m11, .ref m12, .ref m13, .ref m14, .int 0, .ref m15, .ref m16, .ref m17])), (m15, .inl (cy 1, 4, .inl (upd (upd (upd (upd (fun _ => 0) 0 (-1)) 1 (-1)) 2 (-1)) 3 (-1)))), (m16, .inl (cy 1, 4, .inl (fun _ => 0))), (m17, .inl (cy 2, 160, .inr (.inl (fun _ => 0))))]) ⟨rfl, rfl, rfl, rfl, by decide⟩ rfl rfl ⟨Nat.le_of_ble_eq_true rfl, Nat.le_of_ble_eq_true rfl, Nat.le_of_ble_eq_true rfl⟩ 37 29845 ⟨rfl, rfl, Nat.le_of_ble_eq_true rfl, Nat.le_of_ble_eq_true rfl⟩ dL_law_2156 (fun u H locs hp w => ?_)
  have w : Wd D A s.heap [(m0, .inr (12, [.ref m1, .ref m2, .ref m3, .ref m4, .ref m5, .int 0, .ref m6, .int 0, .int 0, .int 0, .int 0, .int 0, .int 0, .int 0, .int 0, .int 0, .int 0, .int (-1), .ref m7, .ref m8, .int 0, .ref m9, .int 0, .ref m10, .ref m11, .ref m12, .ref m13, .ref m14, .int 0, .ref m15, .ref m16, .ref m17])), (m15, .inl (cy 1, 4, .inl (upd (upd (upd (upd (fun _ => 0) 0 (-1)) 1 (-1)) 2 (-1)) 3 (-1)))), (m16, .inl (cy 1, 4, .inl (fun _ => 0))), (m17, .inl (cy 2, 160, .inr (.inl (fun _ => 0))))] _ _ := w.pick [0, 1, 2, 3] rfl rfl
  refine r_top (g2 := F0 m 2159 ls [.int 0]) rfl ?_
  refine lv_istore (lv' := [(5, .int 0), (0, .ref b), (1, .ref q0), (2, .ref m0), (3, .ref o0), (4, .int 0)]) C.1 C.2.1 dL_law_2159 hl (by decide) rfl (fun ls hl => ?_)
  refine lv_aload_n C.1 C.2.1 dL_law_2161 rfl (lv_at hl 3 rfl) ?_
  refine lv_aload_n C.1 C.2.1 dL_law_2162 rfl (lv_at hl 1 rfl) ?_
  refine lv_iload C.1 C.2.1 dL_law_2163 (lv_at hl 5 rfl) ?_
  refine lv_iconst (v := 1) C.1 C.2.1 dL_law_2165 (by decide) ?_
  refine r_iadd C (v := 1) dL_law_2166 (by decide) ?_
  refine r_sld C w hX hbl hbA (v := 0) (vinD (by decide)) sx1 dL_law_2167 ?_
  refine lv_aload_n C.1 C.2.1 dL_law_2168 rfl (lv_at hl 1 rfl) ?_
  refine lv_iload C.1 C.2.1 dL_law_2169 (lv_at hl 5 rfl) ?_
  refine lv_iconst (v := 2) C.1 C.2.1 dL_law_2171 (by decide) ?_
  refine r_iadd C (v := 2) dL_law_2172 (by decide) ?_
  refine r_sld C w hX hbl hbA (v := y2) (vinD (by decide)) sx2 dL_law_2173 ?_
  refine lv_aload_n C.1 C.2.1 dL_law_2174 rfl (lv_at hl 1 rfl) ?_
  refine lv_iload C.1 C.2.1 dL_law_2175 (lv_at hl 5 rfl) ?_
  refine lv_iconst (v := 3) C.1 C.2.1 dL_law_2177 (by decide) ?_
  refine r_iadd C (v := 3) dL_law_2178 (by decide) ?_
  refine r_sld C w hX hbl hbA (v := y3) (vinD (by decide)) sx3 dL_law_2179 ?_
  refine r_callV C w fv_RL_235 (c_X12_tray_4 l D cy m0 m1 m2 m3 m4 m5 m6 m7 m8 m9 m10 m11 m12 m13 m14 m15 m16 m17 y2 y3 k0 (by have h0 := (i_nlt k0); have h1 := (i_nle k1); have e0 : (0 : Int32).toInt = 0 := (by decide); have e1 : (3 : Int32).toInt = 3 := (by decide); have e2 : (4 : Int32).toInt = 4 := (by decide); rw [fa_lt]; omega) k2 (by have h0 := (i_nlt k2); have h1 := (i_le k3); have e0 : (0 : Int32).toInt = 0 := (by decide); have e1 : (40 : Int32).toInt = 40 := (by decide); rw [fa_lt]; omega)) (hl.1.trans hml.symm) [0, 1, 2, 3] [] (wr := []) ⟨rfl, rfl, rfl, rfl, by decide⟩ 0 rfl rfl rfl rfl rfl ⟨Nat.le_of_ble_eq_true rfl, Nat.le_of_ble_eq_true rfl, Nat.le_of_ble_eq_true rfl⟩ 37 29845 ⟨rfl, rfl, Nat.le_of_ble_eq_true rfl, Nat.le_of_ble_eq_true rfl⟩ dL_law_2180 (fun u H locs hp w => ?_)
  have w : Wd D A s.heap [(m0, .inr (12, [.ref m1, .ref m2, .ref m3, .ref m4, .ref m5, .int 0, .ref m6, .int 0, .int 0, .int 0, .int 0, .int 0, .int 0, .int 0, .int 0, .int 0, .int 0, .int (-1), .ref m7, .ref m8, .int 0, .ref m9, .int 0, .ref m10, .ref m11, .ref m12, .ref m13, .ref m14, .int 0, .ref m15, .ref m16, .ref m17]))] _ _ := w.pick [0] rfl rfl
  refine r_top (g2 := F0 m 2183 ls []) rfl ?_
  refine lv_aload_n C.1 C.2.1 dL_law_2183 rfl (lv_at hl 3 rfl) ?_
  refine r_callV C w fv_RL_134 (c_X12_thrown_1 l D cy m0 m1 m2 m3 m4 m5 m6 m7 m8 m9 m10 m11 m12 m13 m14 m15 m16 m17) (hl.1.trans hml.symm) [0] [] (wr := []) ⟨rfl, rfl, rfl, rfl, by decide⟩ 0 rfl rfl rfl rfl rfl ⟨Nat.le_of_ble_eq_true rfl, Nat.le_of_ble_eq_true rfl, Nat.le_of_ble_eq_true rfl⟩ 37 29845 ⟨rfl, rfl, Nat.le_of_ble_eq_true rfl, Nat.le_of_ble_eq_true rfl⟩ dL_law_2184 (fun u H locs hp w => ?_)
  have w : Wd D A s.heap [(m0, .inr (12, [.ref m1, .ref m2, .ref m3, .ref m4, .ref m5, .int 0, .ref m6, .int 0, .int 0, .int 0, .int 0, .int 0, .int 0, .int 0, .int 0, .int 0, .int 0, .int (-1), .ref m7, .ref m8, .int 0, .ref m9, .int 0, .ref m10, .ref m11, .ref m12, .ref m13, .ref m14, .int 0, .ref m15, .ref m16, .ref m17]))] _ _ := w.pick [0] rfl rfl
  refine r_top (g2 := F0 m 2187 ls [.int 0]) rfl ?_
  refine lv_iload C.1 C.2.1 dL_law_2187 (lv_at hl 0 rfl) ?_
  refine b_icmp_eq_t C (tgt := 2194) dL_law_2189 (by decide) (by decide) ?_
  refine lv_goto (tgt := 2461) C.1 C.2.1 dL_law_2194 (by decide) ?_
  refine W.widen (k := 600002) (n := 7302232) (Nat.le_of_ble_eq_true rfl) (Nat.le_of_ble_eq_true rfl) ?_
  exact kk _ _ _ w.2.2 (lv_sub hl [1, 5] rfl)
set_option maxRecDepth 100000 in
set_option maxHeartbeats 4000000 in
theorem s_L_31_6 {p : Program} {l : Launch} {e : Env} {s : State} {m : MethodId} {args : Array Value} {below : List Frame} {meth : Method} {c : Code} {Q : State → Prop} {D : va_G} {cy : Nat → ClassId} {A : Nat → Prop} {H : Heap} {locs : List Loc} {ls : Array Slot} {xs : Nat → Int32} (b q0 q1 q2 q4 q5 q6 q10 q7 q8 q9 m0 m1 m2 m3 m4 m5 m6 m7 m8 m9 m10 m11 m12 m13 m14 m15 m16 m17 o0 : Nat) (y2 : Int32) (y3 : Int32) (k0 : ¬ y2 < 0) (k1 : ¬ 4 ≤ y2) (k2 : ¬ y3 < 0) (k3 : y3 ≤ 40) (sx1 : xs 1 = 3) (sx2 : xs 2 = y2) (sx3 : xs 3 = y3) (C : Cx p s m args c cL_law RL D cy A) (hml : c.maxLocals = 8) (hX : va_X b 6 xs s s.heap) (hbl : b < s.heap.size) (hbA : ¬ A b) (w : Wd D A s.heap [(q0, .inr (11, [.ref q1, .int 0, .int 0, .int (-1), .ref q2, .ref q4, .ref q5, .ref q6, .ref q10, .null])), (q6, .inr (10, [.ref q7, .ref q8, .ref q9])), (q7, .inl (cy 1, 4, .inl (upd (upd (upd (upd (fun _ => 0) 0 (-1)) 1 (-1)) 2 (-1)) 3 (-1)))), (q8, .inl (cy 1, 4, .inl (fun _ => 0))), (q9, .inl (cy 2, 160, .inr (.inl (fun _ => 0)))), (m0, .inr (12, [.ref m1, .ref m2, .ref m3, .ref m4, .ref m5, .int 0, .ref m6, .int 0, .int 0, .int 0, .int 0, .int 0, .int 0, .int 0, .int 0, .int 0, .int 0, .int (-1), .ref m7, .ref m8, .int 0, .ref m9, .int 0, .ref m10, .ref m11, .ref m12, .ref m13, .ref m14, .int 0, .ref m15, .ref m16, .ref m17])), (m15, .inl (cy 1, 4, .inl (upd (upd (upd (upd (fun _ => 0) 0 (-1)) 1 (-1)) 2 (-1)) 3 (-1)))), (m16, .inl (cy 1, 4, .inl (fun _ => 0))), (m17, .inl (cy 2, 160, .inr (.inl (fun _ => 0))))] H locs) (hl : lv_has ls 8 [(0, .ref b), (1, .ref q0), (2, .ref m0), (3, .ref o0), (4, .int 0)]) (kk : ∀ (H : Heap) (locs : List Loc) (ls : Array Slot), va_S A s.heap H locs → lv_has ls 8 [(0, .ref b), (4, .int 0)] → W p l e room_1 s m args below meth c H locs 600002 7302232 Q (F0 m 2461 ls [])) : W p l e room_1 s m args below meth c H locs 37 29845 Q (F0 m 2137 ls []) := by
  refine lv_aload_n C.1 C.2.1 dL_law_2137 rfl (lv_at hl 1 rfl) ?_
  refine lv_aload_n C.1 C.2.1 dL_law_2138 rfl (lv_at hl 0 rfl) ?_
  refine lv_iload C.1 C.2.1 dL_law_2139 (lv_at hl 4 rfl) ?_
  refine lv_iconst (v := 1) C.1 C.2.1 dL_law_2141 (by decide) ?_
  refine r_iadd C (v := 1) dL_law_2142 (by decide) ?_
  refine r_sld C w hX hbl hbA (v := 3) (vinD (by decide)) sx1 dL_law_2143 ?_
  refine lv_aload_n C.1 C.2.1 dL_law_2144 rfl (lv_at hl 0 rfl) ?_
  refine lv_iload C.1 C.2.1 dL_law_2145 (lv_at hl 4 rfl) ?_
  refine lv_iconst (v := 2) C.1 C.2.1 dL_law_2147 (by decide) ?_
  refine r_iadd C (v := 2) dL_law_2148 (by decide) ?_
  refine r_sld C w hX hbl hbA (v := y2) (vinD (by decide)) sx2 dL_law_2149 ?_
  refine lv_aload_n C.1 C.2.1 dL_law_2150 rfl (lv_at hl 0 rfl) ?_
  refine lv_iload C.1 C.2.1 dL_law_2151 (lv_at hl 4 rfl) ?_
  refine lv_iconst (v := 3) C.1 C.2.1 dL_law_2153 (by decide) ?_
  refine r_iadd C (v := 3) dL_law_2154 (by decide) ?_
  refine r_sld C w hX hbl hbA (v := y3) (vinD (by decide)) sx3 dL_law_2155 ?_
  refine r_callH C w fh_RL_232 (c_L_tray_6 l D cy q0 q1 q2 q4 q5 q6 q10 q7 q8 q9 y2 y3 k0 k1 k2 k3) (hl.1.trans hml.symm) [0, 1, 2, 3, 4] [5, 6, 7, 8] (wr := [(m0, .inr (12, [.ref m1, .ref m2, .ref m3, .ref m4, .ref m5, .int 0, .ref m6, .int 0, .int 0, .int 0, .int 0, .int 0, .int 0, .int 0, .int 0, .int 0, .int 0, .int (-1), .ref m7, .ref m8, .int 0, .ref m9, .int 0, .ref m10, .ref m11, .ref m12, .ref m13, .ref m14, .int 0, .ref m15, .ref m16, .ref m17])), (m15, .inl (cy 1, 4, .inl (upd (upd (upd (upd (fun _ => 0) 0 (-1)) 1 (-1)) 2 (-1)) 3 (-1)))), (m16, .inl (cy 1, 4, .inl (fun _ => 0))), (m17, .inl (cy 2, 160, .inr (.inl (fun _ => 0))))]) ⟨rfl, rfl, rfl, rfl, by decide⟩ rfl rfl ⟨Nat.le_of_ble_eq_true rfl, Nat.le_of_ble_eq_true rfl, Nat.le_of_ble_eq_true rfl⟩ 37 29845 ⟨rfl, rfl, Nat.le_of_ble_eq_true rfl, Nat.le_of_ble_eq_true rfl⟩ dL_law_2156 (fun u H locs hp w => ?_)
  have w : Wd D A s.heap [(m0, .inr (12, [.ref m1, .ref m2, .ref m3, .ref m4, .ref m5, .int 0, .ref m6, .int 0, .int 0, .int 0, .int 0, .int 0, .int 0, .int 0, .int 0, .int 0, .int 0, .int (-1), .ref m7, .ref m8, .int 0, .ref m9, .int 0, .ref m10, .ref m11, .ref m12, .ref m13, .ref m14, .int 0, .ref m15, .ref m16, .ref m17])), (m15, .inl (cy 1, 4, .inl (upd (upd (upd (upd (fun _ => 0) 0 (-1)) 1 (-1)) 2 (-1)) 3 (-1)))), (m16, .inl (cy 1, 4, .inl (fun _ => 0))), (m17, .inl (cy 2, 160, .inr (.inl (fun _ => 0))))] _ _ := w.pick [0, 1, 2, 3] rfl rfl
  refine r_top (g2 := F0 m 2159 ls [.int 0]) rfl ?_
  refine lv_istore (lv' := [(5, .int 0), (0, .ref b), (1, .ref q0), (2, .ref m0), (3, .ref o0), (4, .int 0)]) C.1 C.2.1 dL_law_2159 hl (by decide) rfl (fun ls hl => ?_)
  refine lv_aload_n C.1 C.2.1 dL_law_2161 rfl (lv_at hl 3 rfl) ?_
  refine lv_aload_n C.1 C.2.1 dL_law_2162 rfl (lv_at hl 1 rfl) ?_
  refine lv_iload C.1 C.2.1 dL_law_2163 (lv_at hl 5 rfl) ?_
  refine lv_iconst (v := 1) C.1 C.2.1 dL_law_2165 (by decide) ?_
  refine r_iadd C (v := 1) dL_law_2166 (by decide) ?_
  refine r_sld C w hX hbl hbA (v := 3) (vinD (by decide)) sx1 dL_law_2167 ?_
  refine lv_aload_n C.1 C.2.1 dL_law_2168 rfl (lv_at hl 1 rfl) ?_
  refine lv_iload C.1 C.2.1 dL_law_2169 (lv_at hl 5 rfl) ?_
  refine lv_iconst (v := 2) C.1 C.2.1 dL_law_2171 (by decide) ?_
  refine r_iadd C (v := 2) dL_law_2172 (by decide) ?_
  refine r_sld C w hX hbl hbA (v := y2) (vinD (by decide)) sx2 dL_law_2173 ?_
  refine lv_aload_n C.1 C.2.1 dL_law_2174 rfl (lv_at hl 1 rfl) ?_
  refine lv_iload C.1 C.2.1 dL_law_2175 (lv_at hl 5 rfl) ?_
  refine lv_iconst (v := 3) C.1 C.2.1 dL_law_2177 (by decide) ?_
  refine r_iadd C (v := 3) dL_law_2178 (by decide) ?_
  refine r_sld C w hX hbl hbA (v := y3) (vinD (by decide)) sx3 dL_law_2179 ?_
  refine r_callV C w fv_RL_235 (c_X12_tray_5 l D cy m0 m1 m2 m3 m4 m5 m6 m7 m8 m9 m10 m11 m12 m13 m14 m15 m16 m17 y2 y3 k0 (by have h0 := (i_nlt k0); have h1 := (i_nle k1); have e0 : (0 : Int32).toInt = 0 := (by decide); have e1 : (3 : Int32).toInt = 3 := (by decide); have e2 : (4 : Int32).toInt = 4 := (by decide); rw [fa_lt]; omega) k2 (by have h0 := (i_nlt k2); have h1 := (i_le k3); have e0 : (0 : Int32).toInt = 0 := (by decide); have e1 : (40 : Int32).toInt = 40 := (by decide); rw [fa_lt]; omega)) (hl.1.trans hml.symm) [0, 1, 2, 3] [] (wr := []) ⟨rfl, rfl, rfl, rfl, by decide⟩ 0 rfl rfl rfl rfl rfl ⟨Nat.le_of_ble_eq_true rfl, Nat.le_of_ble_eq_true rfl, Nat.le_of_ble_eq_true rfl⟩ 37 29845 ⟨rfl, rfl, Nat.le_of_ble_eq_true rfl, Nat.le_of_ble_eq_true rfl⟩ dL_law_2180 (fun u H locs hp w => ?_)
  have w : Wd D A s.heap [(m0, .inr (12, [.ref m1, .ref m2, .ref m3, .ref m4, .ref m5, .int 0, .ref m6, .int 0, .int 0, .int 0, .int 0, .int 0, .int 0, .int 0, .int 0, .int 0, .int 0, .int (-1), .ref m7, .ref m8, .int 0, .ref m9, .int 0, .ref m10, .ref m11, .ref m12, .ref m13, .ref m14, .int 0, .ref m15, .ref m16, .ref m17]))] _ _ := w.pick [0] rfl rfl
  refine r_top (g2 := F0 m 2183 ls []) rfl ?_
  refine lv_aload_n C.1 C.2.1 dL_law_2183 rfl (lv_at hl 3 rfl) ?_
  refine r_callV C w fv_RL_134 (c_X12_thrown_1 l D cy m0 m1 m2 m3 m4 m5 m6 m7 m8 m9 m10 m11 m12 m13 m14 m15 m16 m17) (hl.1.trans hml.symm) [0] [] (wr := []) ⟨rfl, rfl, rfl, rfl, by decide⟩ 0 rfl rfl rfl rfl rfl ⟨Nat.le_of_ble_eq_true rfl, Nat.le_of_ble_eq_true rfl, Nat.le_of_ble_eq_true rfl⟩ 37 29845 ⟨rfl, rfl, Nat.le_of_ble_eq_true rfl, Nat.le_of_ble_eq_true rfl⟩ dL_law_2184 (fun u H locs hp w => ?_)
  have w : Wd D A s.heap [(m0, .inr (12, [.ref m1, .ref m2, .ref m3, .ref m4, .ref m5, .int 0, .ref m6, .int 0, .int 0, .int 0, .int 0, .int 0, .int 0, .int 0, .int 0, .int 0, .int 0, .int (-1), .ref m7, .ref m8, .int 0, .ref m9, .int 0, .ref m10, .ref m11, .ref m12, .ref m13, .ref m14, .int 0, .ref m15, .ref m16, .ref m17]))] _ _ := w.pick [0] rfl rfl
  refine r_top (g2 := F0 m 2187 ls [.int 0]) rfl ?_
  refine lv_iload C.1 C.2.1 dL_law_2187 (lv_at hl 0 rfl) ?_
  refine b_icmp_eq_t C (tgt := 2194) dL_law_2189 (by decide) (by decide) ?_
  refine lv_goto (tgt := 2461) C.1 C.2.1 dL_law_2194 (by decide) ?_
  refine W.widen (k := 600002) (n := 7302232) (Nat.le_of_ble_eq_true rfl) (Nat.le_of_ble_eq_true rfl) ?_
  exact kk _ _ _ w.2.2 (lv_sub hl [1, 5] rfl)
set_option maxRecDepth 100000 in
set_option maxHeartbeats 4000000 in
theorem s_L_31_7 {p : Program} {l : Launch} {e : Env} {s : State} {m : MethodId} {args : Array Value} {below : List Frame} {meth : Method} {c : Code} {Q : State → Prop} {D : va_G} {cy : Nat → ClassId} {A : Nat → Prop} {H : Heap} {locs : List Loc} {ls : Array Slot} {xs : Nat → Int32} (b q0 q1 q2 q4 q5 q6 q10 q7 q8 q9 m0 m1 m2 m3 m4 m5 m6 m7 m8 m9 m10 m11 m12 m13 m14 m15 m16 m17 o0 : Nat) (y2 : Int32) (y3 : Int32) (k0 : ¬ y2 < 0) (k1 : ¬ 4 ≤ y2) (k2 : ¬ y3 < 0) (k3 : y3 ≤ 40) (sx1 : xs 1 = 2) (sx2 : xs 2 = y2) (sx3 : xs 3 = y3) (C : Cx p s m args c cL_law RL D cy A) (hml : c.maxLocals = 8) (hX : va_X b 6 xs s s.heap) (hbl : b < s.heap.size) (hbA : ¬ A b) (w : Wd D A s.heap [(q0, .inr (11, [.ref q1, .int 0, .int 0, .int (-1), .ref q2, .ref q4, .ref q5, .ref q6, .ref q10, .null])), (q6, .inr (10, [.ref q7, .ref q8, .ref q9])), (q7, .inl (cy 1, 4, .inl (upd (upd (upd (upd (fun _ => 0) 0 (-1)) 1 (-1)) 2 (-1)) 3 (-1)))), (q8, .inl (cy 1, 4, .inl (fun _ => 0))), (q9, .inl (cy 2, 160, .inr (.inl (fun _ => 0)))), (m0, .inr (12, [.ref m1, .ref m2, .ref m3, .ref m4, .ref m5, .int 0, .ref m6, .int 0, .int 0, .int 0, .int 0, .int 0, .int 0, .int 0, .int 0, .int 0, .int 0, .int (-1), .ref m7, .ref m8, .int 0, .ref m9, .int 0, .ref m10, .ref m11, .ref m12, .ref m13, .ref m14, .int 0, .ref m15, .ref m16, .ref m17])), (m15, .inl (cy 1, 4, .inl (upd (upd (upd (upd (fun _ => 0) 0 (-1)) 1 (-1)) 2 (-1)) 3 (-1)))), (m16, .inl (cy 1, 4, .inl (fun _ => 0))), (m17, .inl (cy 2, 160, .inr (.inl (fun _ => 0))))] H locs) (hl : lv_has ls 8 [(0, .ref b), (1, .ref q0), (2, .ref m0), (3, .ref o0), (4, .int 0)]) (kk : ∀ (H : Heap) (locs : List Loc) (ls : Array Slot), va_S A s.heap H locs → lv_has ls 8 [(0, .ref b), (4, .int 0)] → W p l e room_1 s m args below meth c H locs 600002 7302232 Q (F0 m 2461 ls [])) : W p l e room_1 s m args below meth c H locs 37 29845 Q (F0 m 2137 ls []) := by
  refine lv_aload_n C.1 C.2.1 dL_law_2137 rfl (lv_at hl 1 rfl) ?_
  refine lv_aload_n C.1 C.2.1 dL_law_2138 rfl (lv_at hl 0 rfl) ?_
  refine lv_iload C.1 C.2.1 dL_law_2139 (lv_at hl 4 rfl) ?_
  refine lv_iconst (v := 1) C.1 C.2.1 dL_law_2141 (by decide) ?_
  refine r_iadd C (v := 1) dL_law_2142 (by decide) ?_
  refine r_sld C w hX hbl hbA (v := 2) (vinD (by decide)) sx1 dL_law_2143 ?_
  refine lv_aload_n C.1 C.2.1 dL_law_2144 rfl (lv_at hl 0 rfl) ?_
  refine lv_iload C.1 C.2.1 dL_law_2145 (lv_at hl 4 rfl) ?_
  refine lv_iconst (v := 2) C.1 C.2.1 dL_law_2147 (by decide) ?_
  refine r_iadd C (v := 2) dL_law_2148 (by decide) ?_
  refine r_sld C w hX hbl hbA (v := y2) (vinD (by decide)) sx2 dL_law_2149 ?_
  refine lv_aload_n C.1 C.2.1 dL_law_2150 rfl (lv_at hl 0 rfl) ?_
  refine lv_iload C.1 C.2.1 dL_law_2151 (lv_at hl 4 rfl) ?_
  refine lv_iconst (v := 3) C.1 C.2.1 dL_law_2153 (by decide) ?_
  refine r_iadd C (v := 3) dL_law_2154 (by decide) ?_
  refine r_sld C w hX hbl hbA (v := y3) (vinD (by decide)) sx3 dL_law_2155 ?_
  refine r_callH C w fh_RL_232 (c_L_tray_7 l D cy q0 q1 q2 q4 q5 q6 q10 q7 q8 q9 y2 y3 k0 k1 k2 k3) (hl.1.trans hml.symm) [0, 1, 2, 3, 4] [5, 6, 7, 8] (wr := [(m0, .inr (12, [.ref m1, .ref m2, .ref m3, .ref m4, .ref m5, .int 0, .ref m6, .int 0, .int 0, .int 0, .int 0, .int 0, .int 0, .int 0, .int 0, .int 0, .int 0, .int (-1), .ref m7, .ref m8, .int 0, .ref m9, .int 0, .ref m10, .ref m11, .ref m12, .ref m13, .ref m14, .int 0, .ref m15, .ref m16, .ref m17])), (m15, .inl (cy 1, 4, .inl (upd (upd (upd (upd (fun _ => 0) 0 (-1)) 1 (-1)) 2 (-1)) 3 (-1)))), (m16, .inl (cy 1, 4, .inl (fun _ => 0))), (m17, .inl (cy 2, 160, .inr (.inl (fun _ => 0))))]) ⟨rfl, rfl, rfl, rfl, by decide⟩ rfl rfl ⟨Nat.le_of_ble_eq_true rfl, Nat.le_of_ble_eq_true rfl, Nat.le_of_ble_eq_true rfl⟩ 37 29845 ⟨rfl, rfl, Nat.le_of_ble_eq_true rfl, Nat.le_of_ble_eq_true rfl⟩ dL_law_2156 (fun u H locs hp w => ?_)
  have w : Wd D A s.heap [(m0, .inr (12, [.ref m1, .ref m2, .ref m3, .ref m4, .ref m5, .int 0, .ref m6, .int 0, .int 0, .int 0, .int 0, .int 0, .int 0, .int 0, .int 0, .int 0, .int 0, .int (-1), .ref m7, .ref m8, .int 0, .ref m9, .int 0, .ref m10, .ref m11, .ref m12, .ref m13, .ref m14, .int 0, .ref m15, .ref m16, .ref m17])), (m15, .inl (cy 1, 4, .inl (upd (upd (upd (upd (fun _ => 0) 0 (-1)) 1 (-1)) 2 (-1)) 3 (-1)))), (m16, .inl (cy 1, 4, .inl (fun _ => 0))), (m17, .inl (cy 2, 160, .inr (.inl (fun _ => 0))))] _ _ := w.pick [0, 1, 2, 3] rfl rfl
  refine r_top (g2 := F0 m 2159 ls [.int 0]) rfl ?_
  refine lv_istore (lv' := [(5, .int 0), (0, .ref b), (1, .ref q0), (2, .ref m0), (3, .ref o0), (4, .int 0)]) C.1 C.2.1 dL_law_2159 hl (by decide) rfl (fun ls hl => ?_)
  refine lv_aload_n C.1 C.2.1 dL_law_2161 rfl (lv_at hl 3 rfl) ?_
  refine lv_aload_n C.1 C.2.1 dL_law_2162 rfl (lv_at hl 1 rfl) ?_
  refine lv_iload C.1 C.2.1 dL_law_2163 (lv_at hl 5 rfl) ?_
  refine lv_iconst (v := 1) C.1 C.2.1 dL_law_2165 (by decide) ?_
  refine r_iadd C (v := 1) dL_law_2166 (by decide) ?_
  refine r_sld C w hX hbl hbA (v := 2) (vinD (by decide)) sx1 dL_law_2167 ?_
  refine lv_aload_n C.1 C.2.1 dL_law_2168 rfl (lv_at hl 1 rfl) ?_
  refine lv_iload C.1 C.2.1 dL_law_2169 (lv_at hl 5 rfl) ?_
  refine lv_iconst (v := 2) C.1 C.2.1 dL_law_2171 (by decide) ?_
  refine r_iadd C (v := 2) dL_law_2172 (by decide) ?_
  refine r_sld C w hX hbl hbA (v := y2) (vinD (by decide)) sx2 dL_law_2173 ?_
  refine lv_aload_n C.1 C.2.1 dL_law_2174 rfl (lv_at hl 1 rfl) ?_
  refine lv_iload C.1 C.2.1 dL_law_2175 (lv_at hl 5 rfl) ?_
  refine lv_iconst (v := 3) C.1 C.2.1 dL_law_2177 (by decide) ?_
  refine r_iadd C (v := 3) dL_law_2178 (by decide) ?_
  refine r_sld C w hX hbl hbA (v := y3) (vinD (by decide)) sx3 dL_law_2179 ?_
  refine r_callV C w fv_RL_235 (c_X12_tray_6 l D cy m0 m1 m2 m3 m4 m5 m6 m7 m8 m9 m10 m11 m12 m13 m14 m15 m16 m17 y2 y3 k0 (by have h0 := (i_nlt k0); have h1 := (i_nle k1); have e0 : (0 : Int32).toInt = 0 := (by decide); have e1 : (3 : Int32).toInt = 3 := (by decide); have e2 : (4 : Int32).toInt = 4 := (by decide); rw [fa_lt]; omega) k2 (by have h0 := (i_nlt k2); have h1 := (i_le k3); have e0 : (0 : Int32).toInt = 0 := (by decide); have e1 : (40 : Int32).toInt = 40 := (by decide); rw [fa_lt]; omega)) (hl.1.trans hml.symm) [0, 1, 2, 3] [] (wr := []) ⟨rfl, rfl, rfl, rfl, by decide⟩ 0 rfl rfl rfl rfl rfl ⟨Nat.le_of_ble_eq_true rfl, Nat.le_of_ble_eq_true rfl, Nat.le_of_ble_eq_true rfl⟩ 37 29845 ⟨rfl, rfl, Nat.le_of_ble_eq_true rfl, Nat.le_of_ble_eq_true rfl⟩ dL_law_2180 (fun u H locs hp w => ?_)
  have w : Wd D A s.heap [(m0, .inr (12, [.ref m1, .ref m2, .ref m3, .ref m4, .ref m5, .int 0, .ref m6, .int 0, .int 0, .int 0, .int 0, .int 0, .int 0, .int 0, .int 0, .int 0, .int 0, .int (-1), .ref m7, .ref m8, .int 0, .ref m9, .int 0, .ref m10, .ref m11, .ref m12, .ref m13, .ref m14, .int 0, .ref m15, .ref m16, .ref m17]))] _ _ := w.pick [0] rfl rfl
  refine r_top (g2 := F0 m 2183 ls []) rfl ?_
  refine lv_aload_n C.1 C.2.1 dL_law_2183 rfl (lv_at hl 3 rfl) ?_
  refine r_callV C w fv_RL_134 (c_X12_thrown_1 l D cy m0 m1 m2 m3 m4 m5 m6 m7 m8 m9 m10 m11 m12 m13 m14 m15 m16 m17) (hl.1.trans hml.symm) [0] [] (wr := []) ⟨rfl, rfl, rfl, rfl, by decide⟩ 0 rfl rfl rfl rfl rfl ⟨Nat.le_of_ble_eq_true rfl, Nat.le_of_ble_eq_true rfl, Nat.le_of_ble_eq_true rfl⟩ 37 29845 ⟨rfl, rfl, Nat.le_of_ble_eq_true rfl, Nat.le_of_ble_eq_true rfl⟩ dL_law_2184 (fun u H locs hp w => ?_)
  have w : Wd D A s.heap [(m0, .inr (12, [.ref m1, .ref m2, .ref m3, .ref m4, .ref m5, .int 0, .ref m6, .int 0, .int 0, .int 0, .int 0, .int 0, .int 0, .int 0, .int 0, .int 0, .int 0, .int (-1), .ref m7, .ref m8, .int 0, .ref m9, .int 0, .ref m10, .ref m11, .ref m12, .ref m13, .ref m14, .int 0, .ref m15, .ref m16, .ref m17]))] _ _ := w.pick [0] rfl rfl
  refine r_top (g2 := F0 m 2187 ls [.int 0]) rfl ?_
  refine lv_iload C.1 C.2.1 dL_law_2187 (lv_at hl 0 rfl) ?_
  refine b_icmp_eq_t C (tgt := 2194) dL_law_2189 (by decide) (by decide) ?_
  refine lv_goto (tgt := 2461) C.1 C.2.1 dL_law_2194 (by decide) ?_
  refine W.widen (k := 600002) (n := 7302232) (Nat.le_of_ble_eq_true rfl) (Nat.le_of_ble_eq_true rfl) ?_
  exact kk _ _ _ w.2.2 (lv_sub hl [1, 5] rfl)
set_option maxRecDepth 100000 in
set_option maxHeartbeats 4000000 in
theorem s_L_31_8 {p : Program} {l : Launch} {e : Env} {s : State} {m : MethodId} {args : Array Value} {below : List Frame} {meth : Method} {c : Code} {Q : State → Prop} {D : va_G} {cy : Nat → ClassId} {A : Nat → Prop} {H : Heap} {locs : List Loc} {ls : Array Slot} {xs : Nat → Int32} (b q0 q1 q2 q4 q5 q6 q10 q7 q8 q9 m0 m1 m2 m3 m4 m5 m6 m7 m8 m9 m10 m11 m12 m13 m14 m15 m16 m17 o0 : Nat) (y2 : Int32) (y3 : Int32) (k0 : ¬ y2 < 0) (k1 : ¬ 4 ≤ y2) (k2 : ¬ y3 < 0) (k3 : y3 ≤ 40) (sx1 : xs 1 = 1) (sx2 : xs 2 = y2) (sx3 : xs 3 = y3) (C : Cx p s m args c cL_law RL D cy A) (hml : c.maxLocals = 8) (hX : va_X b 6 xs s s.heap) (hbl : b < s.heap.size) (hbA : ¬ A b) (w : Wd D A s.heap [(q0, .inr (11, [.ref q1, .int 0, .int 0, .int (-1), .ref q2, .ref q4, .ref q5, .ref q6, .ref q10, .null])), (q6, .inr (10, [.ref q7, .ref q8, .ref q9])), (q7, .inl (cy 1, 4, .inl (upd (upd (upd (upd (fun _ => 0) 0 (-1)) 1 (-1)) 2 (-1)) 3 (-1)))), (q8, .inl (cy 1, 4, .inl (fun _ => 0))), (q9, .inl (cy 2, 160, .inr (.inl (fun _ => 0)))), (m0, .inr (12, [.ref m1, .ref m2, .ref m3, .ref m4, .ref m5, .int 0, .ref m6, .int 0, .int 0, .int 0, .int 0, .int 0, .int 0, .int 0, .int 0, .int 0, .int 0, .int (-1), .ref m7, .ref m8, .int 0, .ref m9, .int 0, .ref m10, .ref m11, .ref m12, .ref m13, .ref m14, .int 0, .ref m15, .ref m16, .ref m17])), (m15, .inl (cy 1, 4, .inl (upd (upd (upd (upd (fun _ => 0) 0 (-1)) 1 (-1)) 2 (-1)) 3 (-1)))), (m16, .inl (cy 1, 4, .inl (fun _ => 0))), (m17, .inl (cy 2, 160, .inr (.inl (fun _ => 0))))] H locs) (hl : lv_has ls 8 [(0, .ref b), (1, .ref q0), (2, .ref m0), (3, .ref o0), (4, .int 0)]) (kk : ∀ (H : Heap) (locs : List Loc) (ls : Array Slot), va_S A s.heap H locs → lv_has ls 8 [(0, .ref b), (4, .int 0)] → W p l e room_1 s m args below meth c H locs 600002 7302232 Q (F0 m 2461 ls [])) : W p l e room_1 s m args below meth c H locs 37 29845 Q (F0 m 2137 ls []) := by
  refine lv_aload_n C.1 C.2.1 dL_law_2137 rfl (lv_at hl 1 rfl) ?_
  refine lv_aload_n C.1 C.2.1 dL_law_2138 rfl (lv_at hl 0 rfl) ?_
  refine lv_iload C.1 C.2.1 dL_law_2139 (lv_at hl 4 rfl) ?_
  refine lv_iconst (v := 1) C.1 C.2.1 dL_law_2141 (by decide) ?_
  refine r_iadd C (v := 1) dL_law_2142 (by decide) ?_
  refine r_sld C w hX hbl hbA (v := 1) (vinD (by decide)) sx1 dL_law_2143 ?_
  refine lv_aload_n C.1 C.2.1 dL_law_2144 rfl (lv_at hl 0 rfl) ?_
  refine lv_iload C.1 C.2.1 dL_law_2145 (lv_at hl 4 rfl) ?_
  refine lv_iconst (v := 2) C.1 C.2.1 dL_law_2147 (by decide) ?_
  refine r_iadd C (v := 2) dL_law_2148 (by decide) ?_
  refine r_sld C w hX hbl hbA (v := y2) (vinD (by decide)) sx2 dL_law_2149 ?_
  refine lv_aload_n C.1 C.2.1 dL_law_2150 rfl (lv_at hl 0 rfl) ?_
  refine lv_iload C.1 C.2.1 dL_law_2151 (lv_at hl 4 rfl) ?_
  refine lv_iconst (v := 3) C.1 C.2.1 dL_law_2153 (by decide) ?_
  refine r_iadd C (v := 3) dL_law_2154 (by decide) ?_
  refine r_sld C w hX hbl hbA (v := y3) (vinD (by decide)) sx3 dL_law_2155 ?_
  refine r_callH C w fh_RL_232 (c_L_tray_8 l D cy q0 q1 q2 q4 q5 q6 q10 q7 q8 q9 y2 y3 k0 k1 k2 k3) (hl.1.trans hml.symm) [0, 1, 2, 3, 4] [5, 6, 7, 8] (wr := [(m0, .inr (12, [.ref m1, .ref m2, .ref m3, .ref m4, .ref m5, .int 0, .ref m6, .int 0, .int 0, .int 0, .int 0, .int 0, .int 0, .int 0, .int 0, .int 0, .int 0, .int (-1), .ref m7, .ref m8, .int 0, .ref m9, .int 0, .ref m10, .ref m11, .ref m12, .ref m13, .ref m14, .int 0, .ref m15, .ref m16, .ref m17])), (m15, .inl (cy 1, 4, .inl (upd (upd (upd (upd (fun _ => 0) 0 (-1)) 1 (-1)) 2 (-1)) 3 (-1)))), (m16, .inl (cy 1, 4, .inl (fun _ => 0))), (m17, .inl (cy 2, 160, .inr (.inl (fun _ => 0))))]) ⟨rfl, rfl, rfl, rfl, by decide⟩ rfl rfl ⟨Nat.le_of_ble_eq_true rfl, Nat.le_of_ble_eq_true rfl, Nat.le_of_ble_eq_true rfl⟩ 37 29845 ⟨rfl, rfl, Nat.le_of_ble_eq_true rfl, Nat.le_of_ble_eq_true rfl⟩ dL_law_2156 (fun u H locs hp w => ?_)
  have w : Wd D A s.heap [(m0, .inr (12, [.ref m1, .ref m2, .ref m3, .ref m4, .ref m5, .int 0, .ref m6, .int 0, .int 0, .int 0, .int 0, .int 0, .int 0, .int 0, .int 0, .int 0, .int 0, .int (-1), .ref m7, .ref m8, .int 0, .ref m9, .int 0, .ref m10, .ref m11, .ref m12, .ref m13, .ref m14, .int 0, .ref m15, .ref m16, .ref m17])), (m15, .inl (cy 1, 4, .inl (upd (upd (upd (upd (fun _ => 0) 0 (-1)) 1 (-1)) 2 (-1)) 3 (-1)))), (m16, .inl (cy 1, 4, .inl (fun _ => 0))), (m17, .inl (cy 2, 160, .inr (.inl (fun _ => 0))))] _ _ := w.pick [0, 1, 2, 3] rfl rfl
  refine r_top (g2 := F0 m 2159 ls [.int 0]) rfl ?_
  refine lv_istore (lv' := [(5, .int 0), (0, .ref b), (1, .ref q0), (2, .ref m0), (3, .ref o0), (4, .int 0)]) C.1 C.2.1 dL_law_2159 hl (by decide) rfl (fun ls hl => ?_)
  refine lv_aload_n C.1 C.2.1 dL_law_2161 rfl (lv_at hl 3 rfl) ?_
  refine lv_aload_n C.1 C.2.1 dL_law_2162 rfl (lv_at hl 1 rfl) ?_
  refine lv_iload C.1 C.2.1 dL_law_2163 (lv_at hl 5 rfl) ?_
  refine lv_iconst (v := 1) C.1 C.2.1 dL_law_2165 (by decide) ?_
  refine r_iadd C (v := 1) dL_law_2166 (by decide) ?_
  refine r_sld C w hX hbl hbA (v := 1) (vinD (by decide)) sx1 dL_law_2167 ?_
  refine lv_aload_n C.1 C.2.1 dL_law_2168 rfl (lv_at hl 1 rfl) ?_
  refine lv_iload C.1 C.2.1 dL_law_2169 (lv_at hl 5 rfl) ?_
  refine lv_iconst (v := 2) C.1 C.2.1 dL_law_2171 (by decide) ?_
  refine r_iadd C (v := 2) dL_law_2172 (by decide) ?_
  refine r_sld C w hX hbl hbA (v := y2) (vinD (by decide)) sx2 dL_law_2173 ?_
  refine lv_aload_n C.1 C.2.1 dL_law_2174 rfl (lv_at hl 1 rfl) ?_
  refine lv_iload C.1 C.2.1 dL_law_2175 (lv_at hl 5 rfl) ?_
  refine lv_iconst (v := 3) C.1 C.2.1 dL_law_2177 (by decide) ?_
  refine r_iadd C (v := 3) dL_law_2178 (by decide) ?_
  refine r_sld C w hX hbl hbA (v := y3) (vinD (by decide)) sx3 dL_law_2179 ?_
  refine r_callV C w fv_RL_235 (c_X12_tray_7 l D cy m0 m1 m2 m3 m4 m5 m6 m7 m8 m9 m10 m11 m12 m13 m14 m15 m16 m17 y2 y3 k0 (by have h0 := (i_nlt k0); have h1 := (i_nle k1); have e0 : (0 : Int32).toInt = 0 := (by decide); have e1 : (3 : Int32).toInt = 3 := (by decide); have e2 : (4 : Int32).toInt = 4 := (by decide); rw [fa_lt]; omega) k2 (by have h0 := (i_nlt k2); have h1 := (i_le k3); have e0 : (0 : Int32).toInt = 0 := (by decide); have e1 : (40 : Int32).toInt = 40 := (by decide); rw [fa_lt]; omega)) (hl.1.trans hml.symm) [0, 1, 2, 3] [] (wr := []) ⟨rfl, rfl, rfl, rfl, by decide⟩ 0 rfl rfl rfl rfl rfl ⟨Nat.le_of_ble_eq_true rfl, Nat.le_of_ble_eq_true rfl, Nat.le_of_ble_eq_true rfl⟩ 37 29845 ⟨rfl, rfl, Nat.le_of_ble_eq_true rfl, Nat.le_of_ble_eq_true rfl⟩ dL_law_2180 (fun u H locs hp w => ?_)
  have w : Wd D A s.heap [(m0, .inr (12, [.ref m1, .ref m2, .ref m3, .ref m4, .ref m5, .int 0, .ref m6, .int 0, .int 0, .int 0, .int 0, .int 0, .int 0, .int 0, .int 0, .int 0, .int 0, .int (-1), .ref m7, .ref m8, .int 0, .ref m9, .int 0, .ref m10, .ref m11, .ref m12, .ref m13, .ref m14, .int 0, .ref m15, .ref m16, .ref m17]))] _ _ := w.pick [0] rfl rfl
  refine r_top (g2 := F0 m 2183 ls []) rfl ?_
  refine lv_aload_n C.1 C.2.1 dL_law_2183 rfl (lv_at hl 3 rfl) ?_
  refine r_callV C w fv_RL_134 (c_X12_thrown_1 l D cy m0 m1 m2 m3 m4 m5 m6 m7 m8 m9 m10 m11 m12 m13 m14 m15 m16 m17) (hl.1.trans hml.symm) [0] [] (wr := []) ⟨rfl, rfl, rfl, rfl, by decide⟩ 0 rfl rfl rfl rfl rfl ⟨Nat.le_of_ble_eq_true rfl, Nat.le_of_ble_eq_true rfl, Nat.le_of_ble_eq_true rfl⟩ 37 29845 ⟨rfl, rfl, Nat.le_of_ble_eq_true rfl, Nat.le_of_ble_eq_true rfl⟩ dL_law_2184 (fun u H locs hp w => ?_)
  have w : Wd D A s.heap [(m0, .inr (12, [.ref m1, .ref m2, .ref m3, .ref m4, .ref m5, .int 0, .ref m6, .int 0, .int 0, .int 0, .int 0, .int 0, .int 0, .int 0, .int 0, .int 0, .int 0, .int (-1), .ref m7, .ref m8, .int 0, .ref m9, .int 0, .ref m10, .ref m11, .ref m12, .ref m13, .ref m14, .int 0, .ref m15, .ref m16, .ref m17]))] _ _ := w.pick [0] rfl rfl
  refine r_top (g2 := F0 m 2187 ls [.int 0]) rfl ?_
  refine lv_iload C.1 C.2.1 dL_law_2187 (lv_at hl 0 rfl) ?_
  refine b_icmp_eq_t C (tgt := 2194) dL_law_2189 (by decide) (by decide) ?_
  refine lv_goto (tgt := 2461) C.1 C.2.1 dL_law_2194 (by decide) ?_
  refine W.widen (k := 600002) (n := 7302232) (Nat.le_of_ble_eq_true rfl) (Nat.le_of_ble_eq_true rfl) ?_
  exact kk _ _ _ w.2.2 (lv_sub hl [1, 5] rfl)
set_option maxRecDepth 100000 in
set_option maxHeartbeats 4000000 in
theorem s_L_31_9 {p : Program} {l : Launch} {e : Env} {s : State} {m : MethodId} {args : Array Value} {below : List Frame} {meth : Method} {c : Code} {Q : State → Prop} {D : va_G} {cy : Nat → ClassId} {A : Nat → Prop} {H : Heap} {locs : List Loc} {ls : Array Slot} {xs : Nat → Int32} (b q0 q1 q2 q4 q5 q6 q10 m0 m1 m2 m3 m4 m5 m6 m7 m8 m9 m10 m11 m12 m13 m14 m15 m16 m17 o0 : Nat) (y1 : Int32) (y2 : Int32) (y3 : Int32) (k0 : ¬ y1 < 0) (k1 : y1 < 4) (k2 : ¬ y2 < 0) (k3 : ¬ 4 ≤ y2) (k4 : ¬ y3 < 0) (k5 : ¬ y3 ≤ 40) (sx1 : xs 1 = y1) (sx2 : xs 2 = y2) (sx3 : xs 3 = y3) (hst : l.stackTraces = false) (C : Cx p s m args c cL_law RL D cy A) (hml : c.maxLocals = 8) (hX : va_X b 6 xs s s.heap) (hbl : b < s.heap.size) (hbA : ¬ A b) (w : Wd D A s.heap [(q0, .inr (11, [.ref q1, .int 0, .int 0, .int (-1), .ref q2, .ref q4, .ref q5, .ref q6, .ref q10, .null])), (m0, .inr (12, [.ref m1, .ref m2, .ref m3, .ref m4, .ref m5, .int 0, .ref m6, .int 0, .int 0, .int 0, .int 0, .int 0, .int 0, .int 0, .int 0, .int 0, .int 0, .int (-1), .ref m7, .ref m8, .int 0, .ref m9, .int 0, .ref m10, .ref m11, .ref m12, .ref m13, .ref m14, .int 0, .ref m15, .ref m16, .ref m17]))] H locs) (hl : lv_has ls 8 [(0, .ref b), (1, .ref q0), (2, .ref m0), (3, .ref o0), (4, .int 0)]) (kk : ∀ (H : Heap) (locs : List Loc) (ls : Array Slot), va_S A s.heap H locs → lv_has ls 8 [(0, .ref b), (4, .int 0)] → W p l e room_1 s m args below meth c H locs 600002 7302232 Q (F0 m 2461 ls [])) : W p l e room_1 s m args below meth c H locs 37 29845 Q (F0 m 2137 ls []) := by
  refine lv_aload_n C.1 C.2.1 dL_law_2137 rfl (lv_at hl 1 rfl) ?_
  refine lv_aload_n C.1 C.2.1 dL_law_2138 rfl (lv_at hl 0 rfl) ?_
  refine lv_iload C.1 C.2.1 dL_law_2139 (lv_at hl 4 rfl) ?_
  refine lv_iconst (v := 1) C.1 C.2.1 dL_law_2141 (by decide) ?_
  refine r_iadd C (v := 1) dL_law_2142 (by decide) ?_
  refine r_sld C w hX hbl hbA (v := y1) (vinD (by decide)) sx1 dL_law_2143 ?_
  refine lv_aload_n C.1 C.2.1 dL_law_2144 rfl (lv_at hl 0 rfl) ?_
  refine lv_iload C.1 C.2.1 dL_law_2145 (lv_at hl 4 rfl) ?_
  refine lv_iconst (v := 2) C.1 C.2.1 dL_law_2147 (by decide) ?_
  refine r_iadd C (v := 2) dL_law_2148 (by decide) ?_
  refine r_sld C w hX hbl hbA (v := y2) (vinD (by decide)) sx2 dL_law_2149 ?_
  refine lv_aload_n C.1 C.2.1 dL_law_2150 rfl (lv_at hl 0 rfl) ?_
  refine lv_iload C.1 C.2.1 dL_law_2151 (lv_at hl 4 rfl) ?_
  refine lv_iconst (v := 3) C.1 C.2.1 dL_law_2153 (by decide) ?_
  refine r_iadd C (v := 3) dL_law_2154 (by decide) ?_
  refine r_sld C w hX hbl hbA (v := y3) (vinD (by decide)) sx3 dL_law_2155 ?_
  refine r_callH C w fh_RL_232 (c_L_tray_9 l D cy q0 q1 q2 q4 q5 q6 q10 y1 y2 y3 k0 k1 k2 k3 k4 k5 hst) (hl.1.trans hml.symm) [0] [1] (wr := [(m0, .inr (12, [.ref m1, .ref m2, .ref m3, .ref m4, .ref m5, .int 0, .ref m6, .int 0, .int 0, .int 0, .int 0, .int 0, .int 0, .int 0, .int 0, .int 0, .int 0, .int (-1), .ref m7, .ref m8, .int 0, .ref m9, .int 0, .ref m10, .ref m11, .ref m12, .ref m13, .ref m14, .int 0, .ref m15, .ref m16, .ref m17]))]) ⟨rfl, rfl, rfl, rfl, by decide⟩ rfl rfl ⟨Nat.le_of_ble_eq_true rfl, Nat.le_of_ble_eq_true rfl, Nat.le_of_ble_eq_true rfl⟩ 38 29851 ⟨rfl, rfl, Nat.le_of_ble_eq_true rfl, Nat.le_of_ble_eq_true rfl⟩ dL_law_2156 (fun u H locs hp w => ?_)
  have w : Wd D A s.heap [(m0, .inr (12, [.ref m1, .ref m2, .ref m3, .ref m4, .ref m5, .int 0, .ref m6, .int 0, .int 0, .int 0, .int 0, .int 0, .int 0, .int 0, .int 0, .int 0, .int 0, .int (-1), .ref m7, .ref m8, .int 0, .ref m9, .int 0, .ref m10, .ref m11, .ref m12, .ref m13, .ref m14, .int 0, .ref m15, .ref m16, .ref m17]))] _ _ := w.pick [0] rfl rfl
  refine r_top (g2 := F0 m 2159 ls [.int 2]) rfl ?_
  refine lv_istore (lv' := [(5, .int 2), (0, .ref b), (1, .ref q0), (2, .ref m0), (3, .ref o0), (4, .int 0)]) C.1 C.2.1 dL_law_2159 hl (by decide) rfl (fun ls hl => ?_)
  refine lv_aload_n C.1 C.2.1 dL_law_2161 rfl (lv_at hl 3 rfl) ?_
  refine lv_aload_n C.1 C.2.1 dL_law_2162 rfl (lv_at hl 1 rfl) ?_
  refine lv_iload C.1 C.2.1 dL_law_2163 (lv_at hl 5 rfl) ?_
  refine lv_iconst (v := 1) C.1 C.2.1 dL_law_2165 (by decide) ?_
  refine r_iadd C (v := 1) dL_law_2166 (by decide) ?_
  refine r_sld C w hX hbl hbA (v := y1) (vinD (by decide)) sx1 dL_law_2167 ?_
  refine lv_aload_n C.1 C.2.1 dL_law_2168 rfl (lv_at hl 1 rfl) ?_
  refine lv_iload C.1 C.2.1 dL_law_2169 (lv_at hl 5 rfl) ?_
  refine lv_iconst (v := 2) C.1 C.2.1 dL_law_2171 (by decide) ?_
  refine r_iadd C (v := 2) dL_law_2172 (by decide) ?_
  refine r_sld C w hX hbl hbA (v := y2) (vinD (by decide)) sx2 dL_law_2173 ?_
  refine lv_aload_n C.1 C.2.1 dL_law_2174 rfl (lv_at hl 1 rfl) ?_
  refine lv_iload C.1 C.2.1 dL_law_2175 (lv_at hl 5 rfl) ?_
  refine lv_iconst (v := 3) C.1 C.2.1 dL_law_2177 (by decide) ?_
  refine r_iadd C (v := 3) dL_law_2178 (by decide) ?_
  refine r_sld C w hX hbl hbA (v := y3) (vinD (by decide)) sx3 dL_law_2179 ?_
  refine r_callV C w fv_RL_235 (c_X12_tray_8 l D cy m0 m1 m2 m3 m4 m5 m6 m7 m8 m9 m10 m11 m12 m13 m14 m15 m16 m17 y1 y2 y3 k0 (by have h0 := (i_nlt k0); have h1 := (i_lt k1); have e0 : (0 : Int32).toInt = 0 := (by decide); have e1 : (3 : Int32).toInt = 3 := (by decide); have e2 : (4 : Int32).toInt = 4 := (by decide); rw [fa_lt]; omega) k2 (by have h0 := (i_nlt k2); have h1 := (i_nle k3); have e0 : (0 : Int32).toInt = 0 := (by decide); have e1 : (3 : Int32).toInt = 3 := (by decide); have e2 : (4 : Int32).toInt = 4 := (by decide); rw [fa_lt]; omega) k4 (by have h0 := (i_nlt k4); have h1 := (i_nle k5); have e0 : (0 : Int32).toInt = 0 := (by decide); have e1 : (40 : Int32).toInt = 40 := (by decide); rw [fa_lt]; omega)) (hl.1.trans hml.symm) [0] [] (wr := []) ⟨rfl, rfl, rfl, rfl, by decide⟩ 0 rfl rfl rfl rfl rfl ⟨Nat.le_of_ble_eq_true rfl, Nat.le_of_ble_eq_true rfl, Nat.le_of_ble_eq_true rfl⟩ 38 29851 ⟨rfl, rfl, Nat.le_of_ble_eq_true rfl, Nat.le_of_ble_eq_true rfl⟩ dL_law_2180 (fun u H locs hp w => ?_)
  have w : Wd D A s.heap [(m0, .inr (12, [.ref m1, .ref m2, .ref m3, .ref m4, .ref m5, .int 2, .ref m6, .int 0, .int 0, .int 0, .int 0, .int 0, .int 0, .int 0, .int 0, .int 0, .int 0, .int (-1), .ref m7, .ref m8, .int 0, .ref m9, .int 0, .ref m10, .ref m11, .ref m12, .ref m13, .ref m14, .int 0, .ref m15, .ref m16, .ref m17]))] _ _ := w.pick [0] rfl rfl
  refine r_top (g2 := F0 m 2183 ls []) rfl ?_
  refine lv_aload_n C.1 C.2.1 dL_law_2183 rfl (lv_at hl 3 rfl) ?_
  refine r_callV C w fv_RL_134 (c_X12_thrown_10 l D cy m0 m1 m2 m3 m4 m5 m6 m7 m8 m9 m10 m11 m12 m13 m14 m15 m16 m17) (hl.1.trans hml.symm) [0] [] (wr := []) ⟨rfl, rfl, rfl, rfl, by decide⟩ 0 rfl rfl rfl rfl rfl ⟨Nat.le_of_ble_eq_true rfl, Nat.le_of_ble_eq_true rfl, Nat.le_of_ble_eq_true rfl⟩ 38 29851 ⟨rfl, rfl, Nat.le_of_ble_eq_true rfl, Nat.le_of_ble_eq_true rfl⟩ dL_law_2184 (fun u H locs hp w => ?_)
  have w : Wd D A s.heap [(m0, .inr (12, [.ref m1, .ref m2, .ref m3, .ref m4, .ref m5, .int 2, .ref m6, .int 0, .int 0, .int 0, .int 0, .int 0, .int 0, .int 0, .int 0, .int 0, .int 0, .int (-1), .ref m7, .ref m8, .int 0, .ref m9, .int 0, .ref m10, .ref m11, .ref m12, .ref m13, .ref m14, .int 0, .ref m15, .ref m16, .ref m17]))] _ _ := w.pick [0] rfl rfl
  refine r_top (g2 := F0 m 2187 ls [.int 2]) rfl ?_
  refine lv_iload C.1 C.2.1 dL_law_2187 (lv_at hl 0 rfl) ?_
  refine b_icmp_eq_t C (tgt := 2194) dL_law_2189 (by decide) (by decide) ?_
  refine lv_goto (tgt := 2461) C.1 C.2.1 dL_law_2194 (by decide) ?_
  refine W.widen (k := 600002) (n := 7302232) (Nat.le_of_ble_eq_true rfl) (Nat.le_of_ble_eq_true rfl) ?_
  exact kk _ _ _ w.2.2 (lv_sub hl [1, 5] rfl)
set_option maxRecDepth 100000 in
set_option maxHeartbeats 4000000 in
theorem t_L_31 {p : Program} {l : Launch} {e : Env} {s : State} {m : MethodId} {args : Array Value} {below : List Frame} {meth : Method} {c : Code} {Q : State → Prop} {D : va_G} {cy : Nat → ClassId} {A : Nat → Prop} {H : Heap} {locs : List Loc} {ls : Array Slot} {xs : Nat → Int32} (b q0 q1 q2 q4 q5 q6 q10 q3 q7 q8 q9 q11 q12 q13 q14 q15 q16 q17 m0 m1 m2 m3 m4 m5 m6 m7 m8 m9 m10 m11 m12 m13 m14 m15 m16 m17 o0 : Nat) (hst : l.stackTraces = false) (C : Cx p s m args c cL_law RL D cy A) (hml : c.maxLocals = 8) (hX : va_X b 6 xs s s.heap) (hbl : b < s.heap.size) (hbA : ¬ A b) (w : Wd D A s.heap [(q0, .inr (11, [.ref q1, .int 0, .int 0, .int (-1), .ref q2, .ref q4, .ref q5, .ref q6, .ref q10, .null])), (q1, .inl (cy 0, 900, .inl (fun _ => 0))), (q2, .inr (5, [.ref q3, .int 0, .int 0, .int 0, .int 0, .int 0, .int 0, .null])), (q3, .inl (cy 0, 0, .inl (fun _ => 0))), (q4, .inl (cy 4, 5, .inr (.inr (.inr (.inr (va_up (fun _ => none) 0 (some q10))))))), (q5, .inl (cy 4, 3, .inr (.inr (.inr (.inr (fun _ => none)))))), (q6, .inr (10, [.ref q7, .ref q8, .ref q9])), (q7, .inl (cy 1, 4, .inl (upd (upd (upd (upd (fun _ => 0) 0 (-1)) 1 (-1)) 2 (-1)) 3 (-1)))), (q8, .inl (cy 1, 4, .inl (fun _ => 0))), (q9, .inl (cy 2, 160, .inr (.inl (fun _ => 0)))), (q10, .inr (9, [.int 0, .int 2, .int 20, .int 120, .int 0, .int 0, .int 0, .int 0, .ref q11, .int 0, .ref q12, .ref q13, .int 0, .ref q14, .ref q15, .ref q16, .ref q17])), (q11, .inl (cy 1, 6, .inl (fun _ => 0))), (q12, .inl (cy 1, 20, .inl (fun _ => 0))), (q13, .inl (cy 1, 20, .inl (fun _ => 0))), (q14, .inl (cy 1, 300, .inl (fun _ => 0))), (q15, .inl (cy 1, 300, .inl (fun _ => 0))), (q16, .inl (cy 1, 300, .inl (fun _ => 0))), (q17, .inl (cy 1, 300, .inl (fun _ => 0))), (m0, .inr (12, [.ref m1, .ref m2, .ref m3, .ref m4, .ref m5, .int 0, .ref m6, .int 0, .int 0, .int 0, .int 0, .int 0, .int 0, .int 0, .int 0, .int 0, .int 0, .int (-1), .ref m7, .ref m8, .int 0, .ref m9, .int 0, .ref m10, .ref m11, .ref m12, .ref m13, .ref m14, .int 0, .ref m15, .ref m16, .ref m17])), (m2, .inl (cy 1, 1868, .inl (fun _ => 0))), (m3, .inl (cy 1, 1868, .inl (fun _ => 0))), (m4, .inl (cy 1, 5604, .inl (fun _ => 0))), (m5, .inl (cy 3, 3, .inl (fun _ => 0))), (m6, .inl (cy 1, 900, .inl (fun _ => 0))), (m7, .inl (cy 1, 1830, .inl (fun _ => 0))), (m8, .inl (cy 1, 1830, .inl (fun _ => 0))), (m9, .inl (cy 2, 2465, .inr (.inl (fun _ => 0)))), (m10, .inl (cy 1, 7201, .inl (fun _ => 0))), (m11, .inl (cy 1, 1830, .inl (fun _ => 0))), (m12, .inl (cy 1, 5, .inl (fun _ => 0))), (m13, .inl (cy 1, 6, .inl (fun _ => 0))), (m14, .inl (cy 1, 6, .inl (fun _ => 0))), (m15, .inl (cy 1, 4, .inl (upd (upd (upd (upd (fun _ => 0) 0 (-1)) 1 (-1)) 2 (-1)) 3 (-1)))), (m16, .inl (cy 1, 4, .inl (fun _ => 0))), (m17, .inl (cy 2, 160, .inr (.inl (fun _ => 0)))), (m1, .inl (cy 1, 1868, .inl (upd (upd (upd (fun _ => 0) 1 2) 2 20) 3 120))), (o0, .inl (cy 2, 1, .inr (.inl (fun _ => 0))))] H locs) (hl : lv_has ls 8 [(0, .ref b), (1, .ref q0), (2, .ref m0), (3, .ref o0), (4, .int 0)]) (kk : ∀ (H : Heap) (locs : List Loc) (ls : Array Slot), va_S A s.heap H locs → lv_has ls 8 [(0, .ref b), (4, .int 0)] → W p l e room_1 s m args below meth c H locs 600002 7302232 Q (F0 m 2461 ls [])) : W p l e room_1 s m args below meth c H locs 37 29845 Q (F0 m 2137 ls []) := by
  obtain ⟨y1, sx1⟩ : ∃ y, xs 1 = y := ⟨_, rfl⟩
  obtain ⟨y2, sx2⟩ : ∃ y, xs 2 = y := ⟨_, rfl⟩
  obtain ⟨y3, sx3⟩ : ∃ y, xs 3 = y := ⟨_, rfl⟩
  obtain ⟨y4, sx4⟩ : ∃ y, xs 4 = y := ⟨_, rfl⟩
  obtain ⟨y5, sx5⟩ : ∃ y, xs 5 = y := ⟨_, rfl⟩
  by_cases g1 : y1 < 0
  · exact s_L_31_0 b q0 q1 q2 q4 q5 q6 q10 m0 m1 m2 m3 m4 m5 m6 m7 m8 m9 m10 m11 m12 m13 m14 m15 m16 m17 o0 y1 y2 y3 g1 sx1 sx2 sx3 hst C hml hX hbl hbA (w.pick [0, 18] rfl rfl) hl kk
  · by_cases g2 : y1 < 4
    · by_cases g3 : y2 < 0
      · exact s_L_31_2 b q0 q1 q2 q4 q5 q6 q10 m0 m1 m2 m3 m4 m5 m6 m7 m8 m9 m10 m11 m12 m13 m14 m15 m16 m17 o0 y1 y2 y3 g1 g2 g3 sx1 sx2 sx3 hst C hml hX hbl hbA (w.pick [0, 18] rfl rfl) hl kk
      · by_cases g4 : 4 ≤ y2
        · exact s_L_31_3 b q0 q1 q2 q4 q5 q6 q10 m0 m1 m2 m3 m4 m5 m6 m7 m8 m9 m10 m11 m12 m13 m14 m15 m16 m17 o0 y1 y2 y3 g1 g2 g3 g4 sx1 sx2 sx3 hst C hml hX hbl hbA (w.pick [0, 18] rfl rfl) hl kk
        · by_cases g5 : y3 < 0
          · exact s_L_31_4 b q0 q1 q2 q4 q5 q6 q10 m0 m1 m2 m3 m4 m5 m6 m7 m8 m9 m10 m11 m12 m13 m14 m15 m16 m17 o0 y1 y2 y3 g1 g2 g3 g4 g5 sx1 sx2 sx3 hst C hml hX hbl hbA (w.pick [0, 18] rfl rfl) hl kk
          · by_cases g6 : y1 = 0
            · subst g6
              by_cases g7 : y3 ≤ 40
              · exact s_L_31_5 b q0 q1 q2 q4 q5 q6 q10 q7 q8 q9 m0 m1 m2 m3 m4 m5 m6 m7 m8 m9 m10 m11 m12 m13 m14 m15 m16 m17 o0 y2 y3 g3 g4 g5 g7 sx1 sx2 sx3 C hml hX hbl hbA (w.pick [0, 6, 7, 8, 9, 18, 32, 33, 34] rfl rfl) hl kk
              · exact s_L_31_9 b q0 q1 q2 q4 q5 q6 q10 m0 m1 m2 m3 m4 m5 m6 m7 m8 m9 m10 m11 m12 m13 m14 m15 m16 m17 o0 0 y2 y3 (by decide) (by decide) g3 g4 g5 g7 sx1 sx2 sx3 hst C hml hX hbl hbA (w.pick [0, 18] rfl rfl) hl kk
            · by_cases g8 : y1 = 3
              · subst g8
                by_cases g9 : y3 ≤ 40
                · exact s_L_31_6 b q0 q1 q2 q4 q5 q6 q10 q7 q8 q9 m0 m1 m2 m3 m4 m5 m6 m7 m8 m9 m10 m11 m12 m13 m14 m15 m16 m17 o0 y2 y3 g3 g4 g5 g9 sx1 sx2 sx3 C hml hX hbl hbA (w.pick [0, 6, 7, 8, 9, 18, 32, 33, 34] rfl rfl) hl kk
                · exact s_L_31_9 b q0 q1 q2 q4 q5 q6 q10 m0 m1 m2 m3 m4 m5 m6 m7 m8 m9 m10 m11 m12 m13 m14 m15 m16 m17 o0 3 y2 y3 (by decide) (by decide) g3 g4 g5 g9 sx1 sx2 sx3 hst C hml hX hbl hbA (w.pick [0, 18] rfl rfl) hl kk
              · by_cases g10 : y1 = 2
                · subst g10
                  by_cases g11 : y3 ≤ 40
                  · exact s_L_31_7 b q0 q1 q2 q4 q5 q6 q10 q7 q8 q9 m0 m1 m2 m3 m4 m5 m6 m7 m8 m9 m10 m11 m12 m13 m14 m15 m16 m17 o0 y2 y3 g3 g4 g5 g11 sx1 sx2 sx3 C hml hX hbl hbA (w.pick [0, 6, 7, 8, 9, 18, 32, 33, 34] rfl rfl) hl kk
                  · exact s_L_31_9 b q0 q1 q2 q4 q5 q6 q10 m0 m1 m2 m3 m4 m5 m6 m7 m8 m9 m10 m11 m12 m13 m14 m15 m16 m17 o0 2 y2 y3 (by decide) (by decide) g3 g4 g5 g11 sx1 sx2 sx3 hst C hml hX hbl hbA (w.pick [0, 18] rfl rfl) hl kk
                · by_cases g12 : y1 = 1
                  · subst g12
                    by_cases g13 : y3 ≤ 40
                    · exact s_L_31_8 b q0 q1 q2 q4 q5 q6 q10 q7 q8 q9 m0 m1 m2 m3 m4 m5 m6 m7 m8 m9 m10 m11 m12 m13 m14 m15 m16 m17 o0 y2 y3 g3 g4 g5 g13 sx1 sx2 sx3 C hml hX hbl hbA (w.pick [0, 6, 7, 8, 9, 18, 32, 33, 34] rfl rfl) hl kk
                    · exact s_L_31_9 b q0 q1 q2 q4 q5 q6 q10 m0 m1 m2 m3 m4 m5 m6 m7 m8 m9 m10 m11 m12 m13 m14 m15 m16 m17 o0 1 y2 y3 (by decide) (by decide) g3 g4 g5 g13 sx1 sx2 sx3 hst C hml hX hbl hbA (w.pick [0, 18] rfl rfl) hl kk
                  · exfalso
                    have h0 := i_nlt g1
                    have h1 := i_lt g2
                    have h2 := i_nlt g3
                    have h3 := i_nle g4
                    have h4 := i_nlt g5
                    have h5 := (not_congr (fa_eq _ _)).mp g6
                    have h6 := (not_congr (fa_eq _ _)).mp g8
                    have h7 := (not_congr (fa_eq _ _)).mp g10
                    have h8 := (not_congr (fa_eq _ _)).mp g12
                    have e0 : (0 : Int32).toInt = 0 := (by decide)
                    have e1 : (1 : Int32).toInt = 1 := (by decide)
                    have e2 : (2 : Int32).toInt = 2 := (by decide)
                    have e3 : (3 : Int32).toInt = 3 := (by decide)
                    have e4 : (4 : Int32).toInt = 4 := (by decide)
                    omega
    · exact s_L_31_1 b q0 q1 q2 q4 q5 q6 q10 m0 m1 m2 m3 m4 m5 m6 m7 m8 m9 m10 m11 m12 m13 m14 m15 m16 m17 o0 y1 y2 y3 g1 g2 sx1 sx2 sx3 hst C hml hX hbl hbA (w.pick [0, 18] rfl rfl) hl kk
