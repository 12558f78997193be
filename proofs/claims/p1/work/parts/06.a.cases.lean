section RowsL
variable {p : Program} {l : Launch} {e : Env} {R : Room} {s : State} {m : MethodId} {args : Array Value} {below : List Frame} {meth : Method} {c : Code} {cells slots : Nat} {Q : State → Prop} {D : va_G} {cy : Nat → ClassId} {A : Nat → Prop} {H : Heap} {locs : List Loc} {ls : Array Slot} {cc : ByteArray} {own : String} {ws : va_W} {pc : Nat} {rest : List Value}
theorem r_sld (C : Cx p s m args c cc own D cy A) (w : Wd D A s.heap ws H locs) {b L : Nat} {xs : Nat → Int32} (hX : va_X b L xs s s.heap) (hbl : b < s.heap.size) (hbA : ¬ A b) {i v : Int32} (hin : vp_in i L) (hv : xs i.toNatClampNeg = v) (hdg : decode cc pc = .ok (.iaload, 1))
    (kk : W p l e R s m args below meth c H locs cells slots Q (F0 m (pc + 1) ls (.int v :: rest))) : W p l e R s m args below meth c H locs cells slots Q (F0 m pc ls (.int i :: .ref b :: rest)) := by
  subst hv
  exact va_sld C.1 C.2.1 hX hbl hbA w.2.2 hin hdg kk
end RowsL
theorem dL_law_204 : decode cL_law 204 = .ok (.aload_n 1, 1) := by decide +kernel
theorem dL_law_205 : decode cL_law 205 = .ok (.aload_n 0, 1) := by decide +kernel
theorem dL_law_206 : decode cL_law 206 = .ok (.iload 4, 2) := by decide +kernel
theorem dL_law_208 : decode cL_law 208 = .ok (.iconst 1, 1) := by decide +kernel
theorem dL_law_209 : decode cL_law 209 = .ok (.iadd, 1) := by decide +kernel
theorem dL_law_210 : decode cL_law 210 = .ok (.iaload, 1) := by decide +kernel
theorem dL_law_211 : decode cL_law 211 = .ok (.aload_n 0, 1) := by decide +kernel
theorem dL_law_212 : decode cL_law 212 = .ok (.iload 4, 2) := by decide +kernel
theorem dL_law_214 : decode cL_law 214 = .ok (.iconst 2, 1) := by decide +kernel
theorem dL_law_215 : decode cL_law 215 = .ok (.iadd, 1) := by decide +kernel
theorem dL_law_216 : decode cL_law 216 = .ok (.iaload, 1) := by decide +kernel
theorem dL_law_217 : decode cL_law 217 = .ok (.aload_n 0, 1) := by decide +kernel
theorem dL_law_218 : decode cL_law 218 = .ok (.iload 4, 2) := by decide +kernel
theorem dL_law_220 : decode cL_law 220 = .ok (.iconst 3, 1) := by decide +kernel
theorem dL_law_221 : decode cL_law 221 = .ok (.iadd, 1) := by decide +kernel
theorem dL_law_222 : decode cL_law 222 = .ok (.iaload, 1) := by decide +kernel
theorem dL_law_223 : decode cL_law 223 = .ok (.aload_n 0, 1) := by decide +kernel
theorem dL_law_224 : decode cL_law 224 = .ok (.iload 4, 2) := by decide +kernel
theorem dL_law_226 : decode cL_law 226 = .ok (.iconst 4, 1) := by decide +kernel
theorem dL_law_227 : decode cL_law 227 = .ok (.iadd, 1) := by decide +kernel
theorem dL_law_228 : decode cL_law 228 = .ok (.iaload, 1) := by decide +kernel
theorem dL_law_229 : decode cL_law 229 = .ok (.aload_n 0, 1) := by decide +kernel
theorem dL_law_230 : decode cL_law 230 = .ok (.iload 4, 2) := by decide +kernel
theorem dL_law_232 : decode cL_law 232 = .ok (.iconst 5, 1) := by decide +kernel
theorem dL_law_233 : decode cL_law 233 = .ok (.iadd, 1) := by decide +kernel
theorem dL_law_234 : decode cL_law 234 = .ok (.iaload, 1) := by decide +kernel
theorem dL_law_235 : decode cL_law 235 = .ok (.invokevirtual 123, 3) := by decide +kernel
theorem fv_RL_123 : FV RL 123 yX11_feed cX11_feed 6 (some .int) 5 := ⟨⟨gw_mem (by decide +kernel) (by decide +kernel), gw_mem (by decide +kernel) (by decide +kernel), gw_mem (by decide +kernel) (by decide +kernel), gw_mem (by decide +kernel) (by decide +kernel), gw_mem (by decide +kernel) (by decide +kernel)⟩, ⟨by decide +kernel, by decide +kernel, by decide +kernel⟩⟩
theorem dL_law_238 : decode cL_law 238 = .ok (.aload_n 2, 1) := by decide +kernel
theorem dL_law_239 : decode cL_law 239 = .ok (.aload_n 0, 1) := by decide +kernel
theorem dL_law_240 : decode cL_law 240 = .ok (.iload 4, 2) := by decide +kernel
theorem dL_law_242 : decode cL_law 242 = .ok (.iconst 1, 1) := by decide +kernel
theorem dL_law_243 : decode cL_law 243 = .ok (.iadd, 1) := by decide +kernel
theorem dL_law_244 : decode cL_law 244 = .ok (.iaload, 1) := by decide +kernel
theorem dL_law_245 : decode cL_law 245 = .ok (.aload_n 0, 1) := by decide +kernel
theorem dL_law_246 : decode cL_law 246 = .ok (.iload 4, 2) := by decide +kernel
theorem dL_law_248 : decode cL_law 248 = .ok (.iconst 2, 1) := by decide +kernel
theorem dL_law_249 : decode cL_law 249 = .ok (.iadd, 1) := by decide +kernel
theorem dL_law_250 : decode cL_law 250 = .ok (.iaload, 1) := by decide +kernel
theorem dL_law_251 : decode cL_law 251 = .ok (.aload_n 0, 1) := by decide +kernel
theorem dL_law_252 : decode cL_law 252 = .ok (.iload 4, 2) := by decide +kernel
theorem dL_law_254 : decode cL_law 254 = .ok (.iconst 3, 1) := by decide +kernel
theorem dL_law_255 : decode cL_law 255 = .ok (.iadd, 1) := by decide +kernel
theorem dL_law_256 : decode cL_law 256 = .ok (.iaload, 1) := by decide +kernel
theorem dL_law_257 : decode cL_law 257 = .ok (.aload_n 0, 1) := by decide +kernel
theorem dL_law_258 : decode cL_law 258 = .ok (.iload 4, 2) := by decide +kernel
theorem dL_law_260 : decode cL_law 260 = .ok (.iconst 4, 1) := by decide +kernel
theorem dL_law_261 : decode cL_law 261 = .ok (.iadd, 1) := by decide +kernel
theorem dL_law_262 : decode cL_law 262 = .ok (.iaload, 1) := by decide +kernel
theorem dL_law_263 : decode cL_law 263 = .ok (.aload_n 0, 1) := by decide +kernel
theorem dL_law_264 : decode cL_law 264 = .ok (.iload 4, 2) := by decide +kernel
theorem dL_law_266 : decode cL_law 266 = .ok (.iconst 5, 1) := by decide +kernel
theorem dL_law_267 : decode cL_law 267 = .ok (.iadd, 1) := by decide +kernel
theorem dL_law_268 : decode cL_law 268 = .ok (.iaload, 1) := by decide +kernel
theorem dL_law_269 : decode cL_law 269 = .ok (.invokevirtual 127, 3) := by decide +kernel
theorem fv_RL_127 : FV RL 127 yX12_feed cX12_feed 8 (some .int) 5 := ⟨⟨gw_mem (by decide +kernel) (by decide +kernel), gw_mem (by decide +kernel) (by decide +kernel), gw_mem (by decide +kernel) (by decide +kernel), gw_mem (by decide +kernel) (by decide +kernel), gw_mem (by decide +kernel) (by decide +kernel)⟩, ⟨by decide +kernel, by decide +kernel, by decide +kernel⟩⟩
theorem dL_law_272 : decode cL_law 272 = .ok (.if_icmp .eq 2189, 3) := by decide +kernel
set_option maxRecDepth 100000 in
set_option maxHeartbeats 4000000 in
theorem s_L_0_0 {p : Program} {l : Launch} {e : Env} {s : State} {m : MethodId} {args : Array Value} {below : List Frame} {meth : Method} {c : Code} {Q : State → Prop} {D : va_G} {cy : Nat → ClassId} {A : Nat → Prop} {H : Heap} {locs : List Loc} {ls : Array Slot} {xs : Nat → Int32} (b q0 q1 q2 q4 q5 q6 q10 m0 m1 m2 m3 m4 m5 m6 m7 m8 m9 m10 m11 m12 m13 m14 m15 m16 m17 o0 : Nat) (y1 : Int32) (y2 : Int32) (y3 : Int32) (y4 : Int32) (y5 : Int32) (sx1 : xs 1 = y1) (sx2 : xs 2 = y2) (sx3 : xs 3 = y3) (sx4 : xs 4 = y4) (sx5 : xs 5 = y5) (C : Cx p s m args c cL_law RL D cy A) (hml : c.maxLocals = 8) (hX : va_X b 6 xs s s.heap) (hbl : b < s.heap.size) (hbA : ¬ A b) (w : Wd D A s.heap [(q0, .inr (11, [.ref q1, .int 0, .int 0, .int (-1), .ref q2, .ref q4, .ref q5, .ref q6, .ref q10, .null])), (q1, .inl (cy 0, 900, .inl (fun _ => 0))), (m0, .inr (12, [.ref m1, .ref m2, .ref m3, .ref m4, .ref m5, .int 0, .ref m6, .int 0, .int 0, .int 0, .int 0, .int 0, .int 0, .int 0, .int 0, .int 0, .int 0, .int (-1), .ref m7, .ref m8, .int 0, .ref m9, .int 0, .ref m10, .ref m11, .ref m12, .ref m13, .ref m14, .int 0, .ref m15, .ref m16, .ref m17])), (m6, .inl (cy 1, 900, .inl (fun _ => 0)))] H locs) (hl : lv_has ls 8 [(0, .ref b), (1, .ref q0), (2, .ref m0), (3, .ref o0), (4, .int 0)]) (kk : ∀ (H : Heap) (locs : List Loc) (ls : Array Slot), va_S A s.heap H locs → lv_has ls 8 [(0, .ref b), (4, .int 0)] → W p l e room_1 s m args below meth c H locs 600002 7302232 Q (F0 m 2461 ls [])) : W p l e room_1 s m args below meth c H locs 37 29845 Q (F0 m 204 ls []) := by
  refine lv_aload_n C.1 C.2.1 dL_law_204 rfl (lv_at hl 1 rfl) ?_
  refine lv_aload_n C.1 C.2.1 dL_law_205 rfl (lv_at hl 0 rfl) ?_
  refine lv_iload C.1 C.2.1 dL_law_206 (lv_at hl 4 rfl) ?_
  refine lv_iconst (v := 1) C.1 C.2.1 dL_law_208 (by decide) ?_
  refine r_iadd C (v := 1) dL_law_209 (by decide) ?_
  refine r_sld C w hX hbl hbA (v := y1) (vinD (by decide)) sx1 dL_law_210 ?_
  refine lv_aload_n C.1 C.2.1 dL_law_211 rfl (lv_at hl 0 rfl) ?_
  refine lv_iload C.1 C.2.1 dL_law_212 (lv_at hl 4 rfl) ?_
  refine lv_iconst (v := 2) C.1 C.2.1 dL_law_214 (by decide) ?_
  refine r_iadd C (v := 2) dL_law_215 (by decide) ?_
  refine r_sld C w hX hbl hbA (v := y2) (vinD (by decide)) sx2 dL_law_216 ?_
  refine lv_aload_n C.1 C.2.1 dL_law_217 rfl (lv_at hl 0 rfl) ?_
  refine lv_iload C.1 C.2.1 dL_law_218 (lv_at hl 4 rfl) ?_
  refine lv_iconst (v := 3) C.1 C.2.1 dL_law_220 (by decide) ?_
  refine r_iadd C (v := 3) dL_law_221 (by decide) ?_
  refine r_sld C w hX hbl hbA (v := y3) (vinD (by decide)) sx3 dL_law_222 ?_
  refine lv_aload_n C.1 C.2.1 dL_law_223 rfl (lv_at hl 0 rfl) ?_
  refine lv_iload C.1 C.2.1 dL_law_224 (lv_at hl 4 rfl) ?_
  refine lv_iconst (v := 4) C.1 C.2.1 dL_law_226 (by decide) ?_
  refine r_iadd C (v := 4) dL_law_227 (by decide) ?_
  refine r_sld C w hX hbl hbA (v := y4) (vinD (by decide)) sx4 dL_law_228 ?_
  refine lv_aload_n C.1 C.2.1 dL_law_229 rfl (lv_at hl 0 rfl) ?_
  refine lv_iload C.1 C.2.1 dL_law_230 (lv_at hl 4 rfl) ?_
  refine lv_iconst (v := 5) C.1 C.2.1 dL_law_232 (by decide) ?_
  refine r_iadd C (v := 5) dL_law_233 (by decide) ?_
  refine r_sld C w hX hbl hbA (v := y5) (vinD (by decide)) sx5 dL_law_234 ?_
  refine r_callV C w fv_RL_123 (c_X11_feed_0 l D cy q0 q1 q2 q4 q5 q6 q10 y1 y2 y3 y4 y5) (hl.1.trans hml.symm) [0, 1] [2, 3] (wr := [(m0, .inr (12, [.ref m1, .ref m2, .ref m3, .ref m4, .ref m5, .int 0, .ref m6, .int 0, .int 0, .int 0, .int 0, .int 0, .int 0, .int 0, .int 0, .int 0, .int 0, .int (-1), .ref m7, .ref m8, .int 0, .ref m9, .int 0, .ref m10, .ref m11, .ref m12, .ref m13, .ref m14, .int 0, .ref m15, .ref m16, .ref m17])), (m6, .inl (cy 1, 900, .inl (fun _ => 0)))]) ⟨rfl, rfl, rfl, rfl, by decide⟩ 0 rfl rfl rfl rfl rfl ⟨Nat.le_of_ble_eq_true rfl, Nat.le_of_ble_eq_true rfl, Nat.le_of_ble_eq_true rfl⟩ 37 29845 ⟨rfl, rfl, Nat.le_of_ble_eq_true rfl, Nat.le_of_ble_eq_true rfl⟩ dL_law_235 (fun u H locs hp w => ?_)
  have w : Wd D A s.heap [(m0, .inr (12, [.ref m1, .ref m2, .ref m3, .ref m4, .ref m5, .int 0, .ref m6, .int 0, .int 0, .int 0, .int 0, .int 0, .int 0, .int 0, .int 0, .int 0, .int 0, .int (-1), .ref m7, .ref m8, .int 0, .ref m9, .int 0, .ref m10, .ref m11, .ref m12, .ref m13, .ref m14, .int 0, .ref m15, .ref m16, .ref m17])), (m6, .inl (cy 1, 900, .inl (fun _ => 0)))] _ _ := w.pick [0, 1] rfl rfl
  refine r_top (g2 := F0 m 238 ls [.int 20]) rfl ?_
  refine lv_aload_n C.1 C.2.1 dL_law_238 rfl (lv_at hl 2 rfl) ?_
  refine lv_aload_n C.1 C.2.1 dL_law_239 rfl (lv_at hl 0 rfl) ?_
  refine lv_iload C.1 C.2.1 dL_law_240 (lv_at hl 4 rfl) ?_
  refine lv_iconst (v := 1) C.1 C.2.1 dL_law_242 (by decide) ?_
  refine r_iadd C (v := 1) dL_law_243 (by decide) ?_
  refine r_sld C w hX hbl hbA (v := y1) (vinD (by decide)) sx1 dL_law_244 ?_
  refine lv_aload_n C.1 C.2.1 dL_law_245 rfl (lv_at hl 0 rfl) ?_
  refine lv_iload C.1 C.2.1 dL_law_246 (lv_at hl 4 rfl) ?_
  refine lv_iconst (v := 2) C.1 C.2.1 dL_law_248 (by decide) ?_
  refine r_iadd C (v := 2) dL_law_249 (by decide) ?_
  refine r_sld C w hX hbl hbA (v := y2) (vinD (by decide)) sx2 dL_law_250 ?_
  refine lv_aload_n C.1 C.2.1 dL_law_251 rfl (lv_at hl 0 rfl) ?_
  refine lv_iload C.1 C.2.1 dL_law_252 (lv_at hl 4 rfl) ?_
  refine lv_iconst (v := 3) C.1 C.2.1 dL_law_254 (by decide) ?_
  refine r_iadd C (v := 3) dL_law_255 (by decide) ?_
  refine r_sld C w hX hbl hbA (v := y3) (vinD (by decide)) sx3 dL_law_256 ?_
  refine lv_aload_n C.1 C.2.1 dL_law_257 rfl (lv_at hl 0 rfl) ?_
  refine lv_iload C.1 C.2.1 dL_law_258 (lv_at hl 4 rfl) ?_
  refine lv_iconst (v := 4) C.1 C.2.1 dL_law_260 (by decide) ?_
  refine r_iadd C (v := 4) dL_law_261 (by decide) ?_
  refine r_sld C w hX hbl hbA (v := y4) (vinD (by decide)) sx4 dL_law_262 ?_
  refine lv_aload_n C.1 C.2.1 dL_law_263 rfl (lv_at hl 0 rfl) ?_
  refine lv_iload C.1 C.2.1 dL_law_264 (lv_at hl 4 rfl) ?_
  refine lv_iconst (v := 5) C.1 C.2.1 dL_law_266 (by decide) ?_
  refine r_iadd C (v := 5) dL_law_267 (by decide) ?_
  refine r_sld C w hX hbl hbA (v := y5) (vinD (by decide)) sx5 dL_law_268 ?_
  refine r_callV C w fv_RL_127 (c_X12_feed_0 l D cy m0 m1 m2 m3 m4 m5 m6 m7 m8 m9 m10 m11 m12 m13 m14 m15 m16 m17 y1 y2 y3 y4 y5) (hl.1.trans hml.symm) [0, 1] [] (wr := []) ⟨rfl, rfl, rfl, rfl, by decide⟩ 0 rfl rfl rfl rfl rfl ⟨Nat.le_of_ble_eq_true rfl, Nat.le_of_ble_eq_true rfl, Nat.le_of_ble_eq_true rfl⟩ 37 29845 ⟨rfl, rfl, Nat.le_of_ble_eq_true rfl, Nat.le_of_ble_eq_true rfl⟩ dL_law_269 (fun u H locs hp w => ?_)
  have w : Wd D A s.heap [(m0, .inr (12, [.ref m1, .ref m2, .ref m3, .ref m4, .ref m5, .int 0, .ref m6, .int 20, .int 0, .int 0, .int 0, .int 0, .int 0, .int 0, .int 0, .int 0, .int 0, .int (-1), .ref m7, .ref m8, .int 0, .ref m9, .int 0, .ref m10, .ref m11, .ref m12, .ref m13, .ref m14, .int 0, .ref m15, .ref m16, .ref m17]))] _ _ := w.pick [0] rfl rfl
  refine r_top (g2 := F0 m 272 ls [.int 20, .int 20]) rfl ?_
  refine b_icmp_eq_t C (tgt := 2461) dL_law_272 (by decide) (by decide) ?_
  refine W.widen (k := 600002) (n := 7302232) (Nat.le_of_ble_eq_true rfl) (Nat.le_of_ble_eq_true rfl) ?_
  exact kk _ _ _ w.2.2 (lv_sub hl [0, 4] rfl)
set_option maxRecDepth 100000 in
set_option maxHeartbeats 4000000 in
theorem t_L_0 {p : Program} {l : Launch} {e : Env} {s : State} {m : MethodId} {args : Array Value} {below : List Frame} {meth : Method} {c : Code} {Q : State → Prop} {D : va_G} {cy : Nat → ClassId} {A : Nat → Prop} {H : Heap} {locs : List Loc} {ls : Array Slot} {xs : Nat → Int32} (b q0 q1 q2 q4 q5 q6 q10 q3 q7 q8 q9 q11 q12 q13 q14 q15 q16 q17 m0 m1 m2 m3 m4 m5 m6 m7 m8 m9 m10 m11 m12 m13 m14 m15 m16 m17 o0 : Nat) (hst : l.stackTraces = false) (C : Cx p s m args c cL_law RL D cy A) (hml : c.maxLocals = 8) (hX : va_X b 6 xs s s.heap) (hbl : b < s.heap.size) (hbA : ¬ A b) (w : Wd D A s.heap [(q0, .inr (11, [.ref q1, .int 0, .int 0, .int (-1), .ref q2, .ref q4, .ref q5, .ref q6, .ref q10, .null])), (q1, .inl (cy 0, 900, .inl (fun _ => 0))), (q2, .inr (5, [.ref q3, .int 0, .int 0, .int 0, .int 0, .int 0, .int 0, .null])), (q3, .inl (cy 0, 0, .inl (fun _ => 0))), (q4, .inl (cy 4, 5, .inr (.inr (.inr (.inr (va_up (fun _ => none) 0 (some q10))))))), (q5, .inl (cy 4, 3, .inr (.inr (.inr (.inr (fun _ => none)))))), (q6, .inr (10, [.ref q7, .ref q8, .ref q9])), (q7, .inl (cy 1, 4, .inl (upd (upd (upd (upd (fun _ => 0) 0 (-1)) 1 (-1)) 2 (-1)) 3 (-1)))), (q8, .inl (cy 1, 4, .inl (fun _ => 0))), (q9, .inl (cy 2, 160, .inr (.inl (fun _ => 0)))), (q10, .inr (9, [.int 0, .int 2, .int 20, .int 120, .int 0, .int 0, .int 0, .int 0, .ref q11, .int 0, .ref q12, .ref q13, .int 0, .ref q14, .ref q15, .ref q16, .ref q17])), (q11, .inl (cy 1, 6, .inl (fun _ => 0))), (q12, .inl (cy 1, 20, .inl (fun _ => 0))), (q13, .inl (cy 1, 20, .inl (fun _ => 0))), (q14, .inl (cy 1, 300, .inl (fun _ => 0))), (q15, .inl (cy 1, 300, .inl (fun _ => 0))), (q16, .inl (cy 1, 300, .inl (fun _ => 0))), (q17, .inl (cy 1, 300, .inl (fun _ => 0))), (m0, .inr (12, [.ref m1, .ref m2, .ref m3, .ref m4, .ref m5, .int 0, .ref m6, .int 0, .int 0, .int 0, .int 0, .int 0, .int 0, .int 0, .int 0, .int 0, .int 0, .int (-1), .ref m7, .ref m8, .int 0, .ref m9, .int 0, .ref m10, .ref m11, .ref m12, .ref m13, .ref m14, .int 0, .ref m15, .ref m16, .ref m17])), (m2, .inl (cy 1, 1868, .inl (fun _ => 0))), (m3, .inl (cy 1, 1868, .inl (fun _ => 0))), (m4, .inl (cy 1, 5604, .inl (fun _ => 0))), (m5, .inl (cy 3, 3, .inl (fun _ => 0))), (m6, .inl (cy 1, 900, .inl (fun _ => 0))), (m7, .inl (cy 1, 1830, .inl (fun _ => 0))), (m8, .inl (cy 1, 1830, .inl (fun _ => 0))), (m9, .inl (cy 2, 2465, .inr (.inl (fun _ => 0)))), (m10, .inl (cy 1, 7201, .inl (fun _ => 0))), (m11, .inl (cy 1, 1830, .inl (fun _ => 0))), (m12, .inl (cy 1, 5, .inl (fun _ => 0))), (m13, .inl (cy 1, 6, .inl (fun _ => 0))), (m14, .inl (cy 1, 6, .inl (fun _ => 0))), (m15, .inl (cy 1, 4, .inl (upd (upd (upd (upd (fun _ => 0) 0 (-1)) 1 (-1)) 2 (-1)) 3 (-1)))), (m16, .inl (cy 1, 4, .inl (fun _ => 0))), (m17, .inl (cy 2, 160, .inr (.inl (fun _ => 0)))), (m1, .inl (cy 1, 1868, .inl (upd (upd (upd (fun _ => 0) 1 2) 2 20) 3 120))), (o0, .inl (cy 2, 1, .inr (.inl (fun _ => 0))))] H locs) (hl : lv_has ls 8 [(0, .ref b), (1, .ref q0), (2, .ref m0), (3, .ref o0), (4, .int 0)]) (kk : ∀ (H : Heap) (locs : List Loc) (ls : Array Slot), va_S A s.heap H locs → lv_has ls 8 [(0, .ref b), (4, .int 0)] → W p l e room_1 s m args below meth c H locs 600002 7302232 Q (F0 m 2461 ls [])) : W p l e room_1 s m args below meth c H locs 37 29845 Q (F0 m 204 ls []) := by
  obtain ⟨y1, sx1⟩ : ∃ y, xs 1 = y := ⟨_, rfl⟩
  obtain ⟨y2, sx2⟩ : ∃ y, xs 2 = y := ⟨_, rfl⟩
  obtain ⟨y3, sx3⟩ : ∃ y, xs 3 = y := ⟨_, rfl⟩
  obtain ⟨y4, sx4⟩ : ∃ y, xs 4 = y := ⟨_, rfl⟩
  obtain ⟨y5, sx5⟩ : ∃ y, xs 5 = y := ⟨_, rfl⟩
  exact s_L_0_0 b q0 q1 q2 q4 q5 q6 q10 m0 m1 m2 m3 m4 m5 m6 m7 m8 m9 m10 m11 m12 m13 m14 m15 m16 m17 o0 y1 y2 y3 y4 y5 sx1 sx2 sx3 sx4 sx5 C hml hX hbl hbA (w.pick [0, 1, 18, 23] rfl rfl) hl kk
theorem dL_law_277 : decode cL_law 277 = .ok (.aload_n 1, 1) := by decide +kernel
theorem dL_law_278 : decode cL_law 278 = .ok (.aload_n 0, 1) := by decide +kernel
theorem dL_law_279 : decode cL_law 279 = .ok (.iload 4, 2) := by decide +kernel
theorem dL_law_281 : decode cL_law 281 = .ok (.iconst 1, 1) := by decide +kernel
theorem dL_law_282 : decode cL_law 282 = .ok (.iadd, 1) := by decide +kernel
theorem dL_law_283 : decode cL_law 283 = .ok (.iaload, 1) := by decide +kernel
theorem dL_law_284 : decode cL_law 284 = .ok (.aload_n 3, 1) := by decide +kernel
theorem dL_law_285 : decode cL_law 285 = .ok (.invokestatic 128, 3) := by decide +kernel
theorem fh_RL_128 : FH RL 128 yL_talk cL_talk 4 (some .int) [(0, 9, 12, 13)] 3 := ⟨⟨gw_mem (by decide +kernel) (by decide +kernel), gw_mem (by decide +kernel) (by decide +kernel), gw_mem (by decide +kernel) (by decide +kernel), gw_mem (by decide +kernel) (by decide +kernel)⟩, ⟨by decide +kernel, by decide +kernel, by decide +kernel⟩⟩
theorem dL_law_288 : decode cL_law 288 = .ok (.istore 5, 2) := by decide +kernel
theorem dL_law_290 : decode cL_law 290 = .ok (.aload_n 2, 1) := by decide +kernel
theorem dL_law_291 : decode cL_law 291 = .ok (.aload_n 0, 1) := by decide +kernel
theorem dL_law_292 : decode cL_law 292 = .ok (.iload 4, 2) := by decide +kernel
theorem dL_law_294 : decode cL_law 294 = .ok (.iconst 1, 1) := by decide +kernel
theorem dL_law_295 : decode cL_law 295 = .ok (.iadd, 1) := by decide +kernel
theorem dL_law_296 : decode cL_law 296 = .ok (.iaload, 1) := by decide +kernel
theorem dL_law_297 : decode cL_law 297 = .ok (.invokevirtual 133, 3) := by decide +kernel
theorem fv_RL_133 : FV RL 133 yX12_talk cX12_talk 2 (some .int) 1 := ⟨⟨gw_mem (by decide +kernel) (by decide +kernel), gw_mem (by decide +kernel) (by decide +kernel), gw_mem (by decide +kernel) (by decide +kernel), gw_mem (by decide +kernel) (by decide +kernel), gw_mem (by decide +kernel) (by decide +kernel)⟩, ⟨by decide +kernel, by decide +kernel, by decide +kernel⟩⟩
theorem dL_law_300 : decode cL_law 300 = .ok (.istore 6, 2) := by decide +kernel
theorem dL_law_302 : decode cL_law 302 = .ok (.aload_n 2, 1) := by decide +kernel
theorem dL_law_303 : decode cL_law 303 = .ok (.invokevirtual 134, 3) := by decide +kernel
theorem dX12_thrown_0 : decode cX12_thrown 0 = .ok (.aload_n 0, 1) := by decide +kernel
theorem dX12_thrown_1 : decode cX12_thrown 1 = .ok (.getfield 71, 3) := by decide +kernel
theorem dX12_thrown_4 : decode cX12_thrown 4 = .ok (.ireturn, 1) := by decide +kernel
set_option maxRecDepth 100000 in
set_option maxHeartbeats 4000000 in
theorem c_X12_thrown_0 (l : Launch) (D : va_G) (cy : Nat → ClassId) (a0 a1 a2 a3 a4 a5 a6 a7 a8 a9 a10 a11 a12 a13 a14 a15 a16 a17 : Nat) : Ct l D cy yX12_thrown cX12_thrown 1 (some .int) 0 0 0 0 [(a0, .inr (12, [.ref a1, .ref a2, .ref a3, .ref a4, .ref a5, .int 1, .ref a6, .int 0, .int 0, .int 0, .int 0, .int 0, .int 0, .int 0, .int 0, .int 0, .int 0, .int (-1), .ref a7, .ref a8, .int 0, .ref a9, .int 0, .ref a10, .ref a11, .ref a12, .ref a13, .ref a14, .int 0, .ref a15, .ref a16, .ref a17]))] [.ref a0] (fun u : Unit => some (.int 1)) (fun _ => True) (fun u : Unit => [(a0, .inr (12, [.ref a1, .ref a2, .ref a3, .ref a4, .ref a5, .int 1, .ref a6, .int 0, .int 0, .int 0, .int 0, .int 0, .int 0, .int 0, .int 0, .int 0, .int 0, .int (-1), .ref a7, .ref a8, .int 0, .ref a9, .int 0, .ref a10, .ref a11, .ref a12, .ref a13, .ref a14, .int 0, .ref a15, .ref a16, .ref a17]))]) := by
  refine Ct.of (by decide +kernel) (Nat.le_of_ble_eq_true rfl) ?_
  intro p e s m args below meth c A ls C hr hlocks hml hnm w hl
  have hl : lv_has ls 1 [(0, .ref a0)] := hl
  refine lv_aload_n C.1 C.2.1 dX12_thrown_0 rfl (lv_at hl 0 rfl) ?_
  refine r_get C w 0 rfl rfl 5 (by decide) fl_RX12_71 (v := .int 1) rfl dX12_thrown_1 ?_
  exact r_iret C w hlocks () hr rfl rfl trivial [0] rfl rfl ⟨Nat.le_of_ble_eq_true rfl, Nat.le_of_ble_eq_true rfl⟩ dX12_thrown_4
theorem fv_RL_134 : FV RL 134 yX12_thrown cX12_thrown 1 (some .int) 0 := ⟨⟨gw_mem (by decide +kernel) (by decide +kernel), gw_mem (by decide +kernel) (by decide +kernel), gw_mem (by decide +kernel) (by decide +kernel), gw_mem (by decide +kernel) (by decide +kernel), gw_mem (by decide +kernel) (by decide +kernel)⟩, ⟨by decide +kernel, by decide +kernel, by decide +kernel⟩⟩
theorem dL_law_306 : decode cL_law 306 = .ok (.iload 5, 2) := by decide +kernel
theorem dL_law_308 : decode cL_law 308 = .ok (.if_icmp .eq 5, 3) := by decide +kernel
theorem dL_law_313 : decode cL_law 313 = .ok (.iload 5, 2) := by decide +kernel
theorem dL_law_315 : decode cL_law 315 = .ok (.ifCond .ne 15, 3) := by decide +kernel
theorem dL_law_330 : decode cL_law 330 = .ok (.goto 2131, 3) := by decide +kernel
set_option maxRecDepth 100000 in
set_option maxHeartbeats 4000000 in
theorem s_L_1_0 {p : Program} {l : Launch} {e : Env} {s : State} {m : MethodId} {args : Array Value} {below : List Frame} {meth : Method} {c : Code} {Q : State → Prop} {D : va_G} {cy : Nat → ClassId} {A : Nat → Prop} {H : Heap} {locs : List Loc} {ls : Array Slot} {xs : Nat → Int32} (b q0 q1 q2 q4 q5 q6 q10 m0 m1 m2 m3 m4 m5 m6 m7 m8 m9 m10 m11 m12 m13 m14 m15 m16 m17 o0 : Nat) (y1 : Int32) (k0 : y1 < 0) (sx1 : xs 1 = y1) (hst : l.stackTraces = false) (C : Cx p s m args c cL_law RL D cy A) (hml : c.maxLocals = 8) (hX : va_X b 6 xs s s.heap) (hbl : b < s.heap.size) (hbA : ¬ A b) (w : Wd D A s.heap [(q0, .inr (11, [.ref q1, .int 0, .int 0, .int (-1), .ref q2, .ref q4, .ref q5, .ref q6, .ref q10, .null])), (m0, .inr (12, [.ref m1, .ref m2, .ref m3, .ref m4, .ref m5, .int 0, .ref m6, .int 0, .int 0, .int 0, .int 0, .int 0, .int 0, .int 0, .int 0, .int 0, .int 0, .int (-1), .ref m7, .ref m8, .int 0, .ref m9, .int 0, .ref m10, .ref m11, .ref m12, .ref m13, .ref m14, .int 0, .ref m15, .ref m16, .ref m17]))] H locs) (hl : lv_has ls 8 [(0, .ref b), (1, .ref q0), (2, .ref m0), (3, .ref o0), (4, .int 0)]) (kk : ∀ (H : Heap) (locs : List Loc) (ls : Array Slot), va_S A s.heap H locs → lv_has ls 8 [(0, .ref b), (4, .int 0)] → W p l e room_1 s m args below meth c H locs 600002 7302232 Q (F0 m 2461 ls [])) : W p l e room_1 s m args below meth c H locs 37 29845 Q (F0 m 277 ls []) := by
  refine lv_aload_n C.1 C.2.1 dL_law_277 rfl (lv_at hl 1 rfl) ?_
  refine lv_aload_n C.1 C.2.1 dL_law_278 rfl (lv_at hl 0 rfl) ?_
  refine lv_iload C.1 C.2.1 dL_law_279 (lv_at hl 4 rfl) ?_
  refine lv_iconst (v := 1) C.1 C.2.1 dL_law_281 (by decide) ?_
  refine r_iadd C (v := 1) dL_law_282 (by decide) ?_
  refine r_sld C w hX hbl hbA (v := y1) (vinD (by decide)) sx1 dL_law_283 ?_
  refine lv_aload_n C.1 C.2.1 dL_law_284 rfl (lv_at hl 3 rfl) ?_
  refine r_callH C w fh_RL_128 (c_L_talk_0 l D cy q0 o0 q1 q2 q4 q5 q6 q10 y1 k0 hst) (hl.1.trans hml.symm) [0] [1] (wr := [(m0, .inr (12, [.ref m1, .ref m2, .ref m3, .ref m4, .ref m5, .int 0, .ref m6, .int 0, .int 0, .int 0, .int 0, .int 0, .int 0, .int 0, .int 0, .int 0, .int 0, .int (-1), .ref m7, .ref m8, .int 0, .ref m9, .int 0, .ref m10, .ref m11, .ref m12, .ref m13, .ref m14, .int 0, .ref m15, .ref m16, .ref m17]))]) ⟨rfl, rfl, rfl, rfl, by decide⟩ rfl rfl ⟨Nat.le_of_ble_eq_true rfl, Nat.le_of_ble_eq_true rfl, Nat.le_of_ble_eq_true rfl⟩ 38 29851 ⟨rfl, rfl, Nat.le_of_ble_eq_true rfl, Nat.le_of_ble_eq_true rfl⟩ dL_law_285 (fun u H locs hp w => ?_)
  have w : Wd D A s.heap [(m0, .inr (12, [.ref m1, .ref m2, .ref m3, .ref m4, .ref m5, .int 0, .ref m6, .int 0, .int 0, .int 0, .int 0, .int 0, .int 0, .int 0, .int 0, .int 0, .int 0, .int (-1), .ref m7, .ref m8, .int 0, .ref m9, .int 0, .ref m10, .ref m11, .ref m12, .ref m13, .ref m14, .int 0, .ref m15, .ref m16, .ref m17]))] _ _ := w.pick [0] rfl rfl
  refine r_top (g2 := F0 m 288 ls [.int 1]) rfl ?_
  refine lv_istore (lv' := [(5, .int 1), (0, .ref b), (1, .ref q0), (2, .ref m0), (3, .ref o0), (4, .int 0)]) C.1 C.2.1 dL_law_288 hl (by decide) rfl (fun ls hl => ?_)
  refine lv_aload_n C.1 C.2.1 dL_law_290 rfl (lv_at hl 3 rfl) ?_
  refine lv_aload_n C.1 C.2.1 dL_law_291 rfl (lv_at hl 1 rfl) ?_
  refine lv_iload C.1 C.2.1 dL_law_292 (lv_at hl 5 rfl) ?_
  refine lv_iconst (v := 1) C.1 C.2.1 dL_law_294 (by decide) ?_
  refine r_iadd C (v := 1) dL_law_295 (by decide) ?_
  refine r_sld C w hX hbl hbA (v := y1) (vinD (by decide)) sx1 dL_law_296 ?_
  refine r_callV C w fv_RL_133 (c_X12_talk_0 l D cy m0 m1 m2 m3 m4 m5 m6 m7 m8 m9 m10 m11 m12 m13 m14 m15 m16 m17 y1 k0) (hl.1.trans hml.symm) [0] [] (wr := []) ⟨rfl, rfl, rfl, rfl, by decide⟩ 0 rfl rfl rfl rfl rfl ⟨Nat.le_of_ble_eq_true rfl, Nat.le_of_ble_eq_true rfl, Nat.le_of_ble_eq_true rfl⟩ 38 29851 ⟨rfl, rfl, Nat.le_of_ble_eq_true rfl, Nat.le_of_ble_eq_true rfl⟩ dL_law_297 (fun u H locs hp w => ?_)
  have w : Wd D A s.heap [(m0, .inr (12, [.ref m1, .ref m2, .ref m3, .ref m4, .ref m5, .int 1, .ref m6, .int 0, .int 0, .int 0, .int 0, .int 0, .int 0, .int 0, .int 0, .int 0, .int 0, .int (-1), .ref m7, .ref m8, .int 0, .ref m9, .int 0, .ref m10, .ref m11, .ref m12, .ref m13, .ref m14, .int 0, .ref m15, .ref m16, .ref m17]))] _ _ := w.pick [0] rfl rfl
  refine r_top (g2 := F0 m 300 ls [.int 0]) rfl ?_
  refine lv_istore (lv' := [(6, .int 0), (5, .int 1), (0, .ref b), (1, .ref q0), (2, .ref m0), (3, .ref o0), (4, .int 0)]) C.1 C.2.1 dL_law_300 hl (by decide) rfl (fun ls hl => ?_)
  refine lv_aload_n C.1 C.2.1 dL_law_302 rfl (lv_at hl 4 rfl) ?_
  refine r_callV C w fv_RL_134 (c_X12_thrown_0 l D cy m0 m1 m2 m3 m4 m5 m6 m7 m8 m9 m10 m11 m12 m13 m14 m15 m16 m17) (hl.1.trans hml.symm) [0] [] (wr := []) ⟨rfl, rfl, rfl, rfl, by decide⟩ 0 rfl rfl rfl rfl rfl ⟨Nat.le_of_ble_eq_true rfl, Nat.le_of_ble_eq_true rfl, Nat.le_of_ble_eq_true rfl⟩ 38 29851 ⟨rfl, rfl, Nat.le_of_ble_eq_true rfl, Nat.le_of_ble_eq_true rfl⟩ dL_law_303 (fun u H locs hp w => ?_)
  have w : Wd D A s.heap [(m0, .inr (12, [.ref m1, .ref m2, .ref m3, .ref m4, .ref m5, .int 1, .ref m6, .int 0, .int 0, .int 0, .int 0, .int 0, .int 0, .int 0, .int 0, .int 0, .int 0, .int (-1), .ref m7, .ref m8, .int 0, .ref m9, .int 0, .ref m10, .ref m11, .ref m12, .ref m13, .ref m14, .int 0, .ref m15, .ref m16, .ref m17]))] _ _ := w.pick [0] rfl rfl
  refine r_top (g2 := F0 m 306 ls [.int 1]) rfl ?_
  refine lv_iload C.1 C.2.1 dL_law_306 (lv_at hl 1 rfl) ?_
  refine b_icmp_eq_t C (tgt := 313) dL_law_308 (by decide) (by decide) ?_
  refine lv_iload C.1 C.2.1 dL_law_313 (lv_at hl 1 rfl) ?_
  refine b_if_ne_t C (tgt := 330) dL_law_315 (by decide) (by decide) ?_
  refine lv_goto (tgt := 2461) C.1 C.2.1 dL_law_330 (by decide) ?_
  refine W.widen (k := 600002) (n := 7302232) (Nat.le_of_ble_eq_true rfl) (Nat.le_of_ble_eq_true rfl) ?_
  exact kk _ _ _ w.2.2 (lv_sub hl [2, 6] rfl)
set_option maxRecDepth 100000 in
set_option maxHeartbeats 4000000 in
theorem c_X12_thrown_1 (l : Launch) (D : va_G) (cy : Nat → ClassId) (a0 a1 a2 a3 a4 a5 a6 a7 a8 a9 a10 a11 a12 a13 a14 a15 a16 a17 : Nat) : Ct l D cy yX12_thrown cX12_thrown 1 (some .int) 0 0 0 0 [(a0, .inr (12, [.ref a1, .ref a2, .ref a3, .ref a4, .ref a5, .int 0, .ref a6, .int 0, .int 0, .int 0, .int 0, .int 0, .int 0, .int 0, .int 0, .int 0, .int 0, .int (-1), .ref a7, .ref a8, .int 0, .ref a9, .int 0, .ref a10, .ref a11, .ref a12, .ref a13, .ref a14, .int 0, .ref a15, .ref a16, .ref a17]))] [.ref a0] (fun u : Unit => some (.int 0)) (fun _ => True) (fun u : Unit => [(a0, .inr (12, [.ref a1, .ref a2, .ref a3, .ref a4, .ref a5, .int 0, .ref a6, .int 0, .int 0, .int 0, .int 0, .int 0, .int 0, .int 0, .int 0, .int 0, .int 0, .int (-1), .ref a7, .ref a8, .int 0, .ref a9, .int 0, .ref a10, .ref a11, .ref a12, .ref a13, .ref a14, .int 0, .ref a15, .ref a16, .ref a17]))]) := by
  refine Ct.of (by decide +kernel) (Nat.le_of_ble_eq_true rfl) ?_
  intro p e s m args below meth c A ls C hr hlocks hml hnm w hl
  have hl : lv_has ls 1 [(0, .ref a0)] := hl
  refine lv_aload_n C.1 C.2.1 dX12_thrown_0 rfl (lv_at hl 0 rfl) ?_
  refine r_get C w 0 rfl rfl 5 (by decide) fl_RX12_71 (v := .int 0) rfl dX12_thrown_1 ?_
  exact r_iret C w hlocks () hr rfl rfl trivial [0] rfl rfl ⟨Nat.le_of_ble_eq_true rfl, Nat.le_of_ble_eq_true rfl⟩ dX12_thrown_4
theorem dL_law_318 : decode cL_law 318 = .ok (.aload_n 3, 1) := by decide +kernel
theorem dL_law_319 : decode cL_law 319 = .ok (.iconst 0, 1) := by decide +kernel
theorem dL_law_320 : decode cL_law 320 = .ok (.laload, 1) := by decide +kernel
theorem dL_law_321 : decode cL_law 321 = .ok (.iload 6, 2) := by decide +kernel
theorem dL_law_323 : decode cL_law 323 = .ok (.i2l, 1) := by decide +kernel
theorem dL_law_324 : decode cL_law 324 = .ok (.lcmp, 1) := by decide +kernel
theorem dL_law_325 : decode cL_law 325 = .ok (.ifCond .eq 5, 3) := by decide +kernel
set_option maxRecDepth 100000 in
set_option maxHeartbeats 4000000 in
theorem s_L_1_1 {p : Program} {l : Launch} {e : Env} {s : State} {m : MethodId} {args : Array Value} {below : List Frame} {meth : Method} {c : Code} {Q : State → Prop} {D : va_G} {cy : Nat → ClassId} {A : Nat → Prop} {H : Heap} {locs : List Loc} {ls : Array Slot} {xs : Nat → Int32} (b q0 q1 q2 q4 q5 q6 q10 q3 q11 q12 q13 q14 q15 q16 q17 m0 m1 m2 m3 m4 m5 m6 m7 m8 m9 m10 m11 m12 m13 m14 m15 m16 m17 o0 : Nat) (sx1 : xs 1 = 0) (C : Cx p s m args c cL_law RL D cy A) (hml : c.maxLocals = 8) (hX : va_X b 6 xs s s.heap) (hbl : b < s.heap.size) (hbA : ¬ A b) (w : Wd D A s.heap [(q0, .inr (11, [.ref q1, .int 0, .int 0, .int (-1), .ref q2, .ref q4, .ref q5, .ref q6, .ref q10, .null])), (q1, .inl (cy 0, 900, .inl (fun _ => 0))), (q2, .inr (5, [.ref q3, .int 0, .int 0, .int 0, .int 0, .int 0, .int 0, .null])), (q4, .inl (cy 4, 5, .inr (.inr (.inr (.inr (va_up (fun _ => none) 0 (some q10))))))), (q5, .inl (cy 4, 3, .inr (.inr (.inr (.inr (fun _ => none)))))), (q10, .inr (9, [.int 0, .int 2, .int 20, .int 120, .int 0, .int 0, .int 0, .int 0, .ref q11, .int 0, .ref q12, .ref q13, .int 0, .ref q14, .ref q15, .ref q16, .ref q17])), (m0, .inr (12, [.ref m1, .ref m2, .ref m3, .ref m4, .ref m5, .int 0, .ref m6, .int 0, .int 0, .int 0, .int 0, .int 0, .int 0, .int 0, .int 0, .int 0, .int 0, .int (-1), .ref m7, .ref m8, .int 0, .ref m9, .int 0, .ref m10, .ref m11, .ref m12, .ref m13, .ref m14, .int 0, .ref m15, .ref m16, .ref m17])), (m2, .inl (cy 1, 1868, .inl (fun _ => 0))), (m1, .inl (cy 1, 1868, .inl (upd (upd (upd (fun _ => 0) 1 2) 2 20) 3 120))), (o0, .inl (cy 2, 1, .inr (.inl (fun _ => 0))))] H locs) (hl : lv_has ls 8 [(0, .ref b), (1, .ref q0), (2, .ref m0), (3, .ref o0), (4, .int 0)]) (kk : ∀ (H : Heap) (locs : List Loc) (ls : Array Slot), va_S A s.heap H locs → lv_has ls 8 [(0, .ref b), (4, .int 0)] → W p l e room_1 s m args below meth c H locs 600002 7302232 Q (F0 m 2461 ls [])) : W p l e room_1 s m args below meth c H locs 37 29845 Q (F0 m 277 ls []) := by
  refine lv_aload_n C.1 C.2.1 dL_law_277 rfl (lv_at hl 1 rfl) ?_
  refine lv_aload_n C.1 C.2.1 dL_law_278 rfl (lv_at hl 0 rfl) ?_
  refine lv_iload C.1 C.2.1 dL_law_279 (lv_at hl 4 rfl) ?_
  refine lv_iconst (v := 1) C.1 C.2.1 dL_law_281 (by decide) ?_
  refine r_iadd C (v := 1) dL_law_282 (by decide) ?_
  refine r_sld C w hX hbl hbA (v := 0) (vinD (by decide)) sx1 dL_law_283 ?_
  refine lv_aload_n C.1 C.2.1 dL_law_284 rfl (lv_at hl 3 rfl) ?_
  refine r_callH C w fh_RL_128 (c_L_talk_1 l D cy q0 o0 q1 q2 q4 q5 q6 q10 q3 q11 q12 q13 q14 q15 q16 q17) (hl.1.trans hml.symm) [0, 1, 2, 3, 4, 5, 9] [6, 7, 8] (wr := [(m0, .inr (12, [.ref m1, .ref m2, .ref m3, .ref m4, .ref m5, .int 0, .ref m6, .int 0, .int 0, .int 0, .int 0, .int 0, .int 0, .int 0, .int 0, .int 0, .int 0, .int (-1), .ref m7, .ref m8, .int 0, .ref m9, .int 0, .ref m10, .ref m11, .ref m12, .ref m13, .ref m14, .int 0, .ref m15, .ref m16, .ref m17])), (m2, .inl (cy 1, 1868, .inl (fun _ => 0))), (m1, .inl (cy 1, 1868, .inl (upd (upd (upd (fun _ => 0) 1 2) 2 20) 3 120)))]) ⟨rfl, rfl, rfl, rfl, by decide⟩ rfl rfl ⟨Nat.le_of_ble_eq_true rfl, Nat.le_of_ble_eq_true rfl, Nat.le_of_ble_eq_true rfl⟩ 45 31108 ⟨rfl, rfl, Nat.le_of_ble_eq_true rfl, Nat.le_of_ble_eq_true rfl⟩ dL_law_285 (fun u H locs hp w => ?_)
  obtain ⟨n1, n2, n3, n4, n5, n6, n7, n8⟩ := u
  have w : Wd D A s.heap [(m0, .inr (12, [.ref m1, .ref m2, .ref m3, .ref m4, .ref m5, .int 0, .ref m6, .int 0, .int 0, .int 0, .int 0, .int 0, .int 0, .int 0, .int 0, .int 0, .int 0, .int (-1), .ref m7, .ref m8, .int 0, .ref m9, .int 0, .ref m10, .ref m11, .ref m12, .ref m13, .ref m14, .int 0, .ref m15, .ref m16, .ref m17])), (m2, .inl (cy 1, 1868, .inl (fun _ => 0))), (m1, .inl (cy 1, 1868, .inl (upd (upd (upd (fun _ => 0) 1 2) 2 20) 3 120))), (o0, .inl (cy 2, 1, .inr (.inl (vp_updL (fun _ => 0) 0 0))))] _ _ := w.pick [0, 1, 2, 3] rfl rfl
  refine r_top (g2 := F0 m 288 ls [.int 0]) rfl ?_
  refine lv_istore (lv' := [(5, .int 0), (0, .ref b), (1, .ref q0), (2, .ref m0), (3, .ref o0), (4, .int 0)]) C.1 C.2.1 dL_law_288 hl (by decide) rfl (fun ls hl => ?_)
  refine lv_aload_n C.1 C.2.1 dL_law_290 rfl (lv_at hl 3 rfl) ?_
  refine lv_aload_n C.1 C.2.1 dL_law_291 rfl (lv_at hl 1 rfl) ?_
  refine lv_iload C.1 C.2.1 dL_law_292 (lv_at hl 5 rfl) ?_
  refine lv_iconst (v := 1) C.1 C.2.1 dL_law_294 (by decide) ?_
  refine r_iadd C (v := 1) dL_law_295 (by decide) ?_
  refine r_sld C w hX hbl hbA (v := 0) (vinD (by decide)) sx1 dL_law_296 ?_
  refine r_callV C w fv_RL_133 (c_X12_talk_1 l D cy m0 m1 m2 m3 m4 m5 m6 m7 m8 m9 m10 m11 m12 m13 m14 m15 m16 m17) (hl.1.trans hml.symm) [0, 2, 1] [3] (wr := [(o0, .inl (cy 2, 1, .inr (.inl (vp_updL (fun _ => 0) 0 0))))]) ⟨rfl, rfl, rfl, rfl, by decide⟩ 0 rfl rfl rfl rfl rfl ⟨Nat.le_of_ble_eq_true rfl, Nat.le_of_ble_eq_true rfl, Nat.le_of_ble_eq_true rfl⟩ 45 31108 ⟨rfl, rfl, Nat.le_of_ble_eq_true rfl, Nat.le_of_ble_eq_true rfl⟩ dL_law_297 (fun u H locs hp w => ?_)
  have w : Wd D A s.heap [(o0, .inl (cy 2, 1, .inr (.inl (vp_updL (fun _ => 0) 0 0)))), (m0, .inr (12, [.ref m1, .ref m2, .ref m3, .ref m4, .ref m5, .int 0, .ref m6, .int 0, .int 0, .int 0, .int 0, .int 0, .int 0, .int 0, .int 0, .int 0, .int 0, .int (-1), .ref m7, .ref m8, .int 0, .ref m9, .int 0, .ref m10, .ref m11, .ref m12, .ref m13, .ref m14, .int 0, .ref m15, .ref m16, .ref m17]))] _ _ := w.pick [0, 1] rfl rfl
  refine r_top (g2 := F0 m 300 ls [.int 0]) rfl ?_
  refine lv_istore (lv' := [(6, .int 0), (5, .int 0), (0, .ref b), (1, .ref q0), (2, .ref m0), (3, .ref o0), (4, .int 0)]) C.1 C.2.1 dL_law_300 hl (by decide) rfl (fun ls hl => ?_)
  refine lv_aload_n C.1 C.2.1 dL_law_302 rfl (lv_at hl 4 rfl) ?_
  refine r_callV C w fv_RL_134 (c_X12_thrown_1 l D cy m0 m1 m2 m3 m4 m5 m6 m7 m8 m9 m10 m11 m12 m13 m14 m15 m16 m17) (hl.1.trans hml.symm) [1] [0] (wr := [(o0, .inl (cy 2, 1, .inr (.inl (vp_updL (fun _ => 0) 0 0))))]) ⟨rfl, rfl, rfl, rfl, by decide⟩ 0 rfl rfl rfl rfl rfl ⟨Nat.le_of_ble_eq_true rfl, Nat.le_of_ble_eq_true rfl, Nat.le_of_ble_eq_true rfl⟩ 45 31108 ⟨rfl, rfl, Nat.le_of_ble_eq_true rfl, Nat.le_of_ble_eq_true rfl⟩ dL_law_303 (fun u H locs hp w => ?_)
  have w : Wd D A s.heap [(o0, .inl (cy 2, 1, .inr (.inl (vp_updL (fun _ => 0) 0 0)))), (m0, .inr (12, [.ref m1, .ref m2, .ref m3, .ref m4, .ref m5, .int 0, .ref m6, .int 0, .int 0, .int 0, .int 0, .int 0, .int 0, .int 0, .int 0, .int 0, .int 0, .int (-1), .ref m7, .ref m8, .int 0, .ref m9, .int 0, .ref m10, .ref m11, .ref m12, .ref m13, .ref m14, .int 0, .ref m15, .ref m16, .ref m17]))] _ _ := w.pick [0, 1] rfl rfl
  refine r_top (g2 := F0 m 306 ls [.int 0]) rfl ?_
  refine lv_iload C.1 C.2.1 dL_law_306 (lv_at hl 1 rfl) ?_
  refine b_icmp_eq_t C (tgt := 313) dL_law_308 (by decide) (by decide) ?_
  refine lv_iload C.1 C.2.1 dL_law_313 (lv_at hl 1 rfl) ?_
  refine b_if_ne_f C (tgt := 330) dL_law_315 (by decide) (by decide) ?_
  refine lv_aload_n C.1 C.2.1 dL_law_318 rfl (lv_at hl 5 rfl) ?_
  refine lv_iconst (v := 0) C.1 C.2.1 dL_law_319 (by decide) ?_
  refine r_lald C w 0 rfl (v := 0) (vinD (by decide)) rfl dL_law_320 ?_
  refine lv_iload C.1 C.2.1 dL_law_321 (lv_at hl 0 rfl) ?_
  refine lv_i2l (v := 0) C.1 C.2.1 dL_law_323 (by decide) ?_
  refine r_lcmp C (v := 0) dL_law_324 (by decide) ?_
  refine b_if_eq_t C (tgt := 330) dL_law_325 (by decide) (by decide) ?_
  refine lv_goto (tgt := 2461) C.1 C.2.1 dL_law_330 (by decide) ?_
  refine W.widen (k := 600002) (n := 7302232) (Nat.le_of_ble_eq_true rfl) (Nat.le_of_ble_eq_true rfl) ?_
  exact kk _ _ _ w.2.2 (lv_sub hl [2, 6] rfl)
set_option maxRecDepth 100000 in
set_option maxHeartbeats 4000000 in
theorem s_L_1_2 {p : Program} {l : Launch} {e : Env} {s : State} {m : MethodId} {args : Array Value} {below : List Frame} {meth : Method} {c : Code} {Q : State → Prop} {D : va_G} {cy : Nat → ClassId} {A : Nat → Prop} {H : Heap} {locs : List Loc} {ls : Array Slot} {xs : Nat → Int32} (b q0 q1 q2 q4 q5 q6 q10 m0 m1 m2 m3 m4 m5 m6 m7 m8 m9 m10 m11 m12 m13 m14 m15 m16 m17 o0 : Nat) (y1 : Int32) (k0 : ¬ y1 < 0) (k1 : ¬ y1 ≤ 0) (sx1 : xs 1 = y1) (hst : l.stackTraces = false) (C : Cx p s m args c cL_law RL D cy A) (hml : c.maxLocals = 8) (hX : va_X b 6 xs s s.heap) (hbl : b < s.heap.size) (hbA : ¬ A b) (w : Wd D A s.heap [(q0, .inr (11, [.ref q1, .int 0, .int 0, .int (-1), .ref q2, .ref q4, .ref q5, .ref q6, .ref q10, .null])), (m0, .inr (12, [.ref m1, .ref m2, .ref m3, .ref m4, .ref m5, .int 0, .ref m6, .int 0, .int 0, .int 0, .int 0, .int 0, .int 0, .int 0, .int 0, .int 0, .int 0, .int (-1), .ref m7, .ref m8, .int 0, .ref m9, .int 0, .ref m10, .ref m11, .ref m12, .ref m13, .ref m14, .int 0, .ref m15, .ref m16, .ref m17]))] H locs) (hl : lv_has ls 8 [(0, .ref b), (1, .ref q0), (2, .ref m0), (3, .ref o0), (4, .int 0)]) (kk : ∀ (H : Heap) (locs : List Loc) (ls : Array Slot), va_S A s.heap H locs → lv_has ls 8 [(0, .ref b), (4, .int 0)] → W p l e room_1 s m args below meth c H locs 600002 7302232 Q (F0 m 2461 ls [])) : W p l e room_1 s m args below meth c H locs 37 29845 Q (F0 m 277 ls []) := by
  refine lv_aload_n C.1 C.2.1 dL_law_277 rfl (lv_at hl 1 rfl) ?_
  refine lv_aload_n C.1 C.2.1 dL_law_278 rfl (lv_at hl 0 rfl) ?_
  refine lv_iload C.1 C.2.1 dL_law_279 (lv_at hl 4 rfl) ?_
  refine lv_iconst (v := 1) C.1 C.2.1 dL_law_281 (by decide) ?_
  refine r_iadd C (v := 1) dL_law_282 (by decide) ?_
  refine r_sld C w hX hbl hbA (v := y1) (vinD (by decide)) sx1 dL_law_283 ?_
  refine lv_aload_n C.1 C.2.1 dL_law_284 rfl (lv_at hl 3 rfl) ?_
  refine r_callH C w fh_RL_128 (c_L_talk_2 l D cy q0 o0 q1 q2 q4 q5 q6 q10 y1 k0 k1 hst) (hl.1.trans hml.symm) [0] [1] (wr := [(m0, .inr (12, [.ref m1, .ref m2, .ref m3, .ref m4, .ref m5, .int 0, .ref m6, .int 0, .int 0, .int 0, .int 0, .int 0, .int 0, .int 0, .int 0, .int 0, .int 0, .int (-1), .ref m7, .ref m8, .int 0, .ref m9, .int 0, .ref m10, .ref m11, .ref m12, .ref m13, .ref m14, .int 0, .ref m15, .ref m16, .ref m17]))]) ⟨rfl, rfl, rfl, rfl, by decide⟩ rfl rfl ⟨Nat.le_of_ble_eq_true rfl, Nat.le_of_ble_eq_true rfl, Nat.le_of_ble_eq_true rfl⟩ 38 29851 ⟨rfl, rfl, Nat.le_of_ble_eq_true rfl, Nat.le_of_ble_eq_true rfl⟩ dL_law_285 (fun u H locs hp w => ?_)
  have w : Wd D A s.heap [(m0, .inr (12, [.ref m1, .ref m2, .ref m3, .ref m4, .ref m5, .int 0, .ref m6, .int 0, .int 0, .int 0, .int 0, .int 0, .int 0, .int 0, .int 0, .int 0, .int 0, .int (-1), .ref m7, .ref m8, .int 0, .ref m9, .int 0, .ref m10, .ref m11, .ref m12, .ref m13, .ref m14, .int 0, .ref m15, .ref m16, .ref m17]))] _ _ := w.pick [0] rfl rfl
  refine r_top (g2 := F0 m 288 ls [.int 1]) rfl ?_
  refine lv_istore (lv' := [(5, .int 1), (0, .ref b), (1, .ref q0), (2, .ref m0), (3, .ref o0), (4, .int 0)]) C.1 C.2.1 dL_law_288 hl (by decide) rfl (fun ls hl => ?_)
  refine lv_aload_n C.1 C.2.1 dL_law_290 rfl (lv_at hl 3 rfl) ?_
  refine lv_aload_n C.1 C.2.1 dL_law_291 rfl (lv_at hl 1 rfl) ?_
  refine lv_iload C.1 C.2.1 dL_law_292 (lv_at hl 5 rfl) ?_
  refine lv_iconst (v := 1) C.1 C.2.1 dL_law_294 (by decide) ?_
  refine r_iadd C (v := 1) dL_law_295 (by decide) ?_
  refine r_sld C w hX hbl hbA (v := y1) (vinD (by decide)) sx1 dL_law_296 ?_
  refine r_callV C w fv_RL_133 (c_X12_talk_2 l D cy m0 m1 m2 m3 m4 m5 m6 m7 m8 m9 m10 m11 m12 m13 m14 m15 m16 m17 y1 k0 (by have h0 := (i_nlt k0); have h1 := (i_nle k1); have e0 : (0 : Int32).toInt = 0 := (by decide); rw [fa_lt]; omega)) (hl.1.trans hml.symm) [0] [] (wr := []) ⟨rfl, rfl, rfl, rfl, by decide⟩ 0 rfl rfl rfl rfl rfl ⟨Nat.le_of_ble_eq_true rfl, Nat.le_of_ble_eq_true rfl, Nat.le_of_ble_eq_true rfl⟩ 38 29851 ⟨rfl, rfl, Nat.le_of_ble_eq_true rfl, Nat.le_of_ble_eq_true rfl⟩ dL_law_297 (fun u H locs hp w => ?_)
  have w : Wd D A s.heap [(m0, .inr (12, [.ref m1, .ref m2, .ref m3, .ref m4, .ref m5, .int 1, .ref m6, .int 0, .int 0, .int 0, .int 0, .int 0, .int 0, .int 0, .int 0, .int 0, .int 0, .int (-1), .ref m7, .ref m8, .int 0, .ref m9, .int 0, .ref m10, .ref m11, .ref m12, .ref m13, .ref m14, .int 0, .ref m15, .ref m16, .ref m17]))] _ _ := w.pick [0] rfl rfl
  refine r_top (g2 := F0 m 300 ls [.int 0]) rfl ?_
  refine lv_istore (lv' := [(6, .int 0), (5, .int 1), (0, .ref b), (1, .ref q0), (2, .ref m0), (3, .ref o0), (4, .int 0)]) C.1 C.2.1 dL_law_300 hl (by decide) rfl (fun ls hl => ?_)
  refine lv_aload_n C.1 C.2.1 dL_law_302 rfl (lv_at hl 4 rfl) ?_
  refine r_callV C w fv_RL_134 (c_X12_thrown_0 l D cy m0 m1 m2 m3 m4 m5 m6 m7 m8 m9 m10 m11 m12 m13 m14 m15 m16 m17) (hl.1.trans hml.symm) [0] [] (wr := []) ⟨rfl, rfl, rfl, rfl, by decide⟩ 0 rfl rfl rfl rfl rfl ⟨Nat.le_of_ble_eq_true rfl, Nat.le_of_ble_eq_true rfl, Nat.le_of_ble_eq_true rfl⟩ 38 29851 ⟨rfl, rfl, Nat.le_of_ble_eq_true rfl, Nat.le_of_ble_eq_true rfl⟩ dL_law_303 (fun u H locs hp w => ?_)
  have w : Wd D A s.heap [(m0, .inr (12, [.ref m1, .ref m2, .ref m3, .ref m4, .ref m5, .int 1, .ref m6, .int 0, .int 0, .int 0, .int 0, .int 0, .int 0, .int 0, .int 0, .int 0, .int 0, .int (-1), .ref m7, .ref m8, .int 0, .ref m9, .int 0, .ref m10, .ref m11, .ref m12, .ref m13, .ref m14, .int 0, .ref m15, .ref m16, .ref m17]))] _ _ := w.pick [0] rfl rfl
  refine r_top (g2 := F0 m 306 ls [.int 1]) rfl ?_
  refine lv_iload C.1 C.2.1 dL_law_306 (lv_at hl 1 rfl) ?_
  refine b_icmp_eq_t C (tgt := 313) dL_law_308 (by decide) (by decide) ?_
  refine lv_iload C.1 C.2.1 dL_law_313 (lv_at hl 1 rfl) ?_
  refine b_if_ne_t C (tgt := 330) dL_law_315 (by decide) (by decide) ?_
  refine lv_goto (tgt := 2461) C.1 C.2.1 dL_law_330 (by decide) ?_
  refine W.widen (k := 600002) (n := 7302232) (Nat.le_of_ble_eq_true rfl) (Nat.le_of_ble_eq_true rfl) ?_
  exact kk _ _ _ w.2.2 (lv_sub hl [2, 6] rfl)
set_option maxRecDepth 100000 in
set_option maxHeartbeats 4000000 in
theorem t_L_1 {p : Program} {l : Launch} {e : Env} {s : State} {m : MethodId} {args : Array Value} {below : List Frame} {meth : Method} {c : Code} {Q : State → Prop} {D : va_G} {cy : Nat → ClassId} {A : Nat → Prop} {H : Heap} {locs : List Loc} {ls : Array Slot} {xs : Nat → Int32} (b q0 q1 q2 q4 q5 q6 q10 q3 q7 q8 q9 q11 q12 q13 q14 q15 q16 q17 m0 m1 m2 m3 m4 m5 m6 m7 m8 m9 m10 m11 m12 m13 m14 m15 m16 m17 o0 : Nat) (hst : l.stackTraces = false) (C : Cx p s m args c cL_law RL D cy A) (hml : c.maxLocals = 8) (hX : va_X b 6 xs s s.heap) (hbl : b < s.heap.size) (hbA : ¬ A b) (w : Wd D A s.heap [(q0, .inr (11, [.ref q1, .int 0, .int 0, .int (-1), .ref q2, .ref q4, .ref q5, .ref q6, .ref q10, .null])), (q1, .inl (cy 0, 900, .inl (fun _ => 0))), (q2, .inr (5, [.ref q3, .int 0, .int 0, .int 0, .int 0, .int 0, .int 0, .null])), (q3, .inl (cy 0, 0, .inl (fun _ => 0))), (q4, .inl (cy 4, 5, .inr (.inr (.inr (.inr (va_up (fun _ => none) 0 (some q10))))))), (q5, .inl (cy 4, 3, .inr (.inr (.inr (.inr (fun _ => none)))))), (q6, .inr (10, [.ref q7, .ref q8, .ref q9])), (q7, .inl (cy 1, 4, .inl (upd (upd (upd (upd (fun _ => 0) 0 (-1)) 1 (-1)) 2 (-1)) 3 (-1)))), (q8, .inl (cy 1, 4, .inl (fun _ => 0))), (q9, .inl (cy 2, 160, .inr (.inl (fun _ => 0)))), (q10, .inr (9, [.int 0, .int 2, .int 20, .int 120, .int 0, .int 0, .int 0, .int 0, .ref q11, .int 0, .ref q12, .ref q13, .int 0, .ref q14, .ref q15, .ref q16, .ref q17])), (q11, .inl (cy 1, 6, .inl (fun _ => 0))), (q12, .inl (cy 1, 20, .inl (fun _ => 0))), (q13, .inl (cy 1, 20, .inl (fun _ => 0))), (q14, .inl (cy 1, 300, .inl (fun _ => 0))), (q15, .inl (cy 1, 300, .inl (fun _ => 0))), (q16, .inl (cy 1, 300, .inl (fun _ => 0))), (q17, .inl (cy 1, 300, .inl (fun _ => 0))), (m0, .inr (12, [.ref m1, .ref m2, .ref m3, .ref m4, .ref m5, .int 0, .ref m6, .int 0, .int 0, .int 0, .int 0, .int 0, .int 0, .int 0, .int 0, .int 0, .int 0, .int (-1), .ref m7, .ref m8, .int 0, .ref m9, .int 0, .ref m10, .ref m11, .ref m12, .ref m13, .ref m14, .int 0, .ref m15, .ref m16, .ref m17])), (m2, .inl (cy 1, 1868, .inl (fun _ => 0))), (m3, .inl (cy 1, 1868, .inl (fun _ => 0))), (m4, .inl (cy 1, 5604, .inl (fun _ => 0))), (m5, .inl (cy 3, 3, .inl (fun _ => 0))), (m6, .inl (cy 1, 900, .inl (fun _ => 0))), (m7, .inl (cy 1, 1830, .inl (fun _ => 0))), (m8, .inl (cy 1, 1830, .inl (fun _ => 0))), (m9, .inl (cy 2, 2465, .inr (.inl (fun _ => 0)))), (m10, .inl (cy 1, 7201, .inl (fun _ => 0))), (m11, .inl (cy 1, 1830, .inl (fun _ => 0))), (m12, .inl (cy 1, 5, .inl (fun _ => 0))), (m13, .inl (cy 1, 6, .inl (fun _ => 0))), (m14, .inl (cy 1, 6, .inl (fun _ => 0))), (m15, .inl (cy 1, 4, .inl (upd (upd (upd (upd (fun _ => 0) 0 (-1)) 1 (-1)) 2 (-1)) 3 (-1)))), (m16, .inl (cy 1, 4, .inl (fun _ => 0))), (m17, .inl (cy 2, 160, .inr (.inl (fun _ => 0)))), (m1, .inl (cy 1, 1868, .inl (upd (upd (upd (fun _ => 0) 1 2) 2 20) 3 120))), (o0, .inl (cy 2, 1, .inr (.inl (fun _ => 0))))] H locs) (hl : lv_has ls 8 [(0, .ref b), (1, .ref q0), (2, .ref m0), (3, .ref o0), (4, .int 0)]) (kk : ∀ (H : Heap) (locs : List Loc) (ls : Array Slot), va_S A s.heap H locs → lv_has ls 8 [(0, .ref b), (4, .int 0)] → W p l e room_1 s m args below meth c H locs 600002 7302232 Q (F0 m 2461 ls [])) : W p l e room_1 s m args below meth c H locs 37 29845 Q (F0 m 277 ls []) := by
  obtain ⟨y1, sx1⟩ : ∃ y, xs 1 = y := ⟨_, rfl⟩
  obtain ⟨y2, sx2⟩ : ∃ y, xs 2 = y := ⟨_, rfl⟩
  obtain ⟨y3, sx3⟩ : ∃ y, xs 3 = y := ⟨_, rfl⟩
  obtain ⟨y4, sx4⟩ : ∃ y, xs 4 = y := ⟨_, rfl⟩
  obtain ⟨y5, sx5⟩ : ∃ y, xs 5 = y := ⟨_, rfl⟩
  by_cases g1 : y1 < 0
  · exact s_L_1_0 b q0 q1 q2 q4 q5 q6 q10 m0 m1 m2 m3 m4 m5 m6 m7 m8 m9 m10 m11 m12 m13 m14 m15 m16 m17 o0 y1 g1 sx1 hst C hml hX hbl hbA (w.pick [0, 18] rfl rfl) hl kk
  · by_cases g2 : y1 = 0
    · subst g2
      exact s_L_1_1 b q0 q1 q2 q4 q5 q6 q10 q3 q11 q12 q13 q14 q15 q16 q17 m0 m1 m2 m3 m4 m5 m6 m7 m8 m9 m10 m11 m12 m13 m14 m15 m16 m17 o0 sx1 C hml hX hbl hbA (w.pick [0, 1, 2, 4, 5, 10, 18, 19, 35, 36] rfl rfl) hl kk
    · by_cases g3 : y1 ≤ 0
      · exfalso
        have h0 := i_nlt g1
        have h1 := (not_congr (fa_eq _ _)).mp g2
        have h2 := i_le g3
        have e0 : (0 : Int32).toInt = 0 := (by decide)
        omega
      · exact s_L_1_2 b q0 q1 q2 q4 q5 q6 q10 m0 m1 m2 m3 m4 m5 m6 m7 m8 m9 m10 m11 m12 m13 m14 m15 m16 m17 o0 y1 g1 g3 sx1 hst C hml hX hbl hbA (w.pick [0, 18] rfl rfl) hl kk
theorem dL_law_333 : decode cL_law 333 = .ok (.aload_n 1, 1) := by decide +kernel
theorem dL_law_334 : decode cL_law 334 = .ok (.aload_n 0, 1) := by decide +kernel
theorem dL_law_335 : decode cL_law 335 = .ok (.iload 4, 2) := by decide +kernel
theorem dL_law_337 : decode cL_law 337 = .ok (.iconst 1, 1) := by decide +kernel
theorem dL_law_338 : decode cL_law 338 = .ok (.iadd, 1) := by decide +kernel
theorem dL_law_339 : decode cL_law 339 = .ok (.iaload, 1) := by decide +kernel
theorem dL_law_340 : decode cL_law 340 = .ok (.invokevirtual 138, 3) := by decide +kernel
theorem fv_RL_138 : FV RL 138 yX11_fault cX11_fault 2 (some .int) 1 := ⟨⟨gw_mem (by decide +kernel) (by decide +kernel), gw_mem (by decide +kernel) (by decide +kernel), gw_mem (by decide +kernel) (by decide +kernel), gw_mem (by decide +kernel) (by decide +kernel), gw_mem (by decide +kernel) (by decide +kernel)⟩, ⟨by decide +kernel, by decide +kernel, by decide +kernel⟩⟩
theorem dL_law_343 : decode cL_law 343 = .ok (.aload_n 2, 1) := by decide +kernel
theorem dL_law_344 : decode cL_law 344 = .ok (.aload_n 0, 1) := by decide +kernel
theorem dL_law_345 : decode cL_law 345 = .ok (.iload 4, 2) := by decide +kernel
theorem dL_law_347 : decode cL_law 347 = .ok (.iconst 1, 1) := by decide +kernel
theorem dL_law_348 : decode cL_law 348 = .ok (.iadd, 1) := by decide +kernel
theorem dL_law_349 : decode cL_law 349 = .ok (.iaload, 1) := by decide +kernel
theorem dL_law_350 : decode cL_law 350 = .ok (.invokevirtual 141, 3) := by decide +kernel
theorem fv_RL_141 : FV RL 141 yX12_fault cX12_fault 2 (some .int) 1 := ⟨⟨gw_mem (by decide +kernel) (by decide +kernel), gw_mem (by decide +kernel) (by decide +kernel), gw_mem (by decide +kernel) (by decide +kernel), gw_mem (by decide +kernel) (by decide +kernel), gw_mem (by decide +kernel) (by decide +kernel)⟩, ⟨by decide +kernel, by decide +kernel, by decide +kernel⟩⟩
theorem dL_law_353 : decode cL_law 353 = .ok (.if_icmp .eq 2108, 3) := by decide +kernel
set_option maxRecDepth 100000 in
set_option maxHeartbeats 4000000 in
theorem s_L_2_0 {p : Program} {l : Launch} {e : Env} {s : State} {m : MethodId} {args : Array Value} {below : List Frame} {meth : Method} {c : Code} {Q : State → Prop} {D : va_G} {cy : Nat → ClassId} {A : Nat → Prop} {H : Heap} {locs : List Loc} {ls : Array Slot} {xs : Nat → Int32} (b q0 q1 q2 q4 q5 q6 q10 m0 m1 m2 m3 m4 m5 m6 m7 m8 m9 m10 m11 m12 m13 m14 m15 m16 m17 o0 : Nat) (y1 : Int32) (k0 : ¬ y1 = 0) (k1 : ¬ y1 = 1) (sx1 : xs 1 = y1) (C : Cx p s m args c cL_law RL D cy A) (hml : c.maxLocals = 8) (hX : va_X b 6 xs s s.heap) (hbl : b < s.heap.size) (hbA : ¬ A b) (w : Wd D A s.heap [(q0, .inr (11, [.ref q1, .int 0, .int 0, .int (-1), .ref q2, .ref q4, .ref q5, .ref q6, .ref q10, .null])), (m0, .inr (12, [.ref m1, .ref m2, .ref m3, .ref m4, .ref m5, .int 0, .ref m6, .int 0, .int 0, .int 0, .int 0, .int 0, .int 0, .int 0, .int 0, .int 0, .int 0, .int (-1), .ref m7, .ref m8, .int 0, .ref m9, .int 0, .ref m10, .ref m11, .ref m12, .ref m13, .ref m14, .int 0, .ref m15, .ref m16, .ref m17]))] H locs) (hl : lv_has ls 8 [(0, .ref b), (1, .ref q0), (2, .ref m0), (3, .ref o0), (4, .int 0)]) (kk : ∀ (H : Heap) (locs : List Loc) (ls : Array Slot), va_S A s.heap H locs → lv_has ls 8 [(0, .ref b), (4, .int 0)] → W p l e room_1 s m args below meth c H locs 600002 7302232 Q (F0 m 2461 ls [])) : W p l e room_1 s m args below meth c H locs 37 29845 Q (F0 m 333 ls []) := by
  refine lv_aload_n C.1 C.2.1 dL_law_333 rfl (lv_at hl 1 rfl) ?_
  refine lv_aload_n C.1 C.2.1 dL_law_334 rfl (lv_at hl 0 rfl) ?_
  refine lv_iload C.1 C.2.1 dL_law_335 (lv_at hl 4 rfl) ?_
  refine lv_iconst (v := 1) C.1 C.2.1 dL_law_337 (by decide) ?_
  refine r_iadd C (v := 1) dL_law_338 (by decide) ?_
  refine r_sld C w hX hbl hbA (v := y1) (vinD (by decide)) sx1 dL_law_339 ?_
  refine r_callV C w fv_RL_138 (c_X11_fault_0 l D cy q0 q1 q2 q4 q5 q6 q10 y1 k0 k1) (hl.1.trans hml.symm) [0] [1] (wr := [(m0, .inr (12, [.ref m1, .ref m2, .ref m3, .ref m4, .ref m5, .int 0, .ref m6, .int 0, .int 0, .int 0, .int 0, .int 0, .int 0, .int 0, .int 0, .int 0, .int 0, .int (-1), .ref m7, .ref m8, .int 0, .ref m9, .int 0, .ref m10, .ref m11, .ref m12, .ref m13, .ref m14, .int 0, .ref m15, .ref m16, .ref m17]))]) ⟨rfl, rfl, rfl, rfl, by decide⟩ 0 rfl rfl rfl rfl rfl ⟨Nat.le_of_ble_eq_true rfl, Nat.le_of_ble_eq_true rfl, Nat.le_of_ble_eq_true rfl⟩ 37 29845 ⟨rfl, rfl, Nat.le_of_ble_eq_true rfl, Nat.le_of_ble_eq_true rfl⟩ dL_law_340 (fun u H locs hp w => ?_)
  have w : Wd D A s.heap [(m0, .inr (12, [.ref m1, .ref m2, .ref m3, .ref m4, .ref m5, .int 0, .ref m6, .int 0, .int 0, .int 0, .int 0, .int 0, .int 0, .int 0, .int 0, .int 0, .int 0, .int (-1), .ref m7, .ref m8, .int 0, .ref m9, .int 0, .ref m10, .ref m11, .ref m12, .ref m13, .ref m14, .int 0, .ref m15, .ref m16, .ref m17]))] _ _ := w.pick [0] rfl rfl
  refine r_top (g2 := F0 m 343 ls [.int (-1)]) rfl ?_
  refine lv_aload_n C.1 C.2.1 dL_law_343 rfl (lv_at hl 2 rfl) ?_
  refine lv_aload_n C.1 C.2.1 dL_law_344 rfl (lv_at hl 0 rfl) ?_
  refine lv_iload C.1 C.2.1 dL_law_345 (lv_at hl 4 rfl) ?_
  refine lv_iconst (v := 1) C.1 C.2.1 dL_law_347 (by decide) ?_
  refine r_iadd C (v := 1) dL_law_348 (by decide) ?_
  refine r_sld C w hX hbl hbA (v := y1) (vinD (by decide)) sx1 dL_law_349 ?_
  refine r_callV C w fv_RL_141 (c_X12_fault_0 l D cy m0 m1 m2 m3 m4 m5 m6 m7 m8 m9 m10 m11 m12 m13 m14 m15 m16 m17 y1 k0 k1) (hl.1.trans hml.symm) [0] [] (wr := []) ⟨rfl, rfl, rfl, rfl, by decide⟩ 0 rfl rfl rfl rfl rfl ⟨Nat.le_of_ble_eq_true rfl, Nat.le_of_ble_eq_true rfl, Nat.le_of_ble_eq_true rfl⟩ 37 29845 ⟨rfl, rfl, Nat.le_of_ble_eq_true rfl, Nat.le_of_ble_eq_true rfl⟩ dL_law_350 (fun u H locs hp w => ?_)
  have w : Wd D A s.heap [(m0, .inr (12, [.ref m1, .ref m2, .ref m3, .ref m4, .ref m5, .int 0, .ref m6, .int 0, .int 0, .int 0, .int 0, .int 0, .int 0, .int 0, .int 0, .int 0, .int 0, .int (-1), .ref m7, .ref m8, .int 0, .ref m9, .int 0, .ref m10, .ref m11, .ref m12, .ref m13, .ref m14, .int 0, .ref m15, .ref m16, .ref m17]))] _ _ := w.pick [0] rfl rfl
  refine r_top (g2 := F0 m 353 ls [.int (-1), .int (-1)]) rfl ?_
  refine b_icmp_eq_t C (tgt := 2461) dL_law_353 (by decide) (by decide) ?_
  refine W.widen (k := 600002) (n := 7302232) (Nat.le_of_ble_eq_true rfl) (Nat.le_of_ble_eq_true rfl) ?_
  exact kk _ _ _ w.2.2 (lv_sub hl [0, 4] rfl)
set_option maxRecDepth 100000 in
set_option maxHeartbeats 4000000 in
theorem s_L_2_1 {p : Program} {l : Launch} {e : Env} {s : State} {m : MethodId} {args : Array Value} {below : List Frame} {meth : Method} {c : Code} {Q : State → Prop} {D : va_G} {cy : Nat → ClassId} {A : Nat → Prop} {H : Heap} {locs : List Loc} {ls : Array Slot} {xs : Nat → Int32} (b q0 q1 q2 q4 q5 q6 q10 m0 m1 m2 m3 m4 m5 m6 m7 m8 m9 m10 m11 m12 m13 m14 m15 m16 m17 o0 : Nat) (sx1 : xs 1 = 1) (C : Cx p s m args c cL_law RL D cy A) (hml : c.maxLocals = 8) (hX : va_X b 6 xs s s.heap) (hbl : b < s.heap.size) (hbA : ¬ A b) (w : Wd D A s.heap [(q0, .inr (11, [.ref q1, .int 0, .int 0, .int (-1), .ref q2, .ref q4, .ref q5, .ref q6, .ref q10, .null])), (m0, .inr (12, [.ref m1, .ref m2, .ref m3, .ref m4, .ref m5, .int 0, .ref m6, .int 0, .int 0, .int 0, .int 0, .int 0, .int 0, .int 0, .int 0, .int 0, .int 0, .int (-1), .ref m7, .ref m8, .int 0, .ref m9, .int 0, .ref m10, .ref m11, .ref m12, .ref m13, .ref m14, .int 0, .ref m15, .ref m16, .ref m17]))] H locs) (hl : lv_has ls 8 [(0, .ref b), (1, .ref q0), (2, .ref m0), (3, .ref o0), (4, .int 0)]) (kk : ∀ (H : Heap) (locs : List Loc) (ls : Array Slot), va_S A s.heap H locs → lv_has ls 8 [(0, .ref b), (4, .int 0)] → W p l e room_1 s m args below meth c H locs 600002 7302232 Q (F0 m 2461 ls [])) : W p l e room_1 s m args below meth c H locs 37 29845 Q (F0 m 333 ls []) := by
  refine lv_aload_n C.1 C.2.1 dL_law_333 rfl (lv_at hl 1 rfl) ?_
  refine lv_aload_n C.1 C.2.1 dL_law_334 rfl (lv_at hl 0 rfl) ?_
  refine lv_iload C.1 C.2.1 dL_law_335 (lv_at hl 4 rfl) ?_
  refine lv_iconst (v := 1) C.1 C.2.1 dL_law_337 (by decide) ?_
  refine r_iadd C (v := 1) dL_law_338 (by decide) ?_
  refine r_sld C w hX hbl hbA (v := 1) (vinD (by decide)) sx1 dL_law_339 ?_
  refine r_callV C w fv_RL_138 (c_X11_fault_1 l D cy q0 q1 q2 q4 q5 q6 q10) (hl.1.trans hml.symm) [0] [1] (wr := [(m0, .inr (12, [.ref m1, .ref m2, .ref m3, .ref m4, .ref m5, .int 0, .ref m6, .int 0, .int 0, .int 0, .int 0, .int 0, .int 0, .int 0, .int 0, .int 0, .int 0, .int (-1), .ref m7, .ref m8, .int 0, .ref m9, .int 0, .ref m10, .ref m11, .ref m12, .ref m13, .ref m14, .int 0, .ref m15, .ref m16, .ref m17]))]) ⟨rfl, rfl, rfl, rfl, by decide⟩ 0 rfl rfl rfl rfl rfl ⟨Nat.le_of_ble_eq_true rfl, Nat.le_of_ble_eq_true rfl, Nat.le_of_ble_eq_true rfl⟩ 37 29845 ⟨rfl, rfl, Nat.le_of_ble_eq_true rfl, Nat.le_of_ble_eq_true rfl⟩ dL_law_340 (fun u H locs hp w => ?_)
  have w : Wd D A s.heap [(m0, .inr (12, [.ref m1, .ref m2, .ref m3, .ref m4, .ref m5, .int 0, .ref m6, .int 0, .int 0, .int 0, .int 0, .int 0, .int 0, .int 0, .int 0, .int 0, .int 0, .int (-1), .ref m7, .ref m8, .int 0, .ref m9, .int 0, .ref m10, .ref m11, .ref m12, .ref m13, .ref m14, .int 0, .ref m15, .ref m16, .ref m17]))] _ _ := w.pick [0] rfl rfl
  refine r_top (g2 := F0 m 343 ls [.int (-1)]) rfl ?_
  refine lv_aload_n C.1 C.2.1 dL_law_343 rfl (lv_at hl 2 rfl) ?_
  refine lv_aload_n C.1 C.2.1 dL_law_344 rfl (lv_at hl 0 rfl) ?_
  refine lv_iload C.1 C.2.1 dL_law_345 (lv_at hl 4 rfl) ?_
  refine lv_iconst (v := 1) C.1 C.2.1 dL_law_347 (by decide) ?_
  refine r_iadd C (v := 1) dL_law_348 (by decide) ?_
  refine r_sld C w hX hbl hbA (v := 1) (vinD (by decide)) sx1 dL_law_349 ?_
  refine r_callV C w fv_RL_141 (c_X12_fault_1 l D cy m0 m1 m2 m3 m4 m5 m6 m7 m8 m9 m10 m11 m12 m13 m14 m15 m16 m17) (hl.1.trans hml.symm) [0] [] (wr := []) ⟨rfl, rfl, rfl, rfl, by decide⟩ 0 rfl rfl rfl rfl rfl ⟨Nat.le_of_ble_eq_true rfl, Nat.le_of_ble_eq_true rfl, Nat.le_of_ble_eq_true rfl⟩ 37 29845 ⟨rfl, rfl, Nat.le_of_ble_eq_true rfl, Nat.le_of_ble_eq_true rfl⟩ dL_law_350 (fun u H locs hp w => ?_)
  have w : Wd D A s.heap [(m0, .inr (12, [.ref m1, .ref m2, .ref m3, .ref m4, .ref m5, .int 0, .ref m6, .int 0, .int 0, .int 0, .int 0, .int 0, .int 0, .int 0, .int 0, .int 0, .int 0, .int (-1), .ref m7, .ref m8, .int 0, .ref m9, .int 0, .ref m10, .ref m11, .ref m12, .ref m13, .ref m14, .int 0, .ref m15, .ref m16, .ref m17]))] _ _ := w.pick [0] rfl rfl
  refine r_top (g2 := F0 m 353 ls [.int (-1), .int (-1)]) rfl ?_
  refine b_icmp_eq_t C (tgt := 2461) dL_law_353 (by decide) (by decide) ?_
  refine W.widen (k := 600002) (n := 7302232) (Nat.le_of_ble_eq_true rfl) (Nat.le_of_ble_eq_true rfl) ?_
  exact kk _ _ _ w.2.2 (lv_sub hl [0, 4] rfl)
set_option maxRecDepth 100000 in
set_option maxHeartbeats 4000000 in
theorem s_L_2_2 {p : Program} {l : Launch} {e : Env} {s : State} {m : MethodId} {args : Array Value} {below : List Frame} {meth : Method} {c : Code} {Q : State → Prop} {D : va_G} {cy : Nat → ClassId} {A : Nat → Prop} {H : Heap} {locs : List Loc} {ls : Array Slot} {xs : Nat → Int32} (b q0 q1 q2 q4 q5 q6 q10 m0 m1 m2 m3 m4 m5 m6 m7 m8 m9 m10 m11 m12 m13 m14 m15 m16 m17 o0 : Nat) (sx1 : xs 1 = 0) (C : Cx p s m args c cL_law RL D cy A) (hml : c.maxLocals = 8) (hX : va_X b 6 xs s s.heap) (hbl : b < s.heap.size) (hbA : ¬ A b) (w : Wd D A s.heap [(q0, .inr (11, [.ref q1, .int 0, .int 0, .int (-1), .ref q2, .ref q4, .ref q5, .ref q6, .ref q10, .null])), (m0, .inr (12, [.ref m1, .ref m2, .ref m3, .ref m4, .ref m5, .int 0, .ref m6, .int 0, .int 0, .int 0, .int 0, .int 0, .int 0, .int 0, .int 0, .int 0, .int 0, .int (-1), .ref m7, .ref m8, .int 0, .ref m9, .int 0, .ref m10, .ref m11, .ref m12, .ref m13, .ref m14, .int 0, .ref m15, .ref m16, .ref m17]))] H locs) (hl : lv_has ls 8 [(0, .ref b), (1, .ref q0), (2, .ref m0), (3, .ref o0), (4, .int 0)]) (kk : ∀ (H : Heap) (locs : List Loc) (ls : Array Slot), va_S A s.heap H locs → lv_has ls 8 [(0, .ref b), (4, .int 0)] → W p l e room_1 s m args below meth c H locs 600002 7302232 Q (F0 m 2461 ls [])) : W p l e room_1 s m args below meth c H locs 37 29845 Q (F0 m 333 ls []) := by
  refine lv_aload_n C.1 C.2.1 dL_law_333 rfl (lv_at hl 1 rfl) ?_
  refine lv_aload_n C.1 C.2.1 dL_law_334 rfl (lv_at hl 0 rfl) ?_
  refine lv_iload C.1 C.2.1 dL_law_335 (lv_at hl 4 rfl) ?_
  refine lv_iconst (v := 1) C.1 C.2.1 dL_law_337 (by decide) ?_
  refine r_iadd C (v := 1) dL_law_338 (by decide) ?_
  refine r_sld C w hX hbl hbA (v := 0) (vinD (by decide)) sx1 dL_law_339 ?_
  refine r_callV C w fv_RL_138 (c_X11_fault_2 l D cy q0 q1 q2 q4 q5 q6 q10) (hl.1.trans hml.symm) [0] [1] (wr := [(m0, .inr (12, [.ref m1, .ref m2, .ref m3, .ref m4, .ref m5, .int 0, .ref m6, .int 0, .int 0, .int 0, .int 0, .int 0, .int 0, .int 0, .int 0, .int 0, .int 0, .int (-1), .ref m7, .ref m8, .int 0, .ref m9, .int 0, .ref m10, .ref m11, .ref m12, .ref m13, .ref m14, .int 0, .ref m15, .ref m16, .ref m17]))]) ⟨rfl, rfl, rfl, rfl, by decide⟩ 0 rfl rfl rfl rfl rfl ⟨Nat.le_of_ble_eq_true rfl, Nat.le_of_ble_eq_true rfl, Nat.le_of_ble_eq_true rfl⟩ 37 29845 ⟨rfl, rfl, Nat.le_of_ble_eq_true rfl, Nat.le_of_ble_eq_true rfl⟩ dL_law_340 (fun u H locs hp w => ?_)
  have w : Wd D A s.heap [(m0, .inr (12, [.ref m1, .ref m2, .ref m3, .ref m4, .ref m5, .int 0, .ref m6, .int 0, .int 0, .int 0, .int 0, .int 0, .int 0, .int 0, .int 0, .int 0, .int 0, .int (-1), .ref m7, .ref m8, .int 0, .ref m9, .int 0, .ref m10, .ref m11, .ref m12, .ref m13, .ref m14, .int 0, .ref m15, .ref m16, .ref m17]))] _ _ := w.pick [0] rfl rfl
  refine r_top (g2 := F0 m 343 ls [.int 0]) rfl ?_
  refine lv_aload_n C.1 C.2.1 dL_law_343 rfl (lv_at hl 2 rfl) ?_
  refine lv_aload_n C.1 C.2.1 dL_law_344 rfl (lv_at hl 0 rfl) ?_
  refine lv_iload C.1 C.2.1 dL_law_345 (lv_at hl 4 rfl) ?_
  refine lv_iconst (v := 1) C.1 C.2.1 dL_law_347 (by decide) ?_
  refine r_iadd C (v := 1) dL_law_348 (by decide) ?_
  refine r_sld C w hX hbl hbA (v := 0) (vinD (by decide)) sx1 dL_law_349 ?_
  refine r_callV C w fv_RL_141 (c_X12_fault_2 l D cy m0 m1 m2 m3 m4 m5 m6 m7 m8 m9 m10 m11 m12 m13 m14 m15 m16 m17) (hl.1.trans hml.symm) [0] [] (wr := []) ⟨rfl, rfl, rfl, rfl, by decide⟩ 0 rfl rfl rfl rfl rfl ⟨Nat.le_of_ble_eq_true rfl, Nat.le_of_ble_eq_true rfl, Nat.le_of_ble_eq_true rfl⟩ 37 29845 ⟨rfl, rfl, Nat.le_of_ble_eq_true rfl, Nat.le_of_ble_eq_true rfl⟩ dL_law_350 (fun u H locs hp w => ?_)
  have w : Wd D A s.heap [(m0, .inr (12, [.ref m1, .ref m2, .ref m3, .ref m4, .ref m5, .int 0, .ref m6, .int 0, .int 0, .int 0, .int 0, .int 0, .int 0, .int 0, .int 0, .int 0, .int 0, .int (-1), .ref m7, .ref m8, .int 0, .ref m9, .int 0, .ref m10, .ref m11, .ref m12, .ref m13, .ref m14, .int 0, .ref m15, .ref m16, .ref m17]))] _ _ := w.pick [0] rfl rfl
  refine r_top (g2 := F0 m 353 ls [.int 0, .int 0]) rfl ?_
  refine b_icmp_eq_t C (tgt := 2461) dL_law_353 (by decide) (by decide) ?_
  refine W.widen (k := 600002) (n := 7302232) (Nat.le_of_ble_eq_true rfl) (Nat.le_of_ble_eq_true rfl) ?_
  exact kk _ _ _ w.2.2 (lv_sub hl [0, 4] rfl)
set_option maxRecDepth 100000 in
set_option maxHeartbeats 4000000 in
theorem t_L_2 {p : Program} {l : Launch} {e : Env} {s : State} {m : MethodId} {args : Array Value} {below : List Frame} {meth : Method} {c : Code} {Q : State → Prop} {D : va_G} {cy : Nat → ClassId} {A : Nat → Prop} {H : Heap} {locs : List Loc} {ls : Array Slot} {xs : Nat → Int32} (b q0 q1 q2 q4 q5 q6 q10 q3 q7 q8 q9 q11 q12 q13 q14 q15 q16 q17 m0 m1 m2 m3 m4 m5 m6 m7 m8 m9 m10 m11 m12 m13 m14 m15 m16 m17 o0 : Nat) (hst : l.stackTraces = false) (C : Cx p s m args c cL_law RL D cy A) (hml : c.maxLocals = 8) (hX : va_X b 6 xs s s.heap) (hbl : b < s.heap.size) (hbA : ¬ A b) (w : Wd D A s.heap [(q0, .inr (11, [.ref q1, .int 0, .int 0, .int (-1), .ref q2, .ref q4, .ref q5, .ref q6, .ref q10, .null])), (q1, .inl (cy 0, 900, .inl (fun _ => 0))), (q2, .inr (5, [.ref q3, .int 0, .int 0, .int 0, .int 0, .int 0, .int 0, .null])), (q3, .inl (cy 0, 0, .inl (fun _ => 0))), (q4, .inl (cy 4, 5, .inr (.inr (.inr (.inr (va_up (fun _ => none) 0 (some q10))))))), (q5, .inl (cy 4, 3, .inr (.inr (.inr (.inr (fun _ => none)))))), (q6, .inr (10, [.ref q7, .ref q8, .ref q9])), (q7, .inl (cy 1, 4, .inl (upd (upd (upd (upd (fun _ => 0) 0 (-1)) 1 (-1)) 2 (-1)) 3 (-1)))), (q8, .inl (cy 1, 4, .inl (fun _ => 0))), (q9, .inl (cy 2, 160, .inr (.inl (fun _ => 0)))), (q10, .inr (9, [.int 0, .int 2, .int 20, .int 120, .int 0, .int 0, .int 0, .int 0, .ref q11, .int 0, .ref q12, .ref q13, .int 0, .ref q14, .ref q15, .ref q16, .ref q17])), (q11, .inl (cy 1, 6, .inl (fun _ => 0))), (q12, .inl (cy 1, 20, .inl (fun _ => 0))), (q13, .inl (cy 1, 20, .inl (fun _ => 0))), (q14, .inl (cy 1, 300, .inl (fun _ => 0))), (q15, .inl (cy 1, 300, .inl (fun _ => 0))), (q16, .inl (cy 1, 300, .inl (fun _ => 0))), (q17, .inl (cy 1, 300, .inl (fun _ => 0))), (m0, .inr (12, [.ref m1, .ref m2, .ref m3, .ref m4, .ref m5, .int 0, .ref m6, .int 0, .int 0, .int 0, .int 0, .int 0, .int 0, .int 0, .int 0, .int 0, .int 0, .int (-1), .ref m7, .ref m8, .int 0, .ref m9, .int 0, .ref m10, .ref m11, .ref m12, .ref m13, .ref m14, .int 0, .ref m15, .ref m16, .ref m17])), (m2, .inl (cy 1, 1868, .inl (fun _ => 0))), (m3, .inl (cy 1, 1868, .inl (fun _ => 0))), (m4, .inl (cy 1, 5604, .inl (fun _ => 0))), (m5, .inl (cy 3, 3, .inl (fun _ => 0))), (m6, .inl (cy 1, 900, .inl (fun _ => 0))), (m7, .inl (cy 1, 1830, .inl (fun _ => 0))), (m8, .inl (cy 1, 1830, .inl (fun _ => 0))), (m9, .inl (cy 2, 2465, .inr (.inl (fun _ => 0)))), (m10, .inl (cy 1, 7201, .inl (fun _ => 0))), (m11, .inl (cy 1, 1830, .inl (fun _ => 0))), (m12, .inl (cy 1, 5, .inl (fun _ => 0))), (m13, .inl (cy 1, 6, .inl (fun _ => 0))), (m14, .inl (cy 1, 6, .inl (fun _ => 0))), (m15, .inl (cy 1, 4, .inl (upd (upd (upd (upd (fun _ => 0) 0 (-1)) 1 (-1)) 2 (-1)) 3 (-1)))), (m16, .inl (cy 1, 4, .inl (fun _ => 0))), (m17, .inl (cy 2, 160, .inr (.inl (fun _ => 0)))), (m1, .inl (cy 1, 1868, .inl (upd (upd (upd (fun _ => 0) 1 2) 2 20) 3 120))), (o0, .inl (cy 2, 1, .inr (.inl (fun _ => 0))))] H locs) (hl : lv_has ls 8 [(0, .ref b), (1, .ref q0), (2, .ref m0), (3, .ref o0), (4, .int 0)]) (kk : ∀ (H : Heap) (locs : List Loc) (ls : Array Slot), va_S A s.heap H locs → lv_has ls 8 [(0, .ref b), (4, .int 0)] → W p l e room_1 s m args below meth c H locs 600002 7302232 Q (F0 m 2461 ls [])) : W p l e room_1 s m args below meth c H locs 37 29845 Q (F0 m 333 ls []) := by
  obtain ⟨y1, sx1⟩ : ∃ y, xs 1 = y := ⟨_, rfl⟩
  obtain ⟨y2, sx2⟩ : ∃ y, xs 2 = y := ⟨_, rfl⟩
  obtain ⟨y3, sx3⟩ : ∃ y, xs 3 = y := ⟨_, rfl⟩
  obtain ⟨y4, sx4⟩ : ∃ y, xs 4 = y := ⟨_, rfl⟩
  obtain ⟨y5, sx5⟩ : ∃ y, xs 5 = y := ⟨_, rfl⟩
  by_cases g1 : y1 = 0
  · subst g1
    exact s_L_2_2 b q0 q1 q2 q4 q5 q6 q10 m0 m1 m2 m3 m4 m5 m6 m7 m8 m9 m10 m11 m12 m13 m14 m15 m16 m17 o0 sx1 C hml hX hbl hbA (w.pick [0, 18] rfl rfl) hl kk
  · by_cases g2 : y1 = 1
    · subst g2
      exact s_L_2_1 b q0 q1 q2 q4 q5 q6 q10 m0 m1 m2 m3 m4 m5 m6 m7 m8 m9 m10 m11 m12 m13 m14 m15 m16 m17 o0 sx1 C hml hX hbl hbA (w.pick [0, 18] rfl rfl) hl kk
    · exact s_L_2_0 b q0 q1 q2 q4 q5 q6 q10 m0 m1 m2 m3 m4 m5 m6 m7 m8 m9 m10 m11 m12 m13 m14 m15 m16 m17 o0 y1 g1 g2 sx1 C hml hX hbl hbA (w.pick [0, 18] rfl rfl) hl kk
theorem dL_law_358 : decode cL_law 358 = .ok (.aload_n 1, 1) := by decide +kernel
theorem dL_law_359 : decode cL_law 359 = .ok (.aload_n 0, 1) := by decide +kernel
theorem dL_law_360 : decode cL_law 360 = .ok (.iload 4, 2) := by decide +kernel
theorem dL_law_362 : decode cL_law 362 = .ok (.iconst 1, 1) := by decide +kernel
theorem dL_law_363 : decode cL_law 363 = .ok (.iadd, 1) := by decide +kernel
theorem dL_law_364 : decode cL_law 364 = .ok (.iaload, 1) := by decide +kernel
theorem dL_law_365 : decode cL_law 365 = .ok (.aload_n 0, 1) := by decide +kernel
theorem dL_law_366 : decode cL_law 366 = .ok (.iload 4, 2) := by decide +kernel
theorem dL_law_368 : decode cL_law 368 = .ok (.iconst 2, 1) := by decide +kernel
theorem dL_law_369 : decode cL_law 369 = .ok (.iadd, 1) := by decide +kernel
theorem dL_law_370 : decode cL_law 370 = .ok (.iaload, 1) := by decide +kernel
theorem dL_law_371 : decode cL_law 371 = .ok (.aload_n 3, 1) := by decide +kernel
theorem dL_law_372 : decode cL_law 372 = .ok (.invokestatic 142, 3) := by decide +kernel
theorem fh_RL_142 : FH RL 142 yL_world cL_world 5 (some .int) [(0, 10, 13, 19), (0, 10, 17, 13)] 4 := ⟨⟨gw_mem (by decide +kernel) (by decide +kernel), gw_mem (by decide +kernel) (by decide +kernel), gw_mem (by decide +kernel) (by decide +kernel), gw_mem (by decide +kernel) (by decide +kernel)⟩, ⟨by decide +kernel, by decide +kernel, by decide +kernel⟩⟩
theorem dL_law_375 : decode cL_law 375 = .ok (.istore 5, 2) := by decide +kernel
theorem dL_law_377 : decode cL_law 377 = .ok (.aload_n 2, 1) := by decide +kernel
theorem dL_law_378 : decode cL_law 378 = .ok (.aload_n 0, 1) := by decide +kernel
theorem dL_law_379 : decode cL_law 379 = .ok (.iload 4, 2) := by decide +kernel
theorem dL_law_381 : decode cL_law 381 = .ok (.iconst 1, 1) := by decide +kernel
theorem dL_law_382 : decode cL_law 382 = .ok (.iadd, 1) := by decide +kernel
theorem dL_law_383 : decode cL_law 383 = .ok (.iaload, 1) := by decide +kernel
theorem dL_law_384 : decode cL_law 384 = .ok (.aload_n 0, 1) := by decide +kernel
theorem dL_law_385 : decode cL_law 385 = .ok (.iload 4, 2) := by decide +kernel
theorem dL_law_387 : decode cL_law 387 = .ok (.iconst 2, 1) := by decide +kernel
theorem dL_law_388 : decode cL_law 388 = .ok (.iadd, 1) := by decide +kernel
theorem dL_law_389 : decode cL_law 389 = .ok (.iaload, 1) := by decide +kernel
theorem dL_law_390 : decode cL_law 390 = .ok (.invokevirtual 145, 3) := by decide +kernel
theorem fv_RL_145 : FV RL 145 yX12_world cX12_world 3 (some .int) 2 := ⟨⟨gw_mem (by decide +kernel) (by decide +kernel), gw_mem (by decide +kernel) (by decide +kernel), gw_mem (by decide +kernel) (by decide +kernel), gw_mem (by decide +kernel) (by decide +kernel), gw_mem (by decide +kernel) (by decide +kernel)⟩, ⟨by decide +kernel, by decide +kernel, by decide +kernel⟩⟩
theorem dL_law_393 : decode cL_law 393 = .ok (.istore 6, 2) := by decide +kernel
theorem dL_law_395 : decode cL_law 395 = .ok (.aload_n 2, 1) := by decide +kernel
theorem dL_law_396 : decode cL_law 396 = .ok (.invokevirtual 134, 3) := by decide +kernel
set_option maxRecDepth 100000 in
set_option maxHeartbeats 4000000 in
theorem c_X12_thrown_2 (l : Launch) (D : va_G) (cy : Nat → ClassId) (a0 a1 a2 a3 a4 a5 a6 a7 a8 a9 a10 a11 a12 a13 a14 a15 a16 a17 : Nat) : Ct l D cy yX12_thrown cX12_thrown 1 (some .int) 0 0 0 0 [(a0, .inr (12, [.ref a1, .ref a2, .ref a3, .ref a4, .ref a5, .int 1, .ref a6, .int 0, .int 0, .int 0, .int 0, .int 0, .int 0, .int 0, .int 0, .int 0, .int 0, .int (-1), .ref a7, .ref a8, .int 190, .ref a9, .int 0, .ref a10, .ref a11, .ref a12, .ref a13, .ref a14, .int 0, .ref a15, .ref a16, .ref a17]))] [.ref a0] (fun u : Unit => some (.int 1)) (fun _ => True) (fun u : Unit => [(a0, .inr (12, [.ref a1, .ref a2, .ref a3, .ref a4, .ref a5, .int 1, .ref a6, .int 0, .int 0, .int 0, .int 0, .int 0, .int 0, .int 0, .int 0, .int 0, .int 0, .int (-1), .ref a7, .ref a8, .int 190, .ref a9, .int 0, .ref a10, .ref a11, .ref a12, .ref a13, .ref a14, .int 0, .ref a15, .ref a16, .ref a17]))]) := by
  refine Ct.of (by decide +kernel) (Nat.le_of_ble_eq_true rfl) ?_
  intro p e s m args below meth c A ls C hr hlocks hml hnm w hl
  have hl : lv_has ls 1 [(0, .ref a0)] := hl
  refine lv_aload_n C.1 C.2.1 dX12_thrown_0 rfl (lv_at hl 0 rfl) ?_
  refine r_get C w 0 rfl rfl 5 (by decide) fl_RX12_71 (v := .int 1) rfl dX12_thrown_1 ?_
  exact r_iret C w hlocks () hr rfl rfl trivial [0] rfl rfl ⟨Nat.le_of_ble_eq_true rfl, Nat.le_of_ble_eq_true rfl⟩ dX12_thrown_4
theorem dL_law_399 : decode cL_law 399 = .ok (.iload 5, 2) := by decide +kernel
theorem dL_law_401 : decode cL_law 401 = .ok (.if_icmp .eq 5, 3) := by decide +kernel
theorem dL_law_406 : decode cL_law 406 = .ok (.iload 5, 2) := by decide +kernel
theorem dL_law_408 : decode cL_law 408 = .ok (.ifCond .ne 15, 3) := by decide +kernel
theorem dL_law_423 : decode cL_law 423 = .ok (.goto 2038, 3) := by decide +kernel
set_option maxRecDepth 100000 in
set_option maxHeartbeats 4000000 in
theorem s_L_3_0 {p : Program} {l : Launch} {e : Env} {s : State} {m : MethodId} {args : Array Value} {below : List Frame} {meth : Method} {c : Code} {Q : State → Prop} {D : va_G} {cy : Nat → ClassId} {A : Nat → Prop} {H : Heap} {locs : List Loc} {ls : Array Slot} {xs : Nat → Int32} (b q0 q1 q2 q4 q5 q6 q10 m0 m1 m2 m3 m4 m5 m6 m7 m8 m9 m10 m11 m12 m13 m14 m15 m16 m17 o0 : Nat) (y1 : Int32) (y2 : Int32) (k0 : y1 < 0) (sx1 : xs 1 = y1) (sx2 : xs 2 = y2) (hst : l.stackTraces = false) (C : Cx p s m args c cL_law RL D cy A) (hml : c.maxLocals = 8) (hX : va_X b 6 xs s s.heap) (hbl : b < s.heap.size) (hbA : ¬ A b) (w : Wd D A s.heap [(q0, .inr (11, [.ref q1, .int 0, .int 0, .int (-1), .ref q2, .ref q4, .ref q5, .ref q6, .ref q10, .null])), (m0, .inr (12, [.ref m1, .ref m2, .ref m3, .ref m4, .ref m5, .int 0, .ref m6, .int 0, .int 0, .int 0, .int 0, .int 0, .int 0, .int 0, .int 0, .int 0, .int 0, .int (-1), .ref m7, .ref m8, .int 0, .ref m9, .int 0, .ref m10, .ref m11, .ref m12, .ref m13, .ref m14, .int 0, .ref m15, .ref m16, .ref m17])), (m7, .inl (cy 1, 1830, .inl (fun _ => 0))), (m8, .inl (cy 1, 1830, .inl (fun _ => 0))), (m1, .inl (cy 1, 1868, .inl (upd (upd (upd (fun _ => 0) 1 2) 2 20) 3 120)))] H locs) (hl : lv_has ls 8 [(0, .ref b), (1, .ref q0), (2, .ref m0), (3, .ref o0), (4, .int 0)]) (kk : ∀ (H : Heap) (locs : List Loc) (ls : Array Slot), va_S A s.heap H locs → lv_has ls 8 [(0, .ref b), (4, .int 0)] → W p l e room_1 s m args below meth c H locs 600002 7302232 Q (F0 m 2461 ls [])) : W p l e room_1 s m args below meth c H locs 37 29845 Q (F0 m 358 ls []) := by
  refine lv_aload_n C.1 C.2.1 dL_law_358 rfl (lv_at hl 1 rfl) ?_
  refine lv_aload_n C.1 C.2.1 dL_law_359 rfl (lv_at hl 0 rfl) ?_
  refine lv_iload C.1 C.2.1 dL_law_360 (lv_at hl 4 rfl) ?_
  refine lv_iconst (v := 1) C.1 C.2.1 dL_law_362 (by decide) ?_
  refine r_iadd C (v := 1) dL_law_363 (by decide) ?_
  refine r_sld C w hX hbl hbA (v := y1) (vinD (by decide)) sx1 dL_law_364 ?_
  refine lv_aload_n C.1 C.2.1 dL_law_365 rfl (lv_at hl 0 rfl) ?_
  refine lv_iload C.1 C.2.1 dL_law_366 (lv_at hl 4 rfl) ?_
  refine lv_iconst (v := 2) C.1 C.2.1 dL_law_368 (by decide) ?_
  refine r_iadd C (v := 2) dL_law_369 (by decide) ?_
  refine r_sld C w hX hbl hbA (v := y2) (vinD (by decide)) sx2 dL_law_370 ?_
  refine lv_aload_n C.1 C.2.1 dL_law_371 rfl (lv_at hl 3 rfl) ?_
  refine r_callH C w fh_RL_142 (c_L_world_0 l D cy q0 o0 q1 q2 q4 q5 q6 q10 y1 y2 k0 hst) (hl.1.trans hml.symm) [0] [1, 2, 3, 4] (wr := [(m0, .inr (12, [.ref m1, .ref m2, .ref m3, .ref m4, .ref m5, .int 0, .ref m6, .int 0, .int 0, .int 0, .int 0, .int 0, .int 0, .int 0, .int 0, .int 0, .int 0, .int (-1), .ref m7, .ref m8, .int 0, .ref m9, .int 0, .ref m10, .ref m11, .ref m12, .ref m13, .ref m14, .int 0, .ref m15, .ref m16, .ref m17])), (m7, .inl (cy 1, 1830, .inl (fun _ => 0))), (m8, .inl (cy 1, 1830, .inl (fun _ => 0))), (m1, .inl (cy 1, 1868, .inl (upd (upd (upd (fun _ => 0) 1 2) 2 20) 3 120)))]) ⟨rfl, rfl, rfl, rfl, by decide⟩ rfl rfl ⟨Nat.le_of_ble_eq_true rfl, Nat.le_of_ble_eq_true rfl, Nat.le_of_ble_eq_true rfl⟩ 38 29851 ⟨rfl, rfl, Nat.le_of_ble_eq_true rfl, Nat.le_of_ble_eq_true rfl⟩ dL_law_372 (fun u H locs hp w => ?_)
  have w : Wd D A s.heap [(m0, .inr (12, [.ref m1, .ref m2, .ref m3, .ref m4, .ref m5, .int 0, .ref m6, .int 0, .int 0, .int 0, .int 0, .int 0, .int 0, .int 0, .int 0, .int 0, .int 0, .int (-1), .ref m7, .ref m8, .int 0, .ref m9, .int 0, .ref m10, .ref m11, .ref m12, .ref m13, .ref m14, .int 0, .ref m15, .ref m16, .ref m17])), (m7, .inl (cy 1, 1830, .inl (fun _ => 0))), (m8, .inl (cy 1, 1830, .inl (fun _ => 0))), (m1, .inl (cy 1, 1868, .inl (upd (upd (upd (fun _ => 0) 1 2) 2 20) 3 120)))] _ _ := w.pick [0, 1, 2, 3] rfl rfl
  refine r_top (g2 := F0 m 375 ls [.int 1]) rfl ?_
  refine lv_istore (lv' := [(5, .int 1), (0, .ref b), (1, .ref q0), (2, .ref m0), (3, .ref o0), (4, .int 0)]) C.1 C.2.1 dL_law_375 hl (by decide) rfl (fun ls hl => ?_)
  refine lv_aload_n C.1 C.2.1 dL_law_377 rfl (lv_at hl 3 rfl) ?_
  refine lv_aload_n C.1 C.2.1 dL_law_378 rfl (lv_at hl 1 rfl) ?_
  refine lv_iload C.1 C.2.1 dL_law_379 (lv_at hl 5 rfl) ?_
  refine lv_iconst (v := 1) C.1 C.2.1 dL_law_381 (by decide) ?_
  refine r_iadd C (v := 1) dL_law_382 (by decide) ?_
  refine r_sld C w hX hbl hbA (v := y1) (vinD (by decide)) sx1 dL_law_383 ?_
  refine lv_aload_n C.1 C.2.1 dL_law_384 rfl (lv_at hl 1 rfl) ?_
  refine lv_iload C.1 C.2.1 dL_law_385 (lv_at hl 5 rfl) ?_
  refine lv_iconst (v := 2) C.1 C.2.1 dL_law_387 (by decide) ?_
  refine r_iadd C (v := 2) dL_law_388 (by decide) ?_
  refine r_sld C w hX hbl hbA (v := y2) (vinD (by decide)) sx2 dL_law_389 ?_
  refine r_callV C w fv_RL_145 (c_X12_world_0 l D cy m0 m1 m2 m3 m4 m5 m6 m7 m8 m9 m10 m11 m12 m13 m14 m15 m16 m17 y1 y2 k0) (hl.1.trans hml.symm) [0, 3, 1, 2] [] (wr := []) ⟨rfl, rfl, rfl, rfl, by decide⟩ 0 rfl rfl rfl rfl rfl ⟨Nat.le_of_ble_eq_true rfl, Nat.le_of_ble_eq_true rfl, Nat.le_of_ble_eq_true rfl⟩ 38 29851 ⟨rfl, rfl, Nat.le_of_ble_eq_true rfl, Nat.le_of_ble_eq_true rfl⟩ dL_law_390 (fun u H locs hp w => ?_)
  have w : Wd D A s.heap [(m0, .inr (12, [.ref m1, .ref m2, .ref m3, .ref m4, .ref m5, .int 1, .ref m6, .int 0, .int 0, .int 0, .int 0, .int 0, .int 0, .int 0, .int 0, .int 0, .int 0, .int (-1), .ref m7, .ref m8, .int 190, .ref m9, .int 0, .ref m10, .ref m11, .ref m12, .ref m13, .ref m14, .int 0, .ref m15, .ref m16, .ref m17]))] _ _ := w.pick [3] rfl rfl
  refine r_top (g2 := F0 m 393 ls [.int 0]) rfl ?_
  refine lv_istore (lv' := [(6, .int 0), (5, .int 1), (0, .ref b), (1, .ref q0), (2, .ref m0), (3, .ref o0), (4, .int 0)]) C.1 C.2.1 dL_law_393 hl (by decide) rfl (fun ls hl => ?_)
  refine lv_aload_n C.1 C.2.1 dL_law_395 rfl (lv_at hl 4 rfl) ?_
  refine r_callV C w fv_RL_134 (c_X12_thrown_2 l D cy m0 m1 m2 m3 m4 m5 m6 m7 m8 m9 m10 m11 m12 m13 m14 m15 m16 m17) (hl.1.trans hml.symm) [0] [] (wr := []) ⟨rfl, rfl, rfl, rfl, by decide⟩ 0 rfl rfl rfl rfl rfl ⟨Nat.le_of_ble_eq_true rfl, Nat.le_of_ble_eq_true rfl, Nat.le_of_ble_eq_true rfl⟩ 38 29851 ⟨rfl, rfl, Nat.le_of_ble_eq_true rfl, Nat.le_of_ble_eq_true rfl⟩ dL_law_396 (fun u H locs hp w => ?_)
  have w : Wd D A s.heap [(m0, .inr (12, [.ref m1, .ref m2, .ref m3, .ref m4, .ref m5, .int 1, .ref m6, .int 0, .int 0, .int 0, .int 0, .int 0, .int 0, .int 0, .int 0, .int 0, .int 0, .int (-1), .ref m7, .ref m8, .int 190, .ref m9, .int 0, .ref m10, .ref m11, .ref m12, .ref m13, .ref m14, .int 0, .ref m15, .ref m16, .ref m17]))] _ _ := w.pick [0] rfl rfl
  refine r_top (g2 := F0 m 399 ls [.int 1]) rfl ?_
  refine lv_iload C.1 C.2.1 dL_law_399 (lv_at hl 1 rfl) ?_
  refine b_icmp_eq_t C (tgt := 406) dL_law_401 (by decide) (by decide) ?_
  refine lv_iload C.1 C.2.1 dL_law_406 (lv_at hl 1 rfl) ?_
  refine b_if_ne_t C (tgt := 423) dL_law_408 (by decide) (by decide) ?_
  refine lv_goto (tgt := 2461) C.1 C.2.1 dL_law_423 (by decide) ?_
  refine W.widen (k := 600002) (n := 7302232) (Nat.le_of_ble_eq_true rfl) (Nat.le_of_ble_eq_true rfl) ?_
  exact kk _ _ _ w.2.2 (lv_sub hl [2, 6] rfl)
set_option maxRecDepth 100000 in
set_option maxHeartbeats 4000000 in
theorem s_L_3_1 {p : Program} {l : Launch} {e : Env} {s : State} {m : MethodId} {args : Array Value} {below : List Frame} {meth : Method} {c : Code} {Q : State → Prop} {D : va_G} {cy : Nat → ClassId} {A : Nat → Prop} {H : Heap} {locs : List Loc} {ls : Array Slot} {xs : Nat → Int32} (b q0 q1 q2 q4 q5 q6 q10 q11 q12 q13 q14 q15 q16 q17 m0 m1 m2 m3 m4 m5 m6 m7 m8 m9 m10 m11 m12 m13 m14 m15 m16 m17 o0 : Nat) (y1 : Int32) (y2 : Int32) (k0 : ¬ y1 < 0) (k1 : ¬ y1 < 190) (sx1 : xs 1 = y1) (sx2 : xs 2 = y2) (hst : l.stackTraces = false) (C : Cx p s m args c cL_law RL D cy A) (hml : c.maxLocals = 8) (hX : va_X b 6 xs s s.heap) (hbl : b < s.heap.size) (hbA : ¬ A b) (w : Wd D A s.heap [(q0, .inr (11, [.ref q1, .int 0, .int 0, .int (-1), .ref q2, .ref q4, .ref q5, .ref q6, .ref q10, .null])), (q10, .inr (9, [.int 0, .int 2, .int 20, .int 120, .int 0, .int 0, .int 0, .int 0, .ref q11, .int 0, .ref q12, .ref q13, .int 0, .ref q14, .ref q15, .ref q16, .ref q17])), (m0, .inr (12, [.ref m1, .ref m2, .ref m3, .ref m4, .ref m5, .int 0, .ref m6, .int 0, .int 0, .int 0, .int 0, .int 0, .int 0, .int 0, .int 0, .int 0, .int 0, .int (-1), .ref m7, .ref m8, .int 0, .ref m9, .int 0, .ref m10, .ref m11, .ref m12, .ref m13, .ref m14, .int 0, .ref m15, .ref m16, .ref m17])), (m7, .inl (cy 1, 1830, .inl (fun _ => 0))), (m8, .inl (cy 1, 1830, .inl (fun _ => 0))), (m1, .inl (cy 1, 1868, .inl (upd (upd (upd (fun _ => 0) 1 2) 2 20) 3 120)))] H locs) (hl : lv_has ls 8 [(0, .ref b), (1, .ref q0), (2, .ref m0), (3, .ref o0), (4, .int 0)]) (kk : ∀ (H : Heap) (locs : List Loc) (ls : Array Slot), va_S A s.heap H locs → lv_has ls 8 [(0, .ref b), (4, .int 0)] → W p l e room_1 s m args below meth c H locs 600002 7302232 Q (F0 m 2461 ls [])) : W p l e room_1 s m args below meth c H locs 37 29845 Q (F0 m 358 ls []) := by
  refine lv_aload_n C.1 C.2.1 dL_law_358 rfl (lv_at hl 1 rfl) ?_
  refine lv_aload_n C.1 C.2.1 dL_law_359 rfl (lv_at hl 0 rfl) ?_
  refine lv_iload C.1 C.2.1 dL_law_360 (lv_at hl 4 rfl) ?_
  refine lv_iconst (v := 1) C.1 C.2.1 dL_law_362 (by decide) ?_
  refine r_iadd C (v := 1) dL_law_363 (by decide) ?_
  refine r_sld C w hX hbl hbA (v := y1) (vinD (by decide)) sx1 dL_law_364 ?_
  refine lv_aload_n C.1 C.2.1 dL_law_365 rfl (lv_at hl 0 rfl) ?_
  refine lv_iload C.1 C.2.1 dL_law_366 (lv_at hl 4 rfl) ?_
  refine lv_iconst (v := 2) C.1 C.2.1 dL_law_368 (by decide) ?_
  refine r_iadd C (v := 2) dL_law_369 (by decide) ?_
  refine r_sld C w hX hbl hbA (v := y2) (vinD (by decide)) sx2 dL_law_370 ?_
  refine lv_aload_n C.1 C.2.1 dL_law_371 rfl (lv_at hl 3 rfl) ?_
  refine r_callH C w fh_RL_142 (c_L_world_1 l D cy q0 o0 q1 q2 q4 q5 q6 q10 q11 q12 q13 q14 q15 q16 q17 y1 y2 k0 k1 hst) (hl.1.trans hml.symm) [0, 1] [2, 3, 4, 5] (wr := [(m0, .inr (12, [.ref m1, .ref m2, .ref m3, .ref m4, .ref m5, .int 0, .ref m6, .int 0, .int 0, .int 0, .int 0, .int 0, .int 0, .int 0, .int 0, .int 0, .int 0, .int (-1), .ref m7, .ref m8, .int 0, .ref m9, .int 0, .ref m10, .ref m11, .ref m12, .ref m13, .ref m14, .int 0, .ref m15, .ref m16, .ref m17])), (m7, .inl (cy 1, 1830, .inl (fun _ => 0))), (m8, .inl (cy 1, 1830, .inl (fun _ => 0))), (m1, .inl (cy 1, 1868, .inl (upd (upd (upd (fun _ => 0) 1 2) 2 20) 3 120)))]) ⟨rfl, rfl, rfl, rfl, by decide⟩ rfl rfl ⟨Nat.le_of_ble_eq_true rfl, Nat.le_of_ble_eq_true rfl, Nat.le_of_ble_eq_true rfl⟩ 74 53668 ⟨rfl, rfl, Nat.le_of_ble_eq_true rfl, Nat.le_of_ble_eq_true rfl⟩ dL_law_372 (fun u H locs hp w => ?_)
  have w : Wd D A s.heap [(m0, .inr (12, [.ref m1, .ref m2, .ref m3, .ref m4, .ref m5, .int 0, .ref m6, .int 0, .int 0, .int 0, .int 0, .int 0, .int 0, .int 0, .int 0, .int 0, .int 0, .int (-1), .ref m7, .ref m8, .int 0, .ref m9, .int 0, .ref m10, .ref m11, .ref m12, .ref m13, .ref m14, .int 0, .ref m15, .ref m16, .ref m17])), (m7, .inl (cy 1, 1830, .inl (fun _ => 0))), (m8, .inl (cy 1, 1830, .inl (fun _ => 0))), (m1, .inl (cy 1, 1868, .inl (upd (upd (upd (fun _ => 0) 1 2) 2 20) 3 120)))] _ _ := w.pick [0, 1, 2, 3] rfl rfl
  refine r_top (g2 := F0 m 375 ls [.int 1]) rfl ?_
  refine lv_istore (lv' := [(5, .int 1), (0, .ref b), (1, .ref q0), (2, .ref m0), (3, .ref o0), (4, .int 0)]) C.1 C.2.1 dL_law_375 hl (by decide) rfl (fun ls hl => ?_)
  refine lv_aload_n C.1 C.2.1 dL_law_377 rfl (lv_at hl 3 rfl) ?_
  refine lv_aload_n C.1 C.2.1 dL_law_378 rfl (lv_at hl 1 rfl) ?_
  refine lv_iload C.1 C.2.1 dL_law_379 (lv_at hl 5 rfl) ?_
  refine lv_iconst (v := 1) C.1 C.2.1 dL_law_381 (by decide) ?_
  refine r_iadd C (v := 1) dL_law_382 (by decide) ?_
  refine r_sld C w hX hbl hbA (v := y1) (vinD (by decide)) sx1 dL_law_383 ?_
  refine lv_aload_n C.1 C.2.1 dL_law_384 rfl (lv_at hl 1 rfl) ?_
  refine lv_iload C.1 C.2.1 dL_law_385 (lv_at hl 5 rfl) ?_
  refine lv_iconst (v := 2) C.1 C.2.1 dL_law_387 (by decide) ?_
  refine r_iadd C (v := 2) dL_law_388 (by decide) ?_
  refine r_sld C w hX hbl hbA (v := y2) (vinD (by decide)) sx2 dL_law_389 ?_
  refine r_callV C w fv_RL_145 (c_X12_world_1 l D cy m0 m1 m2 m3 m4 m5 m6 m7 m8 m9 m10 m11 m12 m13 m14 m15 m16 m17 y1 y2 k0 (by have h0 := (i_nlt k0); have h1 := (i_nlt k1); have e0 : (0 : Int32).toInt = 0 := (by decide); have e1 : (189 : Int32).toInt = 189 := (by decide); have e2 : (190 : Int32).toInt = 190 := (by decide); rw [fa_lt]; omega)) (hl.1.trans hml.symm) [0, 3, 1, 2] [] (wr := []) ⟨rfl, rfl, rfl, rfl, by decide⟩ 0 rfl rfl rfl rfl rfl ⟨Nat.le_of_ble_eq_true rfl, Nat.le_of_ble_eq_true rfl, Nat.le_of_ble_eq_true rfl⟩ 74 53668 ⟨rfl, rfl, Nat.le_of_ble_eq_true rfl, Nat.le_of_ble_eq_true rfl⟩ dL_law_390 (fun u H locs hp w => ?_)
  have w : Wd D A s.heap [(m0, .inr (12, [.ref m1, .ref m2, .ref m3, .ref m4, .ref m5, .int 1, .ref m6, .int 0, .int 0, .int 0, .int 0, .int 0, .int 0, .int 0, .int 0, .int 0, .int 0, .int (-1), .ref m7, .ref m8, .int 190, .ref m9, .int 0, .ref m10, .ref m11, .ref m12, .ref m13, .ref m14, .int 0, .ref m15, .ref m16, .ref m17]))] _ _ := w.pick [3] rfl rfl
  refine r_top (g2 := F0 m 393 ls [.int 0]) rfl ?_
  refine lv_istore (lv' := [(6, .int 0), (5, .int 1), (0, .ref b), (1, .ref q0), (2, .ref m0), (3, .ref o0), (4, .int 0)]) C.1 C.2.1 dL_law_393 hl (by decide) rfl (fun ls hl => ?_)
  refine lv_aload_n C.1 C.2.1 dL_law_395 rfl (lv_at hl 4 rfl) ?_
  refine r_callV C w fv_RL_134 (c_X12_thrown_2 l D cy m0 m1 m2 m3 m4 m5 m6 m7 m8 m9 m10 m11 m12 m13 m14 m15 m16 m17) (hl.1.trans hml.symm) [0] [] (wr := []) ⟨rfl, rfl, rfl, rfl, by decide⟩ 0 rfl rfl rfl rfl rfl ⟨Nat.le_of_ble_eq_true rfl, Nat.le_of_ble_eq_true rfl, Nat.le_of_ble_eq_true rfl⟩ 74 53668 ⟨rfl, rfl, Nat.le_of_ble_eq_true rfl, Nat.le_of_ble_eq_true rfl⟩ dL_law_396 (fun u H locs hp w => ?_)
  have w : Wd D A s.heap [(m0, .inr (12, [.ref m1, .ref m2, .ref m3, .ref m4, .ref m5, .int 1, .ref m6, .int 0, .int 0, .int 0, .int 0, .int 0, .int 0, .int 0, .int 0, .int 0, .int 0, .int (-1), .ref m7, .ref m8, .int 190, .ref m9, .int 0, .ref m10, .ref m11, .ref m12, .ref m13, .ref m14, .int 0, .ref m15, .ref m16, .ref m17]))] _ _ := w.pick [0] rfl rfl
  refine r_top (g2 := F0 m 399 ls [.int 1]) rfl ?_
  refine lv_iload C.1 C.2.1 dL_law_399 (lv_at hl 1 rfl) ?_
  refine b_icmp_eq_t C (tgt := 406) dL_law_401 (by decide) (by decide) ?_
  refine lv_iload C.1 C.2.1 dL_law_406 (lv_at hl 1 rfl) ?_
  refine b_if_ne_t C (tgt := 423) dL_law_408 (by decide) (by decide) ?_
  refine lv_goto (tgt := 2461) C.1 C.2.1 dL_law_423 (by decide) ?_
  refine W.widen (k := 600002) (n := 7302232) (Nat.le_of_ble_eq_true rfl) (Nat.le_of_ble_eq_true rfl) ?_
  exact kk _ _ _ w.2.2 (lv_sub hl [2, 6] rfl)
set_option maxRecDepth 100000 in
set_option maxHeartbeats 4000000 in
theorem c_X12_thrown_3 (l : Launch) (D : va_G) (cy : Nat → ClassId) (a0 a1 a2 a3 a4 a5 a6 a7 a8 a9 a10 a11 a12 a13 a14 a15 a16 a17 : Nat) : Ct l D cy yX12_thrown cX12_thrown 1 (some .int) 0 0 0 0 [(a0, .inr (12, [.ref a1, .ref a2, .ref a3, .ref a4, .ref a5, .int 0, .ref a6, .int 0, .int 0, .int 0, .int 0, .int 0, .int 0, .int 0, .int 0, .int 0, .int 0, .int (-1), .ref a7, .ref a8, .int 190, .ref a9, .int 0, .ref a10, .ref a11, .ref a12, .ref a13, .ref a14, .int 0, .ref a15, .ref a16, .ref a17]))] [.ref a0] (fun u : Unit => some (.int 0)) (fun _ => True) (fun u : Unit => [(a0, .inr (12, [.ref a1, .ref a2, .ref a3, .ref a4, .ref a5, .int 0, .ref a6, .int 0, .int 0, .int 0, .int 0, .int 0, .int 0, .int 0, .int 0, .int 0, .int 0, .int (-1), .ref a7, .ref a8, .int 190, .ref a9, .int 0, .ref a10, .ref a11, .ref a12, .ref a13, .ref a14, .int 0, .ref a15, .ref a16, .ref a17]))]) := by
  refine Ct.of (by decide +kernel) (Nat.le_of_ble_eq_true rfl) ?_
  intro p e s m args below meth c A ls C hr hlocks hml hnm w hl
  have hl : lv_has ls 1 [(0, .ref a0)] := hl
  refine lv_aload_n C.1 C.2.1 dX12_thrown_0 rfl (lv_at hl 0 rfl) ?_
  refine r_get C w 0 rfl rfl 5 (by decide) fl_RX12_71 (v := .int 0) rfl dX12_thrown_1 ?_
  exact r_iret C w hlocks () hr rfl rfl trivial [0] rfl rfl ⟨Nat.le_of_ble_eq_true rfl, Nat.le_of_ble_eq_true rfl⟩ dX12_thrown_4
theorem dL_law_411 : decode cL_law 411 = .ok (.aload_n 3, 1) := by decide +kernel
theorem dL_law_412 : decode cL_law 412 = .ok (.iconst 0, 1) := by decide +kernel
theorem dL_law_413 : decode cL_law 413 = .ok (.laload, 1) := by decide +kernel
theorem dL_law_414 : decode cL_law 414 = .ok (.iload 6, 2) := by decide +kernel
theorem dL_law_416 : decode cL_law 416 = .ok (.i2l, 1) := by decide +kernel
theorem dL_law_417 : decode cL_law 417 = .ok (.lcmp, 1) := by decide +kernel
theorem dL_law_418 : decode cL_law 418 = .ok (.ifCond .eq 5, 3) := by decide +kernel
set_option maxRecDepth 100000 in
set_option maxHeartbeats 4000000 in
theorem s_L_3_2 {p : Program} {l : Launch} {e : Env} {s : State} {m : MethodId} {args : Array Value} {below : List Frame} {meth : Method} {c : Code} {Q : State → Prop} {D : va_G} {cy : Nat → ClassId} {A : Nat → Prop} {H : Heap} {locs : List Loc} {ls : Array Slot} {xs : Nat → Int32} (b q0 q1 q2 q4 q5 q6 q10 q11 q12 q13 q14 q15 q16 q17 m0 m1 m2 m3 m4 m5 m6 m7 m8 m9 m10 m11 m12 m13 m14 m15 m16 m17 o0 : Nat) (y1 : Int32) (k0 : ¬ y1 < 0) (k1 : y1 < 190) (sx1 : xs 1 = y1) (sx2 : xs 2 = 0) (C : Cx p s m args c cL_law RL D cy A) (hml : c.maxLocals = 8) (hX : va_X b 6 xs s s.heap) (hbl : b < s.heap.size) (hbA : ¬ A b) (w : Wd D A s.heap [(q0, .inr (11, [.ref q1, .int 0, .int 0, .int (-1), .ref q2, .ref q4, .ref q5, .ref q6, .ref q10, .null])), (q10, .inr (9, [.int 0, .int 2, .int 20, .int 120, .int 0, .int 0, .int 0, .int 0, .ref q11, .int 0, .ref q12, .ref q13, .int 0, .ref q14, .ref q15, .ref q16, .ref q17])), (m0, .inr (12, [.ref m1, .ref m2, .ref m3, .ref m4, .ref m5, .int 0, .ref m6, .int 0, .int 0, .int 0, .int 0, .int 0, .int 0, .int 0, .int 0, .int 0, .int 0, .int (-1), .ref m7, .ref m8, .int 0, .ref m9, .int 0, .ref m10, .ref m11, .ref m12, .ref m13, .ref m14, .int 0, .ref m15, .ref m16, .ref m17])), (m7, .inl (cy 1, 1830, .inl (fun _ => 0))), (m8, .inl (cy 1, 1830, .inl (fun _ => 0))), (m1, .inl (cy 1, 1868, .inl (upd (upd (upd (fun _ => 0) 1 2) 2 20) 3 120))), (o0, .inl (cy 2, 1, .inr (.inl (fun _ => 0))))] H locs) (hl : lv_has ls 8 [(0, .ref b), (1, .ref q0), (2, .ref m0), (3, .ref o0), (4, .int 0)]) (kk : ∀ (H : Heap) (locs : List Loc) (ls : Array Slot), va_S A s.heap H locs → lv_has ls 8 [(0, .ref b), (4, .int 0)] → W p l e room_1 s m args below meth c H locs 600002 7302232 Q (F0 m 2461 ls [])) : W p l e room_1 s m args below meth c H locs 37 29845 Q (F0 m 358 ls []) := by
  refine lv_aload_n C.1 C.2.1 dL_law_358 rfl (lv_at hl 1 rfl) ?_
  refine lv_aload_n C.1 C.2.1 dL_law_359 rfl (lv_at hl 0 rfl) ?_
  refine lv_iload C.1 C.2.1 dL_law_360 (lv_at hl 4 rfl) ?_
  refine lv_iconst (v := 1) C.1 C.2.1 dL_law_362 (by decide) ?_
  refine r_iadd C (v := 1) dL_law_363 (by decide) ?_
  refine r_sld C w hX hbl hbA (v := y1) (vinD (by decide)) sx1 dL_law_364 ?_
  refine lv_aload_n C.1 C.2.1 dL_law_365 rfl (lv_at hl 0 rfl) ?_
  refine lv_iload C.1 C.2.1 dL_law_366 (lv_at hl 4 rfl) ?_
  refine lv_iconst (v := 2) C.1 C.2.1 dL_law_368 (by decide) ?_
  refine r_iadd C (v := 2) dL_law_369 (by decide) ?_
  refine r_sld C w hX hbl hbA (v := 0) (vinD (by decide)) sx2 dL_law_370 ?_
  refine lv_aload_n C.1 C.2.1 dL_law_371 rfl (lv_at hl 3 rfl) ?_
  refine r_callH C w fh_RL_142 (c_L_world_2 l D cy q0 o0 q1 q2 q4 q5 q6 q10 q11 q12 q13 q14 q15 q16 q17 y1 k0 k1) (hl.1.trans hml.symm) [0, 1, 6] [2, 3, 4, 5] (wr := [(m0, .inr (12, [.ref m1, .ref m2, .ref m3, .ref m4, .ref m5, .int 0, .ref m6, .int 0, .int 0, .int 0, .int 0, .int 0, .int 0, .int 0, .int 0, .int 0, .int 0, .int (-1), .ref m7, .ref m8, .int 0, .ref m9, .int 0, .ref m10, .ref m11, .ref m12, .ref m13, .ref m14, .int 0, .ref m15, .ref m16, .ref m17])), (m7, .inl (cy 1, 1830, .inl (fun _ => 0))), (m8, .inl (cy 1, 1830, .inl (fun _ => 0))), (m1, .inl (cy 1, 1868, .inl (upd (upd (upd (fun _ => 0) 1 2) 2 20) 3 120)))]) ⟨rfl, rfl, rfl, rfl, by decide⟩ rfl rfl ⟨Nat.le_of_ble_eq_true rfl, Nat.le_of_ble_eq_true rfl, Nat.le_of_ble_eq_true rfl⟩ 73 53662 ⟨rfl, rfl, Nat.le_of_ble_eq_true rfl, Nat.le_of_ble_eq_true rfl⟩ dL_law_372 (fun u H locs hp w => ?_)
  obtain ⟨n1, n2, n3, n4, n5, n6, n7, n8, n9, n10, n11, n12, n13, n14, n15, n16, n17, n18, n19, n20, n21, n22, n23, n24, n25, n26, n27, n28, n29, n30, n31, n32, n33, n34, n35, n36⟩ := u
  have w : Wd D A s.heap [(m0, .inr (12, [.ref m1, .ref m2, .ref m3, .ref m4, .ref m5, .int 0, .ref m6, .int 0, .int 0, .int 0, .int 0, .int 0, .int 0, .int 0, .int 0, .int 0, .int 0, .int (-1), .ref m7, .ref m8, .int 0, .ref m9, .int 0, .ref m10, .ref m11, .ref m12, .ref m13, .ref m14, .int 0, .ref m15, .ref m16, .ref m17])), (m7, .inl (cy 1, 1830, .inl (fun _ => 0))), (m8, .inl (cy 1, 1830, .inl (fun _ => 0))), (m1, .inl (cy 1, 1868, .inl (upd (upd (upd (fun _ => 0) 1 2) 2 20) 3 120))), (o0, .inl (cy 2, 1, .inr (.inl (vp_updL (fun _ => 0) 0 (Int32.toInt64 (xW y1))))))] _ _ := w.pick [0, 1, 2, 3, 4] rfl rfl
  refine r_top (g2 := F0 m 375 ls [.int 0]) rfl ?_
  refine lv_istore (lv' := [(5, .int 0), (0, .ref b), (1, .ref q0), (2, .ref m0), (3, .ref o0), (4, .int 0)]) C.1 C.2.1 dL_law_375 hl (by decide) rfl (fun ls hl => ?_)
  refine lv_aload_n C.1 C.2.1 dL_law_377 rfl (lv_at hl 3 rfl) ?_
  refine lv_aload_n C.1 C.2.1 dL_law_378 rfl (lv_at hl 1 rfl) ?_
  refine lv_iload C.1 C.2.1 dL_law_379 (lv_at hl 5 rfl) ?_
  refine lv_iconst (v := 1) C.1 C.2.1 dL_law_381 (by decide) ?_
  refine r_iadd C (v := 1) dL_law_382 (by decide) ?_
  refine r_sld C w hX hbl hbA (v := y1) (vinD (by decide)) sx1 dL_law_383 ?_
  refine lv_aload_n C.1 C.2.1 dL_law_384 rfl (lv_at hl 1 rfl) ?_
  refine lv_iload C.1 C.2.1 dL_law_385 (lv_at hl 5 rfl) ?_
  refine lv_iconst (v := 2) C.1 C.2.1 dL_law_387 (by decide) ?_
  refine r_iadd C (v := 2) dL_law_388 (by decide) ?_
  refine r_sld C w hX hbl hbA (v := 0) (vinD (by decide)) sx2 dL_law_389 ?_
  refine r_callV C w fv_RL_145 (c_X12_world_4 l D cy m0 m1 m2 m3 m4 m5 m6 m7 m8 m9 m10 m11 m12 m13 m14 m15 m16 m17 y1 k0 (by have h0 := (i_nlt k0); have h1 := (i_lt k1); have e0 : (0 : Int32).toInt = 0 := (by decide); have e1 : (189 : Int32).toInt = 189 := (by decide); have e2 : (190 : Int32).toInt = 190 := (by decide); rw [fa_lt]; omega)) (hl.1.trans hml.symm) [0, 3, 1, 2] [4] (wr := [(o0, .inl (cy 2, 1, .inr (.inl (vp_updL (fun _ => 0) 0 (Int32.toInt64 (xW y1))))))]) ⟨rfl, rfl, rfl, rfl, by decide⟩ 0 rfl rfl rfl rfl rfl ⟨Nat.le_of_ble_eq_true rfl, Nat.le_of_ble_eq_true rfl, Nat.le_of_ble_eq_true rfl⟩ 73 53662 ⟨rfl, rfl, Nat.le_of_ble_eq_true rfl, Nat.le_of_ble_eq_true rfl⟩ dL_law_390 (fun u H locs hp w => ?_)
  have w : Wd D A s.heap [(o0, .inl (cy 2, 1, .inr (.inl (vp_updL (fun _ => 0) 0 (Int32.toInt64 (xW y1)))))), (m0, .inr (12, [.ref m1, .ref m2, .ref m3, .ref m4, .ref m5, .int 0, .ref m6, .int 0, .int 0, .int 0, .int 0, .int 0, .int 0, .int 0, .int 0, .int 0, .int 0, .int (-1), .ref m7, .ref m8, .int 190, .ref m9, .int 0, .ref m10, .ref m11, .ref m12, .ref m13, .ref m14, .int 0, .ref m15, .ref m16, .ref m17]))] _ _ := w.pick [0, 1] rfl rfl
  refine r_top (g2 := F0 m 393 ls [.int (xW y1)]) rfl ?_
  refine lv_istore (lv' := [(6, .int (xW y1)), (5, .int 0), (0, .ref b), (1, .ref q0), (2, .ref m0), (3, .ref o0), (4, .int 0)]) C.1 C.2.1 dL_law_393 hl (by decide) rfl (fun ls hl => ?_)
  refine lv_aload_n C.1 C.2.1 dL_law_395 rfl (lv_at hl 4 rfl) ?_
  refine r_callV C w fv_RL_134 (c_X12_thrown_3 l D cy m0 m1 m2 m3 m4 m5 m6 m7 m8 m9 m10 m11 m12 m13 m14 m15 m16 m17) (hl.1.trans hml.symm) [1] [0] (wr := [(o0, .inl (cy 2, 1, .inr (.inl (vp_updL (fun _ => 0) 0 (Int32.toInt64 (xW y1))))))]) ⟨rfl, rfl, rfl, rfl, by decide⟩ 0 rfl rfl rfl rfl rfl ⟨Nat.le_of_ble_eq_true rfl, Nat.le_of_ble_eq_true rfl, Nat.le_of_ble_eq_true rfl⟩ 73 53662 ⟨rfl, rfl, Nat.le_of_ble_eq_true rfl, Nat.le_of_ble_eq_true rfl⟩ dL_law_396 (fun u H locs hp w => ?_)
  have w : Wd D A s.heap [(o0, .inl (cy 2, 1, .inr (.inl (vp_updL (fun _ => 0) 0 (Int32.toInt64 (xW y1)))))), (m0, .inr (12, [.ref m1, .ref m2, .ref m3, .ref m4, .ref m5, .int 0, .ref m6, .int 0, .int 0, .int 0, .int 0, .int 0, .int 0, .int 0, .int 0, .int 0, .int 0, .int (-1), .ref m7, .ref m8, .int 190, .ref m9, .int 0, .ref m10, .ref m11, .ref m12, .ref m13, .ref m14, .int 0, .ref m15, .ref m16, .ref m17]))] _ _ := w.pick [0, 1] rfl rfl
  refine r_top (g2 := F0 m 399 ls [.int 0]) rfl ?_
  refine lv_iload C.1 C.2.1 dL_law_399 (lv_at hl 1 rfl) ?_
  refine b_icmp_eq_t C (tgt := 406) dL_law_401 (by decide) (by decide) ?_
  refine lv_iload C.1 C.2.1 dL_law_406 (lv_at hl 1 rfl) ?_
  refine b_if_ne_f C (tgt := 423) dL_law_408 (by decide) (by decide) ?_
  refine lv_aload_n C.1 C.2.1 dL_law_411 rfl (lv_at hl 5 rfl) ?_
  refine lv_iconst (v := 0) C.1 C.2.1 dL_law_412 (by decide) ?_
  refine r_lald C w 0 rfl (v := (Int32.toInt64 (xW y1))) (vinD (by decide)) rfl dL_law_413 ?_
  refine lv_iload C.1 C.2.1 dL_law_414 (lv_at hl 0 rfl) ?_
  refine lv_i2l (v := (Int32.toInt64 (xW y1))) C.1 C.2.1 dL_law_416 rfl ?_
  refine r_lcmp C (v := 0) dL_law_417 (lg_cmp_self _) ?_
  refine b_if_eq_t C (tgt := 423) dL_law_418 (by decide) (by decide) ?_
  refine lv_goto (tgt := 2461) C.1 C.2.1 dL_law_423 (by decide) ?_
  refine W.widen (k := 600002) (n := 7302232) (Nat.le_of_ble_eq_true rfl) (Nat.le_of_ble_eq_true rfl) ?_
  exact kk _ _ _ w.2.2 (lv_sub hl [2, 6] rfl)
set_option maxRecDepth 100000 in
set_option maxHeartbeats 4000000 in
theorem s_L_3_3 {p : Program} {l : Launch} {e : Env} {s : State} {m : MethodId} {args : Array Value} {below : List Frame} {meth : Method} {c : Code} {Q : State → Prop} {D : va_G} {cy : Nat → ClassId} {A : Nat → Prop} {H : Heap} {locs : List Loc} {ls : Array Slot} {xs : Nat → Int32} (b q0 q1 q2 q4 q5 q6 q10 q11 q12 q13 q14 q15 q16 q17 m0 m1 m2 m3 m4 m5 m6 m7 m8 m9 m10 m11 m12 m13 m14 m15 m16 m17 o0 : Nat) (y1 : Int32) (k0 : ¬ y1 < 0) (k1 : y1 < 190) (sx1 : xs 1 = y1) (sx2 : xs 2 = 1) (C : Cx p s m args c cL_law RL D cy A) (hml : c.maxLocals = 8) (hX : va_X b 6 xs s s.heap) (hbl : b < s.heap.size) (hbA : ¬ A b) (w : Wd D A s.heap [(q0, .inr (11, [.ref q1, .int 0, .int 0, .int (-1), .ref q2, .ref q4, .ref q5, .ref q6, .ref q10, .null])), (q10, .inr (9, [.int 0, .int 2, .int 20, .int 120, .int 0, .int 0, .int 0, .int 0, .ref q11, .int 0, .ref q12, .ref q13, .int 0, .ref q14, .ref q15, .ref q16, .ref q17])), (m0, .inr (12, [.ref m1, .ref m2, .ref m3, .ref m4, .ref m5, .int 0, .ref m6, .int 0, .int 0, .int 0, .int 0, .int 0, .int 0, .int 0, .int 0, .int 0, .int 0, .int (-1), .ref m7, .ref m8, .int 0, .ref m9, .int 0, .ref m10, .ref m11, .ref m12, .ref m13, .ref m14, .int 0, .ref m15, .ref m16, .ref m17])), (m7, .inl (cy 1, 1830, .inl (fun _ => 0))), (m8, .inl (cy 1, 1830, .inl (fun _ => 0))), (m1, .inl (cy 1, 1868, .inl (upd (upd (upd (fun _ => 0) 1 2) 2 20) 3 120))), (o0, .inl (cy 2, 1, .inr (.inl (fun _ => 0))))] H locs) (hl : lv_has ls 8 [(0, .ref b), (1, .ref q0), (2, .ref m0), (3, .ref o0), (4, .int 0)]) (kk : ∀ (H : Heap) (locs : List Loc) (ls : Array Slot), va_S A s.heap H locs → lv_has ls 8 [(0, .ref b), (4, .int 0)] → W p l e room_1 s m args below meth c H locs 600002 7302232 Q (F0 m 2461 ls [])) : W p l e room_1 s m args below meth c H locs 37 29845 Q (F0 m 358 ls []) := by
  refine lv_aload_n C.1 C.2.1 dL_law_358 rfl (lv_at hl 1 rfl) ?_
  refine lv_aload_n C.1 C.2.1 dL_law_359 rfl (lv_at hl 0 rfl) ?_
  refine lv_iload C.1 C.2.1 dL_law_360 (lv_at hl 4 rfl) ?_
  refine lv_iconst (v := 1) C.1 C.2.1 dL_law_362 (by decide) ?_
  refine r_iadd C (v := 1) dL_law_363 (by decide) ?_
  refine r_sld C w hX hbl hbA (v := y1) (vinD (by decide)) sx1 dL_law_364 ?_
  refine lv_aload_n C.1 C.2.1 dL_law_365 rfl (lv_at hl 0 rfl) ?_
  refine lv_iload C.1 C.2.1 dL_law_366 (lv_at hl 4 rfl) ?_
  refine lv_iconst (v := 2) C.1 C.2.1 dL_law_368 (by decide) ?_
  refine r_iadd C (v := 2) dL_law_369 (by decide) ?_
  refine r_sld C w hX hbl hbA (v := 1) (vinD (by decide)) sx2 dL_law_370 ?_
  refine lv_aload_n C.1 C.2.1 dL_law_371 rfl (lv_at hl 3 rfl) ?_
  refine r_callH C w fh_RL_142 (c_L_world_3 l D cy q0 o0 q1 q2 q4 q5 q6 q10 q11 q12 q13 q14 q15 q16 q17 y1 k0 k1) (hl.1.trans hml.symm) [0, 1, 6] [2, 3, 4, 5] (wr := [(m0, .inr (12, [.ref m1, .ref m2, .ref m3, .ref m4, .ref m5, .int 0, .ref m6, .int 0, .int 0, .int 0, .int 0, .int 0, .int 0, .int 0, .int 0, .int 0, .int 0, .int (-1), .ref m7, .ref m8, .int 0, .ref m9, .int 0, .ref m10, .ref m11, .ref m12, .ref m13, .ref m14, .int 0, .ref m15, .ref m16, .ref m17])), (m7, .inl (cy 1, 1830, .inl (fun _ => 0))), (m8, .inl (cy 1, 1830, .inl (fun _ => 0))), (m1, .inl (cy 1, 1868, .inl (upd (upd (upd (fun _ => 0) 1 2) 2 20) 3 120)))]) ⟨rfl, rfl, rfl, rfl, by decide⟩ rfl rfl ⟨Nat.le_of_ble_eq_true rfl, Nat.le_of_ble_eq_true rfl, Nat.le_of_ble_eq_true rfl⟩ 73 53662 ⟨rfl, rfl, Nat.le_of_ble_eq_true rfl, Nat.le_of_ble_eq_true rfl⟩ dL_law_372 (fun u H locs hp w => ?_)
  obtain ⟨n1, n2, n3, n4, n5, n6, n7, n8, n9, n10, n11, n12, n13, n14, n15, n16, n17, n18, n19, n20, n21, n22, n23, n24, n25, n26, n27, n28, n29, n30, n31, n32, n33, n34, n35, n36⟩ := u
  have w : Wd D A s.heap [(m0, .inr (12, [.ref m1, .ref m2, .ref m3, .ref m4, .ref m5, .int 0, .ref m6, .int 0, .int 0, .int 0, .int 0, .int 0, .int 0, .int 0, .int 0, .int 0, .int 0, .int (-1), .ref m7, .ref m8, .int 0, .ref m9, .int 0, .ref m10, .ref m11, .ref m12, .ref m13, .ref m14, .int 0, .ref m15, .ref m16, .ref m17])), (m7, .inl (cy 1, 1830, .inl (fun _ => 0))), (m8, .inl (cy 1, 1830, .inl (fun _ => 0))), (m1, .inl (cy 1, 1868, .inl (upd (upd (upd (fun _ => 0) 1 2) 2 20) 3 120))), (o0, .inl (cy 2, 1, .inr (.inl (vp_updL (fun _ => 0) 0 (Int32.toInt64 (yW y1))))))] _ _ := w.pick [0, 1, 2, 3, 4] rfl rfl
  refine r_top (g2 := F0 m 375 ls [.int 0]) rfl ?_
  refine lv_istore (lv' := [(5, .int 0), (0, .ref b), (1, .ref q0), (2, .ref m0), (3, .ref o0), (4, .int 0)]) C.1 C.2.1 dL_law_375 hl (by decide) rfl (fun ls hl => ?_)
  refine lv_aload_n C.1 C.2.1 dL_law_377 rfl (lv_at hl 3 rfl) ?_
  refine lv_aload_n C.1 C.2.1 dL_law_378 rfl (lv_at hl 1 rfl) ?_
  refine lv_iload C.1 C.2.1 dL_law_379 (lv_at hl 5 rfl) ?_
  refine lv_iconst (v := 1) C.1 C.2.1 dL_law_381 (by decide) ?_
  refine r_iadd C (v := 1) dL_law_382 (by decide) ?_
  refine r_sld C w hX hbl hbA (v := y1) (vinD (by decide)) sx1 dL_law_383 ?_
  refine lv_aload_n C.1 C.2.1 dL_law_384 rfl (lv_at hl 1 rfl) ?_
  refine lv_iload C.1 C.2.1 dL_law_385 (lv_at hl 5 rfl) ?_
  refine lv_iconst (v := 2) C.1 C.2.1 dL_law_387 (by decide) ?_
  refine r_iadd C (v := 2) dL_law_388 (by decide) ?_
  refine r_sld C w hX hbl hbA (v := 1) (vinD (by decide)) sx2 dL_law_389 ?_
  refine r_callV C w fv_RL_145 (c_X12_world_3 l D cy m0 m1 m2 m3 m4 m5 m6 m7 m8 m9 m10 m11 m12 m13 m14 m15 m16 m17 y1 1 k0 (by have h0 := (i_nlt k0); have h1 := (i_lt k1); have e0 : (0 : Int32).toInt = 0 := (by decide); have e1 : (189 : Int32).toInt = 189 := (by decide); have e2 : (190 : Int32).toInt = 190 := (by decide); rw [fa_lt]; omega) (by decide) (by decide) (by decide)) (hl.1.trans hml.symm) [0, 3, 1, 2] [4] (wr := [(o0, .inl (cy 2, 1, .inr (.inl (vp_updL (fun _ => 0) 0 (Int32.toInt64 (yW y1))))))]) ⟨rfl, rfl, rfl, rfl, by decide⟩ 0 rfl rfl rfl rfl rfl ⟨Nat.le_of_ble_eq_true rfl, Nat.le_of_ble_eq_true rfl, Nat.le_of_ble_eq_true rfl⟩ 73 53662 ⟨rfl, rfl, Nat.le_of_ble_eq_true rfl, Nat.le_of_ble_eq_true rfl⟩ dL_law_390 (fun u H locs hp w => ?_)
  have w : Wd D A s.heap [(o0, .inl (cy 2, 1, .inr (.inl (vp_updL (fun _ => 0) 0 (Int32.toInt64 (yW y1)))))), (m0, .inr (12, [.ref m1, .ref m2, .ref m3, .ref m4, .ref m5, .int 0, .ref m6, .int 0, .int 0, .int 0, .int 0, .int 0, .int 0, .int 0, .int 0, .int 0, .int 0, .int (-1), .ref m7, .ref m8, .int 190, .ref m9, .int 0, .ref m10, .ref m11, .ref m12, .ref m13, .ref m14, .int 0, .ref m15, .ref m16, .ref m17]))] _ _ := w.pick [0, 1] rfl rfl
  refine r_top (g2 := F0 m 393 ls [.int (yW y1)]) rfl ?_
  refine lv_istore (lv' := [(6, .int (yW y1)), (5, .int 0), (0, .ref b), (1, .ref q0), (2, .ref m0), (3, .ref o0), (4, .int 0)]) C.1 C.2.1 dL_law_393 hl (by decide) rfl (fun ls hl => ?_)
  refine lv_aload_n C.1 C.2.1 dL_law_395 rfl (lv_at hl 4 rfl) ?_
  refine r_callV C w fv_RL_134 (c_X12_thrown_3 l D cy m0 m1 m2 m3 m4 m5 m6 m7 m8 m9 m10 m11 m12 m13 m14 m15 m16 m17) (hl.1.trans hml.symm) [1] [0] (wr := [(o0, .inl (cy 2, 1, .inr (.inl (vp_updL (fun _ => 0) 0 (Int32.toInt64 (yW y1))))))]) ⟨rfl, rfl, rfl, rfl, by decide⟩ 0 rfl rfl rfl rfl rfl ⟨Nat.le_of_ble_eq_true rfl, Nat.le_of_ble_eq_true rfl, Nat.le_of_ble_eq_true rfl⟩ 73 53662 ⟨rfl, rfl, Nat.le_of_ble_eq_true rfl, Nat.le_of_ble_eq_true rfl⟩ dL_law_396 (fun u H locs hp w => ?_)
  have w : Wd D A s.heap [(o0, .inl (cy 2, 1, .inr (.inl (vp_updL (fun _ => 0) 0 (Int32.toInt64 (yW y1)))))), (m0, .inr (12, [.ref m1, .ref m2, .ref m3, .ref m4, .ref m5, .int 0, .ref m6, .int 0, .int 0, .int 0, .int 0, .int 0, .int 0, .int 0, .int 0, .int 0, .int 0, .int (-1), .ref m7, .ref m8, .int 190, .ref m9, .int 0, .ref m10, .ref m11, .ref m12, .ref m13, .ref m14, .int 0, .ref m15, .ref m16, .ref m17]))] _ _ := w.pick [0, 1] rfl rfl
  refine r_top (g2 := F0 m 399 ls [.int 0]) rfl ?_
  refine lv_iload C.1 C.2.1 dL_law_399 (lv_at hl 1 rfl) ?_
  refine b_icmp_eq_t C (tgt := 406) dL_law_401 (by decide) (by decide) ?_
  refine lv_iload C.1 C.2.1 dL_law_406 (lv_at hl 1 rfl) ?_
  refine b_if_ne_f C (tgt := 423) dL_law_408 (by decide) (by decide) ?_
  refine lv_aload_n C.1 C.2.1 dL_law_411 rfl (lv_at hl 5 rfl) ?_
  refine lv_iconst (v := 0) C.1 C.2.1 dL_law_412 (by decide) ?_
  refine r_lald C w 0 rfl (v := (Int32.toInt64 (yW y1))) (vinD (by decide)) rfl dL_law_413 ?_
  refine lv_iload C.1 C.2.1 dL_law_414 (lv_at hl 0 rfl) ?_
  refine lv_i2l (v := (Int32.toInt64 (yW y1))) C.1 C.2.1 dL_law_416 rfl ?_
  refine r_lcmp C (v := 0) dL_law_417 (lg_cmp_self _) ?_
  refine b_if_eq_t C (tgt := 423) dL_law_418 (by decide) (by decide) ?_
  refine lv_goto (tgt := 2461) C.1 C.2.1 dL_law_423 (by decide) ?_
  refine W.widen (k := 600002) (n := 7302232) (Nat.le_of_ble_eq_true rfl) (Nat.le_of_ble_eq_true rfl) ?_
  exact kk _ _ _ w.2.2 (lv_sub hl [2, 6] rfl)
set_option maxRecDepth 100000 in
set_option maxHeartbeats 4000000 in
theorem c_X12_thrown_4 (l : Launch) (D : va_G) (cy : Nat → ClassId) (a0 a1 a2 a3 a4 a5 a6 a7 a8 a9 a10 a11 a12 a13 a14 a15 a16 a17 : Nat) : Ct l D cy yX12_thrown cX12_thrown 1 (some .int) 0 0 0 0 [(a0, .inr (12, [.ref a1, .ref a2, .ref a3, .ref a4, .ref a5, .int 2, .ref a6, .int 0, .int 0, .int 0, .int 0, .int 0, .int 0, .int 0, .int 0, .int 0, .int 0, .int (-1), .ref a7, .ref a8, .int 190, .ref a9, .int 0, .ref a10, .ref a11, .ref a12, .ref a13, .ref a14, .int 0, .ref a15, .ref a16, .ref a17]))] [.ref a0] (fun u : Unit => some (.int 2)) (fun _ => True) (fun u : Unit => [(a0, .inr (12, [.ref a1, .ref a2, .ref a3, .ref a4, .ref a5, .int 2, .ref a6, .int 0, .int 0, .int 0, .int 0, .int 0, .int 0, .int 0, .int 0, .int 0, .int 0, .int (-1), .ref a7, .ref a8, .int 190, .ref a9, .int 0, .ref a10, .ref a11, .ref a12, .ref a13, .ref a14, .int 0, .ref a15, .ref a16, .ref a17]))]) := by
  refine Ct.of (by decide +kernel) (Nat.le_of_ble_eq_true rfl) ?_
  intro p e s m args below meth c A ls C hr hlocks hml hnm w hl
  have hl : lv_has ls 1 [(0, .ref a0)] := hl
  refine lv_aload_n C.1 C.2.1 dX12_thrown_0 rfl (lv_at hl 0 rfl) ?_
  refine r_get C w 0 rfl rfl 5 (by decide) fl_RX12_71 (v := .int 2) rfl dX12_thrown_1 ?_
  exact r_iret C w hlocks () hr rfl rfl trivial [0] rfl rfl ⟨Nat.le_of_ble_eq_true rfl, Nat.le_of_ble_eq_true rfl⟩ dX12_thrown_4
set_option maxRecDepth 100000 in
set_option maxHeartbeats 4000000 in
theorem s_L_3_4 {p : Program} {l : Launch} {e : Env} {s : State} {m : MethodId} {args : Array Value} {below : List Frame} {meth : Method} {c : Code} {Q : State → Prop} {D : va_G} {cy : Nat → ClassId} {A : Nat → Prop} {H : Heap} {locs : List Loc} {ls : Array Slot} {xs : Nat → Int32} (b q0 q1 q2 q4 q5 q6 q10 q11 q12 q13 q14 q15 q16 q17 m0 m1 m2 m3 m4 m5 m6 m7 m8 m9 m10 m11 m12 m13 m14 m15 m16 m17 o0 : Nat) (y1 : Int32) (y2 : Int32) (k0 : ¬ y1 < 0) (k1 : y1 < 190) (k2 : ¬ y2 = 0) (k3 : ¬ y2 = 1) (k4 : y2 < 0) (sx1 : xs 1 = y1) (sx2 : xs 2 = y2) (hst : l.stackTraces = false) (C : Cx p s m args c cL_law RL D cy A) (hml : c.maxLocals = 8) (hX : va_X b 6 xs s s.heap) (hbl : b < s.heap.size) (hbA : ¬ A b) (w : Wd D A s.heap [(q0, .inr (11, [.ref q1, .int 0, .int 0, .int (-1), .ref q2, .ref q4, .ref q5, .ref q6, .ref q10, .null])), (q10, .inr (9, [.int 0, .int 2, .int 20, .int 120, .int 0, .int 0, .int 0, .int 0, .ref q11, .int 0, .ref q12, .ref q13, .int 0, .ref q14, .ref q15, .ref q16, .ref q17])), (m0, .inr (12, [.ref m1, .ref m2, .ref m3, .ref m4, .ref m5, .int 0, .ref m6, .int 0, .int 0, .int 0, .int 0, .int 0, .int 0, .int 0, .int 0, .int 0, .int 0, .int (-1), .ref m7, .ref m8, .int 0, .ref m9, .int 0, .ref m10, .ref m11, .ref m12, .ref m13, .ref m14, .int 0, .ref m15, .ref m16, .ref m17])), (m7, .inl (cy 1, 1830, .inl (fun _ => 0))), (m8, .inl (cy 1, 1830, .inl (fun _ => 0))), (m1, .inl (cy 1, 1868, .inl (upd (upd (upd (fun _ => 0) 1 2) 2 20) 3 120)))] H locs) (hl : lv_has ls 8 [(0, .ref b), (1, .ref q0), (2, .ref m0), (3, .ref o0), (4, .int 0)]) (kk : ∀ (H : Heap) (locs : List Loc) (ls : Array Slot), va_S A s.heap H locs → lv_has ls 8 [(0, .ref b), (4, .int 0)] → W p l e room_1 s m args below meth c H locs 600002 7302232 Q (F0 m 2461 ls [])) : W p l e room_1 s m args below meth c H locs 37 29845 Q (F0 m 358 ls []) := by
  refine lv_aload_n C.1 C.2.1 dL_law_358 rfl (lv_at hl 1 rfl) ?_
  refine lv_aload_n C.1 C.2.1 dL_law_359 rfl (lv_at hl 0 rfl) ?_
  refine lv_iload C.1 C.2.1 dL_law_360 (lv_at hl 4 rfl) ?_
  refine lv_iconst (v := 1) C.1 C.2.1 dL_law_362 (by decide) ?_
  refine r_iadd C (v := 1) dL_law_363 (by decide) ?_
  refine r_sld C w hX hbl hbA (v := y1) (vinD (by decide)) sx1 dL_law_364 ?_
  refine lv_aload_n C.1 C.2.1 dL_law_365 rfl (lv_at hl 0 rfl) ?_
  refine lv_iload C.1 C.2.1 dL_law_366 (lv_at hl 4 rfl) ?_
  refine lv_iconst (v := 2) C.1 C.2.1 dL_law_368 (by decide) ?_
  refine r_iadd C (v := 2) dL_law_369 (by decide) ?_
  refine r_sld C w hX hbl hbA (v := y2) (vinD (by decide)) sx2 dL_law_370 ?_
  refine lv_aload_n C.1 C.2.1 dL_law_371 rfl (lv_at hl 3 rfl) ?_
  refine r_callH C w fh_RL_142 (c_L_world_4 l D cy q0 o0 q1 q2 q4 q5 q6 q10 q11 q12 q13 q14 q15 q16 q17 y1 y2 k0 k1 k2 k3 hst) (hl.1.trans hml.symm) [0, 1] [2, 3, 4, 5] (wr := [(m0, .inr (12, [.ref m1, .ref m2, .ref m3, .ref m4, .ref m5, .int 0, .ref m6, .int 0, .int 0, .int 0, .int 0, .int 0, .int 0, .int 0, .int 0, .int 0, .int 0, .int (-1), .ref m7, .ref m8, .int 0, .ref m9, .int 0, .ref m10, .ref m11, .ref m12, .ref m13, .ref m14, .int 0, .ref m15, .ref m16, .ref m17])), (m7, .inl (cy 1, 1830, .inl (fun _ => 0))), (m8, .inl (cy 1, 1830, .inl (fun _ => 0))), (m1, .inl (cy 1, 1868, .inl (upd (upd (upd (fun _ => 0) 1 2) 2 20) 3 120)))]) ⟨rfl, rfl, rfl, rfl, by decide⟩ rfl rfl ⟨Nat.le_of_ble_eq_true rfl, Nat.le_of_ble_eq_true rfl, Nat.le_of_ble_eq_true rfl⟩ 74 53668 ⟨rfl, rfl, Nat.le_of_ble_eq_true rfl, Nat.le_of_ble_eq_true rfl⟩ dL_law_372 (fun u H locs hp w => ?_)
  have w : Wd D A s.heap [(m0, .inr (12, [.ref m1, .ref m2, .ref m3, .ref m4, .ref m5, .int 0, .ref m6, .int 0, .int 0, .int 0, .int 0, .int 0, .int 0, .int 0, .int 0, .int 0, .int 0, .int (-1), .ref m7, .ref m8, .int 0, .ref m9, .int 0, .ref m10, .ref m11, .ref m12, .ref m13, .ref m14, .int 0, .ref m15, .ref m16, .ref m17])), (m7, .inl (cy 1, 1830, .inl (fun _ => 0))), (m8, .inl (cy 1, 1830, .inl (fun _ => 0))), (m1, .inl (cy 1, 1868, .inl (upd (upd (upd (fun _ => 0) 1 2) 2 20) 3 120)))] _ _ := w.pick [0, 1, 2, 3] rfl rfl
  refine r_top (g2 := F0 m 375 ls [.int 2]) rfl ?_
  refine lv_istore (lv' := [(5, .int 2), (0, .ref b), (1, .ref q0), (2, .ref m0), (3, .ref o0), (4, .int 0)]) C.1 C.2.1 dL_law_375 hl (by decide) rfl (fun ls hl => ?_)
  refine lv_aload_n C.1 C.2.1 dL_law_377 rfl (lv_at hl 3 rfl) ?_
  refine lv_aload_n C.1 C.2.1 dL_law_378 rfl (lv_at hl 1 rfl) ?_
  refine lv_iload C.1 C.2.1 dL_law_379 (lv_at hl 5 rfl) ?_
  refine lv_iconst (v := 1) C.1 C.2.1 dL_law_381 (by decide) ?_
  refine r_iadd C (v := 1) dL_law_382 (by decide) ?_
  refine r_sld C w hX hbl hbA (v := y1) (vinD (by decide)) sx1 dL_law_383 ?_
  refine lv_aload_n C.1 C.2.1 dL_law_384 rfl (lv_at hl 1 rfl) ?_
  refine lv_iload C.1 C.2.1 dL_law_385 (lv_at hl 5 rfl) ?_
  refine lv_iconst (v := 2) C.1 C.2.1 dL_law_387 (by decide) ?_
  refine r_iadd C (v := 2) dL_law_388 (by decide) ?_
  refine r_sld C w hX hbl hbA (v := y2) (vinD (by decide)) sx2 dL_law_389 ?_
  refine r_callV C w fv_RL_145 (c_X12_world_2 l D cy m0 m1 m2 m3 m4 m5 m6 m7 m8 m9 m10 m11 m12 m13 m14 m15 m16 m17 y1 y2 k0 (by have h0 := (i_nlt k0); have h1 := (i_lt k1); have e0 : (0 : Int32).toInt = 0 := (by decide); have e1 : (189 : Int32).toInt = 189 := (by decide); have e2 : (190 : Int32).toInt = 190 := (by decide); rw [fa_lt]; omega) k4) (hl.1.trans hml.symm) [0, 3, 1, 2] [] (wr := []) ⟨rfl, rfl, rfl, rfl, by decide⟩ 0 rfl rfl rfl rfl rfl ⟨Nat.le_of_ble_eq_true rfl, Nat.le_of_ble_eq_true rfl, Nat.le_of_ble_eq_true rfl⟩ 74 53668 ⟨rfl, rfl, Nat.le_of_ble_eq_true rfl, Nat.le_of_ble_eq_true rfl⟩ dL_law_390 (fun u H locs hp w => ?_)
  have w : Wd D A s.heap [(m0, .inr (12, [.ref m1, .ref m2, .ref m3, .ref m4, .ref m5, .int 2, .ref m6, .int 0, .int 0, .int 0, .int 0, .int 0, .int 0, .int 0, .int 0, .int 0, .int 0, .int (-1), .ref m7, .ref m8, .int 190, .ref m9, .int 0, .ref m10, .ref m11, .ref m12, .ref m13, .ref m14, .int 0, .ref m15, .ref m16, .ref m17]))] _ _ := w.pick [3] rfl rfl
  refine r_top (g2 := F0 m 393 ls [.int 0]) rfl ?_
  refine lv_istore (lv' := [(6, .int 0), (5, .int 2), (0, .ref b), (1, .ref q0), (2, .ref m0), (3, .ref o0), (4, .int 0)]) C.1 C.2.1 dL_law_393 hl (by decide) rfl (fun ls hl => ?_)
  refine lv_aload_n C.1 C.2.1 dL_law_395 rfl (lv_at hl 4 rfl) ?_
  refine r_callV C w fv_RL_134 (c_X12_thrown_4 l D cy m0 m1 m2 m3 m4 m5 m6 m7 m8 m9 m10 m11 m12 m13 m14 m15 m16 m17) (hl.1.trans hml.symm) [0] [] (wr := []) ⟨rfl, rfl, rfl, rfl, by decide⟩ 0 rfl rfl rfl rfl rfl ⟨Nat.le_of_ble_eq_true rfl, Nat.le_of_ble_eq_true rfl, Nat.le_of_ble_eq_true rfl⟩ 74 53668 ⟨rfl, rfl, Nat.le_of_ble_eq_true rfl, Nat.le_of_ble_eq_true rfl⟩ dL_law_396 (fun u H locs hp w => ?_)
  have w : Wd D A s.heap [(m0, .inr (12, [.ref m1, .ref m2, .ref m3, .ref m4, .ref m5, .int 2, .ref m6, .int 0, .int 0, .int 0, .int 0, .int 0, .int 0, .int 0, .int 0, .int 0, .int 0, .int (-1), .ref m7, .ref m8, .int 190, .ref m9, .int 0, .ref m10, .ref m11, .ref m12, .ref m13, .ref m14, .int 0, .ref m15, .ref m16, .ref m17]))] _ _ := w.pick [0] rfl rfl
  refine r_top (g2 := F0 m 399 ls [.int 2]) rfl ?_
  refine lv_iload C.1 C.2.1 dL_law_399 (lv_at hl 1 rfl) ?_
  refine b_icmp_eq_t C (tgt := 406) dL_law_401 (by decide) (by decide) ?_
  refine lv_iload C.1 C.2.1 dL_law_406 (lv_at hl 1 rfl) ?_
  refine b_if_ne_t C (tgt := 423) dL_law_408 (by decide) (by decide) ?_
  refine lv_goto (tgt := 2461) C.1 C.2.1 dL_law_423 (by decide) ?_
  refine W.widen (k := 600002) (n := 7302232) (Nat.le_of_ble_eq_true rfl) (Nat.le_of_ble_eq_true rfl) ?_
  exact kk _ _ _ w.2.2 (lv_sub hl [2, 6] rfl)
set_option maxRecDepth 100000 in
set_option maxHeartbeats 4000000 in
theorem s_L_3_5 {p : Program} {l : Launch} {e : Env} {s : State} {m : MethodId} {args : Array Value} {below : List Frame} {meth : Method} {c : Code} {Q : State → Prop} {D : va_G} {cy : Nat → ClassId} {A : Nat → Prop} {H : Heap} {locs : List Loc} {ls : Array Slot} {xs : Nat → Int32} (b q0 q1 q2 q4 q5 q6 q10 q11 q12 q13 q14 q15 q16 q17 m0 m1 m2 m3 m4 m5 m6 m7 m8 m9 m10 m11 m12 m13 m14 m15 m16 m17 o0 : Nat) (y1 : Int32) (y2 : Int32) (k0 : ¬ y1 < 0) (k1 : y1 < 190) (k2 : ¬ y2 = 0) (k3 : ¬ y2 = 1) (k4 : ¬ y2 < 0) (k5 : 1 < y2) (sx1 : xs 1 = y1) (sx2 : xs 2 = y2) (hst : l.stackTraces = false) (C : Cx p s m args c cL_law RL D cy A) (hml : c.maxLocals = 8) (hX : va_X b 6 xs s s.heap) (hbl : b < s.heap.size) (hbA : ¬ A b) (w : Wd D A s.heap [(q0, .inr (11, [.ref q1, .int 0, .int 0, .int (-1), .ref q2, .ref q4, .ref q5, .ref q6, .ref q10, .null])), (q10, .inr (9, [.int 0, .int 2, .int 20, .int 120, .int 0, .int 0, .int 0, .int 0, .ref q11, .int 0, .ref q12, .ref q13, .int 0, .ref q14, .ref q15, .ref q16, .ref q17])), (m0, .inr (12, [.ref m1, .ref m2, .ref m3, .ref m4, .ref m5, .int 0, .ref m6, .int 0, .int 0, .int 0, .int 0, .int 0, .int 0, .int 0, .int 0, .int 0, .int 0, .int (-1), .ref m7, .ref m8, .int 0, .ref m9, .int 0, .ref m10, .ref m11, .ref m12, .ref m13, .ref m14, .int 0, .ref m15, .ref m16, .ref m17])), (m7, .inl (cy 1, 1830, .inl (fun _ => 0))), (m8, .inl (cy 1, 1830, .inl (fun _ => 0))), (m1, .inl (cy 1, 1868, .inl (upd (upd (upd (fun _ => 0) 1 2) 2 20) 3 120)))] H locs) (hl : lv_has ls 8 [(0, .ref b), (1, .ref q0), (2, .ref m0), (3, .ref o0), (4, .int 0)]) (kk : ∀ (H : Heap) (locs : List Loc) (ls : Array Slot), va_S A s.heap H locs → lv_has ls 8 [(0, .ref b), (4, .int 0)] → W p l e room_1 s m args below meth c H locs 600002 7302232 Q (F0 m 2461 ls [])) : W p l e room_1 s m args below meth c H locs 37 29845 Q (F0 m 358 ls []) := by
  refine lv_aload_n C.1 C.2.1 dL_law_358 rfl (lv_at hl 1 rfl) ?_
  refine lv_aload_n C.1 C.2.1 dL_law_359 rfl (lv_at hl 0 rfl) ?_
  refine lv_iload C.1 C.2.1 dL_law_360 (lv_at hl 4 rfl) ?_
  refine lv_iconst (v := 1) C.1 C.2.1 dL_law_362 (by decide) ?_
  refine r_iadd C (v := 1) dL_law_363 (by decide) ?_
  refine r_sld C w hX hbl hbA (v := y1) (vinD (by decide)) sx1 dL_law_364 ?_
  refine lv_aload_n C.1 C.2.1 dL_law_365 rfl (lv_at hl 0 rfl) ?_
  refine lv_iload C.1 C.2.1 dL_law_366 (lv_at hl 4 rfl) ?_
  refine lv_iconst (v := 2) C.1 C.2.1 dL_law_368 (by decide) ?_
  refine r_iadd C (v := 2) dL_law_369 (by decide) ?_
  refine r_sld C w hX hbl hbA (v := y2) (vinD (by decide)) sx2 dL_law_370 ?_
  refine lv_aload_n C.1 C.2.1 dL_law_371 rfl (lv_at hl 3 rfl) ?_
  refine r_callH C w fh_RL_142 (c_L_world_4 l D cy q0 o0 q1 q2 q4 q5 q6 q10 q11 q12 q13 q14 q15 q16 q17 y1 y2 k0 k1 k2 k3 hst) (hl.1.trans hml.symm) [0, 1] [2, 3, 4, 5] (wr := [(m0, .inr (12, [.ref m1, .ref m2, .ref m3, .ref m4, .ref m5, .int 0, .ref m6, .int 0, .int 0, .int 0, .int 0, .int 0, .int 0, .int 0, .int 0, .int 0, .int 0, .int (-1), .ref m7, .ref m8, .int 0, .ref m9, .int 0, .ref m10, .ref m11, .ref m12, .ref m13, .ref m14, .int 0, .ref m15, .ref m16, .ref m17])), (m7, .inl (cy 1, 1830, .inl (fun _ => 0))), (m8, .inl (cy 1, 1830, .inl (fun _ => 0))), (m1, .inl (cy 1, 1868, .inl (upd (upd (upd (fun _ => 0) 1 2) 2 20) 3 120)))]) ⟨rfl, rfl, rfl, rfl, by decide⟩ rfl rfl ⟨Nat.le_of_ble_eq_true rfl, Nat.le_of_ble_eq_true rfl, Nat.le_of_ble_eq_true rfl⟩ 74 53668 ⟨rfl, rfl, Nat.le_of_ble_eq_true rfl, Nat.le_of_ble_eq_true rfl⟩ dL_law_372 (fun u H locs hp w => ?_)
  have w : Wd D A s.heap [(m0, .inr (12, [.ref m1, .ref m2, .ref m3, .ref m4, .ref m5, .int 0, .ref m6, .int 0, .int 0, .int 0, .int 0, .int 0, .int 0, .int 0, .int 0, .int 0, .int 0, .int (-1), .ref m7, .ref m8, .int 0, .ref m9, .int 0, .ref m10, .ref m11, .ref m12, .ref m13, .ref m14, .int 0, .ref m15, .ref m16, .ref m17])), (m7, .inl (cy 1, 1830, .inl (fun _ => 0))), (m8, .inl (cy 1, 1830, .inl (fun _ => 0))), (m1, .inl (cy 1, 1868, .inl (upd (upd (upd (fun _ => 0) 1 2) 2 20) 3 120)))] _ _ := w.pick [0, 1, 2, 3] rfl rfl
  refine r_top (g2 := F0 m 375 ls [.int 2]) rfl ?_
  refine lv_istore (lv' := [(5, .int 2), (0, .ref b), (1, .ref q0), (2, .ref m0), (3, .ref o0), (4, .int 0)]) C.1 C.2.1 dL_law_375 hl (by decide) rfl (fun ls hl => ?_)
  refine lv_aload_n C.1 C.2.1 dL_law_377 rfl (lv_at hl 3 rfl) ?_
  refine lv_aload_n C.1 C.2.1 dL_law_378 rfl (lv_at hl 1 rfl) ?_
  refine lv_iload C.1 C.2.1 dL_law_379 (lv_at hl 5 rfl) ?_
  refine lv_iconst (v := 1) C.1 C.2.1 dL_law_381 (by decide) ?_
  refine r_iadd C (v := 1) dL_law_382 (by decide) ?_
  refine r_sld C w hX hbl hbA (v := y1) (vinD (by decide)) sx1 dL_law_383 ?_
  refine lv_aload_n C.1 C.2.1 dL_law_384 rfl (lv_at hl 1 rfl) ?_
  refine lv_iload C.1 C.2.1 dL_law_385 (lv_at hl 5 rfl) ?_
  refine lv_iconst (v := 2) C.1 C.2.1 dL_law_387 (by decide) ?_
  refine r_iadd C (v := 2) dL_law_388 (by decide) ?_
  refine r_sld C w hX hbl hbA (v := y2) (vinD (by decide)) sx2 dL_law_389 ?_
  refine r_callV C w fv_RL_145 (c_X12_world_5 l D cy m0 m1 m2 m3 m4 m5 m6 m7 m8 m9 m10 m11 m12 m13 m14 m15 m16 m17 y1 y2 k0 (by have h0 := (i_nlt k0); have h1 := (i_lt k1); have e0 : (0 : Int32).toInt = 0 := (by decide); have e1 : (189 : Int32).toInt = 189 := (by decide); have e2 : (190 : Int32).toInt = 190 := (by decide); rw [fa_lt]; omega) k4 k5) (hl.1.trans hml.symm) [0, 3, 1, 2] [] (wr := []) ⟨rfl, rfl, rfl, rfl, by decide⟩ 0 rfl rfl rfl rfl rfl ⟨Nat.le_of_ble_eq_true rfl, Nat.le_of_ble_eq_true rfl, Nat.le_of_ble_eq_true rfl⟩ 74 53668 ⟨rfl, rfl, Nat.le_of_ble_eq_true rfl, Nat.le_of_ble_eq_true rfl⟩ dL_law_390 (fun u H locs hp w => ?_)
  have w : Wd D A s.heap [(m0, .inr (12, [.ref m1, .ref m2, .ref m3, .ref m4, .ref m5, .int 2, .ref m6, .int 0, .int 0, .int 0, .int 0, .int 0, .int 0, .int 0, .int 0, .int 0, .int 0, .int (-1), .ref m7, .ref m8, .int 190, .ref m9, .int 0, .ref m10, .ref m11, .ref m12, .ref m13, .ref m14, .int 0, .ref m15, .ref m16, .ref m17]))] _ _ := w.pick [3] rfl rfl
  refine r_top (g2 := F0 m 393 ls [.int 0]) rfl ?_
  refine lv_istore (lv' := [(6, .int 0), (5, .int 2), (0, .ref b), (1, .ref q0), (2, .ref m0), (3, .ref o0), (4, .int 0)]) C.1 C.2.1 dL_law_393 hl (by decide) rfl (fun ls hl => ?_)
  refine lv_aload_n C.1 C.2.1 dL_law_395 rfl (lv_at hl 4 rfl) ?_
  refine r_callV C w fv_RL_134 (c_X12_thrown_4 l D cy m0 m1 m2 m3 m4 m5 m6 m7 m8 m9 m10 m11 m12 m13 m14 m15 m16 m17) (hl.1.trans hml.symm) [0] [] (wr := []) ⟨rfl, rfl, rfl, rfl, by decide⟩ 0 rfl rfl rfl rfl rfl ⟨Nat.le_of_ble_eq_true rfl, Nat.le_of_ble_eq_true rfl, Nat.le_of_ble_eq_true rfl⟩ 74 53668 ⟨rfl, rfl, Nat.le_of_ble_eq_true rfl, Nat.le_of_ble_eq_true rfl⟩ dL_law_396 (fun u H locs hp w => ?_)
  have w : Wd D A s.heap [(m0, .inr (12, [.ref m1, .ref m2, .ref m3, .ref m4, .ref m5, .int 2, .ref m6, .int 0, .int 0, .int 0, .int 0, .int 0, .int 0, .int 0, .int 0, .int 0, .int 0, .int (-1), .ref m7, .ref m8, .int 190, .ref m9, .int 0, .ref m10, .ref m11, .ref m12, .ref m13, .ref m14, .int 0, .ref m15, .ref m16, .ref m17]))] _ _ := w.pick [0] rfl rfl
  refine r_top (g2 := F0 m 399 ls [.int 2]) rfl ?_
  refine lv_iload C.1 C.2.1 dL_law_399 (lv_at hl 1 rfl) ?_
  refine b_icmp_eq_t C (tgt := 406) dL_law_401 (by decide) (by decide) ?_
  refine lv_iload C.1 C.2.1 dL_law_406 (lv_at hl 1 rfl) ?_
  refine b_if_ne_t C (tgt := 423) dL_law_408 (by decide) (by decide) ?_
  refine lv_goto (tgt := 2461) C.1 C.2.1 dL_law_423 (by decide) ?_
  refine W.widen (k := 600002) (n := 7302232) (Nat.le_of_ble_eq_true rfl) (Nat.le_of_ble_eq_true rfl) ?_
  exact kk _ _ _ w.2.2 (lv_sub hl [2, 6] rfl)
set_option maxRecDepth 100000 in
set_option maxHeartbeats 4000000 in
theorem t_L_3 {p : Program} {l : Launch} {e : Env} {s : State} {m : MethodId} {args : Array Value} {below : List Frame} {meth : Method} {c : Code} {Q : State → Prop} {D : va_G} {cy : Nat → ClassId} {A : Nat → Prop} {H : Heap} {locs : List Loc} {ls : Array Slot} {xs : Nat → Int32} (b q0 q1 q2 q4 q5 q6 q10 q3 q7 q8 q9 q11 q12 q13 q14 q15 q16 q17 m0 m1 m2 m3 m4 m5 m6 m7 m8 m9 m10 m11 m12 m13 m14 m15 m16 m17 o0 : Nat) (hst : l.stackTraces = false) (C : Cx p s m args c cL_law RL D cy A) (hml : c.maxLocals = 8) (hX : va_X b 6 xs s s.heap) (hbl : b < s.heap.size) (hbA : ¬ A b) (w : Wd D A s.heap [(q0, .inr (11, [.ref q1, .int 0, .int 0, .int (-1), .ref q2, .ref q4, .ref q5, .ref q6, .ref q10, .null])), (q1, .inl (cy 0, 900, .inl (fun _ => 0))), (q2, .inr (5, [.ref q3, .int 0, .int 0, .int 0, .int 0, .int 0, .int 0, .null])), (q3, .inl (cy 0, 0, .inl (fun _ => 0))), (q4, .inl (cy 4, 5, .inr (.inr (.inr (.inr (va_up (fun _ => none) 0 (some q10))))))), (q5, .inl (cy 4, 3, .inr (.inr (.inr (.inr (fun _ => none)))))), (q6, .inr (10, [.ref q7, .ref q8, .ref q9])), (q7, .inl (cy 1, 4, .inl (upd (upd (upd (upd (fun _ => 0) 0 (-1)) 1 (-1)) 2 (-1)) 3 (-1)))), (q8, .inl (cy 1, 4, .inl (fun _ => 0))), (q9, .inl (cy 2, 160, .inr (.inl (fun _ => 0)))), (q10, .inr (9, [.int 0, .int 2, .int 20, .int 120, .int 0, .int 0, .int 0, .int 0, .ref q11, .int 0, .ref q12, .ref q13, .int 0, .ref q14, .ref q15, .ref q16, .ref q17])), (q11, .inl (cy 1, 6, .inl (fun _ => 0))), (q12, .inl (cy 1, 20, .inl (fun _ => 0))), (q13, .inl (cy 1, 20, .inl (fun _ => 0))), (q14, .inl (cy 1, 300, .inl (fun _ => 0))), (q15, .inl (cy 1, 300, .inl (fun _ => 0))), (q16, .inl (cy 1, 300, .inl (fun _ => 0))), (q17, .inl (cy 1, 300, .inl (fun _ => 0))), (m0, .inr (12, [.ref m1, .ref m2, .ref m3, .ref m4, .ref m5, .int 0, .ref m6, .int 0, .int 0, .int 0, .int 0, .int 0, .int 0, .int 0, .int 0, .int 0, .int 0, .int (-1), .ref m7, .ref m8, .int 0, .ref m9, .int 0, .ref m10, .ref m11, .ref m12, .ref m13, .ref m14, .int 0, .ref m15, .ref m16, .ref m17])), (m2, .inl (cy 1, 1868, .inl (fun _ => 0))), (m3, .inl (cy 1, 1868, .inl (fun _ => 0))), (m4, .inl (cy 1, 5604, .inl (fun _ => 0))), (m5, .inl (cy 3, 3, .inl (fun _ => 0))), (m6, .inl (cy 1, 900, .inl (fun _ => 0))), (m7, .inl (cy 1, 1830, .inl (fun _ => 0))), (m8, .inl (cy 1, 1830, .inl (fun _ => 0))), (m9, .inl (cy 2, 2465, .inr (.inl (fun _ => 0)))), (m10, .inl (cy 1, 7201, .inl (fun _ => 0))), (m11, .inl (cy 1, 1830, .inl (fun _ => 0))), (m12, .inl (cy 1, 5, .inl (fun _ => 0))), (m13, .inl (cy 1, 6, .inl (fun _ => 0))), (m14, .inl (cy 1, 6, .inl (fun _ => 0))), (m15, .inl (cy 1, 4, .inl (upd (upd (upd (upd (fun _ => 0) 0 (-1)) 1 (-1)) 2 (-1)) 3 (-1)))), (m16, .inl (cy 1, 4, .inl (fun _ => 0))), (m17, .inl (cy 2, 160, .inr (.inl (fun _ => 0)))), (m1, .inl (cy 1, 1868, .inl (upd (upd (upd (fun _ => 0) 1 2) 2 20) 3 120))), (o0, .inl (cy 2, 1, .inr (.inl (fun _ => 0))))] H locs) (hl : lv_has ls 8 [(0, .ref b), (1, .ref q0), (2, .ref m0), (3, .ref o0), (4, .int 0)]) (kk : ∀ (H : Heap) (locs : List Loc) (ls : Array Slot), va_S A s.heap H locs → lv_has ls 8 [(0, .ref b), (4, .int 0)] → W p l e room_1 s m args below meth c H locs 600002 7302232 Q (F0 m 2461 ls [])) : W p l e room_1 s m args below meth c H locs 37 29845 Q (F0 m 358 ls []) := by
  obtain ⟨y1, sx1⟩ : ∃ y, xs 1 = y := ⟨_, rfl⟩
  obtain ⟨y2, sx2⟩ : ∃ y, xs 2 = y := ⟨_, rfl⟩
  obtain ⟨y3, sx3⟩ : ∃ y, xs 3 = y := ⟨_, rfl⟩
  obtain ⟨y4, sx4⟩ : ∃ y, xs 4 = y := ⟨_, rfl⟩
  obtain ⟨y5, sx5⟩ : ∃ y, xs 5 = y := ⟨_, rfl⟩
  by_cases g1 : y1 < 0
  · exact s_L_3_0 b q0 q1 q2 q4 q5 q6 q10 m0 m1 m2 m3 m4 m5 m6 m7 m8 m9 m10 m11 m12 m13 m14 m15 m16 m17 o0 y1 y2 g1 sx1 sx2 hst C hml hX hbl hbA (w.pick [0, 18, 24, 25, 35] rfl rfl) hl kk
  · by_cases g2 : y1 < 190
    · by_cases g3 : y2 = 0
      · subst g3
        exact s_L_3_2 b q0 q1 q2 q4 q5 q6 q10 q11 q12 q13 q14 q15 q16 q17 m0 m1 m2 m3 m4 m5 m6 m7 m8 m9 m10 m11 m12 m13 m14 m15 m16 m17 o0 y1 g1 g2 sx1 sx2 C hml hX hbl hbA (w.pick [0, 10, 18, 24, 25, 35, 36] rfl rfl) hl kk
      · by_cases g4 : y2 = 1
        · subst g4
          exact s_L_3_3 b q0 q1 q2 q4 q5 q6 q10 q11 q12 q13 q14 q15 q16 q17 m0 m1 m2 m3 m4 m5 m6 m7 m8 m9 m10 m11 m12 m13 m14 m15 m16 m17 o0 y1 g1 g2 sx1 sx2 C hml hX hbl hbA (w.pick [0, 10, 18, 24, 25, 35, 36] rfl rfl) hl kk
        · by_cases g5 : y2 < 0
          · exact s_L_3_4 b q0 q1 q2 q4 q5 q6 q10 q11 q12 q13 q14 q15 q16 q17 m0 m1 m2 m3 m4 m5 m6 m7 m8 m9 m10 m11 m12 m13 m14 m15 m16 m17 o0 y1 y2 g1 g2 g3 g4 g5 sx1 sx2 hst C hml hX hbl hbA (w.pick [0, 10, 18, 24, 25, 35] rfl rfl) hl kk
          · by_cases g6 : 1 < y2
            · exact s_L_3_5 b q0 q1 q2 q4 q5 q6 q10 q11 q12 q13 q14 q15 q16 q17 m0 m1 m2 m3 m4 m5 m6 m7 m8 m9 m10 m11 m12 m13 m14 m15 m16 m17 o0 y1 y2 g1 g2 g3 g4 g5 g6 sx1 sx2 hst C hml hX hbl hbA (w.pick [0, 10, 18, 24, 25, 35] rfl rfl) hl kk
            · exfalso
              have h0 := i_nlt g1
              have h1 := i_lt g2
              have h2 := (not_congr (fa_eq _ _)).mp g3
              have h3 := (not_congr (fa_eq _ _)).mp g4
              have h4 := i_nlt g5
              have h5 := i_nlt g6
              have e0 : (0 : Int32).toInt = 0 := (by decide)
              have e1 : (1 : Int32).toInt = 1 := (by decide)
              have e2 : (190 : Int32).toInt = 190 := (by decide)
              omega
    · exact s_L_3_1 b q0 q1 q2 q4 q5 q6 q10 q11 q12 q13 q14 q15 q16 q17 m0 m1 m2 m3 m4 m5 m6 m7 m8 m9 m10 m11 m12 m13 m14 m15 m16 m17 o0 y1 y2 g1 g2 sx1 sx2 hst C hml hX hbl hbA (w.pick [0, 10, 18, 24, 25, 35] rfl rfl) hl kk
theorem dL_law_426 : decode cL_law 426 = .ok (.aload_n 1, 1) := by decide +kernel
theorem dL_law_427 : decode cL_law 427 = .ok (.aload_n 0, 1) := by decide +kernel
theorem dL_law_428 : decode cL_law 428 = .ok (.iload 4, 2) := by decide +kernel
theorem dL_law_430 : decode cL_law 430 = .ok (.iconst 1, 1) := by decide +kernel
theorem dL_law_431 : decode cL_law 431 = .ok (.iadd, 1) := by decide +kernel
theorem dL_law_432 : decode cL_law 432 = .ok (.iaload, 1) := by decide +kernel
theorem dL_law_433 : decode cL_law 433 = .ok (.aload_n 0, 1) := by decide +kernel
theorem dL_law_434 : decode cL_law 434 = .ok (.iload 4, 2) := by decide +kernel
theorem dL_law_436 : decode cL_law 436 = .ok (.iconst 2, 1) := by decide +kernel
theorem dL_law_437 : decode cL_law 437 = .ok (.iadd, 1) := by decide +kernel
theorem dL_law_438 : decode cL_law 438 = .ok (.iaload, 1) := by decide +kernel
theorem dL_law_439 : decode cL_law 439 = .ok (.invokevirtual 146, 3) := by decide +kernel
theorem fv_RL_146 : FV RL 146 yX11_pair cX11_pair 3 (some .int) 2 := ⟨⟨gw_mem (by decide +kernel) (by decide +kernel), gw_mem (by decide +kernel) (by decide +kernel), gw_mem (by decide +kernel) (by decide +kernel), gw_mem (by decide +kernel) (by decide +kernel), gw_mem (by decide +kernel) (by decide +kernel)⟩, ⟨by decide +kernel, by decide +kernel, by decide +kernel⟩⟩
theorem dL_law_442 : decode cL_law 442 = .ok (.aload_n 2, 1) := by decide +kernel
theorem dL_law_443 : decode cL_law 443 = .ok (.aload_n 0, 1) := by decide +kernel
theorem dL_law_444 : decode cL_law 444 = .ok (.iload 4, 2) := by decide +kernel
theorem dL_law_446 : decode cL_law 446 = .ok (.iconst 1, 1) := by decide +kernel
theorem dL_law_447 : decode cL_law 447 = .ok (.iadd, 1) := by decide +kernel
theorem dL_law_448 : decode cL_law 448 = .ok (.iaload, 1) := by decide +kernel
theorem dL_law_449 : decode cL_law 449 = .ok (.aload_n 0, 1) := by decide +kernel
theorem dL_law_450 : decode cL_law 450 = .ok (.iload 4, 2) := by decide +kernel
theorem dL_law_452 : decode cL_law 452 = .ok (.iconst 2, 1) := by decide +kernel
theorem dL_law_453 : decode cL_law 453 = .ok (.iadd, 1) := by decide +kernel
theorem dL_law_454 : decode cL_law 454 = .ok (.iaload, 1) := by decide +kernel
theorem dL_law_455 : decode cL_law 455 = .ok (.invokevirtual 149, 3) := by decide +kernel
theorem fv_RL_149 : FV RL 149 yX12_pair cX12_pair 4 (some .int) 2 := ⟨⟨gw_mem (by decide +kernel) (by decide +kernel), gw_mem (by decide +kernel) (by decide +kernel), gw_mem (by decide +kernel) (by decide +kernel), gw_mem (by decide +kernel) (by decide +kernel), gw_mem (by decide +kernel) (by decide +kernel)⟩, ⟨by decide +kernel, by decide +kernel, by decide +kernel⟩⟩
theorem dL_law_458 : decode cL_law 458 = .ok (.if_icmp .eq 2003, 3) := by decide +kernel
set_option maxRecDepth 100000 in
set_option maxHeartbeats 4000000 in
theorem s_L_4_0 {p : Program} {l : Launch} {e : Env} {s : State} {m : MethodId} {args : Array Value} {below : List Frame} {meth : Method} {c : Code} {Q : State → Prop} {D : va_G} {cy : Nat → ClassId} {A : Nat → Prop} {H : Heap} {locs : List Loc} {ls : Array Slot} {xs : Nat → Int32} (b q0 q1 q2 q4 q5 q6 q10 q11 q12 q13 q14 q15 q16 q17 m0 m1 m2 m3 m4 m5 m6 m7 m8 m9 m10 m11 m12 m13 m14 m15 m16 m17 o0 : Nat) (y1 : Int32) (y2 : Int32) (k0 : y2 < y1) (k1 : y2 < 2) (sx1 : xs 1 = y1) (sx2 : xs 2 = y2) (C : Cx p s m args c cL_law RL D cy A) (hml : c.maxLocals = 8) (hX : va_X b 6 xs s s.heap) (hbl : b < s.heap.size) (hbA : ¬ A b) (w : Wd D A s.heap [(q0, .inr (11, [.ref q1, .int 0, .int 0, .int (-1), .ref q2, .ref q4, .ref q5, .ref q6, .ref q10, .null])), (q10, .inr (9, [.int 0, .int 2, .int 20, .int 120, .int 0, .int 0, .int 0, .int 0, .ref q11, .int 0, .ref q12, .ref q13, .int 0, .ref q14, .ref q15, .ref q16, .ref q17])), (m0, .inr (12, [.ref m1, .ref m2, .ref m3, .ref m4, .ref m5, .int 0, .ref m6, .int 0, .int 0, .int 0, .int 0, .int 0, .int 0, .int 0, .int 0, .int 0, .int 0, .int (-1), .ref m7, .ref m8, .int 0, .ref m9, .int 0, .ref m10, .ref m11, .ref m12, .ref m13, .ref m14, .int 0, .ref m15, .ref m16, .ref m17])), (m7, .inl (cy 1, 1830, .inl (fun _ => 0))), (m8, .inl (cy 1, 1830, .inl (fun _ => 0))), (m1, .inl (cy 1, 1868, .inl (upd (upd (upd (fun _ => 0) 1 2) 2 20) 3 120)))] H locs) (hl : lv_has ls 8 [(0, .ref b), (1, .ref q0), (2, .ref m0), (3, .ref o0), (4, .int 0)]) (kk : ∀ (H : Heap) (locs : List Loc) (ls : Array Slot), va_S A s.heap H locs → lv_has ls 8 [(0, .ref b), (4, .int 0)] → W p l e room_1 s m args below meth c H locs 600002 7302232 Q (F0 m 2461 ls [])) : W p l e room_1 s m args below meth c H locs 37 29845 Q (F0 m 426 ls []) := by
  refine lv_aload_n C.1 C.2.1 dL_law_426 rfl (lv_at hl 1 rfl) ?_
  refine lv_aload_n C.1 C.2.1 dL_law_427 rfl (lv_at hl 0 rfl) ?_
  refine lv_iload C.1 C.2.1 dL_law_428 (lv_at hl 4 rfl) ?_
  refine lv_iconst (v := 1) C.1 C.2.1 dL_law_430 (by decide) ?_
  refine r_iadd C (v := 1) dL_law_431 (by decide) ?_
  refine r_sld C w hX hbl hbA (v := y1) (vinD (by decide)) sx1 dL_law_432 ?_
  refine lv_aload_n C.1 C.2.1 dL_law_433 rfl (lv_at hl 0 rfl) ?_
  refine lv_iload C.1 C.2.1 dL_law_434 (lv_at hl 4 rfl) ?_
  refine lv_iconst (v := 2) C.1 C.2.1 dL_law_436 (by decide) ?_
  refine r_iadd C (v := 2) dL_law_437 (by decide) ?_
  refine r_sld C w hX hbl hbA (v := y2) (vinD (by decide)) sx2 dL_law_438 ?_
  refine r_callV C w fv_RL_146 (c_X11_pair_0 l D cy q0 q1 q2 q4 q5 q6 q10 q11 q12 q13 q14 q15 q16 q17 y1 y2 k0 k1) (hl.1.trans hml.symm) [0, 1] [2, 3, 4, 5] (wr := [(m0, .inr (12, [.ref m1, .ref m2, .ref m3, .ref m4, .ref m5, .int 0, .ref m6, .int 0, .int 0, .int 0, .int 0, .int 0, .int 0, .int 0, .int 0, .int 0, .int 0, .int (-1), .ref m7, .ref m8, .int 0, .ref m9, .int 0, .ref m10, .ref m11, .ref m12, .ref m13, .ref m14, .int 0, .ref m15, .ref m16, .ref m17])), (m7, .inl (cy 1, 1830, .inl (fun _ => 0))), (m8, .inl (cy 1, 1830, .inl (fun _ => 0))), (m1, .inl (cy 1, 1868, .inl (upd (upd (upd (fun _ => 0) 1 2) 2 20) 3 120)))]) ⟨rfl, rfl, rfl, rfl, by decide⟩ 0 rfl rfl rfl rfl rfl ⟨Nat.le_of_ble_eq_true rfl, Nat.le_of_ble_eq_true rfl, Nat.le_of_ble_eq_true rfl⟩ 37 29845 ⟨rfl, rfl, Nat.le_of_ble_eq_true rfl, Nat.le_of_ble_eq_true rfl⟩ dL_law_439 (fun u H locs hp w => ?_)
  have w : Wd D A s.heap [(m0, .inr (12, [.ref m1, .ref m2, .ref m3, .ref m4, .ref m5, .int 0, .ref m6, .int 0, .int 0, .int 0, .int 0, .int 0, .int 0, .int 0, .int 0, .int 0, .int 0, .int (-1), .ref m7, .ref m8, .int 0, .ref m9, .int 0, .ref m10, .ref m11, .ref m12, .ref m13, .ref m14, .int 0, .ref m15, .ref m16, .ref m17])), (m7, .inl (cy 1, 1830, .inl (fun _ => 0))), (m8, .inl (cy 1, 1830, .inl (fun _ => 0))), (m1, .inl (cy 1, 1868, .inl (upd (upd (upd (fun _ => 0) 1 2) 2 20) 3 120)))] _ _ := w.pick [0, 1, 2, 3] rfl rfl
  refine r_top (g2 := F0 m 442 ls [.int (-1)]) rfl ?_
  refine lv_aload_n C.1 C.2.1 dL_law_442 rfl (lv_at hl 2 rfl) ?_
  refine lv_aload_n C.1 C.2.1 dL_law_443 rfl (lv_at hl 0 rfl) ?_
  refine lv_iload C.1 C.2.1 dL_law_444 (lv_at hl 4 rfl) ?_
  refine lv_iconst (v := 1) C.1 C.2.1 dL_law_446 (by decide) ?_
  refine r_iadd C (v := 1) dL_law_447 (by decide) ?_
  refine r_sld C w hX hbl hbA (v := y1) (vinD (by decide)) sx1 dL_law_448 ?_
  refine lv_aload_n C.1 C.2.1 dL_law_449 rfl (lv_at hl 0 rfl) ?_
  refine lv_iload C.1 C.2.1 dL_law_450 (lv_at hl 4 rfl) ?_
  refine lv_iconst (v := 2) C.1 C.2.1 dL_law_452 (by decide) ?_
  refine r_iadd C (v := 2) dL_law_453 (by decide) ?_
  refine r_sld C w hX hbl hbA (v := y2) (vinD (by decide)) sx2 dL_law_454 ?_
  refine r_callV C w fv_RL_149 (c_X12_pair_0 l D cy m0 m1 m2 m3 m4 m5 m6 m7 m8 m9 m10 m11 m12 m13 m14 m15 m16 m17 y1 y2 k0 k1) (hl.1.trans hml.symm) [0, 3, 1, 2] [] (wr := []) ⟨rfl, rfl, rfl, rfl, by decide⟩ 0 rfl rfl rfl rfl rfl ⟨Nat.le_of_ble_eq_true rfl, Nat.le_of_ble_eq_true rfl, Nat.le_of_ble_eq_true rfl⟩ 37 29845 ⟨rfl, rfl, Nat.le_of_ble_eq_true rfl, Nat.le_of_ble_eq_true rfl⟩ dL_law_455 (fun u H locs hp w => ?_)
  have w : Wd D A s.heap [(m0, .inr (12, [.ref m1, .ref m2, .ref m3, .ref m4, .ref m5, .int 0, .ref m6, .int 0, .int 0, .int 0, .int 0, .int 0, .int 0, .int 0, .int 0, .int 0, .int 0, .int (-1), .ref m7, .ref m8, .int 190, .ref m9, .int 0, .ref m10, .ref m11, .ref m12, .ref m13, .ref m14, .int 0, .ref m15, .ref m16, .ref m17]))] _ _ := w.pick [0] rfl rfl
  refine r_top (g2 := F0 m 458 ls [.int (-1), .int (-1)]) rfl ?_
  refine b_icmp_eq_t C (tgt := 2461) dL_law_458 (by decide) (by decide) ?_
  refine W.widen (k := 600002) (n := 7302232) (Nat.le_of_ble_eq_true rfl) (Nat.le_of_ble_eq_true rfl) ?_
  exact kk _ _ _ w.2.2 (lv_sub hl [0, 4] rfl)
set_option maxRecDepth 100000 in
set_option maxHeartbeats 4000000 in
theorem s_L_4_1 {p : Program} {l : Launch} {e : Env} {s : State} {m : MethodId} {args : Array Value} {below : List Frame} {meth : Method} {c : Code} {Q : State → Prop} {D : va_G} {cy : Nat → ClassId} {A : Nat → Prop} {H : Heap} {locs : List Loc} {ls : Array Slot} {xs : Nat → Int32} (b q0 q1 q2 q4 q5 q6 q10 q11 q12 q13 q14 q15 q16 q17 m0 m1 m2 m3 m4 m5 m6 m7 m8 m9 m10 m11 m12 m13 m14 m15 m16 m17 o0 : Nat) (y1 : Int32) (y2 : Int32) (k0 : y2 < y1) (k1 : ¬ y2 < 2) (k2 : ¬ 20 < y1) (sx1 : xs 1 = y1) (sx2 : xs 2 = y2) (C : Cx p s m args c cL_law RL D cy A) (hml : c.maxLocals = 8) (hX : va_X b 6 xs s s.heap) (hbl : b < s.heap.size) (hbA : ¬ A b) (w : Wd D A s.heap [(q0, .inr (11, [.ref q1, .int 0, .int 0, .int (-1), .ref q2, .ref q4, .ref q5, .ref q6, .ref q10, .null])), (q10, .inr (9, [.int 0, .int 2, .int 20, .int 120, .int 0, .int 0, .int 0, .int 0, .ref q11, .int 0, .ref q12, .ref q13, .int 0, .ref q14, .ref q15, .ref q16, .ref q17])), (m0, .inr (12, [.ref m1, .ref m2, .ref m3, .ref m4, .ref m5, .int 0, .ref m6, .int 0, .int 0, .int 0, .int 0, .int 0, .int 0, .int 0, .int 0, .int 0, .int 0, .int (-1), .ref m7, .ref m8, .int 0, .ref m9, .int 0, .ref m10, .ref m11, .ref m12, .ref m13, .ref m14, .int 0, .ref m15, .ref m16, .ref m17])), (m7, .inl (cy 1, 1830, .inl (fun _ => 0))), (m8, .inl (cy 1, 1830, .inl (fun _ => 0))), (m1, .inl (cy 1, 1868, .inl (upd (upd (upd (fun _ => 0) 1 2) 2 20) 3 120)))] H locs) (hl : lv_has ls 8 [(0, .ref b), (1, .ref q0), (2, .ref m0), (3, .ref o0), (4, .int 0)]) (kk : ∀ (H : Heap) (locs : List Loc) (ls : Array Slot), va_S A s.heap H locs → lv_has ls 8 [(0, .ref b), (4, .int 0)] → W p l e room_1 s m args below meth c H locs 600002 7302232 Q (F0 m 2461 ls [])) : W p l e room_1 s m args below meth c H locs 37 29845 Q (F0 m 426 ls []) := by
  refine lv_aload_n C.1 C.2.1 dL_law_426 rfl (lv_at hl 1 rfl) ?_
  refine lv_aload_n C.1 C.2.1 dL_law_427 rfl (lv_at hl 0 rfl) ?_
  refine lv_iload C.1 C.2.1 dL_law_428 (lv_at hl 4 rfl) ?_
  refine lv_iconst (v := 1) C.1 C.2.1 dL_law_430 (by decide) ?_
  refine r_iadd C (v := 1) dL_law_431 (by decide) ?_
  refine r_sld C w hX hbl hbA (v := y1) (vinD (by decide)) sx1 dL_law_432 ?_
  refine lv_aload_n C.1 C.2.1 dL_law_433 rfl (lv_at hl 0 rfl) ?_
  refine lv_iload C.1 C.2.1 dL_law_434 (lv_at hl 4 rfl) ?_
  refine lv_iconst (v := 2) C.1 C.2.1 dL_law_436 (by decide) ?_
  refine r_iadd C (v := 2) dL_law_437 (by decide) ?_
  refine r_sld C w hX hbl hbA (v := y2) (vinD (by decide)) sx2 dL_law_438 ?_
  refine r_callV C w fv_RL_146 (c_X11_pair_1 l D cy q0 q1 q2 q4 q5 q6 q10 q11 q12 q13 q14 q15 q16 q17 y1 y2 k0 k1 k2) (hl.1.trans hml.symm) [0, 1] [2, 3, 4, 5] (wr := [(m0, .inr (12, [.ref m1, .ref m2, .ref m3, .ref m4, .ref m5, .int 0, .ref m6, .int 0, .int 0, .int 0, .int 0, .int 0, .int 0, .int 0, .int 0, .int 0, .int 0, .int (-1), .ref m7, .ref m8, .int 0, .ref m9, .int 0, .ref m10, .ref m11, .ref m12, .ref m13, .ref m14, .int 0, .ref m15, .ref m16, .ref m17])), (m7, .inl (cy 1, 1830, .inl (fun _ => 0))), (m8, .inl (cy 1, 1830, .inl (fun _ => 0))), (m1, .inl (cy 1, 1868, .inl (upd (upd (upd (fun _ => 0) 1 2) 2 20) 3 120)))]) ⟨rfl, rfl, rfl, rfl, by decide⟩ 0 rfl rfl rfl rfl rfl ⟨Nat.le_of_ble_eq_true rfl, Nat.le_of_ble_eq_true rfl, Nat.le_of_ble_eq_true rfl⟩ 37 29845 ⟨rfl, rfl, Nat.le_of_ble_eq_true rfl, Nat.le_of_ble_eq_true rfl⟩ dL_law_439 (fun u H locs hp w => ?_)
  have w : Wd D A s.heap [(m0, .inr (12, [.ref m1, .ref m2, .ref m3, .ref m4, .ref m5, .int 0, .ref m6, .int 0, .int 0, .int 0, .int 0, .int 0, .int 0, .int 0, .int 0, .int 0, .int 0, .int (-1), .ref m7, .ref m8, .int 0, .ref m9, .int 0, .ref m10, .ref m11, .ref m12, .ref m13, .ref m14, .int 0, .ref m15, .ref m16, .ref m17])), (m7, .inl (cy 1, 1830, .inl (fun _ => 0))), (m8, .inl (cy 1, 1830, .inl (fun _ => 0))), (m1, .inl (cy 1, 1868, .inl (upd (upd (upd (fun _ => 0) 1 2) 2 20) 3 120)))] _ _ := w.pick [0, 1, 2, 3] rfl rfl
  refine r_top (g2 := F0 m 442 ls [.int (((nI (PP 20 2 ((y2).toNatClampNeg - 2))) + y1) - y2)]) rfl ?_
  refine lv_aload_n C.1 C.2.1 dL_law_442 rfl (lv_at hl 2 rfl) ?_
  refine lv_aload_n C.1 C.2.1 dL_law_443 rfl (lv_at hl 0 rfl) ?_
  refine lv_iload C.1 C.2.1 dL_law_444 (lv_at hl 4 rfl) ?_
  refine lv_iconst (v := 1) C.1 C.2.1 dL_law_446 (by decide) ?_
  refine r_iadd C (v := 1) dL_law_447 (by decide) ?_
  refine r_sld C w hX hbl hbA (v := y1) (vinD (by decide)) sx1 dL_law_448 ?_
  refine lv_aload_n C.1 C.2.1 dL_law_449 rfl (lv_at hl 0 rfl) ?_
  refine lv_iload C.1 C.2.1 dL_law_450 (lv_at hl 4 rfl) ?_
  refine lv_iconst (v := 2) C.1 C.2.1 dL_law_452 (by decide) ?_
  refine r_iadd C (v := 2) dL_law_453 (by decide) ?_
  refine r_sld C w hX hbl hbA (v := y2) (vinD (by decide)) sx2 dL_law_454 ?_
  refine r_callV C w fv_RL_149 (c_X12_pair_2 l D cy m0 m1 m2 m3 m4 m5 m6 m7 m8 m9 m10 m11 m12 m13 m14 m15 m16 m17 y1 y2 k0 k1 k2) (hl.1.trans hml.symm) [0, 3, 1, 2] [] (wr := []) ⟨rfl, rfl, rfl, rfl, by decide⟩ 0 rfl rfl rfl rfl rfl ⟨Nat.le_of_ble_eq_true rfl, Nat.le_of_ble_eq_true rfl, Nat.le_of_ble_eq_true rfl⟩ 37 29845 ⟨rfl, rfl, Nat.le_of_ble_eq_true rfl, Nat.le_of_ble_eq_true rfl⟩ dL_law_455 (fun u H locs hp w => ?_)
  have w : Wd D A s.heap [(m0, .inr (12, [.ref m1, .ref m2, .ref m3, .ref m4, .ref m5, .int 0, .ref m6, .int 0, .int 0, .int 0, .int 0, .int 0, .int 0, .int 0, .int 0, .int 0, .int 0, .int (-1), .ref m7, .ref m8, .int 190, .ref m9, .int 0, .ref m10, .ref m11, .ref m12, .ref m13, .ref m14, .int 0, .ref m15, .ref m16, .ref m17]))] _ _ := w.pick [0] rfl rfl
  refine r_top (g2 := F0 m 458 ls [.int (nI (PP 20 2 ((y2).toNatClampNeg - 2) + ((y1).toNatClampNeg - (y2).toNatClampNeg))), .int (((nI (PP 20 2 ((y2).toNatClampNeg - 2))) + y1) - y2)]) rfl ?_
  refine b_icmp_eq_t C (tgt := 2461) dL_law_458 (by decide) (num_eq k1 k2 (Int32.lt_asymm k0)) ?_
  refine W.widen (k := 600002) (n := 7302232) (Nat.le_of_ble_eq_true rfl) (Nat.le_of_ble_eq_true rfl) ?_
  exact kk _ _ _ w.2.2 (lv_sub hl [0, 4] rfl)
set_option maxRecDepth 100000 in
set_option maxHeartbeats 4000000 in
theorem s_L_4_2 {p : Program} {l : Launch} {e : Env} {s : State} {m : MethodId} {args : Array Value} {below : List Frame} {meth : Method} {c : Code} {Q : State → Prop} {D : va_G} {cy : Nat → ClassId} {A : Nat → Prop} {H : Heap} {locs : List Loc} {ls : Array Slot} {xs : Nat → Int32} (b q0 q1 q2 q4 q5 q6 q10 q11 q12 q13 q14 q15 q16 q17 m0 m1 m2 m3 m4 m5 m6 m7 m8 m9 m10 m11 m12 m13 m14 m15 m16 m17 o0 : Nat) (y1 : Int32) (y2 : Int32) (k0 : y2 < y1) (k1 : ¬ y2 < 2) (k2 : 20 < y1) (sx1 : xs 1 = y1) (sx2 : xs 2 = y2) (C : Cx p s m args c cL_law RL D cy A) (hml : c.maxLocals = 8) (hX : va_X b 6 xs s s.heap) (hbl : b < s.heap.size) (hbA : ¬ A b) (w : Wd D A s.heap [(q0, .inr (11, [.ref q1, .int 0, .int 0, .int (-1), .ref q2, .ref q4, .ref q5, .ref q6, .ref q10, .null])), (q10, .inr (9, [.int 0, .int 2, .int 20, .int 120, .int 0, .int 0, .int 0, .int 0, .ref q11, .int 0, .ref q12, .ref q13, .int 0, .ref q14, .ref q15, .ref q16, .ref q17])), (m0, .inr (12, [.ref m1, .ref m2, .ref m3, .ref m4, .ref m5, .int 0, .ref m6, .int 0, .int 0, .int 0, .int 0, .int 0, .int 0, .int 0, .int 0, .int 0, .int 0, .int (-1), .ref m7, .ref m8, .int 0, .ref m9, .int 0, .ref m10, .ref m11, .ref m12, .ref m13, .ref m14, .int 0, .ref m15, .ref m16, .ref m17])), (m7, .inl (cy 1, 1830, .inl (fun _ => 0))), (m8, .inl (cy 1, 1830, .inl (fun _ => 0))), (m1, .inl (cy 1, 1868, .inl (upd (upd (upd (fun _ => 0) 1 2) 2 20) 3 120)))] H locs) (hl : lv_has ls 8 [(0, .ref b), (1, .ref q0), (2, .ref m0), (3, .ref o0), (4, .int 0)]) (kk : ∀ (H : Heap) (locs : List Loc) (ls : Array Slot), va_S A s.heap H locs → lv_has ls 8 [(0, .ref b), (4, .int 0)] → W p l e room_1 s m args below meth c H locs 600002 7302232 Q (F0 m 2461 ls [])) : W p l e room_1 s m args below meth c H locs 37 29845 Q (F0 m 426 ls []) := by
  refine lv_aload_n C.1 C.2.1 dL_law_426 rfl (lv_at hl 1 rfl) ?_
  refine lv_aload_n C.1 C.2.1 dL_law_427 rfl (lv_at hl 0 rfl) ?_
  refine lv_iload C.1 C.2.1 dL_law_428 (lv_at hl 4 rfl) ?_
  refine lv_iconst (v := 1) C.1 C.2.1 dL_law_430 (by decide) ?_
  refine r_iadd C (v := 1) dL_law_431 (by decide) ?_
  refine r_sld C w hX hbl hbA (v := y1) (vinD (by decide)) sx1 dL_law_432 ?_
  refine lv_aload_n C.1 C.2.1 dL_law_433 rfl (lv_at hl 0 rfl) ?_
  refine lv_iload C.1 C.2.1 dL_law_434 (lv_at hl 4 rfl) ?_
  refine lv_iconst (v := 2) C.1 C.2.1 dL_law_436 (by decide) ?_
  refine r_iadd C (v := 2) dL_law_437 (by decide) ?_
  refine r_sld C w hX hbl hbA (v := y2) (vinD (by decide)) sx2 dL_law_438 ?_
  refine r_callV C w fv_RL_146 (c_X11_pair_3 l D cy q0 q1 q2 q4 q5 q6 q10 q11 q12 q13 q14 q15 q16 q17 y1 y2 k0 k1 k2) (hl.1.trans hml.symm) [0, 1] [2, 3, 4, 5] (wr := [(m0, .inr (12, [.ref m1, .ref m2, .ref m3, .ref m4, .ref m5, .int 0, .ref m6, .int 0, .int 0, .int 0, .int 0, .int 0, .int 0, .int 0, .int 0, .int 0, .int 0, .int (-1), .ref m7, .ref m8, .int 0, .ref m9, .int 0, .ref m10, .ref m11, .ref m12, .ref m13, .ref m14, .int 0, .ref m15, .ref m16, .ref m17])), (m7, .inl (cy 1, 1830, .inl (fun _ => 0))), (m8, .inl (cy 1, 1830, .inl (fun _ => 0))), (m1, .inl (cy 1, 1868, .inl (upd (upd (upd (fun _ => 0) 1 2) 2 20) 3 120)))]) ⟨rfl, rfl, rfl, rfl, by decide⟩ 0 rfl rfl rfl rfl rfl ⟨Nat.le_of_ble_eq_true rfl, Nat.le_of_ble_eq_true rfl, Nat.le_of_ble_eq_true rfl⟩ 37 29845 ⟨rfl, rfl, Nat.le_of_ble_eq_true rfl, Nat.le_of_ble_eq_true rfl⟩ dL_law_439 (fun u H locs hp w => ?_)
  have w : Wd D A s.heap [(m0, .inr (12, [.ref m1, .ref m2, .ref m3, .ref m4, .ref m5, .int 0, .ref m6, .int 0, .int 0, .int 0, .int 0, .int 0, .int 0, .int 0, .int 0, .int 0, .int 0, .int (-1), .ref m7, .ref m8, .int 0, .ref m9, .int 0, .ref m10, .ref m11, .ref m12, .ref m13, .ref m14, .int 0, .ref m15, .ref m16, .ref m17])), (m7, .inl (cy 1, 1830, .inl (fun _ => 0))), (m8, .inl (cy 1, 1830, .inl (fun _ => 0))), (m1, .inl (cy 1, 1868, .inl (upd (upd (upd (fun _ => 0) 1 2) 2 20) 3 120)))] _ _ := w.pick [0, 1, 2, 3] rfl rfl
  refine r_top (g2 := F0 m 442 ls [.int (-1)]) rfl ?_
  refine lv_aload_n C.1 C.2.1 dL_law_442 rfl (lv_at hl 2 rfl) ?_
  refine lv_aload_n C.1 C.2.1 dL_law_443 rfl (lv_at hl 0 rfl) ?_
  refine lv_iload C.1 C.2.1 dL_law_444 (lv_at hl 4 rfl) ?_
  refine lv_iconst (v := 1) C.1 C.2.1 dL_law_446 (by decide) ?_
  refine r_iadd C (v := 1) dL_law_447 (by decide) ?_
  refine r_sld C w hX hbl hbA (v := y1) (vinD (by decide)) sx1 dL_law_448 ?_
  refine lv_aload_n C.1 C.2.1 dL_law_449 rfl (lv_at hl 0 rfl) ?_
  refine lv_iload C.1 C.2.1 dL_law_450 (lv_at hl 4 rfl) ?_
  refine lv_iconst (v := 2) C.1 C.2.1 dL_law_452 (by decide) ?_
  refine r_iadd C (v := 2) dL_law_453 (by decide) ?_
  refine r_sld C w hX hbl hbA (v := y2) (vinD (by decide)) sx2 dL_law_454 ?_
  refine r_callV C w fv_RL_149 (c_X12_pair_1 l D cy m0 m1 m2 m3 m4 m5 m6 m7 m8 m9 m10 m11 m12 m13 m14 m15 m16 m17 y1 y2 k0 k1 k2) (hl.1.trans hml.symm) [0, 3, 1, 2] [] (wr := []) ⟨rfl, rfl, rfl, rfl, by decide⟩ 0 rfl rfl rfl rfl rfl ⟨Nat.le_of_ble_eq_true rfl, Nat.le_of_ble_eq_true rfl, Nat.le_of_ble_eq_true rfl⟩ 37 29845 ⟨rfl, rfl, Nat.le_of_ble_eq_true rfl, Nat.le_of_ble_eq_true rfl⟩ dL_law_455 (fun u H locs hp w => ?_)
  have w : Wd D A s.heap [(m0, .inr (12, [.ref m1, .ref m2, .ref m3, .ref m4, .ref m5, .int 0, .ref m6, .int 0, .int 0, .int 0, .int 0, .int 0, .int 0, .int 0, .int 0, .int 0, .int 0, .int (-1), .ref m7, .ref m8, .int 190, .ref m9, .int 0, .ref m10, .ref m11, .ref m12, .ref m13, .ref m14, .int 0, .ref m15, .ref m16, .ref m17]))] _ _ := w.pick [0] rfl rfl
  refine r_top (g2 := F0 m 458 ls [.int (-1), .int (-1)]) rfl ?_
  refine b_icmp_eq_t C (tgt := 2461) dL_law_458 (by decide) (by decide) ?_
  refine W.widen (k := 600002) (n := 7302232) (Nat.le_of_ble_eq_true rfl) (Nat.le_of_ble_eq_true rfl) ?_
  exact kk _ _ _ w.2.2 (lv_sub hl [0, 4] rfl)
set_option maxRecDepth 100000 in
set_option maxHeartbeats 4000000 in
theorem s_L_4_3 {p : Program} {l : Launch} {e : Env} {s : State} {m : MethodId} {args : Array Value} {below : List Frame} {meth : Method} {c : Code} {Q : State → Prop} {D : va_G} {cy : Nat → ClassId} {A : Nat → Prop} {H : Heap} {locs : List Loc} {ls : Array Slot} {xs : Nat → Int32} (b q0 q1 q2 q4 q5 q6 q10 q11 q12 q13 q14 q15 q16 q17 m0 m1 m2 m3 m4 m5 m6 m7 m8 m9 m10 m11 m12 m13 m14 m15 m16 m17 o0 : Nat) (y1 : Int32) (y2 : Int32) (k0 : ¬ y2 < y1) (k1 : y1 < y2) (k2 : y1 < 2) (sx1 : xs 1 = y1) (sx2 : xs 2 = y2) (C : Cx p s m args c cL_law RL D cy A) (hml : c.maxLocals = 8) (hX : va_X b 6 xs s s.heap) (hbl : b < s.heap.size) (hbA : ¬ A b) (w : Wd D A s.heap [(q0, .inr (11, [.ref q1, .int 0, .int 0, .int (-1), .ref q2, .ref q4, .ref q5, .ref q6, .ref q10, .null])), (q10, .inr (9, [.int 0, .int 2, .int 20, .int 120, .int 0, .int 0, .int 0, .int 0, .ref q11, .int 0, .ref q12, .ref q13, .int 0, .ref q14, .ref q15, .ref q16, .ref q17])), (m0, .inr (12, [.ref m1, .ref m2, .ref m3, .ref m4, .ref m5, .int 0, .ref m6, .int 0, .int 0, .int 0, .int 0, .int 0, .int 0, .int 0, .int 0, .int 0, .int 0, .int (-1), .ref m7, .ref m8, .int 0, .ref m9, .int 0, .ref m10, .ref m11, .ref m12, .ref m13, .ref m14, .int 0, .ref m15, .ref m16, .ref m17])), (m7, .inl (cy 1, 1830, .inl (fun _ => 0))), (m8, .inl (cy 1, 1830, .inl (fun _ => 0))), (m1, .inl (cy 1, 1868, .inl (upd (upd (upd (fun _ => 0) 1 2) 2 20) 3 120)))] H locs) (hl : lv_has ls 8 [(0, .ref b), (1, .ref q0), (2, .ref m0), (3, .ref o0), (4, .int 0)]) (kk : ∀ (H : Heap) (locs : List Loc) (ls : Array Slot), va_S A s.heap H locs → lv_has ls 8 [(0, .ref b), (4, .int 0)] → W p l e room_1 s m args below meth c H locs 600002 7302232 Q (F0 m 2461 ls [])) : W p l e room_1 s m args below meth c H locs 37 29845 Q (F0 m 426 ls []) := by
  refine lv_aload_n C.1 C.2.1 dL_law_426 rfl (lv_at hl 1 rfl) ?_
  refine lv_aload_n C.1 C.2.1 dL_law_427 rfl (lv_at hl 0 rfl) ?_
  refine lv_iload C.1 C.2.1 dL_law_428 (lv_at hl 4 rfl) ?_
  refine lv_iconst (v := 1) C.1 C.2.1 dL_law_430 (by decide) ?_
  refine r_iadd C (v := 1) dL_law_431 (by decide) ?_
  refine r_sld C w hX hbl hbA (v := y1) (vinD (by decide)) sx1 dL_law_432 ?_
  refine lv_aload_n C.1 C.2.1 dL_law_433 rfl (lv_at hl 0 rfl) ?_
  refine lv_iload C.1 C.2.1 dL_law_434 (lv_at hl 4 rfl) ?_
  refine lv_iconst (v := 2) C.1 C.2.1 dL_law_436 (by decide) ?_
  refine r_iadd C (v := 2) dL_law_437 (by decide) ?_
  refine r_sld C w hX hbl hbA (v := y2) (vinD (by decide)) sx2 dL_law_438 ?_
  refine r_callV C w fv_RL_146 (c_X11_pair_4 l D cy q0 q1 q2 q4 q5 q6 q10 q11 q12 q13 q14 q15 q16 q17 y1 y2 k0 k1 k2) (hl.1.trans hml.symm) [0, 1] [2, 3, 4, 5] (wr := [(m0, .inr (12, [.ref m1, .ref m2, .ref m3, .ref m4, .ref m5, .int 0, .ref m6, .int 0, .int 0, .int 0, .int 0, .int 0, .int 0, .int 0, .int 0, .int 0, .int 0, .int (-1), .ref m7, .ref m8, .int 0, .ref m9, .int 0, .ref m10, .ref m11, .ref m12, .ref m13, .ref m14, .int 0, .ref m15, .ref m16, .ref m17])), (m7, .inl (cy 1, 1830, .inl (fun _ => 0))), (m8, .inl (cy 1, 1830, .inl (fun _ => 0))), (m1, .inl (cy 1, 1868, .inl (upd (upd (upd (fun _ => 0) 1 2) 2 20) 3 120)))]) ⟨rfl, rfl, rfl, rfl, by decide⟩ 0 rfl rfl rfl rfl rfl ⟨Nat.le_of_ble_eq_true rfl, Nat.le_of_ble_eq_true rfl, Nat.le_of_ble_eq_true rfl⟩ 37 29845 ⟨rfl, rfl, Nat.le_of_ble_eq_true rfl, Nat.le_of_ble_eq_true rfl⟩ dL_law_439 (fun u H locs hp w => ?_)
  have w : Wd D A s.heap [(m0, .inr (12, [.ref m1, .ref m2, .ref m3, .ref m4, .ref m5, .int 0, .ref m6, .int 0, .int 0, .int 0, .int 0, .int 0, .int 0, .int 0, .int 0, .int 0, .int 0, .int (-1), .ref m7, .ref m8, .int 0, .ref m9, .int 0, .ref m10, .ref m11, .ref m12, .ref m13, .ref m14, .int 0, .ref m15, .ref m16, .ref m17])), (m7, .inl (cy 1, 1830, .inl (fun _ => 0))), (m8, .inl (cy 1, 1830, .inl (fun _ => 0))), (m1, .inl (cy 1, 1868, .inl (upd (upd (upd (fun _ => 0) 1 2) 2 20) 3 120)))] _ _ := w.pick [0, 1, 2, 3] rfl rfl
  refine r_top (g2 := F0 m 442 ls [.int (-1)]) rfl ?_
  refine lv_aload_n C.1 C.2.1 dL_law_442 rfl (lv_at hl 2 rfl) ?_
  refine lv_aload_n C.1 C.2.1 dL_law_443 rfl (lv_at hl 0 rfl) ?_
  refine lv_iload C.1 C.2.1 dL_law_444 (lv_at hl 4 rfl) ?_
  refine lv_iconst (v := 1) C.1 C.2.1 dL_law_446 (by decide) ?_
  refine r_iadd C (v := 1) dL_law_447 (by decide) ?_
  refine r_sld C w hX hbl hbA (v := y1) (vinD (by decide)) sx1 dL_law_448 ?_
  refine lv_aload_n C.1 C.2.1 dL_law_449 rfl (lv_at hl 0 rfl) ?_
  refine lv_iload C.1 C.2.1 dL_law_450 (lv_at hl 4 rfl) ?_
  refine lv_iconst (v := 2) C.1 C.2.1 dL_law_452 (by decide) ?_
  refine r_iadd C (v := 2) dL_law_453 (by decide) ?_
  refine r_sld C w hX hbl hbA (v := y2) (vinD (by decide)) sx2 dL_law_454 ?_
  refine r_callV C w fv_RL_149 (c_X12_pair_3 l D cy m0 m1 m2 m3 m4 m5 m6 m7 m8 m9 m10 m11 m12 m13 m14 m15 m16 m17 y1 y2 k0 k1 k2) (hl.1.trans hml.symm) [0, 3, 1, 2] [] (wr := []) ⟨rfl, rfl, rfl, rfl, by decide⟩ 0 rfl rfl rfl rfl rfl ⟨Nat.le_of_ble_eq_true rfl, Nat.le_of_ble_eq_true rfl, Nat.le_of_ble_eq_true rfl⟩ 37 29845 ⟨rfl, rfl, Nat.le_of_ble_eq_true rfl, Nat.le_of_ble_eq_true rfl⟩ dL_law_455 (fun u H locs hp w => ?_)
  have w : Wd D A s.heap [(m0, .inr (12, [.ref m1, .ref m2, .ref m3, .ref m4, .ref m5, .int 0, .ref m6, .int 0, .int 0, .int 0, .int 0, .int 0, .int 0, .int 0, .int 0, .int 0, .int 0, .int (-1), .ref m7, .ref m8, .int 190, .ref m9, .int 0, .ref m10, .ref m11, .ref m12, .ref m13, .ref m14, .int 0, .ref m15, .ref m16, .ref m17]))] _ _ := w.pick [0] rfl rfl
  refine r_top (g2 := F0 m 458 ls [.int (-1), .int (-1)]) rfl ?_
  refine b_icmp_eq_t C (tgt := 2461) dL_law_458 (by decide) (by decide) ?_
  refine W.widen (k := 600002) (n := 7302232) (Nat.le_of_ble_eq_true rfl) (Nat.le_of_ble_eq_true rfl) ?_
  exact kk _ _ _ w.2.2 (lv_sub hl [0, 4] rfl)
set_option maxRecDepth 100000 in
set_option maxHeartbeats 4000000 in
theorem s_L_4_4 {p : Program} {l : Launch} {e : Env} {s : State} {m : MethodId} {args : Array Value} {below : List Frame} {meth : Method} {c : Code} {Q : State → Prop} {D : va_G} {cy : Nat → ClassId} {A : Nat → Prop} {H : Heap} {locs : List Loc} {ls : Array Slot} {xs : Nat → Int32} (b q0 q1 q2 q4 q5 q6 q10 q11 q12 q13 q14 q15 q16 q17 m0 m1 m2 m3 m4 m5 m6 m7 m8 m9 m10 m11 m12 m13 m14 m15 m16 m17 o0 : Nat) (y1 : Int32) (y2 : Int32) (k0 : ¬ y2 < y1) (k1 : y1 < y2) (k2 : ¬ y1 < 2) (k3 : ¬ 20 < y2) (sx1 : xs 1 = y1) (sx2 : xs 2 = y2) (C : Cx p s m args c cL_law RL D cy A) (hml : c.maxLocals = 8) (hX : va_X b 6 xs s s.heap) (hbl : b < s.heap.size) (hbA : ¬ A b) (w : Wd D A s.heap [(q0, .inr (11, [.ref q1, .int 0, .int 0, .int (-1), .ref q2, .ref q4, .ref q5, .ref q6, .ref q10, .null])), (q10, .inr (9, [.int 0, .int 2, .int 20, .int 120, .int 0, .int 0, .int 0, .int 0, .ref q11, .int 0, .ref q12, .ref q13, .int 0, .ref q14, .ref q15, .ref q16, .ref q17])), (m0, .inr (12, [.ref m1, .ref m2, .ref m3, .ref m4, .ref m5, .int 0, .ref m6, .int 0, .int 0, .int 0, .int 0, .int 0, .int 0, .int 0, .int 0, .int 0, .int 0, .int (-1), .ref m7, .ref m8, .int 0, .ref m9, .int 0, .ref m10, .ref m11, .ref m12, .ref m13, .ref m14, .int 0, .ref m15, .ref m16, .ref m17])), (m7, .inl (cy 1, 1830, .inl (fun _ => 0))), (m8, .inl (cy 1, 1830, .inl (fun _ => 0))), (m1, .inl (cy 1, 1868, .inl (upd (upd (upd (fun _ => 0) 1 2) 2 20) 3 120)))] H locs) (hl : lv_has ls 8 [(0, .ref b), (1, .ref q0), (2, .ref m0), (3, .ref o0), (4, .int 0)]) (kk : ∀ (H : Heap) (locs : List Loc) (ls : Array Slot), va_S A s.heap H locs → lv_has ls 8 [(0, .ref b), (4, .int 0)] → W p l e room_1 s m args below meth c H locs 600002 7302232 Q (F0 m 2461 ls [])) : W p l e room_1 s m args below meth c H locs 37 29845 Q (F0 m 426 ls []) := by
  refine lv_aload_n C.1 C.2.1 dL_law_426 rfl (lv_at hl 1 rfl) ?_
  refine lv_aload_n C.1 C.2.1 dL_law_427 rfl (lv_at hl 0 rfl) ?_
  refine lv_iload C.1 C.2.1 dL_law_428 (lv_at hl 4 rfl) ?_
  refine lv_iconst (v := 1) C.1 C.2.1 dL_law_430 (by decide) ?_
  refine r_iadd C (v := 1) dL_law_431 (by decide) ?_
  refine r_sld C w hX hbl hbA (v := y1) (vinD (by decide)) sx1 dL_law_432 ?_
  refine lv_aload_n C.1 C.2.1 dL_law_433 rfl (lv_at hl 0 rfl) ?_
  refine lv_iload C.1 C.2.1 dL_law_434 (lv_at hl 4 rfl) ?_
  refine lv_iconst (v := 2) C.1 C.2.1 dL_law_436 (by decide) ?_
  refine r_iadd C (v := 2) dL_law_437 (by decide) ?_
  refine r_sld C w hX hbl hbA (v := y2) (vinD (by decide)) sx2 dL_law_438 ?_
  refine r_callV C w fv_RL_146 (c_X11_pair_5 l D cy q0 q1 q2 q4 q5 q6 q10 q11 q12 q13 q14 q15 q16 q17 y1 y2 k0 k1 k2 k3) (hl.1.trans hml.symm) [0, 1] [2, 3, 4, 5] (wr := [(m0, .inr (12, [.ref m1, .ref m2, .ref m3, .ref m4, .ref m5, .int 0, .ref m6, .int 0, .int 0, .int 0, .int 0, .int 0, .int 0, .int 0, .int 0, .int 0, .int 0, .int (-1), .ref m7, .ref m8, .int 0, .ref m9, .int 0, .ref m10, .ref m11, .ref m12, .ref m13, .ref m14, .int 0, .ref m15, .ref m16, .ref m17])), (m7, .inl (cy 1, 1830, .inl (fun _ => 0))), (m8, .inl (cy 1, 1830, .inl (fun _ => 0))), (m1, .inl (cy 1, 1868, .inl (upd (upd (upd (fun _ => 0) 1 2) 2 20) 3 120)))]) ⟨rfl, rfl, rfl, rfl, by decide⟩ 0 rfl rfl rfl rfl rfl ⟨Nat.le_of_ble_eq_true rfl, Nat.le_of_ble_eq_true rfl, Nat.le_of_ble_eq_true rfl⟩ 37 29845 ⟨rfl, rfl, Nat.le_of_ble_eq_true rfl, Nat.le_of_ble_eq_true rfl⟩ dL_law_439 (fun u H locs hp w => ?_)
  have w : Wd D A s.heap [(m0, .inr (12, [.ref m1, .ref m2, .ref m3, .ref m4, .ref m5, .int 0, .ref m6, .int 0, .int 0, .int 0, .int 0, .int 0, .int 0, .int 0, .int 0, .int 0, .int 0, .int (-1), .ref m7, .ref m8, .int 0, .ref m9, .int 0, .ref m10, .ref m11, .ref m12, .ref m13, .ref m14, .int 0, .ref m15, .ref m16, .ref m17])), (m7, .inl (cy 1, 1830, .inl (fun _ => 0))), (m8, .inl (cy 1, 1830, .inl (fun _ => 0))), (m1, .inl (cy 1, 1868, .inl (upd (upd (upd (fun _ => 0) 1 2) 2 20) 3 120)))] _ _ := w.pick [0, 1, 2, 3] rfl rfl
  refine r_top (g2 := F0 m 442 ls [.int (((nI (PP 20 2 ((y1).toNatClampNeg - 2))) + y2) - y1)]) rfl ?_
  refine lv_aload_n C.1 C.2.1 dL_law_442 rfl (lv_at hl 2 rfl) ?_
  refine lv_aload_n C.1 C.2.1 dL_law_443 rfl (lv_at hl 0 rfl) ?_
  refine lv_iload C.1 C.2.1 dL_law_444 (lv_at hl 4 rfl) ?_
  refine lv_iconst (v := 1) C.1 C.2.1 dL_law_446 (by decide) ?_
  refine r_iadd C (v := 1) dL_law_447 (by decide) ?_
  refine r_sld C w hX hbl hbA (v := y1) (vinD (by decide)) sx1 dL_law_448 ?_
  refine lv_aload_n C.1 C.2.1 dL_law_449 rfl (lv_at hl 0 rfl) ?_
  refine lv_iload C.1 C.2.1 dL_law_450 (lv_at hl 4 rfl) ?_
  refine lv_iconst (v := 2) C.1 C.2.1 dL_law_452 (by decide) ?_
  refine r_iadd C (v := 2) dL_law_453 (by decide) ?_
  refine r_sld C w hX hbl hbA (v := y2) (vinD (by decide)) sx2 dL_law_454 ?_
  refine r_callV C w fv_RL_149 (c_X12_pair_5 l D cy m0 m1 m2 m3 m4 m5 m6 m7 m8 m9 m10 m11 m12 m13 m14 m15 m16 m17 y1 y2 k0 k1 k2 k3) (hl.1.trans hml.symm) [0, 3, 1, 2] [] (wr := []) ⟨rfl, rfl, rfl, rfl, by decide⟩ 0 rfl rfl rfl rfl rfl ⟨Nat.le_of_ble_eq_true rfl, Nat.le_of_ble_eq_true rfl, Nat.le_of_ble_eq_true rfl⟩ 37 29845 ⟨rfl, rfl, Nat.le_of_ble_eq_true rfl, Nat.le_of_ble_eq_true rfl⟩ dL_law_455 (fun u H locs hp w => ?_)
  have w : Wd D A s.heap [(m0, .inr (12, [.ref m1, .ref m2, .ref m3, .ref m4, .ref m5, .int 0, .ref m6, .int 0, .int 0, .int 0, .int 0, .int 0, .int 0, .int 0, .int 0, .int 0, .int 0, .int (-1), .ref m7, .ref m8, .int 190, .ref m9, .int 0, .ref m10, .ref m11, .ref m12, .ref m13, .ref m14, .int 0, .ref m15, .ref m16, .ref m17]))] _ _ := w.pick [0] rfl rfl
  refine r_top (g2 := F0 m 458 ls [.int (nI (PP 20 2 ((y1).toNatClampNeg - 2) + ((y2).toNatClampNeg - (y1).toNatClampNeg))), .int (((nI (PP 20 2 ((y1).toNatClampNeg - 2))) + y2) - y1)]) rfl ?_
  refine b_icmp_eq_t C (tgt := 2461) dL_law_458 (by decide) (num_eq k2 k3 k0) ?_
  refine W.widen (k := 600002) (n := 7302232) (Nat.le_of_ble_eq_true rfl) (Nat.le_of_ble_eq_true rfl) ?_
  exact kk _ _ _ w.2.2 (lv_sub hl [0, 4] rfl)
set_option maxRecDepth 100000 in
set_option maxHeartbeats 4000000 in
theorem s_L_4_5 {p : Program} {l : Launch} {e : Env} {s : State} {m : MethodId} {args : Array Value} {below : List Frame} {meth : Method} {c : Code} {Q : State → Prop} {D : va_G} {cy : Nat → ClassId} {A : Nat → Prop} {H : Heap} {locs : List Loc} {ls : Array Slot} {xs : Nat → Int32} (b q0 q1 q2 q4 q5 q6 q10 q11 q12 q13 q14 q15 q16 q17 m0 m1 m2 m3 m4 m5 m6 m7 m8 m9 m10 m11 m12 m13 m14 m15 m16 m17 o0 : Nat) (y1 : Int32) (y2 : Int32) (k0 : ¬ y2 < y1) (k1 : y1 < y2) (k2 : ¬ y1 < 2) (k3 : 20 < y2) (sx1 : xs 1 = y1) (sx2 : xs 2 = y2) (C : Cx p s m args c cL_law RL D cy A) (hml : c.maxLocals = 8) (hX : va_X b 6 xs s s.heap) (hbl : b < s.heap.size) (hbA : ¬ A b) (w : Wd D A s.heap [(q0, .inr (11, [.ref q1, .int 0, .int 0, .int (-1), .ref q2, .ref q4, .ref q5, .ref q6, .ref q10, .null])), (q10, .inr (9, [.int 0, .int 2, .int 20, .int 120, .int 0, .int 0, .int 0, .int 0, .ref q11, .int 0, .ref q12, .ref q13, .int 0, .ref q14, .ref q15, .ref q16, .ref q17])), (m0, .inr (12, [.ref m1, .ref m2, .ref m3, .ref m4, .ref m5, .int 0, .ref m6, .int 0, .int 0, .int 0, .int 0, .int 0, .int 0, .int 0, .int 0, .int 0, .int 0, .int (-1), .ref m7, .ref m8, .int 0, .ref m9, .int 0, .ref m10, .ref m11, .ref m12, .ref m13, .ref m14, .int 0, .ref m15, .ref m16, .ref m17])), (m7, .inl (cy 1, 1830, .inl (fun _ => 0))), (m8, .inl (cy 1, 1830, .inl (fun _ => 0))), (m1, .inl (cy 1, 1868, .inl (upd (upd (upd (fun _ => 0) 1 2) 2 20) 3 120)))] H locs) (hl : lv_has ls 8 [(0, .ref b), (1, .ref q0), (2, .ref m0), (3, .ref o0), (4, .int 0)]) (kk : ∀ (H : Heap) (locs : List Loc) (ls : Array Slot), va_S A s.heap H locs → lv_has ls 8 [(0, .ref b), (4, .int 0)] → W p l e room_1 s m args below meth c H locs 600002 7302232 Q (F0 m 2461 ls [])) : W p l e room_1 s m args below meth c H locs 37 29845 Q (F0 m 426 ls []) := by
  refine lv_aload_n C.1 C.2.1 dL_law_426 rfl (lv_at hl 1 rfl) ?_
  refine lv_aload_n C.1 C.2.1 dL_law_427 rfl (lv_at hl 0 rfl) ?_
  refine lv_iload C.1 C.2.1 dL_law_428 (lv_at hl 4 rfl) ?_
  refine lv_iconst (v := 1) C.1 C.2.1 dL_law_430 (by decide) ?_
  refine r_iadd C (v := 1) dL_law_431 (by decide) ?_
  refine r_sld C w hX hbl hbA (v := y1) (vinD (by decide)) sx1 dL_law_432 ?_
  refine lv_aload_n C.1 C.2.1 dL_law_433 rfl (lv_at hl 0 rfl) ?_
  refine lv_iload C.1 C.2.1 dL_law_434 (lv_at hl 4 rfl) ?_
  refine lv_iconst (v := 2) C.1 C.2.1 dL_law_436 (by decide) ?_
  refine r_iadd C (v := 2) dL_law_437 (by decide) ?_
  refine r_sld C w hX hbl hbA (v := y2) (vinD (by decide)) sx2 dL_law_438 ?_
  refine r_callV C w fv_RL_146 (c_X11_pair_6 l D cy q0 q1 q2 q4 q5 q6 q10 q11 q12 q13 q14 q15 q16 q17 y1 y2 k0 k1 k2 k3) (hl.1.trans hml.symm) [0, 1] [2, 3, 4, 5] (wr := [(m0, .inr (12, [.ref m1, .ref m2, .ref m3, .ref m4, .ref m5, .int 0, .ref m6, .int 0, .int 0, .int 0, .int 0, .int 0, .int 0, .int 0, .int 0, .int 0, .int 0, .int (-1), .ref m7, .ref m8, .int 0, .ref m9, .int 0, .ref m10, .ref m11, .ref m12, .ref m13, .ref m14, .int 0, .ref m15, .ref m16, .ref m17])), (m7, .inl (cy 1, 1830, .inl (fun _ => 0))), (m8, .inl (cy 1, 1830, .inl (fun _ => 0))), (m1, .inl (cy 1, 1868, .inl (upd (upd (upd (fun _ => 0) 1 2) 2 20) 3 120)))]) ⟨rfl, rfl, rfl, rfl, by decide⟩ 0 rfl rfl rfl rfl rfl ⟨Nat.le_of_ble_eq_true rfl, Nat.le_of_ble_eq_true rfl, Nat.le_of_ble_eq_true rfl⟩ 37 29845 ⟨rfl, rfl, Nat.le_of_ble_eq_true rfl, Nat.le_of_ble_eq_true rfl⟩ dL_law_439 (fun u H locs hp w => ?_)
  have w : Wd D A s.heap [(m0, .inr (12, [.ref m1, .ref m2, .ref m3, .ref m4, .ref m5, .int 0, .ref m6, .int 0, .int 0, .int 0, .int 0, .int 0, .int 0, .int 0, .int 0, .int 0, .int 0, .int (-1), .ref m7, .ref m8, .int 0, .ref m9, .int 0, .ref m10, .ref m11, .ref m12, .ref m13, .ref m14, .int 0, .ref m15, .ref m16, .ref m17])), (m7, .inl (cy 1, 1830, .inl (fun _ => 0))), (m8, .inl (cy 1, 1830, .inl (fun _ => 0))), (m1, .inl (cy 1, 1868, .inl (upd (upd (upd (fun _ => 0) 1 2) 2 20) 3 120)))] _ _ := w.pick [0, 1, 2, 3] rfl rfl
  refine r_top (g2 := F0 m 442 ls [.int (-1)]) rfl ?_
  refine lv_aload_n C.1 C.2.1 dL_law_442 rfl (lv_at hl 2 rfl) ?_
  refine lv_aload_n C.1 C.2.1 dL_law_443 rfl (lv_at hl 0 rfl) ?_
  refine lv_iload C.1 C.2.1 dL_law_444 (lv_at hl 4 rfl) ?_
  refine lv_iconst (v := 1) C.1 C.2.1 dL_law_446 (by decide) ?_
  refine r_iadd C (v := 1) dL_law_447 (by decide) ?_
  refine r_sld C w hX hbl hbA (v := y1) (vinD (by decide)) sx1 dL_law_448 ?_
  refine lv_aload_n C.1 C.2.1 dL_law_449 rfl (lv_at hl 0 rfl) ?_
  refine lv_iload C.1 C.2.1 dL_law_450 (lv_at hl 4 rfl) ?_
  refine lv_iconst (v := 2) C.1 C.2.1 dL_law_452 (by decide) ?_
  refine r_iadd C (v := 2) dL_law_453 (by decide) ?_
  refine r_sld C w hX hbl hbA (v := y2) (vinD (by decide)) sx2 dL_law_454 ?_
  refine r_callV C w fv_RL_149 (c_X12_pair_4 l D cy m0 m1 m2 m3 m4 m5 m6 m7 m8 m9 m10 m11 m12 m13 m14 m15 m16 m17 y1 y2 k0 k1 k2 k3) (hl.1.trans hml.symm) [0, 3, 1, 2] [] (wr := []) ⟨rfl, rfl, rfl, rfl, by decide⟩ 0 rfl rfl rfl rfl rfl ⟨Nat.le_of_ble_eq_true rfl, Nat.le_of_ble_eq_true rfl, Nat.le_of_ble_eq_true rfl⟩ 37 29845 ⟨rfl, rfl, Nat.le_of_ble_eq_true rfl, Nat.le_of_ble_eq_true rfl⟩ dL_law_455 (fun u H locs hp w => ?_)
  have w : Wd D A s.heap [(m0, .inr (12, [.ref m1, .ref m2, .ref m3, .ref m4, .ref m5, .int 0, .ref m6, .int 0, .int 0, .int 0, .int 0, .int 0, .int 0, .int 0, .int 0, .int 0, .int 0, .int (-1), .ref m7, .ref m8, .int 190, .ref m9, .int 0, .ref m10, .ref m11, .ref m12, .ref m13, .ref m14, .int 0, .ref m15, .ref m16, .ref m17]))] _ _ := w.pick [0] rfl rfl
  refine r_top (g2 := F0 m 458 ls [.int (-1), .int (-1)]) rfl ?_
  refine b_icmp_eq_t C (tgt := 2461) dL_law_458 (by decide) (by decide) ?_
  refine W.widen (k := 600002) (n := 7302232) (Nat.le_of_ble_eq_true rfl) (Nat.le_of_ble_eq_true rfl) ?_
  exact kk _ _ _ w.2.2 (lv_sub hl [0, 4] rfl)
set_option maxRecDepth 100000 in
set_option maxHeartbeats 4000000 in
theorem s_L_4_6 {p : Program} {l : Launch} {e : Env} {s : State} {m : MethodId} {args : Array Value} {below : List Frame} {meth : Method} {c : Code} {Q : State → Prop} {D : va_G} {cy : Nat → ClassId} {A : Nat → Prop} {H : Heap} {locs : List Loc} {ls : Array Slot} {xs : Nat → Int32} (b q0 q1 q2 q4 q5 q6 q10 q11 q12 q13 q14 q15 q16 q17 m0 m1 m2 m3 m4 m5 m6 m7 m8 m9 m10 m11 m12 m13 m14 m15 m16 m17 o0 : Nat) (y1 : Int32) (y2 : Int32) (k0 : ¬ y2 < y1) (k1 : ¬ y1 < y2) (k2 : y1 < 2) (sx1 : xs 1 = y1) (sx2 : xs 2 = y2) (C : Cx p s m args c cL_law RL D cy A) (hml : c.maxLocals = 8) (hX : va_X b 6 xs s s.heap) (hbl : b < s.heap.size) (hbA : ¬ A b) (w : Wd D A s.heap [(q0, .inr (11, [.ref q1, .int 0, .int 0, .int (-1), .ref q2, .ref q4, .ref q5, .ref q6, .ref q10, .null])), (q10, .inr (9, [.int 0, .int 2, .int 20, .int 120, .int 0, .int 0, .int 0, .int 0, .ref q11, .int 0, .ref q12, .ref q13, .int 0, .ref q14, .ref q15, .ref q16, .ref q17])), (m0, .inr (12, [.ref m1, .ref m2, .ref m3, .ref m4, .ref m5, .int 0, .ref m6, .int 0, .int 0, .int 0, .int 0, .int 0, .int 0, .int 0, .int 0, .int 0, .int 0, .int (-1), .ref m7, .ref m8, .int 0, .ref m9, .int 0, .ref m10, .ref m11, .ref m12, .ref m13, .ref m14, .int 0, .ref m15, .ref m16, .ref m17])), (m7, .inl (cy 1, 1830, .inl (fun _ => 0))), (m8, .inl (cy 1, 1830, .inl (fun _ => 0))), (m1, .inl (cy 1, 1868, .inl (upd (upd (upd (fun _ => 0) 1 2) 2 20) 3 120)))] H locs) (hl : lv_has ls 8 [(0, .ref b), (1, .ref q0), (2, .ref m0), (3, .ref o0), (4, .int 0)]) (kk : ∀ (H : Heap) (locs : List Loc) (ls : Array Slot), va_S A s.heap H locs → lv_has ls 8 [(0, .ref b), (4, .int 0)] → W p l e room_1 s m args below meth c H locs 600002 7302232 Q (F0 m 2461 ls [])) : W p l e room_1 s m args below meth c H locs 37 29845 Q (F0 m 426 ls []) := by
  refine lv_aload_n C.1 C.2.1 dL_law_426 rfl (lv_at hl 1 rfl) ?_
  refine lv_aload_n C.1 C.2.1 dL_law_427 rfl (lv_at hl 0 rfl) ?_
  refine lv_iload C.1 C.2.1 dL_law_428 (lv_at hl 4 rfl) ?_
  refine lv_iconst (v := 1) C.1 C.2.1 dL_law_430 (by decide) ?_
  refine r_iadd C (v := 1) dL_law_431 (by decide) ?_
  refine r_sld C w hX hbl hbA (v := y1) (vinD (by decide)) sx1 dL_law_432 ?_
  refine lv_aload_n C.1 C.2.1 dL_law_433 rfl (lv_at hl 0 rfl) ?_
  refine lv_iload C.1 C.2.1 dL_law_434 (lv_at hl 4 rfl) ?_
  refine lv_iconst (v := 2) C.1 C.2.1 dL_law_436 (by decide) ?_
  refine r_iadd C (v := 2) dL_law_437 (by decide) ?_
  refine r_sld C w hX hbl hbA (v := y2) (vinD (by decide)) sx2 dL_law_438 ?_
  refine r_callV C w fv_RL_146 (c_X11_pair_7 l D cy q0 q1 q2 q4 q5 q6 q10 q11 q12 q13 q14 q15 q16 q17 y1 y2 k0 k1 k2) (hl.1.trans hml.symm) [0, 1] [2, 3, 4, 5] (wr := [(m0, .inr (12, [.ref m1, .ref m2, .ref m3, .ref m4, .ref m5, .int 0, .ref m6, .int 0, .int 0, .int 0, .int 0, .int 0, .int 0, .int 0, .int 0, .int 0, .int 0, .int (-1), .ref m7, .ref m8, .int 0, .ref m9, .int 0, .ref m10, .ref m11, .ref m12, .ref m13, .ref m14, .int 0, .ref m15, .ref m16, .ref m17])), (m7, .inl (cy 1, 1830, .inl (fun _ => 0))), (m8, .inl (cy 1, 1830, .inl (fun _ => 0))), (m1, .inl (cy 1, 1868, .inl (upd (upd (upd (fun _ => 0) 1 2) 2 20) 3 120)))]) ⟨rfl, rfl, rfl, rfl, by decide⟩ 0 rfl rfl rfl rfl rfl ⟨Nat.le_of_ble_eq_true rfl, Nat.le_of_ble_eq_true rfl, Nat.le_of_ble_eq_true rfl⟩ 37 29845 ⟨rfl, rfl, Nat.le_of_ble_eq_true rfl, Nat.le_of_ble_eq_true rfl⟩ dL_law_439 (fun u H locs hp w => ?_)
  have w : Wd D A s.heap [(m0, .inr (12, [.ref m1, .ref m2, .ref m3, .ref m4, .ref m5, .int 0, .ref m6, .int 0, .int 0, .int 0, .int 0, .int 0, .int 0, .int 0, .int 0, .int 0, .int 0, .int (-1), .ref m7, .ref m8, .int 0, .ref m9, .int 0, .ref m10, .ref m11, .ref m12, .ref m13, .ref m14, .int 0, .ref m15, .ref m16, .ref m17])), (m7, .inl (cy 1, 1830, .inl (fun _ => 0))), (m8, .inl (cy 1, 1830, .inl (fun _ => 0))), (m1, .inl (cy 1, 1868, .inl (upd (upd (upd (fun _ => 0) 1 2) 2 20) 3 120)))] _ _ := w.pick [0, 1, 2, 3] rfl rfl
  refine r_top (g2 := F0 m 442 ls [.int (-1)]) rfl ?_
  refine lv_aload_n C.1 C.2.1 dL_law_442 rfl (lv_at hl 2 rfl) ?_
  refine lv_aload_n C.1 C.2.1 dL_law_443 rfl (lv_at hl 0 rfl) ?_
  refine lv_iload C.1 C.2.1 dL_law_444 (lv_at hl 4 rfl) ?_
  refine lv_iconst (v := 1) C.1 C.2.1 dL_law_446 (by decide) ?_
  refine r_iadd C (v := 1) dL_law_447 (by decide) ?_
  refine r_sld C w hX hbl hbA (v := y1) (vinD (by decide)) sx1 dL_law_448 ?_
  refine lv_aload_n C.1 C.2.1 dL_law_449 rfl (lv_at hl 0 rfl) ?_
  refine lv_iload C.1 C.2.1 dL_law_450 (lv_at hl 4 rfl) ?_
  refine lv_iconst (v := 2) C.1 C.2.1 dL_law_452 (by decide) ?_
  refine r_iadd C (v := 2) dL_law_453 (by decide) ?_
  refine r_sld C w hX hbl hbA (v := y2) (vinD (by decide)) sx2 dL_law_454 ?_
  refine r_callV C w fv_RL_149 (c_X12_pair_6 l D cy m0 m1 m2 m3 m4 m5 m6 m7 m8 m9 m10 m11 m12 m13 m14 m15 m16 m17 y1 y2 k0 k1 k2) (hl.1.trans hml.symm) [0, 3, 1, 2] [] (wr := []) ⟨rfl, rfl, rfl, rfl, by decide⟩ 0 rfl rfl rfl rfl rfl ⟨Nat.le_of_ble_eq_true rfl, Nat.le_of_ble_eq_true rfl, Nat.le_of_ble_eq_true rfl⟩ 37 29845 ⟨rfl, rfl, Nat.le_of_ble_eq_true rfl, Nat.le_of_ble_eq_true rfl⟩ dL_law_455 (fun u H locs hp w => ?_)
  have w : Wd D A s.heap [(m0, .inr (12, [.ref m1, .ref m2, .ref m3, .ref m4, .ref m5, .int 0, .ref m6, .int 0, .int 0, .int 0, .int 0, .int 0, .int 0, .int 0, .int 0, .int 0, .int 0, .int (-1), .ref m7, .ref m8, .int 190, .ref m9, .int 0, .ref m10, .ref m11, .ref m12, .ref m13, .ref m14, .int 0, .ref m15, .ref m16, .ref m17]))] _ _ := w.pick [0] rfl rfl
  refine r_top (g2 := F0 m 458 ls [.int (-1), .int (-1)]) rfl ?_
  refine b_icmp_eq_t C (tgt := 2461) dL_law_458 (by decide) (by decide) ?_
  refine W.widen (k := 600002) (n := 7302232) (Nat.le_of_ble_eq_true rfl) (Nat.le_of_ble_eq_true rfl) ?_
  exact kk _ _ _ w.2.2 (lv_sub hl [0, 4] rfl)
set_option maxRecDepth 100000 in
set_option maxHeartbeats 4000000 in
theorem s_L_4_7 {p : Program} {l : Launch} {e : Env} {s : State} {m : MethodId} {args : Array Value} {below : List Frame} {meth : Method} {c : Code} {Q : State → Prop} {D : va_G} {cy : Nat → ClassId} {A : Nat → Prop} {H : Heap} {locs : List Loc} {ls : Array Slot} {xs : Nat → Int32} (b q0 q1 q2 q4 q5 q6 q10 q11 q12 q13 q14 q15 q16 q17 m0 m1 m2 m3 m4 m5 m6 m7 m8 m9 m10 m11 m12 m13 m14 m15 m16 m17 o0 : Nat) (y1 : Int32) (y2 : Int32) (k0 : ¬ y2 < y1) (k1 : ¬ y1 < y2) (k2 : ¬ y1 < 2) (k3 : ¬ 20 < y1) (sx1 : xs 1 = y1) (sx2 : xs 2 = y2) (C : Cx p s m args c cL_law RL D cy A) (hml : c.maxLocals = 8) (hX : va_X b 6 xs s s.heap) (hbl : b < s.heap.size) (hbA : ¬ A b) (w : Wd D A s.heap [(q0, .inr (11, [.ref q1, .int 0, .int 0, .int (-1), .ref q2, .ref q4, .ref q5, .ref q6, .ref q10, .null])), (q10, .inr (9, [.int 0, .int 2, .int 20, .int 120, .int 0, .int 0, .int 0, .int 0, .ref q11, .int 0, .ref q12, .ref q13, .int 0, .ref q14, .ref q15, .ref q16, .ref q17])), (m0, .inr (12, [.ref m1, .ref m2, .ref m3, .ref m4, .ref m5, .int 0, .ref m6, .int 0, .int 0, .int 0, .int 0, .int 0, .int 0, .int 0, .int 0, .int 0, .int 0, .int (-1), .ref m7, .ref m8, .int 0, .ref m9, .int 0, .ref m10, .ref m11, .ref m12, .ref m13, .ref m14, .int 0, .ref m15, .ref m16, .ref m17])), (m7, .inl (cy 1, 1830, .inl (fun _ => 0))), (m8, .inl (cy 1, 1830, .inl (fun _ => 0))), (m1, .inl (cy 1, 1868, .inl (upd (upd (upd (fun _ => 0) 1 2) 2 20) 3 120)))] H locs) (hl : lv_has ls 8 [(0, .ref b), (1, .ref q0), (2, .ref m0), (3, .ref o0), (4, .int 0)]) (kk : ∀ (H : Heap) (locs : List Loc) (ls : Array Slot), va_S A s.heap H locs → lv_has ls 8 [(0, .ref b), (4, .int 0)] → W p l e room_1 s m args below meth c H locs 600002 7302232 Q (F0 m 2461 ls [])) : W p l e room_1 s m args below meth c H locs 37 29845 Q (F0 m 426 ls []) := by
  refine lv_aload_n C.1 C.2.1 dL_law_426 rfl (lv_at hl 1 rfl) ?_
  refine lv_aload_n C.1 C.2.1 dL_law_427 rfl (lv_at hl 0 rfl) ?_
  refine lv_iload C.1 C.2.1 dL_law_428 (lv_at hl 4 rfl) ?_
  refine lv_iconst (v := 1) C.1 C.2.1 dL_law_430 (by decide) ?_
  refine r_iadd C (v := 1) dL_law_431 (by decide) ?_
  refine r_sld C w hX hbl hbA (v := y1) (vinD (by decide)) sx1 dL_law_432 ?_
  refine lv_aload_n C.1 C.2.1 dL_law_433 rfl (lv_at hl 0 rfl) ?_
  refine lv_iload C.1 C.2.1 dL_law_434 (lv_at hl 4 rfl) ?_
  refine lv_iconst (v := 2) C.1 C.2.1 dL_law_436 (by decide) ?_
  refine r_iadd C (v := 2) dL_law_437 (by decide) ?_
  refine r_sld C w hX hbl hbA (v := y2) (vinD (by decide)) sx2 dL_law_438 ?_
  refine r_callV C w fv_RL_146 (c_X11_pair_8 l D cy q0 q1 q2 q4 q5 q6 q10 q11 q12 q13 q14 q15 q16 q17 y1 y2 k0 k1 k2 k3) (hl.1.trans hml.symm) [0, 1] [2, 3, 4, 5] (wr := [(m0, .inr (12, [.ref m1, .ref m2, .ref m3, .ref m4, .ref m5, .int 0, .ref m6, .int 0, .int 0, .int 0, .int 0, .int 0, .int 0, .int 0, .int 0, .int 0, .int 0, .int (-1), .ref m7, .ref m8, .int 0, .ref m9, .int 0, .ref m10, .ref m11, .ref m12, .ref m13, .ref m14, .int 0, .ref m15, .ref m16, .ref m17])), (m7, .inl (cy 1, 1830, .inl (fun _ => 0))), (m8, .inl (cy 1, 1830, .inl (fun _ => 0))), (m1, .inl (cy 1, 1868, .inl (upd (upd (upd (fun _ => 0) 1 2) 2 20) 3 120)))]) ⟨rfl, rfl, rfl, rfl, by decide⟩ 0 rfl rfl rfl rfl rfl ⟨Nat.le_of_ble_eq_true rfl, Nat.le_of_ble_eq_true rfl, Nat.le_of_ble_eq_true rfl⟩ 37 29845 ⟨rfl, rfl, Nat.le_of_ble_eq_true rfl, Nat.le_of_ble_eq_true rfl⟩ dL_law_439 (fun u H locs hp w => ?_)
  have w : Wd D A s.heap [(m0, .inr (12, [.ref m1, .ref m2, .ref m3, .ref m4, .ref m5, .int 0, .ref m6, .int 0, .int 0, .int 0, .int 0, .int 0, .int 0, .int 0, .int 0, .int 0, .int 0, .int (-1), .ref m7, .ref m8, .int 0, .ref m9, .int 0, .ref m10, .ref m11, .ref m12, .ref m13, .ref m14, .int 0, .ref m15, .ref m16, .ref m17])), (m7, .inl (cy 1, 1830, .inl (fun _ => 0))), (m8, .inl (cy 1, 1830, .inl (fun _ => 0))), (m1, .inl (cy 1, 1868, .inl (upd (upd (upd (fun _ => 0) 1 2) 2 20) 3 120)))] _ _ := w.pick [0, 1, 2, 3] rfl rfl
  refine r_top (g2 := F0 m 442 ls [.int (((nI (PP 20 2 ((y1).toNatClampNeg - 2))) + y1) - y1)]) rfl ?_
  refine lv_aload_n C.1 C.2.1 dL_law_442 rfl (lv_at hl 2 rfl) ?_
  refine lv_aload_n C.1 C.2.1 dL_law_443 rfl (lv_at hl 0 rfl) ?_
  refine lv_iload C.1 C.2.1 dL_law_444 (lv_at hl 4 rfl) ?_
  refine lv_iconst (v := 1) C.1 C.2.1 dL_law_446 (by decide) ?_
  refine r_iadd C (v := 1) dL_law_447 (by decide) ?_
  refine r_sld C w hX hbl hbA (v := y1) (vinD (by decide)) sx1 dL_law_448 ?_
  refine lv_aload_n C.1 C.2.1 dL_law_449 rfl (lv_at hl 0 rfl) ?_
  refine lv_iload C.1 C.2.1 dL_law_450 (lv_at hl 4 rfl) ?_
  refine lv_iconst (v := 2) C.1 C.2.1 dL_law_452 (by decide) ?_
  refine r_iadd C (v := 2) dL_law_453 (by decide) ?_
  refine r_sld C w hX hbl hbA (v := y2) (vinD (by decide)) sx2 dL_law_454 ?_
  refine r_callV C w fv_RL_149 (c_X12_pair_8 l D cy m0 m1 m2 m3 m4 m5 m6 m7 m8 m9 m10 m11 m12 m13 m14 m15 m16 m17 y1 y2 k0 k1 k2 k3) (hl.1.trans hml.symm) [0, 3, 1, 2] [] (wr := []) ⟨rfl, rfl, rfl, rfl, by decide⟩ 0 rfl rfl rfl rfl rfl ⟨Nat.le_of_ble_eq_true rfl, Nat.le_of_ble_eq_true rfl, Nat.le_of_ble_eq_true rfl⟩ 37 29845 ⟨rfl, rfl, Nat.le_of_ble_eq_true rfl, Nat.le_of_ble_eq_true rfl⟩ dL_law_455 (fun u H locs hp w => ?_)
  have w : Wd D A s.heap [(m0, .inr (12, [.ref m1, .ref m2, .ref m3, .ref m4, .ref m5, .int 0, .ref m6, .int 0, .int 0, .int 0, .int 0, .int 0, .int 0, .int 0, .int 0, .int 0, .int 0, .int (-1), .ref m7, .ref m8, .int 190, .ref m9, .int 0, .ref m10, .ref m11, .ref m12, .ref m13, .ref m14, .int 0, .ref m15, .ref m16, .ref m17]))] _ _ := w.pick [0] rfl rfl
  refine r_top (g2 := F0 m 458 ls [.int (nI (PP 20 2 ((y1).toNatClampNeg - 2) + ((y1).toNatClampNeg - (y1).toNatClampNeg))), .int (((nI (PP 20 2 ((y1).toNatClampNeg - 2))) + y1) - y1)]) rfl ?_
  refine b_icmp_eq_t C (tgt := 2461) dL_law_458 (by decide) (num_eq k2 k3 Int32.lt_irrefl) ?_
  refine W.widen (k := 600002) (n := 7302232) (Nat.le_of_ble_eq_true rfl) (Nat.le_of_ble_eq_true rfl) ?_
  exact kk _ _ _ w.2.2 (lv_sub hl [0, 4] rfl)
set_option maxRecDepth 100000 in
set_option maxHeartbeats 4000000 in
theorem s_L_4_8 {p : Program} {l : Launch} {e : Env} {s : State} {m : MethodId} {args : Array Value} {below : List Frame} {meth : Method} {c : Code} {Q : State → Prop} {D : va_G} {cy : Nat → ClassId} {A : Nat → Prop} {H : Heap} {locs : List Loc} {ls : Array Slot} {xs : Nat → Int32} (b q0 q1 q2 q4 q5 q6 q10 q11 q12 q13 q14 q15 q16 q17 m0 m1 m2 m3 m4 m5 m6 m7 m8 m9 m10 m11 m12 m13 m14 m15 m16 m17 o0 : Nat) (y1 : Int32) (y2 : Int32) (k0 : ¬ y2 < y1) (k1 : ¬ y1 < y2) (k2 : ¬ y1 < 2) (k3 : 20 < y1) (sx1 : xs 1 = y1) (sx2 : xs 2 = y2) (C : Cx p s m args c cL_law RL D cy A) (hml : c.maxLocals = 8) (hX : va_X b 6 xs s s.heap) (hbl : b < s.heap.size) (hbA : ¬ A b) (w : Wd D A s.heap [(q0, .inr (11, [.ref q1, .int 0, .int 0, .int (-1), .ref q2, .ref q4, .ref q5, .ref q6, .ref q10, .null])), (q10, .inr (9, [.int 0, .int 2, .int 20, .int 120, .int 0, .int 0, .int 0, .int 0, .ref q11, .int 0, .ref q12, .ref q13, .int 0, .ref q14, .ref q15, .ref q16, .ref q17])), (m0, .inr (12, [.ref m1, .ref m2, .ref m3, .ref m4, .ref m5, .int 0, .ref m6, .int 0, .int 0, .int 0, .int 0, .int 0, .int 0, .int 0, .int 0, .int 0, .int 0, .int (-1), .ref m7, .ref m8, .int 0, .ref m9, .int 0, .ref m10, .ref m11, .ref m12, .ref m13, .ref m14, .int 0, .ref m15, .ref m16, .ref m17])), (m7, .inl (cy 1, 1830, .inl (fun _ => 0))), (m8, .inl (cy 1, 1830, .inl (fun _ => 0))), (m1, .inl (cy 1, 1868, .inl (upd (upd (upd (fun _ => 0) 1 2) 2 20) 3 120)))] H locs) (hl : lv_has ls 8 [(0, .ref b), (1, .ref q0), (2, .ref m0), (3, .ref o0), (4, .int 0)]) (kk : ∀ (H : Heap) (locs : List Loc) (ls : Array Slot), va_S A s.heap H locs → lv_has ls 8 [(0, .ref b), (4, .int 0)] → W p l e room_1 s m args below meth c H locs 600002 7302232 Q (F0 m 2461 ls [])) : W p l e room_1 s m args below meth c H locs 37 29845 Q (F0 m 426 ls []) := by
  refine lv_aload_n C.1 C.2.1 dL_law_426 rfl (lv_at hl 1 rfl) ?_
  refine lv_aload_n C.1 C.2.1 dL_law_427 rfl (lv_at hl 0 rfl) ?_
  refine lv_iload C.1 C.2.1 dL_law_428 (lv_at hl 4 rfl) ?_
  refine lv_iconst (v := 1) C.1 C.2.1 dL_law_430 (by decide) ?_
  refine r_iadd C (v := 1) dL_law_431 (by decide) ?_
  refine r_sld C w hX hbl hbA (v := y1) (vinD (by decide)) sx1 dL_law_432 ?_
  refine lv_aload_n C.1 C.2.1 dL_law_433 rfl (lv_at hl 0 rfl) ?_
  refine lv_iload C.1 C.2.1 dL_law_434 (lv_at hl 4 rfl) ?_
  refine lv_iconst (v := 2) C.1 C.2.1 dL_law_436 (by decide) ?_
  refine r_iadd C (v := 2) dL_law_437 (by decide) ?_
  refine r_sld C w hX hbl hbA (v := y2) (vinD (by decide)) sx2 dL_law_438 ?_
  refine r_callV C w fv_RL_146 (c_X11_pair_9 l D cy q0 q1 q2 q4 q5 q6 q10 q11 q12 q13 q14 q15 q16 q17 y1 y2 k0 k1 k2 k3) (hl.1.trans hml.symm) [0, 1] [2, 3, 4, 5] (wr := [(m0, .inr (12, [.ref m1, .ref m2, .ref m3, .ref m4, .ref m5, .int 0, .ref m6, .int 0, .int 0, .int 0, .int 0, .int 0, .int 0, .int 0, .int 0, .int 0, .int 0, .int (-1), .ref m7, .ref m8, .int 0, .ref m9, .int 0, .ref m10, .ref m11, .ref m12, .ref m13, .ref m14, .int 0, .ref m15, .ref m16, .ref m17])), (m7, .inl (cy 1, 1830, .inl (fun _ => 0))), (m8, .inl (cy 1, 1830, .inl (fun _ => 0))), (m1, .inl (cy 1, 1868, .inl (upd (upd (upd (fun _ => 0) 1 2) 2 20) 3 120)))]) ⟨rfl, rfl, rfl, rfl, by decide⟩ 0 rfl rfl rfl rfl rfl ⟨Nat.le_of_ble_eq_true rfl, Nat.le_of_ble_eq_true rfl, Nat.le_of_ble_eq_true rfl⟩ 37 29845 ⟨rfl, rfl, Nat.le_of_ble_eq_true rfl, Nat.le_of_ble_eq_true rfl⟩ dL_law_439 (fun u H locs hp w => ?_)
  have w : Wd D A s.heap [(m0, .inr (12, [.ref m1, .ref m2, .ref m3, .ref m4, .ref m5, .int 0, .ref m6, .int 0, .int 0, .int 0, .int 0, .int 0, .int 0, .int 0, .int 0, .int 0, .int 0, .int (-1), .ref m7, .ref m8, .int 0, .ref m9, .int 0, .ref m10, .ref m11, .ref m12, .ref m13, .ref m14, .int 0, .ref m15, .ref m16, .ref m17])), (m7, .inl (cy 1, 1830, .inl (fun _ => 0))), (m8, .inl (cy 1, 1830, .inl (fun _ => 0))), (m1, .inl (cy 1, 1868, .inl (upd (upd (upd (fun _ => 0) 1 2) 2 20) 3 120)))] _ _ := w.pick [0, 1, 2, 3] rfl rfl
  refine r_top (g2 := F0 m 442 ls [.int (-1)]) rfl ?_
  refine lv_aload_n C.1 C.2.1 dL_law_442 rfl (lv_at hl 2 rfl) ?_
  refine lv_aload_n C.1 C.2.1 dL_law_443 rfl (lv_at hl 0 rfl) ?_
  refine lv_iload C.1 C.2.1 dL_law_444 (lv_at hl 4 rfl) ?_
  refine lv_iconst (v := 1) C.1 C.2.1 dL_law_446 (by decide) ?_
  refine r_iadd C (v := 1) dL_law_447 (by decide) ?_
  refine r_sld C w hX hbl hbA (v := y1) (vinD (by decide)) sx1 dL_law_448 ?_
  refine lv_aload_n C.1 C.2.1 dL_law_449 rfl (lv_at hl 0 rfl) ?_
  refine lv_iload C.1 C.2.1 dL_law_450 (lv_at hl 4 rfl) ?_
  refine lv_iconst (v := 2) C.1 C.2.1 dL_law_452 (by decide) ?_
  refine r_iadd C (v := 2) dL_law_453 (by decide) ?_
  refine r_sld C w hX hbl hbA (v := y2) (vinD (by decide)) sx2 dL_law_454 ?_
  refine r_callV C w fv_RL_149 (c_X12_pair_7 l D cy m0 m1 m2 m3 m4 m5 m6 m7 m8 m9 m10 m11 m12 m13 m14 m15 m16 m17 y1 y2 k0 k1 k2 k3) (hl.1.trans hml.symm) [0, 3, 1, 2] [] (wr := []) ⟨rfl, rfl, rfl, rfl, by decide⟩ 0 rfl rfl rfl rfl rfl ⟨Nat.le_of_ble_eq_true rfl, Nat.le_of_ble_eq_true rfl, Nat.le_of_ble_eq_true rfl⟩ 37 29845 ⟨rfl, rfl, Nat.le_of_ble_eq_true rfl, Nat.le_of_ble_eq_true rfl⟩ dL_law_455 (fun u H locs hp w => ?_)
  have w : Wd D A s.heap [(m0, .inr (12, [.ref m1, .ref m2, .ref m3, .ref m4, .ref m5, .int 0, .ref m6, .int 0, .int 0, .int 0, .int 0, .int 0, .int 0, .int 0, .int 0, .int 0, .int 0, .int (-1), .ref m7, .ref m8, .int 190, .ref m9, .int 0, .ref m10, .ref m11, .ref m12, .ref m13, .ref m14, .int 0, .ref m15, .ref m16, .ref m17]))] _ _ := w.pick [0] rfl rfl
  refine r_top (g2 := F0 m 458 ls [.int (-1), .int (-1)]) rfl ?_
  refine b_icmp_eq_t C (tgt := 2461) dL_law_458 (by decide) (by decide) ?_
  refine W.widen (k := 600002) (n := 7302232) (Nat.le_of_ble_eq_true rfl) (Nat.le_of_ble_eq_true rfl) ?_
  exact kk _ _ _ w.2.2 (lv_sub hl [0, 4] rfl)
set_option maxRecDepth 100000 in
set_option maxHeartbeats 4000000 in
theorem t_L_4 {p : Program} {l : Launch} {e : Env} {s : State} {m : MethodId} {args : Array Value} {below : List Frame} {meth : Method} {c : Code} {Q : State → Prop} {D : va_G} {cy : Nat → ClassId} {A : Nat → Prop} {H : Heap} {locs : List Loc} {ls : Array Slot} {xs : Nat → Int32} (b q0 q1 q2 q4 q5 q6 q10 q3 q7 q8 q9 q11 q12 q13 q14 q15 q16 q17 m0 m1 m2 m3 m4 m5 m6 m7 m8 m9 m10 m11 m12 m13 m14 m15 m16 m17 o0 : Nat) (hst : l.stackTraces = false) (C : Cx p s m args c cL_law RL D cy A) (hml : c.maxLocals = 8) (hX : va_X b 6 xs s s.heap) (hbl : b < s.heap.size) (hbA : ¬ A b) (w : Wd D A s.heap [(q0, .inr (11, [.ref q1, .int 0, .int 0, .int (-1), .ref q2, .ref q4, .ref q5, .ref q6, .ref q10, .null])), (q1, .inl (cy 0, 900, .inl (fun _ => 0))), (q2, .inr (5, [.ref q3, .int 0, .int 0, .int 0, .int 0, .int 0, .int 0, .null])), (q3, .inl (cy 0, 0, .inl (fun _ => 0))), (q4, .inl (cy 4, 5, .inr (.inr (.inr (.inr (va_up (fun _ => none) 0 (some q10))))))), (q5, .inl (cy 4, 3, .inr (.inr (.inr (.inr (fun _ => none)))))), (q6, .inr (10, [.ref q7, .ref q8, .ref q9])), (q7, .inl (cy 1, 4, .inl (upd (upd (upd (upd (fun _ => 0) 0 (-1)) 1 (-1)) 2 (-1)) 3 (-1)))), (q8, .inl (cy 1, 4, .inl (fun _ => 0))), (q9, .inl (cy 2, 160, .inr (.inl (fun _ => 0)))), (q10, .inr (9, [.int 0, .int 2, .int 20, .int 120, .int 0, .int 0, .int 0, .int 0, .ref q11, .int 0, .ref q12, .ref q13, .int 0, .ref q14, .ref q15, .ref q16, .ref q17])), (q11, .inl (cy 1, 6, .inl (fun _ => 0))), (q12, .inl (cy 1, 20, .inl (fun _ => 0))), (q13, .inl (cy 1, 20, .inl (fun _ => 0))), (q14, .inl (cy 1, 300, .inl (fun _ => 0))), (q15, .inl (cy 1, 300, .inl (fun _ => 0))), (q16, .inl (cy 1, 300, .inl (fun _ => 0))), (q17, .inl (cy 1, 300, .inl (fun _ => 0))), (m0, .inr (12, [.ref m1, .ref m2, .ref m3, .ref m4, .ref m5, .int 0, .ref m6, .int 0, .int 0, .int 0, .int 0, .int 0, .int 0, .int 0, .int 0, .int 0, .int 0, .int (-1), .ref m7, .ref m8, .int 0, .ref m9, .int 0, .ref m10, .ref m11, .ref m12, .ref m13, .ref m14, .int 0, .ref m15, .ref m16, .ref m17])), (m2, .inl (cy 1, 1868, .inl (fun _ => 0))), (m3, .inl (cy 1, 1868, .inl (fun _ => 0))), (m4, .inl (cy 1, 5604, .inl (fun _ => 0))), (m5, .inl (cy 3, 3, .inl (fun _ => 0))), (m6, .inl (cy 1, 900, .inl (fun _ => 0))), (m7, .inl (cy 1, 1830, .inl (fun _ => 0))), (m8, .inl (cy 1, 1830, .inl (fun _ => 0))), (m9, .inl (cy 2, 2465, .inr (.inl (fun _ => 0)))), (m10, .inl (cy 1, 7201, .inl (fun _ => 0))), (m11, .inl (cy 1, 1830, .inl (fun _ => 0))), (m12, .inl (cy 1, 5, .inl (fun _ => 0))), (m13, .inl (cy 1, 6, .inl (fun _ => 0))), (m14, .inl (cy 1, 6, .inl (fun _ => 0))), (m15, .inl (cy 1, 4, .inl (upd (upd (upd (upd (fun _ => 0) 0 (-1)) 1 (-1)) 2 (-1)) 3 (-1)))), (m16, .inl (cy 1, 4, .inl (fun _ => 0))), (m17, .inl (cy 2, 160, .inr (.inl (fun _ => 0)))), (m1, .inl (cy 1, 1868, .inl (upd (upd (upd (fun _ => 0) 1 2) 2 20) 3 120))), (o0, .inl (cy 2, 1, .inr (.inl (fun _ => 0))))] H locs) (hl : lv_has ls 8 [(0, .ref b), (1, .ref q0), (2, .ref m0), (3, .ref o0), (4, .int 0)]) (kk : ∀ (H : Heap) (locs : List Loc) (ls : Array Slot), va_S A s.heap H locs → lv_has ls 8 [(0, .ref b), (4, .int 0)] → W p l e room_1 s m args below meth c H locs 600002 7302232 Q (F0 m 2461 ls [])) : W p l e room_1 s m args below meth c H locs 37 29845 Q (F0 m 426 ls []) := by
  obtain ⟨y1, sx1⟩ : ∃ y, xs 1 = y := ⟨_, rfl⟩
  obtain ⟨y2, sx2⟩ : ∃ y, xs 2 = y := ⟨_, rfl⟩
  obtain ⟨y3, sx3⟩ : ∃ y, xs 3 = y := ⟨_, rfl⟩
  obtain ⟨y4, sx4⟩ : ∃ y, xs 4 = y := ⟨_, rfl⟩
  obtain ⟨y5, sx5⟩ : ∃ y, xs 5 = y := ⟨_, rfl⟩
  by_cases g1 : y2 < y1
  · by_cases g2 : y2 < 2
    · exact s_L_4_0 b q0 q1 q2 q4 q5 q6 q10 q11 q12 q13 q14 q15 q16 q17 m0 m1 m2 m3 m4 m5 m6 m7 m8 m9 m10 m11 m12 m13 m14 m15 m16 m17 o0 y1 y2 g1 g2 sx1 sx2 C hml hX hbl hbA (w.pick [0, 10, 18, 24, 25, 35] rfl rfl) hl kk
    · by_cases g3 : 20 < y1
      · exact s_L_4_2 b q0 q1 q2 q4 q5 q6 q10 q11 q12 q13 q14 q15 q16 q17 m0 m1 m2 m3 m4 m5 m6 m7 m8 m9 m10 m11 m12 m13 m14 m15 m16 m17 o0 y1 y2 g1 g2 g3 sx1 sx2 C hml hX hbl hbA (w.pick [0, 10, 18, 24, 25, 35] rfl rfl) hl kk
      · exact s_L_4_1 b q0 q1 q2 q4 q5 q6 q10 q11 q12 q13 q14 q15 q16 q17 m0 m1 m2 m3 m4 m5 m6 m7 m8 m9 m10 m11 m12 m13 m14 m15 m16 m17 o0 y1 y2 g1 g2 g3 sx1 sx2 C hml hX hbl hbA (w.pick [0, 10, 18, 24, 25, 35] rfl rfl) hl kk
  · by_cases g4 : y1 < y2
    · by_cases g5 : y1 < 2
      · exact s_L_4_3 b q0 q1 q2 q4 q5 q6 q10 q11 q12 q13 q14 q15 q16 q17 m0 m1 m2 m3 m4 m5 m6 m7 m8 m9 m10 m11 m12 m13 m14 m15 m16 m17 o0 y1 y2 g1 g4 g5 sx1 sx2 C hml hX hbl hbA (w.pick [0, 10, 18, 24, 25, 35] rfl rfl) hl kk
      · by_cases g6 : 20 < y2
        · exact s_L_4_5 b q0 q1 q2 q4 q5 q6 q10 q11 q12 q13 q14 q15 q16 q17 m0 m1 m2 m3 m4 m5 m6 m7 m8 m9 m10 m11 m12 m13 m14 m15 m16 m17 o0 y1 y2 g1 g4 g5 g6 sx1 sx2 C hml hX hbl hbA (w.pick [0, 10, 18, 24, 25, 35] rfl rfl) hl kk
        · exact s_L_4_4 b q0 q1 q2 q4 q5 q6 q10 q11 q12 q13 q14 q15 q16 q17 m0 m1 m2 m3 m4 m5 m6 m7 m8 m9 m10 m11 m12 m13 m14 m15 m16 m17 o0 y1 y2 g1 g4 g5 g6 sx1 sx2 C hml hX hbl hbA (w.pick [0, 10, 18, 24, 25, 35] rfl rfl) hl kk
    · by_cases g7 : y1 < 2
      · exact s_L_4_6 b q0 q1 q2 q4 q5 q6 q10 q11 q12 q13 q14 q15 q16 q17 m0 m1 m2 m3 m4 m5 m6 m7 m8 m9 m10 m11 m12 m13 m14 m15 m16 m17 o0 y1 y2 g1 g4 g7 sx1 sx2 C hml hX hbl hbA (w.pick [0, 10, 18, 24, 25, 35] rfl rfl) hl kk
      · by_cases g8 : 20 < y1
        · exact s_L_4_8 b q0 q1 q2 q4 q5 q6 q10 q11 q12 q13 q14 q15 q16 q17 m0 m1 m2 m3 m4 m5 m6 m7 m8 m9 m10 m11 m12 m13 m14 m15 m16 m17 o0 y1 y2 g1 g4 g7 g8 sx1 sx2 C hml hX hbl hbA (w.pick [0, 10, 18, 24, 25, 35] rfl rfl) hl kk
        · exact s_L_4_7 b q0 q1 q2 q4 q5 q6 q10 q11 q12 q13 q14 q15 q16 q17 m0 m1 m2 m3 m4 m5 m6 m7 m8 m9 m10 m11 m12 m13 m14 m15 m16 m17 o0 y1 y2 g1 g4 g7 g8 sx1 sx2 C hml hX hbl hbA (w.pick [0, 10, 18, 24, 25, 35] rfl rfl) hl kk
theorem dL_law_463 : decode cL_law 463 = .ok (.aload_n 1, 1) := by decide +kernel
theorem dL_law_464 : decode cL_law 464 = .ok (.aload_n 0, 1) := by decide +kernel
theorem dL_law_465 : decode cL_law 465 = .ok (.iload 4, 2) := by decide +kernel
theorem dL_law_467 : decode cL_law 467 = .ok (.iconst 1, 1) := by decide +kernel
theorem dL_law_468 : decode cL_law 468 = .ok (.iadd, 1) := by decide +kernel
theorem dL_law_469 : decode cL_law 469 = .ok (.iaload, 1) := by decide +kernel
theorem dL_law_470 : decode cL_law 470 = .ok (.aload_n 0, 1) := by decide +kernel
theorem dL_law_471 : decode cL_law 471 = .ok (.iload 4, 2) := by decide +kernel
theorem dL_law_473 : decode cL_law 473 = .ok (.iconst 2, 1) := by decide +kernel
theorem dL_law_474 : decode cL_law 474 = .ok (.iadd, 1) := by decide +kernel
theorem dL_law_475 : decode cL_law 475 = .ok (.iaload, 1) := by decide +kernel
theorem dL_law_476 : decode cL_law 476 = .ok (.aload_n 3, 1) := by decide +kernel
theorem dL_law_477 : decode cL_law 477 = .ok (.invokestatic 150, 3) := by decide +kernel
theorem fh_RL_150 : FH RL 150 yL_told cL_told 5 (some .int) [(0, 10, 13, 19)] 4 := ⟨⟨gw_mem (by decide +kernel) (by decide +kernel), gw_mem (by decide +kernel) (by decide +kernel), gw_mem (by decide +kernel) (by decide +kernel), gw_mem (by decide +kernel) (by decide +kernel)⟩, ⟨by decide +kernel, by decide +kernel, by decide +kernel⟩⟩
theorem dL_law_480 : decode cL_law 480 = .ok (.istore 5, 2) := by decide +kernel
theorem dL_law_482 : decode cL_law 482 = .ok (.aload_n 2, 1) := by decide +kernel
theorem dL_law_483 : decode cL_law 483 = .ok (.aload_n 0, 1) := by decide +kernel
theorem dL_law_484 : decode cL_law 484 = .ok (.iload 4, 2) := by decide +kernel
theorem dL_law_486 : decode cL_law 486 = .ok (.iconst 1, 1) := by decide +kernel
theorem dL_law_487 : decode cL_law 487 = .ok (.iadd, 1) := by decide +kernel
theorem dL_law_488 : decode cL_law 488 = .ok (.iaload, 1) := by decide +kernel
theorem dL_law_489 : decode cL_law 489 = .ok (.aload_n 0, 1) := by decide +kernel
theorem dL_law_490 : decode cL_law 490 = .ok (.iload 4, 2) := by decide +kernel
theorem dL_law_492 : decode cL_law 492 = .ok (.iconst 2, 1) := by decide +kernel
theorem dL_law_493 : decode cL_law 493 = .ok (.iadd, 1) := by decide +kernel
theorem dL_law_494 : decode cL_law 494 = .ok (.iaload, 1) := by decide +kernel
theorem dL_law_495 : decode cL_law 495 = .ok (.invokevirtual 152, 3) := by decide +kernel
theorem fv_RL_152 : FV RL 152 yX12_told cX12_told 3 (some .int) 2 := ⟨⟨gw_mem (by decide +kernel) (by decide +kernel), gw_mem (by decide +kernel) (by decide +kernel), gw_mem (by decide +kernel) (by decide +kernel), gw_mem (by decide +kernel) (by decide +kernel), gw_mem (by decide +kernel) (by decide +kernel)⟩, ⟨by decide +kernel, by decide +kernel, by decide +kernel⟩⟩
theorem dL_law_498 : decode cL_law 498 = .ok (.istore 6, 2) := by decide +kernel
theorem dL_law_500 : decode cL_law 500 = .ok (.aload_n 2, 1) := by decide +kernel
theorem dL_law_501 : decode cL_law 501 = .ok (.invokevirtual 134, 3) := by decide +kernel
theorem dL_law_504 : decode cL_law 504 = .ok (.iload 5, 2) := by decide +kernel
theorem dL_law_506 : decode cL_law 506 = .ok (.if_icmp .eq 5, 3) := by decide +kernel
theorem dL_law_511 : decode cL_law 511 = .ok (.iload 5, 2) := by decide +kernel
theorem dL_law_513 : decode cL_law 513 = .ok (.ifCond .ne 15, 3) := by decide +kernel
theorem dL_law_528 : decode cL_law 528 = .ok (.goto 1933, 3) := by decide +kernel
set_option maxRecDepth 100000 in
set_option maxHeartbeats 4000000 in
theorem s_L_5_0 {p : Program} {l : Launch} {e : Env} {s : State} {m : MethodId} {args : Array Value} {below : List Frame} {meth : Method} {c : Code} {Q : State → Prop} {D : va_G} {cy : Nat → ClassId} {A : Nat → Prop} {H : Heap} {locs : List Loc} {ls : Array Slot} {xs : Nat → Int32} (b q0 q1 q2 q4 q5 q6 q10 m0 m1 m2 m3 m4 m5 m6 m7 m8 m9 m10 m11 m12 m13 m14 m15 m16 m17 o0 : Nat) (y1 : Int32) (y2 : Int32) (k0 : y1 < 0) (sx1 : xs 1 = y1) (sx2 : xs 2 = y2) (hst : l.stackTraces = false) (C : Cx p s m args c cL_law RL D cy A) (hml : c.maxLocals = 8) (hX : va_X b 6 xs s s.heap) (hbl : b < s.heap.size) (hbA : ¬ A b) (w : Wd D A s.heap [(q0, .inr (11, [.ref q1, .int 0, .int 0, .int (-1), .ref q2, .ref q4, .ref q5, .ref q6, .ref q10, .null])), (m0, .inr (12, [.ref m1, .ref m2, .ref m3, .ref m4, .ref m5, .int 0, .ref m6, .int 0, .int 0, .int 0, .int 0, .int 0, .int 0, .int 0, .int 0, .int 0, .int 0, .int (-1), .ref m7, .ref m8, .int 0, .ref m9, .int 0, .ref m10, .ref m11, .ref m12, .ref m13, .ref m14, .int 0, .ref m15, .ref m16, .ref m17])), (m1, .inl (cy 1, 1868, .inl (upd (upd (upd (fun _ => 0) 1 2) 2 20) 3 120)))] H locs) (hl : lv_has ls 8 [(0, .ref b), (1, .ref q0), (2, .ref m0), (3, .ref o0), (4, .int 0)]) (kk : ∀ (H : Heap) (locs : List Loc) (ls : Array Slot), va_S A s.heap H locs → lv_has ls 8 [(0, .ref b), (4, .int 0)] → W p l e room_1 s m args below meth c H locs 600002 7302232 Q (F0 m 2461 ls [])) : W p l e room_1 s m args below meth c H locs 37 29845 Q (F0 m 463 ls []) := by
  refine lv_aload_n C.1 C.2.1 dL_law_463 rfl (lv_at hl 1 rfl) ?_
  refine lv_aload_n C.1 C.2.1 dL_law_464 rfl (lv_at hl 0 rfl) ?_
  refine lv_iload C.1 C.2.1 dL_law_465 (lv_at hl 4 rfl) ?_
  refine lv_iconst (v := 1) C.1 C.2.1 dL_law_467 (by decide) ?_
  refine r_iadd C (v := 1) dL_law_468 (by decide) ?_
  refine r_sld C w hX hbl hbA (v := y1) (vinD (by decide)) sx1 dL_law_469 ?_
  refine lv_aload_n C.1 C.2.1 dL_law_470 rfl (lv_at hl 0 rfl) ?_
  refine lv_iload C.1 C.2.1 dL_law_471 (lv_at hl 4 rfl) ?_
  refine lv_iconst (v := 2) C.1 C.2.1 dL_law_473 (by decide) ?_
  refine r_iadd C (v := 2) dL_law_474 (by decide) ?_
  refine r_sld C w hX hbl hbA (v := y2) (vinD (by decide)) sx2 dL_law_475 ?_
  refine lv_aload_n C.1 C.2.1 dL_law_476 rfl (lv_at hl 3 rfl) ?_
  refine r_callH C w fh_RL_150 (c_L_told_0 l D cy q0 o0 q1 q2 q4 q5 q6 q10 y1 y2 k0 hst) (hl.1.trans hml.symm) [0] [1, 2] (wr := [(m0, .inr (12, [.ref m1, .ref m2, .ref m3, .ref m4, .ref m5, .int 0, .ref m6, .int 0, .int 0, .int 0, .int 0, .int 0, .int 0, .int 0, .int 0, .int 0, .int 0, .int (-1), .ref m7, .ref m8, .int 0, .ref m9, .int 0, .ref m10, .ref m11, .ref m12, .ref m13, .ref m14, .int 0, .ref m15, .ref m16, .ref m17])), (m1, .inl (cy 1, 1868, .inl (upd (upd (upd (fun _ => 0) 1 2) 2 20) 3 120)))]) ⟨rfl, rfl, rfl, rfl, by decide⟩ rfl rfl ⟨Nat.le_of_ble_eq_true rfl, Nat.le_of_ble_eq_true rfl, Nat.le_of_ble_eq_true rfl⟩ 38 29851 ⟨rfl, rfl, Nat.le_of_ble_eq_true rfl, Nat.le_of_ble_eq_true rfl⟩ dL_law_477 (fun u H locs hp w => ?_)
  have w : Wd D A s.heap [(m0, .inr (12, [.ref m1, .ref m2, .ref m3, .ref m4, .ref m5, .int 0, .ref m6, .int 0, .int 0, .int 0, .int 0, .int 0, .int 0, .int 0, .int 0, .int 0, .int 0, .int (-1), .ref m7, .ref m8, .int 0, .ref m9, .int 0, .ref m10, .ref m11, .ref m12, .ref m13, .ref m14, .int 0, .ref m15, .ref m16, .ref m17])), (m1, .inl (cy 1, 1868, .inl (upd (upd (upd (fun _ => 0) 1 2) 2 20) 3 120)))] _ _ := w.pick [0, 1] rfl rfl
  refine r_top (g2 := F0 m 480 ls [.int 1]) rfl ?_
  refine lv_istore (lv' := [(5, .int 1), (0, .ref b), (1, .ref q0), (2, .ref m0), (3, .ref o0), (4, .int 0)]) C.1 C.2.1 dL_law_480 hl (by decide) rfl (fun ls hl => ?_)
  refine lv_aload_n C.1 C.2.1 dL_law_482 rfl (lv_at hl 3 rfl) ?_
  refine lv_aload_n C.1 C.2.1 dL_law_483 rfl (lv_at hl 1 rfl) ?_
  refine lv_iload C.1 C.2.1 dL_law_484 (lv_at hl 5 rfl) ?_
  refine lv_iconst (v := 1) C.1 C.2.1 dL_law_486 (by decide) ?_
  refine r_iadd C (v := 1) dL_law_487 (by decide) ?_
  refine r_sld C w hX hbl hbA (v := y1) (vinD (by decide)) sx1 dL_law_488 ?_
  refine lv_aload_n C.1 C.2.1 dL_law_489 rfl (lv_at hl 1 rfl) ?_
  refine lv_iload C.1 C.2.1 dL_law_490 (lv_at hl 5 rfl) ?_
  refine lv_iconst (v := 2) C.1 C.2.1 dL_law_492 (by decide) ?_
  refine r_iadd C (v := 2) dL_law_493 (by decide) ?_
  refine r_sld C w hX hbl hbA (v := y2) (vinD (by decide)) sx2 dL_law_494 ?_
  refine r_callV C w fv_RL_152 (c_X12_told_0 l D cy m0 m1 m2 m3 m4 m5 m6 m7 m8 m9 m10 m11 m12 m13 m14 m15 m16 m17 y1 y2 k0) (hl.1.trans hml.symm) [0, 1] [] (wr := []) ⟨rfl, rfl, rfl, rfl, by decide⟩ 0 rfl rfl rfl rfl rfl ⟨Nat.le_of_ble_eq_true rfl, Nat.le_of_ble_eq_true rfl, Nat.le_of_ble_eq_true rfl⟩ 38 29851 ⟨rfl, rfl, Nat.le_of_ble_eq_true rfl, Nat.le_of_ble_eq_true rfl⟩ dL_law_495 (fun u H locs hp w => ?_)
  have w : Wd D A s.heap [(m0, .inr (12, [.ref m1, .ref m2, .ref m3, .ref m4, .ref m5, .int 1, .ref m6, .int 0, .int 0, .int 0, .int 0, .int 0, .int 0, .int 0, .int 0, .int 0, .int 0, .int (-1), .ref m7, .ref m8, .int 0, .ref m9, .int 0, .ref m10, .ref m11, .ref m12, .ref m13, .ref m14, .int 0, .ref m15, .ref m16, .ref m17]))] _ _ := w.pick [0] rfl rfl
  refine r_top (g2 := F0 m 498 ls [.int 0]) rfl ?_
  refine lv_istore (lv' := [(6, .int 0), (5, .int 1), (0, .ref b), (1, .ref q0), (2, .ref m0), (3, .ref o0), (4, .int 0)]) C.1 C.2.1 dL_law_498 hl (by decide) rfl (fun ls hl => ?_)
  refine lv_aload_n C.1 C.2.1 dL_law_500 rfl (lv_at hl 4 rfl) ?_
  refine r_callV C w fv_RL_134 (c_X12_thrown_0 l D cy m0 m1 m2 m3 m4 m5 m6 m7 m8 m9 m10 m11 m12 m13 m14 m15 m16 m17) (hl.1.trans hml.symm) [0] [] (wr := []) ⟨rfl, rfl, rfl, rfl, by decide⟩ 0 rfl rfl rfl rfl rfl ⟨Nat.le_of_ble_eq_true rfl, Nat.le_of_ble_eq_true rfl, Nat.le_of_ble_eq_true rfl⟩ 38 29851 ⟨rfl, rfl, Nat.le_of_ble_eq_true rfl, Nat.le_of_ble_eq_true rfl⟩ dL_law_501 (fun u H locs hp w => ?_)
  have w : Wd D A s.heap [(m0, .inr (12, [.ref m1, .ref m2, .ref m3, .ref m4, .ref m5, .int 1, .ref m6, .int 0, .int 0, .int 0, .int 0, .int 0, .int 0, .int 0, .int 0, .int 0, .int 0, .int (-1), .ref m7, .ref m8, .int 0, .ref m9, .int 0, .ref m10, .ref m11, .ref m12, .ref m13, .ref m14, .int 0, .ref m15, .ref m16, .ref m17]))] _ _ := w.pick [0] rfl rfl
  refine r_top (g2 := F0 m 504 ls [.int 1]) rfl ?_
  refine lv_iload C.1 C.2.1 dL_law_504 (lv_at hl 1 rfl) ?_
  refine b_icmp_eq_t C (tgt := 511) dL_law_506 (by decide) (by decide) ?_
  refine lv_iload C.1 C.2.1 dL_law_511 (lv_at hl 1 rfl) ?_
  refine b_if_ne_t C (tgt := 528) dL_law_513 (by decide) (by decide) ?_
  refine lv_goto (tgt := 2461) C.1 C.2.1 dL_law_528 (by decide) ?_
  refine W.widen (k := 600002) (n := 7302232) (Nat.le_of_ble_eq_true rfl) (Nat.le_of_ble_eq_true rfl) ?_
  exact kk _ _ _ w.2.2 (lv_sub hl [2, 6] rfl)
set_option maxRecDepth 100000 in
set_option maxHeartbeats 4000000 in
theorem s_L_5_1 {p : Program} {l : Launch} {e : Env} {s : State} {m : MethodId} {args : Array Value} {below : List Frame} {meth : Method} {c : Code} {Q : State → Prop} {D : va_G} {cy : Nat → ClassId} {A : Nat → Prop} {H : Heap} {locs : List Loc} {ls : Array Slot} {xs : Nat → Int32} (b q0 q1 q2 q4 q5 q6 q10 q11 q12 q13 q14 q15 q16 q17 m0 m1 m2 m3 m4 m5 m6 m7 m8 m9 m10 m11 m12 m13 m14 m15 m16 m17 o0 : Nat) (y1 : Int32) (y2 : Int32) (k0 : ¬ y1 < 0) (sx1 : xs 1 = y1) (sx2 : xs 2 = y2) (hst : l.stackTraces = false) (C : Cx p s m args c cL_law RL D cy A) (hml : c.maxLocals = 8) (hX : va_X b 6 xs s s.heap) (hbl : b < s.heap.size) (hbA : ¬ A b) (w : Wd D A s.heap [(q0, .inr (11, [.ref q1, .int 0, .int 0, .int (-1), .ref q2, .ref q4, .ref q5, .ref q6, .ref q10, .null])), (q10, .inr (9, [.int 0, .int 2, .int 20, .int 120, .int 0, .int 0, .int 0, .int 0, .ref q11, .int 0, .ref q12, .ref q13, .int 0, .ref q14, .ref q15, .ref q16, .ref q17])), (m0, .inr (12, [.ref m1, .ref m2, .ref m3, .ref m4, .ref m5, .int 0, .ref m6, .int 0, .int 0, .int 0, .int 0, .int 0, .int 0, .int 0, .int 0, .int 0, .int 0, .int (-1), .ref m7, .ref m8, .int 0, .ref m9, .int 0, .ref m10, .ref m11, .ref m12, .ref m13, .ref m14, .int 0, .ref m15, .ref m16, .ref m17])), (m1, .inl (cy 1, 1868, .inl (upd (upd (upd (fun _ => 0) 1 2) 2 20) 3 120)))] H locs) (hl : lv_has ls 8 [(0, .ref b), (1, .ref q0), (2, .ref m0), (3, .ref o0), (4, .int 0)]) (kk : ∀ (H : Heap) (locs : List Loc) (ls : Array Slot), va_S A s.heap H locs → lv_has ls 8 [(0, .ref b), (4, .int 0)] → W p l e room_1 s m args below meth c H locs 600002 7302232 Q (F0 m 2461 ls [])) : W p l e room_1 s m args below meth c H locs 37 29845 Q (F0 m 463 ls []) := by
  refine lv_aload_n C.1 C.2.1 dL_law_463 rfl (lv_at hl 1 rfl) ?_
  refine lv_aload_n C.1 C.2.1 dL_law_464 rfl (lv_at hl 0 rfl) ?_
  refine lv_iload C.1 C.2.1 dL_law_465 (lv_at hl 4 rfl) ?_
  refine lv_iconst (v := 1) C.1 C.2.1 dL_law_467 (by decide) ?_
  refine r_iadd C (v := 1) dL_law_468 (by decide) ?_
  refine r_sld C w hX hbl hbA (v := y1) (vinD (by decide)) sx1 dL_law_469 ?_
  refine lv_aload_n C.1 C.2.1 dL_law_470 rfl (lv_at hl 0 rfl) ?_
  refine lv_iload C.1 C.2.1 dL_law_471 (lv_at hl 4 rfl) ?_
  refine lv_iconst (v := 2) C.1 C.2.1 dL_law_473 (by decide) ?_
  refine r_iadd C (v := 2) dL_law_474 (by decide) ?_
  refine r_sld C w hX hbl hbA (v := y2) (vinD (by decide)) sx2 dL_law_475 ?_
  refine lv_aload_n C.1 C.2.1 dL_law_476 rfl (lv_at hl 3 rfl) ?_
  refine r_callH C w fh_RL_150 (c_L_told_1 l D cy q0 o0 q1 q2 q4 q5 q6 q10 q11 q12 q13 q14 q15 q16 q17 y1 y2 k0 hst) (hl.1.trans hml.symm) [0, 1] [2, 3] (wr := [(m0, .inr (12, [.ref m1, .ref m2, .ref m3, .ref m4, .ref m5, .int 0, .ref m6, .int 0, .int 0, .int 0, .int 0, .int 0, .int 0, .int 0, .int 0, .int 0, .int 0, .int (-1), .ref m7, .ref m8, .int 0, .ref m9, .int 0, .ref m10, .ref m11, .ref m12, .ref m13, .ref m14, .int 0, .ref m15, .ref m16, .ref m17])), (m1, .inl (cy 1, 1868, .inl (upd (upd (upd (fun _ => 0) 1 2) 2 20) 3 120)))]) ⟨rfl, rfl, rfl, rfl, by decide⟩ rfl rfl ⟨Nat.le_of_ble_eq_true rfl, Nat.le_of_ble_eq_true rfl, Nat.le_of_ble_eq_true rfl⟩ 38 29851 ⟨rfl, rfl, Nat.le_of_ble_eq_true rfl, Nat.le_of_ble_eq_true rfl⟩ dL_law_477 (fun u H locs hp w => ?_)
  have w : Wd D A s.heap [(m0, .inr (12, [.ref m1, .ref m2, .ref m3, .ref m4, .ref m5, .int 0, .ref m6, .int 0, .int 0, .int 0, .int 0, .int 0, .int 0, .int 0, .int 0, .int 0, .int 0, .int (-1), .ref m7, .ref m8, .int 0, .ref m9, .int 0, .ref m10, .ref m11, .ref m12, .ref m13, .ref m14, .int 0, .ref m15, .ref m16, .ref m17])), (m1, .inl (cy 1, 1868, .inl (upd (upd (upd (fun _ => 0) 1 2) 2 20) 3 120)))] _ _ := w.pick [0, 1] rfl rfl
  refine r_top (g2 := F0 m 480 ls [.int 1]) rfl ?_
  refine lv_istore (lv' := [(5, .int 1), (0, .ref b), (1, .ref q0), (2, .ref m0), (3, .ref o0), (4, .int 0)]) C.1 C.2.1 dL_law_480 hl (by decide) rfl (fun ls hl => ?_)
  refine lv_aload_n C.1 C.2.1 dL_law_482 rfl (lv_at hl 3 rfl) ?_
  refine lv_aload_n C.1 C.2.1 dL_law_483 rfl (lv_at hl 1 rfl) ?_
  refine lv_iload C.1 C.2.1 dL_law_484 (lv_at hl 5 rfl) ?_
  refine lv_iconst (v := 1) C.1 C.2.1 dL_law_486 (by decide) ?_
  refine r_iadd C (v := 1) dL_law_487 (by decide) ?_
  refine r_sld C w hX hbl hbA (v := y1) (vinD (by decide)) sx1 dL_law_488 ?_
  refine lv_aload_n C.1 C.2.1 dL_law_489 rfl (lv_at hl 1 rfl) ?_
  refine lv_iload C.1 C.2.1 dL_law_490 (lv_at hl 5 rfl) ?_
  refine lv_iconst (v := 2) C.1 C.2.1 dL_law_492 (by decide) ?_
  refine r_iadd C (v := 2) dL_law_493 (by decide) ?_
  refine r_sld C w hX hbl hbA (v := y2) (vinD (by decide)) sx2 dL_law_494 ?_
  refine r_callV C w fv_RL_152 (c_X12_told_1 l D cy m0 m1 m2 m3 m4 m5 m6 m7 m8 m9 m10 m11 m12 m13 m14 m15 m16 m17 y1 y2 k0) (hl.1.trans hml.symm) [0, 1] [] (wr := []) ⟨rfl, rfl, rfl, rfl, by decide⟩ 0 rfl rfl rfl rfl rfl ⟨Nat.le_of_ble_eq_true rfl, Nat.le_of_ble_eq_true rfl, Nat.le_of_ble_eq_true rfl⟩ 38 29851 ⟨rfl, rfl, Nat.le_of_ble_eq_true rfl, Nat.le_of_ble_eq_true rfl⟩ dL_law_495 (fun u H locs hp w => ?_)
  have w : Wd D A s.heap [(m0, .inr (12, [.ref m1, .ref m2, .ref m3, .ref m4, .ref m5, .int 1, .ref m6, .int 0, .int 0, .int 0, .int 0, .int 0, .int 0, .int 0, .int 0, .int 0, .int 0, .int (-1), .ref m7, .ref m8, .int 0, .ref m9, .int 0, .ref m10, .ref m11, .ref m12, .ref m13, .ref m14, .int 0, .ref m15, .ref m16, .ref m17]))] _ _ := w.pick [0] rfl rfl
  refine r_top (g2 := F0 m 498 ls [.int 0]) rfl ?_
  refine lv_istore (lv' := [(6, .int 0), (5, .int 1), (0, .ref b), (1, .ref q0), (2, .ref m0), (3, .ref o0), (4, .int 0)]) C.1 C.2.1 dL_law_498 hl (by decide) rfl (fun ls hl => ?_)
  refine lv_aload_n C.1 C.2.1 dL_law_500 rfl (lv_at hl 4 rfl) ?_
  refine r_callV C w fv_RL_134 (c_X12_thrown_0 l D cy m0 m1 m2 m3 m4 m5 m6 m7 m8 m9 m10 m11 m12 m13 m14 m15 m16 m17) (hl.1.trans hml.symm) [0] [] (wr := []) ⟨rfl, rfl, rfl, rfl, by decide⟩ 0 rfl rfl rfl rfl rfl ⟨Nat.le_of_ble_eq_true rfl, Nat.le_of_ble_eq_true rfl, Nat.le_of_ble_eq_true rfl⟩ 38 29851 ⟨rfl, rfl, Nat.le_of_ble_eq_true rfl, Nat.le_of_ble_eq_true rfl⟩ dL_law_501 (fun u H locs hp w => ?_)
  have w : Wd D A s.heap [(m0, .inr (12, [.ref m1, .ref m2, .ref m3, .ref m4, .ref m5, .int 1, .ref m6, .int 0, .int 0, .int 0, .int 0, .int 0, .int 0, .int 0, .int 0, .int 0, .int 0, .int (-1), .ref m7, .ref m8, .int 0, .ref m9, .int 0, .ref m10, .ref m11, .ref m12, .ref m13, .ref m14, .int 0, .ref m15, .ref m16, .ref m17]))] _ _ := w.pick [0] rfl rfl
  refine r_top (g2 := F0 m 504 ls [.int 1]) rfl ?_
  refine lv_iload C.1 C.2.1 dL_law_504 (lv_at hl 1 rfl) ?_
  refine b_icmp_eq_t C (tgt := 511) dL_law_506 (by decide) (by decide) ?_
  refine lv_iload C.1 C.2.1 dL_law_511 (lv_at hl 1 rfl) ?_
  refine b_if_ne_t C (tgt := 528) dL_law_513 (by decide) (by decide) ?_
  refine lv_goto (tgt := 2461) C.1 C.2.1 dL_law_528 (by decide) ?_
  refine W.widen (k := 600002) (n := 7302232) (Nat.le_of_ble_eq_true rfl) (Nat.le_of_ble_eq_true rfl) ?_
  exact kk _ _ _ w.2.2 (lv_sub hl [2, 6] rfl)
set_option maxRecDepth 100000 in
set_option maxHeartbeats 4000000 in
theorem t_L_5 {p : Program} {l : Launch} {e : Env} {s : State} {m : MethodId} {args : Array Value} {below : List Frame} {meth : Method} {c : Code} {Q : State → Prop} {D : va_G} {cy : Nat → ClassId} {A : Nat → Prop} {H : Heap} {locs : List Loc} {ls : Array Slot} {xs : Nat → Int32} (b q0 q1 q2 q4 q5 q6 q10 q3 q7 q8 q9 q11 q12 q13 q14 q15 q16 q17 m0 m1 m2 m3 m4 m5 m6 m7 m8 m9 m10 m11 m12 m13 m14 m15 m16 m17 o0 : Nat) (hst : l.stackTraces = false) (C : Cx p s m args c cL_law RL D cy A) (hml : c.maxLocals = 8) (hX : va_X b 6 xs s s.heap) (hbl : b < s.heap.size) (hbA : ¬ A b) (w : Wd D A s.heap [(q0, .inr (11, [.ref q1, .int 0, .int 0, .int (-1), .ref q2, .ref q4, .ref q5, .ref q6, .ref q10, .null])), (q1, .inl (cy 0, 900, .inl (fun _ => 0))), (q2, .inr (5, [.ref q3, .int 0, .int 0, .int 0, .int 0, .int 0, .int 0, .null])), (q3, .inl (cy 0, 0, .inl (fun _ => 0))), (q4, .inl (cy 4, 5, .inr (.inr (.inr (.inr (va_up (fun _ => none) 0 (some q10))))))), (q5, .inl (cy 4, 3, .inr (.inr (.inr (.inr (fun _ => none)))))), (q6, .inr (10, [.ref q7, .ref q8, .ref q9])), (q7, .inl (cy 1, 4, .inl (upd (upd (upd (upd (fun _ => 0) 0 (-1)) 1 (-1)) 2 (-1)) 3 (-1)))), (q8, .inl (cy 1, 4, .inl (fun _ => 0))), (q9, .inl (cy 2, 160, .inr (.inl (fun _ => 0)))), (q10, .inr (9, [.int 0, .int 2, .int 20, .int 120, .int 0, .int 0, .int 0, .int 0, .ref q11, .int 0, .ref q12, .ref q13, .int 0, .ref q14, .ref q15, .ref q16, .ref q17])), (q11, .inl (cy 1, 6, .inl (fun _ => 0))), (q12, .inl (cy 1, 20, .inl (fun _ => 0))), (q13, .inl (cy 1, 20, .inl (fun _ => 0))), (q14, .inl (cy 1, 300, .inl (fun _ => 0))), (q15, .inl (cy 1, 300, .inl (fun _ => 0))), (q16, .inl (cy 1, 300, .inl (fun _ => 0))), (q17, .inl (cy 1, 300, .inl (fun _ => 0))), (m0, .inr (12, [.ref m1, .ref m2, .ref m3, .ref m4, .ref m5, .int 0, .ref m6, .int 0, .int 0, .int 0, .int 0, .int 0, .int 0, .int 0, .int 0, .int 0, .int 0, .int (-1), .ref m7, .ref m8, .int 0, .ref m9, .int 0, .ref m10, .ref m11, .ref m12, .ref m13, .ref m14, .int 0, .ref m15, .ref m16, .ref m17])), (m2, .inl (cy 1, 1868, .inl (fun _ => 0))), (m3, .inl (cy 1, 1868, .inl (fun _ => 0))), (m4, .inl (cy 1, 5604, .inl (fun _ => 0))), (m5, .inl (cy 3, 3, .inl (fun _ => 0))), (m6, .inl (cy 1, 900, .inl (fun _ => 0))), (m7, .inl (cy 1, 1830, .inl (fun _ => 0))), (m8, .inl (cy 1, 1830, .inl (fun _ => 0))), (m9, .inl (cy 2, 2465, .inr (.inl (fun _ => 0)))), (m10, .inl (cy 1, 7201, .inl (fun _ => 0))), (m11, .inl (cy 1, 1830, .inl (fun _ => 0))), (m12, .inl (cy 1, 5, .inl (fun _ => 0))), (m13, .inl (cy 1, 6, .inl (fun _ => 0))), (m14, .inl (cy 1, 6, .inl (fun _ => 0))), (m15, .inl (cy 1, 4, .inl (upd (upd (upd (upd (fun _ => 0) 0 (-1)) 1 (-1)) 2 (-1)) 3 (-1)))), (m16, .inl (cy 1, 4, .inl (fun _ => 0))), (m17, .inl (cy 2, 160, .inr (.inl (fun _ => 0)))), (m1, .inl (cy 1, 1868, .inl (upd (upd (upd (fun _ => 0) 1 2) 2 20) 3 120))), (o0, .inl (cy 2, 1, .inr (.inl (fun _ => 0))))] H locs) (hl : lv_has ls 8 [(0, .ref b), (1, .ref q0), (2, .ref m0), (3, .ref o0), (4, .int 0)]) (kk : ∀ (H : Heap) (locs : List Loc) (ls : Array Slot), va_S A s.heap H locs → lv_has ls 8 [(0, .ref b), (4, .int 0)] → W p l e room_1 s m args below meth c H locs 600002 7302232 Q (F0 m 2461 ls [])) : W p l e room_1 s m args below meth c H locs 37 29845 Q (F0 m 463 ls []) := by
  obtain ⟨y1, sx1⟩ : ∃ y, xs 1 = y := ⟨_, rfl⟩
  obtain ⟨y2, sx2⟩ : ∃ y, xs 2 = y := ⟨_, rfl⟩
  obtain ⟨y3, sx3⟩ : ∃ y, xs 3 = y := ⟨_, rfl⟩
  obtain ⟨y4, sx4⟩ : ∃ y, xs 4 = y := ⟨_, rfl⟩
  obtain ⟨y5, sx5⟩ : ∃ y, xs 5 = y := ⟨_, rfl⟩
  by_cases g1 : y1 < 0
  · exact s_L_5_0 b q0 q1 q2 q4 q5 q6 q10 m0 m1 m2 m3 m4 m5 m6 m7 m8 m9 m10 m11 m12 m13 m14 m15 m16 m17 o0 y1 y2 g1 sx1 sx2 hst C hml hX hbl hbA (w.pick [0, 18, 35] rfl rfl) hl kk
  · exact s_L_5_1 b q0 q1 q2 q4 q5 q6 q10 q11 q12 q13 q14 q15 q16 q17 m0 m1 m2 m3 m4 m5 m6 m7 m8 m9 m10 m11 m12 m13 m14 m15 m16 m17 o0 y1 y2 g1 sx1 sx2 hst C hml hX hbl hbA (w.pick [0, 10, 18, 35] rfl rfl) hl kk
theorem dL_law_531 : decode cL_law 531 = .ok (.aload_n 1, 1) := by decide +kernel
theorem dL_law_532 : decode cL_law 532 = .ok (.aload_n 0, 1) := by decide +kernel
theorem dL_law_533 : decode cL_law 533 = .ok (.iload 4, 2) := by decide +kernel
theorem dL_law_535 : decode cL_law 535 = .ok (.iconst 1, 1) := by decide +kernel
theorem dL_law_536 : decode cL_law 536 = .ok (.iadd, 1) := by decide +kernel
theorem dL_law_537 : decode cL_law 537 = .ok (.iaload, 1) := by decide +kernel
theorem dL_law_538 : decode cL_law 538 = .ok (.aload_n 0, 1) := by decide +kernel
theorem dL_law_539 : decode cL_law 539 = .ok (.iload 4, 2) := by decide +kernel
theorem dL_law_541 : decode cL_law 541 = .ok (.iconst 2, 1) := by decide +kernel
theorem dL_law_542 : decode cL_law 542 = .ok (.iadd, 1) := by decide +kernel
theorem dL_law_543 : decode cL_law 543 = .ok (.iaload, 1) := by decide +kernel
theorem dL_law_544 : decode cL_law 544 = .ok (.aload_n 3, 1) := by decide +kernel
theorem dL_law_545 : decode cL_law 545 = .ok (.invokestatic 153, 3) := by decide +kernel
theorem fh_RL_153 : FH RL 153 yL_speaker cL_speaker 5 (some .int) [(0, 10, 13, 19), (0, 10, 17, 13)] 4 := ⟨⟨gw_mem (by decide +kernel) (by decide +kernel), gw_mem (by decide +kernel) (by decide +kernel), gw_mem (by decide +kernel) (by decide +kernel), gw_mem (by decide +kernel) (by decide +kernel)⟩, ⟨by decide +kernel, by decide +kernel, by decide +kernel⟩⟩
theorem dL_law_548 : decode cL_law 548 = .ok (.istore 5, 2) := by decide +kernel
theorem dL_law_550 : decode cL_law 550 = .ok (.aload_n 2, 1) := by decide +kernel
theorem dL_law_551 : decode cL_law 551 = .ok (.aload_n 0, 1) := by decide +kernel
theorem dL_law_552 : decode cL_law 552 = .ok (.iload 4, 2) := by decide +kernel
theorem dL_law_554 : decode cL_law 554 = .ok (.iconst 1, 1) := by decide +kernel
theorem dL_law_555 : decode cL_law 555 = .ok (.iadd, 1) := by decide +kernel
theorem dL_law_556 : decode cL_law 556 = .ok (.iaload, 1) := by decide +kernel
theorem dL_law_557 : decode cL_law 557 = .ok (.aload_n 0, 1) := by decide +kernel
theorem dL_law_558 : decode cL_law 558 = .ok (.iload 4, 2) := by decide +kernel
theorem dL_law_560 : decode cL_law 560 = .ok (.iconst 2, 1) := by decide +kernel
theorem dL_law_561 : decode cL_law 561 = .ok (.iadd, 1) := by decide +kernel
theorem dL_law_562 : decode cL_law 562 = .ok (.iaload, 1) := by decide +kernel
theorem dL_law_563 : decode cL_law 563 = .ok (.invokevirtual 155, 3) := by decide +kernel
theorem fv_RL_155 : FV RL 155 yX12_speaker cX12_speaker 3 (some .int) 2 := ⟨⟨gw_mem (by decide +kernel) (by decide +kernel), gw_mem (by decide +kernel) (by decide +kernel), gw_mem (by decide +kernel) (by decide +kernel), gw_mem (by decide +kernel) (by decide +kernel), gw_mem (by decide +kernel) (by decide +kernel)⟩, ⟨by decide +kernel, by decide +kernel, by decide +kernel⟩⟩
theorem dL_law_566 : decode cL_law 566 = .ok (.istore 6, 2) := by decide +kernel
theorem dL_law_568 : decode cL_law 568 = .ok (.aload_n 2, 1) := by decide +kernel
theorem dL_law_569 : decode cL_law 569 = .ok (.invokevirtual 134, 3) := by decide +kernel
theorem dL_law_572 : decode cL_law 572 = .ok (.iload 5, 2) := by decide +kernel
theorem dL_law_574 : decode cL_law 574 = .ok (.if_icmp .eq 5, 3) := by decide +kernel
theorem dL_law_579 : decode cL_law 579 = .ok (.iload 5, 2) := by decide +kernel
theorem dL_law_581 : decode cL_law 581 = .ok (.ifCond .ne 15, 3) := by decide +kernel
theorem dL_law_596 : decode cL_law 596 = .ok (.goto 1865, 3) := by decide +kernel
set_option maxRecDepth 100000 in
set_option maxHeartbeats 4000000 in
theorem s_L_6_0 {p : Program} {l : Launch} {e : Env} {s : State} {m : MethodId} {args : Array Value} {below : List Frame} {meth : Method} {c : Code} {Q : State → Prop} {D : va_G} {cy : Nat → ClassId} {A : Nat → Prop} {H : Heap} {locs : List Loc} {ls : Array Slot} {xs : Nat → Int32} (b q0 q1 q2 q4 q5 q6 q10 m0 m1 m2 m3 m4 m5 m6 m7 m8 m9 m10 m11 m12 m13 m14 m15 m16 m17 o0 : Nat) (y1 : Int32) (y2 : Int32) (k0 : y1 < 0) (sx1 : xs 1 = y1) (sx2 : xs 2 = y2) (hst : l.stackTraces = false) (C : Cx p s m args c cL_law RL D cy A) (hml : c.maxLocals = 8) (hX : va_X b 6 xs s s.heap) (hbl : b < s.heap.size) (hbA : ¬ A b) (w : Wd D A s.heap [(q0, .inr (11, [.ref q1, .int 0, .int 0, .int (-1), .ref q2, .ref q4, .ref q5, .ref q6, .ref q10, .null])), (m0, .inr (12, [.ref m1, .ref m2, .ref m3, .ref m4, .ref m5, .int 0, .ref m6, .int 0, .int 0, .int 0, .int 0, .int 0, .int 0, .int 0, .int 0, .int 0, .int 0, .int (-1), .ref m7, .ref m8, .int 0, .ref m9, .int 0, .ref m10, .ref m11, .ref m12, .ref m13, .ref m14, .int 0, .ref m15, .ref m16, .ref m17])), (m1, .inl (cy 1, 1868, .inl (upd (upd (upd (fun _ => 0) 1 2) 2 20) 3 120)))] H locs) (hl : lv_has ls 8 [(0, .ref b), (1, .ref q0), (2, .ref m0), (3, .ref o0), (4, .int 0)]) (kk : ∀ (H : Heap) (locs : List Loc) (ls : Array Slot), va_S A s.heap H locs → lv_has ls 8 [(0, .ref b), (4, .int 0)] → W p l e room_1 s m args below meth c H locs 600002 7302232 Q (F0 m 2461 ls [])) : W p l e room_1 s m args below meth c H locs 37 29845 Q (F0 m 531 ls []) := by
  refine lv_aload_n C.1 C.2.1 dL_law_531 rfl (lv_at hl 1 rfl) ?_
  refine lv_aload_n C.1 C.2.1 dL_law_532 rfl (lv_at hl 0 rfl) ?_
  refine lv_iload C.1 C.2.1 dL_law_533 (lv_at hl 4 rfl) ?_
  refine lv_iconst (v := 1) C.1 C.2.1 dL_law_535 (by decide) ?_
  refine r_iadd C (v := 1) dL_law_536 (by decide) ?_
  refine r_sld C w hX hbl hbA (v := y1) (vinD (by decide)) sx1 dL_law_537 ?_
  refine lv_aload_n C.1 C.2.1 dL_law_538 rfl (lv_at hl 0 rfl) ?_
  refine lv_iload C.1 C.2.1 dL_law_539 (lv_at hl 4 rfl) ?_
  refine lv_iconst (v := 2) C.1 C.2.1 dL_law_541 (by decide) ?_
  refine r_iadd C (v := 2) dL_law_542 (by decide) ?_
  refine r_sld C w hX hbl hbA (v := y2) (vinD (by decide)) sx2 dL_law_543 ?_
  refine lv_aload_n C.1 C.2.1 dL_law_544 rfl (lv_at hl 3 rfl) ?_
  refine r_callH C w fh_RL_153 (c_L_speaker_0 l D cy q0 o0 q1 q2 q4 q5 q6 q10 y1 y2 k0 hst) (hl.1.trans hml.symm) [0] [1, 2] (wr := [(m0, .inr (12, [.ref m1, .ref m2, .ref m3, .ref m4, .ref m5, .int 0, .ref m6, .int 0, .int 0, .int 0, .int 0, .int 0, .int 0, .int 0, .int 0, .int 0, .int 0, .int (-1), .ref m7, .ref m8, .int 0, .ref m9, .int 0, .ref m10, .ref m11, .ref m12, .ref m13, .ref m14, .int 0, .ref m15, .ref m16, .ref m17])), (m1, .inl (cy 1, 1868, .inl (upd (upd (upd (fun _ => 0) 1 2) 2 20) 3 120)))]) ⟨rfl, rfl, rfl, rfl, by decide⟩ rfl rfl ⟨Nat.le_of_ble_eq_true rfl, Nat.le_of_ble_eq_true rfl, Nat.le_of_ble_eq_true rfl⟩ 38 29851 ⟨rfl, rfl, Nat.le_of_ble_eq_true rfl, Nat.le_of_ble_eq_true rfl⟩ dL_law_545 (fun u H locs hp w => ?_)
  have w : Wd D A s.heap [(m0, .inr (12, [.ref m1, .ref m2, .ref m3, .ref m4, .ref m5, .int 0, .ref m6, .int 0, .int 0, .int 0, .int 0, .int 0, .int 0, .int 0, .int 0, .int 0, .int 0, .int (-1), .ref m7, .ref m8, .int 0, .ref m9, .int 0, .ref m10, .ref m11, .ref m12, .ref m13, .ref m14, .int 0, .ref m15, .ref m16, .ref m17])), (m1, .inl (cy 1, 1868, .inl (upd (upd (upd (fun _ => 0) 1 2) 2 20) 3 120)))] _ _ := w.pick [0, 1] rfl rfl
  refine r_top (g2 := F0 m 548 ls [.int 1]) rfl ?_
  refine lv_istore (lv' := [(5, .int 1), (0, .ref b), (1, .ref q0), (2, .ref m0), (3, .ref o0), (4, .int 0)]) C.1 C.2.1 dL_law_548 hl (by decide) rfl (fun ls hl => ?_)
  refine lv_aload_n C.1 C.2.1 dL_law_550 rfl (lv_at hl 3 rfl) ?_
  refine lv_aload_n C.1 C.2.1 dL_law_551 rfl (lv_at hl 1 rfl) ?_
  refine lv_iload C.1 C.2.1 dL_law_552 (lv_at hl 5 rfl) ?_
  refine lv_iconst (v := 1) C.1 C.2.1 dL_law_554 (by decide) ?_
  refine r_iadd C (v := 1) dL_law_555 (by decide) ?_
  refine r_sld C w hX hbl hbA (v := y1) (vinD (by decide)) sx1 dL_law_556 ?_
  refine lv_aload_n C.1 C.2.1 dL_law_557 rfl (lv_at hl 1 rfl) ?_
  refine lv_iload C.1 C.2.1 dL_law_558 (lv_at hl 5 rfl) ?_
  refine lv_iconst (v := 2) C.1 C.2.1 dL_law_560 (by decide) ?_
  refine r_iadd C (v := 2) dL_law_561 (by decide) ?_
  refine r_sld C w hX hbl hbA (v := y2) (vinD (by decide)) sx2 dL_law_562 ?_
  refine r_callV C w fv_RL_155 (c_X12_speaker_0 l D cy m0 m1 m2 m3 m4 m5 m6 m7 m8 m9 m10 m11 m12 m13 m14 m15 m16 m17 y1 y2 k0) (hl.1.trans hml.symm) [0, 1] [] (wr := []) ⟨rfl, rfl, rfl, rfl, by decide⟩ 0 rfl rfl rfl rfl rfl ⟨Nat.le_of_ble_eq_true rfl, Nat.le_of_ble_eq_true rfl, Nat.le_of_ble_eq_true rfl⟩ 38 29851 ⟨rfl, rfl, Nat.le_of_ble_eq_true rfl, Nat.le_of_ble_eq_true rfl⟩ dL_law_563 (fun u H locs hp w => ?_)
  have w : Wd D A s.heap [(m0, .inr (12, [.ref m1, .ref m2, .ref m3, .ref m4, .ref m5, .int 1, .ref m6, .int 0, .int 0, .int 0, .int 0, .int 0, .int 0, .int 0, .int 0, .int 0, .int 0, .int (-1), .ref m7, .ref m8, .int 0, .ref m9, .int 0, .ref m10, .ref m11, .ref m12, .ref m13, .ref m14, .int 0, .ref m15, .ref m16, .ref m17]))] _ _ := w.pick [0] rfl rfl
  refine r_top (g2 := F0 m 566 ls [.int 0]) rfl ?_
  refine lv_istore (lv' := [(6, .int 0), (5, .int 1), (0, .ref b), (1, .ref q0), (2, .ref m0), (3, .ref o0), (4, .int 0)]) C.1 C.2.1 dL_law_566 hl (by decide) rfl (fun ls hl => ?_)
  refine lv_aload_n C.1 C.2.1 dL_law_568 rfl (lv_at hl 4 rfl) ?_
  refine r_callV C w fv_RL_134 (c_X12_thrown_0 l D cy m0 m1 m2 m3 m4 m5 m6 m7 m8 m9 m10 m11 m12 m13 m14 m15 m16 m17) (hl.1.trans hml.symm) [0] [] (wr := []) ⟨rfl, rfl, rfl, rfl, by decide⟩ 0 rfl rfl rfl rfl rfl ⟨Nat.le_of_ble_eq_true rfl, Nat.le_of_ble_eq_true rfl, Nat.le_of_ble_eq_true rfl⟩ 38 29851 ⟨rfl, rfl, Nat.le_of_ble_eq_true rfl, Nat.le_of_ble_eq_true rfl⟩ dL_law_569 (fun u H locs hp w => ?_)
  have w : Wd D A s.heap [(m0, .inr (12, [.ref m1, .ref m2, .ref m3, .ref m4, .ref m5, .int 1, .ref m6, .int 0, .int 0, .int 0, .int 0, .int 0, .int 0, .int 0, .int 0, .int 0, .int 0, .int (-1), .ref m7, .ref m8, .int 0, .ref m9, .int 0, .ref m10, .ref m11, .ref m12, .ref m13, .ref m14, .int 0, .ref m15, .ref m16, .ref m17]))] _ _ := w.pick [0] rfl rfl
  refine r_top (g2 := F0 m 572 ls [.int 1]) rfl ?_
  refine lv_iload C.1 C.2.1 dL_law_572 (lv_at hl 1 rfl) ?_
  refine b_icmp_eq_t C (tgt := 579) dL_law_574 (by decide) (by decide) ?_
  refine lv_iload C.1 C.2.1 dL_law_579 (lv_at hl 1 rfl) ?_
  refine b_if_ne_t C (tgt := 596) dL_law_581 (by decide) (by decide) ?_
  refine lv_goto (tgt := 2461) C.1 C.2.1 dL_law_596 (by decide) ?_
  refine W.widen (k := 600002) (n := 7302232) (Nat.le_of_ble_eq_true rfl) (Nat.le_of_ble_eq_true rfl) ?_
  exact kk _ _ _ w.2.2 (lv_sub hl [2, 6] rfl)
set_option maxRecDepth 100000 in
set_option maxHeartbeats 4000000 in
theorem s_L_6_1 {p : Program} {l : Launch} {e : Env} {s : State} {m : MethodId} {args : Array Value} {below : List Frame} {meth : Method} {c : Code} {Q : State → Prop} {D : va_G} {cy : Nat → ClassId} {A : Nat → Prop} {H : Heap} {locs : List Loc} {ls : Array Slot} {xs : Nat → Int32} (b q0 q1 q2 q4 q5 q6 q10 q11 q12 q13 q14 q15 q16 q17 m0 m1 m2 m3 m4 m5 m6 m7 m8 m9 m10 m11 m12 m13 m14 m15 m16 m17 o0 : Nat) (y1 : Int32) (y2 : Int32) (k0 : ¬ y1 < 0) (sx1 : xs 1 = y1) (sx2 : xs 2 = y2) (hst : l.stackTraces = false) (C : Cx p s m args c cL_law RL D cy A) (hml : c.maxLocals = 8) (hX : va_X b 6 xs s s.heap) (hbl : b < s.heap.size) (hbA : ¬ A b) (w : Wd D A s.heap [(q0, .inr (11, [.ref q1, .int 0, .int 0, .int (-1), .ref q2, .ref q4, .ref q5, .ref q6, .ref q10, .null])), (q10, .inr (9, [.int 0, .int 2, .int 20, .int 120, .int 0, .int 0, .int 0, .int 0, .ref q11, .int 0, .ref q12, .ref q13, .int 0, .ref q14, .ref q15, .ref q16, .ref q17])), (m0, .inr (12, [.ref m1, .ref m2, .ref m3, .ref m4, .ref m5, .int 0, .ref m6, .int 0, .int 0, .int 0, .int 0, .int 0, .int 0, .int 0, .int 0, .int 0, .int 0, .int (-1), .ref m7, .ref m8, .int 0, .ref m9, .int 0, .ref m10, .ref m11, .ref m12, .ref m13, .ref m14, .int 0, .ref m15, .ref m16, .ref m17])), (m1, .inl (cy 1, 1868, .inl (upd (upd (upd (fun _ => 0) 1 2) 2 20) 3 120)))] H locs) (hl : lv_has ls 8 [(0, .ref b), (1, .ref q0), (2, .ref m0), (3, .ref o0), (4, .int 0)]) (kk : ∀ (H : Heap) (locs : List Loc) (ls : Array Slot), va_S A s.heap H locs → lv_has ls 8 [(0, .ref b), (4, .int 0)] → W p l e room_1 s m args below meth c H locs 600002 7302232 Q (F0 m 2461 ls [])) : W p l e room_1 s m args below meth c H locs 37 29845 Q (F0 m 531 ls []) := by
  refine lv_aload_n C.1 C.2.1 dL_law_531 rfl (lv_at hl 1 rfl) ?_
  refine lv_aload_n C.1 C.2.1 dL_law_532 rfl (lv_at hl 0 rfl) ?_
  refine lv_iload C.1 C.2.1 dL_law_533 (lv_at hl 4 rfl) ?_
  refine lv_iconst (v := 1) C.1 C.2.1 dL_law_535 (by decide) ?_
  refine r_iadd C (v := 1) dL_law_536 (by decide) ?_
  refine r_sld C w hX hbl hbA (v := y1) (vinD (by decide)) sx1 dL_law_537 ?_
  refine lv_aload_n C.1 C.2.1 dL_law_538 rfl (lv_at hl 0 rfl) ?_
  refine lv_iload C.1 C.2.1 dL_law_539 (lv_at hl 4 rfl) ?_
  refine lv_iconst (v := 2) C.1 C.2.1 dL_law_541 (by decide) ?_
  refine r_iadd C (v := 2) dL_law_542 (by decide) ?_
  refine r_sld C w hX hbl hbA (v := y2) (vinD (by decide)) sx2 dL_law_543 ?_
  refine lv_aload_n C.1 C.2.1 dL_law_544 rfl (lv_at hl 3 rfl) ?_
  refine r_callH C w fh_RL_153 (c_L_speaker_1 l D cy q0 o0 q1 q2 q4 q5 q6 q10 q11 q12 q13 q14 q15 q16 q17 y1 y2 k0 hst) (hl.1.trans hml.symm) [0, 1] [2, 3] (wr := [(m0, .inr (12, [.ref m1, .ref m2, .ref m3, .ref m4, .ref m5, .int 0, .ref m6, .int 0, .int 0, .int 0, .int 0, .int 0, .int 0, .int 0, .int 0, .int 0, .int 0, .int (-1), .ref m7, .ref m8, .int 0, .ref m9, .int 0, .ref m10, .ref m11, .ref m12, .ref m13, .ref m14, .int 0, .ref m15, .ref m16, .ref m17])), (m1, .inl (cy 1, 1868, .inl (upd (upd (upd (fun _ => 0) 1 2) 2 20) 3 120)))]) ⟨rfl, rfl, rfl, rfl, by decide⟩ rfl rfl ⟨Nat.le_of_ble_eq_true rfl, Nat.le_of_ble_eq_true rfl, Nat.le_of_ble_eq_true rfl⟩ 38 29851 ⟨rfl, rfl, Nat.le_of_ble_eq_true rfl, Nat.le_of_ble_eq_true rfl⟩ dL_law_545 (fun u H locs hp w => ?_)
  have w : Wd D A s.heap [(m0, .inr (12, [.ref m1, .ref m2, .ref m3, .ref m4, .ref m5, .int 0, .ref m6, .int 0, .int 0, .int 0, .int 0, .int 0, .int 0, .int 0, .int 0, .int 0, .int 0, .int (-1), .ref m7, .ref m8, .int 0, .ref m9, .int 0, .ref m10, .ref m11, .ref m12, .ref m13, .ref m14, .int 0, .ref m15, .ref m16, .ref m17])), (m1, .inl (cy 1, 1868, .inl (upd (upd (upd (fun _ => 0) 1 2) 2 20) 3 120)))] _ _ := w.pick [0, 1] rfl rfl
  refine r_top (g2 := F0 m 548 ls [.int 1]) rfl ?_
  refine lv_istore (lv' := [(5, .int 1), (0, .ref b), (1, .ref q0), (2, .ref m0), (3, .ref o0), (4, .int 0)]) C.1 C.2.1 dL_law_548 hl (by decide) rfl (fun ls hl => ?_)
  refine lv_aload_n C.1 C.2.1 dL_law_550 rfl (lv_at hl 3 rfl) ?_
  refine lv_aload_n C.1 C.2.1 dL_law_551 rfl (lv_at hl 1 rfl) ?_
  refine lv_iload C.1 C.2.1 dL_law_552 (lv_at hl 5 rfl) ?_
  refine lv_iconst (v := 1) C.1 C.2.1 dL_law_554 (by decide) ?_
  refine r_iadd C (v := 1) dL_law_555 (by decide) ?_
  refine r_sld C w hX hbl hbA (v := y1) (vinD (by decide)) sx1 dL_law_556 ?_
  refine lv_aload_n C.1 C.2.1 dL_law_557 rfl (lv_at hl 1 rfl) ?_
  refine lv_iload C.1 C.2.1 dL_law_558 (lv_at hl 5 rfl) ?_
  refine lv_iconst (v := 2) C.1 C.2.1 dL_law_560 (by decide) ?_
  refine r_iadd C (v := 2) dL_law_561 (by decide) ?_
  refine r_sld C w hX hbl hbA (v := y2) (vinD (by decide)) sx2 dL_law_562 ?_
  refine r_callV C w fv_RL_155 (c_X12_speaker_1 l D cy m0 m1 m2 m3 m4 m5 m6 m7 m8 m9 m10 m11 m12 m13 m14 m15 m16 m17 y1 y2 k0) (hl.1.trans hml.symm) [0, 1] [] (wr := []) ⟨rfl, rfl, rfl, rfl, by decide⟩ 0 rfl rfl rfl rfl rfl ⟨Nat.le_of_ble_eq_true rfl, Nat.le_of_ble_eq_true rfl, Nat.le_of_ble_eq_true rfl⟩ 38 29851 ⟨rfl, rfl, Nat.le_of_ble_eq_true rfl, Nat.le_of_ble_eq_true rfl⟩ dL_law_563 (fun u H locs hp w => ?_)
  have w : Wd D A s.heap [(m0, .inr (12, [.ref m1, .ref m2, .ref m3, .ref m4, .ref m5, .int 1, .ref m6, .int 0, .int 0, .int 0, .int 0, .int 0, .int 0, .int 0, .int 0, .int 0, .int 0, .int (-1), .ref m7, .ref m8, .int 0, .ref m9, .int 0, .ref m10, .ref m11, .ref m12, .ref m13, .ref m14, .int 0, .ref m15, .ref m16, .ref m17]))] _ _ := w.pick [0] rfl rfl
  refine r_top (g2 := F0 m 566 ls [.int 0]) rfl ?_
  refine lv_istore (lv' := [(6, .int 0), (5, .int 1), (0, .ref b), (1, .ref q0), (2, .ref m0), (3, .ref o0), (4, .int 0)]) C.1 C.2.1 dL_law_566 hl (by decide) rfl (fun ls hl => ?_)
  refine lv_aload_n C.1 C.2.1 dL_law_568 rfl (lv_at hl 4 rfl) ?_
  refine r_callV C w fv_RL_134 (c_X12_thrown_0 l D cy m0 m1 m2 m3 m4 m5 m6 m7 m8 m9 m10 m11 m12 m13 m14 m15 m16 m17) (hl.1.trans hml.symm) [0] [] (wr := []) ⟨rfl, rfl, rfl, rfl, by decide⟩ 0 rfl rfl rfl rfl rfl ⟨Nat.le_of_ble_eq_true rfl, Nat.le_of_ble_eq_true rfl, Nat.le_of_ble_eq_true rfl⟩ 38 29851 ⟨rfl, rfl, Nat.le_of_ble_eq_true rfl, Nat.le_of_ble_eq_true rfl⟩ dL_law_569 (fun u H locs hp w => ?_)
  have w : Wd D A s.heap [(m0, .inr (12, [.ref m1, .ref m2, .ref m3, .ref m4, .ref m5, .int 1, .ref m6, .int 0, .int 0, .int 0, .int 0, .int 0, .int 0, .int 0, .int 0, .int 0, .int 0, .int (-1), .ref m7, .ref m8, .int 0, .ref m9, .int 0, .ref m10, .ref m11, .ref m12, .ref m13, .ref m14, .int 0, .ref m15, .ref m16, .ref m17]))] _ _ := w.pick [0] rfl rfl
  refine r_top (g2 := F0 m 572 ls [.int 1]) rfl ?_
  refine lv_iload C.1 C.2.1 dL_law_572 (lv_at hl 1 rfl) ?_
  refine b_icmp_eq_t C (tgt := 579) dL_law_574 (by decide) (by decide) ?_
  refine lv_iload C.1 C.2.1 dL_law_579 (lv_at hl 1 rfl) ?_
  refine b_if_ne_t C (tgt := 596) dL_law_581 (by decide) (by decide) ?_
  refine lv_goto (tgt := 2461) C.1 C.2.1 dL_law_596 (by decide) ?_
  refine W.widen (k := 600002) (n := 7302232) (Nat.le_of_ble_eq_true rfl) (Nat.le_of_ble_eq_true rfl) ?_
  exact kk _ _ _ w.2.2 (lv_sub hl [2, 6] rfl)
set_option maxRecDepth 100000 in
set_option maxHeartbeats 4000000 in
theorem t_L_6 {p : Program} {l : Launch} {e : Env} {s : State} {m : MethodId} {args : Array Value} {below : List Frame} {meth : Method} {c : Code} {Q : State → Prop} {D : va_G} {cy : Nat → ClassId} {A : Nat → Prop} {H : Heap} {locs : List Loc} {ls : Array Slot} {xs : Nat → Int32} (b q0 q1 q2 q4 q5 q6 q10 q3 q7 q8 q9 q11 q12 q13 q14 q15 q16 q17 m0 m1 m2 m3 m4 m5 m6 m7 m8 m9 m10 m11 m12 m13 m14 m15 m16 m17 o0 : Nat) (hst : l.stackTraces = false) (C : Cx p s m args c cL_law RL D cy A) (hml : c.maxLocals = 8) (hX : va_X b 6 xs s s.heap) (hbl : b < s.heap.size) (hbA : ¬ A b) (w : Wd D A s.heap [(q0, .inr (11, [.ref q1, .int 0, .int 0, .int (-1), .ref q2, .ref q4, .ref q5, .ref q6, .ref q10, .null])), (q1, .inl (cy 0, 900, .inl (fun _ => 0))), (q2, .inr (5, [.ref q3, .int 0, .int 0, .int 0, .int 0, .int 0, .int 0, .null])), (q3, .inl (cy 0, 0, .inl (fun _ => 0))), (q4, .inl (cy 4, 5, .inr (.inr (.inr (.inr (va_up (fun _ => none) 0 (some q10))))))), (q5, .inl (cy 4, 3, .inr (.inr (.inr (.inr (fun _ => none)))))), (q6, .inr (10, [.ref q7, .ref q8, .ref q9])), (q7, .inl (cy 1, 4, .inl (upd (upd (upd (upd (fun _ => 0) 0 (-1)) 1 (-1)) 2 (-1)) 3 (-1)))), (q8, .inl (cy 1, 4, .inl (fun _ => 0))), (q9, .inl (cy 2, 160, .inr (.inl (fun _ => 0)))), (q10, .inr (9, [.int 0, .int 2, .int 20, .int 120, .int 0, .int 0, .int 0, .int 0, .ref q11, .int 0, .ref q12, .ref q13, .int 0, .ref q14, .ref q15, .ref q16, .ref q17])), (q11, .inl (cy 1, 6, .inl (fun _ => 0))), (q12, .inl (cy 1, 20, .inl (fun _ => 0))), (q13, .inl (cy 1, 20, .inl (fun _ => 0))), (q14, .inl (cy 1, 300, .inl (fun _ => 0))), (q15, .inl (cy 1, 300, .inl (fun _ => 0))), (q16, .inl (cy 1, 300, .inl (fun _ => 0))), (q17, .inl (cy 1, 300, .inl (fun _ => 0))), (m0, .inr (12, [.ref m1, .ref m2, .ref m3, .ref m4, .ref m5, .int 0, .ref m6, .int 0, .int 0, .int 0, .int 0, .int 0, .int 0, .int 0, .int 0, .int 0, .int 0, .int (-1), .ref m7, .ref m8, .int 0, .ref m9, .int 0, .ref m10, .ref m11, .ref m12, .ref m13, .ref m14, .int 0, .ref m15, .ref m16, .ref m17])), (m2, .inl (cy 1, 1868, .inl (fun _ => 0))), (m3, .inl (cy 1, 1868, .inl (fun _ => 0))), (m4, .inl (cy 1, 5604, .inl (fun _ => 0))), (m5, .inl (cy 3, 3, .inl (fun _ => 0))), (m6, .inl (cy 1, 900, .inl (fun _ => 0))), (m7, .inl (cy 1, 1830, .inl (fun _ => 0))), (m8, .inl (cy 1, 1830, .inl (fun _ => 0))), (m9, .inl (cy 2, 2465, .inr (.inl (fun _ => 0)))), (m10, .inl (cy 1, 7201, .inl (fun _ => 0))), (m11, .inl (cy 1, 1830, .inl (fun _ => 0))), (m12, .inl (cy 1, 5, .inl (fun _ => 0))), (m13, .inl (cy 1, 6, .inl (fun _ => 0))), (m14, .inl (cy 1, 6, .inl (fun _ => 0))), (m15, .inl (cy 1, 4, .inl (upd (upd (upd (upd (fun _ => 0) 0 (-1)) 1 (-1)) 2 (-1)) 3 (-1)))), (m16, .inl (cy 1, 4, .inl (fun _ => 0))), (m17, .inl (cy 2, 160, .inr (.inl (fun _ => 0)))), (m1, .inl (cy 1, 1868, .inl (upd (upd (upd (fun _ => 0) 1 2) 2 20) 3 120))), (o0, .inl (cy 2, 1, .inr (.inl (fun _ => 0))))] H locs) (hl : lv_has ls 8 [(0, .ref b), (1, .ref q0), (2, .ref m0), (3, .ref o0), (4, .int 0)]) (kk : ∀ (H : Heap) (locs : List Loc) (ls : Array Slot), va_S A s.heap H locs → lv_has ls 8 [(0, .ref b), (4, .int 0)] → W p l e room_1 s m args below meth c H locs 600002 7302232 Q (F0 m 2461 ls [])) : W p l e room_1 s m args below meth c H locs 37 29845 Q (F0 m 531 ls []) := by
  obtain ⟨y1, sx1⟩ : ∃ y, xs 1 = y := ⟨_, rfl⟩
  obtain ⟨y2, sx2⟩ : ∃ y, xs 2 = y := ⟨_, rfl⟩
  obtain ⟨y3, sx3⟩ : ∃ y, xs 3 = y := ⟨_, rfl⟩
  obtain ⟨y4, sx4⟩ : ∃ y, xs 4 = y := ⟨_, rfl⟩
  obtain ⟨y5, sx5⟩ : ∃ y, xs 5 = y := ⟨_, rfl⟩
  by_cases g1 : y1 < 0
  · exact s_L_6_0 b q0 q1 q2 q4 q5 q6 q10 m0 m1 m2 m3 m4 m5 m6 m7 m8 m9 m10 m11 m12 m13 m14 m15 m16 m17 o0 y1 y2 g1 sx1 sx2 hst C hml hX hbl hbA (w.pick [0, 18, 35] rfl rfl) hl kk
  · exact s_L_6_1 b q0 q1 q2 q4 q5 q6 q10 q11 q12 q13 q14 q15 q16 q17 m0 m1 m2 m3 m4 m5 m6 m7 m8 m9 m10 m11 m12 m13 m14 m15 m16 m17 o0 y1 y2 g1 sx1 sx2 hst C hml hX hbl hbA (w.pick [0, 10, 18, 35] rfl rfl) hl kk
theorem dL_law_599 : decode cL_law 599 = .ok (.aload_n 1, 1) := by decide +kernel
theorem dL_law_600 : decode cL_law 600 = .ok (.aload_n 0, 1) := by decide +kernel
theorem dL_law_601 : decode cL_law 601 = .ok (.iload 4, 2) := by decide +kernel
theorem dL_law_603 : decode cL_law 603 = .ok (.iconst 1, 1) := by decide +kernel
theorem dL_law_604 : decode cL_law 604 = .ok (.iadd, 1) := by decide +kernel
theorem dL_law_605 : decode cL_law 605 = .ok (.iaload, 1) := by decide +kernel
theorem dL_law_606 : decode cL_law 606 = .ok (.aload_n 3, 1) := by decide +kernel
theorem dL_law_607 : decode cL_law 607 = .ok (.invokestatic 156, 3) := by decide +kernel
theorem fh_RL_156 : FH RL 156 yL_turn cL_turn 4 (some .int) [(0, 9, 12, 19)] 3 := ⟨⟨gw_mem (by decide +kernel) (by decide +kernel), gw_mem (by decide +kernel) (by decide +kernel), gw_mem (by decide +kernel) (by decide +kernel), gw_mem (by decide +kernel) (by decide +kernel)⟩, ⟨by decide +kernel, by decide +kernel, by decide +kernel⟩⟩
theorem dL_law_610 : decode cL_law 610 = .ok (.istore 5, 2) := by decide +kernel
theorem dL_law_612 : decode cL_law 612 = .ok (.aload_n 2, 1) := by decide +kernel
theorem dL_law_613 : decode cL_law 613 = .ok (.aload_n 0, 1) := by decide +kernel
theorem dL_law_614 : decode cL_law 614 = .ok (.iload 4, 2) := by decide +kernel
theorem dL_law_616 : decode cL_law 616 = .ok (.iconst 1, 1) := by decide +kernel
theorem dL_law_617 : decode cL_law 617 = .ok (.iadd, 1) := by decide +kernel
theorem dL_law_618 : decode cL_law 618 = .ok (.iaload, 1) := by decide +kernel
theorem dL_law_619 : decode cL_law 619 = .ok (.invokevirtual 158, 3) := by decide +kernel
theorem fv_RL_158 : FV RL 158 yX12_turn cX12_turn 2 (some .int) 1 := ⟨⟨gw_mem (by decide +kernel) (by decide +kernel), gw_mem (by decide +kernel) (by decide +kernel), gw_mem (by decide +kernel) (by decide +kernel), gw_mem (by decide +kernel) (by decide +kernel), gw_mem (by decide +kernel) (by decide +kernel)⟩, ⟨by decide +kernel, by decide +kernel, by decide +kernel⟩⟩
theorem dL_law_622 : decode cL_law 622 = .ok (.istore 6, 2) := by decide +kernel
theorem dL_law_624 : decode cL_law 624 = .ok (.aload_n 2, 1) := by decide +kernel
theorem dL_law_625 : decode cL_law 625 = .ok (.invokevirtual 134, 3) := by decide +kernel
theorem dL_law_628 : decode cL_law 628 = .ok (.iload 5, 2) := by decide +kernel
theorem dL_law_630 : decode cL_law 630 = .ok (.if_icmp .eq 5, 3) := by decide +kernel
theorem dL_law_635 : decode cL_law 635 = .ok (.iload 5, 2) := by decide +kernel
theorem dL_law_637 : decode cL_law 637 = .ok (.ifCond .ne 15, 3) := by decide +kernel
theorem dL_law_652 : decode cL_law 652 = .ok (.goto 1809, 3) := by decide +kernel
set_option maxRecDepth 100000 in
set_option maxHeartbeats 4000000 in
theorem s_L_7_0 {p : Program} {l : Launch} {e : Env} {s : State} {m : MethodId} {args : Array Value} {below : List Frame} {meth : Method} {c : Code} {Q : State → Prop} {D : va_G} {cy : Nat → ClassId} {A : Nat → Prop} {H : Heap} {locs : List Loc} {ls : Array Slot} {xs : Nat → Int32} (b q0 q1 q2 q4 q5 q6 q10 m0 m1 m2 m3 m4 m5 m6 m7 m8 m9 m10 m11 m12 m13 m14 m15 m16 m17 o0 : Nat) (y1 : Int32) (k0 : y1 < 0) (sx1 : xs 1 = y1) (hst : l.stackTraces = false) (C : Cx p s m args c cL_law RL D cy A) (hml : c.maxLocals = 8) (hX : va_X b 6 xs s s.heap) (hbl : b < s.heap.size) (hbA : ¬ A b) (w : Wd D A s.heap [(q0, .inr (11, [.ref q1, .int 0, .int 0, .int (-1), .ref q2, .ref q4, .ref q5, .ref q6, .ref q10, .null])), (m0, .inr (12, [.ref m1, .ref m2, .ref m3, .ref m4, .ref m5, .int 0, .ref m6, .int 0, .int 0, .int 0, .int 0, .int 0, .int 0, .int 0, .int 0, .int 0, .int 0, .int (-1), .ref m7, .ref m8, .int 0, .ref m9, .int 0, .ref m10, .ref m11, .ref m12, .ref m13, .ref m14, .int 0, .ref m15, .ref m16, .ref m17])), (m1, .inl (cy 1, 1868, .inl (upd (upd (upd (fun _ => 0) 1 2) 2 20) 3 120)))] H locs) (hl : lv_has ls 8 [(0, .ref b), (1, .ref q0), (2, .ref m0), (3, .ref o0), (4, .int 0)]) (kk : ∀ (H : Heap) (locs : List Loc) (ls : Array Slot), va_S A s.heap H locs → lv_has ls 8 [(0, .ref b), (4, .int 0)] → W p l e room_1 s m args below meth c H locs 600002 7302232 Q (F0 m 2461 ls [])) : W p l e room_1 s m args below meth c H locs 37 29845 Q (F0 m 599 ls []) := by
  refine lv_aload_n C.1 C.2.1 dL_law_599 rfl (lv_at hl 1 rfl) ?_
  refine lv_aload_n C.1 C.2.1 dL_law_600 rfl (lv_at hl 0 rfl) ?_
  refine lv_iload C.1 C.2.1 dL_law_601 (lv_at hl 4 rfl) ?_
  refine lv_iconst (v := 1) C.1 C.2.1 dL_law_603 (by decide) ?_
  refine r_iadd C (v := 1) dL_law_604 (by decide) ?_
  refine r_sld C w hX hbl hbA (v := y1) (vinD (by decide)) sx1 dL_law_605 ?_
  refine lv_aload_n C.1 C.2.1 dL_law_606 rfl (lv_at hl 3 rfl) ?_
  refine r_callH C w fh_RL_156 (c_L_turn_0 l D cy q0 o0 q1 q2 q4 q5 q6 q10 y1 k0 hst) (hl.1.trans hml.symm) [0] [1, 2] (wr := [(m0, .inr (12, [.ref m1, .ref m2, .ref m3, .ref m4, .ref m5, .int 0, .ref m6, .int 0, .int 0, .int 0, .int 0, .int 0, .int 0, .int 0, .int 0, .int 0, .int 0, .int (-1), .ref m7, .ref m8, .int 0, .ref m9, .int 0, .ref m10, .ref m11, .ref m12, .ref m13, .ref m14, .int 0, .ref m15, .ref m16, .ref m17])), (m1, .inl (cy 1, 1868, .inl (upd (upd (upd (fun _ => 0) 1 2) 2 20) 3 120)))]) ⟨rfl, rfl, rfl, rfl, by decide⟩ rfl rfl ⟨Nat.le_of_ble_eq_true rfl, Nat.le_of_ble_eq_true rfl, Nat.le_of_ble_eq_true rfl⟩ 38 29851 ⟨rfl, rfl, Nat.le_of_ble_eq_true rfl, Nat.le_of_ble_eq_true rfl⟩ dL_law_607 (fun u H locs hp w => ?_)
  have w : Wd D A s.heap [(m0, .inr (12, [.ref m1, .ref m2, .ref m3, .ref m4, .ref m5, .int 0, .ref m6, .int 0, .int 0, .int 0, .int 0, .int 0, .int 0, .int 0, .int 0, .int 0, .int 0, .int (-1), .ref m7, .ref m8, .int 0, .ref m9, .int 0, .ref m10, .ref m11, .ref m12, .ref m13, .ref m14, .int 0, .ref m15, .ref m16, .ref m17])), (m1, .inl (cy 1, 1868, .inl (upd (upd (upd (fun _ => 0) 1 2) 2 20) 3 120)))] _ _ := w.pick [0, 1] rfl rfl
  refine r_top (g2 := F0 m 610 ls [.int 1]) rfl ?_
  refine lv_istore (lv' := [(5, .int 1), (0, .ref b), (1, .ref q0), (2, .ref m0), (3, .ref o0), (4, .int 0)]) C.1 C.2.1 dL_law_610 hl (by decide) rfl (fun ls hl => ?_)
  refine lv_aload_n C.1 C.2.1 dL_law_612 rfl (lv_at hl 3 rfl) ?_
  refine lv_aload_n C.1 C.2.1 dL_law_613 rfl (lv_at hl 1 rfl) ?_
  refine lv_iload C.1 C.2.1 dL_law_614 (lv_at hl 5 rfl) ?_
  refine lv_iconst (v := 1) C.1 C.2.1 dL_law_616 (by decide) ?_
  refine r_iadd C (v := 1) dL_law_617 (by decide) ?_
  refine r_sld C w hX hbl hbA (v := y1) (vinD (by decide)) sx1 dL_law_618 ?_
  refine r_callV C w fv_RL_158 (c_X12_turn_0 l D cy m0 m1 m2 m3 m4 m5 m6 m7 m8 m9 m10 m11 m12 m13 m14 m15 m16 m17 y1 k0) (hl.1.trans hml.symm) [0, 1] [] (wr := []) ⟨rfl, rfl, rfl, rfl, by decide⟩ 0 rfl rfl rfl rfl rfl ⟨Nat.le_of_ble_eq_true rfl, Nat.le_of_ble_eq_true rfl, Nat.le_of_ble_eq_true rfl⟩ 38 29851 ⟨rfl, rfl, Nat.le_of_ble_eq_true rfl, Nat.le_of_ble_eq_true rfl⟩ dL_law_619 (fun u H locs hp w => ?_)
  have w : Wd D A s.heap [(m0, .inr (12, [.ref m1, .ref m2, .ref m3, .ref m4, .ref m5, .int 1, .ref m6, .int 0, .int 0, .int 0, .int 0, .int 0, .int 0, .int 0, .int 0, .int 0, .int 0, .int (-1), .ref m7, .ref m8, .int 0, .ref m9, .int 0, .ref m10, .ref m11, .ref m12, .ref m13, .ref m14, .int 0, .ref m15, .ref m16, .ref m17]))] _ _ := w.pick [1] rfl rfl
  refine r_top (g2 := F0 m 622 ls [.int 0]) rfl ?_
  refine lv_istore (lv' := [(6, .int 0), (5, .int 1), (0, .ref b), (1, .ref q0), (2, .ref m0), (3, .ref o0), (4, .int 0)]) C.1 C.2.1 dL_law_622 hl (by decide) rfl (fun ls hl => ?_)
  refine lv_aload_n C.1 C.2.1 dL_law_624 rfl (lv_at hl 4 rfl) ?_
  refine r_callV C w fv_RL_134 (c_X12_thrown_0 l D cy m0 m1 m2 m3 m4 m5 m6 m7 m8 m9 m10 m11 m12 m13 m14 m15 m16 m17) (hl.1.trans hml.symm) [0] [] (wr := []) ⟨rfl, rfl, rfl, rfl, by decide⟩ 0 rfl rfl rfl rfl rfl ⟨Nat.le_of_ble_eq_true rfl, Nat.le_of_ble_eq_true rfl, Nat.le_of_ble_eq_true rfl⟩ 38 29851 ⟨rfl, rfl, Nat.le_of_ble_eq_true rfl, Nat.le_of_ble_eq_true rfl⟩ dL_law_625 (fun u H locs hp w => ?_)
  have w : Wd D A s.heap [(m0, .inr (12, [.ref m1, .ref m2, .ref m3, .ref m4, .ref m5, .int 1, .ref m6, .int 0, .int 0, .int 0, .int 0, .int 0, .int 0, .int 0, .int 0, .int 0, .int 0, .int (-1), .ref m7, .ref m8, .int 0, .ref m9, .int 0, .ref m10, .ref m11, .ref m12, .ref m13, .ref m14, .int 0, .ref m15, .ref m16, .ref m17]))] _ _ := w.pick [0] rfl rfl
  refine r_top (g2 := F0 m 628 ls [.int 1]) rfl ?_
  refine lv_iload C.1 C.2.1 dL_law_628 (lv_at hl 1 rfl) ?_
  refine b_icmp_eq_t C (tgt := 635) dL_law_630 (by decide) (by decide) ?_
  refine lv_iload C.1 C.2.1 dL_law_635 (lv_at hl 1 rfl) ?_
  refine b_if_ne_t C (tgt := 652) dL_law_637 (by decide) (by decide) ?_
  refine lv_goto (tgt := 2461) C.1 C.2.1 dL_law_652 (by decide) ?_
  refine W.widen (k := 600002) (n := 7302232) (Nat.le_of_ble_eq_true rfl) (Nat.le_of_ble_eq_true rfl) ?_
  exact kk _ _ _ w.2.2 (lv_sub hl [2, 6] rfl)
set_option maxRecDepth 100000 in
set_option maxHeartbeats 4000000 in
theorem s_L_7_1 {p : Program} {l : Launch} {e : Env} {s : State} {m : MethodId} {args : Array Value} {below : List Frame} {meth : Method} {c : Code} {Q : State → Prop} {D : va_G} {cy : Nat → ClassId} {A : Nat → Prop} {H : Heap} {locs : List Loc} {ls : Array Slot} {xs : Nat → Int32} (b q0 q1 q2 q4 q5 q6 q10 q11 q12 q13 q14 q15 q16 q17 m0 m1 m2 m3 m4 m5 m6 m7 m8 m9 m10 m11 m12 m13 m14 m15 m16 m17 o0 : Nat) (y1 : Int32) (k0 : ¬ y1 < 0) (sx1 : xs 1 = y1) (hst : l.stackTraces = false) (C : Cx p s m args c cL_law RL D cy A) (hml : c.maxLocals = 8) (hX : va_X b 6 xs s s.heap) (hbl : b < s.heap.size) (hbA : ¬ A b) (w : Wd D A s.heap [(q0, .inr (11, [.ref q1, .int 0, .int 0, .int (-1), .ref q2, .ref q4, .ref q5, .ref q6, .ref q10, .null])), (q10, .inr (9, [.int 0, .int 2, .int 20, .int 120, .int 0, .int 0, .int 0, .int 0, .ref q11, .int 0, .ref q12, .ref q13, .int 0, .ref q14, .ref q15, .ref q16, .ref q17])), (m0, .inr (12, [.ref m1, .ref m2, .ref m3, .ref m4, .ref m5, .int 0, .ref m6, .int 0, .int 0, .int 0, .int 0, .int 0, .int 0, .int 0, .int 0, .int 0, .int 0, .int (-1), .ref m7, .ref m8, .int 0, .ref m9, .int 0, .ref m10, .ref m11, .ref m12, .ref m13, .ref m14, .int 0, .ref m15, .ref m16, .ref m17])), (m1, .inl (cy 1, 1868, .inl (upd (upd (upd (fun _ => 0) 1 2) 2 20) 3 120)))] H locs) (hl : lv_has ls 8 [(0, .ref b), (1, .ref q0), (2, .ref m0), (3, .ref o0), (4, .int 0)]) (kk : ∀ (H : Heap) (locs : List Loc) (ls : Array Slot), va_S A s.heap H locs → lv_has ls 8 [(0, .ref b), (4, .int 0)] → W p l e room_1 s m args below meth c H locs 600002 7302232 Q (F0 m 2461 ls [])) : W p l e room_1 s m args below meth c H locs 37 29845 Q (F0 m 599 ls []) := by
  refine lv_aload_n C.1 C.2.1 dL_law_599 rfl (lv_at hl 1 rfl) ?_
  refine lv_aload_n C.1 C.2.1 dL_law_600 rfl (lv_at hl 0 rfl) ?_
  refine lv_iload C.1 C.2.1 dL_law_601 (lv_at hl 4 rfl) ?_
  refine lv_iconst (v := 1) C.1 C.2.1 dL_law_603 (by decide) ?_
  refine r_iadd C (v := 1) dL_law_604 (by decide) ?_
  refine r_sld C w hX hbl hbA (v := y1) (vinD (by decide)) sx1 dL_law_605 ?_
  refine lv_aload_n C.1 C.2.1 dL_law_606 rfl (lv_at hl 3 rfl) ?_
  refine r_callH C w fh_RL_156 (c_L_turn_1 l D cy q0 o0 q1 q2 q4 q5 q6 q10 q11 q12 q13 q14 q15 q16 q17 y1 k0 hst) (hl.1.trans hml.symm) [0, 1] [2, 3] (wr := [(m0, .inr (12, [.ref m1, .ref m2, .ref m3, .ref m4, .ref m5, .int 0, .ref m6, .int 0, .int 0, .int 0, .int 0, .int 0, .int 0, .int 0, .int 0, .int 0, .int 0, .int (-1), .ref m7, .ref m8, .int 0, .ref m9, .int 0, .ref m10, .ref m11, .ref m12, .ref m13, .ref m14, .int 0, .ref m15, .ref m16, .ref m17])), (m1, .inl (cy 1, 1868, .inl (upd (upd (upd (fun _ => 0) 1 2) 2 20) 3 120)))]) ⟨rfl, rfl, rfl, rfl, by decide⟩ rfl rfl ⟨Nat.le_of_ble_eq_true rfl, Nat.le_of_ble_eq_true rfl, Nat.le_of_ble_eq_true rfl⟩ 38 29851 ⟨rfl, rfl, Nat.le_of_ble_eq_true rfl, Nat.le_of_ble_eq_true rfl⟩ dL_law_607 (fun u H locs hp w => ?_)
  have w : Wd D A s.heap [(m0, .inr (12, [.ref m1, .ref m2, .ref m3, .ref m4, .ref m5, .int 0, .ref m6, .int 0, .int 0, .int 0, .int 0, .int 0, .int 0, .int 0, .int 0, .int 0, .int 0, .int (-1), .ref m7, .ref m8, .int 0, .ref m9, .int 0, .ref m10, .ref m11, .ref m12, .ref m13, .ref m14, .int 0, .ref m15, .ref m16, .ref m17])), (m1, .inl (cy 1, 1868, .inl (upd (upd (upd (fun _ => 0) 1 2) 2 20) 3 120)))] _ _ := w.pick [0, 1] rfl rfl
  refine r_top (g2 := F0 m 610 ls [.int 1]) rfl ?_
  refine lv_istore (lv' := [(5, .int 1), (0, .ref b), (1, .ref q0), (2, .ref m0), (3, .ref o0), (4, .int 0)]) C.1 C.2.1 dL_law_610 hl (by decide) rfl (fun ls hl => ?_)
  refine lv_aload_n C.1 C.2.1 dL_law_612 rfl (lv_at hl 3 rfl) ?_
  refine lv_aload_n C.1 C.2.1 dL_law_613 rfl (lv_at hl 1 rfl) ?_
  refine lv_iload C.1 C.2.1 dL_law_614 (lv_at hl 5 rfl) ?_
  refine lv_iconst (v := 1) C.1 C.2.1 dL_law_616 (by decide) ?_
  refine r_iadd C (v := 1) dL_law_617 (by decide) ?_
  refine r_sld C w hX hbl hbA (v := y1) (vinD (by decide)) sx1 dL_law_618 ?_
  refine r_callV C w fv_RL_158 (c_X12_turn_1 l D cy m0 m1 m2 m3 m4 m5 m6 m7 m8 m9 m10 m11 m12 m13 m14 m15 m16 m17 y1 k0) (hl.1.trans hml.symm) [0, 1] [] (wr := []) ⟨rfl, rfl, rfl, rfl, by decide⟩ 0 rfl rfl rfl rfl rfl ⟨Nat.le_of_ble_eq_true rfl, Nat.le_of_ble_eq_true rfl, Nat.le_of_ble_eq_true rfl⟩ 38 29851 ⟨rfl, rfl, Nat.le_of_ble_eq_true rfl, Nat.le_of_ble_eq_true rfl⟩ dL_law_619 (fun u H locs hp w => ?_)
  have w : Wd D A s.heap [(m0, .inr (12, [.ref m1, .ref m2, .ref m3, .ref m4, .ref m5, .int 1, .ref m6, .int 0, .int 0, .int 0, .int 0, .int 0, .int 0, .int 0, .int 0, .int 0, .int 0, .int (-1), .ref m7, .ref m8, .int 0, .ref m9, .int 0, .ref m10, .ref m11, .ref m12, .ref m13, .ref m14, .int 0, .ref m15, .ref m16, .ref m17]))] _ _ := w.pick [1] rfl rfl
  refine r_top (g2 := F0 m 622 ls [.int 0]) rfl ?_
  refine lv_istore (lv' := [(6, .int 0), (5, .int 1), (0, .ref b), (1, .ref q0), (2, .ref m0), (3, .ref o0), (4, .int 0)]) C.1 C.2.1 dL_law_622 hl (by decide) rfl (fun ls hl => ?_)
  refine lv_aload_n C.1 C.2.1 dL_law_624 rfl (lv_at hl 4 rfl) ?_
  refine r_callV C w fv_RL_134 (c_X12_thrown_0 l D cy m0 m1 m2 m3 m4 m5 m6 m7 m8 m9 m10 m11 m12 m13 m14 m15 m16 m17) (hl.1.trans hml.symm) [0] [] (wr := []) ⟨rfl, rfl, rfl, rfl, by decide⟩ 0 rfl rfl rfl rfl rfl ⟨Nat.le_of_ble_eq_true rfl, Nat.le_of_ble_eq_true rfl, Nat.le_of_ble_eq_true rfl⟩ 38 29851 ⟨rfl, rfl, Nat.le_of_ble_eq_true rfl, Nat.le_of_ble_eq_true rfl⟩ dL_law_625 (fun u H locs hp w => ?_)
  have w : Wd D A s.heap [(m0, .inr (12, [.ref m1, .ref m2, .ref m3, .ref m4, .ref m5, .int 1, .ref m6, .int 0, .int 0, .int 0, .int 0, .int 0, .int 0, .int 0, .int 0, .int 0, .int 0, .int (-1), .ref m7, .ref m8, .int 0, .ref m9, .int 0, .ref m10, .ref m11, .ref m12, .ref m13, .ref m14, .int 0, .ref m15, .ref m16, .ref m17]))] _ _ := w.pick [0] rfl rfl
  refine r_top (g2 := F0 m 628 ls [.int 1]) rfl ?_
  refine lv_iload C.1 C.2.1 dL_law_628 (lv_at hl 1 rfl) ?_
  refine b_icmp_eq_t C (tgt := 635) dL_law_630 (by decide) (by decide) ?_
  refine lv_iload C.1 C.2.1 dL_law_635 (lv_at hl 1 rfl) ?_
  refine b_if_ne_t C (tgt := 652) dL_law_637 (by decide) (by decide) ?_
  refine lv_goto (tgt := 2461) C.1 C.2.1 dL_law_652 (by decide) ?_
  refine W.widen (k := 600002) (n := 7302232) (Nat.le_of_ble_eq_true rfl) (Nat.le_of_ble_eq_true rfl) ?_
  exact kk _ _ _ w.2.2 (lv_sub hl [2, 6] rfl)
set_option maxRecDepth 100000 in
set_option maxHeartbeats 4000000 in
theorem t_L_7 {p : Program} {l : Launch} {e : Env} {s : State} {m : MethodId} {args : Array Value} {below : List Frame} {meth : Method} {c : Code} {Q : State → Prop} {D : va_G} {cy : Nat → ClassId} {A : Nat → Prop} {H : Heap} {locs : List Loc} {ls : Array Slot} {xs : Nat → Int32} (b q0 q1 q2 q4 q5 q6 q10 q3 q7 q8 q9 q11 q12 q13 q14 q15 q16 q17 m0 m1 m2 m3 m4 m5 m6 m7 m8 m9 m10 m11 m12 m13 m14 m15 m16 m17 o0 : Nat) (hst : l.stackTraces = false) (C : Cx p s m args c cL_law RL D cy A) (hml : c.maxLocals = 8) (hX : va_X b 6 xs s s.heap) (hbl : b < s.heap.size) (hbA : ¬ A b) (w : Wd D A s.heap [(q0, .inr (11, [.ref q1, .int 0, .int 0, .int (-1), .ref q2, .ref q4, .ref q5, .ref q6, .ref q10, .null])), (q1, .inl (cy 0, 900, .inl (fun _ => 0))), (q2, .inr (5, [.ref q3, .int 0, .int 0, .int 0, .int 0, .int 0, .int 0, .null])), (q3, .inl (cy 0, 0, .inl (fun _ => 0))), (q4, .inl (cy 4, 5, .inr (.inr (.inr (.inr (va_up (fun _ => none) 0 (some q10))))))), (q5, .inl (cy 4, 3, .inr (.inr (.inr (.inr (fun _ => none)))))), (q6, .inr (10, [.ref q7, .ref q8, .ref q9])), (q7, .inl (cy 1, 4, .inl (upd (upd (upd (upd (fun _ => 0) 0 (-1)) 1 (-1)) 2 (-1)) 3 (-1)))), (q8, .inl (cy 1, 4, .inl (fun _ => 0))), (q9, .inl (cy 2, 160, .inr (.inl (fun _ => 0)))), (q10, .inr (9, [.int 0, .int 2, .int 20, .int 120, .int 0, .int 0, .int 0, .int 0, .ref q11, .int 0, .ref q12, .ref q13, .int 0, .ref q14, .ref q15, .ref q16, .ref q17])), (q11, .inl (cy 1, 6, .inl (fun _ => 0))), (q12, .inl (cy 1, 20, .inl (fun _ => 0))), (q13, .inl (cy 1, 20, .inl (fun _ => 0))), (q14, .inl (cy 1, 300, .inl (fun _ => 0))), (q15, .inl (cy 1, 300, .inl (fun _ => 0))), (q16, .inl (cy 1, 300, .inl (fun _ => 0))), (q17, .inl (cy 1, 300, .inl (fun _ => 0))), (m0, .inr (12, [.ref m1, .ref m2, .ref m3, .ref m4, .ref m5, .int 0, .ref m6, .int 0, .int 0, .int 0, .int 0, .int 0, .int 0, .int 0, .int 0, .int 0, .int 0, .int (-1), .ref m7, .ref m8, .int 0, .ref m9, .int 0, .ref m10, .ref m11, .ref m12, .ref m13, .ref m14, .int 0, .ref m15, .ref m16, .ref m17])), (m2, .inl (cy 1, 1868, .inl (fun _ => 0))), (m3, .inl (cy 1, 1868, .inl (fun _ => 0))), (m4, .inl (cy 1, 5604, .inl (fun _ => 0))), (m5, .inl (cy 3, 3, .inl (fun _ => 0))), (m6, .inl (cy 1, 900, .inl (fun _ => 0))), (m7, .inl (cy 1, 1830, .inl (fun _ => 0))), (m8, .inl (cy 1, 1830, .inl (fun _ => 0))), (m9, .inl (cy 2, 2465, .inr (.inl (fun _ => 0)))), (m10, .inl (cy 1, 7201, .inl (fun _ => 0))), (m11, .inl (cy 1, 1830, .inl (fun _ => 0))), (m12, .inl (cy 1, 5, .inl (fun _ => 0))), (m13, .inl (cy 1, 6, .inl (fun _ => 0))), (m14, .inl (cy 1, 6, .inl (fun _ => 0))), (m15, .inl (cy 1, 4, .inl (upd (upd (upd (upd (fun _ => 0) 0 (-1)) 1 (-1)) 2 (-1)) 3 (-1)))), (m16, .inl (cy 1, 4, .inl (fun _ => 0))), (m17, .inl (cy 2, 160, .inr (.inl (fun _ => 0)))), (m1, .inl (cy 1, 1868, .inl (upd (upd (upd (fun _ => 0) 1 2) 2 20) 3 120))), (o0, .inl (cy 2, 1, .inr (.inl (fun _ => 0))))] H locs) (hl : lv_has ls 8 [(0, .ref b), (1, .ref q0), (2, .ref m0), (3, .ref o0), (4, .int 0)]) (kk : ∀ (H : Heap) (locs : List Loc) (ls : Array Slot), va_S A s.heap H locs → lv_has ls 8 [(0, .ref b), (4, .int 0)] → W p l e room_1 s m args below meth c H locs 600002 7302232 Q (F0 m 2461 ls [])) : W p l e room_1 s m args below meth c H locs 37 29845 Q (F0 m 599 ls []) := by
  obtain ⟨y1, sx1⟩ : ∃ y, xs 1 = y := ⟨_, rfl⟩
  obtain ⟨y2, sx2⟩ : ∃ y, xs 2 = y := ⟨_, rfl⟩
  obtain ⟨y3, sx3⟩ : ∃ y, xs 3 = y := ⟨_, rfl⟩
  obtain ⟨y4, sx4⟩ : ∃ y, xs 4 = y := ⟨_, rfl⟩
  obtain ⟨y5, sx5⟩ : ∃ y, xs 5 = y := ⟨_, rfl⟩
  by_cases g1 : y1 < 0
  · exact s_L_7_0 b q0 q1 q2 q4 q5 q6 q10 m0 m1 m2 m3 m4 m5 m6 m7 m8 m9 m10 m11 m12 m13 m14 m15 m16 m17 o0 y1 g1 sx1 hst C hml hX hbl hbA (w.pick [0, 18, 35] rfl rfl) hl kk
  · exact s_L_7_1 b q0 q1 q2 q4 q5 q6 q10 q11 q12 q13 q14 q15 q16 q17 m0 m1 m2 m3 m4 m5 m6 m7 m8 m9 m10 m11 m12 m13 m14 m15 m16 m17 o0 y1 g1 sx1 hst C hml hX hbl hbA (w.pick [0, 10, 18, 35] rfl rfl) hl kk
theorem dL_law_655 : decode cL_law 655 = .ok (.aload_n 1, 1) := by decide +kernel
theorem dL_law_656 : decode cL_law 656 = .ok (.aload_n 0, 1) := by decide +kernel
theorem dL_law_657 : decode cL_law 657 = .ok (.iload 4, 2) := by decide +kernel
theorem dL_law_659 : decode cL_law 659 = .ok (.iconst 1, 1) := by decide +kernel
theorem dL_law_660 : decode cL_law 660 = .ok (.iadd, 1) := by decide +kernel
theorem dL_law_661 : decode cL_law 661 = .ok (.iaload, 1) := by decide +kernel
theorem dL_law_662 : decode cL_law 662 = .ok (.aload_n 3, 1) := by decide +kernel
theorem dL_law_663 : decode cL_law 663 = .ok (.invokestatic 159, 3) := by decide +kernel
theorem fh_RL_159 : FH RL 159 yL_left cL_left 4 (some .int) [(0, 9, 12, 13)] 3 := ⟨⟨gw_mem (by decide +kernel) (by decide +kernel), gw_mem (by decide +kernel) (by decide +kernel), gw_mem (by decide +kernel) (by decide +kernel), gw_mem (by decide +kernel) (by decide +kernel)⟩, ⟨by decide +kernel, by decide +kernel, by decide +kernel⟩⟩
theorem dL_law_666 : decode cL_law 666 = .ok (.istore 5, 2) := by decide +kernel
theorem dL_law_668 : decode cL_law 668 = .ok (.aload_n 2, 1) := by decide +kernel
theorem dL_law_669 : decode cL_law 669 = .ok (.aload_n 0, 1) := by decide +kernel
theorem dL_law_670 : decode cL_law 670 = .ok (.iload 4, 2) := by decide +kernel
theorem dL_law_672 : decode cL_law 672 = .ok (.iconst 1, 1) := by decide +kernel
theorem dL_law_673 : decode cL_law 673 = .ok (.iadd, 1) := by decide +kernel
theorem dL_law_674 : decode cL_law 674 = .ok (.iaload, 1) := by decide +kernel
theorem dL_law_675 : decode cL_law 675 = .ok (.invokevirtual 161, 3) := by decide +kernel
theorem fv_RL_161 : FV RL 161 yX12_left cX12_left 2 (some .int) 1 := ⟨⟨gw_mem (by decide +kernel) (by decide +kernel), gw_mem (by decide +kernel) (by decide +kernel), gw_mem (by decide +kernel) (by decide +kernel), gw_mem (by decide +kernel) (by decide +kernel), gw_mem (by decide +kernel) (by decide +kernel)⟩, ⟨by decide +kernel, by decide +kernel, by decide +kernel⟩⟩
theorem dL_law_678 : decode cL_law 678 = .ok (.istore 6, 2) := by decide +kernel
theorem dL_law_680 : decode cL_law 680 = .ok (.aload_n 2, 1) := by decide +kernel
theorem dL_law_681 : decode cL_law 681 = .ok (.invokevirtual 134, 3) := by decide +kernel
theorem dL_law_684 : decode cL_law 684 = .ok (.iload 5, 2) := by decide +kernel
theorem dL_law_686 : decode cL_law 686 = .ok (.if_icmp .eq 5, 3) := by decide +kernel
theorem dL_law_691 : decode cL_law 691 = .ok (.iload 5, 2) := by decide +kernel
theorem dL_law_693 : decode cL_law 693 = .ok (.ifCond .ne 15, 3) := by decide +kernel
theorem dL_law_708 : decode cL_law 708 = .ok (.goto 1753, 3) := by decide +kernel
set_option maxRecDepth 100000 in
set_option maxHeartbeats 4000000 in
theorem s_L_8_0 {p : Program} {l : Launch} {e : Env} {s : State} {m : MethodId} {args : Array Value} {below : List Frame} {meth : Method} {c : Code} {Q : State → Prop} {D : va_G} {cy : Nat → ClassId} {A : Nat → Prop} {H : Heap} {locs : List Loc} {ls : Array Slot} {xs : Nat → Int32} (b q0 q1 q2 q4 q5 q6 q10 m0 m1 m2 m3 m4 m5 m6 m7 m8 m9 m10 m11 m12 m13 m14 m15 m16 m17 o0 : Nat) (y1 : Int32) (k0 : y1 < 0) (sx1 : xs 1 = y1) (hst : l.stackTraces = false) (C : Cx p s m args c cL_law RL D cy A) (hml : c.maxLocals = 8) (hX : va_X b 6 xs s s.heap) (hbl : b < s.heap.size) (hbA : ¬ A b) (w : Wd D A s.heap [(q0, .inr (11, [.ref q1, .int 0, .int 0, .int (-1), .ref q2, .ref q4, .ref q5, .ref q6, .ref q10, .null])), (m0, .inr (12, [.ref m1, .ref m2, .ref m3, .ref m4, .ref m5, .int 0, .ref m6, .int 0, .int 0, .int 0, .int 0, .int 0, .int 0, .int 0, .int 0, .int 0, .int 0, .int (-1), .ref m7, .ref m8, .int 0, .ref m9, .int 0, .ref m10, .ref m11, .ref m12, .ref m13, .ref m14, .int 0, .ref m15, .ref m16, .ref m17])), (m1, .inl (cy 1, 1868, .inl (upd (upd (upd (fun _ => 0) 1 2) 2 20) 3 120)))] H locs) (hl : lv_has ls 8 [(0, .ref b), (1, .ref q0), (2, .ref m0), (3, .ref o0), (4, .int 0)]) (kk : ∀ (H : Heap) (locs : List Loc) (ls : Array Slot), va_S A s.heap H locs → lv_has ls 8 [(0, .ref b), (4, .int 0)] → W p l e room_1 s m args below meth c H locs 600002 7302232 Q (F0 m 2461 ls [])) : W p l e room_1 s m args below meth c H locs 37 29845 Q (F0 m 655 ls []) := by
  refine lv_aload_n C.1 C.2.1 dL_law_655 rfl (lv_at hl 1 rfl) ?_
  refine lv_aload_n C.1 C.2.1 dL_law_656 rfl (lv_at hl 0 rfl) ?_
  refine lv_iload C.1 C.2.1 dL_law_657 (lv_at hl 4 rfl) ?_
  refine lv_iconst (v := 1) C.1 C.2.1 dL_law_659 (by decide) ?_
  refine r_iadd C (v := 1) dL_law_660 (by decide) ?_
  refine r_sld C w hX hbl hbA (v := y1) (vinD (by decide)) sx1 dL_law_661 ?_
  refine lv_aload_n C.1 C.2.1 dL_law_662 rfl (lv_at hl 3 rfl) ?_
  refine r_callH C w fh_RL_159 (c_L_left_0 l D cy q0 o0 q1 q2 q4 q5 q6 q10 y1 k0 hst) (hl.1.trans hml.symm) [0] [1, 2] (wr := [(m0, .inr (12, [.ref m1, .ref m2, .ref m3, .ref m4, .ref m5, .int 0, .ref m6, .int 0, .int 0, .int 0, .int 0, .int 0, .int 0, .int 0, .int 0, .int 0, .int 0, .int (-1), .ref m7, .ref m8, .int 0, .ref m9, .int 0, .ref m10, .ref m11, .ref m12, .ref m13, .ref m14, .int 0, .ref m15, .ref m16, .ref m17])), (m1, .inl (cy 1, 1868, .inl (upd (upd (upd (fun _ => 0) 1 2) 2 20) 3 120)))]) ⟨rfl, rfl, rfl, rfl, by decide⟩ rfl rfl ⟨Nat.le_of_ble_eq_true rfl, Nat.le_of_ble_eq_true rfl, Nat.le_of_ble_eq_true rfl⟩ 38 29851 ⟨rfl, rfl, Nat.le_of_ble_eq_true rfl, Nat.le_of_ble_eq_true rfl⟩ dL_law_663 (fun u H locs hp w => ?_)
  have w : Wd D A s.heap [(m0, .inr (12, [.ref m1, .ref m2, .ref m3, .ref m4, .ref m5, .int 0, .ref m6, .int 0, .int 0, .int 0, .int 0, .int 0, .int 0, .int 0, .int 0, .int 0, .int 0, .int (-1), .ref m7, .ref m8, .int 0, .ref m9, .int 0, .ref m10, .ref m11, .ref m12, .ref m13, .ref m14, .int 0, .ref m15, .ref m16, .ref m17])), (m1, .inl (cy 1, 1868, .inl (upd (upd (upd (fun _ => 0) 1 2) 2 20) 3 120)))] _ _ := w.pick [0, 1] rfl rfl
  refine r_top (g2 := F0 m 666 ls [.int 1]) rfl ?_
  refine lv_istore (lv' := [(5, .int 1), (0, .ref b), (1, .ref q0), (2, .ref m0), (3, .ref o0), (4, .int 0)]) C.1 C.2.1 dL_law_666 hl (by decide) rfl (fun ls hl => ?_)
  refine lv_aload_n C.1 C.2.1 dL_law_668 rfl (lv_at hl 3 rfl) ?_
  refine lv_aload_n C.1 C.2.1 dL_law_669 rfl (lv_at hl 1 rfl) ?_
  refine lv_iload C.1 C.2.1 dL_law_670 (lv_at hl 5 rfl) ?_
  refine lv_iconst (v := 1) C.1 C.2.1 dL_law_672 (by decide) ?_
  refine r_iadd C (v := 1) dL_law_673 (by decide) ?_
  refine r_sld C w hX hbl hbA (v := y1) (vinD (by decide)) sx1 dL_law_674 ?_
  refine r_callV C w fv_RL_161 (c_X12_left_0 l D cy m0 m1 m2 m3 m4 m5 m6 m7 m8 m9 m10 m11 m12 m13 m14 m15 m16 m17 y1 k0) (hl.1.trans hml.symm) [0, 1] [] (wr := []) ⟨rfl, rfl, rfl, rfl, by decide⟩ 0 rfl rfl rfl rfl rfl ⟨Nat.le_of_ble_eq_true rfl, Nat.le_of_ble_eq_true rfl, Nat.le_of_ble_eq_true rfl⟩ 38 29851 ⟨rfl, rfl, Nat.le_of_ble_eq_true rfl, Nat.le_of_ble_eq_true rfl⟩ dL_law_675 (fun u H locs hp w => ?_)
  have w : Wd D A s.heap [(m0, .inr (12, [.ref m1, .ref m2, .ref m3, .ref m4, .ref m5, .int 1, .ref m6, .int 0, .int 0, .int 0, .int 0, .int 0, .int 0, .int 0, .int 0, .int 0, .int 0, .int (-1), .ref m7, .ref m8, .int 0, .ref m9, .int 0, .ref m10, .ref m11, .ref m12, .ref m13, .ref m14, .int 0, .ref m15, .ref m16, .ref m17]))] _ _ := w.pick [1] rfl rfl
  refine r_top (g2 := F0 m 678 ls [.int 0]) rfl ?_
  refine lv_istore (lv' := [(6, .int 0), (5, .int 1), (0, .ref b), (1, .ref q0), (2, .ref m0), (3, .ref o0), (4, .int 0)]) C.1 C.2.1 dL_law_678 hl (by decide) rfl (fun ls hl => ?_)
  refine lv_aload_n C.1 C.2.1 dL_law_680 rfl (lv_at hl 4 rfl) ?_
  refine r_callV C w fv_RL_134 (c_X12_thrown_0 l D cy m0 m1 m2 m3 m4 m5 m6 m7 m8 m9 m10 m11 m12 m13 m14 m15 m16 m17) (hl.1.trans hml.symm) [0] [] (wr := []) ⟨rfl, rfl, rfl, rfl, by decide⟩ 0 rfl rfl rfl rfl rfl ⟨Nat.le_of_ble_eq_true rfl, Nat.le_of_ble_eq_true rfl, Nat.le_of_ble_eq_true rfl⟩ 38 29851 ⟨rfl, rfl, Nat.le_of_ble_eq_true rfl, Nat.le_of_ble_eq_true rfl⟩ dL_law_681 (fun u H locs hp w => ?_)
  have w : Wd D A s.heap [(m0, .inr (12, [.ref m1, .ref m2, .ref m3, .ref m4, .ref m5, .int 1, .ref m6, .int 0, .int 0, .int 0, .int 0, .int 0, .int 0, .int 0, .int 0, .int 0, .int 0, .int (-1), .ref m7, .ref m8, .int 0, .ref m9, .int 0, .ref m10, .ref m11, .ref m12, .ref m13, .ref m14, .int 0, .ref m15, .ref m16, .ref m17]))] _ _ := w.pick [0] rfl rfl
  refine r_top (g2 := F0 m 684 ls [.int 1]) rfl ?_
  refine lv_iload C.1 C.2.1 dL_law_684 (lv_at hl 1 rfl) ?_
  refine b_icmp_eq_t C (tgt := 691) dL_law_686 (by decide) (by decide) ?_
  refine lv_iload C.1 C.2.1 dL_law_691 (lv_at hl 1 rfl) ?_
  refine b_if_ne_t C (tgt := 708) dL_law_693 (by decide) (by decide) ?_
  refine lv_goto (tgt := 2461) C.1 C.2.1 dL_law_708 (by decide) ?_
  refine W.widen (k := 600002) (n := 7302232) (Nat.le_of_ble_eq_true rfl) (Nat.le_of_ble_eq_true rfl) ?_
  exact kk _ _ _ w.2.2 (lv_sub hl [2, 6] rfl)
set_option maxRecDepth 100000 in
set_option maxHeartbeats 4000000 in
theorem s_L_8_1 {p : Program} {l : Launch} {e : Env} {s : State} {m : MethodId} {args : Array Value} {below : List Frame} {meth : Method} {c : Code} {Q : State → Prop} {D : va_G} {cy : Nat → ClassId} {A : Nat → Prop} {H : Heap} {locs : List Loc} {ls : Array Slot} {xs : Nat → Int32} (b q0 q1 q2 q4 q5 q6 q10 q11 q12 q13 q14 q15 q16 q17 m0 m1 m2 m3 m4 m5 m6 m7 m8 m9 m10 m11 m12 m13 m14 m15 m16 m17 o0 : Nat) (y1 : Int32) (k0 : ¬ y1 < 0) (k1 : ¬ y1 ≤ 0) (sx1 : xs 1 = y1) (hst : l.stackTraces = false) (C : Cx p s m args c cL_law RL D cy A) (hml : c.maxLocals = 8) (hX : va_X b 6 xs s s.heap) (hbl : b < s.heap.size) (hbA : ¬ A b) (w : Wd D A s.heap [(q0, .inr (11, [.ref q1, .int 0, .int 0, .int (-1), .ref q2, .ref q4, .ref q5, .ref q6, .ref q10, .null])), (q10, .inr (9, [.int 0, .int 2, .int 20, .int 120, .int 0, .int 0, .int 0, .int 0, .ref q11, .int 0, .ref q12, .ref q13, .int 0, .ref q14, .ref q15, .ref q16, .ref q17])), (m0, .inr (12, [.ref m1, .ref m2, .ref m3, .ref m4, .ref m5, .int 0, .ref m6, .int 0, .int 0, .int 0, .int 0, .int 0, .int 0, .int 0, .int 0, .int 0, .int 0, .int (-1), .ref m7, .ref m8, .int 0, .ref m9, .int 0, .ref m10, .ref m11, .ref m12, .ref m13, .ref m14, .int 0, .ref m15, .ref m16, .ref m17])), (m1, .inl (cy 1, 1868, .inl (upd (upd (upd (fun _ => 0) 1 2) 2 20) 3 120)))] H locs) (hl : lv_has ls 8 [(0, .ref b), (1, .ref q0), (2, .ref m0), (3, .ref o0), (4, .int 0)]) (kk : ∀ (H : Heap) (locs : List Loc) (ls : Array Slot), va_S A s.heap H locs → lv_has ls 8 [(0, .ref b), (4, .int 0)] → W p l e room_1 s m args below meth c H locs 600002 7302232 Q (F0 m 2461 ls [])) : W p l e room_1 s m args below meth c H locs 37 29845 Q (F0 m 655 ls []) := by
  refine lv_aload_n C.1 C.2.1 dL_law_655 rfl (lv_at hl 1 rfl) ?_
  refine lv_aload_n C.1 C.2.1 dL_law_656 rfl (lv_at hl 0 rfl) ?_
  refine lv_iload C.1 C.2.1 dL_law_657 (lv_at hl 4 rfl) ?_
  refine lv_iconst (v := 1) C.1 C.2.1 dL_law_659 (by decide) ?_
  refine r_iadd C (v := 1) dL_law_660 (by decide) ?_
  refine r_sld C w hX hbl hbA (v := y1) (vinD (by decide)) sx1 dL_law_661 ?_
  refine lv_aload_n C.1 C.2.1 dL_law_662 rfl (lv_at hl 3 rfl) ?_
  refine r_callH C w fh_RL_159 (c_L_left_1 l D cy q0 o0 q1 q2 q4 q5 q6 q10 q11 q12 q13 q14 q15 q16 q17 y1 k0 k1 hst) (hl.1.trans hml.symm) [0, 1] [2, 3] (wr := [(m0, .inr (12, [.ref m1, .ref m2, .ref m3, .ref m4, .ref m5, .int 0, .ref m6, .int 0, .int 0, .int 0, .int 0, .int 0, .int 0, .int 0, .int 0, .int 0, .int 0, .int (-1), .ref m7, .ref m8, .int 0, .ref m9, .int 0, .ref m10, .ref m11, .ref m12, .ref m13, .ref m14, .int 0, .ref m15, .ref m16, .ref m17])), (m1, .inl (cy 1, 1868, .inl (upd (upd (upd (fun _ => 0) 1 2) 2 20) 3 120)))]) ⟨rfl, rfl, rfl, rfl, by decide⟩ rfl rfl ⟨Nat.le_of_ble_eq_true rfl, Nat.le_of_ble_eq_true rfl, Nat.le_of_ble_eq_true rfl⟩ 38 29851 ⟨rfl, rfl, Nat.le_of_ble_eq_true rfl, Nat.le_of_ble_eq_true rfl⟩ dL_law_663 (fun u H locs hp w => ?_)
  have w : Wd D A s.heap [(m0, .inr (12, [.ref m1, .ref m2, .ref m3, .ref m4, .ref m5, .int 0, .ref m6, .int 0, .int 0, .int 0, .int 0, .int 0, .int 0, .int 0, .int 0, .int 0, .int 0, .int (-1), .ref m7, .ref m8, .int 0, .ref m9, .int 0, .ref m10, .ref m11, .ref m12, .ref m13, .ref m14, .int 0, .ref m15, .ref m16, .ref m17])), (m1, .inl (cy 1, 1868, .inl (upd (upd (upd (fun _ => 0) 1 2) 2 20) 3 120)))] _ _ := w.pick [0, 1] rfl rfl
  refine r_top (g2 := F0 m 666 ls [.int 1]) rfl ?_
  refine lv_istore (lv' := [(5, .int 1), (0, .ref b), (1, .ref q0), (2, .ref m0), (3, .ref o0), (4, .int 0)]) C.1 C.2.1 dL_law_666 hl (by decide) rfl (fun ls hl => ?_)
  refine lv_aload_n C.1 C.2.1 dL_law_668 rfl (lv_at hl 3 rfl) ?_
  refine lv_aload_n C.1 C.2.1 dL_law_669 rfl (lv_at hl 1 rfl) ?_
  refine lv_iload C.1 C.2.1 dL_law_670 (lv_at hl 5 rfl) ?_
  refine lv_iconst (v := 1) C.1 C.2.1 dL_law_672 (by decide) ?_
  refine r_iadd C (v := 1) dL_law_673 (by decide) ?_
  refine r_sld C w hX hbl hbA (v := y1) (vinD (by decide)) sx1 dL_law_674 ?_
  refine r_callV C w fv_RL_161 (c_X12_left_1 l D cy m0 m1 m2 m3 m4 m5 m6 m7 m8 m9 m10 m11 m12 m13 m14 m15 m16 m17 y1 k0 (by have h0 := (i_nlt k0); have h1 := (i_nle k1); have e0 : (0 : Int32).toInt = 0 := (by decide); rw [fa_lt]; omega)) (hl.1.trans hml.symm) [0, 1] [] (wr := []) ⟨rfl, rfl, rfl, rfl, by decide⟩ 0 rfl rfl rfl rfl rfl ⟨Nat.le_of_ble_eq_true rfl, Nat.le_of_ble_eq_true rfl, Nat.le_of_ble_eq_true rfl⟩ 38 29851 ⟨rfl, rfl, Nat.le_of_ble_eq_true rfl, Nat.le_of_ble_eq_true rfl⟩ dL_law_675 (fun u H locs hp w => ?_)
  have w : Wd D A s.heap [(m0, .inr (12, [.ref m1, .ref m2, .ref m3, .ref m4, .ref m5, .int 1, .ref m6, .int 0, .int 0, .int 0, .int 0, .int 0, .int 0, .int 0, .int 0, .int 0, .int 0, .int (-1), .ref m7, .ref m8, .int 0, .ref m9, .int 0, .ref m10, .ref m11, .ref m12, .ref m13, .ref m14, .int 0, .ref m15, .ref m16, .ref m17]))] _ _ := w.pick [1] rfl rfl
  refine r_top (g2 := F0 m 678 ls [.int 0]) rfl ?_
  refine lv_istore (lv' := [(6, .int 0), (5, .int 1), (0, .ref b), (1, .ref q0), (2, .ref m0), (3, .ref o0), (4, .int 0)]) C.1 C.2.1 dL_law_678 hl (by decide) rfl (fun ls hl => ?_)
  refine lv_aload_n C.1 C.2.1 dL_law_680 rfl (lv_at hl 4 rfl) ?_
  refine r_callV C w fv_RL_134 (c_X12_thrown_0 l D cy m0 m1 m2 m3 m4 m5 m6 m7 m8 m9 m10 m11 m12 m13 m14 m15 m16 m17) (hl.1.trans hml.symm) [0] [] (wr := []) ⟨rfl, rfl, rfl, rfl, by decide⟩ 0 rfl rfl rfl rfl rfl ⟨Nat.le_of_ble_eq_true rfl, Nat.le_of_ble_eq_true rfl, Nat.le_of_ble_eq_true rfl⟩ 38 29851 ⟨rfl, rfl, Nat.le_of_ble_eq_true rfl, Nat.le_of_ble_eq_true rfl⟩ dL_law_681 (fun u H locs hp w => ?_)
  have w : Wd D A s.heap [(m0, .inr (12, [.ref m1, .ref m2, .ref m3, .ref m4, .ref m5, .int 1, .ref m6, .int 0, .int 0, .int 0, .int 0, .int 0, .int 0, .int 0, .int 0, .int 0, .int 0, .int (-1), .ref m7, .ref m8, .int 0, .ref m9, .int 0, .ref m10, .ref m11, .ref m12, .ref m13, .ref m14, .int 0, .ref m15, .ref m16, .ref m17]))] _ _ := w.pick [0] rfl rfl
  refine r_top (g2 := F0 m 684 ls [.int 1]) rfl ?_
  refine lv_iload C.1 C.2.1 dL_law_684 (lv_at hl 1 rfl) ?_
  refine b_icmp_eq_t C (tgt := 691) dL_law_686 (by decide) (by decide) ?_
  refine lv_iload C.1 C.2.1 dL_law_691 (lv_at hl 1 rfl) ?_
  refine b_if_ne_t C (tgt := 708) dL_law_693 (by decide) (by decide) ?_
  refine lv_goto (tgt := 2461) C.1 C.2.1 dL_law_708 (by decide) ?_
  refine W.widen (k := 600002) (n := 7302232) (Nat.le_of_ble_eq_true rfl) (Nat.le_of_ble_eq_true rfl) ?_
  exact kk _ _ _ w.2.2 (lv_sub hl [2, 6] rfl)
set_option maxRecDepth 100000 in
set_option maxHeartbeats 4000000 in
theorem c_X12_thrown_5 (l : Launch) (D : va_G) (cy : Nat → ClassId) (a0 a1 a2 a3 a4 a5 a6 a7 a8 a9 a10 a11 a12 a13 a14 a15 a16 a17 : Nat) : Ct l D cy yX12_thrown cX12_thrown 1 (some .int) 0 0 0 0 [(a0, .inr (12, [.ref a1, .ref a2, .ref a3, .ref a4, .ref a5, .int 0, .ref a6, .int 0, .int 0, .int 0, .int 0, .int 0, .int 0, .int 0, .int 0, .int 0, .int 0, .int (-1), .ref a7, .ref a8, .int 190, .ref a9, .int 21, .ref a10, .ref a11, .ref a12, .ref a13, .ref a14, .int 0, .ref a15, .ref a16, .ref a17]))] [.ref a0] (fun u : Unit => some (.int 0)) (fun _ => True) (fun u : Unit => [(a0, .inr (12, [.ref a1, .ref a2, .ref a3, .ref a4, .ref a5, .int 0, .ref a6, .int 0, .int 0, .int 0, .int 0, .int 0, .int 0, .int 0, .int 0, .int 0, .int 0, .int (-1), .ref a7, .ref a8, .int 190, .ref a9, .int 21, .ref a10, .ref a11, .ref a12, .ref a13, .ref a14, .int 0, .ref a15, .ref a16, .ref a17]))]) := by
  refine Ct.of (by decide +kernel) (Nat.le_of_ble_eq_true rfl) ?_
  intro p e s m args below meth c A ls C hr hlocks hml hnm w hl
  have hl : lv_has ls 1 [(0, .ref a0)] := hl
  refine lv_aload_n C.1 C.2.1 dX12_thrown_0 rfl (lv_at hl 0 rfl) ?_
  refine r_get C w 0 rfl rfl 5 (by decide) fl_RX12_71 (v := .int 0) rfl dX12_thrown_1 ?_
  exact r_iret C w hlocks () hr rfl rfl trivial [0] rfl rfl ⟨Nat.le_of_ble_eq_true rfl, Nat.le_of_ble_eq_true rfl⟩ dX12_thrown_4
theorem dL_law_696 : decode cL_law 696 = .ok (.aload_n 3, 1) := by decide +kernel
theorem dL_law_697 : decode cL_law 697 = .ok (.iconst 0, 1) := by decide +kernel
theorem dL_law_698 : decode cL_law 698 = .ok (.laload, 1) := by decide +kernel
theorem dL_law_699 : decode cL_law 699 = .ok (.iload 6, 2) := by decide +kernel
theorem dL_law_701 : decode cL_law 701 = .ok (.i2l, 1) := by decide +kernel
theorem dL_law_702 : decode cL_law 702 = .ok (.lcmp, 1) := by decide +kernel
theorem dL_law_703 : decode cL_law 703 = .ok (.ifCond .eq 5, 3) := by decide +kernel
set_option maxRecDepth 100000 in
set_option maxHeartbeats 4000000 in
theorem s_L_8_2 {p : Program} {l : Launch} {e : Env} {s : State} {m : MethodId} {args : Array Value} {below : List Frame} {meth : Method} {c : Code} {Q : State → Prop} {D : va_G} {cy : Nat → ClassId} {A : Nat → Prop} {H : Heap} {locs : List Loc} {ls : Array Slot} {xs : Nat → Int32} (b q0 q1 q2 q4 q5 q6 q10 q11 q12 q13 q14 q15 q16 q17 m0 m1 m2 m3 m4 m5 m6 m7 m8 m9 m10 m11 m12 m13 m14 m15 m16 m17 o0 : Nat) (sx1 : xs 1 = 0) (C : Cx p s m args c cL_law RL D cy A) (hml : c.maxLocals = 8) (hX : va_X b 6 xs s s.heap) (hbl : b < s.heap.size) (hbA : ¬ A b) (w : Wd D A s.heap [(q0, .inr (11, [.ref q1, .int 0, .int 0, .int (-1), .ref q2, .ref q4, .ref q5, .ref q6, .ref q10, .null])), (q10, .inr (9, [.int 0, .int 2, .int 20, .int 120, .int 0, .int 0, .int 0, .int 0, .ref q11, .int 0, .ref q12, .ref q13, .int 0, .ref q14, .ref q15, .ref q16, .ref q17])), (m0, .inr (12, [.ref m1, .ref m2, .ref m3, .ref m4, .ref m5, .int 0, .ref m6, .int 0, .int 0, .int 0, .int 0, .int 0, .int 0, .int 0, .int 0, .int 0, .int 0, .int (-1), .ref m7, .ref m8, .int 0, .ref m9, .int 0, .ref m10, .ref m11, .ref m12, .ref m13, .ref m14, .int 0, .ref m15, .ref m16, .ref m17])), (m7, .inl (cy 1, 1830, .inl (fun _ => 0))), (m8, .inl (cy 1, 1830, .inl (fun _ => 0))), (m9, .inl (cy 2, 2465, .inr (.inl (fun _ => 0)))), (m1, .inl (cy 1, 1868, .inl (upd (upd (upd (fun _ => 0) 1 2) 2 20) 3 120))), (o0, .inl (cy 2, 1, .inr (.inl (fun _ => 0))))] H locs) (hl : lv_has ls 8 [(0, .ref b), (1, .ref q0), (2, .ref m0), (3, .ref o0), (4, .int 0)]) (kk : ∀ (H : Heap) (locs : List Loc) (ls : Array Slot), va_S A s.heap H locs → lv_has ls 8 [(0, .ref b), (4, .int 0)] → W p l e room_1 s m args below meth c H locs 600002 7302232 Q (F0 m 2461 ls [])) : W p l e room_1 s m args below meth c H locs 37 29845 Q (F0 m 655 ls []) := by
  refine lv_aload_n C.1 C.2.1 dL_law_655 rfl (lv_at hl 1 rfl) ?_
  refine lv_aload_n C.1 C.2.1 dL_law_656 rfl (lv_at hl 0 rfl) ?_
  refine lv_iload C.1 C.2.1 dL_law_657 (lv_at hl 4 rfl) ?_
  refine lv_iconst (v := 1) C.1 C.2.1 dL_law_659 (by decide) ?_
  refine r_iadd C (v := 1) dL_law_660 (by decide) ?_
  refine r_sld C w hX hbl hbA (v := 0) (vinD (by decide)) sx1 dL_law_661 ?_
  refine lv_aload_n C.1 C.2.1 dL_law_662 rfl (lv_at hl 3 rfl) ?_
  refine r_callH C w fh_RL_159 (c_L_left_2 l D cy q0 o0 q1 q2 q4 q5 q6 q10 q11 q12 q13 q14 q15 q16 q17) (hl.1.trans hml.symm) [0, 1, 7] [2, 3, 4, 5, 6] (wr := [(m0, .inr (12, [.ref m1, .ref m2, .ref m3, .ref m4, .ref m5, .int 0, .ref m6, .int 0, .int 0, .int 0, .int 0, .int 0, .int 0, .int 0, .int 0, .int 0, .int 0, .int (-1), .ref m7, .ref m8, .int 0, .ref m9, .int 0, .ref m10, .ref m11, .ref m12, .ref m13, .ref m14, .int 0, .ref m15, .ref m16, .ref m17])), (m7, .inl (cy 1, 1830, .inl (fun _ => 0))), (m8, .inl (cy 1, 1830, .inl (fun _ => 0))), (m9, .inl (cy 2, 2465, .inr (.inl (fun _ => 0)))), (m1, .inl (cy 1, 1868, .inl (upd (upd (upd (fun _ => 0) 1 2) 2 20) 3 120)))]) ⟨rfl, rfl, rfl, rfl, by decide⟩ rfl rfl ⟨Nat.le_of_ble_eq_true rfl, Nat.le_of_ble_eq_true rfl, Nat.le_of_ble_eq_true rfl⟩ 73 53662 ⟨rfl, rfl, Nat.le_of_ble_eq_true rfl, Nat.le_of_ble_eq_true rfl⟩ dL_law_663 (fun u H locs hp w => ?_)
  obtain ⟨n1, n2, n3, n4, n5, n6, n7, n8, n9, n10, n11, n12, n13, n14, n15, n16, n17, n18, n19, n20, n21, n22, n23, n24, n25, n26, n27, n28, n29, n30, n31, n32, n33, n34, n35, n36⟩ := u
  have w : Wd D A s.heap [(m0, .inr (12, [.ref m1, .ref m2, .ref m3, .ref m4, .ref m5, .int 0, .ref m6, .int 0, .int 0, .int 0, .int 0, .int 0, .int 0, .int 0, .int 0, .int 0, .int 0, .int (-1), .ref m7, .ref m8, .int 0, .ref m9, .int 0, .ref m10, .ref m11, .ref m12, .ref m13, .ref m14, .int 0, .ref m15, .ref m16, .ref m17])), (m7, .inl (cy 1, 1830, .inl (fun _ => 0))), (m8, .inl (cy 1, 1830, .inl (fun _ => 0))), (m9, .inl (cy 2, 2465, .inr (.inl (fun _ => 0)))), (m1, .inl (cy 1, 1868, .inl (upd (upd (upd (fun _ => 0) 1 2) 2 20) 3 120))), (o0, .inl (cy 2, 1, .inr (.inl (vp_updL (fun _ => 0) 0 190))))] _ _ := w.pick [0, 1, 2, 3, 4, 5] rfl rfl
  refine r_top (g2 := F0 m 666 ls [.int 0]) rfl ?_
  refine lv_istore (lv' := [(5, .int 0), (0, .ref b), (1, .ref q0), (2, .ref m0), (3, .ref o0), (4, .int 0)]) C.1 C.2.1 dL_law_666 hl (by decide) rfl (fun ls hl => ?_)
  refine lv_aload_n C.1 C.2.1 dL_law_668 rfl (lv_at hl 3 rfl) ?_
  refine lv_aload_n C.1 C.2.1 dL_law_669 rfl (lv_at hl 1 rfl) ?_
  refine lv_iload C.1 C.2.1 dL_law_670 (lv_at hl 5 rfl) ?_
  refine lv_iconst (v := 1) C.1 C.2.1 dL_law_672 (by decide) ?_
  refine r_iadd C (v := 1) dL_law_673 (by decide) ?_
  refine r_sld C w hX hbl hbA (v := 0) (vinD (by decide)) sx1 dL_law_674 ?_
  refine r_callV C w fv_RL_161 (c_X12_left_2 l D cy m0 m1 m2 m3 m4 m5 m6 m7 m8 m9 m10 m11 m12 m13 m14 m15 m16 m17) (hl.1.trans hml.symm) [0, 4, 1, 2, 3] [5] (wr := [(o0, .inl (cy 2, 1, .inr (.inl (vp_updL (fun _ => 0) 0 190))))]) ⟨rfl, rfl, rfl, rfl, by decide⟩ 0 rfl rfl rfl rfl rfl ⟨Nat.le_of_ble_eq_true rfl, Nat.le_of_ble_eq_true rfl, Nat.le_of_ble_eq_true rfl⟩ 73 53662 ⟨rfl, rfl, Nat.le_of_ble_eq_true rfl, Nat.le_of_ble_eq_true rfl⟩ dL_law_675 (fun u H locs hp w => ?_)
  have w : Wd D A s.heap [(o0, .inl (cy 2, 1, .inr (.inl (vp_updL (fun _ => 0) 0 190)))), (m0, .inr (12, [.ref m1, .ref m2, .ref m3, .ref m4, .ref m5, .int 0, .ref m6, .int 0, .int 0, .int 0, .int 0, .int 0, .int 0, .int 0, .int 0, .int 0, .int 0, .int (-1), .ref m7, .ref m8, .int 190, .ref m9, .int 21, .ref m10, .ref m11, .ref m12, .ref m13, .ref m14, .int 0, .ref m15, .ref m16, .ref m17]))] _ _ := w.pick [0, 4] rfl rfl
  refine r_top (g2 := F0 m 678 ls [.int 190]) rfl ?_
  refine lv_istore (lv' := [(6, .int 190), (5, .int 0), (0, .ref b), (1, .ref q0), (2, .ref m0), (3, .ref o0), (4, .int 0)]) C.1 C.2.1 dL_law_678 hl (by decide) rfl (fun ls hl => ?_)
  refine lv_aload_n C.1 C.2.1 dL_law_680 rfl (lv_at hl 4 rfl) ?_
  refine r_callV C w fv_RL_134 (c_X12_thrown_5 l D cy m0 m1 m2 m3 m4 m5 m6 m7 m8 m9 m10 m11 m12 m13 m14 m15 m16 m17) (hl.1.trans hml.symm) [1] [0] (wr := [(o0, .inl (cy 2, 1, .inr (.inl (vp_updL (fun _ => 0) 0 190))))]) ⟨rfl, rfl, rfl, rfl, by decide⟩ 0 rfl rfl rfl rfl rfl ⟨Nat.le_of_ble_eq_true rfl, Nat.le_of_ble_eq_true rfl, Nat.le_of_ble_eq_true rfl⟩ 73 53662 ⟨rfl, rfl, Nat.le_of_ble_eq_true rfl, Nat.le_of_ble_eq_true rfl⟩ dL_law_681 (fun u H locs hp w => ?_)
  have w : Wd D A s.heap [(o0, .inl (cy 2, 1, .inr (.inl (vp_updL (fun _ => 0) 0 190)))), (m0, .inr (12, [.ref m1, .ref m2, .ref m3, .ref m4, .ref m5, .int 0, .ref m6, .int 0, .int 0, .int 0, .int 0, .int 0, .int 0, .int 0, .int 0, .int 0, .int 0, .int (-1), .ref m7, .ref m8, .int 190, .ref m9, .int 21, .ref m10, .ref m11, .ref m12, .ref m13, .ref m14, .int 0, .ref m15, .ref m16, .ref m17]))] _ _ := w.pick [0, 1] rfl rfl
  refine r_top (g2 := F0 m 684 ls [.int 0]) rfl ?_
  refine lv_iload C.1 C.2.1 dL_law_684 (lv_at hl 1 rfl) ?_
  refine b_icmp_eq_t C (tgt := 691) dL_law_686 (by decide) (by decide) ?_
  refine lv_iload C.1 C.2.1 dL_law_691 (lv_at hl 1 rfl) ?_
  refine b_if_ne_f C (tgt := 708) dL_law_693 (by decide) (by decide) ?_
  refine lv_aload_n C.1 C.2.1 dL_law_696 rfl (lv_at hl 5 rfl) ?_
  refine lv_iconst (v := 0) C.1 C.2.1 dL_law_697 (by decide) ?_
  refine r_lald C w 0 rfl (v := 190) (vinD (by decide)) rfl dL_law_698 ?_
  refine lv_iload C.1 C.2.1 dL_law_699 (lv_at hl 0 rfl) ?_
  refine lv_i2l (v := 190) C.1 C.2.1 dL_law_701 (by decide) ?_
  refine r_lcmp C (v := 0) dL_law_702 (by decide) ?_
  refine b_if_eq_t C (tgt := 708) dL_law_703 (by decide) (by decide) ?_
  refine lv_goto (tgt := 2461) C.1 C.2.1 dL_law_708 (by decide) ?_
  refine W.widen (k := 600002) (n := 7302232) (Nat.le_of_ble_eq_true rfl) (Nat.le_of_ble_eq_true rfl) ?_
  exact kk _ _ _ w.2.2 (lv_sub hl [2, 6] rfl)
set_option maxRecDepth 100000 in
set_option maxHeartbeats 4000000 in
theorem t_L_8 {p : Program} {l : Launch} {e : Env} {s : State} {m : MethodId} {args : Array Value} {below : List Frame} {meth : Method} {c : Code} {Q : State → Prop} {D : va_G} {cy : Nat → ClassId} {A : Nat → Prop} {H : Heap} {locs : List Loc} {ls : Array Slot} {xs : Nat → Int32} (b q0 q1 q2 q4 q5 q6 q10 q3 q7 q8 q9 q11 q12 q13 q14 q15 q16 q17 m0 m1 m2 m3 m4 m5 m6 m7 m8 m9 m10 m11 m12 m13 m14 m15 m16 m17 o0 : Nat) (hst : l.stackTraces = false) (C : Cx p s m args c cL_law RL D cy A) (hml : c.maxLocals = 8) (hX : va_X b 6 xs s s.heap) (hbl : b < s.heap.size) (hbA : ¬ A b) (w : Wd D A s.heap [(q0, .inr (11, [.ref q1, .int 0, .int 0, .int (-1), .ref q2, .ref q4, .ref q5, .ref q6, .ref q10, .null])), (q1, .inl (cy 0, 900, .inl (fun _ => 0))), (q2, .inr (5, [.ref q3, .int 0, .int 0, .int 0, .int 0, .int 0, .int 0, .null])), (q3, .inl (cy 0, 0, .inl (fun _ => 0))), (q4, .inl (cy 4, 5, .inr (.inr (.inr (.inr (va_up (fun _ => none) 0 (some q10))))))), (q5, .inl (cy 4, 3, .inr (.inr (.inr (.inr (fun _ => none)))))), (q6, .inr (10, [.ref q7, .ref q8, .ref q9])), (q7, .inl (cy 1, 4, .inl (upd (upd (upd (upd (fun _ => 0) 0 (-1)) 1 (-1)) 2 (-1)) 3 (-1)))), (q8, .inl (cy 1, 4, .inl (fun _ => 0))), (q9, .inl (cy 2, 160, .inr (.inl (fun _ => 0)))), (q10, .inr (9, [.int 0, .int 2, .int 20, .int 120, .int 0, .int 0, .int 0, .int 0, .ref q11, .int 0, .ref q12, .ref q13, .int 0, .ref q14, .ref q15, .ref q16, .ref q17])), (q11, .inl (cy 1, 6, .inl (fun _ => 0))), (q12, .inl (cy 1, 20, .inl (fun _ => 0))), (q13, .inl (cy 1, 20, .inl (fun _ => 0))), (q14, .inl (cy 1, 300, .inl (fun _ => 0))), (q15, .inl (cy 1, 300, .inl (fun _ => 0))), (q16, .inl (cy 1, 300, .inl (fun _ => 0))), (q17, .inl (cy 1, 300, .inl (fun _ => 0))), (m0, .inr (12, [.ref m1, .ref m2, .ref m3, .ref m4, .ref m5, .int 0, .ref m6, .int 0, .int 0, .int 0, .int 0, .int 0, .int 0, .int 0, .int 0, .int 0, .int 0, .int (-1), .ref m7, .ref m8, .int 0, .ref m9, .int 0, .ref m10, .ref m11, .ref m12, .ref m13, .ref m14, .int 0, .ref m15, .ref m16, .ref m17])), (m2, .inl (cy 1, 1868, .inl (fun _ => 0))), (m3, .inl (cy 1, 1868, .inl (fun _ => 0))), (m4, .inl (cy 1, 5604, .inl (fun _ => 0))), (m5, .inl (cy 3, 3, .inl (fun _ => 0))), (m6, .inl (cy 1, 900, .inl (fun _ => 0))), (m7, .inl (cy 1, 1830, .inl (fun _ => 0))), (m8, .inl (cy 1, 1830, .inl (fun _ => 0))), (m9, .inl (cy 2, 2465, .inr (.inl (fun _ => 0)))), (m10, .inl (cy 1, 7201, .inl (fun _ => 0))), (m11, .inl (cy 1, 1830, .inl (fun _ => 0))), (m12, .inl (cy 1, 5, .inl (fun _ => 0))), (m13, .inl (cy 1, 6, .inl (fun _ => 0))), (m14, .inl (cy 1, 6, .inl (fun _ => 0))), (m15, .inl (cy 1, 4, .inl (upd (upd (upd (upd (fun _ => 0) 0 (-1)) 1 (-1)) 2 (-1)) 3 (-1)))), (m16, .inl (cy 1, 4, .inl (fun _ => 0))), (m17, .inl (cy 2, 160, .inr (.inl (fun _ => 0)))), (m1, .inl (cy 1, 1868, .inl (upd (upd (upd (fun _ => 0) 1 2) 2 20) 3 120))), (o0, .inl (cy 2, 1, .inr (.inl (fun _ => 0))))] H locs) (hl : lv_has ls 8 [(0, .ref b), (1, .ref q0), (2, .ref m0), (3, .ref o0), (4, .int 0)]) (kk : ∀ (H : Heap) (locs : List Loc) (ls : Array Slot), va_S A s.heap H locs → lv_has ls 8 [(0, .ref b), (4, .int 0)] → W p l e room_1 s m args below meth c H locs 600002 7302232 Q (F0 m 2461 ls [])) : W p l e room_1 s m args below meth c H locs 37 29845 Q (F0 m 655 ls []) := by
  obtain ⟨y1, sx1⟩ : ∃ y, xs 1 = y := ⟨_, rfl⟩
  obtain ⟨y2, sx2⟩ : ∃ y, xs 2 = y := ⟨_, rfl⟩
  obtain ⟨y3, sx3⟩ : ∃ y, xs 3 = y := ⟨_, rfl⟩
  obtain ⟨y4, sx4⟩ : ∃ y, xs 4 = y := ⟨_, rfl⟩
  obtain ⟨y5, sx5⟩ : ∃ y, xs 5 = y := ⟨_, rfl⟩
  by_cases g1 : y1 < 0
  · exact s_L_8_0 b q0 q1 q2 q4 q5 q6 q10 m0 m1 m2 m3 m4 m5 m6 m7 m8 m9 m10 m11 m12 m13 m14 m15 m16 m17 o0 y1 g1 sx1 hst C hml hX hbl hbA (w.pick [0, 18, 35] rfl rfl) hl kk
  · by_cases g2 : y1 ≤ 0
    · by_cases g3 : y1 = 0
      · subst g3
        exact s_L_8_2 b q0 q1 q2 q4 q5 q6 q10 q11 q12 q13 q14 q15 q16 q17 m0 m1 m2 m3 m4 m5 m6 m7 m8 m9 m10 m11 m12 m13 m14 m15 m16 m17 o0 sx1 C hml hX hbl hbA (w.pick [0, 10, 18, 24, 25, 26, 35, 36] rfl rfl) hl kk
      · exfalso
        have h0 := i_nlt g1
        have h1 := i_le g2
        have h2 := (not_congr (fa_eq _ _)).mp g3
        have e0 : (0 : Int32).toInt = 0 := (by decide)
        omega
    · exact s_L_8_1 b q0 q1 q2 q4 q5 q6 q10 q11 q12 q13 q14 q15 q16 q17 m0 m1 m2 m3 m4 m5 m6 m7 m8 m9 m10 m11 m12 m13 m14 m15 m16 m17 o0 y1 g1 g2 sx1 hst C hml hX hbl hbA (w.pick [0, 10, 18, 35] rfl rfl) hl kk
