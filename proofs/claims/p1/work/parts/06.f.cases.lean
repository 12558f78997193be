theorem dL_law_2197 : decode cL_law 2197 = .ok (.aload_n 1, 1) := by decide +kernel
theorem dL_law_2198 : decode cL_law 2198 = .ok (.aload_n 0, 1) := by decide +kernel
theorem dL_law_2199 : decode cL_law 2199 = .ok (.iload 4, 2) := by decide +kernel
theorem dL_law_2201 : decode cL_law 2201 = .ok (.iconst 1, 1) := by decide +kernel
theorem dL_law_2202 : decode cL_law 2202 = .ok (.iadd, 1) := by decide +kernel
theorem dL_law_2203 : decode cL_law 2203 = .ok (.iaload, 1) := by decide +kernel
theorem dL_law_2204 : decode cL_law 2204 = .ok (.aload_n 0, 1) := by decide +kernel
theorem dL_law_2205 : decode cL_law 2205 = .ok (.iload 4, 2) := by decide +kernel
theorem dL_law_2207 : decode cL_law 2207 = .ok (.iconst 2, 1) := by decide +kernel
theorem dL_law_2208 : decode cL_law 2208 = .ok (.iadd, 1) := by decide +kernel
theorem dL_law_2209 : decode cL_law 2209 = .ok (.iaload, 1) := by decide +kernel
theorem dL_law_2210 : decode cL_law 2210 = .ok (.aload_n 0, 1) := by decide +kernel
theorem dL_law_2211 : decode cL_law 2211 = .ok (.iload 4, 2) := by decide +kernel
theorem dL_law_2213 : decode cL_law 2213 = .ok (.iconst 3, 1) := by decide +kernel
theorem dL_law_2214 : decode cL_law 2214 = .ok (.iadd, 1) := by decide +kernel
theorem dL_law_2215 : decode cL_law 2215 = .ok (.iaload, 1) := by decide +kernel
theorem dL_law_2216 : decode cL_law 2216 = .ok (.i2l, 1) := by decide +kernel
theorem dL_law_2217 : decode cL_law 2217 = .ok (.bipush 32, 2) := by decide +kernel
theorem dL_law_2219 : decode cL_law 2219 = .ok (.lshl, 1) := by decide +kernel
theorem dL_law_2220 : decode cL_law 2220 = .ok (.aload_n 0, 1) := by decide +kernel
theorem dL_law_2221 : decode cL_law 2221 = .ok (.iload 4, 2) := by decide +kernel
theorem dL_law_2223 : decode cL_law 2223 = .ok (.iconst 4, 1) := by decide +kernel
theorem dL_law_2224 : decode cL_law 2224 = .ok (.iadd, 1) := by decide +kernel
theorem dL_law_2225 : decode cL_law 2225 = .ok (.iaload, 1) := by decide +kernel
theorem dL_law_2226 : decode cL_law 2226 = .ok (.i2l, 1) := by decide +kernel
theorem kl_RL_236 : Cond.constantLong RL 236 4294967295 ∈ gw := gw_mem (by decide +kernel) (by decide +kernel)
theorem dL_law_2227 : decode cL_law 2227 = .ok (.ldc2_w 236, 3) := by decide +kernel
theorem dL_law_2230 : decode cL_law 2230 = .ok (.land, 1) := by decide +kernel
theorem dL_law_2231 : decode cL_law 2231 = .ok (.lor, 1) := by decide +kernel
theorem dL_law_2232 : decode cL_law 2232 = .ok (.aload_n 3, 1) := by decide +kernel
theorem dL_law_2233 : decode cL_law 2233 = .ok (.invokestatic 238, 3) := by decide +kernel
theorem fh_RL_238 : FH RL 238 yL_write cL_write 7 (some .int) [(0, 11, 14, 19), (0, 11, 18, 97), (0, 11, 22, 107)] 5 := ⟨⟨gw_mem (by decide +kernel) (by decide +kernel), gw_mem (by decide +kernel) (by decide +kernel), gw_mem (by decide +kernel) (by decide +kernel), gw_mem (by decide +kernel) (by decide +kernel)⟩, ⟨by decide +kernel, by decide +kernel, by decide +kernel⟩⟩
theorem dL_law_2236 : decode cL_law 2236 = .ok (.istore 5, 2) := by decide +kernel
theorem dL_law_2238 : decode cL_law 2238 = .ok (.aload_n 2, 1) := by decide +kernel
theorem dL_law_2239 : decode cL_law 2239 = .ok (.aload_n 0, 1) := by decide +kernel
theorem dL_law_2240 : decode cL_law 2240 = .ok (.iload 4, 2) := by decide +kernel
theorem dL_law_2242 : decode cL_law 2242 = .ok (.iconst 1, 1) := by decide +kernel
theorem dL_law_2243 : decode cL_law 2243 = .ok (.iadd, 1) := by decide +kernel
theorem dL_law_2244 : decode cL_law 2244 = .ok (.iaload, 1) := by decide +kernel
theorem dL_law_2245 : decode cL_law 2245 = .ok (.aload_n 0, 1) := by decide +kernel
theorem dL_law_2246 : decode cL_law 2246 = .ok (.iload 4, 2) := by decide +kernel
theorem dL_law_2248 : decode cL_law 2248 = .ok (.iconst 2, 1) := by decide +kernel
theorem dL_law_2249 : decode cL_law 2249 = .ok (.iadd, 1) := by decide +kernel
theorem dL_law_2250 : decode cL_law 2250 = .ok (.iaload, 1) := by decide +kernel
theorem dL_law_2251 : decode cL_law 2251 = .ok (.aload_n 0, 1) := by decide +kernel
theorem dL_law_2252 : decode cL_law 2252 = .ok (.iload 4, 2) := by decide +kernel
theorem dL_law_2254 : decode cL_law 2254 = .ok (.iconst 3, 1) := by decide +kernel
theorem dL_law_2255 : decode cL_law 2255 = .ok (.iadd, 1) := by decide +kernel
theorem dL_law_2256 : decode cL_law 2256 = .ok (.iaload, 1) := by decide +kernel
theorem dL_law_2257 : decode cL_law 2257 = .ok (.i2l, 1) := by decide +kernel
theorem dL_law_2258 : decode cL_law 2258 = .ok (.bipush 32, 2) := by decide +kernel
theorem dL_law_2260 : decode cL_law 2260 = .ok (.lshl, 1) := by decide +kernel
theorem dL_law_2261 : decode cL_law 2261 = .ok (.aload_n 0, 1) := by decide +kernel
theorem dL_law_2262 : decode cL_law 2262 = .ok (.iload 4, 2) := by decide +kernel
theorem dL_law_2264 : decode cL_law 2264 = .ok (.iconst 4, 1) := by decide +kernel
theorem dL_law_2265 : decode cL_law 2265 = .ok (.iadd, 1) := by decide +kernel
theorem dL_law_2266 : decode cL_law 2266 = .ok (.iaload, 1) := by decide +kernel
theorem dL_law_2267 : decode cL_law 2267 = .ok (.i2l, 1) := by decide +kernel
theorem dL_law_2268 : decode cL_law 2268 = .ok (.ldc2_w 236, 3) := by decide +kernel
theorem dL_law_2271 : decode cL_law 2271 = .ok (.land, 1) := by decide +kernel
theorem dL_law_2272 : decode cL_law 2272 = .ok (.lor, 1) := by decide +kernel
theorem dL_law_2273 : decode cL_law 2273 = .ok (.invokevirtual 241, 3) := by decide +kernel
theorem fv_RL_241 : FV RL 241 yX12_write cX12_write 5 (some .long) 3 := ⟨⟨gw_mem (by decide +kernel) (by decide +kernel), gw_mem (by decide +kernel) (by decide +kernel), gw_mem (by decide +kernel) (by decide +kernel), gw_mem (by decide +kernel) (by decide +kernel), gw_mem (by decide +kernel) (by decide +kernel)⟩, ⟨by decide +kernel, by decide +kernel, by decide +kernel⟩⟩
theorem dL_law_2276 : decode cL_law 2276 = .ok (.lstore 6, 2) := by decide +kernel
theorem dL_law_2278 : decode cL_law 2278 = .ok (.aload_n 2, 1) := by decide +kernel
theorem dL_law_2279 : decode cL_law 2279 = .ok (.invokevirtual 134, 3) := by decide +kernel
theorem dL_law_2282 : decode cL_law 2282 = .ok (.iload 5, 2) := by decide +kernel
theorem dL_law_2284 : decode cL_law 2284 = .ok (.if_icmp .eq 5, 3) := by decide +kernel
theorem dL_law_2289 : decode cL_law 2289 = .ok (.iload 5, 2) := by decide +kernel
theorem dL_law_2291 : decode cL_law 2291 = .ok (.ifCond .ne 14, 3) := by decide +kernel
theorem dL_law_2305 : decode cL_law 2305 = .ok (.goto 156, 3) := by decide +kernel
set_option maxRecDepth 100000 in
set_option maxHeartbeats 4000000 in
theorem s_L_32_0 {p : Program} {l : Launch} {e : Env} {s : State} {m : MethodId} {args : Array Value} {below : List Frame} {meth : Method} {c : Code} {Q : State → Prop} {D : va_G} {cy : Nat → ClassId} {A : Nat → Prop} {H : Heap} {locs : List Loc} {ls : Array Slot} {xs : Nat → Int32} (b q0 q1 q2 q4 q5 q6 q10 m0 m1 m2 m3 m4 m5 m6 m7 m8 m9 m10 m11 m12 m13 m14 m15 m16 m17 o0 : Nat) (y1 : Int32) (y2 : Int32) (y3 : Int32) (y4 : Int32) (k0 : y1 < 0) (sx1 : xs 1 = y1) (sx2 : xs 2 = y2) (sx3 : xs 3 = y3) (sx4 : xs 4 = y4) (hst : l.stackTraces = false) (C : Cx p s m args c cL_law RL D cy A) (hml : c.maxLocals = 8) (hX : va_X b 6 xs s s.heap) (hbl : b < s.heap.size) (hbA : ¬ A b) (w : Wd D A s.heap [(q0, .inr (11, [.ref q1, .int 0, .int 0, .int (-1), .ref q2, .ref q4, .ref q5, .ref q6, .ref q10, .null])), (m0, .inr (12, [.ref m1, .ref m2, .ref m3, .ref m4, .ref m5, .int 0, .ref m6, .int 0, .int 0, .int 0, .int 0, .int 0, .int 0, .int 0, .int 0, .int 0, .int 0, .int (-1), .ref m7, .ref m8, .int 0, .ref m9, .int 0, .ref m10, .ref m11, .ref m12, .ref m13, .ref m14, .int 0, .ref m15, .ref m16, .ref m17]))] H locs) (hl : lv_has ls 8 [(0, .ref b), (1, .ref q0), (2, .ref m0), (3, .ref o0), (4, .int 0)]) (kk : ∀ (H : Heap) (locs : List Loc) (ls : Array Slot), va_S A s.heap H locs → lv_has ls 8 [(0, .ref b), (4, .int 0)] → W p l e room_1 s m args below meth c H locs 600002 7302232 Q (F0 m 2461 ls [])) : W p l e room_1 s m args below meth c H locs 37 29845 Q (F0 m 2197 ls []) := by
  refine lv_aload_n C.1 C.2.1 dL_law_2197 rfl (lv_at hl 1 rfl) ?_
  refine lv_aload_n C.1 C.2.1 dL_law_2198 rfl (lv_at hl 0 rfl) ?_
  refine lv_iload C.1 C.2.1 dL_law_2199 (lv_at hl 4 rfl) ?_
  refine lv_iconst (v := 1) C.1 C.2.1 dL_law_2201 (by decide) ?_
  refine r_iadd C (v := 1) dL_law_2202 (by decide) ?_
  refine r_sld C w hX hbl hbA (v := y1) (vinD (by decide)) sx1 dL_law_2203 ?_
  refine lv_aload_n C.1 C.2.1 dL_law_2204 rfl (lv_at hl 0 rfl) ?_
  refine lv_iload C.1 C.2.1 dL_law_2205 (lv_at hl 4 rfl) ?_
  refine lv_iconst (v := 2) C.1 C.2.1 dL_law_2207 (by decide) ?_
  refine r_iadd C (v := 2) dL_law_2208 (by decide) ?_
  refine r_sld C w hX hbl hbA (v := y2) (vinD (by decide)) sx2 dL_law_2209 ?_
  refine lv_aload_n C.1 C.2.1 dL_law_2210 rfl (lv_at hl 0 rfl) ?_
  refine lv_iload C.1 C.2.1 dL_law_2211 (lv_at hl 4 rfl) ?_
  refine lv_iconst (v := 3) C.1 C.2.1 dL_law_2213 (by decide) ?_
  refine r_iadd C (v := 3) dL_law_2214 (by decide) ?_
  refine r_sld C w hX hbl hbA (v := y3) (vinD (by decide)) sx3 dL_law_2215 ?_
  refine lv_i2l (v := (Int32.toInt64 y3)) C.1 C.2.1 dL_law_2216 rfl ?_
  refine lv_bipush (v := 32) C.1 C.2.1 dL_law_2217 (by decide) ?_
  refine lv_lshl (v := ((Int32.toInt64 y3) <<< (Int32.toInt64 32 &&& 63))) C.1 C.2.1 dL_law_2219 rfl ?_
  refine lv_aload_n C.1 C.2.1 dL_law_2220 rfl (lv_at hl 0 rfl) ?_
  refine lv_iload C.1 C.2.1 dL_law_2221 (lv_at hl 4 rfl) ?_
  refine lv_iconst (v := 4) C.1 C.2.1 dL_law_2223 (by decide) ?_
  refine r_iadd C (v := 4) dL_law_2224 (by decide) ?_
  refine r_sld C w hX hbl hbA (v := y4) (vinD (by decide)) sx4 dL_law_2225 ?_
  refine lv_i2l (v := (Int32.toInt64 y4)) C.1 C.2.1 dL_law_2226 rfl ?_
  refine lv_ldc2 (v := 4294967295) C.1 C.2.1 C.2.2.1 (C.2.2.2.1 _ kl_RL_236) dL_law_2227 ?_
  refine r_land C (v := ((Int32.toInt64 y4) &&& 4294967295)) dL_law_2230 rfl ?_
  refine r_lor C (v := (((Int32.toInt64 y3) <<< (Int32.toInt64 32 &&& 63)) ||| ((Int32.toInt64 y4) &&& 4294967295))) dL_law_2231 rfl ?_
  refine lv_aload_n C.1 C.2.1 dL_law_2232 rfl (lv_at hl 3 rfl) ?_
  refine r_callH C w fh_RL_238 (c_L_write_0 l D cy q0 o0 q1 q2 q4 q5 q6 q10 y1 y2 (((Int32.toInt64 y3) <<< (Int32.toInt64 32 &&& 63)) ||| ((Int32.toInt64 y4) &&& 4294967295)) k0 hst) (hl.1.trans hml.symm) [0] [1] (wr := [(m0, .inr (12, [.ref m1, .ref m2, .ref m3, .ref m4, .ref m5, .int 0, .ref m6, .int 0, .int 0, .int 0, .int 0, .int 0, .int 0, .int 0, .int 0, .int 0, .int 0, .int (-1), .ref m7, .ref m8, .int 0, .ref m9, .int 0, .ref m10, .ref m11, .ref m12, .ref m13, .ref m14, .int 0, .ref m15, .ref m16, .ref m17]))]) ⟨rfl, rfl, rfl, rfl, by decide⟩ rfl rfl ⟨Nat.le_of_ble_eq_true rfl, Nat.le_of_ble_eq_true rfl, Nat.le_of_ble_eq_true rfl⟩ 38 29851 ⟨rfl, rfl, Nat.le_of_ble_eq_true rfl, Nat.le_of_ble_eq_true rfl⟩ dL_law_2233 (fun u H locs hp w => ?_)
  have w : Wd D A s.heap [(m0, .inr (12, [.ref m1, .ref m2, .ref m3, .ref m4, .ref m5, .int 0, .ref m6, .int 0, .int 0, .int 0, .int 0, .int 0, .int 0, .int 0, .int 0, .int 0, .int 0, .int (-1), .ref m7, .ref m8, .int 0, .ref m9, .int 0, .ref m10, .ref m11, .ref m12, .ref m13, .ref m14, .int 0, .ref m15, .ref m16, .ref m17]))] _ _ := w.pick [0] rfl rfl
  refine r_top (g2 := F0 m 2236 ls [.int 1]) rfl ?_
  refine lv_istore (lv' := [(5, .int 1), (0, .ref b), (1, .ref q0), (2, .ref m0), (3, .ref o0), (4, .int 0)]) C.1 C.2.1 dL_law_2236 hl (by decide) rfl (fun ls hl => ?_)
  refine lv_aload_n C.1 C.2.1 dL_law_2238 rfl (lv_at hl 3 rfl) ?_
  refine lv_aload_n C.1 C.2.1 dL_law_2239 rfl (lv_at hl 1 rfl) ?_
  refine lv_iload C.1 C.2.1 dL_law_2240 (lv_at hl 5 rfl) ?_
  refine lv_iconst (v := 1) C.1 C.2.1 dL_law_2242 (by decide) ?_
  refine r_iadd C (v := 1) dL_law_2243 (by decide) ?_
  refine r_sld C w hX hbl hbA (v := y1) (vinD (by decide)) sx1 dL_law_2244 ?_
  refine lv_aload_n C.1 C.2.1 dL_law_2245 rfl (lv_at hl 1 rfl) ?_
  refine lv_iload C.1 C.2.1 dL_law_2246 (lv_at hl 5 rfl) ?_
  refine lv_iconst (v := 2) C.1 C.2.1 dL_law_2248 (by decide) ?_
  refine r_iadd C (v := 2) dL_law_2249 (by decide) ?_
  refine r_sld C w hX hbl hbA (v := y2) (vinD (by decide)) sx2 dL_law_2250 ?_
  refine lv_aload_n C.1 C.2.1 dL_law_2251 rfl (lv_at hl 1 rfl) ?_
  refine lv_iload C.1 C.2.1 dL_law_2252 (lv_at hl 5 rfl) ?_
  refine lv_iconst (v := 3) C.1 C.2.1 dL_law_2254 (by decide) ?_
  refine r_iadd C (v := 3) dL_law_2255 (by decide) ?_
  refine r_sld C w hX hbl hbA (v := y3) (vinD (by decide)) sx3 dL_law_2256 ?_
  refine lv_i2l (v := (Int32.toInt64 y3)) C.1 C.2.1 dL_law_2257 rfl ?_
  refine lv_bipush (v := 32) C.1 C.2.1 dL_law_2258 (by decide) ?_
  refine lv_lshl (v := ((Int32.toInt64 y3) <<< (Int32.toInt64 32 &&& 63))) C.1 C.2.1 dL_law_2260 rfl ?_
  refine lv_aload_n C.1 C.2.1 dL_law_2261 rfl (lv_at hl 1 rfl) ?_
  refine lv_iload C.1 C.2.1 dL_law_2262 (lv_at hl 5 rfl) ?_
  refine lv_iconst (v := 4) C.1 C.2.1 dL_law_2264 (by decide) ?_
  refine r_iadd C (v := 4) dL_law_2265 (by decide) ?_
  refine r_sld C w hX hbl hbA (v := y4) (vinD (by decide)) sx4 dL_law_2266 ?_
  refine lv_i2l (v := (Int32.toInt64 y4)) C.1 C.2.1 dL_law_2267 rfl ?_
  refine lv_ldc2 (v := 4294967295) C.1 C.2.1 C.2.2.1 (C.2.2.2.1 _ kl_RL_236) dL_law_2268 ?_
  refine r_land C (v := ((Int32.toInt64 y4) &&& 4294967295)) dL_law_2271 rfl ?_
  refine r_lor C (v := (((Int32.toInt64 y3) <<< (Int32.toInt64 32 &&& 63)) ||| ((Int32.toInt64 y4) &&& 4294967295))) dL_law_2272 rfl ?_
  refine r_callV C w fv_RL_241 (c_X12_write_0 l D cy m0 m1 m2 m3 m4 m5 m6 m7 m8 m9 m10 m11 m12 m13 m14 m15 m16 m17 y1 y2 (((Int32.toInt64 y3) <<< (Int32.toInt64 32 &&& 63)) ||| ((Int32.toInt64 y4) &&& 4294967295)) k0) (hl.1.trans hml.symm) [0] [] (wr := []) ⟨rfl, rfl, rfl, rfl, by decide⟩ 0 rfl rfl rfl rfl rfl ⟨Nat.le_of_ble_eq_true rfl, Nat.le_of_ble_eq_true rfl, Nat.le_of_ble_eq_true rfl⟩ 38 29851 ⟨rfl, rfl, Nat.le_of_ble_eq_true rfl, Nat.le_of_ble_eq_true rfl⟩ dL_law_2273 (fun u H locs hp w => ?_)
  have w : Wd D A s.heap [(m0, .inr (12, [.ref m1, .ref m2, .ref m3, .ref m4, .ref m5, .int 1, .ref m6, .int 0, .int 0, .int 0, .int 0, .int 0, .int 0, .int 0, .int 0, .int 0, .int 0, .int (-1), .ref m7, .ref m8, .int 0, .ref m9, .int 0, .ref m10, .ref m11, .ref m12, .ref m13, .ref m14, .int 0, .ref m15, .ref m16, .ref m17]))] _ _ := w.pick [0] rfl rfl
  refine r_top (g2 := F0 m 2276 ls [.long 0]) rfl ?_
  refine lv_lstore (lv' := [(6, .long 0), (5, .int 1), (0, .ref b), (1, .ref q0), (2, .ref m0), (3, .ref o0), (4, .int 0)]) C.1 C.2.1 dL_law_2276 hl (by decide) rfl (fun ls hl => ?_)
  refine lv_aload_n C.1 C.2.1 dL_law_2278 rfl (lv_at hl 4 rfl) ?_
  refine r_callV C w fv_RL_134 (c_X12_thrown_0 l D cy m0 m1 m2 m3 m4 m5 m6 m7 m8 m9 m10 m11 m12 m13 m14 m15 m16 m17) (hl.1.trans hml.symm) [0] [] (wr := []) ⟨rfl, rfl, rfl, rfl, by decide⟩ 0 rfl rfl rfl rfl rfl ⟨Nat.le_of_ble_eq_true rfl, Nat.le_of_ble_eq_true rfl, Nat.le_of_ble_eq_true rfl⟩ 38 29851 ⟨rfl, rfl, Nat.le_of_ble_eq_true rfl, Nat.le_of_ble_eq_true rfl⟩ dL_law_2279 (fun u H locs hp w => ?_)
  have w : Wd D A s.heap [(m0, .inr (12, [.ref m1, .ref m2, .ref m3, .ref m4, .ref m5, .int 1, .ref m6, .int 0, .int 0, .int 0, .int 0, .int 0, .int 0, .int 0, .int 0, .int 0, .int 0, .int (-1), .ref m7, .ref m8, .int 0, .ref m9, .int 0, .ref m10, .ref m11, .ref m12, .ref m13, .ref m14, .int 0, .ref m15, .ref m16, .ref m17]))] _ _ := w.pick [0] rfl rfl
  refine r_top (g2 := F0 m 2282 ls [.int 1]) rfl ?_
  refine lv_iload C.1 C.2.1 dL_law_2282 (lv_at hl 1 rfl) ?_
  refine b_icmp_eq_t C (tgt := 2289) dL_law_2284 (by decide) (by decide) ?_
  refine lv_iload C.1 C.2.1 dL_law_2289 (lv_at hl 1 rfl) ?_
  refine b_if_ne_t C (tgt := 2305) dL_law_2291 (by decide) (by decide) ?_
  refine lv_goto (tgt := 2461) C.1 C.2.1 dL_law_2305 (by decide) ?_
  refine W.widen (k := 600002) (n := 7302232) (Nat.le_of_ble_eq_true rfl) (Nat.le_of_ble_eq_true rfl) ?_
  exact kk _ _ _ w.2.2 (lv_sub hl [2, 6] rfl)
set_option maxRecDepth 100000 in
set_option maxHeartbeats 4000000 in
theorem s_L_32_1 {p : Program} {l : Launch} {e : Env} {s : State} {m : MethodId} {args : Array Value} {below : List Frame} {meth : Method} {c : Code} {Q : State → Prop} {D : va_G} {cy : Nat → ClassId} {A : Nat → Prop} {H : Heap} {locs : List Loc} {ls : Array Slot} {xs : Nat → Int32} (b q0 q1 q2 q4 q5 q6 q10 q7 q8 q9 m0 m1 m2 m3 m4 m5 m6 m7 m8 m9 m10 m11 m12 m13 m14 m15 m16 m17 o0 : Nat) (y2 : Int32) (y3 : Int32) (y4 : Int32) (sx1 : xs 1 = 1) (sx2 : xs 2 = y2) (sx3 : xs 3 = y3) (sx4 : xs 4 = y4) (hst : l.stackTraces = false) (C : Cx p s m args c cL_law RL D cy A) (hml : c.maxLocals = 8) (hX : va_X b 6 xs s s.heap) (hbl : b < s.heap.size) (hbA : ¬ A b) (w : Wd D A s.heap [(q0, .inr (11, [.ref q1, .int 0, .int 0, .int (-1), .ref q2, .ref q4, .ref q5, .ref q6, .ref q10, .null])), (q6, .inr (10, [.ref q7, .ref q8, .ref q9])), (q7, .inl (cy 1, 4, .inl (upd (upd (upd (upd (fun _ => 0) 0 (-1)) 1 (-1)) 2 (-1)) 3 (-1)))), (m0, .inr (12, [.ref m1, .ref m2, .ref m3, .ref m4, .ref m5, .int 0, .ref m6, .int 0, .int 0, .int 0, .int 0, .int 0, .int 0, .int 0, .int 0, .int 0, .int 0, .int (-1), .ref m7, .ref m8, .int 0, .ref m9, .int 0, .ref m10, .ref m11, .ref m12, .ref m13, .ref m14, .int 0, .ref m15, .ref m16, .ref m17])), (m15, .inl (cy 1, 4, .inl (upd (upd (upd (upd (fun _ => 0) 0 (-1)) 1 (-1)) 2 (-1)) 3 (-1))))] H locs) (hl : lv_has ls 8 [(0, .ref b), (1, .ref q0), (2, .ref m0), (3, .ref o0), (4, .int 0)]) (kk : ∀ (H : Heap) (locs : List Loc) (ls : Array Slot), va_S A s.heap H locs → lv_has ls 8 [(0, .ref b), (4, .int 0)] → W p l e room_1 s m args below meth c H locs 600002 7302232 Q (F0 m 2461 ls [])) : W p l e room_1 s m args below meth c H locs 37 29845 Q (F0 m 2197 ls []) := by
  refine lv_aload_n C.1 C.2.1 dL_law_2197 rfl (lv_at hl 1 rfl) ?_
  refine lv_aload_n C.1 C.2.1 dL_law_2198 rfl (lv_at hl 0 rfl) ?_
  refine lv_iload C.1 C.2.1 dL_law_2199 (lv_at hl 4 rfl) ?_
  refine lv_iconst (v := 1) C.1 C.2.1 dL_law_2201 (by decide) ?_
  refine r_iadd C (v := 1) dL_law_2202 (by decide) ?_
  refine r_sld C w hX hbl hbA (v := 1) (vinD (by decide)) sx1 dL_law_2203 ?_
  refine lv_aload_n C.1 C.2.1 dL_law_2204 rfl (lv_at hl 0 rfl) ?_
  refine lv_iload C.1 C.2.1 dL_law_2205 (lv_at hl 4 rfl) ?_
  refine lv_iconst (v := 2) C.1 C.2.1 dL_law_2207 (by decide) ?_
  refine r_iadd C (v := 2) dL_law_2208 (by decide) ?_
  refine r_sld C w hX hbl hbA (v := y2) (vinD (by decide)) sx2 dL_law_2209 ?_
  refine lv_aload_n C.1 C.2.1 dL_law_2210 rfl (lv_at hl 0 rfl) ?_
  refine lv_iload C.1 C.2.1 dL_law_2211 (lv_at hl 4 rfl) ?_
  refine lv_iconst (v := 3) C.1 C.2.1 dL_law_2213 (by decide) ?_
  refine r_iadd C (v := 3) dL_law_2214 (by decide) ?_
  refine r_sld C w hX hbl hbA (v := y3) (vinD (by decide)) sx3 dL_law_2215 ?_
  refine lv_i2l (v := (Int32.toInt64 y3)) C.1 C.2.1 dL_law_2216 rfl ?_
  refine lv_bipush (v := 32) C.1 C.2.1 dL_law_2217 (by decide) ?_
  refine lv_lshl (v := ((Int32.toInt64 y3) <<< (Int32.toInt64 32 &&& 63))) C.1 C.2.1 dL_law_2219 rfl ?_
  refine lv_aload_n C.1 C.2.1 dL_law_2220 rfl (lv_at hl 0 rfl) ?_
  refine lv_iload C.1 C.2.1 dL_law_2221 (lv_at hl 4 rfl) ?_
  refine lv_iconst (v := 4) C.1 C.2.1 dL_law_2223 (by decide) ?_
  refine r_iadd C (v := 4) dL_law_2224 (by decide) ?_
  refine r_sld C w hX hbl hbA (v := y4) (vinD (by decide)) sx4 dL_law_2225 ?_
  refine lv_i2l (v := (Int32.toInt64 y4)) C.1 C.2.1 dL_law_2226 rfl ?_
  refine lv_ldc2 (v := 4294967295) C.1 C.2.1 C.2.2.1 (C.2.2.2.1 _ kl_RL_236) dL_law_2227 ?_
  refine r_land C (v := ((Int32.toInt64 y4) &&& 4294967295)) dL_law_2230 rfl ?_
  refine r_lor C (v := (((Int32.toInt64 y3) <<< (Int32.toInt64 32 &&& 63)) ||| ((Int32.toInt64 y4) &&& 4294967295))) dL_law_2231 rfl ?_
  refine lv_aload_n C.1 C.2.1 dL_law_2232 rfl (lv_at hl 3 rfl) ?_
  refine r_callH C w fh_RL_238 (c_L_write_1 l D cy q0 o0 q1 q2 q4 q5 q6 q10 q7 q8 q9 y2 (((Int32.toInt64 y3) <<< (Int32.toInt64 32 &&& 63)) ||| ((Int32.toInt64 y4) &&& 4294967295)) hst) (hl.1.trans hml.symm) [0, 1, 2] [3, 4] (wr := [(m0, .inr (12, [.ref m1, .ref m2, .ref m3, .ref m4, .ref m5, .int 0, .ref m6, .int 0, .int 0, .int 0, .int 0, .int 0, .int 0, .int 0, .int 0, .int 0, .int 0, .int (-1), .ref m7, .ref m8, .int 0, .ref m9, .int 0, .ref m10, .ref m11, .ref m12, .ref m13, .ref m14, .int 0, .ref m15, .ref m16, .ref m17])), (m15, .inl (cy 1, 4, .inl (upd (upd (upd (upd (fun _ => 0) 0 (-1)) 1 (-1)) 2 (-1)) 3 (-1))))]) ⟨rfl, rfl, rfl, rfl, by decide⟩ rfl rfl ⟨Nat.le_of_ble_eq_true rfl, Nat.le_of_ble_eq_true rfl, Nat.le_of_ble_eq_true rfl⟩ 38 29851 ⟨rfl, rfl, Nat.le_of_ble_eq_true rfl, Nat.le_of_ble_eq_true rfl⟩ dL_law_2233 (fun u H locs hp w => ?_)
  have w : Wd D A s.heap [(m0, .inr (12, [.ref m1, .ref m2, .ref m3, .ref m4, .ref m5, .int 0, .ref m6, .int 0, .int 0, .int 0, .int 0, .int 0, .int 0, .int 0, .int 0, .int 0, .int 0, .int (-1), .ref m7, .ref m8, .int 0, .ref m9, .int 0, .ref m10, .ref m11, .ref m12, .ref m13, .ref m14, .int 0, .ref m15, .ref m16, .ref m17])), (m15, .inl (cy 1, 4, .inl (upd (upd (upd (upd (fun _ => 0) 0 (-1)) 1 (-1)) 2 (-1)) 3 (-1))))] _ _ := w.pick [0, 1] rfl rfl
  refine r_top (g2 := F0 m 2236 ls [.int 2]) rfl ?_
  refine lv_istore (lv' := [(5, .int 2), (0, .ref b), (1, .ref q0), (2, .ref m0), (3, .ref o0), (4, .int 0)]) C.1 C.2.1 dL_law_2236 hl (by decide) rfl (fun ls hl => ?_)
  refine lv_aload_n C.1 C.2.1 dL_law_2238 rfl (lv_at hl 3 rfl) ?_
  refine lv_aload_n C.1 C.2.1 dL_law_2239 rfl (lv_at hl 1 rfl) ?_
  refine lv_iload C.1 C.2.1 dL_law_2240 (lv_at hl 5 rfl) ?_
  refine lv_iconst (v := 1) C.1 C.2.1 dL_law_2242 (by decide) ?_
  refine r_iadd C (v := 1) dL_law_2243 (by decide) ?_
  refine r_sld C w hX hbl hbA (v := 1) (vinD (by decide)) sx1 dL_law_2244 ?_
  refine lv_aload_n C.1 C.2.1 dL_law_2245 rfl (lv_at hl 1 rfl) ?_
  refine lv_iload C.1 C.2.1 dL_law_2246 (lv_at hl 5 rfl) ?_
  refine lv_iconst (v := 2) C.1 C.2.1 dL_law_2248 (by decide) ?_
  refine r_iadd C (v := 2) dL_law_2249 (by decide) ?_
  refine r_sld C w hX hbl hbA (v := y2) (vinD (by decide)) sx2 dL_law_2250 ?_
  refine lv_aload_n C.1 C.2.1 dL_law_2251 rfl (lv_at hl 1 rfl) ?_
  refine lv_iload C.1 C.2.1 dL_law_2252 (lv_at hl 5 rfl) ?_
  refine lv_iconst (v := 3) C.1 C.2.1 dL_law_2254 (by decide) ?_
  refine r_iadd C (v := 3) dL_law_2255 (by decide) ?_
  refine r_sld C w hX hbl hbA (v := y3) (vinD (by decide)) sx3 dL_law_2256 ?_
  refine lv_i2l (v := (Int32.toInt64 y3)) C.1 C.2.1 dL_law_2257 rfl ?_
  refine lv_bipush (v := 32) C.1 C.2.1 dL_law_2258 (by decide) ?_
  refine lv_lshl (v := ((Int32.toInt64 y3) <<< (Int32.toInt64 32 &&& 63))) C.1 C.2.1 dL_law_2260 rfl ?_
  refine lv_aload_n C.1 C.2.1 dL_law_2261 rfl (lv_at hl 1 rfl) ?_
  refine lv_iload C.1 C.2.1 dL_law_2262 (lv_at hl 5 rfl) ?_
  refine lv_iconst (v := 4) C.1 C.2.1 dL_law_2264 (by decide) ?_
  refine r_iadd C (v := 4) dL_law_2265 (by decide) ?_
  refine r_sld C w hX hbl hbA (v := y4) (vinD (by decide)) sx4 dL_law_2266 ?_
  refine lv_i2l (v := (Int32.toInt64 y4)) C.1 C.2.1 dL_law_2267 rfl ?_
  refine lv_ldc2 (v := 4294967295) C.1 C.2.1 C.2.2.1 (C.2.2.2.1 _ kl_RL_236) dL_law_2268 ?_
  refine r_land C (v := ((Int32.toInt64 y4) &&& 4294967295)) dL_law_2271 rfl ?_
  refine r_lor C (v := (((Int32.toInt64 y3) <<< (Int32.toInt64 32 &&& 63)) ||| ((Int32.toInt64 y4) &&& 4294967295))) dL_law_2272 rfl ?_
  refine r_callV C w fv_RL_241 (c_X12_write_1 l D cy m0 m1 m2 m3 m4 m5 m6 m7 m8 m9 m10 m11 m12 m13 m14 m15 m16 m17 y2 (((Int32.toInt64 y3) <<< (Int32.toInt64 32 &&& 63)) ||| ((Int32.toInt64 y4) &&& 4294967295))) (hl.1.trans hml.symm) [0, 1] [] (wr := []) ⟨rfl, rfl, rfl, rfl, by decide⟩ 0 rfl rfl rfl rfl rfl ⟨Nat.le_of_ble_eq_true rfl, Nat.le_of_ble_eq_true rfl, Nat.le_of_ble_eq_true rfl⟩ 38 29851 ⟨rfl, rfl, Nat.le_of_ble_eq_true rfl, Nat.le_of_ble_eq_true rfl⟩ dL_law_2273 (fun u H locs hp w => ?_)
  have w : Wd D A s.heap [(m0, .inr (12, [.ref m1, .ref m2, .ref m3, .ref m4, .ref m5, .int 2, .ref m6, .int 0, .int 0, .int 0, .int 0, .int 0, .int 0, .int 0, .int 0, .int 0, .int 0, .int (-1), .ref m7, .ref m8, .int 0, .ref m9, .int 0, .ref m10, .ref m11, .ref m12, .ref m13, .ref m14, .int 0, .ref m15, .ref m16, .ref m17]))] _ _ := w.pick [0] rfl rfl
  refine r_top (g2 := F0 m 2276 ls [.long 0]) rfl ?_
  refine lv_lstore (lv' := [(6, .long 0), (5, .int 2), (0, .ref b), (1, .ref q0), (2, .ref m0), (3, .ref o0), (4, .int 0)]) C.1 C.2.1 dL_law_2276 hl (by decide) rfl (fun ls hl => ?_)
  refine lv_aload_n C.1 C.2.1 dL_law_2278 rfl (lv_at hl 4 rfl) ?_
  refine r_callV C w fv_RL_134 (c_X12_thrown_10 l D cy m0 m1 m2 m3 m4 m5 m6 m7 m8 m9 m10 m11 m12 m13 m14 m15 m16 m17) (hl.1.trans hml.symm) [0] [] (wr := []) ⟨rfl, rfl, rfl, rfl, by decide⟩ 0 rfl rfl rfl rfl rfl ⟨Nat.le_of_ble_eq_true rfl, Nat.le_of_ble_eq_true rfl, Nat.le_of_ble_eq_true rfl⟩ 38 29851 ⟨rfl, rfl, Nat.le_of_ble_eq_true rfl, Nat.le_of_ble_eq_true rfl⟩ dL_law_2279 (fun u H locs hp w => ?_)
  have w : Wd D A s.heap [(m0, .inr (12, [.ref m1, .ref m2, .ref m3, .ref m4, .ref m5, .int 2, .ref m6, .int 0, .int 0, .int 0, .int 0, .int 0, .int 0, .int 0, .int 0, .int 0, .int 0, .int (-1), .ref m7, .ref m8, .int 0, .ref m9, .int 0, .ref m10, .ref m11, .ref m12, .ref m13, .ref m14, .int 0, .ref m15, .ref m16, .ref m17]))] _ _ := w.pick [0] rfl rfl
  refine r_top (g2 := F0 m 2282 ls [.int 2]) rfl ?_
  refine lv_iload C.1 C.2.1 dL_law_2282 (lv_at hl 1 rfl) ?_
  refine b_icmp_eq_t C (tgt := 2289) dL_law_2284 (by decide) (by decide) ?_
  refine lv_iload C.1 C.2.1 dL_law_2289 (lv_at hl 1 rfl) ?_
  refine b_if_ne_t C (tgt := 2305) dL_law_2291 (by decide) (by decide) ?_
  refine lv_goto (tgt := 2461) C.1 C.2.1 dL_law_2305 (by decide) ?_
  refine W.widen (k := 600002) (n := 7302232) (Nat.le_of_ble_eq_true rfl) (Nat.le_of_ble_eq_true rfl) ?_
  exact kk _ _ _ w.2.2 (lv_sub hl [2, 6] rfl)
set_option maxRecDepth 100000 in
set_option maxHeartbeats 4000000 in
theorem s_L_32_2 {p : Program} {l : Launch} {e : Env} {s : State} {m : MethodId} {args : Array Value} {below : List Frame} {meth : Method} {c : Code} {Q : State → Prop} {D : va_G} {cy : Nat → ClassId} {A : Nat → Prop} {H : Heap} {locs : List Loc} {ls : Array Slot} {xs : Nat → Int32} (b q0 q1 q2 q4 q5 q6 q10 q7 q8 q9 m0 m1 m2 m3 m4 m5 m6 m7 m8 m9 m10 m11 m12 m13 m14 m15 m16 m17 o0 : Nat) (y2 : Int32) (y3 : Int32) (y4 : Int32) (sx1 : xs 1 = 2) (sx2 : xs 2 = y2) (sx3 : xs 3 = y3) (sx4 : xs 4 = y4) (hst : l.stackTraces = false) (C : Cx p s m args c cL_law RL D cy A) (hml : c.maxLocals = 8) (hX : va_X b 6 xs s s.heap) (hbl : b < s.heap.size) (hbA : ¬ A b) (w : Wd D A s.heap [(q0, .inr (11, [.ref q1, .int 0, .int 0, .int (-1), .ref q2, .ref q4, .ref q5, .ref q6, .ref q10, .null])), (q6, .inr (10, [.ref q7, .ref q8, .ref q9])), (q7, .inl (cy 1, 4, .inl (upd (upd (upd (upd (fun _ => 0) 0 (-1)) 1 (-1)) 2 (-1)) 3 (-1)))), (m0, .inr (12, [.ref m1, .ref m2, .ref m3, .ref m4, .ref m5, .int 0, .ref m6, .int 0, .int 0, .int 0, .int 0, .int 0, .int 0, .int 0, .int 0, .int 0, .int 0, .int (-1), .ref m7, .ref m8, .int 0, .ref m9, .int 0, .ref m10, .ref m11, .ref m12, .ref m13, .ref m14, .int 0, .ref m15, .ref m16, .ref m17])), (m15, .inl (cy 1, 4, .inl (upd (upd (upd (upd (fun _ => 0) 0 (-1)) 1 (-1)) 2 (-1)) 3 (-1))))] H locs) (hl : lv_has ls 8 [(0, .ref b), (1, .ref q0), (2, .ref m0), (3, .ref o0), (4, .int 0)]) (kk : ∀ (H : Heap) (locs : List Loc) (ls : Array Slot), va_S A s.heap H locs → lv_has ls 8 [(0, .ref b), (4, .int 0)] → W p l e room_1 s m args below meth c H locs 600002 7302232 Q (F0 m 2461 ls [])) : W p l e room_1 s m args below meth c H locs 37 29845 Q (F0 m 2197 ls []) := by
  refine lv_aload_n C.1 C.2.1 dL_law_2197 rfl (lv_at hl 1 rfl) ?_
  refine lv_aload_n C.1 C.2.1 dL_law_2198 rfl (lv_at hl 0 rfl) ?_
  refine lv_iload C.1 C.2.1 dL_law_2199 (lv_at hl 4 rfl) ?_
  refine lv_iconst (v := 1) C.1 C.2.1 dL_law_2201 (by decide) ?_
  refine r_iadd C (v := 1) dL_law_2202 (by decide) ?_
  refine r_sld C w hX hbl hbA (v := 2) (vinD (by decide)) sx1 dL_law_2203 ?_
  refine lv_aload_n C.1 C.2.1 dL_law_2204 rfl (lv_at hl 0 rfl) ?_
  refine lv_iload C.1 C.2.1 dL_law_2205 (lv_at hl 4 rfl) ?_
  refine lv_iconst (v := 2) C.1 C.2.1 dL_law_2207 (by decide) ?_
  refine r_iadd C (v := 2) dL_law_2208 (by decide) ?_
  refine r_sld C w hX hbl hbA (v := y2) (vinD (by decide)) sx2 dL_law_2209 ?_
  refine lv_aload_n C.1 C.2.1 dL_law_2210 rfl (lv_at hl 0 rfl) ?_
  refine lv_iload C.1 C.2.1 dL_law_2211 (lv_at hl 4 rfl) ?_
  refine lv_iconst (v := 3) C.1 C.2.1 dL_law_2213 (by decide) ?_
  refine r_iadd C (v := 3) dL_law_2214 (by decide) ?_
  refine r_sld C w hX hbl hbA (v := y3) (vinD (by decide)) sx3 dL_law_2215 ?_
  refine lv_i2l (v := (Int32.toInt64 y3)) C.1 C.2.1 dL_law_2216 rfl ?_
  refine lv_bipush (v := 32) C.1 C.2.1 dL_law_2217 (by decide) ?_
  refine lv_lshl (v := ((Int32.toInt64 y3) <<< (Int32.toInt64 32 &&& 63))) C.1 C.2.1 dL_law_2219 rfl ?_
  refine lv_aload_n C.1 C.2.1 dL_law_2220 rfl (lv_at hl 0 rfl) ?_
  refine lv_iload C.1 C.2.1 dL_law_2221 (lv_at hl 4 rfl) ?_
  refine lv_iconst (v := 4) C.1 C.2.1 dL_law_2223 (by decide) ?_
  refine r_iadd C (v := 4) dL_law_2224 (by decide) ?_
  refine r_sld C w hX hbl hbA (v := y4) (vinD (by decide)) sx4 dL_law_2225 ?_
  refine lv_i2l (v := (Int32.toInt64 y4)) C.1 C.2.1 dL_law_2226 rfl ?_
  refine lv_ldc2 (v := 4294967295) C.1 C.2.1 C.2.2.1 (C.2.2.2.1 _ kl_RL_236) dL_law_2227 ?_
  refine r_land C (v := ((Int32.toInt64 y4) &&& 4294967295)) dL_law_2230 rfl ?_
  refine r_lor C (v := (((Int32.toInt64 y3) <<< (Int32.toInt64 32 &&& 63)) ||| ((Int32.toInt64 y4) &&& 4294967295))) dL_law_2231 rfl ?_
  refine lv_aload_n C.1 C.2.1 dL_law_2232 rfl (lv_at hl 3 rfl) ?_
  refine r_callH C w fh_RL_238 (c_L_write_2 l D cy q0 o0 q1 q2 q4 q5 q6 q10 q7 q8 q9 y2 (((Int32.toInt64 y3) <<< (Int32.toInt64 32 &&& 63)) ||| ((Int32.toInt64 y4) &&& 4294967295)) hst) (hl.1.trans hml.symm) [0, 1, 2] [3, 4] (wr := [(m0, .inr (12, [.ref m1, .ref m2, .ref m3, .ref m4, .ref m5, .int 0, .ref m6, .int 0, .int 0, .int 0, .int 0, .int 0, .int 0, .int 0, .int 0, .int 0, .int 0, .int (-1), .ref m7, .ref m8, .int 0, .ref m9, .int 0, .ref m10, .ref m11, .ref m12, .ref m13, .ref m14, .int 0, .ref m15, .ref m16, .ref m17])), (m15, .inl (cy 1, 4, .inl (upd (upd (upd (upd (fun _ => 0) 0 (-1)) 1 (-1)) 2 (-1)) 3 (-1))))]) ⟨rfl, rfl, rfl, rfl, by decide⟩ rfl rfl ⟨Nat.le_of_ble_eq_true rfl, Nat.le_of_ble_eq_true rfl, Nat.le_of_ble_eq_true rfl⟩ 38 29851 ⟨rfl, rfl, Nat.le_of_ble_eq_true rfl, Nat.le_of_ble_eq_true rfl⟩ dL_law_2233 (fun u H locs hp w => ?_)
  have w : Wd D A s.heap [(m0, .inr (12, [.ref m1, .ref m2, .ref m3, .ref m4, .ref m5, .int 0, .ref m6, .int 0, .int 0, .int 0, .int 0, .int 0, .int 0, .int 0, .int 0, .int 0, .int 0, .int (-1), .ref m7, .ref m8, .int 0, .ref m9, .int 0, .ref m10, .ref m11, .ref m12, .ref m13, .ref m14, .int 0, .ref m15, .ref m16, .ref m17])), (m15, .inl (cy 1, 4, .inl (upd (upd (upd (upd (fun _ => 0) 0 (-1)) 1 (-1)) 2 (-1)) 3 (-1))))] _ _ := w.pick [0, 1] rfl rfl
  refine r_top (g2 := F0 m 2236 ls [.int 2]) rfl ?_
  refine lv_istore (lv' := [(5, .int 2), (0, .ref b), (1, .ref q0), (2, .ref m0), (3, .ref o0), (4, .int 0)]) C.1 C.2.1 dL_law_2236 hl (by decide) rfl (fun ls hl => ?_)
  refine lv_aload_n C.1 C.2.1 dL_law_2238 rfl (lv_at hl 3 rfl) ?_
  refine lv_aload_n C.1 C.2.1 dL_law_2239 rfl (lv_at hl 1 rfl) ?_
  refine lv_iload C.1 C.2.1 dL_law_2240 (lv_at hl 5 rfl) ?_
  refine lv_iconst (v := 1) C.1 C.2.1 dL_law_2242 (by decide) ?_
  refine r_iadd C (v := 1) dL_law_2243 (by decide) ?_
  refine r_sld C w hX hbl hbA (v := 2) (vinD (by decide)) sx1 dL_law_2244 ?_
  refine lv_aload_n C.1 C.2.1 dL_law_2245 rfl (lv_at hl 1 rfl) ?_
  refine lv_iload C.1 C.2.1 dL_law_2246 (lv_at hl 5 rfl) ?_
  refine lv_iconst (v := 2) C.1 C.2.1 dL_law_2248 (by decide) ?_
  refine r_iadd C (v := 2) dL_law_2249 (by decide) ?_
  refine r_sld C w hX hbl hbA (v := y2) (vinD (by decide)) sx2 dL_law_2250 ?_
  refine lv_aload_n C.1 C.2.1 dL_law_2251 rfl (lv_at hl 1 rfl) ?_
  refine lv_iload C.1 C.2.1 dL_law_2252 (lv_at hl 5 rfl) ?_
  refine lv_iconst (v := 3) C.1 C.2.1 dL_law_2254 (by decide) ?_
  refine r_iadd C (v := 3) dL_law_2255 (by decide) ?_
  refine r_sld C w hX hbl hbA (v := y3) (vinD (by decide)) sx3 dL_law_2256 ?_
  refine lv_i2l (v := (Int32.toInt64 y3)) C.1 C.2.1 dL_law_2257 rfl ?_
  refine lv_bipush (v := 32) C.1 C.2.1 dL_law_2258 (by decide) ?_
  refine lv_lshl (v := ((Int32.toInt64 y3) <<< (Int32.toInt64 32 &&& 63))) C.1 C.2.1 dL_law_2260 rfl ?_
  refine lv_aload_n C.1 C.2.1 dL_law_2261 rfl (lv_at hl 1 rfl) ?_
  refine lv_iload C.1 C.2.1 dL_law_2262 (lv_at hl 5 rfl) ?_
  refine lv_iconst (v := 4) C.1 C.2.1 dL_law_2264 (by decide) ?_
  refine r_iadd C (v := 4) dL_law_2265 (by decide) ?_
  refine r_sld C w hX hbl hbA (v := y4) (vinD (by decide)) sx4 dL_law_2266 ?_
  refine lv_i2l (v := (Int32.toInt64 y4)) C.1 C.2.1 dL_law_2267 rfl ?_
  refine lv_ldc2 (v := 4294967295) C.1 C.2.1 C.2.2.1 (C.2.2.2.1 _ kl_RL_236) dL_law_2268 ?_
  refine r_land C (v := ((Int32.toInt64 y4) &&& 4294967295)) dL_law_2271 rfl ?_
  refine r_lor C (v := (((Int32.toInt64 y3) <<< (Int32.toInt64 32 &&& 63)) ||| ((Int32.toInt64 y4) &&& 4294967295))) dL_law_2272 rfl ?_
  refine r_callV C w fv_RL_241 (c_X12_write_2 l D cy m0 m1 m2 m3 m4 m5 m6 m7 m8 m9 m10 m11 m12 m13 m14 m15 m16 m17 y2 (((Int32.toInt64 y3) <<< (Int32.toInt64 32 &&& 63)) ||| ((Int32.toInt64 y4) &&& 4294967295))) (hl.1.trans hml.symm) [0, 1] [] (wr := []) ⟨rfl, rfl, rfl, rfl, by decide⟩ 0 rfl rfl rfl rfl rfl ⟨Nat.le_of_ble_eq_true rfl, Nat.le_of_ble_eq_true rfl, Nat.le_of_ble_eq_true rfl⟩ 38 29851 ⟨rfl, rfl, Nat.le_of_ble_eq_true rfl, Nat.le_of_ble_eq_true rfl⟩ dL_law_2273 (fun u H locs hp w => ?_)
  have w : Wd D A s.heap [(m0, .inr (12, [.ref m1, .ref m2, .ref m3, .ref m4, .ref m5, .int 2, .ref m6, .int 0, .int 0, .int 0, .int 0, .int 0, .int 0, .int 0, .int 0, .int 0, .int 0, .int (-1), .ref m7, .ref m8, .int 0, .ref m9, .int 0, .ref m10, .ref m11, .ref m12, .ref m13, .ref m14, .int 0, .ref m15, .ref m16, .ref m17]))] _ _ := w.pick [0] rfl rfl
  refine r_top (g2 := F0 m 2276 ls [.long 0]) rfl ?_
  refine lv_lstore (lv' := [(6, .long 0), (5, .int 2), (0, .ref b), (1, .ref q0), (2, .ref m0), (3, .ref o0), (4, .int 0)]) C.1 C.2.1 dL_law_2276 hl (by decide) rfl (fun ls hl => ?_)
  refine lv_aload_n C.1 C.2.1 dL_law_2278 rfl (lv_at hl 4 rfl) ?_
  refine r_callV C w fv_RL_134 (c_X12_thrown_10 l D cy m0 m1 m2 m3 m4 m5 m6 m7 m8 m9 m10 m11 m12 m13 m14 m15 m16 m17) (hl.1.trans hml.symm) [0] [] (wr := []) ⟨rfl, rfl, rfl, rfl, by decide⟩ 0 rfl rfl rfl rfl rfl ⟨Nat.le_of_ble_eq_true rfl, Nat.le_of_ble_eq_true rfl, Nat.le_of_ble_eq_true rfl⟩ 38 29851 ⟨rfl, rfl, Nat.le_of_ble_eq_true rfl, Nat.le_of_ble_eq_true rfl⟩ dL_law_2279 (fun u H locs hp w => ?_)
  have w : Wd D A s.heap [(m0, .inr (12, [.ref m1, .ref m2, .ref m3, .ref m4, .ref m5, .int 2, .ref m6, .int 0, .int 0, .int 0, .int 0, .int 0, .int 0, .int 0, .int 0, .int 0, .int 0, .int (-1), .ref m7, .ref m8, .int 0, .ref m9, .int 0, .ref m10, .ref m11, .ref m12, .ref m13, .ref m14, .int 0, .ref m15, .ref m16, .ref m17]))] _ _ := w.pick [0] rfl rfl
  refine r_top (g2 := F0 m 2282 ls [.int 2]) rfl ?_
  refine lv_iload C.1 C.2.1 dL_law_2282 (lv_at hl 1 rfl) ?_
  refine b_icmp_eq_t C (tgt := 2289) dL_law_2284 (by decide) (by decide) ?_
  refine lv_iload C.1 C.2.1 dL_law_2289 (lv_at hl 1 rfl) ?_
  refine b_if_ne_t C (tgt := 2305) dL_law_2291 (by decide) (by decide) ?_
  refine lv_goto (tgt := 2461) C.1 C.2.1 dL_law_2305 (by decide) ?_
  refine W.widen (k := 600002) (n := 7302232) (Nat.le_of_ble_eq_true rfl) (Nat.le_of_ble_eq_true rfl) ?_
  exact kk _ _ _ w.2.2 (lv_sub hl [2, 6] rfl)
set_option maxRecDepth 100000 in
set_option maxHeartbeats 4000000 in
theorem s_L_32_3 {p : Program} {l : Launch} {e : Env} {s : State} {m : MethodId} {args : Array Value} {below : List Frame} {meth : Method} {c : Code} {Q : State → Prop} {D : va_G} {cy : Nat → ClassId} {A : Nat → Prop} {H : Heap} {locs : List Loc} {ls : Array Slot} {xs : Nat → Int32} (b q0 q1 q2 q4 q5 q6 q10 q7 q8 q9 m0 m1 m2 m3 m4 m5 m6 m7 m8 m9 m10 m11 m12 m13 m14 m15 m16 m17 o0 : Nat) (y2 : Int32) (y3 : Int32) (y4 : Int32) (sx1 : xs 1 = 3) (sx2 : xs 2 = y2) (sx3 : xs 3 = y3) (sx4 : xs 4 = y4) (hst : l.stackTraces = false) (C : Cx p s m args c cL_law RL D cy A) (hml : c.maxLocals = 8) (hX : va_X b 6 xs s s.heap) (hbl : b < s.heap.size) (hbA : ¬ A b) (w : Wd D A s.heap [(q0, .inr (11, [.ref q1, .int 0, .int 0, .int (-1), .ref q2, .ref q4, .ref q5, .ref q6, .ref q10, .null])), (q6, .inr (10, [.ref q7, .ref q8, .ref q9])), (q7, .inl (cy 1, 4, .inl (upd (upd (upd (upd (fun _ => 0) 0 (-1)) 1 (-1)) 2 (-1)) 3 (-1)))), (m0, .inr (12, [.ref m1, .ref m2, .ref m3, .ref m4, .ref m5, .int 0, .ref m6, .int 0, .int 0, .int 0, .int 0, .int 0, .int 0, .int 0, .int 0, .int 0, .int 0, .int (-1), .ref m7, .ref m8, .int 0, .ref m9, .int 0, .ref m10, .ref m11, .ref m12, .ref m13, .ref m14, .int 0, .ref m15, .ref m16, .ref m17])), (m15, .inl (cy 1, 4, .inl (upd (upd (upd (upd (fun _ => 0) 0 (-1)) 1 (-1)) 2 (-1)) 3 (-1))))] H locs) (hl : lv_has ls 8 [(0, .ref b), (1, .ref q0), (2, .ref m0), (3, .ref o0), (4, .int 0)]) (kk : ∀ (H : Heap) (locs : List Loc) (ls : Array Slot), va_S A s.heap H locs → lv_has ls 8 [(0, .ref b), (4, .int 0)] → W p l e room_1 s m args below meth c H locs 600002 7302232 Q (F0 m 2461 ls [])) : W p l e room_1 s m args below meth c H locs 37 29845 Q (F0 m 2197 ls []) := by
  refine lv_aload_n C.1 C.2.1 dL_law_2197 rfl (lv_at hl 1 rfl) ?_
  refine lv_aload_n C.1 C.2.1 dL_law_2198 rfl (lv_at hl 0 rfl) ?_
  refine lv_iload C.1 C.2.1 dL_law_2199 (lv_at hl 4 rfl) ?_
  refine lv_iconst (v := 1) C.1 C.2.1 dL_law_2201 (by decide) ?_
  refine r_iadd C (v := 1) dL_law_2202 (by decide) ?_
  refine r_sld C w hX hbl hbA (v := 3) (vinD (by decide)) sx1 dL_law_2203 ?_
  refine lv_aload_n C.1 C.2.1 dL_law_2204 rfl (lv_at hl 0 rfl) ?_
  refine lv_iload C.1 C.2.1 dL_law_2205 (lv_at hl 4 rfl) ?_
  refine lv_iconst (v := 2) C.1 C.2.1 dL_law_2207 (by decide) ?_
  refine r_iadd C (v := 2) dL_law_2208 (by decide) ?_
  refine r_sld C w hX hbl hbA (v := y2) (vinD (by decide)) sx2 dL_law_2209 ?_
  refine lv_aload_n C.1 C.2.1 dL_law_2210 rfl (lv_at hl 0 rfl) ?_
  refine lv_iload C.1 C.2.1 dL_law_2211 (lv_at hl 4 rfl) ?_
  refine lv_iconst (v := 3) C.1 C.2.1 dL_law_2213 (by decide) ?_
  refine r_iadd C (v := 3) dL_law_2214 (by decide) ?_
  refine r_sld C w hX hbl hbA (v := y3) (vinD (by decide)) sx3 dL_law_2215 ?_
  refine lv_i2l (v := (Int32.toInt64 y3)) C.1 C.2.1 dL_law_2216 rfl ?_
  refine lv_bipush (v := 32) C.1 C.2.1 dL_law_2217 (by decide) ?_
  refine lv_lshl (v := ((Int32.toInt64 y3) <<< (Int32.toInt64 32 &&& 63))) C.1 C.2.1 dL_law_2219 rfl ?_
  refine lv_aload_n C.1 C.2.1 dL_law_2220 rfl (lv_at hl 0 rfl) ?_
  refine lv_iload C.1 C.2.1 dL_law_2221 (lv_at hl 4 rfl) ?_
  refine lv_iconst (v := 4) C.1 C.2.1 dL_law_2223 (by decide) ?_
  refine r_iadd C (v := 4) dL_law_2224 (by decide) ?_
  refine r_sld C w hX hbl hbA (v := y4) (vinD (by decide)) sx4 dL_law_2225 ?_
  refine lv_i2l (v := (Int32.toInt64 y4)) C.1 C.2.1 dL_law_2226 rfl ?_
  refine lv_ldc2 (v := 4294967295) C.1 C.2.1 C.2.2.1 (C.2.2.2.1 _ kl_RL_236) dL_law_2227 ?_
  refine r_land C (v := ((Int32.toInt64 y4) &&& 4294967295)) dL_law_2230 rfl ?_
  refine r_lor C (v := (((Int32.toInt64 y3) <<< (Int32.toInt64 32 &&& 63)) ||| ((Int32.toInt64 y4) &&& 4294967295))) dL_law_2231 rfl ?_
  refine lv_aload_n C.1 C.2.1 dL_law_2232 rfl (lv_at hl 3 rfl) ?_
  refine r_callH C w fh_RL_238 (c_L_write_3 l D cy q0 o0 q1 q2 q4 q5 q6 q10 q7 q8 q9 y2 (((Int32.toInt64 y3) <<< (Int32.toInt64 32 &&& 63)) ||| ((Int32.toInt64 y4) &&& 4294967295)) hst) (hl.1.trans hml.symm) [0, 1, 2] [3, 4] (wr := [(m0, .inr (12, [.ref m1, .ref m2, .ref m3, .ref m4, .ref m5, .int 0, .ref m6, .int 0, .int 0, .int 0, .int 0, .int 0, .int 0, .int 0, .int 0, .int 0, .int 0, .int (-1), .ref m7, .ref m8, .int 0, .ref m9, .int 0, .ref m10, .ref m11, .ref m12, .ref m13, .ref m14, .int 0, .ref m15, .ref m16, .ref m17])), (m15, .inl (cy 1, 4, .inl (upd (upd (upd (upd (fun _ => 0) 0 (-1)) 1 (-1)) 2 (-1)) 3 (-1))))]) ⟨rfl, rfl, rfl, rfl, by decide⟩ rfl rfl ⟨Nat.le_of_ble_eq_true rfl, Nat.le_of_ble_eq_true rfl, Nat.le_of_ble_eq_true rfl⟩ 38 29851 ⟨rfl, rfl, Nat.le_of_ble_eq_true rfl, Nat.le_of_ble_eq_true rfl⟩ dL_law_2233 (fun u H locs hp w => ?_)
  have w : Wd D A s.heap [(m0, .inr (12, [.ref m1, .ref m2, .ref m3, .ref m4, .ref m5, .int 0, .ref m6, .int 0, .int 0, .int 0, .int 0, .int 0, .int 0, .int 0, .int 0, .int 0, .int 0, .int (-1), .ref m7, .ref m8, .int 0, .ref m9, .int 0, .ref m10, .ref m11, .ref m12, .ref m13, .ref m14, .int 0, .ref m15, .ref m16, .ref m17])), (m15, .inl (cy 1, 4, .inl (upd (upd (upd (upd (fun _ => 0) 0 (-1)) 1 (-1)) 2 (-1)) 3 (-1))))] _ _ := w.pick [0, 1] rfl rfl
  refine r_top (g2 := F0 m 2236 ls [.int 2]) rfl ?_
  refine lv_istore (lv' := [(5, .int 2), (0, .ref b), (1, .ref q0), (2, .ref m0), (3, .ref o0), (4, .int 0)]) C.1 C.2.1 dL_law_2236 hl (by decide) rfl (fun ls hl => ?_)
  refine lv_aload_n C.1 C.2.1 dL_law_2238 rfl (lv_at hl 3 rfl) ?_
  refine lv_aload_n C.1 C.2.1 dL_law_2239 rfl (lv_at hl 1 rfl) ?_
  refine lv_iload C.1 C.2.1 dL_law_2240 (lv_at hl 5 rfl) ?_
  refine lv_iconst (v := 1) C.1 C.2.1 dL_law_2242 (by decide) ?_
  refine r_iadd C (v := 1) dL_law_2243 (by decide) ?_
  refine r_sld C w hX hbl hbA (v := 3) (vinD (by decide)) sx1 dL_law_2244 ?_
  refine lv_aload_n C.1 C.2.1 dL_law_2245 rfl (lv_at hl 1 rfl) ?_
  refine lv_iload C.1 C.2.1 dL_law_2246 (lv_at hl 5 rfl) ?_
  refine lv_iconst (v := 2) C.1 C.2.1 dL_law_2248 (by decide) ?_
  refine r_iadd C (v := 2) dL_law_2249 (by decide) ?_
  refine r_sld C w hX hbl hbA (v := y2) (vinD (by decide)) sx2 dL_law_2250 ?_
  refine lv_aload_n C.1 C.2.1 dL_law_2251 rfl (lv_at hl 1 rfl) ?_
  refine lv_iload C.1 C.2.1 dL_law_2252 (lv_at hl 5 rfl) ?_
  refine lv_iconst (v := 3) C.1 C.2.1 dL_law_2254 (by decide) ?_
  refine r_iadd C (v := 3) dL_law_2255 (by decide) ?_
  refine r_sld C w hX hbl hbA (v := y3) (vinD (by decide)) sx3 dL_law_2256 ?_
  refine lv_i2l (v := (Int32.toInt64 y3)) C.1 C.2.1 dL_law_2257 rfl ?_
  refine lv_bipush (v := 32) C.1 C.2.1 dL_law_2258 (by decide) ?_
  refine lv_lshl (v := ((Int32.toInt64 y3) <<< (Int32.toInt64 32 &&& 63))) C.1 C.2.1 dL_law_2260 rfl ?_
  refine lv_aload_n C.1 C.2.1 dL_law_2261 rfl (lv_at hl 1 rfl) ?_
  refine lv_iload C.1 C.2.1 dL_law_2262 (lv_at hl 5 rfl) ?_
  refine lv_iconst (v := 4) C.1 C.2.1 dL_law_2264 (by decide) ?_
  refine r_iadd C (v := 4) dL_law_2265 (by decide) ?_
  refine r_sld C w hX hbl hbA (v := y4) (vinD (by decide)) sx4 dL_law_2266 ?_
  refine lv_i2l (v := (Int32.toInt64 y4)) C.1 C.2.1 dL_law_2267 rfl ?_
  refine lv_ldc2 (v := 4294967295) C.1 C.2.1 C.2.2.1 (C.2.2.2.1 _ kl_RL_236) dL_law_2268 ?_
  refine r_land C (v := ((Int32.toInt64 y4) &&& 4294967295)) dL_law_2271 rfl ?_
  refine r_lor C (v := (((Int32.toInt64 y3) <<< (Int32.toInt64 32 &&& 63)) ||| ((Int32.toInt64 y4) &&& 4294967295))) dL_law_2272 rfl ?_
  refine r_callV C w fv_RL_241 (c_X12_write_3 l D cy m0 m1 m2 m3 m4 m5 m6 m7 m8 m9 m10 m11 m12 m13 m14 m15 m16 m17 y2 (((Int32.toInt64 y3) <<< (Int32.toInt64 32 &&& 63)) ||| ((Int32.toInt64 y4) &&& 4294967295))) (hl.1.trans hml.symm) [0, 1] [] (wr := []) ⟨rfl, rfl, rfl, rfl, by decide⟩ 0 rfl rfl rfl rfl rfl ⟨Nat.le_of_ble_eq_true rfl, Nat.le_of_ble_eq_true rfl, Nat.le_of_ble_eq_true rfl⟩ 38 29851 ⟨rfl, rfl, Nat.le_of_ble_eq_true rfl, Nat.le_of_ble_eq_true rfl⟩ dL_law_2273 (fun u H locs hp w => ?_)
  have w : Wd D A s.heap [(m0, .inr (12, [.ref m1, .ref m2, .ref m3, .ref m4, .ref m5, .int 2, .ref m6, .int 0, .int 0, .int 0, .int 0, .int 0, .int 0, .int 0, .int 0, .int 0, .int 0, .int (-1), .ref m7, .ref m8, .int 0, .ref m9, .int 0, .ref m10, .ref m11, .ref m12, .ref m13, .ref m14, .int 0, .ref m15, .ref m16, .ref m17]))] _ _ := w.pick [0] rfl rfl
  refine r_top (g2 := F0 m 2276 ls [.long 0]) rfl ?_
  refine lv_lstore (lv' := [(6, .long 0), (5, .int 2), (0, .ref b), (1, .ref q0), (2, .ref m0), (3, .ref o0), (4, .int 0)]) C.1 C.2.1 dL_law_2276 hl (by decide) rfl (fun ls hl => ?_)
  refine lv_aload_n C.1 C.2.1 dL_law_2278 rfl (lv_at hl 4 rfl) ?_
  refine r_callV C w fv_RL_134 (c_X12_thrown_10 l D cy m0 m1 m2 m3 m4 m5 m6 m7 m8 m9 m10 m11 m12 m13 m14 m15 m16 m17) (hl.1.trans hml.symm) [0] [] (wr := []) ⟨rfl, rfl, rfl, rfl, by decide⟩ 0 rfl rfl rfl rfl rfl ⟨Nat.le_of_ble_eq_true rfl, Nat.le_of_ble_eq_true rfl, Nat.le_of_ble_eq_true rfl⟩ 38 29851 ⟨rfl, rfl, Nat.le_of_ble_eq_true rfl, Nat.le_of_ble_eq_true rfl⟩ dL_law_2279 (fun u H locs hp w => ?_)
  have w : Wd D A s.heap [(m0, .inr (12, [.ref m1, .ref m2, .ref m3, .ref m4, .ref m5, .int 2, .ref m6, .int 0, .int 0, .int 0, .int 0, .int 0, .int 0, .int 0, .int 0, .int 0, .int 0, .int (-1), .ref m7, .ref m8, .int 0, .ref m9, .int 0, .ref m10, .ref m11, .ref m12, .ref m13, .ref m14, .int 0, .ref m15, .ref m16, .ref m17]))] _ _ := w.pick [0] rfl rfl
  refine r_top (g2 := F0 m 2282 ls [.int 2]) rfl ?_
  refine lv_iload C.1 C.2.1 dL_law_2282 (lv_at hl 1 rfl) ?_
  refine b_icmp_eq_t C (tgt := 2289) dL_law_2284 (by decide) (by decide) ?_
  refine lv_iload C.1 C.2.1 dL_law_2289 (lv_at hl 1 rfl) ?_
  refine b_if_ne_t C (tgt := 2305) dL_law_2291 (by decide) (by decide) ?_
  refine lv_goto (tgt := 2461) C.1 C.2.1 dL_law_2305 (by decide) ?_
  refine W.widen (k := 600002) (n := 7302232) (Nat.le_of_ble_eq_true rfl) (Nat.le_of_ble_eq_true rfl) ?_
  exact kk _ _ _ w.2.2 (lv_sub hl [2, 6] rfl)
set_option maxRecDepth 100000 in
set_option maxHeartbeats 4000000 in
theorem s_L_32_4 {p : Program} {l : Launch} {e : Env} {s : State} {m : MethodId} {args : Array Value} {below : List Frame} {meth : Method} {c : Code} {Q : State → Prop} {D : va_G} {cy : Nat → ClassId} {A : Nat → Prop} {H : Heap} {locs : List Loc} {ls : Array Slot} {xs : Nat → Int32} (b q0 q1 q2 q4 q5 q6 q10 q7 q8 q9 m0 m1 m2 m3 m4 m5 m6 m7 m8 m9 m10 m11 m12 m13 m14 m15 m16 m17 o0 : Nat) (y2 : Int32) (y3 : Int32) (y4 : Int32) (sx1 : xs 1 = 0) (sx2 : xs 2 = y2) (sx3 : xs 3 = y3) (sx4 : xs 4 = y4) (hst : l.stackTraces = false) (C : Cx p s m args c cL_law RL D cy A) (hml : c.maxLocals = 8) (hX : va_X b 6 xs s s.heap) (hbl : b < s.heap.size) (hbA : ¬ A b) (w : Wd D A s.heap [(q0, .inr (11, [.ref q1, .int 0, .int 0, .int (-1), .ref q2, .ref q4, .ref q5, .ref q6, .ref q10, .null])), (q6, .inr (10, [.ref q7, .ref q8, .ref q9])), (q7, .inl (cy 1, 4, .inl (upd (upd (upd (upd (fun _ => 0) 0 (-1)) 1 (-1)) 2 (-1)) 3 (-1)))), (m0, .inr (12, [.ref m1, .ref m2, .ref m3, .ref m4, .ref m5, .int 0, .ref m6, .int 0, .int 0, .int 0, .int 0, .int 0, .int 0, .int 0, .int 0, .int 0, .int 0, .int (-1), .ref m7, .ref m8, .int 0, .ref m9, .int 0, .ref m10, .ref m11, .ref m12, .ref m13, .ref m14, .int 0, .ref m15, .ref m16, .ref m17])), (m15, .inl (cy 1, 4, .inl (upd (upd (upd (upd (fun _ => 0) 0 (-1)) 1 (-1)) 2 (-1)) 3 (-1))))] H locs) (hl : lv_has ls 8 [(0, .ref b), (1, .ref q0), (2, .ref m0), (3, .ref o0), (4, .int 0)]) (kk : ∀ (H : Heap) (locs : List Loc) (ls : Array Slot), va_S A s.heap H locs → lv_has ls 8 [(0, .ref b), (4, .int 0)] → W p l e room_1 s m args below meth c H locs 600002 7302232 Q (F0 m 2461 ls [])) : W p l e room_1 s m args below meth c H locs 37 29845 Q (F0 m 2197 ls []) := by
  refine lv_aload_n C.1 C.2.1 dL_law_2197 rfl (lv_at hl 1 rfl) ?_
  refine lv_aload_n C.1 C.2.1 dL_law_2198 rfl (lv_at hl 0 rfl) ?_
  refine lv_iload C.1 C.2.1 dL_law_2199 (lv_at hl 4 rfl) ?_
  refine lv_iconst (v := 1) C.1 C.2.1 dL_law_2201 (by decide) ?_
  refine r_iadd C (v := 1) dL_law_2202 (by decide) ?_
  refine r_sld C w hX hbl hbA (v := 0) (vinD (by decide)) sx1 dL_law_2203 ?_
  refine lv_aload_n C.1 C.2.1 dL_law_2204 rfl (lv_at hl 0 rfl) ?_
  refine lv_iload C.1 C.2.1 dL_law_2205 (lv_at hl 4 rfl) ?_
  refine lv_iconst (v := 2) C.1 C.2.1 dL_law_2207 (by decide) ?_
  refine r_iadd C (v := 2) dL_law_2208 (by decide) ?_
  refine r_sld C w hX hbl hbA (v := y2) (vinD (by decide)) sx2 dL_law_2209 ?_
  refine lv_aload_n C.1 C.2.1 dL_law_2210 rfl (lv_at hl 0 rfl) ?_
  refine lv_iload C.1 C.2.1 dL_law_2211 (lv_at hl 4 rfl) ?_
  refine lv_iconst (v := 3) C.1 C.2.1 dL_law_2213 (by decide) ?_
  refine r_iadd C (v := 3) dL_law_2214 (by decide) ?_
  refine r_sld C w hX hbl hbA (v := y3) (vinD (by decide)) sx3 dL_law_2215 ?_
  refine lv_i2l (v := (Int32.toInt64 y3)) C.1 C.2.1 dL_law_2216 rfl ?_
  refine lv_bipush (v := 32) C.1 C.2.1 dL_law_2217 (by decide) ?_
  refine lv_lshl (v := ((Int32.toInt64 y3) <<< (Int32.toInt64 32 &&& 63))) C.1 C.2.1 dL_law_2219 rfl ?_
  refine lv_aload_n C.1 C.2.1 dL_law_2220 rfl (lv_at hl 0 rfl) ?_
  refine lv_iload C.1 C.2.1 dL_law_2221 (lv_at hl 4 rfl) ?_
  refine lv_iconst (v := 4) C.1 C.2.1 dL_law_2223 (by decide) ?_
  refine r_iadd C (v := 4) dL_law_2224 (by decide) ?_
  refine r_sld C w hX hbl hbA (v := y4) (vinD (by decide)) sx4 dL_law_2225 ?_
  refine lv_i2l (v := (Int32.toInt64 y4)) C.1 C.2.1 dL_law_2226 rfl ?_
  refine lv_ldc2 (v := 4294967295) C.1 C.2.1 C.2.2.1 (C.2.2.2.1 _ kl_RL_236) dL_law_2227 ?_
  refine r_land C (v := ((Int32.toInt64 y4) &&& 4294967295)) dL_law_2230 rfl ?_
  refine r_lor C (v := (((Int32.toInt64 y3) <<< (Int32.toInt64 32 &&& 63)) ||| ((Int32.toInt64 y4) &&& 4294967295))) dL_law_2231 rfl ?_
  refine lv_aload_n C.1 C.2.1 dL_law_2232 rfl (lv_at hl 3 rfl) ?_
  refine r_callH C w fh_RL_238 (c_L_write_4 l D cy q0 o0 q1 q2 q4 q5 q6 q10 q7 q8 q9 y2 (((Int32.toInt64 y3) <<< (Int32.toInt64 32 &&& 63)) ||| ((Int32.toInt64 y4) &&& 4294967295)) hst) (hl.1.trans hml.symm) [0, 1, 2] [3, 4] (wr := [(m0, .inr (12, [.ref m1, .ref m2, .ref m3, .ref m4, .ref m5, .int 0, .ref m6, .int 0, .int 0, .int 0, .int 0, .int 0, .int 0, .int 0, .int 0, .int 0, .int 0, .int (-1), .ref m7, .ref m8, .int 0, .ref m9, .int 0, .ref m10, .ref m11, .ref m12, .ref m13, .ref m14, .int 0, .ref m15, .ref m16, .ref m17])), (m15, .inl (cy 1, 4, .inl (upd (upd (upd (upd (fun _ => 0) 0 (-1)) 1 (-1)) 2 (-1)) 3 (-1))))]) ⟨rfl, rfl, rfl, rfl, by decide⟩ rfl rfl ⟨Nat.le_of_ble_eq_true rfl, Nat.le_of_ble_eq_true rfl, Nat.le_of_ble_eq_true rfl⟩ 38 29851 ⟨rfl, rfl, Nat.le_of_ble_eq_true rfl, Nat.le_of_ble_eq_true rfl⟩ dL_law_2233 (fun u H locs hp w => ?_)
  have w : Wd D A s.heap [(m0, .inr (12, [.ref m1, .ref m2, .ref m3, .ref m4, .ref m5, .int 0, .ref m6, .int 0, .int 0, .int 0, .int 0, .int 0, .int 0, .int 0, .int 0, .int 0, .int 0, .int (-1), .ref m7, .ref m8, .int 0, .ref m9, .int 0, .ref m10, .ref m11, .ref m12, .ref m13, .ref m14, .int 0, .ref m15, .ref m16, .ref m17])), (m15, .inl (cy 1, 4, .inl (upd (upd (upd (upd (fun _ => 0) 0 (-1)) 1 (-1)) 2 (-1)) 3 (-1))))] _ _ := w.pick [0, 1] rfl rfl
  refine r_top (g2 := F0 m 2236 ls [.int 2]) rfl ?_
  refine lv_istore (lv' := [(5, .int 2), (0, .ref b), (1, .ref q0), (2, .ref m0), (3, .ref o0), (4, .int 0)]) C.1 C.2.1 dL_law_2236 hl (by decide) rfl (fun ls hl => ?_)
  refine lv_aload_n C.1 C.2.1 dL_law_2238 rfl (lv_at hl 3 rfl) ?_
  refine lv_aload_n C.1 C.2.1 dL_law_2239 rfl (lv_at hl 1 rfl) ?_
  refine lv_iload C.1 C.2.1 dL_law_2240 (lv_at hl 5 rfl) ?_
  refine lv_iconst (v := 1) C.1 C.2.1 dL_law_2242 (by decide) ?_
  refine r_iadd C (v := 1) dL_law_2243 (by decide) ?_
  refine r_sld C w hX hbl hbA (v := 0) (vinD (by decide)) sx1 dL_law_2244 ?_
  refine lv_aload_n C.1 C.2.1 dL_law_2245 rfl (lv_at hl 1 rfl) ?_
  refine lv_iload C.1 C.2.1 dL_law_2246 (lv_at hl 5 rfl) ?_
  refine lv_iconst (v := 2) C.1 C.2.1 dL_law_2248 (by decide) ?_
  refine r_iadd C (v := 2) dL_law_2249 (by decide) ?_
  refine r_sld C w hX hbl hbA (v := y2) (vinD (by decide)) sx2 dL_law_2250 ?_
  refine lv_aload_n C.1 C.2.1 dL_law_2251 rfl (lv_at hl 1 rfl) ?_
  refine lv_iload C.1 C.2.1 dL_law_2252 (lv_at hl 5 rfl) ?_
  refine lv_iconst (v := 3) C.1 C.2.1 dL_law_2254 (by decide) ?_
  refine r_iadd C (v := 3) dL_law_2255 (by decide) ?_
  refine r_sld C w hX hbl hbA (v := y3) (vinD (by decide)) sx3 dL_law_2256 ?_
  refine lv_i2l (v := (Int32.toInt64 y3)) C.1 C.2.1 dL_law_2257 rfl ?_
  refine lv_bipush (v := 32) C.1 C.2.1 dL_law_2258 (by decide) ?_
  refine lv_lshl (v := ((Int32.toInt64 y3) <<< (Int32.toInt64 32 &&& 63))) C.1 C.2.1 dL_law_2260 rfl ?_
  refine lv_aload_n C.1 C.2.1 dL_law_2261 rfl (lv_at hl 1 rfl) ?_
  refine lv_iload C.1 C.2.1 dL_law_2262 (lv_at hl 5 rfl) ?_
  refine lv_iconst (v := 4) C.1 C.2.1 dL_law_2264 (by decide) ?_
  refine r_iadd C (v := 4) dL_law_2265 (by decide) ?_
  refine r_sld C w hX hbl hbA (v := y4) (vinD (by decide)) sx4 dL_law_2266 ?_
  refine lv_i2l (v := (Int32.toInt64 y4)) C.1 C.2.1 dL_law_2267 rfl ?_
  refine lv_ldc2 (v := 4294967295) C.1 C.2.1 C.2.2.1 (C.2.2.2.1 _ kl_RL_236) dL_law_2268 ?_
  refine r_land C (v := ((Int32.toInt64 y4) &&& 4294967295)) dL_law_2271 rfl ?_
  refine r_lor C (v := (((Int32.toInt64 y3) <<< (Int32.toInt64 32 &&& 63)) ||| ((Int32.toInt64 y4) &&& 4294967295))) dL_law_2272 rfl ?_
  refine r_callV C w fv_RL_241 (c_X12_write_4 l D cy m0 m1 m2 m3 m4 m5 m6 m7 m8 m9 m10 m11 m12 m13 m14 m15 m16 m17 y2 (((Int32.toInt64 y3) <<< (Int32.toInt64 32 &&& 63)) ||| ((Int32.toInt64 y4) &&& 4294967295))) (hl.1.trans hml.symm) [0, 1] [] (wr := []) ⟨rfl, rfl, rfl, rfl, by decide⟩ 0 rfl rfl rfl rfl rfl ⟨Nat.le_of_ble_eq_true rfl, Nat.le_of_ble_eq_true rfl, Nat.le_of_ble_eq_true rfl⟩ 38 29851 ⟨rfl, rfl, Nat.le_of_ble_eq_true rfl, Nat.le_of_ble_eq_true rfl⟩ dL_law_2273 (fun u H locs hp w => ?_)
  have w : Wd D A s.heap [(m0, .inr (12, [.ref m1, .ref m2, .ref m3, .ref m4, .ref m5, .int 2, .ref m6, .int 0, .int 0, .int 0, .int 0, .int 0, .int 0, .int 0, .int 0, .int 0, .int 0, .int (-1), .ref m7, .ref m8, .int 0, .ref m9, .int 0, .ref m10, .ref m11, .ref m12, .ref m13, .ref m14, .int 0, .ref m15, .ref m16, .ref m17]))] _ _ := w.pick [0] rfl rfl
  refine r_top (g2 := F0 m 2276 ls [.long 0]) rfl ?_
  refine lv_lstore (lv' := [(6, .long 0), (5, .int 2), (0, .ref b), (1, .ref q0), (2, .ref m0), (3, .ref o0), (4, .int 0)]) C.1 C.2.1 dL_law_2276 hl (by decide) rfl (fun ls hl => ?_)
  refine lv_aload_n C.1 C.2.1 dL_law_2278 rfl (lv_at hl 4 rfl) ?_
  refine r_callV C w fv_RL_134 (c_X12_thrown_10 l D cy m0 m1 m2 m3 m4 m5 m6 m7 m8 m9 m10 m11 m12 m13 m14 m15 m16 m17) (hl.1.trans hml.symm) [0] [] (wr := []) ⟨rfl, rfl, rfl, rfl, by decide⟩ 0 rfl rfl rfl rfl rfl ⟨Nat.le_of_ble_eq_true rfl, Nat.le_of_ble_eq_true rfl, Nat.le_of_ble_eq_true rfl⟩ 38 29851 ⟨rfl, rfl, Nat.le_of_ble_eq_true rfl, Nat.le_of_ble_eq_true rfl⟩ dL_law_2279 (fun u H locs hp w => ?_)
  have w : Wd D A s.heap [(m0, .inr (12, [.ref m1, .ref m2, .ref m3, .ref m4, .ref m5, .int 2, .ref m6, .int 0, .int 0, .int 0, .int 0, .int 0, .int 0, .int 0, .int 0, .int 0, .int 0, .int (-1), .ref m7, .ref m8, .int 0, .ref m9, .int 0, .ref m10, .ref m11, .ref m12, .ref m13, .ref m14, .int 0, .ref m15, .ref m16, .ref m17]))] _ _ := w.pick [0] rfl rfl
  refine r_top (g2 := F0 m 2282 ls [.int 2]) rfl ?_
  refine lv_iload C.1 C.2.1 dL_law_2282 (lv_at hl 1 rfl) ?_
  refine b_icmp_eq_t C (tgt := 2289) dL_law_2284 (by decide) (by decide) ?_
  refine lv_iload C.1 C.2.1 dL_law_2289 (lv_at hl 1 rfl) ?_
  refine b_if_ne_t C (tgt := 2305) dL_law_2291 (by decide) (by decide) ?_
  refine lv_goto (tgt := 2461) C.1 C.2.1 dL_law_2305 (by decide) ?_
  refine W.widen (k := 600002) (n := 7302232) (Nat.le_of_ble_eq_true rfl) (Nat.le_of_ble_eq_true rfl) ?_
  exact kk _ _ _ w.2.2 (lv_sub hl [2, 6] rfl)
set_option maxRecDepth 100000 in
set_option maxHeartbeats 4000000 in
theorem s_L_32_5 {p : Program} {l : Launch} {e : Env} {s : State} {m : MethodId} {args : Array Value} {below : List Frame} {meth : Method} {c : Code} {Q : State → Prop} {D : va_G} {cy : Nat → ClassId} {A : Nat → Prop} {H : Heap} {locs : List Loc} {ls : Array Slot} {xs : Nat → Int32} (b q0 q1 q2 q4 q5 q6 q10 m0 m1 m2 m3 m4 m5 m6 m7 m8 m9 m10 m11 m12 m13 m14 m15 m16 m17 o0 : Nat) (y1 : Int32) (y2 : Int32) (y3 : Int32) (y4 : Int32) (k0 : ¬ y1 < 0) (k1 : ¬ y1 < 4) (sx1 : xs 1 = y1) (sx2 : xs 2 = y2) (sx3 : xs 3 = y3) (sx4 : xs 4 = y4) (hst : l.stackTraces = false) (C : Cx p s m args c cL_law RL D cy A) (hml : c.maxLocals = 8) (hX : va_X b 6 xs s s.heap) (hbl : b < s.heap.size) (hbA : ¬ A b) (w : Wd D A s.heap [(q0, .inr (11, [.ref q1, .int 0, .int 0, .int (-1), .ref q2, .ref q4, .ref q5, .ref q6, .ref q10, .null])), (m0, .inr (12, [.ref m1, .ref m2, .ref m3, .ref m4, .ref m5, .int 0, .ref m6, .int 0, .int 0, .int 0, .int 0, .int 0, .int 0, .int 0, .int 0, .int 0, .int 0, .int (-1), .ref m7, .ref m8, .int 0, .ref m9, .int 0, .ref m10, .ref m11, .ref m12, .ref m13, .ref m14, .int 0, .ref m15, .ref m16, .ref m17]))] H locs) (hl : lv_has ls 8 [(0, .ref b), (1, .ref q0), (2, .ref m0), (3, .ref o0), (4, .int 0)]) (kk : ∀ (H : Heap) (locs : List Loc) (ls : Array Slot), va_S A s.heap H locs → lv_has ls 8 [(0, .ref b), (4, .int 0)] → W p l e room_1 s m args below meth c H locs 600002 7302232 Q (F0 m 2461 ls [])) : W p l e room_1 s m args below meth c H locs 37 29845 Q (F0 m 2197 ls []) := by
  refine lv_aload_n C.1 C.2.1 dL_law_2197 rfl (lv_at hl 1 rfl) ?_
  refine lv_aload_n C.1 C.2.1 dL_law_2198 rfl (lv_at hl 0 rfl) ?_
  refine lv_iload C.1 C.2.1 dL_law_2199 (lv_at hl 4 rfl) ?_
  refine lv_iconst (v := 1) C.1 C.2.1 dL_law_2201 (by decide) ?_
  refine r_iadd C (v := 1) dL_law_2202 (by decide) ?_
  refine r_sld C w hX hbl hbA (v := y1) (vinD (by decide)) sx1 dL_law_2203 ?_
  refine lv_aload_n C.1 C.2.1 dL_law_2204 rfl (lv_at hl 0 rfl) ?_
  refine lv_iload C.1 C.2.1 dL_law_2205 (lv_at hl 4 rfl) ?_
  refine lv_iconst (v := 2) C.1 C.2.1 dL_law_2207 (by decide) ?_
  refine r_iadd C (v := 2) dL_law_2208 (by decide) ?_
  refine r_sld C w hX hbl hbA (v := y2) (vinD (by decide)) sx2 dL_law_2209 ?_
  refine lv_aload_n C.1 C.2.1 dL_law_2210 rfl (lv_at hl 0 rfl) ?_
  refine lv_iload C.1 C.2.1 dL_law_2211 (lv_at hl 4 rfl) ?_
  refine lv_iconst (v := 3) C.1 C.2.1 dL_law_2213 (by decide) ?_
  refine r_iadd C (v := 3) dL_law_2214 (by decide) ?_
  refine r_sld C w hX hbl hbA (v := y3) (vinD (by decide)) sx3 dL_law_2215 ?_
  refine lv_i2l (v := (Int32.toInt64 y3)) C.1 C.2.1 dL_law_2216 rfl ?_
  refine lv_bipush (v := 32) C.1 C.2.1 dL_law_2217 (by decide) ?_
  refine lv_lshl (v := ((Int32.toInt64 y3) <<< (Int32.toInt64 32 &&& 63))) C.1 C.2.1 dL_law_2219 rfl ?_
  refine lv_aload_n C.1 C.2.1 dL_law_2220 rfl (lv_at hl 0 rfl) ?_
  refine lv_iload C.1 C.2.1 dL_law_2221 (lv_at hl 4 rfl) ?_
  refine lv_iconst (v := 4) C.1 C.2.1 dL_law_2223 (by decide) ?_
  refine r_iadd C (v := 4) dL_law_2224 (by decide) ?_
  refine r_sld C w hX hbl hbA (v := y4) (vinD (by decide)) sx4 dL_law_2225 ?_
  refine lv_i2l (v := (Int32.toInt64 y4)) C.1 C.2.1 dL_law_2226 rfl ?_
  refine lv_ldc2 (v := 4294967295) C.1 C.2.1 C.2.2.1 (C.2.2.2.1 _ kl_RL_236) dL_law_2227 ?_
  refine r_land C (v := ((Int32.toInt64 y4) &&& 4294967295)) dL_law_2230 rfl ?_
  refine r_lor C (v := (((Int32.toInt64 y3) <<< (Int32.toInt64 32 &&& 63)) ||| ((Int32.toInt64 y4) &&& 4294967295))) dL_law_2231 rfl ?_
  refine lv_aload_n C.1 C.2.1 dL_law_2232 rfl (lv_at hl 3 rfl) ?_
  refine r_callH C w fh_RL_238 (c_L_write_5 l D cy q0 o0 q1 q2 q4 q5 q6 q10 y1 y2 (((Int32.toInt64 y3) <<< (Int32.toInt64 32 &&& 63)) ||| ((Int32.toInt64 y4) &&& 4294967295)) k0 k1 hst) (hl.1.trans hml.symm) [0] [1] (wr := [(m0, .inr (12, [.ref m1, .ref m2, .ref m3, .ref m4, .ref m5, .int 0, .ref m6, .int 0, .int 0, .int 0, .int 0, .int 0, .int 0, .int 0, .int 0, .int 0, .int 0, .int (-1), .ref m7, .ref m8, .int 0, .ref m9, .int 0, .ref m10, .ref m11, .ref m12, .ref m13, .ref m14, .int 0, .ref m15, .ref m16, .ref m17]))]) ⟨rfl, rfl, rfl, rfl, by decide⟩ rfl rfl ⟨Nat.le_of_ble_eq_true rfl, Nat.le_of_ble_eq_true rfl, Nat.le_of_ble_eq_true rfl⟩ 38 29851 ⟨rfl, rfl, Nat.le_of_ble_eq_true rfl, Nat.le_of_ble_eq_true rfl⟩ dL_law_2233 (fun u H locs hp w => ?_)
  have w : Wd D A s.heap [(m0, .inr (12, [.ref m1, .ref m2, .ref m3, .ref m4, .ref m5, .int 0, .ref m6, .int 0, .int 0, .int 0, .int 0, .int 0, .int 0, .int 0, .int 0, .int 0, .int 0, .int (-1), .ref m7, .ref m8, .int 0, .ref m9, .int 0, .ref m10, .ref m11, .ref m12, .ref m13, .ref m14, .int 0, .ref m15, .ref m16, .ref m17]))] _ _ := w.pick [0] rfl rfl
  refine r_top (g2 := F0 m 2236 ls [.int 1]) rfl ?_
  refine lv_istore (lv' := [(5, .int 1), (0, .ref b), (1, .ref q0), (2, .ref m0), (3, .ref o0), (4, .int 0)]) C.1 C.2.1 dL_law_2236 hl (by decide) rfl (fun ls hl => ?_)
  refine lv_aload_n C.1 C.2.1 dL_law_2238 rfl (lv_at hl 3 rfl) ?_
  refine lv_aload_n C.1 C.2.1 dL_law_2239 rfl (lv_at hl 1 rfl) ?_
  refine lv_iload C.1 C.2.1 dL_law_2240 (lv_at hl 5 rfl) ?_
  refine lv_iconst (v := 1) C.1 C.2.1 dL_law_2242 (by decide) ?_
  refine r_iadd C (v := 1) dL_law_2243 (by decide) ?_
  refine r_sld C w hX hbl hbA (v := y1) (vinD (by decide)) sx1 dL_law_2244 ?_
  refine lv_aload_n C.1 C.2.1 dL_law_2245 rfl (lv_at hl 1 rfl) ?_
  refine lv_iload C.1 C.2.1 dL_law_2246 (lv_at hl 5 rfl) ?_
  refine lv_iconst (v := 2) C.1 C.2.1 dL_law_2248 (by decide) ?_
  refine r_iadd C (v := 2) dL_law_2249 (by decide) ?_
  refine r_sld C w hX hbl hbA (v := y2) (vinD (by decide)) sx2 dL_law_2250 ?_
  refine lv_aload_n C.1 C.2.1 dL_law_2251 rfl (lv_at hl 1 rfl) ?_
  refine lv_iload C.1 C.2.1 dL_law_2252 (lv_at hl 5 rfl) ?_
  refine lv_iconst (v := 3) C.1 C.2.1 dL_law_2254 (by decide) ?_
  refine r_iadd C (v := 3) dL_law_2255 (by decide) ?_
  refine r_sld C w hX hbl hbA (v := y3) (vinD (by decide)) sx3 dL_law_2256 ?_
  refine lv_i2l (v := (Int32.toInt64 y3)) C.1 C.2.1 dL_law_2257 rfl ?_
  refine lv_bipush (v := 32) C.1 C.2.1 dL_law_2258 (by decide) ?_
  refine lv_lshl (v := ((Int32.toInt64 y3) <<< (Int32.toInt64 32 &&& 63))) C.1 C.2.1 dL_law_2260 rfl ?_
  refine lv_aload_n C.1 C.2.1 dL_law_2261 rfl (lv_at hl 1 rfl) ?_
  refine lv_iload C.1 C.2.1 dL_law_2262 (lv_at hl 5 rfl) ?_
  refine lv_iconst (v := 4) C.1 C.2.1 dL_law_2264 (by decide) ?_
  refine r_iadd C (v := 4) dL_law_2265 (by decide) ?_
  refine r_sld C w hX hbl hbA (v := y4) (vinD (by decide)) sx4 dL_law_2266 ?_
  refine lv_i2l (v := (Int32.toInt64 y4)) C.1 C.2.1 dL_law_2267 rfl ?_
  refine lv_ldc2 (v := 4294967295) C.1 C.2.1 C.2.2.1 (C.2.2.2.1 _ kl_RL_236) dL_law_2268 ?_
  refine r_land C (v := ((Int32.toInt64 y4) &&& 4294967295)) dL_law_2271 rfl ?_
  refine r_lor C (v := (((Int32.toInt64 y3) <<< (Int32.toInt64 32 &&& 63)) ||| ((Int32.toInt64 y4) &&& 4294967295))) dL_law_2272 rfl ?_
  refine r_callV C w fv_RL_241 (c_X12_write_5 l D cy m0 m1 m2 m3 m4 m5 m6 m7 m8 m9 m10 m11 m12 m13 m14 m15 m16 m17 y1 y2 (((Int32.toInt64 y3) <<< (Int32.toInt64 32 &&& 63)) ||| ((Int32.toInt64 y4) &&& 4294967295)) k0 (by have h0 := (i_nlt k0); have h1 := (i_nlt k1); have e0 : (0 : Int32).toInt = 0 := (by decide); have e1 : (3 : Int32).toInt = 3 := (by decide); have e2 : (4 : Int32).toInt = 4 := (by decide); rw [fa_lt]; omega)) (hl.1.trans hml.symm) [0] [] (wr := []) ⟨rfl, rfl, rfl, rfl, by decide⟩ 0 rfl rfl rfl rfl rfl ⟨Nat.le_of_ble_eq_true rfl, Nat.le_of_ble_eq_true rfl, Nat.le_of_ble_eq_true rfl⟩ 38 29851 ⟨rfl, rfl, Nat.le_of_ble_eq_true rfl, Nat.le_of_ble_eq_true rfl⟩ dL_law_2273 (fun u H locs hp w => ?_)
  have w : Wd D A s.heap [(m0, .inr (12, [.ref m1, .ref m2, .ref m3, .ref m4, .ref m5, .int 1, .ref m6, .int 0, .int 0, .int 0, .int 0, .int 0, .int 0, .int 0, .int 0, .int 0, .int 0, .int (-1), .ref m7, .ref m8, .int 0, .ref m9, .int 0, .ref m10, .ref m11, .ref m12, .ref m13, .ref m14, .int 0, .ref m15, .ref m16, .ref m17]))] _ _ := w.pick [0] rfl rfl
  refine r_top (g2 := F0 m 2276 ls [.long 0]) rfl ?_
  refine lv_lstore (lv' := [(6, .long 0), (5, .int 1), (0, .ref b), (1, .ref q0), (2, .ref m0), (3, .ref o0), (4, .int 0)]) C.1 C.2.1 dL_law_2276 hl (by decide) rfl (fun ls hl => ?_)
  refine lv_aload_n C.1 C.2.1 dL_law_2278 rfl (lv_at hl 4 rfl) ?_
  refine r_callV C w fv_RL_134 (c_X12_thrown_0 l D cy m0 m1 m2 m3 m4 m5 m6 m7 m8 m9 m10 m11 m12 m13 m14 m15 m16 m17) (hl.1.trans hml.symm) [0] [] (wr := []) ⟨rfl, rfl, rfl, rfl, by decide⟩ 0 rfl rfl rfl rfl rfl ⟨Nat.le_of_ble_eq_true rfl, Nat.le_of_ble_eq_true rfl, Nat.le_of_ble_eq_true rfl⟩ 38 29851 ⟨rfl, rfl, Nat.le_of_ble_eq_true rfl, Nat.le_of_ble_eq_true rfl⟩ dL_law_2279 (fun u H locs hp w => ?_)
  have w : Wd D A s.heap [(m0, .inr (12, [.ref m1, .ref m2, .ref m3, .ref m4, .ref m5, .int 1, .ref m6, .int 0, .int 0, .int 0, .int 0, .int 0, .int 0, .int 0, .int 0, .int 0, .int 0, .int (-1), .ref m7, .ref m8, .int 0, .ref m9, .int 0, .ref m10, .ref m11, .ref m12, .ref m13, .ref m14, .int 0, .ref m15, .ref m16, .ref m17]))] _ _ := w.pick [0] rfl rfl
  refine r_top (g2 := F0 m 2282 ls [.int 1]) rfl ?_
  refine lv_iload C.1 C.2.1 dL_law_2282 (lv_at hl 1 rfl) ?_
  refine b_icmp_eq_t C (tgt := 2289) dL_law_2284 (by decide) (by decide) ?_
  refine lv_iload C.1 C.2.1 dL_law_2289 (lv_at hl 1 rfl) ?_
  refine b_if_ne_t C (tgt := 2305) dL_law_2291 (by decide) (by decide) ?_
  refine lv_goto (tgt := 2461) C.1 C.2.1 dL_law_2305 (by decide) ?_
  refine W.widen (k := 600002) (n := 7302232) (Nat.le_of_ble_eq_true rfl) (Nat.le_of_ble_eq_true rfl) ?_
  exact kk _ _ _ w.2.2 (lv_sub hl [2, 6] rfl)
set_option maxRecDepth 100000 in
set_option maxHeartbeats 4000000 in
theorem t_L_32 {p : Program} {l : Launch} {e : Env} {s : State} {m : MethodId} {args : Array Value} {below : List Frame} {meth : Method} {c : Code} {Q : State → Prop} {D : va_G} {cy : Nat → ClassId} {A : Nat → Prop} {H : Heap} {locs : List Loc} {ls : Array Slot} {xs : Nat → Int32} (b q0 q1 q2 q4 q5 q6 q10 q3 q7 q8 q9 q11 q12 q13 q14 q15 q16 q17 m0 m1 m2 m3 m4 m5 m6 m7 m8 m9 m10 m11 m12 m13 m14 m15 m16 m17 o0 : Nat) (hst : l.stackTraces = false) (C : Cx p s m args c cL_law RL D cy A) (hml : c.maxLocals = 8) (hX : va_X b 6 xs s s.heap) (hbl : b < s.heap.size) (hbA : ¬ A b) (w : Wd D A s.heap [(q0, .inr (11, [.ref q1, .int 0, .int 0, .int (-1), .ref q2, .ref q4, .ref q5, .ref q6, .ref q10, .null])), (q1, .inl (cy 0, 900, .inl (fun _ => 0))), (q2, .inr (5, [.ref q3, .int 0, .int 0, .int 0, .int 0, .int 0, .int 0, .null])), (q3, .inl (cy 0, 0, .inl (fun _ => 0))), (q4, .inl (cy 4, 5, .inr (.inr (.inr (.inr (va_up (fun _ => none) 0 (some q10))))))), (q5, .inl (cy 4, 3, .inr (.inr (.inr (.inr (fun _ => none)))))), (q6, .inr (10, [.ref q7, .ref q8, .ref q9])), (q7, .inl (cy 1, 4, .inl (upd (upd (upd (upd (fun _ => 0) 0 (-1)) 1 (-1)) 2 (-1)) 3 (-1)))), (q8, .inl (cy 1, 4, .inl (fun _ => 0))), (q9, .inl (cy 2, 160, .inr (.inl (fun _ => 0)))), (q10, .inr (9, [.int 0, .int 2, .int 20, .int 120, .int 0, .int 0, .int 0, .int 0, .ref q11, .int 0, .ref q12, .ref q13, .int 0, .ref q14, .ref q15, .ref q16, .ref q17])), (q11, .inl (cy 1, 6, .inl (fun _ => 0))), (q12, .inl (cy 1, 20, .inl (fun _ => 0))), (q13, .inl (cy 1, 20, .inl (fun _ => 0))), (q14, .inl (cy 1, 300, .inl (fun _ => 0))), (q15, .inl (cy 1, 300, .inl (fun _ => 0))), (q16, .inl (cy 1, 300, .inl (fun _ => 0))), (q17, .inl (cy 1, 300, .inl (fun _ => 0))), (m0, .inr (12, [.ref m1, .ref m2, .ref m3, .ref m4, .ref m5, .int 0, .ref m6, .int 0, .int 0, .int 0, .int 0, .int 0, .int 0, .int 0, .int 0, .int 0, .int 0, .int (-1), .ref m7, .ref m8, .int 0, .ref m9, .int 0, .ref m10, .ref m11, .ref m12, .ref m13, .ref m14, .int 0, .ref m15, .ref m16, .ref m17])), (m2, .inl (cy 1, 1868, .inl (fun _ => 0))), (m3, .inl (cy 1, 1868, .inl (fun _ => 0))), (m4, .inl (cy 1, 5604, .inl (fun _ => 0))), (m5, .inl (cy 3, 3, .inl (fun _ => 0))), (m6, .inl (cy 1, 900, .inl (fun _ => 0))), (m7, .inl (cy 1, 1830, .inl (fun _ => 0))), (m8, .inl (cy 1, 1830, .inl (fun _ => 0))), (m9, .inl (cy 2, 2465, .inr (.inl (fun _ => 0)))), (m10, .inl (cy 1, 7201, .inl (fun _ => 0))), (m11, .inl (cy 1, 1830, .inl (fun _ => 0))), (m12, .inl (cy 1, 5, .inl (fun _ => 0))), (m13, .inl (cy 1, 6, .inl (fun _ => 0))), (m14, .inl (cy 1, 6, .inl (fun _ => 0))), (m15, .inl (cy 1, 4, .inl (upd (upd (upd (upd (fun _ => 0) 0 (-1)) 1 (-1)) 2 (-1)) 3 (-1)))), (m16, .inl (cy 1, 4, .inl (fun _ => 0))), (m17, .inl (cy 2, 160, .inr (.inl (fun _ => 0)))), (m1, .inl (cy 1, 1868, .inl (upd (upd (upd (fun _ => 0) 1 2) 2 20) 3 120))), (o0, .inl (cy 2, 1, .inr (.inl (fun _ => 0))))] H locs) (hl : lv_has ls 8 [(0, .ref b), (1, .ref q0), (2, .ref m0), (3, .ref o0), (4, .int 0)]) (kk : ∀ (H : Heap) (locs : List Loc) (ls : Array Slot), va_S A s.heap H locs → lv_has ls 8 [(0, .ref b), (4, .int 0)] → W p l e room_1 s m args below meth c H locs 600002 7302232 Q (F0 m 2461 ls [])) : W p l e room_1 s m args below meth c H locs 37 29845 Q (F0 m 2197 ls []) := by
  obtain ⟨y1, sx1⟩ : ∃ y, xs 1 = y := ⟨_, rfl⟩
  obtain ⟨y2, sx2⟩ : ∃ y, xs 2 = y := ⟨_, rfl⟩
  obtain ⟨y3, sx3⟩ : ∃ y, xs 3 = y := ⟨_, rfl⟩
  obtain ⟨y4, sx4⟩ : ∃ y, xs 4 = y := ⟨_, rfl⟩
  obtain ⟨y5, sx5⟩ : ∃ y, xs 5 = y := ⟨_, rfl⟩
  by_cases g1 : y1 < 0
  · exact s_L_32_0 b q0 q1 q2 q4 q5 q6 q10 m0 m1 m2 m3 m4 m5 m6 m7 m8 m9 m10 m11 m12 m13 m14 m15 m16 m17 o0 y1 y2 y3 y4 g1 sx1 sx2 sx3 sx4 hst C hml hX hbl hbA (w.pick [0, 18] rfl rfl) hl kk
  · by_cases g2 : y1 = 1
    · subst g2
      exact s_L_32_1 b q0 q1 q2 q4 q5 q6 q10 q7 q8 q9 m0 m1 m2 m3 m4 m5 m6 m7 m8 m9 m10 m11 m12 m13 m14 m15 m16 m17 o0 y2 y3 y4 sx1 sx2 sx3 sx4 hst C hml hX hbl hbA (w.pick [0, 6, 7, 18, 32] rfl rfl) hl kk
    · by_cases g3 : y1 = 2
      · subst g3
        exact s_L_32_2 b q0 q1 q2 q4 q5 q6 q10 q7 q8 q9 m0 m1 m2 m3 m4 m5 m6 m7 m8 m9 m10 m11 m12 m13 m14 m15 m16 m17 o0 y2 y3 y4 sx1 sx2 sx3 sx4 hst C hml hX hbl hbA (w.pick [0, 6, 7, 18, 32] rfl rfl) hl kk
      · by_cases g4 : y1 = 3
        · subst g4
          exact s_L_32_3 b q0 q1 q2 q4 q5 q6 q10 q7 q8 q9 m0 m1 m2 m3 m4 m5 m6 m7 m8 m9 m10 m11 m12 m13 m14 m15 m16 m17 o0 y2 y3 y4 sx1 sx2 sx3 sx4 hst C hml hX hbl hbA (w.pick [0, 6, 7, 18, 32] rfl rfl) hl kk
        · by_cases g5 : y1 = 0
          · subst g5
            exact s_L_32_4 b q0 q1 q2 q4 q5 q6 q10 q7 q8 q9 m0 m1 m2 m3 m4 m5 m6 m7 m8 m9 m10 m11 m12 m13 m14 m15 m16 m17 o0 y2 y3 y4 sx1 sx2 sx3 sx4 hst C hml hX hbl hbA (w.pick [0, 6, 7, 18, 32] rfl rfl) hl kk
          · by_cases g6 : y1 < 4
            · exfalso
              have h0 := i_nlt g1
              have h1 := (not_congr (fa_eq _ _)).mp g2
              have h2 := (not_congr (fa_eq _ _)).mp g3
              have h3 := (not_congr (fa_eq _ _)).mp g4
              have h4 := (not_congr (fa_eq _ _)).mp g5
              have h5 := i_lt g6
              have e0 : (0 : Int32).toInt = 0 := (by decide)
              have e1 : (1 : Int32).toInt = 1 := (by decide)
              have e2 : (2 : Int32).toInt = 2 := (by decide)
              have e3 : (3 : Int32).toInt = 3 := (by decide)
              have e4 : (4 : Int32).toInt = 4 := (by decide)
              omega
            · exact s_L_32_5 b q0 q1 q2 q4 q5 q6 q10 m0 m1 m2 m3 m4 m5 m6 m7 m8 m9 m10 m11 m12 m13 m14 m15 m16 m17 o0 y1 y2 y3 y4 g1 g6 sx1 sx2 sx3 sx4 hst C hml hX hbl hbA (w.pick [0, 18] rfl rfl) hl kk
theorem dL_law_2308 : decode cL_law 2308 = .ok (.aload_n 1, 1) := by decide +kernel
theorem dL_law_2309 : decode cL_law 2309 = .ok (.aload_n 0, 1) := by decide +kernel
theorem dL_law_2310 : decode cL_law 2310 = .ok (.iload 4, 2) := by decide +kernel
theorem dL_law_2312 : decode cL_law 2312 = .ok (.iconst 1, 1) := by decide +kernel
theorem dL_law_2313 : decode cL_law 2313 = .ok (.iadd, 1) := by decide +kernel
theorem dL_law_2314 : decode cL_law 2314 = .ok (.iaload, 1) := by decide +kernel
theorem dL_law_2315 : decode cL_law 2315 = .ok (.aload_n 3, 1) := by decide +kernel
theorem dL_law_2316 : decode cL_law 2316 = .ok (.invokestatic 242, 3) := by decide +kernel
theorem fh_RL_242 : FH RL 242 yL_pour cL_pour 4 (some .int) [(0, 9, 12, 19), (0, 9, 15, 97)] 3 := ⟨⟨gw_mem (by decide +kernel) (by decide +kernel), gw_mem (by decide +kernel) (by decide +kernel), gw_mem (by decide +kernel) (by decide +kernel), gw_mem (by decide +kernel) (by decide +kernel)⟩, ⟨by decide +kernel, by decide +kernel, by decide +kernel⟩⟩
theorem dL_law_2319 : decode cL_law 2319 = .ok (.istore 5, 2) := by decide +kernel
theorem dL_law_2321 : decode cL_law 2321 = .ok (.aload_n 2, 1) := by decide +kernel
theorem dL_law_2322 : decode cL_law 2322 = .ok (.aload_n 0, 1) := by decide +kernel
theorem dL_law_2323 : decode cL_law 2323 = .ok (.iload 4, 2) := by decide +kernel
theorem dL_law_2325 : decode cL_law 2325 = .ok (.iconst 1, 1) := by decide +kernel
theorem dL_law_2326 : decode cL_law 2326 = .ok (.iadd, 1) := by decide +kernel
theorem dL_law_2327 : decode cL_law 2327 = .ok (.iaload, 1) := by decide +kernel
theorem dL_law_2328 : decode cL_law 2328 = .ok (.invokevirtual 244, 3) := by decide +kernel
theorem fv_RL_244 : FV RL 244 yX12_pour cX12_pour 4 (some .int) 1 := ⟨⟨gw_mem (by decide +kernel) (by decide +kernel), gw_mem (by decide +kernel) (by decide +kernel), gw_mem (by decide +kernel) (by decide +kernel), gw_mem (by decide +kernel) (by decide +kernel), gw_mem (by decide +kernel) (by decide +kernel)⟩, ⟨by decide +kernel, by decide +kernel, by decide +kernel⟩⟩
theorem dL_law_2331 : decode cL_law 2331 = .ok (.istore 6, 2) := by decide +kernel
theorem dL_law_2333 : decode cL_law 2333 = .ok (.aload_n 2, 1) := by decide +kernel
theorem dL_law_2334 : decode cL_law 2334 = .ok (.invokevirtual 134, 3) := by decide +kernel
theorem dL_law_2337 : decode cL_law 2337 = .ok (.iload 5, 2) := by decide +kernel
theorem dL_law_2339 : decode cL_law 2339 = .ok (.if_icmp .eq 5, 3) := by decide +kernel
theorem dL_law_2344 : decode cL_law 2344 = .ok (.iload 5, 2) := by decide +kernel
theorem dL_law_2346 : decode cL_law 2346 = .ok (.ifCond .ne 15, 3) := by decide +kernel
theorem dL_law_2361 : decode cL_law 2361 = .ok (.goto 100, 3) := by decide +kernel
set_option maxRecDepth 100000 in
set_option maxHeartbeats 4000000 in
theorem s_L_33_0 {p : Program} {l : Launch} {e : Env} {s : State} {m : MethodId} {args : Array Value} {below : List Frame} {meth : Method} {c : Code} {Q : State → Prop} {D : va_G} {cy : Nat → ClassId} {A : Nat → Prop} {H : Heap} {locs : List Loc} {ls : Array Slot} {xs : Nat → Int32} (b q0 q1 q2 q4 q5 q6 q10 m0 m1 m2 m3 m4 m5 m6 m7 m8 m9 m10 m11 m12 m13 m14 m15 m16 m17 o0 : Nat) (y1 : Int32) (k0 : y1 < 0) (sx1 : xs 1 = y1) (hst : l.stackTraces = false) (C : Cx p s m args c cL_law RL D cy A) (hml : c.maxLocals = 8) (hX : va_X b 6 xs s s.heap) (hbl : b < s.heap.size) (hbA : ¬ A b) (w : Wd D A s.heap [(q0, .inr (11, [.ref q1, .int 0, .int 0, .int (-1), .ref q2, .ref q4, .ref q5, .ref q6, .ref q10, .null])), (m0, .inr (12, [.ref m1, .ref m2, .ref m3, .ref m4, .ref m5, .int 0, .ref m6, .int 0, .int 0, .int 0, .int 0, .int 0, .int 0, .int 0, .int 0, .int 0, .int 0, .int (-1), .ref m7, .ref m8, .int 0, .ref m9, .int 0, .ref m10, .ref m11, .ref m12, .ref m13, .ref m14, .int 0, .ref m15, .ref m16, .ref m17]))] H locs) (hl : lv_has ls 8 [(0, .ref b), (1, .ref q0), (2, .ref m0), (3, .ref o0), (4, .int 0)]) (kk : ∀ (H : Heap) (locs : List Loc) (ls : Array Slot), va_S A s.heap H locs → lv_has ls 8 [(0, .ref b), (4, .int 0)] → W p l e room_1 s m args below meth c H locs 600002 7302232 Q (F0 m 2461 ls [])) : W p l e room_1 s m args below meth c H locs 37 29845 Q (F0 m 2308 ls []) := by
  refine lv_aload_n C.1 C.2.1 dL_law_2308 rfl (lv_at hl 1 rfl) ?_
  refine lv_aload_n C.1 C.2.1 dL_law_2309 rfl (lv_at hl 0 rfl) ?_
  refine lv_iload C.1 C.2.1 dL_law_2310 (lv_at hl 4 rfl) ?_
  refine lv_iconst (v := 1) C.1 C.2.1 dL_law_2312 (by decide) ?_
  refine r_iadd C (v := 1) dL_law_2313 (by decide) ?_
  refine r_sld C w hX hbl hbA (v := y1) (vinD (by decide)) sx1 dL_law_2314 ?_
  refine lv_aload_n C.1 C.2.1 dL_law_2315 rfl (lv_at hl 3 rfl) ?_
  refine r_callH C w fh_RL_242 (c_L_pour_0 l D cy q0 o0 q1 q2 q4 q5 q6 q10 y1 k0 hst) (hl.1.trans hml.symm) [0] [1] (wr := [(m0, .inr (12, [.ref m1, .ref m2, .ref m3, .ref m4, .ref m5, .int 0, .ref m6, .int 0, .int 0, .int 0, .int 0, .int 0, .int 0, .int 0, .int 0, .int 0, .int 0, .int (-1), .ref m7, .ref m8, .int 0, .ref m9, .int 0, .ref m10, .ref m11, .ref m12, .ref m13, .ref m14, .int 0, .ref m15, .ref m16, .ref m17]))]) ⟨rfl, rfl, rfl, rfl, by decide⟩ rfl rfl ⟨Nat.le_of_ble_eq_true rfl, Nat.le_of_ble_eq_true rfl, Nat.le_of_ble_eq_true rfl⟩ 38 29851 ⟨rfl, rfl, Nat.le_of_ble_eq_true rfl, Nat.le_of_ble_eq_true rfl⟩ dL_law_2316 (fun u H locs hp w => ?_)
  have w : Wd D A s.heap [(m0, .inr (12, [.ref m1, .ref m2, .ref m3, .ref m4, .ref m5, .int 0, .ref m6, .int 0, .int 0, .int 0, .int 0, .int 0, .int 0, .int 0, .int 0, .int 0, .int 0, .int (-1), .ref m7, .ref m8, .int 0, .ref m9, .int 0, .ref m10, .ref m11, .ref m12, .ref m13, .ref m14, .int 0, .ref m15, .ref m16, .ref m17]))] _ _ := w.pick [0] rfl rfl
  refine r_top (g2 := F0 m 2319 ls [.int 1]) rfl ?_
  refine lv_istore (lv' := [(5, .int 1), (0, .ref b), (1, .ref q0), (2, .ref m0), (3, .ref o0), (4, .int 0)]) C.1 C.2.1 dL_law_2319 hl (by decide) rfl (fun ls hl => ?_)
  refine lv_aload_n C.1 C.2.1 dL_law_2321 rfl (lv_at hl 3 rfl) ?_
  refine lv_aload_n C.1 C.2.1 dL_law_2322 rfl (lv_at hl 1 rfl) ?_
  refine lv_iload C.1 C.2.1 dL_law_2323 (lv_at hl 5 rfl) ?_
  refine lv_iconst (v := 1) C.1 C.2.1 dL_law_2325 (by decide) ?_
  refine r_iadd C (v := 1) dL_law_2326 (by decide) ?_
  refine r_sld C w hX hbl hbA (v := y1) (vinD (by decide)) sx1 dL_law_2327 ?_
  refine r_callV C w fv_RL_244 (c_X12_pour_0 l D cy m0 m1 m2 m3 m4 m5 m6 m7 m8 m9 m10 m11 m12 m13 m14 m15 m16 m17 y1 k0) (hl.1.trans hml.symm) [0] [] (wr := []) ⟨rfl, rfl, rfl, rfl, by decide⟩ 0 rfl rfl rfl rfl rfl ⟨Nat.le_of_ble_eq_true rfl, Nat.le_of_ble_eq_true rfl, Nat.le_of_ble_eq_true rfl⟩ 38 29851 ⟨rfl, rfl, Nat.le_of_ble_eq_true rfl, Nat.le_of_ble_eq_true rfl⟩ dL_law_2328 (fun u H locs hp w => ?_)
  have w : Wd D A s.heap [(m0, .inr (12, [.ref m1, .ref m2, .ref m3, .ref m4, .ref m5, .int 1, .ref m6, .int 0, .int 0, .int 0, .int 0, .int 0, .int 0, .int 0, .int 0, .int 0, .int 0, .int (-1), .ref m7, .ref m8, .int 0, .ref m9, .int 0, .ref m10, .ref m11, .ref m12, .ref m13, .ref m14, .int 0, .ref m15, .ref m16, .ref m17]))] _ _ := w.pick [0] rfl rfl
  refine r_top (g2 := F0 m 2331 ls [.int 0]) rfl ?_
  refine lv_istore (lv' := [(6, .int 0), (5, .int 1), (0, .ref b), (1, .ref q0), (2, .ref m0), (3, .ref o0), (4, .int 0)]) C.1 C.2.1 dL_law_2331 hl (by decide) rfl (fun ls hl => ?_)
  refine lv_aload_n C.1 C.2.1 dL_law_2333 rfl (lv_at hl 4 rfl) ?_
  refine r_callV C w fv_RL_134 (c_X12_thrown_0 l D cy m0 m1 m2 m3 m4 m5 m6 m7 m8 m9 m10 m11 m12 m13 m14 m15 m16 m17) (hl.1.trans hml.symm) [0] [] (wr := []) ⟨rfl, rfl, rfl, rfl, by decide⟩ 0 rfl rfl rfl rfl rfl ⟨Nat.le_of_ble_eq_true rfl, Nat.le_of_ble_eq_true rfl, Nat.le_of_ble_eq_true rfl⟩ 38 29851 ⟨rfl, rfl, Nat.le_of_ble_eq_true rfl, Nat.le_of_ble_eq_true rfl⟩ dL_law_2334 (fun u H locs hp w => ?_)
  have w : Wd D A s.heap [(m0, .inr (12, [.ref m1, .ref m2, .ref m3, .ref m4, .ref m5, .int 1, .ref m6, .int 0, .int 0, .int 0, .int 0, .int 0, .int 0, .int 0, .int 0, .int 0, .int 0, .int (-1), .ref m7, .ref m8, .int 0, .ref m9, .int 0, .ref m10, .ref m11, .ref m12, .ref m13, .ref m14, .int 0, .ref m15, .ref m16, .ref m17]))] _ _ := w.pick [0] rfl rfl
  refine r_top (g2 := F0 m 2337 ls [.int 1]) rfl ?_
  refine lv_iload C.1 C.2.1 dL_law_2337 (lv_at hl 1 rfl) ?_
  refine b_icmp_eq_t C (tgt := 2344) dL_law_2339 (by decide) (by decide) ?_
  refine lv_iload C.1 C.2.1 dL_law_2344 (lv_at hl 1 rfl) ?_
  refine b_if_ne_t C (tgt := 2361) dL_law_2346 (by decide) (by decide) ?_
  refine lv_goto (tgt := 2461) C.1 C.2.1 dL_law_2361 (by decide) ?_
  refine W.widen (k := 600002) (n := 7302232) (Nat.le_of_ble_eq_true rfl) (Nat.le_of_ble_eq_true rfl) ?_
  exact kk _ _ _ w.2.2 (lv_sub hl [2, 6] rfl)
set_option maxRecDepth 100000 in
set_option maxHeartbeats 4000000 in
theorem s_L_33_1 {p : Program} {l : Launch} {e : Env} {s : State} {m : MethodId} {args : Array Value} {below : List Frame} {meth : Method} {c : Code} {Q : State → Prop} {D : va_G} {cy : Nat → ClassId} {A : Nat → Prop} {H : Heap} {locs : List Loc} {ls : Array Slot} {xs : Nat → Int32} (b q0 q1 q2 q4 q5 q6 q10 q7 q8 q9 m0 m1 m2 m3 m4 m5 m6 m7 m8 m9 m10 m11 m12 m13 m14 m15 m16 m17 o0 : Nat) (sx1 : xs 1 = 1) (hst : l.stackTraces = false) (C : Cx p s m args c cL_law RL D cy A) (hml : c.maxLocals = 8) (hX : va_X b 6 xs s s.heap) (hbl : b < s.heap.size) (hbA : ¬ A b) (w : Wd D A s.heap [(q0, .inr (11, [.ref q1, .int 0, .int 0, .int (-1), .ref q2, .ref q4, .ref q5, .ref q6, .ref q10, .null])), (q6, .inr (10, [.ref q7, .ref q8, .ref q9])), (q7, .inl (cy 1, 4, .inl (upd (upd (upd (upd (fun _ => 0) 0 (-1)) 1 (-1)) 2 (-1)) 3 (-1)))), (m0, .inr (12, [.ref m1, .ref m2, .ref m3, .ref m4, .ref m5, .int 0, .ref m6, .int 0, .int 0, .int 0, .int 0, .int 0, .int 0, .int 0, .int 0, .int 0, .int 0, .int (-1), .ref m7, .ref m8, .int 0, .ref m9, .int 0, .ref m10, .ref m11, .ref m12, .ref m13, .ref m14, .int 0, .ref m15, .ref m16, .ref m17])), (m15, .inl (cy 1, 4, .inl (upd (upd (upd (upd (fun _ => 0) 0 (-1)) 1 (-1)) 2 (-1)) 3 (-1))))] H locs) (hl : lv_has ls 8 [(0, .ref b), (1, .ref q0), (2, .ref m0), (3, .ref o0), (4, .int 0)]) (kk : ∀ (H : Heap) (locs : List Loc) (ls : Array Slot), va_S A s.heap H locs → lv_has ls 8 [(0, .ref b), (4, .int 0)] → W p l e room_1 s m args below meth c H locs 600002 7302232 Q (F0 m 2461 ls [])) : W p l e room_1 s m args below meth c H locs 37 29845 Q (F0 m 2308 ls []) := by
  refine lv_aload_n C.1 C.2.1 dL_law_2308 rfl (lv_at hl 1 rfl) ?_
  refine lv_aload_n C.1 C.2.1 dL_law_2309 rfl (lv_at hl 0 rfl) ?_
  refine lv_iload C.1 C.2.1 dL_law_2310 (lv_at hl 4 rfl) ?_
  refine lv_iconst (v := 1) C.1 C.2.1 dL_law_2312 (by decide) ?_
  refine r_iadd C (v := 1) dL_law_2313 (by decide) ?_
  refine r_sld C w hX hbl hbA (v := 1) (vinD (by decide)) sx1 dL_law_2314 ?_
  refine lv_aload_n C.1 C.2.1 dL_law_2315 rfl (lv_at hl 3 rfl) ?_
  refine r_callH C w fh_RL_242 (c_L_pour_1 l D cy q0 o0 q1 q2 q4 q5 q6 q10 q7 q8 q9 hst) (hl.1.trans hml.symm) [0, 1, 2] [3, 4] (wr := [(m0, .inr (12, [.ref m1, .ref m2, .ref m3, .ref m4, .ref m5, .int 0, .ref m6, .int 0, .int 0, .int 0, .int 0, .int 0, .int 0, .int 0, .int 0, .int 0, .int 0, .int (-1), .ref m7, .ref m8, .int 0, .ref m9, .int 0, .ref m10, .ref m11, .ref m12, .ref m13, .ref m14, .int 0, .ref m15, .ref m16, .ref m17])), (m15, .inl (cy 1, 4, .inl (upd (upd (upd (upd (fun _ => 0) 0 (-1)) 1 (-1)) 2 (-1)) 3 (-1))))]) ⟨rfl, rfl, rfl, rfl, by decide⟩ rfl rfl ⟨Nat.le_of_ble_eq_true rfl, Nat.le_of_ble_eq_true rfl, Nat.le_of_ble_eq_true rfl⟩ 38 29851 ⟨rfl, rfl, Nat.le_of_ble_eq_true rfl, Nat.le_of_ble_eq_true rfl⟩ dL_law_2316 (fun u H locs hp w => ?_)
  have w : Wd D A s.heap [(m0, .inr (12, [.ref m1, .ref m2, .ref m3, .ref m4, .ref m5, .int 0, .ref m6, .int 0, .int 0, .int 0, .int 0, .int 0, .int 0, .int 0, .int 0, .int 0, .int 0, .int (-1), .ref m7, .ref m8, .int 0, .ref m9, .int 0, .ref m10, .ref m11, .ref m12, .ref m13, .ref m14, .int 0, .ref m15, .ref m16, .ref m17])), (m15, .inl (cy 1, 4, .inl (upd (upd (upd (upd (fun _ => 0) 0 (-1)) 1 (-1)) 2 (-1)) 3 (-1))))] _ _ := w.pick [0, 1] rfl rfl
  refine r_top (g2 := F0 m 2319 ls [.int 2]) rfl ?_
  refine lv_istore (lv' := [(5, .int 2), (0, .ref b), (1, .ref q0), (2, .ref m0), (3, .ref o0), (4, .int 0)]) C.1 C.2.1 dL_law_2319 hl (by decide) rfl (fun ls hl => ?_)
  refine lv_aload_n C.1 C.2.1 dL_law_2321 rfl (lv_at hl 3 rfl) ?_
  refine lv_aload_n C.1 C.2.1 dL_law_2322 rfl (lv_at hl 1 rfl) ?_
  refine lv_iload C.1 C.2.1 dL_law_2323 (lv_at hl 5 rfl) ?_
  refine lv_iconst (v := 1) C.1 C.2.1 dL_law_2325 (by decide) ?_
  refine r_iadd C (v := 1) dL_law_2326 (by decide) ?_
  refine r_sld C w hX hbl hbA (v := 1) (vinD (by decide)) sx1 dL_law_2327 ?_
  refine r_callV C w fv_RL_244 (c_X12_pour_1 l D cy m0 m1 m2 m3 m4 m5 m6 m7 m8 m9 m10 m11 m12 m13 m14 m15 m16 m17) (hl.1.trans hml.symm) [0, 1] [] (wr := []) ⟨rfl, rfl, rfl, rfl, by decide⟩ 0 rfl rfl rfl rfl rfl ⟨Nat.le_of_ble_eq_true rfl, Nat.le_of_ble_eq_true rfl, Nat.le_of_ble_eq_true rfl⟩ 38 29851 ⟨rfl, rfl, Nat.le_of_ble_eq_true rfl, Nat.le_of_ble_eq_true rfl⟩ dL_law_2328 (fun u H locs hp w => ?_)
  have w : Wd D A s.heap [(m0, .inr (12, [.ref m1, .ref m2, .ref m3, .ref m4, .ref m5, .int 2, .ref m6, .int 0, .int 0, .int 0, .int 0, .int 0, .int 0, .int 0, .int 0, .int 0, .int 0, .int (-1), .ref m7, .ref m8, .int 0, .ref m9, .int 0, .ref m10, .ref m11, .ref m12, .ref m13, .ref m14, .int 0, .ref m15, .ref m16, .ref m17]))] _ _ := w.pick [0] rfl rfl
  refine r_top (g2 := F0 m 2331 ls [.int 0]) rfl ?_
  refine lv_istore (lv' := [(6, .int 0), (5, .int 2), (0, .ref b), (1, .ref q0), (2, .ref m0), (3, .ref o0), (4, .int 0)]) C.1 C.2.1 dL_law_2331 hl (by decide) rfl (fun ls hl => ?_)
  refine lv_aload_n C.1 C.2.1 dL_law_2333 rfl (lv_at hl 4 rfl) ?_
  refine r_callV C w fv_RL_134 (c_X12_thrown_10 l D cy m0 m1 m2 m3 m4 m5 m6 m7 m8 m9 m10 m11 m12 m13 m14 m15 m16 m17) (hl.1.trans hml.symm) [0] [] (wr := []) ⟨rfl, rfl, rfl, rfl, by decide⟩ 0 rfl rfl rfl rfl rfl ⟨Nat.le_of_ble_eq_true rfl, Nat.le_of_ble_eq_true rfl, Nat.le_of_ble_eq_true rfl⟩ 38 29851 ⟨rfl, rfl, Nat.le_of_ble_eq_true rfl, Nat.le_of_ble_eq_true rfl⟩ dL_law_2334 (fun u H locs hp w => ?_)
  have w : Wd D A s.heap [(m0, .inr (12, [.ref m1, .ref m2, .ref m3, .ref m4, .ref m5, .int 2, .ref m6, .int 0, .int 0, .int 0, .int 0, .int 0, .int 0, .int 0, .int 0, .int 0, .int 0, .int (-1), .ref m7, .ref m8, .int 0, .ref m9, .int 0, .ref m10, .ref m11, .ref m12, .ref m13, .ref m14, .int 0, .ref m15, .ref m16, .ref m17]))] _ _ := w.pick [0] rfl rfl
  refine r_top (g2 := F0 m 2337 ls [.int 2]) rfl ?_
  refine lv_iload C.1 C.2.1 dL_law_2337 (lv_at hl 1 rfl) ?_
  refine b_icmp_eq_t C (tgt := 2344) dL_law_2339 (by decide) (by decide) ?_
  refine lv_iload C.1 C.2.1 dL_law_2344 (lv_at hl 1 rfl) ?_
  refine b_if_ne_t C (tgt := 2361) dL_law_2346 (by decide) (by decide) ?_
  refine lv_goto (tgt := 2461) C.1 C.2.1 dL_law_2361 (by decide) ?_
  refine W.widen (k := 600002) (n := 7302232) (Nat.le_of_ble_eq_true rfl) (Nat.le_of_ble_eq_true rfl) ?_
  exact kk _ _ _ w.2.2 (lv_sub hl [2, 6] rfl)
set_option maxRecDepth 100000 in
set_option maxHeartbeats 4000000 in
theorem s_L_33_2 {p : Program} {l : Launch} {e : Env} {s : State} {m : MethodId} {args : Array Value} {below : List Frame} {meth : Method} {c : Code} {Q : State → Prop} {D : va_G} {cy : Nat → ClassId} {A : Nat → Prop} {H : Heap} {locs : List Loc} {ls : Array Slot} {xs : Nat → Int32} (b q0 q1 q2 q4 q5 q6 q10 q7 q8 q9 m0 m1 m2 m3 m4 m5 m6 m7 m8 m9 m10 m11 m12 m13 m14 m15 m16 m17 o0 : Nat) (sx1 : xs 1 = 2) (hst : l.stackTraces = false) (C : Cx p s m args c cL_law RL D cy A) (hml : c.maxLocals = 8) (hX : va_X b 6 xs s s.heap) (hbl : b < s.heap.size) (hbA : ¬ A b) (w : Wd D A s.heap [(q0, .inr (11, [.ref q1, .int 0, .int 0, .int (-1), .ref q2, .ref q4, .ref q5, .ref q6, .ref q10, .null])), (q6, .inr (10, [.ref q7, .ref q8, .ref q9])), (q7, .inl (cy 1, 4, .inl (upd (upd (upd (upd (fun _ => 0) 0 (-1)) 1 (-1)) 2 (-1)) 3 (-1)))), (m0, .inr (12, [.ref m1, .ref m2, .ref m3, .ref m4, .ref m5, .int 0, .ref m6, .int 0, .int 0, .int 0, .int 0, .int 0, .int 0, .int 0, .int 0, .int 0, .int 0, .int (-1), .ref m7, .ref m8, .int 0, .ref m9, .int 0, .ref m10, .ref m11, .ref m12, .ref m13, .ref m14, .int 0, .ref m15, .ref m16, .ref m17])), (m15, .inl (cy 1, 4, .inl (upd (upd (upd (upd (fun _ => 0) 0 (-1)) 1 (-1)) 2 (-1)) 3 (-1))))] H locs) (hl : lv_has ls 8 [(0, .ref b), (1, .ref q0), (2, .ref m0), (3, .ref o0), (4, .int 0)]) (kk : ∀ (H : Heap) (locs : List Loc) (ls : Array Slot), va_S A s.heap H locs → lv_has ls 8 [(0, .ref b), (4, .int 0)] → W p l e room_1 s m args below meth c H locs 600002 7302232 Q (F0 m 2461 ls [])) : W p l e room_1 s m args below meth c H locs 37 29845 Q (F0 m 2308 ls []) := by
  refine lv_aload_n C.1 C.2.1 dL_law_2308 rfl (lv_at hl 1 rfl) ?_
  refine lv_aload_n C.1 C.2.1 dL_law_2309 rfl (lv_at hl 0 rfl) ?_
  refine lv_iload C.1 C.2.1 dL_law_2310 (lv_at hl 4 rfl) ?_
  refine lv_iconst (v := 1) C.1 C.2.1 dL_law_2312 (by decide) ?_
  refine r_iadd C (v := 1) dL_law_2313 (by decide) ?_
  refine r_sld C w hX hbl hbA (v := 2) (vinD (by decide)) sx1 dL_law_2314 ?_
  refine lv_aload_n C.1 C.2.1 dL_law_2315 rfl (lv_at hl 3 rfl) ?_
  refine r_callH C w fh_RL_242 (c_L_pour_2 l D cy q0 o0 q1 q2 q4 q5 q6 q10 q7 q8 q9 hst) (hl.1.trans hml.symm) [0, 1, 2] [3, 4] (wr := [(m0, .inr (12, [.ref m1, .ref m2, .ref m3, .ref m4, .ref m5, .int 0, .ref m6, .int 0, .int 0, .int 0, .int 0, .int 0, .int 0, .int 0, .int 0, .int 0, .int 0, .int (-1), .ref m7, .ref m8, .int 0, .ref m9, .int 0, .ref m10, .ref m11, .ref m12, .ref m13, .ref m14, .int 0, .ref m15, .ref m16, .ref m17])), (m15, .inl (cy 1, 4, .inl (upd (upd (upd (upd (fun _ => 0) 0 (-1)) 1 (-1)) 2 (-1)) 3 (-1))))]) ⟨rfl, rfl, rfl, rfl, by decide⟩ rfl rfl ⟨Nat.le_of_ble_eq_true rfl, Nat.le_of_ble_eq_true rfl, Nat.le_of_ble_eq_true rfl⟩ 38 29851 ⟨rfl, rfl, Nat.le_of_ble_eq_true rfl, Nat.le_of_ble_eq_true rfl⟩ dL_law_2316 (fun u H locs hp w => ?_)
  have w : Wd D A s.heap [(m0, .inr (12, [.ref m1, .ref m2, .ref m3, .ref m4, .ref m5, .int 0, .ref m6, .int 0, .int 0, .int 0, .int 0, .int 0, .int 0, .int 0, .int 0, .int 0, .int 0, .int (-1), .ref m7, .ref m8, .int 0, .ref m9, .int 0, .ref m10, .ref m11, .ref m12, .ref m13, .ref m14, .int 0, .ref m15, .ref m16, .ref m17])), (m15, .inl (cy 1, 4, .inl (upd (upd (upd (upd (fun _ => 0) 0 (-1)) 1 (-1)) 2 (-1)) 3 (-1))))] _ _ := w.pick [0, 1] rfl rfl
  refine r_top (g2 := F0 m 2319 ls [.int 2]) rfl ?_
  refine lv_istore (lv' := [(5, .int 2), (0, .ref b), (1, .ref q0), (2, .ref m0), (3, .ref o0), (4, .int 0)]) C.1 C.2.1 dL_law_2319 hl (by decide) rfl (fun ls hl => ?_)
  refine lv_aload_n C.1 C.2.1 dL_law_2321 rfl (lv_at hl 3 rfl) ?_
  refine lv_aload_n C.1 C.2.1 dL_law_2322 rfl (lv_at hl 1 rfl) ?_
  refine lv_iload C.1 C.2.1 dL_law_2323 (lv_at hl 5 rfl) ?_
  refine lv_iconst (v := 1) C.1 C.2.1 dL_law_2325 (by decide) ?_
  refine r_iadd C (v := 1) dL_law_2326 (by decide) ?_
  refine r_sld C w hX hbl hbA (v := 2) (vinD (by decide)) sx1 dL_law_2327 ?_
  refine r_callV C w fv_RL_244 (c_X12_pour_2 l D cy m0 m1 m2 m3 m4 m5 m6 m7 m8 m9 m10 m11 m12 m13 m14 m15 m16 m17) (hl.1.trans hml.symm) [0, 1] [] (wr := []) ⟨rfl, rfl, rfl, rfl, by decide⟩ 0 rfl rfl rfl rfl rfl ⟨Nat.le_of_ble_eq_true rfl, Nat.le_of_ble_eq_true rfl, Nat.le_of_ble_eq_true rfl⟩ 38 29851 ⟨rfl, rfl, Nat.le_of_ble_eq_true rfl, Nat.le_of_ble_eq_true rfl⟩ dL_law_2328 (fun u H locs hp w => ?_)
  have w : Wd D A s.heap [(m0, .inr (12, [.ref m1, .ref m2, .ref m3, .ref m4, .ref m5, .int 2, .ref m6, .int 0, .int 0, .int 0, .int 0, .int 0, .int 0, .int 0, .int 0, .int 0, .int 0, .int (-1), .ref m7, .ref m8, .int 0, .ref m9, .int 0, .ref m10, .ref m11, .ref m12, .ref m13, .ref m14, .int 0, .ref m15, .ref m16, .ref m17]))] _ _ := w.pick [0] rfl rfl
  refine r_top (g2 := F0 m 2331 ls [.int 0]) rfl ?_
  refine lv_istore (lv' := [(6, .int 0), (5, .int 2), (0, .ref b), (1, .ref q0), (2, .ref m0), (3, .ref o0), (4, .int 0)]) C.1 C.2.1 dL_law_2331 hl (by decide) rfl (fun ls hl => ?_)
  refine lv_aload_n C.1 C.2.1 dL_law_2333 rfl (lv_at hl 4 rfl) ?_
  refine r_callV C w fv_RL_134 (c_X12_thrown_10 l D cy m0 m1 m2 m3 m4 m5 m6 m7 m8 m9 m10 m11 m12 m13 m14 m15 m16 m17) (hl.1.trans hml.symm) [0] [] (wr := []) ⟨rfl, rfl, rfl, rfl, by decide⟩ 0 rfl rfl rfl rfl rfl ⟨Nat.le_of_ble_eq_true rfl, Nat.le_of_ble_eq_true rfl, Nat.le_of_ble_eq_true rfl⟩ 38 29851 ⟨rfl, rfl, Nat.le_of_ble_eq_true rfl, Nat.le_of_ble_eq_true rfl⟩ dL_law_2334 (fun u H locs hp w => ?_)
  have w : Wd D A s.heap [(m0, .inr (12, [.ref m1, .ref m2, .ref m3, .ref m4, .ref m5, .int 2, .ref m6, .int 0, .int 0, .int 0, .int 0, .int 0, .int 0, .int 0, .int 0, .int 0, .int 0, .int (-1), .ref m7, .ref m8, .int 0, .ref m9, .int 0, .ref m10, .ref m11, .ref m12, .ref m13, .ref m14, .int 0, .ref m15, .ref m16, .ref m17]))] _ _ := w.pick [0] rfl rfl
  refine r_top (g2 := F0 m 2337 ls [.int 2]) rfl ?_
  refine lv_iload C.1 C.2.1 dL_law_2337 (lv_at hl 1 rfl) ?_
  refine b_icmp_eq_t C (tgt := 2344) dL_law_2339 (by decide) (by decide) ?_
  refine lv_iload C.1 C.2.1 dL_law_2344 (lv_at hl 1 rfl) ?_
  refine b_if_ne_t C (tgt := 2361) dL_law_2346 (by decide) (by decide) ?_
  refine lv_goto (tgt := 2461) C.1 C.2.1 dL_law_2361 (by decide) ?_
  refine W.widen (k := 600002) (n := 7302232) (Nat.le_of_ble_eq_true rfl) (Nat.le_of_ble_eq_true rfl) ?_
  exact kk _ _ _ w.2.2 (lv_sub hl [2, 6] rfl)
set_option maxRecDepth 100000 in
set_option maxHeartbeats 4000000 in
theorem s_L_33_3 {p : Program} {l : Launch} {e : Env} {s : State} {m : MethodId} {args : Array Value} {below : List Frame} {meth : Method} {c : Code} {Q : State → Prop} {D : va_G} {cy : Nat → ClassId} {A : Nat → Prop} {H : Heap} {locs : List Loc} {ls : Array Slot} {xs : Nat → Int32} (b q0 q1 q2 q4 q5 q6 q10 q7 q8 q9 m0 m1 m2 m3 m4 m5 m6 m7 m8 m9 m10 m11 m12 m13 m14 m15 m16 m17 o0 : Nat) (sx1 : xs 1 = 3) (hst : l.stackTraces = false) (C : Cx p s m args c cL_law RL D cy A) (hml : c.maxLocals = 8) (hX : va_X b 6 xs s s.heap) (hbl : b < s.heap.size) (hbA : ¬ A b) (w : Wd D A s.heap [(q0, .inr (11, [.ref q1, .int 0, .int 0, .int (-1), .ref q2, .ref q4, .ref q5, .ref q6, .ref q10, .null])), (q6, .inr (10, [.ref q7, .ref q8, .ref q9])), (q7, .inl (cy 1, 4, .inl (upd (upd (upd (upd (fun _ => 0) 0 (-1)) 1 (-1)) 2 (-1)) 3 (-1)))), (m0, .inr (12, [.ref m1, .ref m2, .ref m3, .ref m4, .ref m5, .int 0, .ref m6, .int 0, .int 0, .int 0, .int 0, .int 0, .int 0, .int 0, .int 0, .int 0, .int 0, .int (-1), .ref m7, .ref m8, .int 0, .ref m9, .int 0, .ref m10, .ref m11, .ref m12, .ref m13, .ref m14, .int 0, .ref m15, .ref m16, .ref m17])), (m15, .inl (cy 1, 4, .inl (upd (upd (upd (upd (fun _ => 0) 0 (-1)) 1 (-1)) 2 (-1)) 3 (-1))))] H locs) (hl : lv_has ls 8 [(0, .ref b), (1, .ref q0), (2, .ref m0), (3, .ref o0), (4, .int 0)]) (kk : ∀ (H : Heap) (locs : List Loc) (ls : Array Slot), va_S A s.heap H locs → lv_has ls 8 [(0, .ref b), (4, .int 0)] → W p l e room_1 s m args below meth c H locs 600002 7302232 Q (F0 m 2461 ls [])) : W p l e room_1 s m args below meth c H locs 37 29845 Q (F0 m 2308 ls []) := by
  refine lv_aload_n C.1 C.2.1 dL_law_2308 rfl (lv_at hl 1 rfl) ?_
  refine lv_aload_n C.1 C.2.1 dL_law_2309 rfl (lv_at hl 0 rfl) ?_
  refine lv_iload C.1 C.2.1 dL_law_2310 (lv_at hl 4 rfl) ?_
  refine lv_iconst (v := 1) C.1 C.2.1 dL_law_2312 (by decide) ?_
  refine r_iadd C (v := 1) dL_law_2313 (by decide) ?_
  refine r_sld C w hX hbl hbA (v := 3) (vinD (by decide)) sx1 dL_law_2314 ?_
  refine lv_aload_n C.1 C.2.1 dL_law_2315 rfl (lv_at hl 3 rfl) ?_
  refine r_callH C w fh_RL_242 (c_L_pour_3 l D cy q0 o0 q1 q2 q4 q5 q6 q10 q7 q8 q9 hst) (hl.1.trans hml.symm) [0, 1, 2] [3, 4] (wr := [(m0, .inr (12, [.ref m1, .ref m2, .ref m3, .ref m4, .ref m5, .int 0, .ref m6, .int 0, .int 0, .int 0, .int 0, .int 0, .int 0, .int 0, .int 0, .int 0, .int 0, .int (-1), .ref m7, .ref m8, .int 0, .ref m9, .int 0, .ref m10, .ref m11, .ref m12, .ref m13, .ref m14, .int 0, .ref m15, .ref m16, .ref m17])), (m15, .inl (cy 1, 4, .inl (upd (upd (upd (upd (fun _ => 0) 0 (-1)) 1 (-1)) 2 (-1)) 3 (-1))))]) ⟨rfl, rfl, rfl, rfl, by decide⟩ rfl rfl ⟨Nat.le_of_ble_eq_true rfl, Nat.le_of_ble_eq_true rfl, Nat.le_of_ble_eq_true rfl⟩ 38 29851 ⟨rfl, rfl, Nat.le_of_ble_eq_true rfl, Nat.le_of_ble_eq_true rfl⟩ dL_law_2316 (fun u H locs hp w => ?_)
  have w : Wd D A s.heap [(m0, .inr (12, [.ref m1, .ref m2, .ref m3, .ref m4, .ref m5, .int 0, .ref m6, .int 0, .int 0, .int 0, .int 0, .int 0, .int 0, .int 0, .int 0, .int 0, .int 0, .int (-1), .ref m7, .ref m8, .int 0, .ref m9, .int 0, .ref m10, .ref m11, .ref m12, .ref m13, .ref m14, .int 0, .ref m15, .ref m16, .ref m17])), (m15, .inl (cy 1, 4, .inl (upd (upd (upd (upd (fun _ => 0) 0 (-1)) 1 (-1)) 2 (-1)) 3 (-1))))] _ _ := w.pick [0, 1] rfl rfl
  refine r_top (g2 := F0 m 2319 ls [.int 2]) rfl ?_
  refine lv_istore (lv' := [(5, .int 2), (0, .ref b), (1, .ref q0), (2, .ref m0), (3, .ref o0), (4, .int 0)]) C.1 C.2.1 dL_law_2319 hl (by decide) rfl (fun ls hl => ?_)
  refine lv_aload_n C.1 C.2.1 dL_law_2321 rfl (lv_at hl 3 rfl) ?_
  refine lv_aload_n C.1 C.2.1 dL_law_2322 rfl (lv_at hl 1 rfl) ?_
  refine lv_iload C.1 C.2.1 dL_law_2323 (lv_at hl 5 rfl) ?_
  refine lv_iconst (v := 1) C.1 C.2.1 dL_law_2325 (by decide) ?_
  refine r_iadd C (v := 1) dL_law_2326 (by decide) ?_
  refine r_sld C w hX hbl hbA (v := 3) (vinD (by decide)) sx1 dL_law_2327 ?_
  refine r_callV C w fv_RL_244 (c_X12_pour_3 l D cy m0 m1 m2 m3 m4 m5 m6 m7 m8 m9 m10 m11 m12 m13 m14 m15 m16 m17) (hl.1.trans hml.symm) [0, 1] [] (wr := []) ⟨rfl, rfl, rfl, rfl, by decide⟩ 0 rfl rfl rfl rfl rfl ⟨Nat.le_of_ble_eq_true rfl, Nat.le_of_ble_eq_true rfl, Nat.le_of_ble_eq_true rfl⟩ 38 29851 ⟨rfl, rfl, Nat.le_of_ble_eq_true rfl, Nat.le_of_ble_eq_true rfl⟩ dL_law_2328 (fun u H locs hp w => ?_)
  have w : Wd D A s.heap [(m0, .inr (12, [.ref m1, .ref m2, .ref m3, .ref m4, .ref m5, .int 2, .ref m6, .int 0, .int 0, .int 0, .int 0, .int 0, .int 0, .int 0, .int 0, .int 0, .int 0, .int (-1), .ref m7, .ref m8, .int 0, .ref m9, .int 0, .ref m10, .ref m11, .ref m12, .ref m13, .ref m14, .int 0, .ref m15, .ref m16, .ref m17]))] _ _ := w.pick [0] rfl rfl
  refine r_top (g2 := F0 m 2331 ls [.int 0]) rfl ?_
  refine lv_istore (lv' := [(6, .int 0), (5, .int 2), (0, .ref b), (1, .ref q0), (2, .ref m0), (3, .ref o0), (4, .int 0)]) C.1 C.2.1 dL_law_2331 hl (by decide) rfl (fun ls hl => ?_)
  refine lv_aload_n C.1 C.2.1 dL_law_2333 rfl (lv_at hl 4 rfl) ?_
  refine r_callV C w fv_RL_134 (c_X12_thrown_10 l D cy m0 m1 m2 m3 m4 m5 m6 m7 m8 m9 m10 m11 m12 m13 m14 m15 m16 m17) (hl.1.trans hml.symm) [0] [] (wr := []) ⟨rfl, rfl, rfl, rfl, by decide⟩ 0 rfl rfl rfl rfl rfl ⟨Nat.le_of_ble_eq_true rfl, Nat.le_of_ble_eq_true rfl, Nat.le_of_ble_eq_true rfl⟩ 38 29851 ⟨rfl, rfl, Nat.le_of_ble_eq_true rfl, Nat.le_of_ble_eq_true rfl⟩ dL_law_2334 (fun u H locs hp w => ?_)
  have w : Wd D A s.heap [(m0, .inr (12, [.ref m1, .ref m2, .ref m3, .ref m4, .ref m5, .int 2, .ref m6, .int 0, .int 0, .int 0, .int 0, .int 0, .int 0, .int 0, .int 0, .int 0, .int 0, .int (-1), .ref m7, .ref m8, .int 0, .ref m9, .int 0, .ref m10, .ref m11, .ref m12, .ref m13, .ref m14, .int 0, .ref m15, .ref m16, .ref m17]))] _ _ := w.pick [0] rfl rfl
  refine r_top (g2 := F0 m 2337 ls [.int 2]) rfl ?_
  refine lv_iload C.1 C.2.1 dL_law_2337 (lv_at hl 1 rfl) ?_
  refine b_icmp_eq_t C (tgt := 2344) dL_law_2339 (by decide) (by decide) ?_
  refine lv_iload C.1 C.2.1 dL_law_2344 (lv_at hl 1 rfl) ?_
  refine b_if_ne_t C (tgt := 2361) dL_law_2346 (by decide) (by decide) ?_
  refine lv_goto (tgt := 2461) C.1 C.2.1 dL_law_2361 (by decide) ?_
  refine W.widen (k := 600002) (n := 7302232) (Nat.le_of_ble_eq_true rfl) (Nat.le_of_ble_eq_true rfl) ?_
  exact kk _ _ _ w.2.2 (lv_sub hl [2, 6] rfl)
set_option maxRecDepth 100000 in
set_option maxHeartbeats 4000000 in
theorem s_L_33_4 {p : Program} {l : Launch} {e : Env} {s : State} {m : MethodId} {args : Array Value} {below : List Frame} {meth : Method} {c : Code} {Q : State → Prop} {D : va_G} {cy : Nat → ClassId} {A : Nat → Prop} {H : Heap} {locs : List Loc} {ls : Array Slot} {xs : Nat → Int32} (b q0 q1 q2 q4 q5 q6 q10 q7 q8 q9 m0 m1 m2 m3 m4 m5 m6 m7 m8 m9 m10 m11 m12 m13 m14 m15 m16 m17 o0 : Nat) (sx1 : xs 1 = 0) (hst : l.stackTraces = false) (C : Cx p s m args c cL_law RL D cy A) (hml : c.maxLocals = 8) (hX : va_X b 6 xs s s.heap) (hbl : b < s.heap.size) (hbA : ¬ A b) (w : Wd D A s.heap [(q0, .inr (11, [.ref q1, .int 0, .int 0, .int (-1), .ref q2, .ref q4, .ref q5, .ref q6, .ref q10, .null])), (q6, .inr (10, [.ref q7, .ref q8, .ref q9])), (q7, .inl (cy 1, 4, .inl (upd (upd (upd (upd (fun _ => 0) 0 (-1)) 1 (-1)) 2 (-1)) 3 (-1)))), (m0, .inr (12, [.ref m1, .ref m2, .ref m3, .ref m4, .ref m5, .int 0, .ref m6, .int 0, .int 0, .int 0, .int 0, .int 0, .int 0, .int 0, .int 0, .int 0, .int 0, .int (-1), .ref m7, .ref m8, .int 0, .ref m9, .int 0, .ref m10, .ref m11, .ref m12, .ref m13, .ref m14, .int 0, .ref m15, .ref m16, .ref m17])), (m15, .inl (cy 1, 4, .inl (upd (upd (upd (upd (fun _ => 0) 0 (-1)) 1 (-1)) 2 (-1)) 3 (-1))))] H locs) (hl : lv_has ls 8 [(0, .ref b), (1, .ref q0), (2, .ref m0), (3, .ref o0), (4, .int 0)]) (kk : ∀ (H : Heap) (locs : List Loc) (ls : Array Slot), va_S A s.heap H locs → lv_has ls 8 [(0, .ref b), (4, .int 0)] → W p l e room_1 s m args below meth c H locs 600002 7302232 Q (F0 m 2461 ls [])) : W p l e room_1 s m args below meth c H locs 37 29845 Q (F0 m 2308 ls []) := by
  refine lv_aload_n C.1 C.2.1 dL_law_2308 rfl (lv_at hl 1 rfl) ?_
  refine lv_aload_n C.1 C.2.1 dL_law_2309 rfl (lv_at hl 0 rfl) ?_
  refine lv_iload C.1 C.2.1 dL_law_2310 (lv_at hl 4 rfl) ?_
  refine lv_iconst (v := 1) C.1 C.2.1 dL_law_2312 (by decide) ?_
  refine r_iadd C (v := 1) dL_law_2313 (by decide) ?_
  refine r_sld C w hX hbl hbA (v := 0) (vinD (by decide)) sx1 dL_law_2314 ?_
  refine lv_aload_n C.1 C.2.1 dL_law_2315 rfl (lv_at hl 3 rfl) ?_
  refine r_callH C w fh_RL_242 (c_L_pour_4 l D cy q0 o0 q1 q2 q4 q5 q6 q10 q7 q8 q9 hst) (hl.1.trans hml.symm) [0, 1, 2] [3, 4] (wr := [(m0, .inr (12, [.ref m1, .ref m2, .ref m3, .ref m4, .ref m5, .int 0, .ref m6, .int 0, .int 0, .int 0, .int 0, .int 0, .int 0, .int 0, .int 0, .int 0, .int 0, .int (-1), .ref m7, .ref m8, .int 0, .ref m9, .int 0, .ref m10, .ref m11, .ref m12, .ref m13, .ref m14, .int 0, .ref m15, .ref m16, .ref m17])), (m15, .inl (cy 1, 4, .inl (upd (upd (upd (upd (fun _ => 0) 0 (-1)) 1 (-1)) 2 (-1)) 3 (-1))))]) ⟨rfl, rfl, rfl, rfl, by decide⟩ rfl rfl ⟨Nat.le_of_ble_eq_true rfl, Nat.le_of_ble_eq_true rfl, Nat.le_of_ble_eq_true rfl⟩ 38 29851 ⟨rfl, rfl, Nat.le_of_ble_eq_true rfl, Nat.le_of_ble_eq_true rfl⟩ dL_law_2316 (fun u H locs hp w => ?_)
  have w : Wd D A s.heap [(m0, .inr (12, [.ref m1, .ref m2, .ref m3, .ref m4, .ref m5, .int 0, .ref m6, .int 0, .int 0, .int 0, .int 0, .int 0, .int 0, .int 0, .int 0, .int 0, .int 0, .int (-1), .ref m7, .ref m8, .int 0, .ref m9, .int 0, .ref m10, .ref m11, .ref m12, .ref m13, .ref m14, .int 0, .ref m15, .ref m16, .ref m17])), (m15, .inl (cy 1, 4, .inl (upd (upd (upd (upd (fun _ => 0) 0 (-1)) 1 (-1)) 2 (-1)) 3 (-1))))] _ _ := w.pick [0, 1] rfl rfl
  refine r_top (g2 := F0 m 2319 ls [.int 2]) rfl ?_
  refine lv_istore (lv' := [(5, .int 2), (0, .ref b), (1, .ref q0), (2, .ref m0), (3, .ref o0), (4, .int 0)]) C.1 C.2.1 dL_law_2319 hl (by decide) rfl (fun ls hl => ?_)
  refine lv_aload_n C.1 C.2.1 dL_law_2321 rfl (lv_at hl 3 rfl) ?_
  refine lv_aload_n C.1 C.2.1 dL_law_2322 rfl (lv_at hl 1 rfl) ?_
  refine lv_iload C.1 C.2.1 dL_law_2323 (lv_at hl 5 rfl) ?_
  refine lv_iconst (v := 1) C.1 C.2.1 dL_law_2325 (by decide) ?_
  refine r_iadd C (v := 1) dL_law_2326 (by decide) ?_
  refine r_sld C w hX hbl hbA (v := 0) (vinD (by decide)) sx1 dL_law_2327 ?_
  refine r_callV C w fv_RL_244 (c_X12_pour_4 l D cy m0 m1 m2 m3 m4 m5 m6 m7 m8 m9 m10 m11 m12 m13 m14 m15 m16 m17) (hl.1.trans hml.symm) [0, 1] [] (wr := []) ⟨rfl, rfl, rfl, rfl, by decide⟩ 0 rfl rfl rfl rfl rfl ⟨Nat.le_of_ble_eq_true rfl, Nat.le_of_ble_eq_true rfl, Nat.le_of_ble_eq_true rfl⟩ 38 29851 ⟨rfl, rfl, Nat.le_of_ble_eq_true rfl, Nat.le_of_ble_eq_true rfl⟩ dL_law_2328 (fun u H locs hp w => ?_)
  have w : Wd D A s.heap [(m0, .inr (12, [.ref m1, .ref m2, .ref m3, .ref m4, .ref m5, .int 2, .ref m6, .int 0, .int 0, .int 0, .int 0, .int 0, .int 0, .int 0, .int 0, .int 0, .int 0, .int (-1), .ref m7, .ref m8, .int 0, .ref m9, .int 0, .ref m10, .ref m11, .ref m12, .ref m13, .ref m14, .int 0, .ref m15, .ref m16, .ref m17]))] _ _ := w.pick [0] rfl rfl
  refine r_top (g2 := F0 m 2331 ls [.int 0]) rfl ?_
  refine lv_istore (lv' := [(6, .int 0), (5, .int 2), (0, .ref b), (1, .ref q0), (2, .ref m0), (3, .ref o0), (4, .int 0)]) C.1 C.2.1 dL_law_2331 hl (by decide) rfl (fun ls hl => ?_)
  refine lv_aload_n C.1 C.2.1 dL_law_2333 rfl (lv_at hl 4 rfl) ?_
  refine r_callV C w fv_RL_134 (c_X12_thrown_10 l D cy m0 m1 m2 m3 m4 m5 m6 m7 m8 m9 m10 m11 m12 m13 m14 m15 m16 m17) (hl.1.trans hml.symm) [0] [] (wr := []) ⟨rfl, rfl, rfl, rfl, by decide⟩ 0 rfl rfl rfl rfl rfl ⟨Nat.le_of_ble_eq_true rfl, Nat.le_of_ble_eq_true rfl, Nat.le_of_ble_eq_true rfl⟩ 38 29851 ⟨rfl, rfl, Nat.le_of_ble_eq_true rfl, Nat.le_of_ble_eq_true rfl⟩ dL_law_2334 (fun u H locs hp w => ?_)
  have w : Wd D A s.heap [(m0, .inr (12, [.ref m1, .ref m2, .ref m3, .ref m4, .ref m5, .int 2, .ref m6, .int 0, .int 0, .int 0, .int 0, .int 0, .int 0, .int 0, .int 0, .int 0, .int 0, .int (-1), .ref m7, .ref m8, .int 0, .ref m9, .int 0, .ref m10, .ref m11, .ref m12, .ref m13, .ref m14, .int 0, .ref m15, .ref m16, .ref m17]))] _ _ := w.pick [0] rfl rfl
  refine r_top (g2 := F0 m 2337 ls [.int 2]) rfl ?_
  refine lv_iload C.1 C.2.1 dL_law_2337 (lv_at hl 1 rfl) ?_
  refine b_icmp_eq_t C (tgt := 2344) dL_law_2339 (by decide) (by decide) ?_
  refine lv_iload C.1 C.2.1 dL_law_2344 (lv_at hl 1 rfl) ?_
  refine b_if_ne_t C (tgt := 2361) dL_law_2346 (by decide) (by decide) ?_
  refine lv_goto (tgt := 2461) C.1 C.2.1 dL_law_2361 (by decide) ?_
  refine W.widen (k := 600002) (n := 7302232) (Nat.le_of_ble_eq_true rfl) (Nat.le_of_ble_eq_true rfl) ?_
  exact kk _ _ _ w.2.2 (lv_sub hl [2, 6] rfl)
set_option maxRecDepth 100000 in
set_option maxHeartbeats 4000000 in
theorem s_L_33_5 {p : Program} {l : Launch} {e : Env} {s : State} {m : MethodId} {args : Array Value} {below : List Frame} {meth : Method} {c : Code} {Q : State → Prop} {D : va_G} {cy : Nat → ClassId} {A : Nat → Prop} {H : Heap} {locs : List Loc} {ls : Array Slot} {xs : Nat → Int32} (b q0 q1 q2 q4 q5 q6 q10 m0 m1 m2 m3 m4 m5 m6 m7 m8 m9 m10 m11 m12 m13 m14 m15 m16 m17 o0 : Nat) (y1 : Int32) (k0 : ¬ y1 < 0) (k1 : ¬ y1 < 4) (sx1 : xs 1 = y1) (hst : l.stackTraces = false) (C : Cx p s m args c cL_law RL D cy A) (hml : c.maxLocals = 8) (hX : va_X b 6 xs s s.heap) (hbl : b < s.heap.size) (hbA : ¬ A b) (w : Wd D A s.heap [(q0, .inr (11, [.ref q1, .int 0, .int 0, .int (-1), .ref q2, .ref q4, .ref q5, .ref q6, .ref q10, .null])), (m0, .inr (12, [.ref m1, .ref m2, .ref m3, .ref m4, .ref m5, .int 0, .ref m6, .int 0, .int 0, .int 0, .int 0, .int 0, .int 0, .int 0, .int 0, .int 0, .int 0, .int (-1), .ref m7, .ref m8, .int 0, .ref m9, .int 0, .ref m10, .ref m11, .ref m12, .ref m13, .ref m14, .int 0, .ref m15, .ref m16, .ref m17]))] H locs) (hl : lv_has ls 8 [(0, .ref b), (1, .ref q0), (2, .ref m0), (3, .ref o0), (4, .int 0)]) (kk : ∀ (H : Heap) (locs : List Loc) (ls : Array Slot), va_S A s.heap H locs → lv_has ls 8 [(0, .ref b), (4, .int 0)] → W p l e room_1 s m args below meth c H locs 600002 7302232 Q (F0 m 2461 ls [])) : W p l e room_1 s m args below meth c H locs 37 29845 Q (F0 m 2308 ls []) := by
  refine lv_aload_n C.1 C.2.1 dL_law_2308 rfl (lv_at hl 1 rfl) ?_
  refine lv_aload_n C.1 C.2.1 dL_law_2309 rfl (lv_at hl 0 rfl) ?_
  refine lv_iload C.1 C.2.1 dL_law_2310 (lv_at hl 4 rfl) ?_
  refine lv_iconst (v := 1) C.1 C.2.1 dL_law_2312 (by decide) ?_
  refine r_iadd C (v := 1) dL_law_2313 (by decide) ?_
  refine r_sld C w hX hbl hbA (v := y1) (vinD (by decide)) sx1 dL_law_2314 ?_
  refine lv_aload_n C.1 C.2.1 dL_law_2315 rfl (lv_at hl 3 rfl) ?_
  refine r_callH C w fh_RL_242 (c_L_pour_5 l D cy q0 o0 q1 q2 q4 q5 q6 q10 y1 k0 k1 hst) (hl.1.trans hml.symm) [0] [1] (wr := [(m0, .inr (12, [.ref m1, .ref m2, .ref m3, .ref m4, .ref m5, .int 0, .ref m6, .int 0, .int 0, .int 0, .int 0, .int 0, .int 0, .int 0, .int 0, .int 0, .int 0, .int (-1), .ref m7, .ref m8, .int 0, .ref m9, .int 0, .ref m10, .ref m11, .ref m12, .ref m13, .ref m14, .int 0, .ref m15, .ref m16, .ref m17]))]) ⟨rfl, rfl, rfl, rfl, by decide⟩ rfl rfl ⟨Nat.le_of_ble_eq_true rfl, Nat.le_of_ble_eq_true rfl, Nat.le_of_ble_eq_true rfl⟩ 38 29851 ⟨rfl, rfl, Nat.le_of_ble_eq_true rfl, Nat.le_of_ble_eq_true rfl⟩ dL_law_2316 (fun u H locs hp w => ?_)
  have w : Wd D A s.heap [(m0, .inr (12, [.ref m1, .ref m2, .ref m3, .ref m4, .ref m5, .int 0, .ref m6, .int 0, .int 0, .int 0, .int 0, .int 0, .int 0, .int 0, .int 0, .int 0, .int 0, .int (-1), .ref m7, .ref m8, .int 0, .ref m9, .int 0, .ref m10, .ref m11, .ref m12, .ref m13, .ref m14, .int 0, .ref m15, .ref m16, .ref m17]))] _ _ := w.pick [0] rfl rfl
  refine r_top (g2 := F0 m 2319 ls [.int 1]) rfl ?_
  refine lv_istore (lv' := [(5, .int 1), (0, .ref b), (1, .ref q0), (2, .ref m0), (3, .ref o0), (4, .int 0)]) C.1 C.2.1 dL_law_2319 hl (by decide) rfl (fun ls hl => ?_)
  refine lv_aload_n C.1 C.2.1 dL_law_2321 rfl (lv_at hl 3 rfl) ?_
  refine lv_aload_n C.1 C.2.1 dL_law_2322 rfl (lv_at hl 1 rfl) ?_
  refine lv_iload C.1 C.2.1 dL_law_2323 (lv_at hl 5 rfl) ?_
  refine lv_iconst (v := 1) C.1 C.2.1 dL_law_2325 (by decide) ?_
  refine r_iadd C (v := 1) dL_law_2326 (by decide) ?_
  refine r_sld C w hX hbl hbA (v := y1) (vinD (by decide)) sx1 dL_law_2327 ?_
  refine r_callV C w fv_RL_244 (c_X12_pour_5 l D cy m0 m1 m2 m3 m4 m5 m6 m7 m8 m9 m10 m11 m12 m13 m14 m15 m16 m17 y1 k0 (by have h0 := (i_nlt k0); have h1 := (i_nlt k1); have e0 : (0 : Int32).toInt = 0 := (by decide); have e1 : (3 : Int32).toInt = 3 := (by decide); have e2 : (4 : Int32).toInt = 4 := (by decide); rw [fa_lt]; omega)) (hl.1.trans hml.symm) [0] [] (wr := []) ⟨rfl, rfl, rfl, rfl, by decide⟩ 0 rfl rfl rfl rfl rfl ⟨Nat.le_of_ble_eq_true rfl, Nat.le_of_ble_eq_true rfl, Nat.le_of_ble_eq_true rfl⟩ 38 29851 ⟨rfl, rfl, Nat.le_of_ble_eq_true rfl, Nat.le_of_ble_eq_true rfl⟩ dL_law_2328 (fun u H locs hp w => ?_)
  have w : Wd D A s.heap [(m0, .inr (12, [.ref m1, .ref m2, .ref m3, .ref m4, .ref m5, .int 1, .ref m6, .int 0, .int 0, .int 0, .int 0, .int 0, .int 0, .int 0, .int 0, .int 0, .int 0, .int (-1), .ref m7, .ref m8, .int 0, .ref m9, .int 0, .ref m10, .ref m11, .ref m12, .ref m13, .ref m14, .int 0, .ref m15, .ref m16, .ref m17]))] _ _ := w.pick [0] rfl rfl
  refine r_top (g2 := F0 m 2331 ls [.int 0]) rfl ?_
  refine lv_istore (lv' := [(6, .int 0), (5, .int 1), (0, .ref b), (1, .ref q0), (2, .ref m0), (3, .ref o0), (4, .int 0)]) C.1 C.2.1 dL_law_2331 hl (by decide) rfl (fun ls hl => ?_)
  refine lv_aload_n C.1 C.2.1 dL_law_2333 rfl (lv_at hl 4 rfl) ?_
  refine r_callV C w fv_RL_134 (c_X12_thrown_0 l D cy m0 m1 m2 m3 m4 m5 m6 m7 m8 m9 m10 m11 m12 m13 m14 m15 m16 m17) (hl.1.trans hml.symm) [0] [] (wr := []) ⟨rfl, rfl, rfl, rfl, by decide⟩ 0 rfl rfl rfl rfl rfl ⟨Nat.le_of_ble_eq_true rfl, Nat.le_of_ble_eq_true rfl, Nat.le_of_ble_eq_true rfl⟩ 38 29851 ⟨rfl, rfl, Nat.le_of_ble_eq_true rfl, Nat.le_of_ble_eq_true rfl⟩ dL_law_2334 (fun u H locs hp w => ?_)
  have w : Wd D A s.heap [(m0, .inr (12, [.ref m1, .ref m2, .ref m3, .ref m4, .ref m5, .int 1, .ref m6, .int 0, .int 0, .int 0, .int 0, .int 0, .int 0, .int 0, .int 0, .int 0, .int 0, .int (-1), .ref m7, .ref m8, .int 0, .ref m9, .int 0, .ref m10, .ref m11, .ref m12, .ref m13, .ref m14, .int 0, .ref m15, .ref m16, .ref m17]))] _ _ := w.pick [0] rfl rfl
  refine r_top (g2 := F0 m 2337 ls [.int 1]) rfl ?_
  refine lv_iload C.1 C.2.1 dL_law_2337 (lv_at hl 1 rfl) ?_
  refine b_icmp_eq_t C (tgt := 2344) dL_law_2339 (by decide) (by decide) ?_
  refine lv_iload C.1 C.2.1 dL_law_2344 (lv_at hl 1 rfl) ?_
  refine b_if_ne_t C (tgt := 2361) dL_law_2346 (by decide) (by decide) ?_
  refine lv_goto (tgt := 2461) C.1 C.2.1 dL_law_2361 (by decide) ?_
  refine W.widen (k := 600002) (n := 7302232) (Nat.le_of_ble_eq_true rfl) (Nat.le_of_ble_eq_true rfl) ?_
  exact kk _ _ _ w.2.2 (lv_sub hl [2, 6] rfl)
set_option maxRecDepth 100000 in
set_option maxHeartbeats 4000000 in
theorem t_L_33 {p : Program} {l : Launch} {e : Env} {s : State} {m : MethodId} {args : Array Value} {below : List Frame} {meth : Method} {c : Code} {Q : State → Prop} {D : va_G} {cy : Nat → ClassId} {A : Nat → Prop} {H : Heap} {locs : List Loc} {ls : Array Slot} {xs : Nat → Int32} (b q0 q1 q2 q4 q5 q6 q10 q3 q7 q8 q9 q11 q12 q13 q14 q15 q16 q17 m0 m1 m2 m3 m4 m5 m6 m7 m8 m9 m10 m11 m12 m13 m14 m15 m16 m17 o0 : Nat) (hst : l.stackTraces = false) (C : Cx p s m args c cL_law RL D cy A) (hml : c.maxLocals = 8) (hX : va_X b 6 xs s s.heap) (hbl : b < s.heap.size) (hbA : ¬ A b) (w : Wd D A s.heap [(q0, .inr (11, [.ref q1, .int 0, .int 0, .int (-1), .ref q2, .ref q4, .ref q5, .ref q6, .ref q10, .null])), (q1, .inl (cy 0, 900, .inl (fun _ => 0))), (q2, .inr (5, [.ref q3, .int 0, .int 0, .int 0, .int 0, .int 0, .int 0, .null])), (q3, .inl (cy 0, 0, .inl (fun _ => 0))), (q4, .inl (cy 4, 5, .inr (.inr (.inr (.inr (va_up (fun _ => none) 0 (some q10))))))), (q5, .inl (cy 4, 3, .inr (.inr (.inr (.inr (fun _ => none)))))), (q6, .inr (10, [.ref q7, .ref q8, .ref q9])), (q7, .inl (cy 1, 4, .inl (upd (upd (upd (upd (fun _ => 0) 0 (-1)) 1 (-1)) 2 (-1)) 3 (-1)))), (q8, .inl (cy 1, 4, .inl (fun _ => 0))), (q9, .inl (cy 2, 160, .inr (.inl (fun _ => 0)))), (q10, .inr (9, [.int 0, .int 2, .int 20, .int 120, .int 0, .int 0, .int 0, .int 0, .ref q11, .int 0, .ref q12, .ref q13, .int 0, .ref q14, .ref q15, .ref q16, .ref q17])), (q11, .inl (cy 1, 6, .inl (fun _ => 0))), (q12, .inl (cy 1, 20, .inl (fun _ => 0))), (q13, .inl (cy 1, 20, .inl (fun _ => 0))), (q14, .inl (cy 1, 300, .inl (fun _ => 0))), (q15, .inl (cy 1, 300, .inl (fun _ => 0))), (q16, .inl (cy 1, 300, .inl (fun _ => 0))), (q17, .inl (cy 1, 300, .inl (fun _ => 0))), (m0, .inr (12, [.ref m1, .ref m2, .ref m3, .ref m4, .ref m5, .int 0, .ref m6, .int 0, .int 0, .int 0, .int 0, .int 0, .int 0, .int 0, .int 0, .int 0, .int 0, .int (-1), .ref m7, .ref m8, .int 0, .ref m9, .int 0, .ref m10, .ref m11, .ref m12, .ref m13, .ref m14, .int 0, .ref m15, .ref m16, .ref m17])), (m2, .inl (cy 1, 1868, .inl (fun _ => 0))), (m3, .inl (cy 1, 1868, .inl (fun _ => 0))), (m4, .inl (cy 1, 5604, .inl (fun _ => 0))), (m5, .inl (cy 3, 3, .inl (fun _ => 0))), (m6, .inl (cy 1, 900, .inl (fun _ => 0))), (m7, .inl (cy 1, 1830, .inl (fun _ => 0))), (m8, .inl (cy 1, 1830, .inl (fun _ => 0))), (m9, .inl (cy 2, 2465, .inr (.inl (fun _ => 0)))), (m10, .inl (cy 1, 7201, .inl (fun _ => 0))), (m11, .inl (cy 1, 1830, .inl (fun _ => 0))), (m12, .inl (cy 1, 5, .inl (fun _ => 0))), (m13, .inl (cy 1, 6, .inl (fun _ => 0))), (m14, .inl (cy 1, 6, .inl (fun _ => 0))), (m15, .inl (cy 1, 4, .inl (upd (upd (upd (upd (fun _ => 0) 0 (-1)) 1 (-1)) 2 (-1)) 3 (-1)))), (m16, .inl (cy 1, 4, .inl (fun _ => 0))), (m17, .inl (cy 2, 160, .inr (.inl (fun _ => 0)))), (m1, .inl (cy 1, 1868, .inl (upd (upd (upd (fun _ => 0) 1 2) 2 20) 3 120))), (o0, .inl (cy 2, 1, .inr (.inl (fun _ => 0))))] H locs) (hl : lv_has ls 8 [(0, .ref b), (1, .ref q0), (2, .ref m0), (3, .ref o0), (4, .int 0)]) (kk : ∀ (H : Heap) (locs : List Loc) (ls : Array Slot), va_S A s.heap H locs → lv_has ls 8 [(0, .ref b), (4, .int 0)] → W p l e room_1 s m args below meth c H locs 600002 7302232 Q (F0 m 2461 ls [])) : W p l e room_1 s m args below meth c H locs 37 29845 Q (F0 m 2308 ls []) := by
  obtain ⟨y1, sx1⟩ : ∃ y, xs 1 = y := ⟨_, rfl⟩
  obtain ⟨y2, sx2⟩ : ∃ y, xs 2 = y := ⟨_, rfl⟩
  obtain ⟨y3, sx3⟩ : ∃ y, xs 3 = y := ⟨_, rfl⟩
  obtain ⟨y4, sx4⟩ : ∃ y, xs 4 = y := ⟨_, rfl⟩
  obtain ⟨y5, sx5⟩ : ∃ y, xs 5 = y := ⟨_, rfl⟩
  by_cases g1 : y1 < 0
  · exact s_L_33_0 b q0 q1 q2 q4 q5 q6 q10 m0 m1 m2 m3 m4 m5 m6 m7 m8 m9 m10 m11 m12 m13 m14 m15 m16 m17 o0 y1 g1 sx1 hst C hml hX hbl hbA (w.pick [0, 18] rfl rfl) hl kk
  · by_cases g2 : y1 = 1
    · subst g2
      exact s_L_33_1 b q0 q1 q2 q4 q5 q6 q10 q7 q8 q9 m0 m1 m2 m3 m4 m5 m6 m7 m8 m9 m10 m11 m12 m13 m14 m15 m16 m17 o0 sx1 hst C hml hX hbl hbA (w.pick [0, 6, 7, 18, 32] rfl rfl) hl kk
    · by_cases g3 : y1 = 2
      · subst g3
        exact s_L_33_2 b q0 q1 q2 q4 q5 q6 q10 q7 q8 q9 m0 m1 m2 m3 m4 m5 m6 m7 m8 m9 m10 m11 m12 m13 m14 m15 m16 m17 o0 sx1 hst C hml hX hbl hbA (w.pick [0, 6, 7, 18, 32] rfl rfl) hl kk
      · by_cases g4 : y1 = 3
        · subst g4
          exact s_L_33_3 b q0 q1 q2 q4 q5 q6 q10 q7 q8 q9 m0 m1 m2 m3 m4 m5 m6 m7 m8 m9 m10 m11 m12 m13 m14 m15 m16 m17 o0 sx1 hst C hml hX hbl hbA (w.pick [0, 6, 7, 18, 32] rfl rfl) hl kk
        · by_cases g5 : y1 = 0
          · subst g5
            exact s_L_33_4 b q0 q1 q2 q4 q5 q6 q10 q7 q8 q9 m0 m1 m2 m3 m4 m5 m6 m7 m8 m9 m10 m11 m12 m13 m14 m15 m16 m17 o0 sx1 hst C hml hX hbl hbA (w.pick [0, 6, 7, 18, 32] rfl rfl) hl kk
          · by_cases g6 : y1 < 4
            · exfalso
              have h0 := i_nlt g1
              have h1 := (not_congr (fa_eq _ _)).mp g2
              have h2 := (not_congr (fa_eq _ _)).mp g3
              have h3 := (not_congr (fa_eq _ _)).mp g4
              have h4 := (not_congr (fa_eq _ _)).mp g5
              have h5 := i_lt g6
              have e0 : (0 : Int32).toInt = 0 := (by decide)
              have e1 : (1 : Int32).toInt = 1 := (by decide)
              have e2 : (2 : Int32).toInt = 2 := (by decide)
              have e3 : (3 : Int32).toInt = 3 := (by decide)
              have e4 : (4 : Int32).toInt = 4 := (by decide)
              omega
            · exact s_L_33_5 b q0 q1 q2 q4 q5 q6 q10 m0 m1 m2 m3 m4 m5 m6 m7 m8 m9 m10 m11 m12 m13 m14 m15 m16 m17 o0 y1 g1 g6 sx1 hst C hml hX hbl hbA (w.pick [0, 18] rfl rfl) hl kk
theorem dL_law_2364 : decode cL_law 2364 = .ok (.aload_n 1, 1) := by decide +kernel
theorem dL_law_2365 : decode cL_law 2365 = .ok (.aload_n 0, 1) := by decide +kernel
theorem dL_law_2366 : decode cL_law 2366 = .ok (.iload 4, 2) := by decide +kernel
theorem dL_law_2368 : decode cL_law 2368 = .ok (.iconst 1, 1) := by decide +kernel
theorem dL_law_2369 : decode cL_law 2369 = .ok (.iadd, 1) := by decide +kernel
theorem dL_law_2370 : decode cL_law 2370 = .ok (.iaload, 1) := by decide +kernel
theorem dL_law_2371 : decode cL_law 2371 = .ok (.invokestatic 245, 3) := by decide +kernel
theorem fh_RL_245 : FH RL 245 yL_image cL_image 3 (some .int) [(0, 5, 8, 19)] 2 := ⟨⟨gw_mem (by decide +kernel) (by decide +kernel), gw_mem (by decide +kernel) (by decide +kernel), gw_mem (by decide +kernel) (by decide +kernel), gw_mem (by decide +kernel) (by decide +kernel)⟩, ⟨by decide +kernel, by decide +kernel, by decide +kernel⟩⟩
theorem dL_law_2374 : decode cL_law 2374 = .ok (.istore 5, 2) := by decide +kernel
theorem dL_law_2376 : decode cL_law 2376 = .ok (.aload_n 2, 1) := by decide +kernel
theorem dL_law_2377 : decode cL_law 2377 = .ok (.aload_n 0, 1) := by decide +kernel
theorem dL_law_2378 : decode cL_law 2378 = .ok (.iload 4, 2) := by decide +kernel
theorem dL_law_2380 : decode cL_law 2380 = .ok (.iconst 1, 1) := by decide +kernel
theorem dL_law_2381 : decode cL_law 2381 = .ok (.iadd, 1) := by decide +kernel
theorem dL_law_2382 : decode cL_law 2382 = .ok (.iaload, 1) := by decide +kernel
theorem dL_law_2383 : decode cL_law 2383 = .ok (.invokevirtual 248, 3) := by decide +kernel
theorem fv_RL_248 : FV RL 248 yX12_image cX12_image 3 none 1 := ⟨⟨gw_mem (by decide +kernel) (by decide +kernel), gw_mem (by decide +kernel) (by decide +kernel), gw_mem (by decide +kernel) (by decide +kernel), gw_mem (by decide +kernel) (by decide +kernel), gw_mem (by decide +kernel) (by decide +kernel)⟩, ⟨by decide +kernel, by decide +kernel, by decide +kernel⟩⟩
theorem dL_law_2386 : decode cL_law 2386 = .ok (.aload_n 2, 1) := by decide +kernel
theorem dL_law_2387 : decode cL_law 2387 = .ok (.invokevirtual 134, 3) := by decide +kernel
theorem dL_law_2390 : decode cL_law 2390 = .ok (.iload 5, 2) := by decide +kernel
theorem dL_law_2392 : decode cL_law 2392 = .ok (.if_icmp .eq 5, 3) := by decide +kernel
theorem dL_law_2397 : decode cL_law 2397 = .ok (.goto 64, 3) := by decide +kernel
set_option maxRecDepth 100000 in
set_option maxHeartbeats 4000000 in
theorem s_L_34_0 {p : Program} {l : Launch} {e : Env} {s : State} {m : MethodId} {args : Array Value} {below : List Frame} {meth : Method} {c : Code} {Q : State → Prop} {D : va_G} {cy : Nat → ClassId} {A : Nat → Prop} {H : Heap} {locs : List Loc} {ls : Array Slot} {xs : Nat → Int32} (b q0 q1 q2 q4 q5 q6 q10 m0 m1 m2 m3 m4 m5 m6 m7 m8 m9 m10 m11 m12 m13 m14 m15 m16 m17 o0 : Nat) (y1 : Int32) (k0 : y1 < 0) (sx1 : xs 1 = y1) (hst : l.stackTraces = false) (C : Cx p s m args c cL_law RL D cy A) (hml : c.maxLocals = 8) (hX : va_X b 6 xs s s.heap) (hbl : b < s.heap.size) (hbA : ¬ A b) (w : Wd D A s.heap [(q0, .inr (11, [.ref q1, .int 0, .int 0, .int (-1), .ref q2, .ref q4, .ref q5, .ref q6, .ref q10, .null])), (m0, .inr (12, [.ref m1, .ref m2, .ref m3, .ref m4, .ref m5, .int 0, .ref m6, .int 0, .int 0, .int 0, .int 0, .int 0, .int 0, .int 0, .int 0, .int 0, .int 0, .int (-1), .ref m7, .ref m8, .int 0, .ref m9, .int 0, .ref m10, .ref m11, .ref m12, .ref m13, .ref m14, .int 0, .ref m15, .ref m16, .ref m17]))] H locs) (hl : lv_has ls 8 [(0, .ref b), (1, .ref q0), (2, .ref m0), (3, .ref o0), (4, .int 0)]) (kk : ∀ (H : Heap) (locs : List Loc) (ls : Array Slot), va_S A s.heap H locs → lv_has ls 8 [(0, .ref b), (4, .int 0)] → W p l e room_1 s m args below meth c H locs 600002 7302232 Q (F0 m 2461 ls [])) : W p l e room_1 s m args below meth c H locs 37 29845 Q (F0 m 2364 ls []) := by
  refine lv_aload_n C.1 C.2.1 dL_law_2364 rfl (lv_at hl 1 rfl) ?_
  refine lv_aload_n C.1 C.2.1 dL_law_2365 rfl (lv_at hl 0 rfl) ?_
  refine lv_iload C.1 C.2.1 dL_law_2366 (lv_at hl 4 rfl) ?_
  refine lv_iconst (v := 1) C.1 C.2.1 dL_law_2368 (by decide) ?_
  refine r_iadd C (v := 1) dL_law_2369 (by decide) ?_
  refine r_sld C w hX hbl hbA (v := y1) (vinD (by decide)) sx1 dL_law_2370 ?_
  refine r_callH C w fh_RL_245 (c_L_image_0 l D cy q0 q1 q2 q4 q5 q6 q10 y1 k0 hst) (hl.1.trans hml.symm) [0] [1] (wr := [(m0, .inr (12, [.ref m1, .ref m2, .ref m3, .ref m4, .ref m5, .int 0, .ref m6, .int 0, .int 0, .int 0, .int 0, .int 0, .int 0, .int 0, .int 0, .int 0, .int 0, .int (-1), .ref m7, .ref m8, .int 0, .ref m9, .int 0, .ref m10, .ref m11, .ref m12, .ref m13, .ref m14, .int 0, .ref m15, .ref m16, .ref m17]))]) ⟨rfl, rfl, rfl, rfl, by decide⟩ rfl rfl ⟨Nat.le_of_ble_eq_true rfl, Nat.le_of_ble_eq_true rfl, Nat.le_of_ble_eq_true rfl⟩ 38 29851 ⟨rfl, rfl, Nat.le_of_ble_eq_true rfl, Nat.le_of_ble_eq_true rfl⟩ dL_law_2371 (fun u H locs hp w => ?_)
  have w : Wd D A s.heap [(m0, .inr (12, [.ref m1, .ref m2, .ref m3, .ref m4, .ref m5, .int 0, .ref m6, .int 0, .int 0, .int 0, .int 0, .int 0, .int 0, .int 0, .int 0, .int 0, .int 0, .int (-1), .ref m7, .ref m8, .int 0, .ref m9, .int 0, .ref m10, .ref m11, .ref m12, .ref m13, .ref m14, .int 0, .ref m15, .ref m16, .ref m17]))] _ _ := w.pick [0] rfl rfl
  refine r_top (g2 := F0 m 2374 ls [.int 1]) rfl ?_
  refine lv_istore (lv' := [(5, .int 1), (0, .ref b), (1, .ref q0), (2, .ref m0), (3, .ref o0), (4, .int 0)]) C.1 C.2.1 dL_law_2374 hl (by decide) rfl (fun ls hl => ?_)
  refine lv_aload_n C.1 C.2.1 dL_law_2376 rfl (lv_at hl 3 rfl) ?_
  refine lv_aload_n C.1 C.2.1 dL_law_2377 rfl (lv_at hl 1 rfl) ?_
  refine lv_iload C.1 C.2.1 dL_law_2378 (lv_at hl 5 rfl) ?_
  refine lv_iconst (v := 1) C.1 C.2.1 dL_law_2380 (by decide) ?_
  refine r_iadd C (v := 1) dL_law_2381 (by decide) ?_
  refine r_sld C w hX hbl hbA (v := y1) (vinD (by decide)) sx1 dL_law_2382 ?_
  refine r_callV C w fv_RL_248 (c_X12_image_0 l D cy m0 m1 m2 m3 m4 m5 m6 m7 m8 m9 m10 m11 m12 m13 m14 m15 m16 m17 y1 k0) (hl.1.trans hml.symm) [0] [] (wr := []) ⟨rfl, rfl, rfl, rfl, by decide⟩ 0 rfl rfl rfl rfl rfl ⟨Nat.le_of_ble_eq_true rfl, Nat.le_of_ble_eq_true rfl, Nat.le_of_ble_eq_true rfl⟩ 38 29851 ⟨rfl, rfl, Nat.le_of_ble_eq_true rfl, Nat.le_of_ble_eq_true rfl⟩ dL_law_2383 (fun u H locs hp w => ?_)
  have w : Wd D A s.heap [(m0, .inr (12, [.ref m1, .ref m2, .ref m3, .ref m4, .ref m5, .int 1, .ref m6, .int 0, .int 0, .int 0, .int 0, .int 0, .int 0, .int 0, .int 0, .int 0, .int 0, .int (-1), .ref m7, .ref m8, .int 0, .ref m9, .int 0, .ref m10, .ref m11, .ref m12, .ref m13, .ref m14, .int 0, .ref m15, .ref m16, .ref m17]))] _ _ := w.pick [0] rfl rfl
  refine r_top (g2 := F0 m 2386 ls []) rfl ?_
  refine lv_aload_n C.1 C.2.1 dL_law_2386 rfl (lv_at hl 3 rfl) ?_
  refine r_callV C w fv_RL_134 (c_X12_thrown_0 l D cy m0 m1 m2 m3 m4 m5 m6 m7 m8 m9 m10 m11 m12 m13 m14 m15 m16 m17) (hl.1.trans hml.symm) [0] [] (wr := []) ⟨rfl, rfl, rfl, rfl, by decide⟩ 0 rfl rfl rfl rfl rfl ⟨Nat.le_of_ble_eq_true rfl, Nat.le_of_ble_eq_true rfl, Nat.le_of_ble_eq_true rfl⟩ 38 29851 ⟨rfl, rfl, Nat.le_of_ble_eq_true rfl, Nat.le_of_ble_eq_true rfl⟩ dL_law_2387 (fun u H locs hp w => ?_)
  have w : Wd D A s.heap [(m0, .inr (12, [.ref m1, .ref m2, .ref m3, .ref m4, .ref m5, .int 1, .ref m6, .int 0, .int 0, .int 0, .int 0, .int 0, .int 0, .int 0, .int 0, .int 0, .int 0, .int (-1), .ref m7, .ref m8, .int 0, .ref m9, .int 0, .ref m10, .ref m11, .ref m12, .ref m13, .ref m14, .int 0, .ref m15, .ref m16, .ref m17]))] _ _ := w.pick [0] rfl rfl
  refine r_top (g2 := F0 m 2390 ls [.int 1]) rfl ?_
  refine lv_iload C.1 C.2.1 dL_law_2390 (lv_at hl 0 rfl) ?_
  refine b_icmp_eq_t C (tgt := 2397) dL_law_2392 (by decide) (by decide) ?_
  refine lv_goto (tgt := 2461) C.1 C.2.1 dL_law_2397 (by decide) ?_
  refine W.widen (k := 600002) (n := 7302232) (Nat.le_of_ble_eq_true rfl) (Nat.le_of_ble_eq_true rfl) ?_
  exact kk _ _ _ w.2.2 (lv_sub hl [1, 5] rfl)
set_option maxRecDepth 100000 in
set_option maxHeartbeats 4000000 in
theorem s_L_34_1 {p : Program} {l : Launch} {e : Env} {s : State} {m : MethodId} {args : Array Value} {below : List Frame} {meth : Method} {c : Code} {Q : State → Prop} {D : va_G} {cy : Nat → ClassId} {A : Nat → Prop} {H : Heap} {locs : List Loc} {ls : Array Slot} {xs : Nat → Int32} (b q0 q1 q2 q4 q5 q6 q10 m0 m1 m2 m3 m4 m5 m6 m7 m8 m9 m10 m11 m12 m13 m14 m15 m16 m17 o0 : Nat) (y1 : Int32) (k0 : ¬ y1 < 0) (k1 : ¬ y1 < 3) (sx1 : xs 1 = y1) (hst : l.stackTraces = false) (C : Cx p s m args c cL_law RL D cy A) (hml : c.maxLocals = 8) (hX : va_X b 6 xs s s.heap) (hbl : b < s.heap.size) (hbA : ¬ A b) (w : Wd D A s.heap [(q0, .inr (11, [.ref q1, .int 0, .int 0, .int (-1), .ref q2, .ref q4, .ref q5, .ref q6, .ref q10, .null])), (m0, .inr (12, [.ref m1, .ref m2, .ref m3, .ref m4, .ref m5, .int 0, .ref m6, .int 0, .int 0, .int 0, .int 0, .int 0, .int 0, .int 0, .int 0, .int 0, .int 0, .int (-1), .ref m7, .ref m8, .int 0, .ref m9, .int 0, .ref m10, .ref m11, .ref m12, .ref m13, .ref m14, .int 0, .ref m15, .ref m16, .ref m17]))] H locs) (hl : lv_has ls 8 [(0, .ref b), (1, .ref q0), (2, .ref m0), (3, .ref o0), (4, .int 0)]) (kk : ∀ (H : Heap) (locs : List Loc) (ls : Array Slot), va_S A s.heap H locs → lv_has ls 8 [(0, .ref b), (4, .int 0)] → W p l e room_1 s m args below meth c H locs 600002 7302232 Q (F0 m 2461 ls [])) : W p l e room_1 s m args below meth c H locs 37 29845 Q (F0 m 2364 ls []) := by
  refine lv_aload_n C.1 C.2.1 dL_law_2364 rfl (lv_at hl 1 rfl) ?_
  refine lv_aload_n C.1 C.2.1 dL_law_2365 rfl (lv_at hl 0 rfl) ?_
  refine lv_iload C.1 C.2.1 dL_law_2366 (lv_at hl 4 rfl) ?_
  refine lv_iconst (v := 1) C.1 C.2.1 dL_law_2368 (by decide) ?_
  refine r_iadd C (v := 1) dL_law_2369 (by decide) ?_
  refine r_sld C w hX hbl hbA (v := y1) (vinD (by decide)) sx1 dL_law_2370 ?_
  refine r_callH C w fh_RL_245 (c_L_image_1 l D cy q0 q1 q2 q4 q5 q6 q10 y1 k0 k1 hst) (hl.1.trans hml.symm) [0] [1] (wr := [(m0, .inr (12, [.ref m1, .ref m2, .ref m3, .ref m4, .ref m5, .int 0, .ref m6, .int 0, .int 0, .int 0, .int 0, .int 0, .int 0, .int 0, .int 0, .int 0, .int 0, .int (-1), .ref m7, .ref m8, .int 0, .ref m9, .int 0, .ref m10, .ref m11, .ref m12, .ref m13, .ref m14, .int 0, .ref m15, .ref m16, .ref m17]))]) ⟨rfl, rfl, rfl, rfl, by decide⟩ rfl rfl ⟨Nat.le_of_ble_eq_true rfl, Nat.le_of_ble_eq_true rfl, Nat.le_of_ble_eq_true rfl⟩ 38 29851 ⟨rfl, rfl, Nat.le_of_ble_eq_true rfl, Nat.le_of_ble_eq_true rfl⟩ dL_law_2371 (fun u H locs hp w => ?_)
  have w : Wd D A s.heap [(m0, .inr (12, [.ref m1, .ref m2, .ref m3, .ref m4, .ref m5, .int 0, .ref m6, .int 0, .int 0, .int 0, .int 0, .int 0, .int 0, .int 0, .int 0, .int 0, .int 0, .int (-1), .ref m7, .ref m8, .int 0, .ref m9, .int 0, .ref m10, .ref m11, .ref m12, .ref m13, .ref m14, .int 0, .ref m15, .ref m16, .ref m17]))] _ _ := w.pick [0] rfl rfl
  refine r_top (g2 := F0 m 2374 ls [.int 1]) rfl ?_
  refine lv_istore (lv' := [(5, .int 1), (0, .ref b), (1, .ref q0), (2, .ref m0), (3, .ref o0), (4, .int 0)]) C.1 C.2.1 dL_law_2374 hl (by decide) rfl (fun ls hl => ?_)
  refine lv_aload_n C.1 C.2.1 dL_law_2376 rfl (lv_at hl 3 rfl) ?_
  refine lv_aload_n C.1 C.2.1 dL_law_2377 rfl (lv_at hl 1 rfl) ?_
  refine lv_iload C.1 C.2.1 dL_law_2378 (lv_at hl 5 rfl) ?_
  refine lv_iconst (v := 1) C.1 C.2.1 dL_law_2380 (by decide) ?_
  refine r_iadd C (v := 1) dL_law_2381 (by decide) ?_
  refine r_sld C w hX hbl hbA (v := y1) (vinD (by decide)) sx1 dL_law_2382 ?_
  refine r_callV C w fv_RL_248 (c_X12_image_4 l D cy m0 m1 m2 m3 m4 m5 m6 m7 m8 m9 m10 m11 m12 m13 m14 m15 m16 m17 y1 k0 (by have h0 := (i_nlt k0); have h1 := (i_nlt k1); have e0 : (0 : Int32).toInt = 0 := (by decide); have e1 : (2 : Int32).toInt = 2 := (by decide); have e2 : (3 : Int32).toInt = 3 := (by decide); rw [fa_lt]; omega)) (hl.1.trans hml.symm) [0] [] (wr := []) ⟨rfl, rfl, rfl, rfl, by decide⟩ 0 rfl rfl rfl rfl rfl ⟨Nat.le_of_ble_eq_true rfl, Nat.le_of_ble_eq_true rfl, Nat.le_of_ble_eq_true rfl⟩ 38 29851 ⟨rfl, rfl, Nat.le_of_ble_eq_true rfl, Nat.le_of_ble_eq_true rfl⟩ dL_law_2383 (fun u H locs hp w => ?_)
  have w : Wd D A s.heap [(m0, .inr (12, [.ref m1, .ref m2, .ref m3, .ref m4, .ref m5, .int 1, .ref m6, .int 0, .int 0, .int 0, .int 0, .int 0, .int 0, .int 0, .int 0, .int 0, .int 0, .int (-1), .ref m7, .ref m8, .int 0, .ref m9, .int 0, .ref m10, .ref m11, .ref m12, .ref m13, .ref m14, .int 0, .ref m15, .ref m16, .ref m17]))] _ _ := w.pick [0] rfl rfl
  refine r_top (g2 := F0 m 2386 ls []) rfl ?_
  refine lv_aload_n C.1 C.2.1 dL_law_2386 rfl (lv_at hl 3 rfl) ?_
  refine r_callV C w fv_RL_134 (c_X12_thrown_0 l D cy m0 m1 m2 m3 m4 m5 m6 m7 m8 m9 m10 m11 m12 m13 m14 m15 m16 m17) (hl.1.trans hml.symm) [0] [] (wr := []) ⟨rfl, rfl, rfl, rfl, by decide⟩ 0 rfl rfl rfl rfl rfl ⟨Nat.le_of_ble_eq_true rfl, Nat.le_of_ble_eq_true rfl, Nat.le_of_ble_eq_true rfl⟩ 38 29851 ⟨rfl, rfl, Nat.le_of_ble_eq_true rfl, Nat.le_of_ble_eq_true rfl⟩ dL_law_2387 (fun u H locs hp w => ?_)
  have w : Wd D A s.heap [(m0, .inr (12, [.ref m1, .ref m2, .ref m3, .ref m4, .ref m5, .int 1, .ref m6, .int 0, .int 0, .int 0, .int 0, .int 0, .int 0, .int 0, .int 0, .int 0, .int 0, .int (-1), .ref m7, .ref m8, .int 0, .ref m9, .int 0, .ref m10, .ref m11, .ref m12, .ref m13, .ref m14, .int 0, .ref m15, .ref m16, .ref m17]))] _ _ := w.pick [0] rfl rfl
  refine r_top (g2 := F0 m 2390 ls [.int 1]) rfl ?_
  refine lv_iload C.1 C.2.1 dL_law_2390 (lv_at hl 0 rfl) ?_
  refine b_icmp_eq_t C (tgt := 2397) dL_law_2392 (by decide) (by decide) ?_
  refine lv_goto (tgt := 2461) C.1 C.2.1 dL_law_2397 (by decide) ?_
  refine W.widen (k := 600002) (n := 7302232) (Nat.le_of_ble_eq_true rfl) (Nat.le_of_ble_eq_true rfl) ?_
  exact kk _ _ _ w.2.2 (lv_sub hl [1, 5] rfl)
set_option maxRecDepth 100000 in
set_option maxHeartbeats 4000000 in
theorem s_L_34_2 {p : Program} {l : Launch} {e : Env} {s : State} {m : MethodId} {args : Array Value} {below : List Frame} {meth : Method} {c : Code} {Q : State → Prop} {D : va_G} {cy : Nat → ClassId} {A : Nat → Prop} {H : Heap} {locs : List Loc} {ls : Array Slot} {xs : Nat → Int32} (b q0 q1 q2 q4 q5 q6 q10 q11 q12 q13 q14 q15 q16 q17 m0 m1 m2 m3 m4 m5 m6 m7 m8 m9 m10 m11 m12 m13 m14 m15 m16 m17 o0 : Nat) (sx1 : xs 1 = 0) (C : Cx p s m args c cL_law RL D cy A) (hml : c.maxLocals = 8) (hX : va_X b 6 xs s s.heap) (hbl : b < s.heap.size) (hbA : ¬ A b) (w : Wd D A s.heap [(q0, .inr (11, [.ref q1, .int 0, .int 0, .int (-1), .ref q2, .ref q4, .ref q5, .ref q6, .ref q10, .null])), (q5, .inl (cy 4, 3, .inr (.inr (.inr (.inr (fun _ => none)))))), (q10, .inr (9, [.int 0, .int 2, .int 20, .int 120, .int 0, .int 0, .int 0, .int 0, .ref q11, .int 0, .ref q12, .ref q13, .int 0, .ref q14, .ref q15, .ref q16, .ref q17])), (m0, .inr (12, [.ref m1, .ref m2, .ref m3, .ref m4, .ref m5, .int 0, .ref m6, .int 0, .int 0, .int 0, .int 0, .int 0, .int 0, .int 0, .int 0, .int 0, .int 0, .int (-1), .ref m7, .ref m8, .int 0, .ref m9, .int 0, .ref m10, .ref m11, .ref m12, .ref m13, .ref m14, .int 0, .ref m15, .ref m16, .ref m17])), (m4, .inl (cy 1, 5604, .inl (fun _ => 0))), (m5, .inl (cy 3, 3, .inl (fun _ => 0))), (m1, .inl (cy 1, 1868, .inl (upd (upd (upd (fun _ => 0) 1 2) 2 20) 3 120)))] H locs) (hl : lv_has ls 8 [(0, .ref b), (1, .ref q0), (2, .ref m0), (3, .ref o0), (4, .int 0)]) (kk : ∀ (H : Heap) (locs : List Loc) (ls : Array Slot), va_S A s.heap H locs → lv_has ls 8 [(0, .ref b), (4, .int 0)] → W p l e room_1 s m args below meth c H locs 600002 7302232 Q (F0 m 2461 ls [])) : W p l e room_1 s m args below meth c H locs 37 29845 Q (F0 m 2364 ls []) := by
  refine lv_aload_n C.1 C.2.1 dL_law_2364 rfl (lv_at hl 1 rfl) ?_
  refine lv_aload_n C.1 C.2.1 dL_law_2365 rfl (lv_at hl 0 rfl) ?_
  refine lv_iload C.1 C.2.1 dL_law_2366 (lv_at hl 4 rfl) ?_
  refine lv_iconst (v := 1) C.1 C.2.1 dL_law_2368 (by decide) ?_
  refine r_iadd C (v := 1) dL_law_2369 (by decide) ?_
  refine r_sld C w hX hbl hbA (v := 0) (vinD (by decide)) sx1 dL_law_2370 ?_
  refine r_callH C w fh_RL_245 (c_L_image_2 l D cy q0 q1 q2 q4 q5 q6 q10 q11 q12 q13 q14 q15 q16 q17) (hl.1.trans hml.symm) [0, 1, 2] [3, 4, 5, 6] (wr := [(m0, .inr (12, [.ref m1, .ref m2, .ref m3, .ref m4, .ref m5, .int 0, .ref m6, .int 0, .int 0, .int 0, .int 0, .int 0, .int 0, .int 0, .int 0, .int 0, .int 0, .int (-1), .ref m7, .ref m8, .int 0, .ref m9, .int 0, .ref m10, .ref m11, .ref m12, .ref m13, .ref m14, .int 0, .ref m15, .ref m16, .ref m17])), (m4, .inl (cy 1, 5604, .inl (fun _ => 0))), (m5, .inl (cy 3, 3, .inl (fun _ => 0))), (m1, .inl (cy 1, 1868, .inl (upd (upd (upd (fun _ => 0) 1 2) 2 20) 3 120)))]) ⟨rfl, rfl, rfl, rfl, by decide⟩ rfl rfl ⟨Nat.le_of_ble_eq_true rfl, Nat.le_of_ble_eq_true rfl, Nat.le_of_ble_eq_true rfl⟩ 37 29845 ⟨rfl, rfl, Nat.le_of_ble_eq_true rfl, Nat.le_of_ble_eq_true rfl⟩ dL_law_2371 (fun u H locs hp w => ?_)
  have w : Wd D A s.heap [(m0, .inr (12, [.ref m1, .ref m2, .ref m3, .ref m4, .ref m5, .int 0, .ref m6, .int 0, .int 0, .int 0, .int 0, .int 0, .int 0, .int 0, .int 0, .int 0, .int 0, .int (-1), .ref m7, .ref m8, .int 0, .ref m9, .int 0, .ref m10, .ref m11, .ref m12, .ref m13, .ref m14, .int 0, .ref m15, .ref m16, .ref m17])), (m4, .inl (cy 1, 5604, .inl (fun _ => 0))), (m5, .inl (cy 3, 3, .inl (fun _ => 0))), (m1, .inl (cy 1, 1868, .inl (upd (upd (upd (fun _ => 0) 1 2) 2 20) 3 120)))] _ _ := w.pick [0, 1, 2, 3] rfl rfl
  refine r_top (g2 := F0 m 2374 ls [.int 0]) rfl ?_
  refine lv_istore (lv' := [(5, .int 0), (0, .ref b), (1, .ref q0), (2, .ref m0), (3, .ref o0), (4, .int 0)]) C.1 C.2.1 dL_law_2374 hl (by decide) rfl (fun ls hl => ?_)
  refine lv_aload_n C.1 C.2.1 dL_law_2376 rfl (lv_at hl 3 rfl) ?_
  refine lv_aload_n C.1 C.2.1 dL_law_2377 rfl (lv_at hl 1 rfl) ?_
  refine lv_iload C.1 C.2.1 dL_law_2378 (lv_at hl 5 rfl) ?_
  refine lv_iconst (v := 1) C.1 C.2.1 dL_law_2380 (by decide) ?_
  refine r_iadd C (v := 1) dL_law_2381 (by decide) ?_
  refine r_sld C w hX hbl hbA (v := 0) (vinD (by decide)) sx1 dL_law_2382 ?_
  refine r_callV C w fv_RL_248 (c_X12_image_1 l D cy m0 m1 m2 m3 m4 m5 m6 m7 m8 m9 m10 m11 m12 m13 m14 m15 m16 m17) (hl.1.trans hml.symm) [0, 3, 1, 2] [] (wr := []) ⟨rfl, rfl, rfl, rfl, by decide⟩ 0 rfl rfl rfl rfl rfl ⟨Nat.le_of_ble_eq_true rfl, Nat.le_of_ble_eq_true rfl, Nat.le_of_ble_eq_true rfl⟩ 37 29845 ⟨rfl, rfl, Nat.le_of_ble_eq_true rfl, Nat.le_of_ble_eq_true rfl⟩ dL_law_2383 (fun u H locs hp w => ?_)
  have w : Wd D A s.heap [(m0, .inr (12, [.ref m1, .ref m2, .ref m3, .ref m4, .ref m5, .int 0, .ref m6, .int 0, .int 0, .int 0, .int 0, .int 0, .int 0, .int 0, .int 0, .int 0, .int 0, .int (-1), .ref m7, .ref m8, .int 0, .ref m9, .int 0, .ref m10, .ref m11, .ref m12, .ref m13, .ref m14, .int 0, .ref m15, .ref m16, .ref m17]))] _ _ := w.pick [0] rfl rfl
  refine r_top (g2 := F0 m 2386 ls []) rfl ?_
  refine lv_aload_n C.1 C.2.1 dL_law_2386 rfl (lv_at hl 3 rfl) ?_
  refine r_callV C w fv_RL_134 (c_X12_thrown_1 l D cy m0 m1 m2 m3 m4 m5 m6 m7 m8 m9 m10 m11 m12 m13 m14 m15 m16 m17) (hl.1.trans hml.symm) [0] [] (wr := []) ⟨rfl, rfl, rfl, rfl, by decide⟩ 0 rfl rfl rfl rfl rfl ⟨Nat.le_of_ble_eq_true rfl, Nat.le_of_ble_eq_true rfl, Nat.le_of_ble_eq_true rfl⟩ 37 29845 ⟨rfl, rfl, Nat.le_of_ble_eq_true rfl, Nat.le_of_ble_eq_true rfl⟩ dL_law_2387 (fun u H locs hp w => ?_)
  have w : Wd D A s.heap [(m0, .inr (12, [.ref m1, .ref m2, .ref m3, .ref m4, .ref m5, .int 0, .ref m6, .int 0, .int 0, .int 0, .int 0, .int 0, .int 0, .int 0, .int 0, .int 0, .int 0, .int (-1), .ref m7, .ref m8, .int 0, .ref m9, .int 0, .ref m10, .ref m11, .ref m12, .ref m13, .ref m14, .int 0, .ref m15, .ref m16, .ref m17]))] _ _ := w.pick [0] rfl rfl
  refine r_top (g2 := F0 m 2390 ls [.int 0]) rfl ?_
  refine lv_iload C.1 C.2.1 dL_law_2390 (lv_at hl 0 rfl) ?_
  refine b_icmp_eq_t C (tgt := 2397) dL_law_2392 (by decide) (by decide) ?_
  refine lv_goto (tgt := 2461) C.1 C.2.1 dL_law_2397 (by decide) ?_
  refine W.widen (k := 600002) (n := 7302232) (Nat.le_of_ble_eq_true rfl) (Nat.le_of_ble_eq_true rfl) ?_
  exact kk _ _ _ w.2.2 (lv_sub hl [1, 5] rfl)
set_option maxRecDepth 100000 in
set_option maxHeartbeats 4000000 in
theorem s_L_34_3 {p : Program} {l : Launch} {e : Env} {s : State} {m : MethodId} {args : Array Value} {below : List Frame} {meth : Method} {c : Code} {Q : State → Prop} {D : va_G} {cy : Nat → ClassId} {A : Nat → Prop} {H : Heap} {locs : List Loc} {ls : Array Slot} {xs : Nat → Int32} (b q0 q1 q2 q4 q5 q6 q10 q11 q12 q13 q14 q15 q16 q17 m0 m1 m2 m3 m4 m5 m6 m7 m8 m9 m10 m11 m12 m13 m14 m15 m16 m17 o0 : Nat) (sx1 : xs 1 = 2) (C : Cx p s m args c cL_law RL D cy A) (hml : c.maxLocals = 8) (hX : va_X b 6 xs s s.heap) (hbl : b < s.heap.size) (hbA : ¬ A b) (w : Wd D A s.heap [(q0, .inr (11, [.ref q1, .int 0, .int 0, .int (-1), .ref q2, .ref q4, .ref q5, .ref q6, .ref q10, .null])), (q5, .inl (cy 4, 3, .inr (.inr (.inr (.inr (fun _ => none)))))), (q10, .inr (9, [.int 0, .int 2, .int 20, .int 120, .int 0, .int 0, .int 0, .int 0, .ref q11, .int 0, .ref q12, .ref q13, .int 0, .ref q14, .ref q15, .ref q16, .ref q17])), (m0, .inr (12, [.ref m1, .ref m2, .ref m3, .ref m4, .ref m5, .int 0, .ref m6, .int 0, .int 0, .int 0, .int 0, .int 0, .int 0, .int 0, .int 0, .int 0, .int 0, .int (-1), .ref m7, .ref m8, .int 0, .ref m9, .int 0, .ref m10, .ref m11, .ref m12, .ref m13, .ref m14, .int 0, .ref m15, .ref m16, .ref m17])), (m4, .inl (cy 1, 5604, .inl (fun _ => 0))), (m5, .inl (cy 3, 3, .inl (fun _ => 0))), (m1, .inl (cy 1, 1868, .inl (upd (upd (upd (fun _ => 0) 1 2) 2 20) 3 120)))] H locs) (hl : lv_has ls 8 [(0, .ref b), (1, .ref q0), (2, .ref m0), (3, .ref o0), (4, .int 0)]) (kk : ∀ (H : Heap) (locs : List Loc) (ls : Array Slot), va_S A s.heap H locs → lv_has ls 8 [(0, .ref b), (4, .int 0)] → W p l e room_1 s m args below meth c H locs 600002 7302232 Q (F0 m 2461 ls [])) : W p l e room_1 s m args below meth c H locs 37 29845 Q (F0 m 2364 ls []) := by
  refine lv_aload_n C.1 C.2.1 dL_law_2364 rfl (lv_at hl 1 rfl) ?_
  refine lv_aload_n C.1 C.2.1 dL_law_2365 rfl (lv_at hl 0 rfl) ?_
  refine lv_iload C.1 C.2.1 dL_law_2366 (lv_at hl 4 rfl) ?_
  refine lv_iconst (v := 1) C.1 C.2.1 dL_law_2368 (by decide) ?_
  refine r_iadd C (v := 1) dL_law_2369 (by decide) ?_
  refine r_sld C w hX hbl hbA (v := 2) (vinD (by decide)) sx1 dL_law_2370 ?_
  refine r_callH C w fh_RL_245 (c_L_image_3 l D cy q0 q1 q2 q4 q5 q6 q10 q11 q12 q13 q14 q15 q16 q17) (hl.1.trans hml.symm) [0, 1, 2] [3, 4, 5, 6] (wr := [(m0, .inr (12, [.ref m1, .ref m2, .ref m3, .ref m4, .ref m5, .int 0, .ref m6, .int 0, .int 0, .int 0, .int 0, .int 0, .int 0, .int 0, .int 0, .int 0, .int 0, .int (-1), .ref m7, .ref m8, .int 0, .ref m9, .int 0, .ref m10, .ref m11, .ref m12, .ref m13, .ref m14, .int 0, .ref m15, .ref m16, .ref m17])), (m4, .inl (cy 1, 5604, .inl (fun _ => 0))), (m5, .inl (cy 3, 3, .inl (fun _ => 0))), (m1, .inl (cy 1, 1868, .inl (upd (upd (upd (fun _ => 0) 1 2) 2 20) 3 120)))]) ⟨rfl, rfl, rfl, rfl, by decide⟩ rfl rfl ⟨Nat.le_of_ble_eq_true rfl, Nat.le_of_ble_eq_true rfl, Nat.le_of_ble_eq_true rfl⟩ 37 29845 ⟨rfl, rfl, Nat.le_of_ble_eq_true rfl, Nat.le_of_ble_eq_true rfl⟩ dL_law_2371 (fun u H locs hp w => ?_)
  have w : Wd D A s.heap [(m0, .inr (12, [.ref m1, .ref m2, .ref m3, .ref m4, .ref m5, .int 0, .ref m6, .int 0, .int 0, .int 0, .int 0, .int 0, .int 0, .int 0, .int 0, .int 0, .int 0, .int (-1), .ref m7, .ref m8, .int 0, .ref m9, .int 0, .ref m10, .ref m11, .ref m12, .ref m13, .ref m14, .int 0, .ref m15, .ref m16, .ref m17])), (m4, .inl (cy 1, 5604, .inl (fun _ => 0))), (m5, .inl (cy 3, 3, .inl (fun _ => 0))), (m1, .inl (cy 1, 1868, .inl (upd (upd (upd (fun _ => 0) 1 2) 2 20) 3 120)))] _ _ := w.pick [0, 1, 2, 3] rfl rfl
  refine r_top (g2 := F0 m 2374 ls [.int 0]) rfl ?_
  refine lv_istore (lv' := [(5, .int 0), (0, .ref b), (1, .ref q0), (2, .ref m0), (3, .ref o0), (4, .int 0)]) C.1 C.2.1 dL_law_2374 hl (by decide) rfl (fun ls hl => ?_)
  refine lv_aload_n C.1 C.2.1 dL_law_2376 rfl (lv_at hl 3 rfl) ?_
  refine lv_aload_n C.1 C.2.1 dL_law_2377 rfl (lv_at hl 1 rfl) ?_
  refine lv_iload C.1 C.2.1 dL_law_2378 (lv_at hl 5 rfl) ?_
  refine lv_iconst (v := 1) C.1 C.2.1 dL_law_2380 (by decide) ?_
  refine r_iadd C (v := 1) dL_law_2381 (by decide) ?_
  refine r_sld C w hX hbl hbA (v := 2) (vinD (by decide)) sx1 dL_law_2382 ?_
  refine r_callV C w fv_RL_248 (c_X12_image_2 l D cy m0 m1 m2 m3 m4 m5 m6 m7 m8 m9 m10 m11 m12 m13 m14 m15 m16 m17) (hl.1.trans hml.symm) [0, 3, 1, 2] [] (wr := []) ⟨rfl, rfl, rfl, rfl, by decide⟩ 0 rfl rfl rfl rfl rfl ⟨Nat.le_of_ble_eq_true rfl, Nat.le_of_ble_eq_true rfl, Nat.le_of_ble_eq_true rfl⟩ 37 29845 ⟨rfl, rfl, Nat.le_of_ble_eq_true rfl, Nat.le_of_ble_eq_true rfl⟩ dL_law_2383 (fun u H locs hp w => ?_)
  have w : Wd D A s.heap [(m0, .inr (12, [.ref m1, .ref m2, .ref m3, .ref m4, .ref m5, .int 0, .ref m6, .int 0, .int 0, .int 0, .int 0, .int 0, .int 0, .int 0, .int 0, .int 0, .int 0, .int (-1), .ref m7, .ref m8, .int 0, .ref m9, .int 0, .ref m10, .ref m11, .ref m12, .ref m13, .ref m14, .int 0, .ref m15, .ref m16, .ref m17]))] _ _ := w.pick [0] rfl rfl
  refine r_top (g2 := F0 m 2386 ls []) rfl ?_
  refine lv_aload_n C.1 C.2.1 dL_law_2386 rfl (lv_at hl 3 rfl) ?_
  refine r_callV C w fv_RL_134 (c_X12_thrown_1 l D cy m0 m1 m2 m3 m4 m5 m6 m7 m8 m9 m10 m11 m12 m13 m14 m15 m16 m17) (hl.1.trans hml.symm) [0] [] (wr := []) ⟨rfl, rfl, rfl, rfl, by decide⟩ 0 rfl rfl rfl rfl rfl ⟨Nat.le_of_ble_eq_true rfl, Nat.le_of_ble_eq_true rfl, Nat.le_of_ble_eq_true rfl⟩ 37 29845 ⟨rfl, rfl, Nat.le_of_ble_eq_true rfl, Nat.le_of_ble_eq_true rfl⟩ dL_law_2387 (fun u H locs hp w => ?_)
  have w : Wd D A s.heap [(m0, .inr (12, [.ref m1, .ref m2, .ref m3, .ref m4, .ref m5, .int 0, .ref m6, .int 0, .int 0, .int 0, .int 0, .int 0, .int 0, .int 0, .int 0, .int 0, .int 0, .int (-1), .ref m7, .ref m8, .int 0, .ref m9, .int 0, .ref m10, .ref m11, .ref m12, .ref m13, .ref m14, .int 0, .ref m15, .ref m16, .ref m17]))] _ _ := w.pick [0] rfl rfl
  refine r_top (g2 := F0 m 2390 ls [.int 0]) rfl ?_
  refine lv_iload C.1 C.2.1 dL_law_2390 (lv_at hl 0 rfl) ?_
  refine b_icmp_eq_t C (tgt := 2397) dL_law_2392 (by decide) (by decide) ?_
  refine lv_goto (tgt := 2461) C.1 C.2.1 dL_law_2397 (by decide) ?_
  refine W.widen (k := 600002) (n := 7302232) (Nat.le_of_ble_eq_true rfl) (Nat.le_of_ble_eq_true rfl) ?_
  exact kk _ _ _ w.2.2 (lv_sub hl [1, 5] rfl)
set_option maxRecDepth 100000 in
set_option maxHeartbeats 4000000 in
theorem s_L_34_4 {p : Program} {l : Launch} {e : Env} {s : State} {m : MethodId} {args : Array Value} {below : List Frame} {meth : Method} {c : Code} {Q : State → Prop} {D : va_G} {cy : Nat → ClassId} {A : Nat → Prop} {H : Heap} {locs : List Loc} {ls : Array Slot} {xs : Nat → Int32} (b q0 q1 q2 q4 q5 q6 q10 q11 q12 q13 q14 q15 q16 q17 m0 m1 m2 m3 m4 m5 m6 m7 m8 m9 m10 m11 m12 m13 m14 m15 m16 m17 o0 : Nat) (sx1 : xs 1 = 1) (C : Cx p s m args c cL_law RL D cy A) (hml : c.maxLocals = 8) (hX : va_X b 6 xs s s.heap) (hbl : b < s.heap.size) (hbA : ¬ A b) (w : Wd D A s.heap [(q0, .inr (11, [.ref q1, .int 0, .int 0, .int (-1), .ref q2, .ref q4, .ref q5, .ref q6, .ref q10, .null])), (q5, .inl (cy 4, 3, .inr (.inr (.inr (.inr (fun _ => none)))))), (q10, .inr (9, [.int 0, .int 2, .int 20, .int 120, .int 0, .int 0, .int 0, .int 0, .ref q11, .int 0, .ref q12, .ref q13, .int 0, .ref q14, .ref q15, .ref q16, .ref q17])), (m0, .inr (12, [.ref m1, .ref m2, .ref m3, .ref m4, .ref m5, .int 0, .ref m6, .int 0, .int 0, .int 0, .int 0, .int 0, .int 0, .int 0, .int 0, .int 0, .int 0, .int (-1), .ref m7, .ref m8, .int 0, .ref m9, .int 0, .ref m10, .ref m11, .ref m12, .ref m13, .ref m14, .int 0, .ref m15, .ref m16, .ref m17])), (m4, .inl (cy 1, 5604, .inl (fun _ => 0))), (m5, .inl (cy 3, 3, .inl (fun _ => 0))), (m1, .inl (cy 1, 1868, .inl (upd (upd (upd (fun _ => 0) 1 2) 2 20) 3 120)))] H locs) (hl : lv_has ls 8 [(0, .ref b), (1, .ref q0), (2, .ref m0), (3, .ref o0), (4, .int 0)]) (kk : ∀ (H : Heap) (locs : List Loc) (ls : Array Slot), va_S A s.heap H locs → lv_has ls 8 [(0, .ref b), (4, .int 0)] → W p l e room_1 s m args below meth c H locs 600002 7302232 Q (F0 m 2461 ls [])) : W p l e room_1 s m args below meth c H locs 37 29845 Q (F0 m 2364 ls []) := by
  refine lv_aload_n C.1 C.2.1 dL_law_2364 rfl (lv_at hl 1 rfl) ?_
  refine lv_aload_n C.1 C.2.1 dL_law_2365 rfl (lv_at hl 0 rfl) ?_
  refine lv_iload C.1 C.2.1 dL_law_2366 (lv_at hl 4 rfl) ?_
  refine lv_iconst (v := 1) C.1 C.2.1 dL_law_2368 (by decide) ?_
  refine r_iadd C (v := 1) dL_law_2369 (by decide) ?_
  refine r_sld C w hX hbl hbA (v := 1) (vinD (by decide)) sx1 dL_law_2370 ?_
  refine r_callH C w fh_RL_245 (c_L_image_4 l D cy q0 q1 q2 q4 q5 q6 q10 q11 q12 q13 q14 q15 q16 q17) (hl.1.trans hml.symm) [0, 1, 2] [3, 4, 5, 6] (wr := [(m0, .inr (12, [.ref m1, .ref m2, .ref m3, .ref m4, .ref m5, .int 0, .ref m6, .int 0, .int 0, .int 0, .int 0, .int 0, .int 0, .int 0, .int 0, .int 0, .int 0, .int (-1), .ref m7, .ref m8, .int 0, .ref m9, .int 0, .ref m10, .ref m11, .ref m12, .ref m13, .ref m14, .int 0, .ref m15, .ref m16, .ref m17])), (m4, .inl (cy 1, 5604, .inl (fun _ => 0))), (m5, .inl (cy 3, 3, .inl (fun _ => 0))), (m1, .inl (cy 1, 1868, .inl (upd (upd (upd (fun _ => 0) 1 2) 2 20) 3 120)))]) ⟨rfl, rfl, rfl, rfl, by decide⟩ rfl rfl ⟨Nat.le_of_ble_eq_true rfl, Nat.le_of_ble_eq_true rfl, Nat.le_of_ble_eq_true rfl⟩ 37 29845 ⟨rfl, rfl, Nat.le_of_ble_eq_true rfl, Nat.le_of_ble_eq_true rfl⟩ dL_law_2371 (fun u H locs hp w => ?_)
  have w : Wd D A s.heap [(m0, .inr (12, [.ref m1, .ref m2, .ref m3, .ref m4, .ref m5, .int 0, .ref m6, .int 0, .int 0, .int 0, .int 0, .int 0, .int 0, .int 0, .int 0, .int 0, .int 0, .int (-1), .ref m7, .ref m8, .int 0, .ref m9, .int 0, .ref m10, .ref m11, .ref m12, .ref m13, .ref m14, .int 0, .ref m15, .ref m16, .ref m17])), (m4, .inl (cy 1, 5604, .inl (fun _ => 0))), (m5, .inl (cy 3, 3, .inl (fun _ => 0))), (m1, .inl (cy 1, 1868, .inl (upd (upd (upd (fun _ => 0) 1 2) 2 20) 3 120)))] _ _ := w.pick [0, 1, 2, 3] rfl rfl
  refine r_top (g2 := F0 m 2374 ls [.int 0]) rfl ?_
  refine lv_istore (lv' := [(5, .int 0), (0, .ref b), (1, .ref q0), (2, .ref m0), (3, .ref o0), (4, .int 0)]) C.1 C.2.1 dL_law_2374 hl (by decide) rfl (fun ls hl => ?_)
  refine lv_aload_n C.1 C.2.1 dL_law_2376 rfl (lv_at hl 3 rfl) ?_
  refine lv_aload_n C.1 C.2.1 dL_law_2377 rfl (lv_at hl 1 rfl) ?_
  refine lv_iload C.1 C.2.1 dL_law_2378 (lv_at hl 5 rfl) ?_
  refine lv_iconst (v := 1) C.1 C.2.1 dL_law_2380 (by decide) ?_
  refine r_iadd C (v := 1) dL_law_2381 (by decide) ?_
  refine r_sld C w hX hbl hbA (v := 1) (vinD (by decide)) sx1 dL_law_2382 ?_
  refine r_callV C w fv_RL_248 (c_X12_image_3 l D cy m0 m1 m2 m3 m4 m5 m6 m7 m8 m9 m10 m11 m12 m13 m14 m15 m16 m17) (hl.1.trans hml.symm) [0, 3, 1, 2] [] (wr := []) ⟨rfl, rfl, rfl, rfl, by decide⟩ 0 rfl rfl rfl rfl rfl ⟨Nat.le_of_ble_eq_true rfl, Nat.le_of_ble_eq_true rfl, Nat.le_of_ble_eq_true rfl⟩ 37 29845 ⟨rfl, rfl, Nat.le_of_ble_eq_true rfl, Nat.le_of_ble_eq_true rfl⟩ dL_law_2383 (fun u H locs hp w => ?_)
  have w : Wd D A s.heap [(m0, .inr (12, [.ref m1, .ref m2, .ref m3, .ref m4, .ref m5, .int 0, .ref m6, .int 0, .int 0, .int 0, .int 0, .int 0, .int 0, .int 0, .int 0, .int 0, .int 0, .int (-1), .ref m7, .ref m8, .int 0, .ref m9, .int 0, .ref m10, .ref m11, .ref m12, .ref m13, .ref m14, .int 0, .ref m15, .ref m16, .ref m17]))] _ _ := w.pick [0] rfl rfl
  refine r_top (g2 := F0 m 2386 ls []) rfl ?_
  refine lv_aload_n C.1 C.2.1 dL_law_2386 rfl (lv_at hl 3 rfl) ?_
  refine r_callV C w fv_RL_134 (c_X12_thrown_1 l D cy m0 m1 m2 m3 m4 m5 m6 m7 m8 m9 m10 m11 m12 m13 m14 m15 m16 m17) (hl.1.trans hml.symm) [0] [] (wr := []) ⟨rfl, rfl, rfl, rfl, by decide⟩ 0 rfl rfl rfl rfl rfl ⟨Nat.le_of_ble_eq_true rfl, Nat.le_of_ble_eq_true rfl, Nat.le_of_ble_eq_true rfl⟩ 37 29845 ⟨rfl, rfl, Nat.le_of_ble_eq_true rfl, Nat.le_of_ble_eq_true rfl⟩ dL_law_2387 (fun u H locs hp w => ?_)
  have w : Wd D A s.heap [(m0, .inr (12, [.ref m1, .ref m2, .ref m3, .ref m4, .ref m5, .int 0, .ref m6, .int 0, .int 0, .int 0, .int 0, .int 0, .int 0, .int 0, .int 0, .int 0, .int 0, .int (-1), .ref m7, .ref m8, .int 0, .ref m9, .int 0, .ref m10, .ref m11, .ref m12, .ref m13, .ref m14, .int 0, .ref m15, .ref m16, .ref m17]))] _ _ := w.pick [0] rfl rfl
  refine r_top (g2 := F0 m 2390 ls [.int 0]) rfl ?_
  refine lv_iload C.1 C.2.1 dL_law_2390 (lv_at hl 0 rfl) ?_
  refine b_icmp_eq_t C (tgt := 2397) dL_law_2392 (by decide) (by decide) ?_
  refine lv_goto (tgt := 2461) C.1 C.2.1 dL_law_2397 (by decide) ?_
  refine W.widen (k := 600002) (n := 7302232) (Nat.le_of_ble_eq_true rfl) (Nat.le_of_ble_eq_true rfl) ?_
  exact kk _ _ _ w.2.2 (lv_sub hl [1, 5] rfl)
set_option maxRecDepth 100000 in
set_option maxHeartbeats 4000000 in
theorem t_L_34 {p : Program} {l : Launch} {e : Env} {s : State} {m : MethodId} {args : Array Value} {below : List Frame} {meth : Method} {c : Code} {Q : State → Prop} {D : va_G} {cy : Nat → ClassId} {A : Nat → Prop} {H : Heap} {locs : List Loc} {ls : Array Slot} {xs : Nat → Int32} (b q0 q1 q2 q4 q5 q6 q10 q3 q7 q8 q9 q11 q12 q13 q14 q15 q16 q17 m0 m1 m2 m3 m4 m5 m6 m7 m8 m9 m10 m11 m12 m13 m14 m15 m16 m17 o0 : Nat) (hst : l.stackTraces = false) (C : Cx p s m args c cL_law RL D cy A) (hml : c.maxLocals = 8) (hX : va_X b 6 xs s s.heap) (hbl : b < s.heap.size) (hbA : ¬ A b) (w : Wd D A s.heap [(q0, .inr (11, [.ref q1, .int 0, .int 0, .int (-1), .ref q2, .ref q4, .ref q5, .ref q6, .ref q10, .null])), (q1, .inl (cy 0, 900, .inl (fun _ => 0))), (q2, .inr (5, [.ref q3, .int 0, .int 0, .int 0, .int 0, .int 0, .int 0, .null])), (q3, .inl (cy 0, 0, .inl (fun _ => 0))), (q4, .inl (cy 4, 5, .inr (.inr (.inr (.inr (va_up (fun _ => none) 0 (some q10))))))), (q5, .inl (cy 4, 3, .inr (.inr (.inr (.inr (fun _ => none)))))), (q6, .inr (10, [.ref q7, .ref q8, .ref q9])), (q7, .inl (cy 1, 4, .inl (upd (upd (upd (upd (fun _ => 0) 0 (-1)) 1 (-1)) 2 (-1)) 3 (-1)))), (q8, .inl (cy 1, 4, .inl (fun _ => 0))), (q9, .inl (cy 2, 160, .inr (.inl (fun _ => 0)))), (q10, .inr (9, [.int 0, .int 2, .int 20, .int 120, .int 0, .int 0, .int 0, .int 0, .ref q11, .int 0, .ref q12, .ref q13, .int 0, .ref q14, .ref q15, .ref q16, .ref q17])), (q11, .inl (cy 1, 6, .inl (fun _ => 0))), (q12, .inl (cy 1, 20, .inl (fun _ => 0))), (q13, .inl (cy 1, 20, .inl (fun _ => 0))), (q14, .inl (cy 1, 300, .inl (fun _ => 0))), (q15, .inl (cy 1, 300, .inl (fun _ => 0))), (q16, .inl (cy 1, 300, .inl (fun _ => 0))), (q17, .inl (cy 1, 300, .inl (fun _ => 0))), (m0, .inr (12, [.ref m1, .ref m2, .ref m3, .ref m4, .ref m5, .int 0, .ref m6, .int 0, .int 0, .int 0, .int 0, .int 0, .int 0, .int 0, .int 0, .int 0, .int 0, .int (-1), .ref m7, .ref m8, .int 0, .ref m9, .int 0, .ref m10, .ref m11, .ref m12, .ref m13, .ref m14, .int 0, .ref m15, .ref m16, .ref m17])), (m2, .inl (cy 1, 1868, .inl (fun _ => 0))), (m3, .inl (cy 1, 1868, .inl (fun _ => 0))), (m4, .inl (cy 1, 5604, .inl (fun _ => 0))), (m5, .inl (cy 3, 3, .inl (fun _ => 0))), (m6, .inl (cy 1, 900, .inl (fun _ => 0))), (m7, .inl (cy 1, 1830, .inl (fun _ => 0))), (m8, .inl (cy 1, 1830, .inl (fun _ => 0))), (m9, .inl (cy 2, 2465, .inr (.inl (fun _ => 0)))), (m10, .inl (cy 1, 7201, .inl (fun _ => 0))), (m11, .inl (cy 1, 1830, .inl (fun _ => 0))), (m12, .inl (cy 1, 5, .inl (fun _ => 0))), (m13, .inl (cy 1, 6, .inl (fun _ => 0))), (m14, .inl (cy 1, 6, .inl (fun _ => 0))), (m15, .inl (cy 1, 4, .inl (upd (upd (upd (upd (fun _ => 0) 0 (-1)) 1 (-1)) 2 (-1)) 3 (-1)))), (m16, .inl (cy 1, 4, .inl (fun _ => 0))), (m17, .inl (cy 2, 160, .inr (.inl (fun _ => 0)))), (m1, .inl (cy 1, 1868, .inl (upd (upd (upd (fun _ => 0) 1 2) 2 20) 3 120))), (o0, .inl (cy 2, 1, .inr (.inl (fun _ => 0))))] H locs) (hl : lv_has ls 8 [(0, .ref b), (1, .ref q0), (2, .ref m0), (3, .ref o0), (4, .int 0)]) (kk : ∀ (H : Heap) (locs : List Loc) (ls : Array Slot), va_S A s.heap H locs → lv_has ls 8 [(0, .ref b), (4, .int 0)] → W p l e room_1 s m args below meth c H locs 600002 7302232 Q (F0 m 2461 ls [])) : W p l e room_1 s m args below meth c H locs 37 29845 Q (F0 m 2364 ls []) := by
  obtain ⟨y1, sx1⟩ : ∃ y, xs 1 = y := ⟨_, rfl⟩
  obtain ⟨y2, sx2⟩ : ∃ y, xs 2 = y := ⟨_, rfl⟩
  obtain ⟨y3, sx3⟩ : ∃ y, xs 3 = y := ⟨_, rfl⟩
  obtain ⟨y4, sx4⟩ : ∃ y, xs 4 = y := ⟨_, rfl⟩
  obtain ⟨y5, sx5⟩ : ∃ y, xs 5 = y := ⟨_, rfl⟩
  by_cases g1 : y1 < 0
  · exact s_L_34_0 b q0 q1 q2 q4 q5 q6 q10 m0 m1 m2 m3 m4 m5 m6 m7 m8 m9 m10 m11 m12 m13 m14 m15 m16 m17 o0 y1 g1 sx1 hst C hml hX hbl hbA (w.pick [0, 18] rfl rfl) hl kk
  · by_cases g2 : y1 < 3
    · by_cases g3 : y1 = 0
      · subst g3
        exact s_L_34_2 b q0 q1 q2 q4 q5 q6 q10 q11 q12 q13 q14 q15 q16 q17 m0 m1 m2 m3 m4 m5 m6 m7 m8 m9 m10 m11 m12 m13 m14 m15 m16 m17 o0 sx1 C hml hX hbl hbA (w.pick [0, 5, 10, 18, 21, 22, 35] rfl rfl) hl kk
      · by_cases g4 : y1 = 2
        · subst g4
          exact s_L_34_3 b q0 q1 q2 q4 q5 q6 q10 q11 q12 q13 q14 q15 q16 q17 m0 m1 m2 m3 m4 m5 m6 m7 m8 m9 m10 m11 m12 m13 m14 m15 m16 m17 o0 sx1 C hml hX hbl hbA (w.pick [0, 5, 10, 18, 21, 22, 35] rfl rfl) hl kk
        · by_cases g5 : y1 = 1
          · subst g5
            exact s_L_34_4 b q0 q1 q2 q4 q5 q6 q10 q11 q12 q13 q14 q15 q16 q17 m0 m1 m2 m3 m4 m5 m6 m7 m8 m9 m10 m11 m12 m13 m14 m15 m16 m17 o0 sx1 C hml hX hbl hbA (w.pick [0, 5, 10, 18, 21, 22, 35] rfl rfl) hl kk
          · exfalso
            have h0 := i_nlt g1
            have h1 := i_lt g2
            have h2 := (not_congr (fa_eq _ _)).mp g3
            have h3 := (not_congr (fa_eq _ _)).mp g4
            have h4 := (not_congr (fa_eq _ _)).mp g5
            have e0 : (0 : Int32).toInt = 0 := (by decide)
            have e1 : (1 : Int32).toInt = 1 := (by decide)
            have e2 : (2 : Int32).toInt = 2 := (by decide)
            have e3 : (3 : Int32).toInt = 3 := (by decide)
            omega
    · exact s_L_34_1 b q0 q1 q2 q4 q5 q6 q10 m0 m1 m2 m3 m4 m5 m6 m7 m8 m9 m10 m11 m12 m13 m14 m15 m16 m17 o0 y1 g1 g2 sx1 hst C hml hX hbl hbA (w.pick [0, 18] rfl rfl) hl kk
theorem dL_law_2400 : decode cL_law 2400 = .ok (.aload_n 1, 1) := by decide +kernel
theorem dL_law_2401 : decode cL_law 2401 = .ok (.aload_n 0, 1) := by decide +kernel
theorem dL_law_2402 : decode cL_law 2402 = .ok (.iload 4, 2) := by decide +kernel
theorem dL_law_2404 : decode cL_law 2404 = .ok (.iconst 1, 1) := by decide +kernel
theorem dL_law_2405 : decode cL_law 2405 = .ok (.iadd, 1) := by decide +kernel
theorem dL_law_2406 : decode cL_law 2406 = .ok (.iaload, 1) := by decide +kernel
theorem dL_law_2407 : decode cL_law 2407 = .ok (.invokestatic 249, 3) := by decide +kernel
theorem fh_RL_249 : FH RL 249 yL_restore cL_restore 3 (some .int) [(0, 5, 8, 19), (0, 5, 11, 97)] 2 := ⟨⟨gw_mem (by decide +kernel) (by decide +kernel), gw_mem (by decide +kernel) (by decide +kernel), gw_mem (by decide +kernel) (by decide +kernel), gw_mem (by decide +kernel) (by decide +kernel)⟩, ⟨by decide +kernel, by decide +kernel, by decide +kernel⟩⟩
theorem dL_law_2410 : decode cL_law 2410 = .ok (.istore 5, 2) := by decide +kernel
theorem dL_law_2412 : decode cL_law 2412 = .ok (.aload_n 2, 1) := by decide +kernel
theorem dL_law_2413 : decode cL_law 2413 = .ok (.aload_n 0, 1) := by decide +kernel
theorem dL_law_2414 : decode cL_law 2414 = .ok (.iload 4, 2) := by decide +kernel
theorem dL_law_2416 : decode cL_law 2416 = .ok (.iconst 1, 1) := by decide +kernel
theorem dL_law_2417 : decode cL_law 2417 = .ok (.iadd, 1) := by decide +kernel
theorem dL_law_2418 : decode cL_law 2418 = .ok (.iaload, 1) := by decide +kernel
theorem dL_law_2419 : decode cL_law 2419 = .ok (.invokevirtual 251, 3) := by decide +kernel
theorem fv_RL_251 : FV RL 251 yX12_restore cX12_restore 3 none 1 := ⟨⟨gw_mem (by decide +kernel) (by decide +kernel), gw_mem (by decide +kernel) (by decide +kernel), gw_mem (by decide +kernel) (by decide +kernel), gw_mem (by decide +kernel) (by decide +kernel), gw_mem (by decide +kernel) (by decide +kernel)⟩, ⟨by decide +kernel, by decide +kernel, by decide +kernel⟩⟩
theorem dL_law_2422 : decode cL_law 2422 = .ok (.aload_n 2, 1) := by decide +kernel
theorem dL_law_2423 : decode cL_law 2423 = .ok (.invokevirtual 134, 3) := by decide +kernel
theorem dL_law_2426 : decode cL_law 2426 = .ok (.iload 5, 2) := by decide +kernel
theorem dL_law_2428 : decode cL_law 2428 = .ok (.if_icmp .eq 5, 3) := by decide +kernel
theorem dL_law_2433 : decode cL_law 2433 = .ok (.goto 28, 3) := by decide +kernel
set_option maxRecDepth 100000 in
set_option maxHeartbeats 4000000 in
theorem s_L_35_0 {p : Program} {l : Launch} {e : Env} {s : State} {m : MethodId} {args : Array Value} {below : List Frame} {meth : Method} {c : Code} {Q : State → Prop} {D : va_G} {cy : Nat → ClassId} {A : Nat → Prop} {H : Heap} {locs : List Loc} {ls : Array Slot} {xs : Nat → Int32} (b q0 q1 q2 q4 q5 q6 q10 m0 m1 m2 m3 m4 m5 m6 m7 m8 m9 m10 m11 m12 m13 m14 m15 m16 m17 o0 : Nat) (y1 : Int32) (k0 : y1 < 0) (sx1 : xs 1 = y1) (hst : l.stackTraces = false) (C : Cx p s m args c cL_law RL D cy A) (hml : c.maxLocals = 8) (hX : va_X b 6 xs s s.heap) (hbl : b < s.heap.size) (hbA : ¬ A b) (w : Wd D A s.heap [(q0, .inr (11, [.ref q1, .int 0, .int 0, .int (-1), .ref q2, .ref q4, .ref q5, .ref q6, .ref q10, .null])), (m0, .inr (12, [.ref m1, .ref m2, .ref m3, .ref m4, .ref m5, .int 0, .ref m6, .int 0, .int 0, .int 0, .int 0, .int 0, .int 0, .int 0, .int 0, .int 0, .int 0, .int (-1), .ref m7, .ref m8, .int 0, .ref m9, .int 0, .ref m10, .ref m11, .ref m12, .ref m13, .ref m14, .int 0, .ref m15, .ref m16, .ref m17]))] H locs) (hl : lv_has ls 8 [(0, .ref b), (1, .ref q0), (2, .ref m0), (3, .ref o0), (4, .int 0)]) (kk : ∀ (H : Heap) (locs : List Loc) (ls : Array Slot), va_S A s.heap H locs → lv_has ls 8 [(0, .ref b), (4, .int 0)] → W p l e room_1 s m args below meth c H locs 600002 7302232 Q (F0 m 2461 ls [])) : W p l e room_1 s m args below meth c H locs 37 29845 Q (F0 m 2400 ls []) := by
  refine lv_aload_n C.1 C.2.1 dL_law_2400 rfl (lv_at hl 1 rfl) ?_
  refine lv_aload_n C.1 C.2.1 dL_law_2401 rfl (lv_at hl 0 rfl) ?_
  refine lv_iload C.1 C.2.1 dL_law_2402 (lv_at hl 4 rfl) ?_
  refine lv_iconst (v := 1) C.1 C.2.1 dL_law_2404 (by decide) ?_
  refine r_iadd C (v := 1) dL_law_2405 (by decide) ?_
  refine r_sld C w hX hbl hbA (v := y1) (vinD (by decide)) sx1 dL_law_2406 ?_
  refine r_callH C w fh_RL_249 (c_L_restore_0 l D cy q0 q1 q2 q4 q5 q6 q10 y1 k0 hst) (hl.1.trans hml.symm) [0] [1] (wr := [(m0, .inr (12, [.ref m1, .ref m2, .ref m3, .ref m4, .ref m5, .int 0, .ref m6, .int 0, .int 0, .int 0, .int 0, .int 0, .int 0, .int 0, .int 0, .int 0, .int 0, .int (-1), .ref m7, .ref m8, .int 0, .ref m9, .int 0, .ref m10, .ref m11, .ref m12, .ref m13, .ref m14, .int 0, .ref m15, .ref m16, .ref m17]))]) ⟨rfl, rfl, rfl, rfl, by decide⟩ rfl rfl ⟨Nat.le_of_ble_eq_true rfl, Nat.le_of_ble_eq_true rfl, Nat.le_of_ble_eq_true rfl⟩ 38 29851 ⟨rfl, rfl, Nat.le_of_ble_eq_true rfl, Nat.le_of_ble_eq_true rfl⟩ dL_law_2407 (fun u H locs hp w => ?_)
  have w : Wd D A s.heap [(m0, .inr (12, [.ref m1, .ref m2, .ref m3, .ref m4, .ref m5, .int 0, .ref m6, .int 0, .int 0, .int 0, .int 0, .int 0, .int 0, .int 0, .int 0, .int 0, .int 0, .int (-1), .ref m7, .ref m8, .int 0, .ref m9, .int 0, .ref m10, .ref m11, .ref m12, .ref m13, .ref m14, .int 0, .ref m15, .ref m16, .ref m17]))] _ _ := w.pick [0] rfl rfl
  refine r_top (g2 := F0 m 2410 ls [.int 1]) rfl ?_
  refine lv_istore (lv' := [(5, .int 1), (0, .ref b), (1, .ref q0), (2, .ref m0), (3, .ref o0), (4, .int 0)]) C.1 C.2.1 dL_law_2410 hl (by decide) rfl (fun ls hl => ?_)
  refine lv_aload_n C.1 C.2.1 dL_law_2412 rfl (lv_at hl 3 rfl) ?_
  refine lv_aload_n C.1 C.2.1 dL_law_2413 rfl (lv_at hl 1 rfl) ?_
  refine lv_iload C.1 C.2.1 dL_law_2414 (lv_at hl 5 rfl) ?_
  refine lv_iconst (v := 1) C.1 C.2.1 dL_law_2416 (by decide) ?_
  refine r_iadd C (v := 1) dL_law_2417 (by decide) ?_
  refine r_sld C w hX hbl hbA (v := y1) (vinD (by decide)) sx1 dL_law_2418 ?_
  refine r_callV C w fv_RL_251 (c_X12_restore_0 l D cy m0 m1 m2 m3 m4 m5 m6 m7 m8 m9 m10 m11 m12 m13 m14 m15 m16 m17 y1 k0) (hl.1.trans hml.symm) [0] [] (wr := []) ⟨rfl, rfl, rfl, rfl, by decide⟩ 0 rfl rfl rfl rfl rfl ⟨Nat.le_of_ble_eq_true rfl, Nat.le_of_ble_eq_true rfl, Nat.le_of_ble_eq_true rfl⟩ 38 29851 ⟨rfl, rfl, Nat.le_of_ble_eq_true rfl, Nat.le_of_ble_eq_true rfl⟩ dL_law_2419 (fun u H locs hp w => ?_)
  have w : Wd D A s.heap [(m0, .inr (12, [.ref m1, .ref m2, .ref m3, .ref m4, .ref m5, .int 1, .ref m6, .int 0, .int 0, .int 0, .int 0, .int 0, .int 0, .int 0, .int 0, .int 0, .int 0, .int (-1), .ref m7, .ref m8, .int 0, .ref m9, .int 0, .ref m10, .ref m11, .ref m12, .ref m13, .ref m14, .int 0, .ref m15, .ref m16, .ref m17]))] _ _ := w.pick [0] rfl rfl
  refine r_top (g2 := F0 m 2422 ls []) rfl ?_
  refine lv_aload_n C.1 C.2.1 dL_law_2422 rfl (lv_at hl 3 rfl) ?_
  refine r_callV C w fv_RL_134 (c_X12_thrown_0 l D cy m0 m1 m2 m3 m4 m5 m6 m7 m8 m9 m10 m11 m12 m13 m14 m15 m16 m17) (hl.1.trans hml.symm) [0] [] (wr := []) ⟨rfl, rfl, rfl, rfl, by decide⟩ 0 rfl rfl rfl rfl rfl ⟨Nat.le_of_ble_eq_true rfl, Nat.le_of_ble_eq_true rfl, Nat.le_of_ble_eq_true rfl⟩ 38 29851 ⟨rfl, rfl, Nat.le_of_ble_eq_true rfl, Nat.le_of_ble_eq_true rfl⟩ dL_law_2423 (fun u H locs hp w => ?_)
  have w : Wd D A s.heap [(m0, .inr (12, [.ref m1, .ref m2, .ref m3, .ref m4, .ref m5, .int 1, .ref m6, .int 0, .int 0, .int 0, .int 0, .int 0, .int 0, .int 0, .int 0, .int 0, .int 0, .int (-1), .ref m7, .ref m8, .int 0, .ref m9, .int 0, .ref m10, .ref m11, .ref m12, .ref m13, .ref m14, .int 0, .ref m15, .ref m16, .ref m17]))] _ _ := w.pick [0] rfl rfl
  refine r_top (g2 := F0 m 2426 ls [.int 1]) rfl ?_
  refine lv_iload C.1 C.2.1 dL_law_2426 (lv_at hl 0 rfl) ?_
  refine b_icmp_eq_t C (tgt := 2433) dL_law_2428 (by decide) (by decide) ?_
  refine lv_goto (tgt := 2461) C.1 C.2.1 dL_law_2433 (by decide) ?_
  refine W.widen (k := 600002) (n := 7302232) (Nat.le_of_ble_eq_true rfl) (Nat.le_of_ble_eq_true rfl) ?_
  exact kk _ _ _ w.2.2 (lv_sub hl [1, 5] rfl)
set_option maxRecDepth 100000 in
set_option maxHeartbeats 4000000 in
theorem s_L_35_1 {p : Program} {l : Launch} {e : Env} {s : State} {m : MethodId} {args : Array Value} {below : List Frame} {meth : Method} {c : Code} {Q : State → Prop} {D : va_G} {cy : Nat → ClassId} {A : Nat → Prop} {H : Heap} {locs : List Loc} {ls : Array Slot} {xs : Nat → Int32} (b q0 q1 q2 q4 q5 q6 q10 m0 m1 m2 m3 m4 m5 m6 m7 m8 m9 m10 m11 m12 m13 m14 m15 m16 m17 o0 : Nat) (y1 : Int32) (k0 : ¬ y1 < 0) (k1 : ¬ y1 < 3) (sx1 : xs 1 = y1) (hst : l.stackTraces = false) (C : Cx p s m args c cL_law RL D cy A) (hml : c.maxLocals = 8) (hX : va_X b 6 xs s s.heap) (hbl : b < s.heap.size) (hbA : ¬ A b) (w : Wd D A s.heap [(q0, .inr (11, [.ref q1, .int 0, .int 0, .int (-1), .ref q2, .ref q4, .ref q5, .ref q6, .ref q10, .null])), (m0, .inr (12, [.ref m1, .ref m2, .ref m3, .ref m4, .ref m5, .int 0, .ref m6, .int 0, .int 0, .int 0, .int 0, .int 0, .int 0, .int 0, .int 0, .int 0, .int 0, .int (-1), .ref m7, .ref m8, .int 0, .ref m9, .int 0, .ref m10, .ref m11, .ref m12, .ref m13, .ref m14, .int 0, .ref m15, .ref m16, .ref m17]))] H locs) (hl : lv_has ls 8 [(0, .ref b), (1, .ref q0), (2, .ref m0), (3, .ref o0), (4, .int 0)]) (kk : ∀ (H : Heap) (locs : List Loc) (ls : Array Slot), va_S A s.heap H locs → lv_has ls 8 [(0, .ref b), (4, .int 0)] → W p l e room_1 s m args below meth c H locs 600002 7302232 Q (F0 m 2461 ls [])) : W p l e room_1 s m args below meth c H locs 37 29845 Q (F0 m 2400 ls []) := by
  refine lv_aload_n C.1 C.2.1 dL_law_2400 rfl (lv_at hl 1 rfl) ?_
  refine lv_aload_n C.1 C.2.1 dL_law_2401 rfl (lv_at hl 0 rfl) ?_
  refine lv_iload C.1 C.2.1 dL_law_2402 (lv_at hl 4 rfl) ?_
  refine lv_iconst (v := 1) C.1 C.2.1 dL_law_2404 (by decide) ?_
  refine r_iadd C (v := 1) dL_law_2405 (by decide) ?_
  refine r_sld C w hX hbl hbA (v := y1) (vinD (by decide)) sx1 dL_law_2406 ?_
  refine r_callH C w fh_RL_249 (c_L_restore_1 l D cy q0 q1 q2 q4 q5 q6 q10 y1 k0 k1 hst) (hl.1.trans hml.symm) [0] [1] (wr := [(m0, .inr (12, [.ref m1, .ref m2, .ref m3, .ref m4, .ref m5, .int 0, .ref m6, .int 0, .int 0, .int 0, .int 0, .int 0, .int 0, .int 0, .int 0, .int 0, .int 0, .int (-1), .ref m7, .ref m8, .int 0, .ref m9, .int 0, .ref m10, .ref m11, .ref m12, .ref m13, .ref m14, .int 0, .ref m15, .ref m16, .ref m17]))]) ⟨rfl, rfl, rfl, rfl, by decide⟩ rfl rfl ⟨Nat.le_of_ble_eq_true rfl, Nat.le_of_ble_eq_true rfl, Nat.le_of_ble_eq_true rfl⟩ 38 29851 ⟨rfl, rfl, Nat.le_of_ble_eq_true rfl, Nat.le_of_ble_eq_true rfl⟩ dL_law_2407 (fun u H locs hp w => ?_)
  have w : Wd D A s.heap [(m0, .inr (12, [.ref m1, .ref m2, .ref m3, .ref m4, .ref m5, .int 0, .ref m6, .int 0, .int 0, .int 0, .int 0, .int 0, .int 0, .int 0, .int 0, .int 0, .int 0, .int (-1), .ref m7, .ref m8, .int 0, .ref m9, .int 0, .ref m10, .ref m11, .ref m12, .ref m13, .ref m14, .int 0, .ref m15, .ref m16, .ref m17]))] _ _ := w.pick [0] rfl rfl
  refine r_top (g2 := F0 m 2410 ls [.int 1]) rfl ?_
  refine lv_istore (lv' := [(5, .int 1), (0, .ref b), (1, .ref q0), (2, .ref m0), (3, .ref o0), (4, .int 0)]) C.1 C.2.1 dL_law_2410 hl (by decide) rfl (fun ls hl => ?_)
  refine lv_aload_n C.1 C.2.1 dL_law_2412 rfl (lv_at hl 3 rfl) ?_
  refine lv_aload_n C.1 C.2.1 dL_law_2413 rfl (lv_at hl 1 rfl) ?_
  refine lv_iload C.1 C.2.1 dL_law_2414 (lv_at hl 5 rfl) ?_
  refine lv_iconst (v := 1) C.1 C.2.1 dL_law_2416 (by decide) ?_
  refine r_iadd C (v := 1) dL_law_2417 (by decide) ?_
  refine r_sld C w hX hbl hbA (v := y1) (vinD (by decide)) sx1 dL_law_2418 ?_
  refine r_callV C w fv_RL_251 (c_X12_restore_4 l D cy m0 m1 m2 m3 m4 m5 m6 m7 m8 m9 m10 m11 m12 m13 m14 m15 m16 m17 y1 k0 (by have h0 := (i_nlt k0); have h1 := (i_nlt k1); have e0 : (0 : Int32).toInt = 0 := (by decide); have e1 : (2 : Int32).toInt = 2 := (by decide); have e2 : (3 : Int32).toInt = 3 := (by decide); rw [fa_lt]; omega)) (hl.1.trans hml.symm) [0] [] (wr := []) ⟨rfl, rfl, rfl, rfl, by decide⟩ 0 rfl rfl rfl rfl rfl ⟨Nat.le_of_ble_eq_true rfl, Nat.le_of_ble_eq_true rfl, Nat.le_of_ble_eq_true rfl⟩ 38 29851 ⟨rfl, rfl, Nat.le_of_ble_eq_true rfl, Nat.le_of_ble_eq_true rfl⟩ dL_law_2419 (fun u H locs hp w => ?_)
  have w : Wd D A s.heap [(m0, .inr (12, [.ref m1, .ref m2, .ref m3, .ref m4, .ref m5, .int 1, .ref m6, .int 0, .int 0, .int 0, .int 0, .int 0, .int 0, .int 0, .int 0, .int 0, .int 0, .int (-1), .ref m7, .ref m8, .int 0, .ref m9, .int 0, .ref m10, .ref m11, .ref m12, .ref m13, .ref m14, .int 0, .ref m15, .ref m16, .ref m17]))] _ _ := w.pick [0] rfl rfl
  refine r_top (g2 := F0 m 2422 ls []) rfl ?_
  refine lv_aload_n C.1 C.2.1 dL_law_2422 rfl (lv_at hl 3 rfl) ?_
  refine r_callV C w fv_RL_134 (c_X12_thrown_0 l D cy m0 m1 m2 m3 m4 m5 m6 m7 m8 m9 m10 m11 m12 m13 m14 m15 m16 m17) (hl.1.trans hml.symm) [0] [] (wr := []) ⟨rfl, rfl, rfl, rfl, by decide⟩ 0 rfl rfl rfl rfl rfl ⟨Nat.le_of_ble_eq_true rfl, Nat.le_of_ble_eq_true rfl, Nat.le_of_ble_eq_true rfl⟩ 38 29851 ⟨rfl, rfl, Nat.le_of_ble_eq_true rfl, Nat.le_of_ble_eq_true rfl⟩ dL_law_2423 (fun u H locs hp w => ?_)
  have w : Wd D A s.heap [(m0, .inr (12, [.ref m1, .ref m2, .ref m3, .ref m4, .ref m5, .int 1, .ref m6, .int 0, .int 0, .int 0, .int 0, .int 0, .int 0, .int 0, .int 0, .int 0, .int 0, .int (-1), .ref m7, .ref m8, .int 0, .ref m9, .int 0, .ref m10, .ref m11, .ref m12, .ref m13, .ref m14, .int 0, .ref m15, .ref m16, .ref m17]))] _ _ := w.pick [0] rfl rfl
  refine r_top (g2 := F0 m 2426 ls [.int 1]) rfl ?_
  refine lv_iload C.1 C.2.1 dL_law_2426 (lv_at hl 0 rfl) ?_
  refine b_icmp_eq_t C (tgt := 2433) dL_law_2428 (by decide) (by decide) ?_
  refine lv_goto (tgt := 2461) C.1 C.2.1 dL_law_2433 (by decide) ?_
  refine W.widen (k := 600002) (n := 7302232) (Nat.le_of_ble_eq_true rfl) (Nat.le_of_ble_eq_true rfl) ?_
  exact kk _ _ _ w.2.2 (lv_sub hl [1, 5] rfl)
set_option maxRecDepth 100000 in
set_option maxHeartbeats 4000000 in
theorem s_L_35_2 {p : Program} {l : Launch} {e : Env} {s : State} {m : MethodId} {args : Array Value} {below : List Frame} {meth : Method} {c : Code} {Q : State → Prop} {D : va_G} {cy : Nat → ClassId} {A : Nat → Prop} {H : Heap} {locs : List Loc} {ls : Array Slot} {xs : Nat → Int32} (b q0 q1 q2 q4 q5 q6 q10 m0 m1 m2 m3 m4 m5 m6 m7 m8 m9 m10 m11 m12 m13 m14 m15 m16 m17 o0 : Nat) (sx1 : xs 1 = 0) (hst : l.stackTraces = false) (C : Cx p s m args c cL_law RL D cy A) (hml : c.maxLocals = 8) (hX : va_X b 6 xs s s.heap) (hbl : b < s.heap.size) (hbA : ¬ A b) (w : Wd D A s.heap [(q0, .inr (11, [.ref q1, .int 0, .int 0, .int (-1), .ref q2, .ref q4, .ref q5, .ref q6, .ref q10, .null])), (q5, .inl (cy 4, 3, .inr (.inr (.inr (.inr (fun _ => none)))))), (m0, .inr (12, [.ref m1, .ref m2, .ref m3, .ref m4, .ref m5, .int 0, .ref m6, .int 0, .int 0, .int 0, .int 0, .int 0, .int 0, .int 0, .int 0, .int 0, .int 0, .int (-1), .ref m7, .ref m8, .int 0, .ref m9, .int 0, .ref m10, .ref m11, .ref m12, .ref m13, .ref m14, .int 0, .ref m15, .ref m16, .ref m17])), (m5, .inl (cy 3, 3, .inl (fun _ => 0)))] H locs) (hl : lv_has ls 8 [(0, .ref b), (1, .ref q0), (2, .ref m0), (3, .ref o0), (4, .int 0)]) (kk : ∀ (H : Heap) (locs : List Loc) (ls : Array Slot), va_S A s.heap H locs → lv_has ls 8 [(0, .ref b), (4, .int 0)] → W p l e room_1 s m args below meth c H locs 600002 7302232 Q (F0 m 2461 ls [])) : W p l e room_1 s m args below meth c H locs 37 29845 Q (F0 m 2400 ls []) := by
  refine lv_aload_n C.1 C.2.1 dL_law_2400 rfl (lv_at hl 1 rfl) ?_
  refine lv_aload_n C.1 C.2.1 dL_law_2401 rfl (lv_at hl 0 rfl) ?_
  refine lv_iload C.1 C.2.1 dL_law_2402 (lv_at hl 4 rfl) ?_
  refine lv_iconst (v := 1) C.1 C.2.1 dL_law_2404 (by decide) ?_
  refine r_iadd C (v := 1) dL_law_2405 (by decide) ?_
  refine r_sld C w hX hbl hbA (v := 0) (vinD (by decide)) sx1 dL_law_2406 ?_
  refine r_callH C w fh_RL_249 (c_L_restore_2 l D cy q0 q1 q2 q4 q5 q6 q10 hst) (hl.1.trans hml.symm) [0, 1] [2, 3] (wr := [(m0, .inr (12, [.ref m1, .ref m2, .ref m3, .ref m4, .ref m5, .int 0, .ref m6, .int 0, .int 0, .int 0, .int 0, .int 0, .int 0, .int 0, .int 0, .int 0, .int 0, .int (-1), .ref m7, .ref m8, .int 0, .ref m9, .int 0, .ref m10, .ref m11, .ref m12, .ref m13, .ref m14, .int 0, .ref m15, .ref m16, .ref m17])), (m5, .inl (cy 3, 3, .inl (fun _ => 0)))]) ⟨rfl, rfl, rfl, rfl, by decide⟩ rfl rfl ⟨Nat.le_of_ble_eq_true rfl, Nat.le_of_ble_eq_true rfl, Nat.le_of_ble_eq_true rfl⟩ 38 29851 ⟨rfl, rfl, Nat.le_of_ble_eq_true rfl, Nat.le_of_ble_eq_true rfl⟩ dL_law_2407 (fun u H locs hp w => ?_)
  have w : Wd D A s.heap [(m0, .inr (12, [.ref m1, .ref m2, .ref m3, .ref m4, .ref m5, .int 0, .ref m6, .int 0, .int 0, .int 0, .int 0, .int 0, .int 0, .int 0, .int 0, .int 0, .int 0, .int (-1), .ref m7, .ref m8, .int 0, .ref m9, .int 0, .ref m10, .ref m11, .ref m12, .ref m13, .ref m14, .int 0, .ref m15, .ref m16, .ref m17])), (m5, .inl (cy 3, 3, .inl (fun _ => 0)))] _ _ := w.pick [0, 1] rfl rfl
  refine r_top (g2 := F0 m 2410 ls [.int 2]) rfl ?_
  refine lv_istore (lv' := [(5, .int 2), (0, .ref b), (1, .ref q0), (2, .ref m0), (3, .ref o0), (4, .int 0)]) C.1 C.2.1 dL_law_2410 hl (by decide) rfl (fun ls hl => ?_)
  refine lv_aload_n C.1 C.2.1 dL_law_2412 rfl (lv_at hl 3 rfl) ?_
  refine lv_aload_n C.1 C.2.1 dL_law_2413 rfl (lv_at hl 1 rfl) ?_
  refine lv_iload C.1 C.2.1 dL_law_2414 (lv_at hl 5 rfl) ?_
  refine lv_iconst (v := 1) C.1 C.2.1 dL_law_2416 (by decide) ?_
  refine r_iadd C (v := 1) dL_law_2417 (by decide) ?_
  refine r_sld C w hX hbl hbA (v := 0) (vinD (by decide)) sx1 dL_law_2418 ?_
  refine r_callV C w fv_RL_251 (c_X12_restore_1 l D cy m0 m1 m2 m3 m4 m5 m6 m7 m8 m9 m10 m11 m12 m13 m14 m15 m16 m17) (hl.1.trans hml.symm) [0, 1] [] (wr := []) ⟨rfl, rfl, rfl, rfl, by decide⟩ 0 rfl rfl rfl rfl rfl ⟨Nat.le_of_ble_eq_true rfl, Nat.le_of_ble_eq_true rfl, Nat.le_of_ble_eq_true rfl⟩ 38 29851 ⟨rfl, rfl, Nat.le_of_ble_eq_true rfl, Nat.le_of_ble_eq_true rfl⟩ dL_law_2419 (fun u H locs hp w => ?_)
  have w : Wd D A s.heap [(m0, .inr (12, [.ref m1, .ref m2, .ref m3, .ref m4, .ref m5, .int 2, .ref m6, .int 0, .int 0, .int 0, .int 0, .int 0, .int 0, .int 0, .int 0, .int 0, .int 0, .int (-1), .ref m7, .ref m8, .int 0, .ref m9, .int 0, .ref m10, .ref m11, .ref m12, .ref m13, .ref m14, .int 0, .ref m15, .ref m16, .ref m17]))] _ _ := w.pick [0] rfl rfl
  refine r_top (g2 := F0 m 2422 ls []) rfl ?_
  refine lv_aload_n C.1 C.2.1 dL_law_2422 rfl (lv_at hl 3 rfl) ?_
  refine r_callV C w fv_RL_134 (c_X12_thrown_10 l D cy m0 m1 m2 m3 m4 m5 m6 m7 m8 m9 m10 m11 m12 m13 m14 m15 m16 m17) (hl.1.trans hml.symm) [0] [] (wr := []) ⟨rfl, rfl, rfl, rfl, by decide⟩ 0 rfl rfl rfl rfl rfl ⟨Nat.le_of_ble_eq_true rfl, Nat.le_of_ble_eq_true rfl, Nat.le_of_ble_eq_true rfl⟩ 38 29851 ⟨rfl, rfl, Nat.le_of_ble_eq_true rfl, Nat.le_of_ble_eq_true rfl⟩ dL_law_2423 (fun u H locs hp w => ?_)
  have w : Wd D A s.heap [(m0, .inr (12, [.ref m1, .ref m2, .ref m3, .ref m4, .ref m5, .int 2, .ref m6, .int 0, .int 0, .int 0, .int 0, .int 0, .int 0, .int 0, .int 0, .int 0, .int 0, .int (-1), .ref m7, .ref m8, .int 0, .ref m9, .int 0, .ref m10, .ref m11, .ref m12, .ref m13, .ref m14, .int 0, .ref m15, .ref m16, .ref m17]))] _ _ := w.pick [0] rfl rfl
  refine r_top (g2 := F0 m 2426 ls [.int 2]) rfl ?_
  refine lv_iload C.1 C.2.1 dL_law_2426 (lv_at hl 0 rfl) ?_
  refine b_icmp_eq_t C (tgt := 2433) dL_law_2428 (by decide) (by decide) ?_
  refine lv_goto (tgt := 2461) C.1 C.2.1 dL_law_2433 (by decide) ?_
  refine W.widen (k := 600002) (n := 7302232) (Nat.le_of_ble_eq_true rfl) (Nat.le_of_ble_eq_true rfl) ?_
  exact kk _ _ _ w.2.2 (lv_sub hl [1, 5] rfl)
set_option maxRecDepth 100000 in
set_option maxHeartbeats 4000000 in
theorem s_L_35_3 {p : Program} {l : Launch} {e : Env} {s : State} {m : MethodId} {args : Array Value} {below : List Frame} {meth : Method} {c : Code} {Q : State → Prop} {D : va_G} {cy : Nat → ClassId} {A : Nat → Prop} {H : Heap} {locs : List Loc} {ls : Array Slot} {xs : Nat → Int32} (b q0 q1 q2 q4 q5 q6 q10 m0 m1 m2 m3 m4 m5 m6 m7 m8 m9 m10 m11 m12 m13 m14 m15 m16 m17 o0 : Nat) (sx1 : xs 1 = 2) (hst : l.stackTraces = false) (C : Cx p s m args c cL_law RL D cy A) (hml : c.maxLocals = 8) (hX : va_X b 6 xs s s.heap) (hbl : b < s.heap.size) (hbA : ¬ A b) (w : Wd D A s.heap [(q0, .inr (11, [.ref q1, .int 0, .int 0, .int (-1), .ref q2, .ref q4, .ref q5, .ref q6, .ref q10, .null])), (q5, .inl (cy 4, 3, .inr (.inr (.inr (.inr (fun _ => none)))))), (m0, .inr (12, [.ref m1, .ref m2, .ref m3, .ref m4, .ref m5, .int 0, .ref m6, .int 0, .int 0, .int 0, .int 0, .int 0, .int 0, .int 0, .int 0, .int 0, .int 0, .int (-1), .ref m7, .ref m8, .int 0, .ref m9, .int 0, .ref m10, .ref m11, .ref m12, .ref m13, .ref m14, .int 0, .ref m15, .ref m16, .ref m17])), (m5, .inl (cy 3, 3, .inl (fun _ => 0)))] H locs) (hl : lv_has ls 8 [(0, .ref b), (1, .ref q0), (2, .ref m0), (3, .ref o0), (4, .int 0)]) (kk : ∀ (H : Heap) (locs : List Loc) (ls : Array Slot), va_S A s.heap H locs → lv_has ls 8 [(0, .ref b), (4, .int 0)] → W p l e room_1 s m args below meth c H locs 600002 7302232 Q (F0 m 2461 ls [])) : W p l e room_1 s m args below meth c H locs 37 29845 Q (F0 m 2400 ls []) := by
  refine lv_aload_n C.1 C.2.1 dL_law_2400 rfl (lv_at hl 1 rfl) ?_
  refine lv_aload_n C.1 C.2.1 dL_law_2401 rfl (lv_at hl 0 rfl) ?_
  refine lv_iload C.1 C.2.1 dL_law_2402 (lv_at hl 4 rfl) ?_
  refine lv_iconst (v := 1) C.1 C.2.1 dL_law_2404 (by decide) ?_
  refine r_iadd C (v := 1) dL_law_2405 (by decide) ?_
  refine r_sld C w hX hbl hbA (v := 2) (vinD (by decide)) sx1 dL_law_2406 ?_
  refine r_callH C w fh_RL_249 (c_L_restore_3 l D cy q0 q1 q2 q4 q5 q6 q10 hst) (hl.1.trans hml.symm) [0, 1] [2, 3] (wr := [(m0, .inr (12, [.ref m1, .ref m2, .ref m3, .ref m4, .ref m5, .int 0, .ref m6, .int 0, .int 0, .int 0, .int 0, .int 0, .int 0, .int 0, .int 0, .int 0, .int 0, .int (-1), .ref m7, .ref m8, .int 0, .ref m9, .int 0, .ref m10, .ref m11, .ref m12, .ref m13, .ref m14, .int 0, .ref m15, .ref m16, .ref m17])), (m5, .inl (cy 3, 3, .inl (fun _ => 0)))]) ⟨rfl, rfl, rfl, rfl, by decide⟩ rfl rfl ⟨Nat.le_of_ble_eq_true rfl, Nat.le_of_ble_eq_true rfl, Nat.le_of_ble_eq_true rfl⟩ 38 29851 ⟨rfl, rfl, Nat.le_of_ble_eq_true rfl, Nat.le_of_ble_eq_true rfl⟩ dL_law_2407 (fun u H locs hp w => ?_)
  have w : Wd D A s.heap [(m0, .inr (12, [.ref m1, .ref m2, .ref m3, .ref m4, .ref m5, .int 0, .ref m6, .int 0, .int 0, .int 0, .int 0, .int 0, .int 0, .int 0, .int 0, .int 0, .int 0, .int (-1), .ref m7, .ref m8, .int 0, .ref m9, .int 0, .ref m10, .ref m11, .ref m12, .ref m13, .ref m14, .int 0, .ref m15, .ref m16, .ref m17])), (m5, .inl (cy 3, 3, .inl (fun _ => 0)))] _ _ := w.pick [0, 1] rfl rfl
  refine r_top (g2 := F0 m 2410 ls [.int 2]) rfl ?_
  refine lv_istore (lv' := [(5, .int 2), (0, .ref b), (1, .ref q0), (2, .ref m0), (3, .ref o0), (4, .int 0)]) C.1 C.2.1 dL_law_2410 hl (by decide) rfl (fun ls hl => ?_)
  refine lv_aload_n C.1 C.2.1 dL_law_2412 rfl (lv_at hl 3 rfl) ?_
  refine lv_aload_n C.1 C.2.1 dL_law_2413 rfl (lv_at hl 1 rfl) ?_
  refine lv_iload C.1 C.2.1 dL_law_2414 (lv_at hl 5 rfl) ?_
  refine lv_iconst (v := 1) C.1 C.2.1 dL_law_2416 (by decide) ?_
  refine r_iadd C (v := 1) dL_law_2417 (by decide) ?_
  refine r_sld C w hX hbl hbA (v := 2) (vinD (by decide)) sx1 dL_law_2418 ?_
  refine r_callV C w fv_RL_251 (c_X12_restore_2 l D cy m0 m1 m2 m3 m4 m5 m6 m7 m8 m9 m10 m11 m12 m13 m14 m15 m16 m17) (hl.1.trans hml.symm) [0, 1] [] (wr := []) ⟨rfl, rfl, rfl, rfl, by decide⟩ 0 rfl rfl rfl rfl rfl ⟨Nat.le_of_ble_eq_true rfl, Nat.le_of_ble_eq_true rfl, Nat.le_of_ble_eq_true rfl⟩ 38 29851 ⟨rfl, rfl, Nat.le_of_ble_eq_true rfl, Nat.le_of_ble_eq_true rfl⟩ dL_law_2419 (fun u H locs hp w => ?_)
  have w : Wd D A s.heap [(m0, .inr (12, [.ref m1, .ref m2, .ref m3, .ref m4, .ref m5, .int 2, .ref m6, .int 0, .int 0, .int 0, .int 0, .int 0, .int 0, .int 0, .int 0, .int 0, .int 0, .int (-1), .ref m7, .ref m8, .int 0, .ref m9, .int 0, .ref m10, .ref m11, .ref m12, .ref m13, .ref m14, .int 0, .ref m15, .ref m16, .ref m17]))] _ _ := w.pick [0] rfl rfl
  refine r_top (g2 := F0 m 2422 ls []) rfl ?_
  refine lv_aload_n C.1 C.2.1 dL_law_2422 rfl (lv_at hl 3 rfl) ?_
  refine r_callV C w fv_RL_134 (c_X12_thrown_10 l D cy m0 m1 m2 m3 m4 m5 m6 m7 m8 m9 m10 m11 m12 m13 m14 m15 m16 m17) (hl.1.trans hml.symm) [0] [] (wr := []) ⟨rfl, rfl, rfl, rfl, by decide⟩ 0 rfl rfl rfl rfl rfl ⟨Nat.le_of_ble_eq_true rfl, Nat.le_of_ble_eq_true rfl, Nat.le_of_ble_eq_true rfl⟩ 38 29851 ⟨rfl, rfl, Nat.le_of_ble_eq_true rfl, Nat.le_of_ble_eq_true rfl⟩ dL_law_2423 (fun u H locs hp w => ?_)
  have w : Wd D A s.heap [(m0, .inr (12, [.ref m1, .ref m2, .ref m3, .ref m4, .ref m5, .int 2, .ref m6, .int 0, .int 0, .int 0, .int 0, .int 0, .int 0, .int 0, .int 0, .int 0, .int 0, .int (-1), .ref m7, .ref m8, .int 0, .ref m9, .int 0, .ref m10, .ref m11, .ref m12, .ref m13, .ref m14, .int 0, .ref m15, .ref m16, .ref m17]))] _ _ := w.pick [0] rfl rfl
  refine r_top (g2 := F0 m 2426 ls [.int 2]) rfl ?_
  refine lv_iload C.1 C.2.1 dL_law_2426 (lv_at hl 0 rfl) ?_
  refine b_icmp_eq_t C (tgt := 2433) dL_law_2428 (by decide) (by decide) ?_
  refine lv_goto (tgt := 2461) C.1 C.2.1 dL_law_2433 (by decide) ?_
  refine W.widen (k := 600002) (n := 7302232) (Nat.le_of_ble_eq_true rfl) (Nat.le_of_ble_eq_true rfl) ?_
  exact kk _ _ _ w.2.2 (lv_sub hl [1, 5] rfl)
set_option maxRecDepth 100000 in
set_option maxHeartbeats 4000000 in
theorem s_L_35_4 {p : Program} {l : Launch} {e : Env} {s : State} {m : MethodId} {args : Array Value} {below : List Frame} {meth : Method} {c : Code} {Q : State → Prop} {D : va_G} {cy : Nat → ClassId} {A : Nat → Prop} {H : Heap} {locs : List Loc} {ls : Array Slot} {xs : Nat → Int32} (b q0 q1 q2 q4 q5 q6 q10 m0 m1 m2 m3 m4 m5 m6 m7 m8 m9 m10 m11 m12 m13 m14 m15 m16 m17 o0 : Nat) (sx1 : xs 1 = 1) (hst : l.stackTraces = false) (C : Cx p s m args c cL_law RL D cy A) (hml : c.maxLocals = 8) (hX : va_X b 6 xs s s.heap) (hbl : b < s.heap.size) (hbA : ¬ A b) (w : Wd D A s.heap [(q0, .inr (11, [.ref q1, .int 0, .int 0, .int (-1), .ref q2, .ref q4, .ref q5, .ref q6, .ref q10, .null])), (q5, .inl (cy 4, 3, .inr (.inr (.inr (.inr (fun _ => none)))))), (m0, .inr (12, [.ref m1, .ref m2, .ref m3, .ref m4, .ref m5, .int 0, .ref m6, .int 0, .int 0, .int 0, .int 0, .int 0, .int 0, .int 0, .int 0, .int 0, .int 0, .int (-1), .ref m7, .ref m8, .int 0, .ref m9, .int 0, .ref m10, .ref m11, .ref m12, .ref m13, .ref m14, .int 0, .ref m15, .ref m16, .ref m17])), (m5, .inl (cy 3, 3, .inl (fun _ => 0)))] H locs) (hl : lv_has ls 8 [(0, .ref b), (1, .ref q0), (2, .ref m0), (3, .ref o0), (4, .int 0)]) (kk : ∀ (H : Heap) (locs : List Loc) (ls : Array Slot), va_S A s.heap H locs → lv_has ls 8 [(0, .ref b), (4, .int 0)] → W p l e room_1 s m args below meth c H locs 600002 7302232 Q (F0 m 2461 ls [])) : W p l e room_1 s m args below meth c H locs 37 29845 Q (F0 m 2400 ls []) := by
  refine lv_aload_n C.1 C.2.1 dL_law_2400 rfl (lv_at hl 1 rfl) ?_
  refine lv_aload_n C.1 C.2.1 dL_law_2401 rfl (lv_at hl 0 rfl) ?_
  refine lv_iload C.1 C.2.1 dL_law_2402 (lv_at hl 4 rfl) ?_
  refine lv_iconst (v := 1) C.1 C.2.1 dL_law_2404 (by decide) ?_
  refine r_iadd C (v := 1) dL_law_2405 (by decide) ?_
  refine r_sld C w hX hbl hbA (v := 1) (vinD (by decide)) sx1 dL_law_2406 ?_
  refine r_callH C w fh_RL_249 (c_L_restore_4 l D cy q0 q1 q2 q4 q5 q6 q10 hst) (hl.1.trans hml.symm) [0, 1] [2, 3] (wr := [(m0, .inr (12, [.ref m1, .ref m2, .ref m3, .ref m4, .ref m5, .int 0, .ref m6, .int 0, .int 0, .int 0, .int 0, .int 0, .int 0, .int 0, .int 0, .int 0, .int 0, .int (-1), .ref m7, .ref m8, .int 0, .ref m9, .int 0, .ref m10, .ref m11, .ref m12, .ref m13, .ref m14, .int 0, .ref m15, .ref m16, .ref m17])), (m5, .inl (cy 3, 3, .inl (fun _ => 0)))]) ⟨rfl, rfl, rfl, rfl, by decide⟩ rfl rfl ⟨Nat.le_of_ble_eq_true rfl, Nat.le_of_ble_eq_true rfl, Nat.le_of_ble_eq_true rfl⟩ 38 29851 ⟨rfl, rfl, Nat.le_of_ble_eq_true rfl, Nat.le_of_ble_eq_true rfl⟩ dL_law_2407 (fun u H locs hp w => ?_)
  have w : Wd D A s.heap [(m0, .inr (12, [.ref m1, .ref m2, .ref m3, .ref m4, .ref m5, .int 0, .ref m6, .int 0, .int 0, .int 0, .int 0, .int 0, .int 0, .int 0, .int 0, .int 0, .int 0, .int (-1), .ref m7, .ref m8, .int 0, .ref m9, .int 0, .ref m10, .ref m11, .ref m12, .ref m13, .ref m14, .int 0, .ref m15, .ref m16, .ref m17])), (m5, .inl (cy 3, 3, .inl (fun _ => 0)))] _ _ := w.pick [0, 1] rfl rfl
  refine r_top (g2 := F0 m 2410 ls [.int 2]) rfl ?_
  refine lv_istore (lv' := [(5, .int 2), (0, .ref b), (1, .ref q0), (2, .ref m0), (3, .ref o0), (4, .int 0)]) C.1 C.2.1 dL_law_2410 hl (by decide) rfl (fun ls hl => ?_)
  refine lv_aload_n C.1 C.2.1 dL_law_2412 rfl (lv_at hl 3 rfl) ?_
  refine lv_aload_n C.1 C.2.1 dL_law_2413 rfl (lv_at hl 1 rfl) ?_
  refine lv_iload C.1 C.2.1 dL_law_2414 (lv_at hl 5 rfl) ?_
  refine lv_iconst (v := 1) C.1 C.2.1 dL_law_2416 (by decide) ?_
  refine r_iadd C (v := 1) dL_law_2417 (by decide) ?_
  refine r_sld C w hX hbl hbA (v := 1) (vinD (by decide)) sx1 dL_law_2418 ?_
  refine r_callV C w fv_RL_251 (c_X12_restore_3 l D cy m0 m1 m2 m3 m4 m5 m6 m7 m8 m9 m10 m11 m12 m13 m14 m15 m16 m17) (hl.1.trans hml.symm) [0, 1] [] (wr := []) ⟨rfl, rfl, rfl, rfl, by decide⟩ 0 rfl rfl rfl rfl rfl ⟨Nat.le_of_ble_eq_true rfl, Nat.le_of_ble_eq_true rfl, Nat.le_of_ble_eq_true rfl⟩ 38 29851 ⟨rfl, rfl, Nat.le_of_ble_eq_true rfl, Nat.le_of_ble_eq_true rfl⟩ dL_law_2419 (fun u H locs hp w => ?_)
  have w : Wd D A s.heap [(m0, .inr (12, [.ref m1, .ref m2, .ref m3, .ref m4, .ref m5, .int 2, .ref m6, .int 0, .int 0, .int 0, .int 0, .int 0, .int 0, .int 0, .int 0, .int 0, .int 0, .int (-1), .ref m7, .ref m8, .int 0, .ref m9, .int 0, .ref m10, .ref m11, .ref m12, .ref m13, .ref m14, .int 0, .ref m15, .ref m16, .ref m17]))] _ _ := w.pick [0] rfl rfl
  refine r_top (g2 := F0 m 2422 ls []) rfl ?_
  refine lv_aload_n C.1 C.2.1 dL_law_2422 rfl (lv_at hl 3 rfl) ?_
  refine r_callV C w fv_RL_134 (c_X12_thrown_10 l D cy m0 m1 m2 m3 m4 m5 m6 m7 m8 m9 m10 m11 m12 m13 m14 m15 m16 m17) (hl.1.trans hml.symm) [0] [] (wr := []) ⟨rfl, rfl, rfl, rfl, by decide⟩ 0 rfl rfl rfl rfl rfl ⟨Nat.le_of_ble_eq_true rfl, Nat.le_of_ble_eq_true rfl, Nat.le_of_ble_eq_true rfl⟩ 38 29851 ⟨rfl, rfl, Nat.le_of_ble_eq_true rfl, Nat.le_of_ble_eq_true rfl⟩ dL_law_2423 (fun u H locs hp w => ?_)
  have w : Wd D A s.heap [(m0, .inr (12, [.ref m1, .ref m2, .ref m3, .ref m4, .ref m5, .int 2, .ref m6, .int 0, .int 0, .int 0, .int 0, .int 0, .int 0, .int 0, .int 0, .int 0, .int 0, .int (-1), .ref m7, .ref m8, .int 0, .ref m9, .int 0, .ref m10, .ref m11, .ref m12, .ref m13, .ref m14, .int 0, .ref m15, .ref m16, .ref m17]))] _ _ := w.pick [0] rfl rfl
  refine r_top (g2 := F0 m 2426 ls [.int 2]) rfl ?_
  refine lv_iload C.1 C.2.1 dL_law_2426 (lv_at hl 0 rfl) ?_
  refine b_icmp_eq_t C (tgt := 2433) dL_law_2428 (by decide) (by decide) ?_
  refine lv_goto (tgt := 2461) C.1 C.2.1 dL_law_2433 (by decide) ?_
  refine W.widen (k := 600002) (n := 7302232) (Nat.le_of_ble_eq_true rfl) (Nat.le_of_ble_eq_true rfl) ?_
  exact kk _ _ _ w.2.2 (lv_sub hl [1, 5] rfl)
set_option maxRecDepth 100000 in
set_option maxHeartbeats 4000000 in
theorem t_L_35 {p : Program} {l : Launch} {e : Env} {s : State} {m : MethodId} {args : Array Value} {below : List Frame} {meth : Method} {c : Code} {Q : State → Prop} {D : va_G} {cy : Nat → ClassId} {A : Nat → Prop} {H : Heap} {locs : List Loc} {ls : Array Slot} {xs : Nat → Int32} (b q0 q1 q2 q4 q5 q6 q10 q3 q7 q8 q9 q11 q12 q13 q14 q15 q16 q17 m0 m1 m2 m3 m4 m5 m6 m7 m8 m9 m10 m11 m12 m13 m14 m15 m16 m17 o0 : Nat) (hst : l.stackTraces = false) (C : Cx p s m args c cL_law RL D cy A) (hml : c.maxLocals = 8) (hX : va_X b 6 xs s s.heap) (hbl : b < s.heap.size) (hbA : ¬ A b) (w : Wd D A s.heap [(q0, .inr (11, [.ref q1, .int 0, .int 0, .int (-1), .ref q2, .ref q4, .ref q5, .ref q6, .ref q10, .null])), (q1, .inl (cy 0, 900, .inl (fun _ => 0))), (q2, .inr (5, [.ref q3, .int 0, .int 0, .int 0, .int 0, .int 0, .int 0, .null])), (q3, .inl (cy 0, 0, .inl (fun _ => 0))), (q4, .inl (cy 4, 5, .inr (.inr (.inr (.inr (va_up (fun _ => none) 0 (some q10))))))), (q5, .inl (cy 4, 3, .inr (.inr (.inr (.inr (fun _ => none)))))), (q6, .inr (10, [.ref q7, .ref q8, .ref q9])), (q7, .inl (cy 1, 4, .inl (upd (upd (upd (upd (fun _ => 0) 0 (-1)) 1 (-1)) 2 (-1)) 3 (-1)))), (q8, .inl (cy 1, 4, .inl (fun _ => 0))), (q9, .inl (cy 2, 160, .inr (.inl (fun _ => 0)))), (q10, .inr (9, [.int 0, .int 2, .int 20, .int 120, .int 0, .int 0, .int 0, .int 0, .ref q11, .int 0, .ref q12, .ref q13, .int 0, .ref q14, .ref q15, .ref q16, .ref q17])), (q11, .inl (cy 1, 6, .inl (fun _ => 0))), (q12, .inl (cy 1, 20, .inl (fun _ => 0))), (q13, .inl (cy 1, 20, .inl (fun _ => 0))), (q14, .inl (cy 1, 300, .inl (fun _ => 0))), (q15, .inl (cy 1, 300, .inl (fun _ => 0))), (q16, .inl (cy 1, 300, .inl (fun _ => 0))), (q17, .inl (cy 1, 300, .inl (fun _ => 0))), (m0, .inr (12, [.ref m1, .ref m2, .ref m3, .ref m4, .ref m5, .int 0, .ref m6, .int 0, .int 0, .int 0, .int 0, .int 0, .int 0, .int 0, .int 0, .int 0, .int 0, .int (-1), .ref m7, .ref m8, .int 0, .ref m9, .int 0, .ref m10, .ref m11, .ref m12, .ref m13, .ref m14, .int 0, .ref m15, .ref m16, .ref m17])), (m2, .inl (cy 1, 1868, .inl (fun _ => 0))), (m3, .inl (cy 1, 1868, .inl (fun _ => 0))), (m4, .inl (cy 1, 5604, .inl (fun _ => 0))), (m5, .inl (cy 3, 3, .inl (fun _ => 0))), (m6, .inl (cy 1, 900, .inl (fun _ => 0))), (m7, .inl (cy 1, 1830, .inl (fun _ => 0))), (m8, .inl (cy 1, 1830, .inl (fun _ => 0))), (m9, .inl (cy 2, 2465, .inr (.inl (fun _ => 0)))), (m10, .inl (cy 1, 7201, .inl (fun _ => 0))), (m11, .inl (cy 1, 1830, .inl (fun _ => 0))), (m12, .inl (cy 1, 5, .inl (fun _ => 0))), (m13, .inl (cy 1, 6, .inl (fun _ => 0))), (m14, .inl (cy 1, 6, .inl (fun _ => 0))), (m15, .inl (cy 1, 4, .inl (upd (upd (upd (upd (fun _ => 0) 0 (-1)) 1 (-1)) 2 (-1)) 3 (-1)))), (m16, .inl (cy 1, 4, .inl (fun _ => 0))), (m17, .inl (cy 2, 160, .inr (.inl (fun _ => 0)))), (m1, .inl (cy 1, 1868, .inl (upd (upd (upd (fun _ => 0) 1 2) 2 20) 3 120))), (o0, .inl (cy 2, 1, .inr (.inl (fun _ => 0))))] H locs) (hl : lv_has ls 8 [(0, .ref b), (1, .ref q0), (2, .ref m0), (3, .ref o0), (4, .int 0)]) (kk : ∀ (H : Heap) (locs : List Loc) (ls : Array Slot), va_S A s.heap H locs → lv_has ls 8 [(0, .ref b), (4, .int 0)] → W p l e room_1 s m args below meth c H locs 600002 7302232 Q (F0 m 2461 ls [])) : W p l e room_1 s m args below meth c H locs 37 29845 Q (F0 m 2400 ls []) := by
  obtain ⟨y1, sx1⟩ : ∃ y, xs 1 = y := ⟨_, rfl⟩
  obtain ⟨y2, sx2⟩ : ∃ y, xs 2 = y := ⟨_, rfl⟩
  obtain ⟨y3, sx3⟩ : ∃ y, xs 3 = y := ⟨_, rfl⟩
  obtain ⟨y4, sx4⟩ : ∃ y, xs 4 = y := ⟨_, rfl⟩
  obtain ⟨y5, sx5⟩ : ∃ y, xs 5 = y := ⟨_, rfl⟩
  by_cases g1 : y1 < 0
  · exact s_L_35_0 b q0 q1 q2 q4 q5 q6 q10 m0 m1 m2 m3 m4 m5 m6 m7 m8 m9 m10 m11 m12 m13 m14 m15 m16 m17 o0 y1 g1 sx1 hst C hml hX hbl hbA (w.pick [0, 18] rfl rfl) hl kk
  · by_cases g2 : y1 < 3
    · by_cases g3 : y1 = 0
      · subst g3
        exact s_L_35_2 b q0 q1 q2 q4 q5 q6 q10 m0 m1 m2 m3 m4 m5 m6 m7 m8 m9 m10 m11 m12 m13 m14 m15 m16 m17 o0 sx1 hst C hml hX hbl hbA (w.pick [0, 5, 18, 22] rfl rfl) hl kk
      · by_cases g4 : y1 = 2
        · subst g4
          exact s_L_35_3 b q0 q1 q2 q4 q5 q6 q10 m0 m1 m2 m3 m4 m5 m6 m7 m8 m9 m10 m11 m12 m13 m14 m15 m16 m17 o0 sx1 hst C hml hX hbl hbA (w.pick [0, 5, 18, 22] rfl rfl) hl kk
        · by_cases g5 : y1 = 1
          · subst g5
            exact s_L_35_4 b q0 q1 q2 q4 q5 q6 q10 m0 m1 m2 m3 m4 m5 m6 m7 m8 m9 m10 m11 m12 m13 m14 m15 m16 m17 o0 sx1 hst C hml hX hbl hbA (w.pick [0, 5, 18, 22] rfl rfl) hl kk
          · exfalso
            have h0 := i_nlt g1
            have h1 := i_lt g2
            have h2 := (not_congr (fa_eq _ _)).mp g3
            have h3 := (not_congr (fa_eq _ _)).mp g4
            have h4 := (not_congr (fa_eq _ _)).mp g5
            have e0 : (0 : Int32).toInt = 0 := (by decide)
            have e1 : (1 : Int32).toInt = 1 := (by decide)
            have e2 : (2 : Int32).toInt = 2 := (by decide)
            have e3 : (3 : Int32).toInt = 3 := (by decide)
            omega
    · exact s_L_35_1 b q0 q1 q2 q4 q5 q6 q10 m0 m1 m2 m3 m4 m5 m6 m7 m8 m9 m10 m11 m12 m13 m14 m15 m16 m17 o0 y1 g1 g2 sx1 hst C hml hX hbl hbA (w.pick [0, 18] rfl rfl) hl kk
theorem dL_law_2436 : decode cL_law 2436 = .ok (.aload_n 1, 1) := by decide +kernel
theorem dL_law_2437 : decode cL_law 2437 = .ok (.aload_n 0, 1) := by decide +kernel
theorem dL_law_2438 : decode cL_law 2438 = .ok (.iload 4, 2) := by decide +kernel
theorem dL_law_2440 : decode cL_law 2440 = .ok (.iconst 1, 1) := by decide +kernel
theorem dL_law_2441 : decode cL_law 2441 = .ok (.iadd, 1) := by decide +kernel
theorem dL_law_2442 : decode cL_law 2442 = .ok (.iaload, 1) := by decide +kernel
theorem dL_law_2443 : decode cL_law 2443 = .ok (.invokevirtual 252, 3) := by decide +kernel
theorem fv_RL_252 : FV RL 252 yX11_count cX11_count 2 (some .int) 1 := ⟨⟨gw_mem (by decide +kernel) (by decide +kernel), gw_mem (by decide +kernel) (by decide +kernel), gw_mem (by decide +kernel) (by decide +kernel), gw_mem (by decide +kernel) (by decide +kernel), gw_mem (by decide +kernel) (by decide +kernel)⟩, ⟨by decide +kernel, by decide +kernel, by decide +kernel⟩⟩
theorem dL_law_2446 : decode cL_law 2446 = .ok (.aload_n 2, 1) := by decide +kernel
theorem dL_law_2447 : decode cL_law 2447 = .ok (.aload_n 0, 1) := by decide +kernel
theorem dL_law_2448 : decode cL_law 2448 = .ok (.iload 4, 2) := by decide +kernel
theorem dL_law_2450 : decode cL_law 2450 = .ok (.iconst 1, 1) := by decide +kernel
theorem dL_law_2451 : decode cL_law 2451 = .ok (.iadd, 1) := by decide +kernel
theorem dL_law_2452 : decode cL_law 2452 = .ok (.iaload, 1) := by decide +kernel
theorem dL_law_2453 : decode cL_law 2453 = .ok (.invokevirtual 255, 3) := by decide +kernel
theorem fv_RL_255 : FV RL 255 yX12_count cX12_count 2 (some .int) 1 := ⟨⟨gw_mem (by decide +kernel) (by decide +kernel), gw_mem (by decide +kernel) (by decide +kernel), gw_mem (by decide +kernel) (by decide +kernel), gw_mem (by decide +kernel) (by decide +kernel), gw_mem (by decide +kernel) (by decide +kernel)⟩, ⟨by decide +kernel, by decide +kernel, by decide +kernel⟩⟩
theorem dL_law_2456 : decode cL_law 2456 = .ok (.if_icmp .eq 5, 3) := by decide +kernel
set_option maxRecDepth 100000 in
set_option maxHeartbeats 4000000 in
theorem s_L_36_0 {p : Program} {l : Launch} {e : Env} {s : State} {m : MethodId} {args : Array Value} {below : List Frame} {meth : Method} {c : Code} {Q : State → Prop} {D : va_G} {cy : Nat → ClassId} {A : Nat → Prop} {H : Heap} {locs : List Loc} {ls : Array Slot} {xs : Nat → Int32} (b q0 q1 q2 q4 q5 q6 q10 m0 m1 m2 m3 m4 m5 m6 m7 m8 m9 m10 m11 m12 m13 m14 m15 m16 m17 o0 : Nat) (y1 : Int32) (k0 : (y1).toInt < 0 ∨ 8 < (y1).toInt) (sx1 : xs 1 = y1) (C : Cx p s m args c cL_law RL D cy A) (hml : c.maxLocals = 8) (hX : va_X b 6 xs s s.heap) (hbl : b < s.heap.size) (hbA : ¬ A b) (w : Wd D A s.heap [(q0, .inr (11, [.ref q1, .int 0, .int 0, .int (-1), .ref q2, .ref q4, .ref q5, .ref q6, .ref q10, .null])), (m0, .inr (12, [.ref m1, .ref m2, .ref m3, .ref m4, .ref m5, .int 0, .ref m6, .int 0, .int 0, .int 0, .int 0, .int 0, .int 0, .int 0, .int 0, .int 0, .int 0, .int (-1), .ref m7, .ref m8, .int 0, .ref m9, .int 0, .ref m10, .ref m11, .ref m12, .ref m13, .ref m14, .int 0, .ref m15, .ref m16, .ref m17])), (m7, .inl (cy 1, 1830, .inl (fun _ => 0))), (m8, .inl (cy 1, 1830, .inl (fun _ => 0))), (m1, .inl (cy 1, 1868, .inl (upd (upd (upd (fun _ => 0) 1 2) 2 20) 3 120)))] H locs) (hl : lv_has ls 8 [(0, .ref b), (1, .ref q0), (2, .ref m0), (3, .ref o0), (4, .int 0)]) (kk : ∀ (H : Heap) (locs : List Loc) (ls : Array Slot), va_S A s.heap H locs → lv_has ls 8 [(0, .ref b), (4, .int 0)] → W p l e room_1 s m args below meth c H locs 600002 7302232 Q (F0 m 2461 ls [])) : W p l e room_1 s m args below meth c H locs 37 29845 Q (F0 m 2436 ls []) := by
  refine lv_aload_n C.1 C.2.1 dL_law_2436 rfl (lv_at hl 1 rfl) ?_
  refine lv_aload_n C.1 C.2.1 dL_law_2437 rfl (lv_at hl 0 rfl) ?_
  refine lv_iload C.1 C.2.1 dL_law_2438 (lv_at hl 4 rfl) ?_
  refine lv_iconst (v := 1) C.1 C.2.1 dL_law_2440 (by decide) ?_
  refine r_iadd C (v := 1) dL_law_2441 (by decide) ?_
  refine r_sld C w hX hbl hbA (v := y1) (vinD (by decide)) sx1 dL_law_2442 ?_
  refine r_callV C w fv_RL_252 (c_X11_count_0 l D cy q0 q1 q2 q4 q5 q6 q10 y1 k0) (hl.1.trans hml.symm) [0] [1, 2, 3, 4] (wr := [(m0, .inr (12, [.ref m1, .ref m2, .ref m3, .ref m4, .ref m5, .int 0, .ref m6, .int 0, .int 0, .int 0, .int 0, .int 0, .int 0, .int 0, .int 0, .int 0, .int 0, .int (-1), .ref m7, .ref m8, .int 0, .ref m9, .int 0, .ref m10, .ref m11, .ref m12, .ref m13, .ref m14, .int 0, .ref m15, .ref m16, .ref m17])), (m7, .inl (cy 1, 1830, .inl (fun _ => 0))), (m8, .inl (cy 1, 1830, .inl (fun _ => 0))), (m1, .inl (cy 1, 1868, .inl (upd (upd (upd (fun _ => 0) 1 2) 2 20) 3 120)))]) ⟨rfl, rfl, rfl, rfl, by decide⟩ 0 rfl rfl rfl rfl rfl ⟨Nat.le_of_ble_eq_true rfl, Nat.le_of_ble_eq_true rfl, Nat.le_of_ble_eq_true rfl⟩ 37 29845 ⟨rfl, rfl, Nat.le_of_ble_eq_true rfl, Nat.le_of_ble_eq_true rfl⟩ dL_law_2443 (fun u H locs hp w => ?_)
  have w : Wd D A s.heap [(m0, .inr (12, [.ref m1, .ref m2, .ref m3, .ref m4, .ref m5, .int 0, .ref m6, .int 0, .int 0, .int 0, .int 0, .int 0, .int 0, .int 0, .int 0, .int 0, .int 0, .int (-1), .ref m7, .ref m8, .int 0, .ref m9, .int 0, .ref m10, .ref m11, .ref m12, .ref m13, .ref m14, .int 0, .ref m15, .ref m16, .ref m17])), (m7, .inl (cy 1, 1830, .inl (fun _ => 0))), (m8, .inl (cy 1, 1830, .inl (fun _ => 0))), (m1, .inl (cy 1, 1868, .inl (upd (upd (upd (fun _ => 0) 1 2) 2 20) 3 120)))] _ _ := w.pick [0, 1, 2, 3] rfl rfl
  refine r_top (g2 := F0 m 2446 ls [.int (-1)]) rfl ?_
  refine lv_aload_n C.1 C.2.1 dL_law_2446 rfl (lv_at hl 2 rfl) ?_
  refine lv_aload_n C.1 C.2.1 dL_law_2447 rfl (lv_at hl 0 rfl) ?_
  refine lv_iload C.1 C.2.1 dL_law_2448 (lv_at hl 4 rfl) ?_
  refine lv_iconst (v := 1) C.1 C.2.1 dL_law_2450 (by decide) ?_
  refine r_iadd C (v := 1) dL_law_2451 (by decide) ?_
  refine r_sld C w hX hbl hbA (v := y1) (vinD (by decide)) sx1 dL_law_2452 ?_
  refine r_callV C w fv_RL_255 (c_X12_count_0 l D cy m0 m1 m2 m3 m4 m5 m6 m7 m8 m9 m10 m11 m12 m13 m14 m15 m16 m17 y1 k0) (hl.1.trans hml.symm) [0, 3, 1, 2] [] (wr := []) ⟨rfl, rfl, rfl, rfl, by decide⟩ 0 rfl rfl rfl rfl rfl ⟨Nat.le_of_ble_eq_true rfl, Nat.le_of_ble_eq_true rfl, Nat.le_of_ble_eq_true rfl⟩ 37 29845 ⟨rfl, rfl, Nat.le_of_ble_eq_true rfl, Nat.le_of_ble_eq_true rfl⟩ dL_law_2453 (fun u H locs hp w => ?_)
  have w : Wd D A s.heap [(m0, .inr (12, [.ref m1, .ref m2, .ref m3, .ref m4, .ref m5, .int 0, .ref m6, .int 0, .int 0, .int 0, .int 0, .int 0, .int 0, .int 0, .int 0, .int 0, .int 0, .int (-1), .ref m7, .ref m8, .int 190, .ref m9, .int 0, .ref m10, .ref m11, .ref m12, .ref m13, .ref m14, .int 0, .ref m15, .ref m16, .ref m17]))] _ _ := w.pick [0] rfl rfl
  refine r_top (g2 := F0 m 2456 ls [.int (-1), .int (-1)]) rfl ?_
  refine b_icmp_eq_t C (tgt := 2461) dL_law_2456 (by decide) (by decide) ?_
  refine W.widen (k := 600002) (n := 7302232) (Nat.le_of_ble_eq_true rfl) (Nat.le_of_ble_eq_true rfl) ?_
  exact kk _ _ _ w.2.2 (lv_sub hl [0, 4] rfl)
set_option maxRecDepth 100000 in
set_option maxHeartbeats 4000000 in
theorem s_L_36_1 {p : Program} {l : Launch} {e : Env} {s : State} {m : MethodId} {args : Array Value} {below : List Frame} {meth : Method} {c : Code} {Q : State → Prop} {D : va_G} {cy : Nat → ClassId} {A : Nat → Prop} {H : Heap} {locs : List Loc} {ls : Array Slot} {xs : Nat → Int32} (b q0 q1 q2 q4 q5 q6 q10 m0 m1 m2 m3 m4 m5 m6 m7 m8 m9 m10 m11 m12 m13 m14 m15 m16 m17 o0 : Nat) (sx1 : xs 1 = 8) (C : Cx p s m args c cL_law RL D cy A) (hml : c.maxLocals = 8) (hX : va_X b 6 xs s s.heap) (hbl : b < s.heap.size) (hbA : ¬ A b) (w : Wd D A s.heap [(q0, .inr (11, [.ref q1, .int 0, .int 0, .int (-1), .ref q2, .ref q4, .ref q5, .ref q6, .ref q10, .null])), (m0, .inr (12, [.ref m1, .ref m2, .ref m3, .ref m4, .ref m5, .int 0, .ref m6, .int 0, .int 0, .int 0, .int 0, .int 0, .int 0, .int 0, .int 0, .int 0, .int 0, .int (-1), .ref m7, .ref m8, .int 0, .ref m9, .int 0, .ref m10, .ref m11, .ref m12, .ref m13, .ref m14, .int 0, .ref m15, .ref m16, .ref m17])), (m7, .inl (cy 1, 1830, .inl (fun _ => 0))), (m8, .inl (cy 1, 1830, .inl (fun _ => 0))), (m1, .inl (cy 1, 1868, .inl (upd (upd (upd (fun _ => 0) 1 2) 2 20) 3 120)))] H locs) (hl : lv_has ls 8 [(0, .ref b), (1, .ref q0), (2, .ref m0), (3, .ref o0), (4, .int 0)]) (kk : ∀ (H : Heap) (locs : List Loc) (ls : Array Slot), va_S A s.heap H locs → lv_has ls 8 [(0, .ref b), (4, .int 0)] → W p l e room_1 s m args below meth c H locs 600002 7302232 Q (F0 m 2461 ls [])) : W p l e room_1 s m args below meth c H locs 37 29845 Q (F0 m 2436 ls []) := by
  refine lv_aload_n C.1 C.2.1 dL_law_2436 rfl (lv_at hl 1 rfl) ?_
  refine lv_aload_n C.1 C.2.1 dL_law_2437 rfl (lv_at hl 0 rfl) ?_
  refine lv_iload C.1 C.2.1 dL_law_2438 (lv_at hl 4 rfl) ?_
  refine lv_iconst (v := 1) C.1 C.2.1 dL_law_2440 (by decide) ?_
  refine r_iadd C (v := 1) dL_law_2441 (by decide) ?_
  refine r_sld C w hX hbl hbA (v := 8) (vinD (by decide)) sx1 dL_law_2442 ?_
  refine r_callV C w fv_RL_252 (c_X11_count_1 l D cy q0 q1 q2 q4 q5 q6 q10) (hl.1.trans hml.symm) [0] [1, 2, 3, 4] (wr := [(m0, .inr (12, [.ref m1, .ref m2, .ref m3, .ref m4, .ref m5, .int 0, .ref m6, .int 0, .int 0, .int 0, .int 0, .int 0, .int 0, .int 0, .int 0, .int 0, .int 0, .int (-1), .ref m7, .ref m8, .int 0, .ref m9, .int 0, .ref m10, .ref m11, .ref m12, .ref m13, .ref m14, .int 0, .ref m15, .ref m16, .ref m17])), (m7, .inl (cy 1, 1830, .inl (fun _ => 0))), (m8, .inl (cy 1, 1830, .inl (fun _ => 0))), (m1, .inl (cy 1, 1868, .inl (upd (upd (upd (fun _ => 0) 1 2) 2 20) 3 120)))]) ⟨rfl, rfl, rfl, rfl, by decide⟩ 0 rfl rfl rfl rfl rfl ⟨Nat.le_of_ble_eq_true rfl, Nat.le_of_ble_eq_true rfl, Nat.le_of_ble_eq_true rfl⟩ 37 29845 ⟨rfl, rfl, Nat.le_of_ble_eq_true rfl, Nat.le_of_ble_eq_true rfl⟩ dL_law_2443 (fun u H locs hp w => ?_)
  have w : Wd D A s.heap [(m0, .inr (12, [.ref m1, .ref m2, .ref m3, .ref m4, .ref m5, .int 0, .ref m6, .int 0, .int 0, .int 0, .int 0, .int 0, .int 0, .int 0, .int 0, .int 0, .int 0, .int (-1), .ref m7, .ref m8, .int 0, .ref m9, .int 0, .ref m10, .ref m11, .ref m12, .ref m13, .ref m14, .int 0, .ref m15, .ref m16, .ref m17])), (m7, .inl (cy 1, 1830, .inl (fun _ => 0))), (m8, .inl (cy 1, 1830, .inl (fun _ => 0))), (m1, .inl (cy 1, 1868, .inl (upd (upd (upd (fun _ => 0) 1 2) 2 20) 3 120)))] _ _ := w.pick [0, 1, 2, 3] rfl rfl
  refine r_top (g2 := F0 m 2446 ls [.int 0]) rfl ?_
  refine lv_aload_n C.1 C.2.1 dL_law_2446 rfl (lv_at hl 2 rfl) ?_
  refine lv_aload_n C.1 C.2.1 dL_law_2447 rfl (lv_at hl 0 rfl) ?_
  refine lv_iload C.1 C.2.1 dL_law_2448 (lv_at hl 4 rfl) ?_
  refine lv_iconst (v := 1) C.1 C.2.1 dL_law_2450 (by decide) ?_
  refine r_iadd C (v := 1) dL_law_2451 (by decide) ?_
  refine r_sld C w hX hbl hbA (v := 8) (vinD (by decide)) sx1 dL_law_2452 ?_
  refine r_callV C w fv_RL_255 (c_X12_count_1 l D cy m0 m1 m2 m3 m4 m5 m6 m7 m8 m9 m10 m11 m12 m13 m14 m15 m16 m17) (hl.1.trans hml.symm) [0, 3, 1, 2] [] (wr := []) ⟨rfl, rfl, rfl, rfl, by decide⟩ 0 rfl rfl rfl rfl rfl ⟨Nat.le_of_ble_eq_true rfl, Nat.le_of_ble_eq_true rfl, Nat.le_of_ble_eq_true rfl⟩ 37 29845 ⟨rfl, rfl, Nat.le_of_ble_eq_true rfl, Nat.le_of_ble_eq_true rfl⟩ dL_law_2453 (fun u H locs hp w => ?_)
  have w : Wd D A s.heap [(m0, .inr (12, [.ref m1, .ref m2, .ref m3, .ref m4, .ref m5, .int 0, .ref m6, .int 0, .int 0, .int 0, .int 0, .int 0, .int 0, .int 0, .int 0, .int 0, .int 0, .int (-1), .ref m7, .ref m8, .int 190, .ref m9, .int 0, .ref m10, .ref m11, .ref m12, .ref m13, .ref m14, .int 0, .ref m15, .ref m16, .ref m17]))] _ _ := w.pick [0] rfl rfl
  refine r_top (g2 := F0 m 2456 ls [.int 0, .int 0]) rfl ?_
  refine b_icmp_eq_t C (tgt := 2461) dL_law_2456 (by decide) (by decide) ?_
  refine W.widen (k := 600002) (n := 7302232) (Nat.le_of_ble_eq_true rfl) (Nat.le_of_ble_eq_true rfl) ?_
  exact kk _ _ _ w.2.2 (lv_sub hl [0, 4] rfl)
set_option maxRecDepth 100000 in
set_option maxHeartbeats 4000000 in
theorem s_L_36_2 {p : Program} {l : Launch} {e : Env} {s : State} {m : MethodId} {args : Array Value} {below : List Frame} {meth : Method} {c : Code} {Q : State → Prop} {D : va_G} {cy : Nat → ClassId} {A : Nat → Prop} {H : Heap} {locs : List Loc} {ls : Array Slot} {xs : Nat → Int32} (b q0 q1 q2 q4 q5 q6 q10 q11 q12 q13 q14 q15 q16 q17 m0 m1 m2 m3 m4 m5 m6 m7 m8 m9 m10 m11 m12 m13 m14 m15 m16 m17 o0 : Nat) (sx1 : xs 1 = 7) (C : Cx p s m args c cL_law RL D cy A) (hml : c.maxLocals = 8) (hX : va_X b 6 xs s s.heap) (hbl : b < s.heap.size) (hbA : ¬ A b) (w : Wd D A s.heap [(q0, .inr (11, [.ref q1, .int 0, .int 0, .int (-1), .ref q2, .ref q4, .ref q5, .ref q6, .ref q10, .null])), (q10, .inr (9, [.int 0, .int 2, .int 20, .int 120, .int 0, .int 0, .int 0, .int 0, .ref q11, .int 0, .ref q12, .ref q13, .int 0, .ref q14, .ref q15, .ref q16, .ref q17])), (m0, .inr (12, [.ref m1, .ref m2, .ref m3, .ref m4, .ref m5, .int 0, .ref m6, .int 0, .int 0, .int 0, .int 0, .int 0, .int 0, .int 0, .int 0, .int 0, .int 0, .int (-1), .ref m7, .ref m8, .int 0, .ref m9, .int 0, .ref m10, .ref m11, .ref m12, .ref m13, .ref m14, .int 0, .ref m15, .ref m16, .ref m17])), (m7, .inl (cy 1, 1830, .inl (fun _ => 0))), (m8, .inl (cy 1, 1830, .inl (fun _ => 0))), (m1, .inl (cy 1, 1868, .inl (upd (upd (upd (fun _ => 0) 1 2) 2 20) 3 120)))] H locs) (hl : lv_has ls 8 [(0, .ref b), (1, .ref q0), (2, .ref m0), (3, .ref o0), (4, .int 0)]) (kk : ∀ (H : Heap) (locs : List Loc) (ls : Array Slot), va_S A s.heap H locs → lv_has ls 8 [(0, .ref b), (4, .int 0)] → W p l e room_1 s m args below meth c H locs 600002 7302232 Q (F0 m 2461 ls [])) : W p l e room_1 s m args below meth c H locs 37 29845 Q (F0 m 2436 ls []) := by
  refine lv_aload_n C.1 C.2.1 dL_law_2436 rfl (lv_at hl 1 rfl) ?_
  refine lv_aload_n C.1 C.2.1 dL_law_2437 rfl (lv_at hl 0 rfl) ?_
  refine lv_iload C.1 C.2.1 dL_law_2438 (lv_at hl 4 rfl) ?_
  refine lv_iconst (v := 1) C.1 C.2.1 dL_law_2440 (by decide) ?_
  refine r_iadd C (v := 1) dL_law_2441 (by decide) ?_
  refine r_sld C w hX hbl hbA (v := 7) (vinD (by decide)) sx1 dL_law_2442 ?_
  refine r_callV C w fv_RL_252 (c_X11_count_2 l D cy q0 q1 q2 q4 q5 q6 q10 q11 q12 q13 q14 q15 q16 q17) (hl.1.trans hml.symm) [0, 1] [2, 3, 4, 5] (wr := [(m0, .inr (12, [.ref m1, .ref m2, .ref m3, .ref m4, .ref m5, .int 0, .ref m6, .int 0, .int 0, .int 0, .int 0, .int 0, .int 0, .int 0, .int 0, .int 0, .int 0, .int (-1), .ref m7, .ref m8, .int 0, .ref m9, .int 0, .ref m10, .ref m11, .ref m12, .ref m13, .ref m14, .int 0, .ref m15, .ref m16, .ref m17])), (m7, .inl (cy 1, 1830, .inl (fun _ => 0))), (m8, .inl (cy 1, 1830, .inl (fun _ => 0))), (m1, .inl (cy 1, 1868, .inl (upd (upd (upd (fun _ => 0) 1 2) 2 20) 3 120)))]) ⟨rfl, rfl, rfl, rfl, by decide⟩ 0 rfl rfl rfl rfl rfl ⟨Nat.le_of_ble_eq_true rfl, Nat.le_of_ble_eq_true rfl, Nat.le_of_ble_eq_true rfl⟩ 73 53662 ⟨rfl, rfl, Nat.le_of_ble_eq_true rfl, Nat.le_of_ble_eq_true rfl⟩ dL_law_2443 (fun u H locs hp w => ?_)
  obtain ⟨n1, n2, n3, n4, n5, n6, n7, n8, n9, n10, n11, n12, n13, n14, n15, n16, n17, n18, n19, n20, n21, n22, n23, n24, n25, n26, n27, n28, n29, n30, n31, n32, n33, n34, n35, n36⟩ := u
  have w : Wd D A s.heap [(m0, .inr (12, [.ref m1, .ref m2, .ref m3, .ref m4, .ref m5, .int 0, .ref m6, .int 0, .int 0, .int 0, .int 0, .int 0, .int 0, .int 0, .int 0, .int 0, .int 0, .int (-1), .ref m7, .ref m8, .int 0, .ref m9, .int 0, .ref m10, .ref m11, .ref m12, .ref m13, .ref m14, .int 0, .ref m15, .ref m16, .ref m17])), (m7, .inl (cy 1, 1830, .inl (fun _ => 0))), (m8, .inl (cy 1, 1830, .inl (fun _ => 0))), (m1, .inl (cy 1, 1868, .inl (upd (upd (upd (fun _ => 0) 1 2) 2 20) 3 120)))] _ _ := w.pick [0, 1, 2, 3] rfl rfl
  refine r_top (g2 := F0 m 2446 ls [.int 190]) rfl ?_
  refine lv_aload_n C.1 C.2.1 dL_law_2446 rfl (lv_at hl 2 rfl) ?_
  refine lv_aload_n C.1 C.2.1 dL_law_2447 rfl (lv_at hl 0 rfl) ?_
  refine lv_iload C.1 C.2.1 dL_law_2448 (lv_at hl 4 rfl) ?_
  refine lv_iconst (v := 1) C.1 C.2.1 dL_law_2450 (by decide) ?_
  refine r_iadd C (v := 1) dL_law_2451 (by decide) ?_
  refine r_sld C w hX hbl hbA (v := 7) (vinD (by decide)) sx1 dL_law_2452 ?_
  refine r_callV C w fv_RL_255 (c_X12_count_2 l D cy m0 m1 m2 m3 m4 m5 m6 m7 m8 m9 m10 m11 m12 m13 m14 m15 m16 m17) (hl.1.trans hml.symm) [0, 3, 1, 2] [] (wr := []) ⟨rfl, rfl, rfl, rfl, by decide⟩ 0 rfl rfl rfl rfl rfl ⟨Nat.le_of_ble_eq_true rfl, Nat.le_of_ble_eq_true rfl, Nat.le_of_ble_eq_true rfl⟩ 73 53662 ⟨rfl, rfl, Nat.le_of_ble_eq_true rfl, Nat.le_of_ble_eq_true rfl⟩ dL_law_2453 (fun u H locs hp w => ?_)
  have w : Wd D A s.heap [(m0, .inr (12, [.ref m1, .ref m2, .ref m3, .ref m4, .ref m5, .int 0, .ref m6, .int 0, .int 0, .int 0, .int 0, .int 0, .int 0, .int 0, .int 0, .int 0, .int 0, .int (-1), .ref m7, .ref m8, .int 190, .ref m9, .int 0, .ref m10, .ref m11, .ref m12, .ref m13, .ref m14, .int 0, .ref m15, .ref m16, .ref m17]))] _ _ := w.pick [0] rfl rfl
  refine r_top (g2 := F0 m 2456 ls [.int 190, .int 190]) rfl ?_
  refine b_icmp_eq_t C (tgt := 2461) dL_law_2456 (by decide) (by decide) ?_
  refine W.widen (k := 600002) (n := 7302232) (Nat.le_of_ble_eq_true rfl) (Nat.le_of_ble_eq_true rfl) ?_
  exact kk _ _ _ w.2.2 (lv_sub hl [0, 4] rfl)
set_option maxRecDepth 100000 in
set_option maxHeartbeats 4000000 in
theorem s_L_36_3 {p : Program} {l : Launch} {e : Env} {s : State} {m : MethodId} {args : Array Value} {below : List Frame} {meth : Method} {c : Code} {Q : State → Prop} {D : va_G} {cy : Nat → ClassId} {A : Nat → Prop} {H : Heap} {locs : List Loc} {ls : Array Slot} {xs : Nat → Int32} (b q0 q1 q2 q4 q5 q6 q10 q11 q12 q13 q14 q15 q16 q17 m0 m1 m2 m3 m4 m5 m6 m7 m8 m9 m10 m11 m12 m13 m14 m15 m16 m17 o0 : Nat) (sx1 : xs 1 = 6) (C : Cx p s m args c cL_law RL D cy A) (hml : c.maxLocals = 8) (hX : va_X b 6 xs s s.heap) (hbl : b < s.heap.size) (hbA : ¬ A b) (w : Wd D A s.heap [(q0, .inr (11, [.ref q1, .int 0, .int 0, .int (-1), .ref q2, .ref q4, .ref q5, .ref q6, .ref q10, .null])), (q10, .inr (9, [.int 0, .int 2, .int 20, .int 120, .int 0, .int 0, .int 0, .int 0, .ref q11, .int 0, .ref q12, .ref q13, .int 0, .ref q14, .ref q15, .ref q16, .ref q17])), (m0, .inr (12, [.ref m1, .ref m2, .ref m3, .ref m4, .ref m5, .int 0, .ref m6, .int 0, .int 0, .int 0, .int 0, .int 0, .int 0, .int 0, .int 0, .int 0, .int 0, .int (-1), .ref m7, .ref m8, .int 0, .ref m9, .int 0, .ref m10, .ref m11, .ref m12, .ref m13, .ref m14, .int 0, .ref m15, .ref m16, .ref m17])), (m7, .inl (cy 1, 1830, .inl (fun _ => 0))), (m8, .inl (cy 1, 1830, .inl (fun _ => 0))), (m1, .inl (cy 1, 1868, .inl (upd (upd (upd (fun _ => 0) 1 2) 2 20) 3 120)))] H locs) (hl : lv_has ls 8 [(0, .ref b), (1, .ref q0), (2, .ref m0), (3, .ref o0), (4, .int 0)]) (kk : ∀ (H : Heap) (locs : List Loc) (ls : Array Slot), va_S A s.heap H locs → lv_has ls 8 [(0, .ref b), (4, .int 0)] → W p l e room_1 s m args below meth c H locs 600002 7302232 Q (F0 m 2461 ls [])) : W p l e room_1 s m args below meth c H locs 37 29845 Q (F0 m 2436 ls []) := by
  refine lv_aload_n C.1 C.2.1 dL_law_2436 rfl (lv_at hl 1 rfl) ?_
  refine lv_aload_n C.1 C.2.1 dL_law_2437 rfl (lv_at hl 0 rfl) ?_
  refine lv_iload C.1 C.2.1 dL_law_2438 (lv_at hl 4 rfl) ?_
  refine lv_iconst (v := 1) C.1 C.2.1 dL_law_2440 (by decide) ?_
  refine r_iadd C (v := 1) dL_law_2441 (by decide) ?_
  refine r_sld C w hX hbl hbA (v := 6) (vinD (by decide)) sx1 dL_law_2442 ?_
  refine r_callV C w fv_RL_252 (c_X11_count_3 l D cy q0 q1 q2 q4 q5 q6 q10 q11 q12 q13 q14 q15 q16 q17) (hl.1.trans hml.symm) [0, 1] [2, 3, 4, 5] (wr := [(m0, .inr (12, [.ref m1, .ref m2, .ref m3, .ref m4, .ref m5, .int 0, .ref m6, .int 0, .int 0, .int 0, .int 0, .int 0, .int 0, .int 0, .int 0, .int 0, .int 0, .int (-1), .ref m7, .ref m8, .int 0, .ref m9, .int 0, .ref m10, .ref m11, .ref m12, .ref m13, .ref m14, .int 0, .ref m15, .ref m16, .ref m17])), (m7, .inl (cy 1, 1830, .inl (fun _ => 0))), (m8, .inl (cy 1, 1830, .inl (fun _ => 0))), (m1, .inl (cy 1, 1868, .inl (upd (upd (upd (fun _ => 0) 1 2) 2 20) 3 120)))]) ⟨rfl, rfl, rfl, rfl, by decide⟩ 0 rfl rfl rfl rfl rfl ⟨Nat.le_of_ble_eq_true rfl, Nat.le_of_ble_eq_true rfl, Nat.le_of_ble_eq_true rfl⟩ 37 29845 ⟨rfl, rfl, Nat.le_of_ble_eq_true rfl, Nat.le_of_ble_eq_true rfl⟩ dL_law_2443 (fun u H locs hp w => ?_)
  have w : Wd D A s.heap [(m0, .inr (12, [.ref m1, .ref m2, .ref m3, .ref m4, .ref m5, .int 0, .ref m6, .int 0, .int 0, .int 0, .int 0, .int 0, .int 0, .int 0, .int 0, .int 0, .int 0, .int (-1), .ref m7, .ref m8, .int 0, .ref m9, .int 0, .ref m10, .ref m11, .ref m12, .ref m13, .ref m14, .int 0, .ref m15, .ref m16, .ref m17])), (m7, .inl (cy 1, 1830, .inl (fun _ => 0))), (m8, .inl (cy 1, 1830, .inl (fun _ => 0))), (m1, .inl (cy 1, 1868, .inl (upd (upd (upd (fun _ => 0) 1 2) 2 20) 3 120)))] _ _ := w.pick [0, 1, 2, 3] rfl rfl
  refine r_top (g2 := F0 m 2446 ls [.int 0]) rfl ?_
  refine lv_aload_n C.1 C.2.1 dL_law_2446 rfl (lv_at hl 2 rfl) ?_
  refine lv_aload_n C.1 C.2.1 dL_law_2447 rfl (lv_at hl 0 rfl) ?_
  refine lv_iload C.1 C.2.1 dL_law_2448 (lv_at hl 4 rfl) ?_
  refine lv_iconst (v := 1) C.1 C.2.1 dL_law_2450 (by decide) ?_
  refine r_iadd C (v := 1) dL_law_2451 (by decide) ?_
  refine r_sld C w hX hbl hbA (v := 6) (vinD (by decide)) sx1 dL_law_2452 ?_
  refine r_callV C w fv_RL_255 (c_X12_count_3 l D cy m0 m1 m2 m3 m4 m5 m6 m7 m8 m9 m10 m11 m12 m13 m14 m15 m16 m17) (hl.1.trans hml.symm) [0, 3, 1, 2] [] (wr := []) ⟨rfl, rfl, rfl, rfl, by decide⟩ 0 rfl rfl rfl rfl rfl ⟨Nat.le_of_ble_eq_true rfl, Nat.le_of_ble_eq_true rfl, Nat.le_of_ble_eq_true rfl⟩ 37 29845 ⟨rfl, rfl, Nat.le_of_ble_eq_true rfl, Nat.le_of_ble_eq_true rfl⟩ dL_law_2453 (fun u H locs hp w => ?_)
  have w : Wd D A s.heap [(m0, .inr (12, [.ref m1, .ref m2, .ref m3, .ref m4, .ref m5, .int 0, .ref m6, .int 0, .int 0, .int 0, .int 0, .int 0, .int 0, .int 0, .int 0, .int 0, .int 0, .int (-1), .ref m7, .ref m8, .int 190, .ref m9, .int 0, .ref m10, .ref m11, .ref m12, .ref m13, .ref m14, .int 0, .ref m15, .ref m16, .ref m17]))] _ _ := w.pick [0] rfl rfl
  refine r_top (g2 := F0 m 2456 ls [.int 0, .int 0]) rfl ?_
  refine b_icmp_eq_t C (tgt := 2461) dL_law_2456 (by decide) (by decide) ?_
  refine W.widen (k := 600002) (n := 7302232) (Nat.le_of_ble_eq_true rfl) (Nat.le_of_ble_eq_true rfl) ?_
  exact kk _ _ _ w.2.2 (lv_sub hl [0, 4] rfl)
set_option maxRecDepth 100000 in
set_option maxHeartbeats 4000000 in
theorem s_L_36_4 {p : Program} {l : Launch} {e : Env} {s : State} {m : MethodId} {args : Array Value} {below : List Frame} {meth : Method} {c : Code} {Q : State → Prop} {D : va_G} {cy : Nat → ClassId} {A : Nat → Prop} {H : Heap} {locs : List Loc} {ls : Array Slot} {xs : Nat → Int32} (b q0 q1 q2 q4 q5 q6 q10 q11 q12 q13 q14 q15 q16 q17 m0 m1 m2 m3 m4 m5 m6 m7 m8 m9 m10 m11 m12 m13 m14 m15 m16 m17 o0 : Nat) (sx1 : xs 1 = 5) (C : Cx p s m args c cL_law RL D cy A) (hml : c.maxLocals = 8) (hX : va_X b 6 xs s s.heap) (hbl : b < s.heap.size) (hbA : ¬ A b) (w : Wd D A s.heap [(q0, .inr (11, [.ref q1, .int 0, .int 0, .int (-1), .ref q2, .ref q4, .ref q5, .ref q6, .ref q10, .null])), (q10, .inr (9, [.int 0, .int 2, .int 20, .int 120, .int 0, .int 0, .int 0, .int 0, .ref q11, .int 0, .ref q12, .ref q13, .int 0, .ref q14, .ref q15, .ref q16, .ref q17])), (m0, .inr (12, [.ref m1, .ref m2, .ref m3, .ref m4, .ref m5, .int 0, .ref m6, .int 0, .int 0, .int 0, .int 0, .int 0, .int 0, .int 0, .int 0, .int 0, .int 0, .int (-1), .ref m7, .ref m8, .int 0, .ref m9, .int 0, .ref m10, .ref m11, .ref m12, .ref m13, .ref m14, .int 0, .ref m15, .ref m16, .ref m17])), (m7, .inl (cy 1, 1830, .inl (fun _ => 0))), (m8, .inl (cy 1, 1830, .inl (fun _ => 0))), (m1, .inl (cy 1, 1868, .inl (upd (upd (upd (fun _ => 0) 1 2) 2 20) 3 120)))] H locs) (hl : lv_has ls 8 [(0, .ref b), (1, .ref q0), (2, .ref m0), (3, .ref o0), (4, .int 0)]) (kk : ∀ (H : Heap) (locs : List Loc) (ls : Array Slot), va_S A s.heap H locs → lv_has ls 8 [(0, .ref b), (4, .int 0)] → W p l e room_1 s m args below meth c H locs 600002 7302232 Q (F0 m 2461 ls [])) : W p l e room_1 s m args below meth c H locs 37 29845 Q (F0 m 2436 ls []) := by
  refine lv_aload_n C.1 C.2.1 dL_law_2436 rfl (lv_at hl 1 rfl) ?_
  refine lv_aload_n C.1 C.2.1 dL_law_2437 rfl (lv_at hl 0 rfl) ?_
  refine lv_iload C.1 C.2.1 dL_law_2438 (lv_at hl 4 rfl) ?_
  refine lv_iconst (v := 1) C.1 C.2.1 dL_law_2440 (by decide) ?_
  refine r_iadd C (v := 1) dL_law_2441 (by decide) ?_
  refine r_sld C w hX hbl hbA (v := 5) (vinD (by decide)) sx1 dL_law_2442 ?_
  refine r_callV C w fv_RL_252 (c_X11_count_4 l D cy q0 q1 q2 q4 q5 q6 q10 q11 q12 q13 q14 q15 q16 q17) (hl.1.trans hml.symm) [0, 1] [2, 3, 4, 5] (wr := [(m0, .inr (12, [.ref m1, .ref m2, .ref m3, .ref m4, .ref m5, .int 0, .ref m6, .int 0, .int 0, .int 0, .int 0, .int 0, .int 0, .int 0, .int 0, .int 0, .int 0, .int (-1), .ref m7, .ref m8, .int 0, .ref m9, .int 0, .ref m10, .ref m11, .ref m12, .ref m13, .ref m14, .int 0, .ref m15, .ref m16, .ref m17])), (m7, .inl (cy 1, 1830, .inl (fun _ => 0))), (m8, .inl (cy 1, 1830, .inl (fun _ => 0))), (m1, .inl (cy 1, 1868, .inl (upd (upd (upd (fun _ => 0) 1 2) 2 20) 3 120)))]) ⟨rfl, rfl, rfl, rfl, by decide⟩ 0 rfl rfl rfl rfl rfl ⟨Nat.le_of_ble_eq_true rfl, Nat.le_of_ble_eq_true rfl, Nat.le_of_ble_eq_true rfl⟩ 37 29845 ⟨rfl, rfl, Nat.le_of_ble_eq_true rfl, Nat.le_of_ble_eq_true rfl⟩ dL_law_2443 (fun u H locs hp w => ?_)
  have w : Wd D A s.heap [(m0, .inr (12, [.ref m1, .ref m2, .ref m3, .ref m4, .ref m5, .int 0, .ref m6, .int 0, .int 0, .int 0, .int 0, .int 0, .int 0, .int 0, .int 0, .int 0, .int 0, .int (-1), .ref m7, .ref m8, .int 0, .ref m9, .int 0, .ref m10, .ref m11, .ref m12, .ref m13, .ref m14, .int 0, .ref m15, .ref m16, .ref m17])), (m7, .inl (cy 1, 1830, .inl (fun _ => 0))), (m8, .inl (cy 1, 1830, .inl (fun _ => 0))), (m1, .inl (cy 1, 1868, .inl (upd (upd (upd (fun _ => 0) 1 2) 2 20) 3 120)))] _ _ := w.pick [0, 1, 2, 3] rfl rfl
  refine r_top (g2 := F0 m 2446 ls [.int 0]) rfl ?_
  refine lv_aload_n C.1 C.2.1 dL_law_2446 rfl (lv_at hl 2 rfl) ?_
  refine lv_aload_n C.1 C.2.1 dL_law_2447 rfl (lv_at hl 0 rfl) ?_
  refine lv_iload C.1 C.2.1 dL_law_2448 (lv_at hl 4 rfl) ?_
  refine lv_iconst (v := 1) C.1 C.2.1 dL_law_2450 (by decide) ?_
  refine r_iadd C (v := 1) dL_law_2451 (by decide) ?_
  refine r_sld C w hX hbl hbA (v := 5) (vinD (by decide)) sx1 dL_law_2452 ?_
  refine r_callV C w fv_RL_255 (c_X12_count_4 l D cy m0 m1 m2 m3 m4 m5 m6 m7 m8 m9 m10 m11 m12 m13 m14 m15 m16 m17) (hl.1.trans hml.symm) [0, 3, 1, 2] [] (wr := []) ⟨rfl, rfl, rfl, rfl, by decide⟩ 0 rfl rfl rfl rfl rfl ⟨Nat.le_of_ble_eq_true rfl, Nat.le_of_ble_eq_true rfl, Nat.le_of_ble_eq_true rfl⟩ 37 29845 ⟨rfl, rfl, Nat.le_of_ble_eq_true rfl, Nat.le_of_ble_eq_true rfl⟩ dL_law_2453 (fun u H locs hp w => ?_)
  have w : Wd D A s.heap [(m0, .inr (12, [.ref m1, .ref m2, .ref m3, .ref m4, .ref m5, .int 0, .ref m6, .int 0, .int 0, .int 0, .int 0, .int 0, .int 0, .int 0, .int 0, .int 0, .int 0, .int (-1), .ref m7, .ref m8, .int 190, .ref m9, .int 0, .ref m10, .ref m11, .ref m12, .ref m13, .ref m14, .int 0, .ref m15, .ref m16, .ref m17]))] _ _ := w.pick [0] rfl rfl
  refine r_top (g2 := F0 m 2456 ls [.int 0, .int 0]) rfl ?_
  refine b_icmp_eq_t C (tgt := 2461) dL_law_2456 (by decide) (by decide) ?_
  refine W.widen (k := 600002) (n := 7302232) (Nat.le_of_ble_eq_true rfl) (Nat.le_of_ble_eq_true rfl) ?_
  exact kk _ _ _ w.2.2 (lv_sub hl [0, 4] rfl)
set_option maxRecDepth 100000 in
set_option maxHeartbeats 4000000 in
theorem s_L_36_5 {p : Program} {l : Launch} {e : Env} {s : State} {m : MethodId} {args : Array Value} {below : List Frame} {meth : Method} {c : Code} {Q : State → Prop} {D : va_G} {cy : Nat → ClassId} {A : Nat → Prop} {H : Heap} {locs : List Loc} {ls : Array Slot} {xs : Nat → Int32} (b q0 q1 q2 q4 q5 q6 q10 q11 q12 q13 q14 q15 q16 q17 m0 m1 m2 m3 m4 m5 m6 m7 m8 m9 m10 m11 m12 m13 m14 m15 m16 m17 o0 : Nat) (sx1 : xs 1 = 4) (C : Cx p s m args c cL_law RL D cy A) (hml : c.maxLocals = 8) (hX : va_X b 6 xs s s.heap) (hbl : b < s.heap.size) (hbA : ¬ A b) (w : Wd D A s.heap [(q0, .inr (11, [.ref q1, .int 0, .int 0, .int (-1), .ref q2, .ref q4, .ref q5, .ref q6, .ref q10, .null])), (q10, .inr (9, [.int 0, .int 2, .int 20, .int 120, .int 0, .int 0, .int 0, .int 0, .ref q11, .int 0, .ref q12, .ref q13, .int 0, .ref q14, .ref q15, .ref q16, .ref q17])), (m0, .inr (12, [.ref m1, .ref m2, .ref m3, .ref m4, .ref m5, .int 0, .ref m6, .int 0, .int 0, .int 0, .int 0, .int 0, .int 0, .int 0, .int 0, .int 0, .int 0, .int (-1), .ref m7, .ref m8, .int 0, .ref m9, .int 0, .ref m10, .ref m11, .ref m12, .ref m13, .ref m14, .int 0, .ref m15, .ref m16, .ref m17])), (m7, .inl (cy 1, 1830, .inl (fun _ => 0))), (m8, .inl (cy 1, 1830, .inl (fun _ => 0))), (m1, .inl (cy 1, 1868, .inl (upd (upd (upd (fun _ => 0) 1 2) 2 20) 3 120)))] H locs) (hl : lv_has ls 8 [(0, .ref b), (1, .ref q0), (2, .ref m0), (3, .ref o0), (4, .int 0)]) (kk : ∀ (H : Heap) (locs : List Loc) (ls : Array Slot), va_S A s.heap H locs → lv_has ls 8 [(0, .ref b), (4, .int 0)] → W p l e room_1 s m args below meth c H locs 600002 7302232 Q (F0 m 2461 ls [])) : W p l e room_1 s m args below meth c H locs 37 29845 Q (F0 m 2436 ls []) := by
  refine lv_aload_n C.1 C.2.1 dL_law_2436 rfl (lv_at hl 1 rfl) ?_
  refine lv_aload_n C.1 C.2.1 dL_law_2437 rfl (lv_at hl 0 rfl) ?_
  refine lv_iload C.1 C.2.1 dL_law_2438 (lv_at hl 4 rfl) ?_
  refine lv_iconst (v := 1) C.1 C.2.1 dL_law_2440 (by decide) ?_
  refine r_iadd C (v := 1) dL_law_2441 (by decide) ?_
  refine r_sld C w hX hbl hbA (v := 4) (vinD (by decide)) sx1 dL_law_2442 ?_
  refine r_callV C w fv_RL_252 (c_X11_count_5 l D cy q0 q1 q2 q4 q5 q6 q10 q11 q12 q13 q14 q15 q16 q17) (hl.1.trans hml.symm) [0, 1] [2, 3, 4, 5] (wr := [(m0, .inr (12, [.ref m1, .ref m2, .ref m3, .ref m4, .ref m5, .int 0, .ref m6, .int 0, .int 0, .int 0, .int 0, .int 0, .int 0, .int 0, .int 0, .int 0, .int 0, .int (-1), .ref m7, .ref m8, .int 0, .ref m9, .int 0, .ref m10, .ref m11, .ref m12, .ref m13, .ref m14, .int 0, .ref m15, .ref m16, .ref m17])), (m7, .inl (cy 1, 1830, .inl (fun _ => 0))), (m8, .inl (cy 1, 1830, .inl (fun _ => 0))), (m1, .inl (cy 1, 1868, .inl (upd (upd (upd (fun _ => 0) 1 2) 2 20) 3 120)))]) ⟨rfl, rfl, rfl, rfl, by decide⟩ 0 rfl rfl rfl rfl rfl ⟨Nat.le_of_ble_eq_true rfl, Nat.le_of_ble_eq_true rfl, Nat.le_of_ble_eq_true rfl⟩ 37 29845 ⟨rfl, rfl, Nat.le_of_ble_eq_true rfl, Nat.le_of_ble_eq_true rfl⟩ dL_law_2443 (fun u H locs hp w => ?_)
  have w : Wd D A s.heap [(m0, .inr (12, [.ref m1, .ref m2, .ref m3, .ref m4, .ref m5, .int 0, .ref m6, .int 0, .int 0, .int 0, .int 0, .int 0, .int 0, .int 0, .int 0, .int 0, .int 0, .int (-1), .ref m7, .ref m8, .int 0, .ref m9, .int 0, .ref m10, .ref m11, .ref m12, .ref m13, .ref m14, .int 0, .ref m15, .ref m16, .ref m17])), (m7, .inl (cy 1, 1830, .inl (fun _ => 0))), (m8, .inl (cy 1, 1830, .inl (fun _ => 0))), (m1, .inl (cy 1, 1868, .inl (upd (upd (upd (fun _ => 0) 1 2) 2 20) 3 120)))] _ _ := w.pick [0, 1, 2, 3] rfl rfl
  refine r_top (g2 := F0 m 2446 ls [.int 0]) rfl ?_
  refine lv_aload_n C.1 C.2.1 dL_law_2446 rfl (lv_at hl 2 rfl) ?_
  refine lv_aload_n C.1 C.2.1 dL_law_2447 rfl (lv_at hl 0 rfl) ?_
  refine lv_iload C.1 C.2.1 dL_law_2448 (lv_at hl 4 rfl) ?_
  refine lv_iconst (v := 1) C.1 C.2.1 dL_law_2450 (by decide) ?_
  refine r_iadd C (v := 1) dL_law_2451 (by decide) ?_
  refine r_sld C w hX hbl hbA (v := 4) (vinD (by decide)) sx1 dL_law_2452 ?_
  refine r_callV C w fv_RL_255 (c_X12_count_5 l D cy m0 m1 m2 m3 m4 m5 m6 m7 m8 m9 m10 m11 m12 m13 m14 m15 m16 m17) (hl.1.trans hml.symm) [0, 3, 1, 2] [] (wr := []) ⟨rfl, rfl, rfl, rfl, by decide⟩ 0 rfl rfl rfl rfl rfl ⟨Nat.le_of_ble_eq_true rfl, Nat.le_of_ble_eq_true rfl, Nat.le_of_ble_eq_true rfl⟩ 37 29845 ⟨rfl, rfl, Nat.le_of_ble_eq_true rfl, Nat.le_of_ble_eq_true rfl⟩ dL_law_2453 (fun u H locs hp w => ?_)
  have w : Wd D A s.heap [(m0, .inr (12, [.ref m1, .ref m2, .ref m3, .ref m4, .ref m5, .int 0, .ref m6, .int 0, .int 0, .int 0, .int 0, .int 0, .int 0, .int 0, .int 0, .int 0, .int 0, .int (-1), .ref m7, .ref m8, .int 190, .ref m9, .int 0, .ref m10, .ref m11, .ref m12, .ref m13, .ref m14, .int 0, .ref m15, .ref m16, .ref m17]))] _ _ := w.pick [0] rfl rfl
  refine r_top (g2 := F0 m 2456 ls [.int 0, .int 0]) rfl ?_
  refine b_icmp_eq_t C (tgt := 2461) dL_law_2456 (by decide) (by decide) ?_
  refine W.widen (k := 600002) (n := 7302232) (Nat.le_of_ble_eq_true rfl) (Nat.le_of_ble_eq_true rfl) ?_
  exact kk _ _ _ w.2.2 (lv_sub hl [0, 4] rfl)
set_option maxRecDepth 100000 in
set_option maxHeartbeats 4000000 in
theorem s_L_36_6 {p : Program} {l : Launch} {e : Env} {s : State} {m : MethodId} {args : Array Value} {below : List Frame} {meth : Method} {c : Code} {Q : State → Prop} {D : va_G} {cy : Nat → ClassId} {A : Nat → Prop} {H : Heap} {locs : List Loc} {ls : Array Slot} {xs : Nat → Int32} (b q0 q1 q2 q4 q5 q6 q10 q11 q12 q13 q14 q15 q16 q17 m0 m1 m2 m3 m4 m5 m6 m7 m8 m9 m10 m11 m12 m13 m14 m15 m16 m17 o0 : Nat) (sx1 : xs 1 = 3) (C : Cx p s m args c cL_law RL D cy A) (hml : c.maxLocals = 8) (hX : va_X b 6 xs s s.heap) (hbl : b < s.heap.size) (hbA : ¬ A b) (w : Wd D A s.heap [(q0, .inr (11, [.ref q1, .int 0, .int 0, .int (-1), .ref q2, .ref q4, .ref q5, .ref q6, .ref q10, .null])), (q10, .inr (9, [.int 0, .int 2, .int 20, .int 120, .int 0, .int 0, .int 0, .int 0, .ref q11, .int 0, .ref q12, .ref q13, .int 0, .ref q14, .ref q15, .ref q16, .ref q17])), (m0, .inr (12, [.ref m1, .ref m2, .ref m3, .ref m4, .ref m5, .int 0, .ref m6, .int 0, .int 0, .int 0, .int 0, .int 0, .int 0, .int 0, .int 0, .int 0, .int 0, .int (-1), .ref m7, .ref m8, .int 0, .ref m9, .int 0, .ref m10, .ref m11, .ref m12, .ref m13, .ref m14, .int 0, .ref m15, .ref m16, .ref m17])), (m7, .inl (cy 1, 1830, .inl (fun _ => 0))), (m8, .inl (cy 1, 1830, .inl (fun _ => 0))), (m1, .inl (cy 1, 1868, .inl (upd (upd (upd (fun _ => 0) 1 2) 2 20) 3 120)))] H locs) (hl : lv_has ls 8 [(0, .ref b), (1, .ref q0), (2, .ref m0), (3, .ref o0), (4, .int 0)]) (kk : ∀ (H : Heap) (locs : List Loc) (ls : Array Slot), va_S A s.heap H locs → lv_has ls 8 [(0, .ref b), (4, .int 0)] → W p l e room_1 s m args below meth c H locs 600002 7302232 Q (F0 m 2461 ls [])) : W p l e room_1 s m args below meth c H locs 37 29845 Q (F0 m 2436 ls []) := by
  refine lv_aload_n C.1 C.2.1 dL_law_2436 rfl (lv_at hl 1 rfl) ?_
  refine lv_aload_n C.1 C.2.1 dL_law_2437 rfl (lv_at hl 0 rfl) ?_
  refine lv_iload C.1 C.2.1 dL_law_2438 (lv_at hl 4 rfl) ?_
  refine lv_iconst (v := 1) C.1 C.2.1 dL_law_2440 (by decide) ?_
  refine r_iadd C (v := 1) dL_law_2441 (by decide) ?_
  refine r_sld C w hX hbl hbA (v := 3) (vinD (by decide)) sx1 dL_law_2442 ?_
  refine r_callV C w fv_RL_252 (c_X11_count_6 l D cy q0 q1 q2 q4 q5 q6 q10 q11 q12 q13 q14 q15 q16 q17) (hl.1.trans hml.symm) [0, 1] [2, 3, 4, 5] (wr := [(m0, .inr (12, [.ref m1, .ref m2, .ref m3, .ref m4, .ref m5, .int 0, .ref m6, .int 0, .int 0, .int 0, .int 0, .int 0, .int 0, .int 0, .int 0, .int 0, .int 0, .int (-1), .ref m7, .ref m8, .int 0, .ref m9, .int 0, .ref m10, .ref m11, .ref m12, .ref m13, .ref m14, .int 0, .ref m15, .ref m16, .ref m17])), (m7, .inl (cy 1, 1830, .inl (fun _ => 0))), (m8, .inl (cy 1, 1830, .inl (fun _ => 0))), (m1, .inl (cy 1, 1868, .inl (upd (upd (upd (fun _ => 0) 1 2) 2 20) 3 120)))]) ⟨rfl, rfl, rfl, rfl, by decide⟩ 0 rfl rfl rfl rfl rfl ⟨Nat.le_of_ble_eq_true rfl, Nat.le_of_ble_eq_true rfl, Nat.le_of_ble_eq_true rfl⟩ 37 29845 ⟨rfl, rfl, Nat.le_of_ble_eq_true rfl, Nat.le_of_ble_eq_true rfl⟩ dL_law_2443 (fun u H locs hp w => ?_)
  have w : Wd D A s.heap [(m0, .inr (12, [.ref m1, .ref m2, .ref m3, .ref m4, .ref m5, .int 0, .ref m6, .int 0, .int 0, .int 0, .int 0, .int 0, .int 0, .int 0, .int 0, .int 0, .int 0, .int (-1), .ref m7, .ref m8, .int 0, .ref m9, .int 0, .ref m10, .ref m11, .ref m12, .ref m13, .ref m14, .int 0, .ref m15, .ref m16, .ref m17])), (m7, .inl (cy 1, 1830, .inl (fun _ => 0))), (m8, .inl (cy 1, 1830, .inl (fun _ => 0))), (m1, .inl (cy 1, 1868, .inl (upd (upd (upd (fun _ => 0) 1 2) 2 20) 3 120)))] _ _ := w.pick [0, 1, 2, 3] rfl rfl
  refine r_top (g2 := F0 m 2446 ls [.int 120]) rfl ?_
  refine lv_aload_n C.1 C.2.1 dL_law_2446 rfl (lv_at hl 2 rfl) ?_
  refine lv_aload_n C.1 C.2.1 dL_law_2447 rfl (lv_at hl 0 rfl) ?_
  refine lv_iload C.1 C.2.1 dL_law_2448 (lv_at hl 4 rfl) ?_
  refine lv_iconst (v := 1) C.1 C.2.1 dL_law_2450 (by decide) ?_
  refine r_iadd C (v := 1) dL_law_2451 (by decide) ?_
  refine r_sld C w hX hbl hbA (v := 3) (vinD (by decide)) sx1 dL_law_2452 ?_
  refine r_callV C w fv_RL_255 (c_X12_count_6 l D cy m0 m1 m2 m3 m4 m5 m6 m7 m8 m9 m10 m11 m12 m13 m14 m15 m16 m17) (hl.1.trans hml.symm) [0, 3, 1, 2] [] (wr := []) ⟨rfl, rfl, rfl, rfl, by decide⟩ 0 rfl rfl rfl rfl rfl ⟨Nat.le_of_ble_eq_true rfl, Nat.le_of_ble_eq_true rfl, Nat.le_of_ble_eq_true rfl⟩ 37 29845 ⟨rfl, rfl, Nat.le_of_ble_eq_true rfl, Nat.le_of_ble_eq_true rfl⟩ dL_law_2453 (fun u H locs hp w => ?_)
  have w : Wd D A s.heap [(m0, .inr (12, [.ref m1, .ref m2, .ref m3, .ref m4, .ref m5, .int 0, .ref m6, .int 0, .int 0, .int 0, .int 0, .int 0, .int 0, .int 0, .int 0, .int 0, .int 0, .int (-1), .ref m7, .ref m8, .int 190, .ref m9, .int 0, .ref m10, .ref m11, .ref m12, .ref m13, .ref m14, .int 0, .ref m15, .ref m16, .ref m17]))] _ _ := w.pick [0] rfl rfl
  refine r_top (g2 := F0 m 2456 ls [.int 120, .int 120]) rfl ?_
  refine b_icmp_eq_t C (tgt := 2461) dL_law_2456 (by decide) (by decide) ?_
  refine W.widen (k := 600002) (n := 7302232) (Nat.le_of_ble_eq_true rfl) (Nat.le_of_ble_eq_true rfl) ?_
  exact kk _ _ _ w.2.2 (lv_sub hl [0, 4] rfl)
set_option maxRecDepth 100000 in
set_option maxHeartbeats 4000000 in
theorem s_L_36_7 {p : Program} {l : Launch} {e : Env} {s : State} {m : MethodId} {args : Array Value} {below : List Frame} {meth : Method} {c : Code} {Q : State → Prop} {D : va_G} {cy : Nat → ClassId} {A : Nat → Prop} {H : Heap} {locs : List Loc} {ls : Array Slot} {xs : Nat → Int32} (b q0 q1 q2 q4 q5 q6 q10 q11 q12 q13 q14 q15 q16 q17 m0 m1 m2 m3 m4 m5 m6 m7 m8 m9 m10 m11 m12 m13 m14 m15 m16 m17 o0 : Nat) (sx1 : xs 1 = 2) (C : Cx p s m args c cL_law RL D cy A) (hml : c.maxLocals = 8) (hX : va_X b 6 xs s s.heap) (hbl : b < s.heap.size) (hbA : ¬ A b) (w : Wd D A s.heap [(q0, .inr (11, [.ref q1, .int 0, .int 0, .int (-1), .ref q2, .ref q4, .ref q5, .ref q6, .ref q10, .null])), (q10, .inr (9, [.int 0, .int 2, .int 20, .int 120, .int 0, .int 0, .int 0, .int 0, .ref q11, .int 0, .ref q12, .ref q13, .int 0, .ref q14, .ref q15, .ref q16, .ref q17])), (m0, .inr (12, [.ref m1, .ref m2, .ref m3, .ref m4, .ref m5, .int 0, .ref m6, .int 0, .int 0, .int 0, .int 0, .int 0, .int 0, .int 0, .int 0, .int 0, .int 0, .int (-1), .ref m7, .ref m8, .int 0, .ref m9, .int 0, .ref m10, .ref m11, .ref m12, .ref m13, .ref m14, .int 0, .ref m15, .ref m16, .ref m17])), (m7, .inl (cy 1, 1830, .inl (fun _ => 0))), (m8, .inl (cy 1, 1830, .inl (fun _ => 0))), (m1, .inl (cy 1, 1868, .inl (upd (upd (upd (fun _ => 0) 1 2) 2 20) 3 120)))] H locs) (hl : lv_has ls 8 [(0, .ref b), (1, .ref q0), (2, .ref m0), (3, .ref o0), (4, .int 0)]) (kk : ∀ (H : Heap) (locs : List Loc) (ls : Array Slot), va_S A s.heap H locs → lv_has ls 8 [(0, .ref b), (4, .int 0)] → W p l e room_1 s m args below meth c H locs 600002 7302232 Q (F0 m 2461 ls [])) : W p l e room_1 s m args below meth c H locs 37 29845 Q (F0 m 2436 ls []) := by
  refine lv_aload_n C.1 C.2.1 dL_law_2436 rfl (lv_at hl 1 rfl) ?_
  refine lv_aload_n C.1 C.2.1 dL_law_2437 rfl (lv_at hl 0 rfl) ?_
  refine lv_iload C.1 C.2.1 dL_law_2438 (lv_at hl 4 rfl) ?_
  refine lv_iconst (v := 1) C.1 C.2.1 dL_law_2440 (by decide) ?_
  refine r_iadd C (v := 1) dL_law_2441 (by decide) ?_
  refine r_sld C w hX hbl hbA (v := 2) (vinD (by decide)) sx1 dL_law_2442 ?_
  refine r_callV C w fv_RL_252 (c_X11_count_7 l D cy q0 q1 q2 q4 q5 q6 q10 q11 q12 q13 q14 q15 q16 q17) (hl.1.trans hml.symm) [0, 1] [2, 3, 4, 5] (wr := [(m0, .inr (12, [.ref m1, .ref m2, .ref m3, .ref m4, .ref m5, .int 0, .ref m6, .int 0, .int 0, .int 0, .int 0, .int 0, .int 0, .int 0, .int 0, .int 0, .int 0, .int (-1), .ref m7, .ref m8, .int 0, .ref m9, .int 0, .ref m10, .ref m11, .ref m12, .ref m13, .ref m14, .int 0, .ref m15, .ref m16, .ref m17])), (m7, .inl (cy 1, 1830, .inl (fun _ => 0))), (m8, .inl (cy 1, 1830, .inl (fun _ => 0))), (m1, .inl (cy 1, 1868, .inl (upd (upd (upd (fun _ => 0) 1 2) 2 20) 3 120)))]) ⟨rfl, rfl, rfl, rfl, by decide⟩ 0 rfl rfl rfl rfl rfl ⟨Nat.le_of_ble_eq_true rfl, Nat.le_of_ble_eq_true rfl, Nat.le_of_ble_eq_true rfl⟩ 37 29845 ⟨rfl, rfl, Nat.le_of_ble_eq_true rfl, Nat.le_of_ble_eq_true rfl⟩ dL_law_2443 (fun u H locs hp w => ?_)
  have w : Wd D A s.heap [(m0, .inr (12, [.ref m1, .ref m2, .ref m3, .ref m4, .ref m5, .int 0, .ref m6, .int 0, .int 0, .int 0, .int 0, .int 0, .int 0, .int 0, .int 0, .int 0, .int 0, .int (-1), .ref m7, .ref m8, .int 0, .ref m9, .int 0, .ref m10, .ref m11, .ref m12, .ref m13, .ref m14, .int 0, .ref m15, .ref m16, .ref m17])), (m7, .inl (cy 1, 1830, .inl (fun _ => 0))), (m8, .inl (cy 1, 1830, .inl (fun _ => 0))), (m1, .inl (cy 1, 1868, .inl (upd (upd (upd (fun _ => 0) 1 2) 2 20) 3 120)))] _ _ := w.pick [0, 1, 2, 3] rfl rfl
  refine r_top (g2 := F0 m 2446 ls [.int 20]) rfl ?_
  refine lv_aload_n C.1 C.2.1 dL_law_2446 rfl (lv_at hl 2 rfl) ?_
  refine lv_aload_n C.1 C.2.1 dL_law_2447 rfl (lv_at hl 0 rfl) ?_
  refine lv_iload C.1 C.2.1 dL_law_2448 (lv_at hl 4 rfl) ?_
  refine lv_iconst (v := 1) C.1 C.2.1 dL_law_2450 (by decide) ?_
  refine r_iadd C (v := 1) dL_law_2451 (by decide) ?_
  refine r_sld C w hX hbl hbA (v := 2) (vinD (by decide)) sx1 dL_law_2452 ?_
  refine r_callV C w fv_RL_255 (c_X12_count_7 l D cy m0 m1 m2 m3 m4 m5 m6 m7 m8 m9 m10 m11 m12 m13 m14 m15 m16 m17) (hl.1.trans hml.symm) [0, 3, 1, 2] [] (wr := []) ⟨rfl, rfl, rfl, rfl, by decide⟩ 0 rfl rfl rfl rfl rfl ⟨Nat.le_of_ble_eq_true rfl, Nat.le_of_ble_eq_true rfl, Nat.le_of_ble_eq_true rfl⟩ 37 29845 ⟨rfl, rfl, Nat.le_of_ble_eq_true rfl, Nat.le_of_ble_eq_true rfl⟩ dL_law_2453 (fun u H locs hp w => ?_)
  have w : Wd D A s.heap [(m0, .inr (12, [.ref m1, .ref m2, .ref m3, .ref m4, .ref m5, .int 0, .ref m6, .int 0, .int 0, .int 0, .int 0, .int 0, .int 0, .int 0, .int 0, .int 0, .int 0, .int (-1), .ref m7, .ref m8, .int 190, .ref m9, .int 0, .ref m10, .ref m11, .ref m12, .ref m13, .ref m14, .int 0, .ref m15, .ref m16, .ref m17]))] _ _ := w.pick [0] rfl rfl
  refine r_top (g2 := F0 m 2456 ls [.int 20, .int 20]) rfl ?_
  refine b_icmp_eq_t C (tgt := 2461) dL_law_2456 (by decide) (by decide) ?_
  refine W.widen (k := 600002) (n := 7302232) (Nat.le_of_ble_eq_true rfl) (Nat.le_of_ble_eq_true rfl) ?_
  exact kk _ _ _ w.2.2 (lv_sub hl [0, 4] rfl)
set_option maxRecDepth 100000 in
set_option maxHeartbeats 4000000 in
theorem s_L_36_8 {p : Program} {l : Launch} {e : Env} {s : State} {m : MethodId} {args : Array Value} {below : List Frame} {meth : Method} {c : Code} {Q : State → Prop} {D : va_G} {cy : Nat → ClassId} {A : Nat → Prop} {H : Heap} {locs : List Loc} {ls : Array Slot} {xs : Nat → Int32} (b q0 q1 q2 q4 q5 q6 q10 q11 q12 q13 q14 q15 q16 q17 m0 m1 m2 m3 m4 m5 m6 m7 m8 m9 m10 m11 m12 m13 m14 m15 m16 m17 o0 : Nat) (sx1 : xs 1 = 1) (C : Cx p s m args c cL_law RL D cy A) (hml : c.maxLocals = 8) (hX : va_X b 6 xs s s.heap) (hbl : b < s.heap.size) (hbA : ¬ A b) (w : Wd D A s.heap [(q0, .inr (11, [.ref q1, .int 0, .int 0, .int (-1), .ref q2, .ref q4, .ref q5, .ref q6, .ref q10, .null])), (q10, .inr (9, [.int 0, .int 2, .int 20, .int 120, .int 0, .int 0, .int 0, .int 0, .ref q11, .int 0, .ref q12, .ref q13, .int 0, .ref q14, .ref q15, .ref q16, .ref q17])), (m0, .inr (12, [.ref m1, .ref m2, .ref m3, .ref m4, .ref m5, .int 0, .ref m6, .int 0, .int 0, .int 0, .int 0, .int 0, .int 0, .int 0, .int 0, .int 0, .int 0, .int (-1), .ref m7, .ref m8, .int 0, .ref m9, .int 0, .ref m10, .ref m11, .ref m12, .ref m13, .ref m14, .int 0, .ref m15, .ref m16, .ref m17])), (m7, .inl (cy 1, 1830, .inl (fun _ => 0))), (m8, .inl (cy 1, 1830, .inl (fun _ => 0))), (m1, .inl (cy 1, 1868, .inl (upd (upd (upd (fun _ => 0) 1 2) 2 20) 3 120)))] H locs) (hl : lv_has ls 8 [(0, .ref b), (1, .ref q0), (2, .ref m0), (3, .ref o0), (4, .int 0)]) (kk : ∀ (H : Heap) (locs : List Loc) (ls : Array Slot), va_S A s.heap H locs → lv_has ls 8 [(0, .ref b), (4, .int 0)] → W p l e room_1 s m args below meth c H locs 600002 7302232 Q (F0 m 2461 ls [])) : W p l e room_1 s m args below meth c H locs 37 29845 Q (F0 m 2436 ls []) := by
  refine lv_aload_n C.1 C.2.1 dL_law_2436 rfl (lv_at hl 1 rfl) ?_
  refine lv_aload_n C.1 C.2.1 dL_law_2437 rfl (lv_at hl 0 rfl) ?_
  refine lv_iload C.1 C.2.1 dL_law_2438 (lv_at hl 4 rfl) ?_
  refine lv_iconst (v := 1) C.1 C.2.1 dL_law_2440 (by decide) ?_
  refine r_iadd C (v := 1) dL_law_2441 (by decide) ?_
  refine r_sld C w hX hbl hbA (v := 1) (vinD (by decide)) sx1 dL_law_2442 ?_
  refine r_callV C w fv_RL_252 (c_X11_count_8 l D cy q0 q1 q2 q4 q5 q6 q10 q11 q12 q13 q14 q15 q16 q17) (hl.1.trans hml.symm) [0, 1] [2, 3, 4, 5] (wr := [(m0, .inr (12, [.ref m1, .ref m2, .ref m3, .ref m4, .ref m5, .int 0, .ref m6, .int 0, .int 0, .int 0, .int 0, .int 0, .int 0, .int 0, .int 0, .int 0, .int 0, .int (-1), .ref m7, .ref m8, .int 0, .ref m9, .int 0, .ref m10, .ref m11, .ref m12, .ref m13, .ref m14, .int 0, .ref m15, .ref m16, .ref m17])), (m7, .inl (cy 1, 1830, .inl (fun _ => 0))), (m8, .inl (cy 1, 1830, .inl (fun _ => 0))), (m1, .inl (cy 1, 1868, .inl (upd (upd (upd (fun _ => 0) 1 2) 2 20) 3 120)))]) ⟨rfl, rfl, rfl, rfl, by decide⟩ 0 rfl rfl rfl rfl rfl ⟨Nat.le_of_ble_eq_true rfl, Nat.le_of_ble_eq_true rfl, Nat.le_of_ble_eq_true rfl⟩ 37 29845 ⟨rfl, rfl, Nat.le_of_ble_eq_true rfl, Nat.le_of_ble_eq_true rfl⟩ dL_law_2443 (fun u H locs hp w => ?_)
  have w : Wd D A s.heap [(m0, .inr (12, [.ref m1, .ref m2, .ref m3, .ref m4, .ref m5, .int 0, .ref m6, .int 0, .int 0, .int 0, .int 0, .int 0, .int 0, .int 0, .int 0, .int 0, .int 0, .int (-1), .ref m7, .ref m8, .int 0, .ref m9, .int 0, .ref m10, .ref m11, .ref m12, .ref m13, .ref m14, .int 0, .ref m15, .ref m16, .ref m17])), (m7, .inl (cy 1, 1830, .inl (fun _ => 0))), (m8, .inl (cy 1, 1830, .inl (fun _ => 0))), (m1, .inl (cy 1, 1868, .inl (upd (upd (upd (fun _ => 0) 1 2) 2 20) 3 120)))] _ _ := w.pick [0, 1, 2, 3] rfl rfl
  refine r_top (g2 := F0 m 2446 ls [.int 2]) rfl ?_
  refine lv_aload_n C.1 C.2.1 dL_law_2446 rfl (lv_at hl 2 rfl) ?_
  refine lv_aload_n C.1 C.2.1 dL_law_2447 rfl (lv_at hl 0 rfl) ?_
  refine lv_iload C.1 C.2.1 dL_law_2448 (lv_at hl 4 rfl) ?_
  refine lv_iconst (v := 1) C.1 C.2.1 dL_law_2450 (by decide) ?_
  refine r_iadd C (v := 1) dL_law_2451 (by decide) ?_
  refine r_sld C w hX hbl hbA (v := 1) (vinD (by decide)) sx1 dL_law_2452 ?_
  refine r_callV C w fv_RL_255 (c_X12_count_8 l D cy m0 m1 m2 m3 m4 m5 m6 m7 m8 m9 m10 m11 m12 m13 m14 m15 m16 m17) (hl.1.trans hml.symm) [0, 3, 1, 2] [] (wr := []) ⟨rfl, rfl, rfl, rfl, by decide⟩ 0 rfl rfl rfl rfl rfl ⟨Nat.le_of_ble_eq_true rfl, Nat.le_of_ble_eq_true rfl, Nat.le_of_ble_eq_true rfl⟩ 37 29845 ⟨rfl, rfl, Nat.le_of_ble_eq_true rfl, Nat.le_of_ble_eq_true rfl⟩ dL_law_2453 (fun u H locs hp w => ?_)
  have w : Wd D A s.heap [(m0, .inr (12, [.ref m1, .ref m2, .ref m3, .ref m4, .ref m5, .int 0, .ref m6, .int 0, .int 0, .int 0, .int 0, .int 0, .int 0, .int 0, .int 0, .int 0, .int 0, .int (-1), .ref m7, .ref m8, .int 190, .ref m9, .int 0, .ref m10, .ref m11, .ref m12, .ref m13, .ref m14, .int 0, .ref m15, .ref m16, .ref m17]))] _ _ := w.pick [0] rfl rfl
  refine r_top (g2 := F0 m 2456 ls [.int 2, .int 2]) rfl ?_
  refine b_icmp_eq_t C (tgt := 2461) dL_law_2456 (by decide) (by decide) ?_
  refine W.widen (k := 600002) (n := 7302232) (Nat.le_of_ble_eq_true rfl) (Nat.le_of_ble_eq_true rfl) ?_
  exact kk _ _ _ w.2.2 (lv_sub hl [0, 4] rfl)
set_option maxRecDepth 100000 in
set_option maxHeartbeats 4000000 in
theorem s_L_36_9 {p : Program} {l : Launch} {e : Env} {s : State} {m : MethodId} {args : Array Value} {below : List Frame} {meth : Method} {c : Code} {Q : State → Prop} {D : va_G} {cy : Nat → ClassId} {A : Nat → Prop} {H : Heap} {locs : List Loc} {ls : Array Slot} {xs : Nat → Int32} (b q0 q1 q2 q4 q5 q6 q10 q11 q12 q13 q14 q15 q16 q17 m0 m1 m2 m3 m4 m5 m6 m7 m8 m9 m10 m11 m12 m13 m14 m15 m16 m17 o0 : Nat) (sx1 : xs 1 = 0) (C : Cx p s m args c cL_law RL D cy A) (hml : c.maxLocals = 8) (hX : va_X b 6 xs s s.heap) (hbl : b < s.heap.size) (hbA : ¬ A b) (w : Wd D A s.heap [(q0, .inr (11, [.ref q1, .int 0, .int 0, .int (-1), .ref q2, .ref q4, .ref q5, .ref q6, .ref q10, .null])), (q10, .inr (9, [.int 0, .int 2, .int 20, .int 120, .int 0, .int 0, .int 0, .int 0, .ref q11, .int 0, .ref q12, .ref q13, .int 0, .ref q14, .ref q15, .ref q16, .ref q17])), (m0, .inr (12, [.ref m1, .ref m2, .ref m3, .ref m4, .ref m5, .int 0, .ref m6, .int 0, .int 0, .int 0, .int 0, .int 0, .int 0, .int 0, .int 0, .int 0, .int 0, .int (-1), .ref m7, .ref m8, .int 0, .ref m9, .int 0, .ref m10, .ref m11, .ref m12, .ref m13, .ref m14, .int 0, .ref m15, .ref m16, .ref m17])), (m7, .inl (cy 1, 1830, .inl (fun _ => 0))), (m8, .inl (cy 1, 1830, .inl (fun _ => 0))), (m1, .inl (cy 1, 1868, .inl (upd (upd (upd (fun _ => 0) 1 2) 2 20) 3 120)))] H locs) (hl : lv_has ls 8 [(0, .ref b), (1, .ref q0), (2, .ref m0), (3, .ref o0), (4, .int 0)]) (kk : ∀ (H : Heap) (locs : List Loc) (ls : Array Slot), va_S A s.heap H locs → lv_has ls 8 [(0, .ref b), (4, .int 0)] → W p l e room_1 s m args below meth c H locs 600002 7302232 Q (F0 m 2461 ls [])) : W p l e room_1 s m args below meth c H locs 37 29845 Q (F0 m 2436 ls []) := by
  refine lv_aload_n C.1 C.2.1 dL_law_2436 rfl (lv_at hl 1 rfl) ?_
  refine lv_aload_n C.1 C.2.1 dL_law_2437 rfl (lv_at hl 0 rfl) ?_
  refine lv_iload C.1 C.2.1 dL_law_2438 (lv_at hl 4 rfl) ?_
  refine lv_iconst (v := 1) C.1 C.2.1 dL_law_2440 (by decide) ?_
  refine r_iadd C (v := 1) dL_law_2441 (by decide) ?_
  refine r_sld C w hX hbl hbA (v := 0) (vinD (by decide)) sx1 dL_law_2442 ?_
  refine r_callV C w fv_RL_252 (c_X11_count_9 l D cy q0 q1 q2 q4 q5 q6 q10 q11 q12 q13 q14 q15 q16 q17) (hl.1.trans hml.symm) [0, 1] [2, 3, 4, 5] (wr := [(m0, .inr (12, [.ref m1, .ref m2, .ref m3, .ref m4, .ref m5, .int 0, .ref m6, .int 0, .int 0, .int 0, .int 0, .int 0, .int 0, .int 0, .int 0, .int 0, .int 0, .int (-1), .ref m7, .ref m8, .int 0, .ref m9, .int 0, .ref m10, .ref m11, .ref m12, .ref m13, .ref m14, .int 0, .ref m15, .ref m16, .ref m17])), (m7, .inl (cy 1, 1830, .inl (fun _ => 0))), (m8, .inl (cy 1, 1830, .inl (fun _ => 0))), (m1, .inl (cy 1, 1868, .inl (upd (upd (upd (fun _ => 0) 1 2) 2 20) 3 120)))]) ⟨rfl, rfl, rfl, rfl, by decide⟩ 0 rfl rfl rfl rfl rfl ⟨Nat.le_of_ble_eq_true rfl, Nat.le_of_ble_eq_true rfl, Nat.le_of_ble_eq_true rfl⟩ 37 29845 ⟨rfl, rfl, Nat.le_of_ble_eq_true rfl, Nat.le_of_ble_eq_true rfl⟩ dL_law_2443 (fun u H locs hp w => ?_)
  have w : Wd D A s.heap [(m0, .inr (12, [.ref m1, .ref m2, .ref m3, .ref m4, .ref m5, .int 0, .ref m6, .int 0, .int 0, .int 0, .int 0, .int 0, .int 0, .int 0, .int 0, .int 0, .int 0, .int (-1), .ref m7, .ref m8, .int 0, .ref m9, .int 0, .ref m10, .ref m11, .ref m12, .ref m13, .ref m14, .int 0, .ref m15, .ref m16, .ref m17])), (m7, .inl (cy 1, 1830, .inl (fun _ => 0))), (m8, .inl (cy 1, 1830, .inl (fun _ => 0))), (m1, .inl (cy 1, 1868, .inl (upd (upd (upd (fun _ => 0) 1 2) 2 20) 3 120)))] _ _ := w.pick [0, 1, 2, 3] rfl rfl
  refine r_top (g2 := F0 m 2446 ls [.int 0]) rfl ?_
  refine lv_aload_n C.1 C.2.1 dL_law_2446 rfl (lv_at hl 2 rfl) ?_
  refine lv_aload_n C.1 C.2.1 dL_law_2447 rfl (lv_at hl 0 rfl) ?_
  refine lv_iload C.1 C.2.1 dL_law_2448 (lv_at hl 4 rfl) ?_
  refine lv_iconst (v := 1) C.1 C.2.1 dL_law_2450 (by decide) ?_
  refine r_iadd C (v := 1) dL_law_2451 (by decide) ?_
  refine r_sld C w hX hbl hbA (v := 0) (vinD (by decide)) sx1 dL_law_2452 ?_
  refine r_callV C w fv_RL_255 (c_X12_count_9 l D cy m0 m1 m2 m3 m4 m5 m6 m7 m8 m9 m10 m11 m12 m13 m14 m15 m16 m17) (hl.1.trans hml.symm) [0, 3, 1, 2] [] (wr := []) ⟨rfl, rfl, rfl, rfl, by decide⟩ 0 rfl rfl rfl rfl rfl ⟨Nat.le_of_ble_eq_true rfl, Nat.le_of_ble_eq_true rfl, Nat.le_of_ble_eq_true rfl⟩ 37 29845 ⟨rfl, rfl, Nat.le_of_ble_eq_true rfl, Nat.le_of_ble_eq_true rfl⟩ dL_law_2453 (fun u H locs hp w => ?_)
  have w : Wd D A s.heap [(m0, .inr (12, [.ref m1, .ref m2, .ref m3, .ref m4, .ref m5, .int 0, .ref m6, .int 0, .int 0, .int 0, .int 0, .int 0, .int 0, .int 0, .int 0, .int 0, .int 0, .int (-1), .ref m7, .ref m8, .int 190, .ref m9, .int 0, .ref m10, .ref m11, .ref m12, .ref m13, .ref m14, .int 0, .ref m15, .ref m16, .ref m17]))] _ _ := w.pick [0] rfl rfl
  refine r_top (g2 := F0 m 2456 ls [.int 0, .int 0]) rfl ?_
  refine b_icmp_eq_t C (tgt := 2461) dL_law_2456 (by decide) (by decide) ?_
  refine W.widen (k := 600002) (n := 7302232) (Nat.le_of_ble_eq_true rfl) (Nat.le_of_ble_eq_true rfl) ?_
  exact kk _ _ _ w.2.2 (lv_sub hl [0, 4] rfl)
set_option maxRecDepth 100000 in
set_option maxHeartbeats 4000000 in
theorem t_L_36 {p : Program} {l : Launch} {e : Env} {s : State} {m : MethodId} {args : Array Value} {below : List Frame} {meth : Method} {c : Code} {Q : State → Prop} {D : va_G} {cy : Nat → ClassId} {A : Nat → Prop} {H : Heap} {locs : List Loc} {ls : Array Slot} {xs : Nat → Int32} (b q0 q1 q2 q4 q5 q6 q10 q3 q7 q8 q9 q11 q12 q13 q14 q15 q16 q17 m0 m1 m2 m3 m4 m5 m6 m7 m8 m9 m10 m11 m12 m13 m14 m15 m16 m17 o0 : Nat) (hst : l.stackTraces = false) (C : Cx p s m args c cL_law RL D cy A) (hml : c.maxLocals = 8) (hX : va_X b 6 xs s s.heap) (hbl : b < s.heap.size) (hbA : ¬ A b) (w : Wd D A s.heap [(q0, .inr (11, [.ref q1, .int 0, .int 0, .int (-1), .ref q2, .ref q4, .ref q5, .ref q6, .ref q10, .null])), (q1, .inl (cy 0, 900, .inl (fun _ => 0))), (q2, .inr (5, [.ref q3, .int 0, .int 0, .int 0, .int 0, .int 0, .int 0, .null])), (q3, .inl (cy 0, 0, .inl (fun _ => 0))), (q4, .inl (cy 4, 5, .inr (.inr (.inr (.inr (va_up (fun _ => none) 0 (some q10))))))), (q5, .inl (cy 4, 3, .inr (.inr (.inr (.inr (fun _ => none)))))), (q6, .inr (10, [.ref q7, .ref q8, .ref q9])), (q7, .inl (cy 1, 4, .inl (upd (upd (upd (upd (fun _ => 0) 0 (-1)) 1 (-1)) 2 (-1)) 3 (-1)))), (q8, .inl (cy 1, 4, .inl (fun _ => 0))), (q9, .inl (cy 2, 160, .inr (.inl (fun _ => 0)))), (q10, .inr (9, [.int 0, .int 2, .int 20, .int 120, .int 0, .int 0, .int 0, .int 0, .ref q11, .int 0, .ref q12, .ref q13, .int 0, .ref q14, .ref q15, .ref q16, .ref q17])), (q11, .inl (cy 1, 6, .inl (fun _ => 0))), (q12, .inl (cy 1, 20, .inl (fun _ => 0))), (q13, .inl (cy 1, 20, .inl (fun _ => 0))), (q14, .inl (cy 1, 300, .inl (fun _ => 0))), (q15, .inl (cy 1, 300, .inl (fun _ => 0))), (q16, .inl (cy 1, 300, .inl (fun _ => 0))), (q17, .inl (cy 1, 300, .inl (fun _ => 0))), (m0, .inr (12, [.ref m1, .ref m2, .ref m3, .ref m4, .ref m5, .int 0, .ref m6, .int 0, .int 0, .int 0, .int 0, .int 0, .int 0, .int 0, .int 0, .int 0, .int 0, .int (-1), .ref m7, .ref m8, .int 0, .ref m9, .int 0, .ref m10, .ref m11, .ref m12, .ref m13, .ref m14, .int 0, .ref m15, .ref m16, .ref m17])), (m2, .inl (cy 1, 1868, .inl (fun _ => 0))), (m3, .inl (cy 1, 1868, .inl (fun _ => 0))), (m4, .inl (cy 1, 5604, .inl (fun _ => 0))), (m5, .inl (cy 3, 3, .inl (fun _ => 0))), (m6, .inl (cy 1, 900, .inl (fun _ => 0))), (m7, .inl (cy 1, 1830, .inl (fun _ => 0))), (m8, .inl (cy 1, 1830, .inl (fun _ => 0))), (m9, .inl (cy 2, 2465, .inr (.inl (fun _ => 0)))), (m10, .inl (cy 1, 7201, .inl (fun _ => 0))), (m11, .inl (cy 1, 1830, .inl (fun _ => 0))), (m12, .inl (cy 1, 5, .inl (fun _ => 0))), (m13, .inl (cy 1, 6, .inl (fun _ => 0))), (m14, .inl (cy 1, 6, .inl (fun _ => 0))), (m15, .inl (cy 1, 4, .inl (upd (upd (upd (upd (fun _ => 0) 0 (-1)) 1 (-1)) 2 (-1)) 3 (-1)))), (m16, .inl (cy 1, 4, .inl (fun _ => 0))), (m17, .inl (cy 2, 160, .inr (.inl (fun _ => 0)))), (m1, .inl (cy 1, 1868, .inl (upd (upd (upd (fun _ => 0) 1 2) 2 20) 3 120))), (o0, .inl (cy 2, 1, .inr (.inl (fun _ => 0))))] H locs) (hl : lv_has ls 8 [(0, .ref b), (1, .ref q0), (2, .ref m0), (3, .ref o0), (4, .int 0)]) (kk : ∀ (H : Heap) (locs : List Loc) (ls : Array Slot), va_S A s.heap H locs → lv_has ls 8 [(0, .ref b), (4, .int 0)] → W p l e room_1 s m args below meth c H locs 600002 7302232 Q (F0 m 2461 ls [])) : W p l e room_1 s m args below meth c H locs 37 29845 Q (F0 m 2436 ls []) := by
  obtain ⟨y1, sx1⟩ : ∃ y, xs 1 = y := ⟨_, rfl⟩
  obtain ⟨y2, sx2⟩ : ∃ y, xs 2 = y := ⟨_, rfl⟩
  obtain ⟨y3, sx3⟩ : ∃ y, xs 3 = y := ⟨_, rfl⟩
  obtain ⟨y4, sx4⟩ : ∃ y, xs 4 = y := ⟨_, rfl⟩
  obtain ⟨y5, sx5⟩ : ∃ y, xs 5 = y := ⟨_, rfl⟩
  by_cases g1 : (y1).toInt < 0 ∨ 8 < (y1).toInt
  · exact s_L_36_0 b q0 q1 q2 q4 q5 q6 q10 m0 m1 m2 m3 m4 m5 m6 m7 m8 m9 m10 m11 m12 m13 m14 m15 m16 m17 o0 y1 g1 sx1 C hml hX hbl hbA (w.pick [0, 18, 24, 25, 35] rfl rfl) hl kk
  · by_cases g2 : y1 = 8
    · subst g2
      exact s_L_36_1 b q0 q1 q2 q4 q5 q6 q10 m0 m1 m2 m3 m4 m5 m6 m7 m8 m9 m10 m11 m12 m13 m14 m15 m16 m17 o0 sx1 C hml hX hbl hbA (w.pick [0, 18, 24, 25, 35] rfl rfl) hl kk
    · by_cases g3 : y1 = 7
      · subst g3
        exact s_L_36_2 b q0 q1 q2 q4 q5 q6 q10 q11 q12 q13 q14 q15 q16 q17 m0 m1 m2 m3 m4 m5 m6 m7 m8 m9 m10 m11 m12 m13 m14 m15 m16 m17 o0 sx1 C hml hX hbl hbA (w.pick [0, 10, 18, 24, 25, 35] rfl rfl) hl kk
      · by_cases g4 : y1 = 6
        · subst g4
          exact s_L_36_3 b q0 q1 q2 q4 q5 q6 q10 q11 q12 q13 q14 q15 q16 q17 m0 m1 m2 m3 m4 m5 m6 m7 m8 m9 m10 m11 m12 m13 m14 m15 m16 m17 o0 sx1 C hml hX hbl hbA (w.pick [0, 10, 18, 24, 25, 35] rfl rfl) hl kk
        · by_cases g5 : y1 = 5
          · subst g5
            exact s_L_36_4 b q0 q1 q2 q4 q5 q6 q10 q11 q12 q13 q14 q15 q16 q17 m0 m1 m2 m3 m4 m5 m6 m7 m8 m9 m10 m11 m12 m13 m14 m15 m16 m17 o0 sx1 C hml hX hbl hbA (w.pick [0, 10, 18, 24, 25, 35] rfl rfl) hl kk
          · by_cases g6 : y1 = 4
            · subst g6
              exact s_L_36_5 b q0 q1 q2 q4 q5 q6 q10 q11 q12 q13 q14 q15 q16 q17 m0 m1 m2 m3 m4 m5 m6 m7 m8 m9 m10 m11 m12 m13 m14 m15 m16 m17 o0 sx1 C hml hX hbl hbA (w.pick [0, 10, 18, 24, 25, 35] rfl rfl) hl kk
            · by_cases g7 : y1 = 3
              · subst g7
                exact s_L_36_6 b q0 q1 q2 q4 q5 q6 q10 q11 q12 q13 q14 q15 q16 q17 m0 m1 m2 m3 m4 m5 m6 m7 m8 m9 m10 m11 m12 m13 m14 m15 m16 m17 o0 sx1 C hml hX hbl hbA (w.pick [0, 10, 18, 24, 25, 35] rfl rfl) hl kk
              · by_cases g8 : y1 = 2
                · subst g8
                  exact s_L_36_7 b q0 q1 q2 q4 q5 q6 q10 q11 q12 q13 q14 q15 q16 q17 m0 m1 m2 m3 m4 m5 m6 m7 m8 m9 m10 m11 m12 m13 m14 m15 m16 m17 o0 sx1 C hml hX hbl hbA (w.pick [0, 10, 18, 24, 25, 35] rfl rfl) hl kk
                · by_cases g9 : y1 = 1
                  · subst g9
                    exact s_L_36_8 b q0 q1 q2 q4 q5 q6 q10 q11 q12 q13 q14 q15 q16 q17 m0 m1 m2 m3 m4 m5 m6 m7 m8 m9 m10 m11 m12 m13 m14 m15 m16 m17 o0 sx1 C hml hX hbl hbA (w.pick [0, 10, 18, 24, 25, 35] rfl rfl) hl kk
                  · by_cases g10 : y1 = 0
                    · subst g10
                      exact s_L_36_9 b q0 q1 q2 q4 q5 q6 q10 q11 q12 q13 q14 q15 q16 q17 m0 m1 m2 m3 m4 m5 m6 m7 m8 m9 m10 m11 m12 m13 m14 m15 m16 m17 o0 sx1 C hml hX hbl hbA (w.pick [0, 10, 18, 24, 25, 35] rfl rfl) hl kk
                    · exfalso
                      have h0 := (not_congr (fa_eq _ _)).mp g2
                      have h1 := (not_congr (fa_eq _ _)).mp g3
                      have h2 := (not_congr (fa_eq _ _)).mp g4
                      have h3 := (not_congr (fa_eq _ _)).mp g5
                      have h4 := (not_congr (fa_eq _ _)).mp g6
                      have h5 := (not_congr (fa_eq _ _)).mp g7
                      have h6 := (not_congr (fa_eq _ _)).mp g8
                      have h7 := (not_congr (fa_eq _ _)).mp g9
                      have h8 := (not_congr (fa_eq _ _)).mp g10
                      have e0 : (0 : Int32).toInt = 0 := (by decide)
                      have e1 : (1 : Int32).toInt = 1 := (by decide)
                      have e2 : (2 : Int32).toInt = 2 := (by decide)
                      have e3 : (3 : Int32).toInt = 3 := (by decide)
                      have e4 : (4 : Int32).toInt = 4 := (by decide)
                      have e5 : (5 : Int32).toInt = 5 := (by decide)
                      have e6 : (6 : Int32).toInt = 6 := (by decide)
                      have e7 : (7 : Int32).toInt = 7 := (by decide)
                      have e8 : (8 : Int32).toInt = 8 := (by decide)
                      omega
