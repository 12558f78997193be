/-! THE CLAIM OUT OF ONE WALK OF THE LAW'S BODY. Your part is whole_start (and what it stands on); all else here is the same for every law, but numbers. -/
def R_law : String := "TwoSlipsLaw"
def lw_P (b : Addr) (xs : List Int32) (args : Array Value) (s : State) : Prop := args = #[.ref b] ∧ s.IntsAt b xs ∧ xs.length ≤ 6 ∧ (Jvm.Cond.and given_1 narrow_1).before args s = true
def lw_Q (_ : Array Value) (s : State) (o : Outcome) (t : State) : Prop := o = .returned (some (.int 1)) ∧ Framed s o t [] 600002 7302232
def lw_Z (below : List Frame) (a : Array Value) (s : State) : State → Prop := fun t => ∃ o, t.status = .running ∧ Ended t below o ∧ lw_Q a s o t
/-- the law's own end, with 1 on the stack, nothing written that was there before, its room as the claim has it -/
theorem lw_ret {p : Program} {l : Launch} {e : Env} {s : State} {m : MethodId} {below : List Frame} {meth : Method} {c : Code} {b : Nat} (hx : p.tables.exec = Jvm.exec) (hb : c.code = code) (hr : meth.sig.returnType = ret) (hlocks : meth.locks = false) {pc : Nat} {H : Heap} {ls : Array Slot} (hdg : decode code pc = .ok (.ireturn, 1)) : W p l e room_1 s m #[Value.ref b] below meth c H [] 600002 7302232 (lw_Z below #[Value.ref b] s) (F0 m pc ls [.int 1]) := by
  intro T hT X
  obtain ⟨fs, hret, hrun, hended, hW, hframe⟩ := X.leave (v := some (.int 1)) (hlocks := hlocks) (fun h => by rw [hr] at h; cases h)
  have hmeth' : T.vm.method? m = some meth := X.method'
  refine ⟨T.setFrames fs, ?_, .returned (some (.int 1)), hrun, hended, rfl, ⟨_, rfl⟩, hW, hframe⟩
  jvm_step X.here [X.here.top, hx, hb, hdg, hmeth', hr, ret, narrow_b1]
  (try refine ⟨rfl, ?_⟩); (try refine ⟨rfl, ?_⟩)
  first | (intro acts; rw [hret _ acts rfl rfl rfl]) | rw [hret _ _ rfl rfl rfl]
  exact Steps.refl _
/-- what holds at the law's entry: the machine, the code, the tables' words (any of lw_tbl by 'hts w (by decide +kernel)'), the script of L ints xs at the cell b, what the Statement gives of the start (any of its parts by flat_of_before) -/
def lw_At (p : Program) (s : State) (m : MethodId) (meth : Method) (c : Code) (b L : Nat) (xs : Nat → Int32) : Prop :=
  p.tables.exec = Jvm.exec ∧ c.code = code ∧ meth.sig.returnType = ret ∧ c.maxLocals = 8 ∧ s.vm.findClass R_law = some m.cls ∧ (∀ w ∈ lw_tbl, w.before #[Value.ref b] s = true) ∧ va_X b L xs s s.heap ∧ b < s.heap.size ∧ meth.locks = false ∧ (Jvm.Cond.and given_1 narrow_1).before #[Value.ref b] s = true
theorem dL_law_2461 : decode cL_law 2461 = .ok (.iinc 4 6, 3) := by decide +kernel
theorem dL_law_2464 : decode cL_law 2464 = .ok (.goto (-2441), 3) := by decide +kernel
theorem dL_law_23 : decode cL_law 23 = .ok (.iload 4, 2) := by decide +kernel
theorem dL_law_25 : decode cL_law 25 = .ok (.aload_n 0, 1) := by decide +kernel
theorem dL_law_26 : decode cL_law 26 = .ok (.arraylength, 1) := by decide +kernel
theorem dL_law_27 : decode cL_law 27 = .ok (.bipush 6, 2) := by decide +kernel
theorem dL_law_29 : decode cL_law 29 = .ok (.isub, 1) := by decide +kernel
theorem dL_law_30 : decode cL_law 30 = .ok (.if_icmp .gt 2437, 3) := by decide +kernel
theorem dL_law_2467 : decode cL_law 2467 = .ok (.iconst 1, 1) := by decide +kernel
theorem dL_law_2468 : decode cL_law 2468 = .ok (.ireturn, 1) := by decide +kernel
theorem law_ret {p : Program} {l : Launch} {e : Env} {s : State} {m : MethodId} {below : List Frame} {meth : Method} {c : Code} {D : va_G} {cy : Nat → ClassId} {H : Heap} {locs : List Loc} {ls : Array Slot} {b : Nat}  {A : Nat → Prop} (C : Cx p s m #[Value.ref b] c cL_law RL D cy A) (hr : meth.sig.returnType = ret) (hlocks : meth.locks = false) (hS : va_S (fun q : Nat => s.heap.size ≤ q) s.heap H locs) : W p l e room_1 s m #[Value.ref b] below meth c H locs 600002 7302232 (lw_Z below #[Value.ref b] s) (F0 m 2467 ls []) := by
  refine lv_iconst (v := 1) C.1 C.2.1 dL_law_2467 (by decide) ?_
  refine va_forget (fun q hq => hS.2.2 q hq) ?_
  exact lw_ret C.1 C.2.1 hr hlocks dL_law_2468
theorem law_end {p : Program} {l : Launch} {e : Env} {s : State} {m : MethodId} {below : List Frame} {meth : Method} {c : Code} {D : va_G} {cy : Nat → ClassId} {H : Heap} {locs : List Loc} {ls : Array Slot} {b : Nat} {xs : Nat → Int32} (C : Cx p s m #[Value.ref b] c cL_law RL D cy (fun q : Nat => s.heap.size ≤ q)) (hX : va_X b 6 xs s s.heap) (hbl : b < s.heap.size) (hbA : ¬ (fun q : Nat => s.heap.size ≤ q) b) (hr : meth.sig.returnType = ret) (hlocks : meth.locks = false) (hS : va_S (fun q : Nat => s.heap.size ≤ q) s.heap H locs) (hl : lv_has ls 8 [(0, .ref b), (4, .int 0)]) : W p l e room_1 s m #[Value.ref b] below meth c H locs 600002 7302232 (lw_Z below #[Value.ref b] s) (F0 m 2461 ls []) := by
  refine lv_iinc (v := 6) (lv' := [(4, .int 6), (0, .ref b)]) C.1 C.2.1 dL_law_2461 hl (k := 1) rfl (by decide) (by decide) rfl (fun ls hl => ?_)
  refine lv_goto (tgt := 23) C.1 C.2.1 dL_law_2464 (by decide) ?_
  refine lv_iload C.1 C.2.1 dL_law_23 (lv_at hl 0 rfl) ?_
  refine lv_aload_n C.1 C.2.1 dL_law_25 rfl (lv_at hl 1 rfl) ?_
  refine va_slen C.1 C.2.1 hX hbl hbA hS dL_law_26 ?_
  refine r_top (g2 := F0 m 27 ls [.int 6, .int 6]) rfl ?_
  refine lv_bipush (v := 6) C.1 C.2.1 dL_law_27 (by decide) ?_
  refine r_isub C (v := 0) dL_law_29 (by decide) ?_
  refine b_icmp_gt_t C (tgt := 2467) dL_law_30 (by decide) (by decide) ?_
  exact law_ret C hr hlocks hS
theorem dL_law_33 : decode cL_law 33 = .ok (.aload_n 0, 1) := by decide +kernel
theorem dL_law_34 : decode cL_law 34 = .ok (.iload 4, 2) := by decide +kernel
theorem dL_law_36 : decode cL_law 36 = .ok (.iaload, 1) := by decide +kernel
theorem dL_law_37 : decode cL_law 37 = .ok (.bipush 63, 2) := by decide +kernel
theorem dL_law_39 : decode cL_law 39 = .ok (.iand, 1) := by decide +kernel
theorem dL_law_40 : decode cL_law 40 = .ok (.tableswitch 2421 0 36 #[164, 237, 293, 318, 386, 423, 491, 559, 615, 671, 739, 814, 827, 902, 977, 1033, 1120, 1188, 1268, 1324, 1392, 1448, 1516, 1596, 1676, 1768, 1836, 1892, 1905, 1973, 2029, 2097, 2157, 2268, 2324, 2360, 2396], 164) := by decide +kernel
set_option maxRecDepth 100000 in
set_option maxHeartbeats 4000000 in
theorem law_switch {p : Program} {l : Launch} {e : Env} {s : State} {m : MethodId} {args : Array Value} {below : List Frame} {meth : Method} {c : Code} {Q : State → Prop} {D : va_G} {cy : Nat → ClassId} {A : Nat → Prop} {H : Heap} {locs : List Loc} {ls : Array Slot} {xs : Nat → Int32} (b q0 q1 q2 q4 q5 q6 q10 q3 q7 q8 q9 q11 q12 q13 q14 q15 q16 q17 m0 m1 m2 m3 m4 m5 m6 m7 m8 m9 m10 m11 m12 m13 m14 m15 m16 m17 o0 : Nat) (hst : l.stackTraces = false) (C : Cx p s m args c cL_law RL D cy A) (hml : c.maxLocals = 8) (hX : va_X b 6 xs s s.heap) (hbl : b < s.heap.size) (hbA : ¬ A b) (w : Wd D A s.heap [(q0, .inr (11, [.ref q1, .int 0, .int 0, .int (-1), .ref q2, .ref q4, .ref q5, .ref q6, .ref q10, .null])), (q1, .inl (cy 0, 900, .inl (fun _ => 0))), (q2, .inr (5, [.ref q3, .int 0, .int 0, .int 0, .int 0, .int 0, .int 0, .null])), (q3, .inl (cy 0, 0, .inl (fun _ => 0))), (q4, .inl (cy 4, 5, .inr (.inr (.inr (.inr (va_up (fun _ => none) 0 (some q10))))))), (q5, .inl (cy 4, 3, .inr (.inr (.inr (.inr (fun _ => none)))))), (q6, .inr (10, [.ref q7, .ref q8, .ref q9])), (q7, .inl (cy 1, 4, .inl (upd (upd (upd (upd (fun _ => 0) 0 (-1)) 1 (-1)) 2 (-1)) 3 (-1)))), (q8, .inl (cy 1, 4, .inl (fun _ => 0))), (q9, .inl (cy 2, 160, .inr (.inl (fun _ => 0)))), (q10, .inr (9, [.int 0, .int 2, .int 20, .int 120, .int 0, .int 0, .int 0, .int 0, .ref q11, .int 0, .ref q12, .ref q13, .int 0, .ref q14, .ref q15, .ref q16, .ref q17])), (q11, .inl (cy 1, 6, .inl (fun _ => 0))), (q12, .inl (cy 1, 20, .inl (fun _ => 0))), (q13, .inl (cy 1, 20, .inl (fun _ => 0))), (q14, .inl (cy 1, 300, .inl (fun _ => 0))), (q15, .inl (cy 1, 300, .inl (fun _ => 0))), (q16, .inl (cy 1, 300, .inl (fun _ => 0))), (q17, .inl (cy 1, 300, .inl (fun _ => 0))), (m0, .inr (12, [.ref m1, .ref m2, .ref m3, .ref m4, .ref m5, .int 0, .ref m6, .int 0, .int 0, .int 0, .int 0, .int 0, .int 0, .int 0, .int 0, .int 0, .int 0, .int (-1), .ref m7, .ref m8, .int 0, .ref m9, .int 0, .ref m10, .ref m11, .ref m12, .ref m13, .ref m14, .int 0, .ref m15, .ref m16, .ref m17])), (m2, .inl (cy 1, 1868, .inl (fun _ => 0))), (m3, .inl (cy 1, 1868, .inl (fun _ => 0))), (m4, .inl (cy 1, 5604, .inl (fun _ => 0))), (m5, .inl (cy 3, 3, .inl (fun _ => 0))), (m6, .inl (cy 1, 900, .inl (fun _ => 0))), (m7, .inl (cy 1, 1830, .inl (fun _ => 0))), (m8, .inl (cy 1, 1830, .inl (fun _ => 0))), (m9, .inl (cy 2, 2465, .inr (.inl (fun _ => 0)))), (m10, .inl (cy 1, 7201, .inl (fun _ => 0))), (m11, .inl (cy 1, 1830, .inl (fun _ => 0))), (m12, .inl (cy 1, 5, .inl (fun _ => 0))), (m13, .inl (cy 1, 6, .inl (fun _ => 0))), (m14, .inl (cy 1, 6, .inl (fun _ => 0))), (m15, .inl (cy 1, 4, .inl (upd (upd (upd (upd (fun _ => 0) 0 (-1)) 1 (-1)) 2 (-1)) 3 (-1)))), (m16, .inl (cy 1, 4, .inl (fun _ => 0))), (m17, .inl (cy 2, 160, .inr (.inl (fun _ => 0)))), (m1, .inl (cy 1, 1868, .inl (upd (upd (upd (fun _ => 0) 1 2) 2 20) 3 120))), (o0, .inl (cy 2, 1, .inr (.inl (fun _ => 0))))] H locs) (hl : lv_has ls 8 [(0, .ref b), (1, .ref q0), (2, .ref m0), (3, .ref o0), (4, .int 0)]) (kk : ∀ (H : Heap) (locs : List Loc) (ls : Array Slot), va_S A s.heap H locs → lv_has ls 8 [(0, .ref b), (4, .int 0)] → W p l e room_1 s m args below meth c H locs 600002 7302232 Q (F0 m 2461 ls [])) : W p l e room_1 s m args below meth c H locs 37 29845 Q (F0 m 33 ls []) := by
  obtain ⟨y0, sx0⟩ : ∃ y, xs 0 = y := ⟨_, rfl⟩
  refine lv_aload_n C.1 C.2.1 dL_law_33 rfl (lv_at hl 0 rfl) ?_
  refine lv_iload C.1 C.2.1 dL_law_34 (lv_at hl 4 rfl) ?_
  refine r_sld C w hX hbl hbA (v := y0) (vinD (by decide)) sx0 dL_law_36 ?_
  refine lv_bipush (v := 63) C.1 C.2.1 dL_law_37 (by decide) ?_
  refine r_iand C (v := (y0 &&& 63)) dL_law_39 rfl ?_
  generalize (y0 &&& 63) = z
  by_cases hout : z.toInt < 0 ∨ 36 < z.toInt
  · refine lv_tableOut (tgt := 2461) C.1 C.2.1 dL_law_40 hout (by decide) ?_
    refine W.widen (k := 600002) (n := 7302232) (Nat.le_of_ble_eq_true rfl) (Nat.le_of_ble_eq_true rfl) ?_
    exact kk _ _ _ w.2.2 (lv_sub hl [0, 4] rfl)
  by_cases g0 : z = 0
  · subst g0
    refine lv_tableIn (tgt := 204) (off := 164) C.1 C.2.1 dL_law_40 (by decide) (by decide) (by decide) (by decide) ?_
    exact t_L_0 b q0 q1 q2 q4 q5 q6 q10 q3 q7 q8 q9 q11 q12 q13 q14 q15 q16 q17 m0 m1 m2 m3 m4 m5 m6 m7 m8 m9 m10 m11 m12 m13 m14 m15 m16 m17 o0 hst C hml hX hbl hbA w hl kk
  by_cases g1 : z = 1
  · subst g1
    refine lv_tableIn (tgt := 277) (off := 237) C.1 C.2.1 dL_law_40 (by decide) (by decide) (by decide) (by decide) ?_
    exact t_L_1 b q0 q1 q2 q4 q5 q6 q10 q3 q7 q8 q9 q11 q12 q13 q14 q15 q16 q17 m0 m1 m2 m3 m4 m5 m6 m7 m8 m9 m10 m11 m12 m13 m14 m15 m16 m17 o0 hst C hml hX hbl hbA w hl kk
  by_cases g2 : z = 2
  · subst g2
    refine lv_tableIn (tgt := 333) (off := 293) C.1 C.2.1 dL_law_40 (by decide) (by decide) (by decide) (by decide) ?_
    exact t_L_2 b q0 q1 q2 q4 q5 q6 q10 q3 q7 q8 q9 q11 q12 q13 q14 q15 q16 q17 m0 m1 m2 m3 m4 m5 m6 m7 m8 m9 m10 m11 m12 m13 m14 m15 m16 m17 o0 hst C hml hX hbl hbA w hl kk
  by_cases g3 : z = 3
  · subst g3
    refine lv_tableIn (tgt := 358) (off := 318) C.1 C.2.1 dL_law_40 (by decide) (by decide) (by decide) (by decide) ?_
    exact t_L_3 b q0 q1 q2 q4 q5 q6 q10 q3 q7 q8 q9 q11 q12 q13 q14 q15 q16 q17 m0 m1 m2 m3 m4 m5 m6 m7 m8 m9 m10 m11 m12 m13 m14 m15 m16 m17 o0 hst C hml hX hbl hbA w hl kk
  by_cases g4 : z = 4
  · subst g4
    refine lv_tableIn (tgt := 426) (off := 386) C.1 C.2.1 dL_law_40 (by decide) (by decide) (by decide) (by decide) ?_
    exact t_L_4 b q0 q1 q2 q4 q5 q6 q10 q3 q7 q8 q9 q11 q12 q13 q14 q15 q16 q17 m0 m1 m2 m3 m4 m5 m6 m7 m8 m9 m10 m11 m12 m13 m14 m15 m16 m17 o0 hst C hml hX hbl hbA w hl kk
  by_cases g5 : z = 5
  · subst g5
    refine lv_tableIn (tgt := 463) (off := 423) C.1 C.2.1 dL_law_40 (by decide) (by decide) (by decide) (by decide) ?_
    exact t_L_5 b q0 q1 q2 q4 q5 q6 q10 q3 q7 q8 q9 q11 q12 q13 q14 q15 q16 q17 m0 m1 m2 m3 m4 m5 m6 m7 m8 m9 m10 m11 m12 m13 m14 m15 m16 m17 o0 hst C hml hX hbl hbA w hl kk
  by_cases g6 : z = 6
  · subst g6
    refine lv_tableIn (tgt := 531) (off := 491) C.1 C.2.1 dL_law_40 (by decide) (by decide) (by decide) (by decide) ?_
    exact t_L_6 b q0 q1 q2 q4 q5 q6 q10 q3 q7 q8 q9 q11 q12 q13 q14 q15 q16 q17 m0 m1 m2 m3 m4 m5 m6 m7 m8 m9 m10 m11 m12 m13 m14 m15 m16 m17 o0 hst C hml hX hbl hbA w hl kk
  by_cases g7 : z = 7
  · subst g7
    refine lv_tableIn (tgt := 599) (off := 559) C.1 C.2.1 dL_law_40 (by decide) (by decide) (by decide) (by decide) ?_
    exact t_L_7 b q0 q1 q2 q4 q5 q6 q10 q3 q7 q8 q9 q11 q12 q13 q14 q15 q16 q17 m0 m1 m2 m3 m4 m5 m6 m7 m8 m9 m10 m11 m12 m13 m14 m15 m16 m17 o0 hst C hml hX hbl hbA w hl kk
  by_cases g8 : z = 8
  · subst g8
    refine lv_tableIn (tgt := 655) (off := 615) C.1 C.2.1 dL_law_40 (by decide) (by decide) (by decide) (by decide) ?_
    exact t_L_8 b q0 q1 q2 q4 q5 q6 q10 q3 q7 q8 q9 q11 q12 q13 q14 q15 q16 q17 m0 m1 m2 m3 m4 m5 m6 m7 m8 m9 m10 m11 m12 m13 m14 m15 m16 m17 o0 hst C hml hX hbl hbA w hl kk
  by_cases g9 : z = 9
  · subst g9
    refine lv_tableIn (tgt := 711) (off := 671) C.1 C.2.1 dL_law_40 (by decide) (by decide) (by decide) (by decide) ?_
    exact t_L_9 b q0 q1 q2 q4 q5 q6 q10 q3 q7 q8 q9 q11 q12 q13 q14 q15 q16 q17 m0 m1 m2 m3 m4 m5 m6 m7 m8 m9 m10 m11 m12 m13 m14 m15 m16 m17 o0 hst C hml hX hbl hbA w hl kk
  by_cases g10 : z = 10
  · subst g10
    refine lv_tableIn (tgt := 779) (off := 739) C.1 C.2.1 dL_law_40 (by decide) (by decide) (by decide) (by decide) ?_
    exact t_L_10 b q0 q1 q2 q4 q5 q6 q10 q3 q7 q8 q9 q11 q12 q13 q14 q15 q16 q17 m0 m1 m2 m3 m4 m5 m6 m7 m8 m9 m10 m11 m12 m13 m14 m15 m16 m17 o0 hst C hml hX hbl hbA w hl kk
  by_cases g11 : z = 11
  · subst g11
    refine lv_tableIn (tgt := 854) (off := 814) C.1 C.2.1 dL_law_40 (by decide) (by decide) (by decide) (by decide) ?_
    exact t_L_11 b q0 q1 q2 q4 q5 q6 q10 q3 q7 q8 q9 q11 q12 q13 q14 q15 q16 q17 m0 m1 m2 m3 m4 m5 m6 m7 m8 m9 m10 m11 m12 m13 m14 m15 m16 m17 o0 hst C hml hX hbl hbA w hl kk
  by_cases g12 : z = 12
  · subst g12
    refine lv_tableIn (tgt := 867) (off := 827) C.1 C.2.1 dL_law_40 (by decide) (by decide) (by decide) (by decide) ?_
    exact t_L_12 b q0 q1 q2 q4 q5 q6 q10 q3 q7 q8 q9 q11 q12 q13 q14 q15 q16 q17 m0 m1 m2 m3 m4 m5 m6 m7 m8 m9 m10 m11 m12 m13 m14 m15 m16 m17 o0 hst C hml hX hbl hbA w hl kk
  by_cases g13 : z = 13
  · subst g13
    refine lv_tableIn (tgt := 942) (off := 902) C.1 C.2.1 dL_law_40 (by decide) (by decide) (by decide) (by decide) ?_
    exact t_L_13 b q0 q1 q2 q4 q5 q6 q10 q3 q7 q8 q9 q11 q12 q13 q14 q15 q16 q17 m0 m1 m2 m3 m4 m5 m6 m7 m8 m9 m10 m11 m12 m13 m14 m15 m16 m17 o0 hst C hml hX hbl hbA w hl kk
  by_cases g14 : z = 14
  · subst g14
    refine lv_tableIn (tgt := 1017) (off := 977) C.1 C.2.1 dL_law_40 (by decide) (by decide) (by decide) (by decide) ?_
    exact t_L_14 b q0 q1 q2 q4 q5 q6 q10 q3 q7 q8 q9 q11 q12 q13 q14 q15 q16 q17 m0 m1 m2 m3 m4 m5 m6 m7 m8 m9 m10 m11 m12 m13 m14 m15 m16 m17 o0 hst C hml hX hbl hbA w hl kk
  by_cases g15 : z = 15
  · subst g15
    refine lv_tableIn (tgt := 1073) (off := 1033) C.1 C.2.1 dL_law_40 (by decide) (by decide) (by decide) (by decide) ?_
    exact t_L_15 b q0 q1 q2 q4 q5 q6 q10 q3 q7 q8 q9 q11 q12 q13 q14 q15 q16 q17 m0 m1 m2 m3 m4 m5 m6 m7 m8 m9 m10 m11 m12 m13 m14 m15 m16 m17 o0 hst C hml hX hbl hbA w hl kk
  by_cases g16 : z = 16
  · subst g16
    refine lv_tableIn (tgt := 1160) (off := 1120) C.1 C.2.1 dL_law_40 (by decide) (by decide) (by decide) (by decide) ?_
    exact t_L_16 b q0 q1 q2 q4 q5 q6 q10 q3 q7 q8 q9 q11 q12 q13 q14 q15 q16 q17 m0 m1 m2 m3 m4 m5 m6 m7 m8 m9 m10 m11 m12 m13 m14 m15 m16 m17 o0 hst C hml hX hbl hbA w hl kk
  by_cases g17 : z = 17
  · subst g17
    refine lv_tableIn (tgt := 1228) (off := 1188) C.1 C.2.1 dL_law_40 (by decide) (by decide) (by decide) (by decide) ?_
    exact t_L_17 b q0 q1 q2 q4 q5 q6 q10 q3 q7 q8 q9 q11 q12 q13 q14 q15 q16 q17 m0 m1 m2 m3 m4 m5 m6 m7 m8 m9 m10 m11 m12 m13 m14 m15 m16 m17 o0 hst C hml hX hbl hbA w hl kk
  by_cases g18 : z = 18
  · subst g18
    refine lv_tableIn (tgt := 1308) (off := 1268) C.1 C.2.1 dL_law_40 (by decide) (by decide) (by decide) (by decide) ?_
    exact t_L_18 b q0 q1 q2 q4 q5 q6 q10 q3 q7 q8 q9 q11 q12 q13 q14 q15 q16 q17 m0 m1 m2 m3 m4 m5 m6 m7 m8 m9 m10 m11 m12 m13 m14 m15 m16 m17 o0 hst C hml hX hbl hbA w hl kk
  by_cases g19 : z = 19
  · subst g19
    refine lv_tableIn (tgt := 1364) (off := 1324) C.1 C.2.1 dL_law_40 (by decide) (by decide) (by decide) (by decide) ?_
    exact t_L_19 b q0 q1 q2 q4 q5 q6 q10 q3 q7 q8 q9 q11 q12 q13 q14 q15 q16 q17 m0 m1 m2 m3 m4 m5 m6 m7 m8 m9 m10 m11 m12 m13 m14 m15 m16 m17 o0 hst C hml hX hbl hbA w hl kk
  by_cases g20 : z = 20
  · subst g20
    refine lv_tableIn (tgt := 1432) (off := 1392) C.1 C.2.1 dL_law_40 (by decide) (by decide) (by decide) (by decide) ?_
    exact t_L_20 b q0 q1 q2 q4 q5 q6 q10 q3 q7 q8 q9 q11 q12 q13 q14 q15 q16 q17 m0 m1 m2 m3 m4 m5 m6 m7 m8 m9 m10 m11 m12 m13 m14 m15 m16 m17 o0 hst C hml hX hbl hbA w hl kk
  by_cases g21 : z = 21
  · subst g21
    refine lv_tableIn (tgt := 1488) (off := 1448) C.1 C.2.1 dL_law_40 (by decide) (by decide) (by decide) (by decide) ?_
    exact t_L_21 b q0 q1 q2 q4 q5 q6 q10 q3 q7 q8 q9 q11 q12 q13 q14 q15 q16 q17 m0 m1 m2 m3 m4 m5 m6 m7 m8 m9 m10 m11 m12 m13 m14 m15 m16 m17 o0 hst C hml hX hbl hbA w hl kk
  by_cases g22 : z = 22
  · subst g22
    refine lv_tableIn (tgt := 1556) (off := 1516) C.1 C.2.1 dL_law_40 (by decide) (by decide) (by decide) (by decide) ?_
    exact t_L_22 b q0 q1 q2 q4 q5 q6 q10 q3 q7 q8 q9 q11 q12 q13 q14 q15 q16 q17 m0 m1 m2 m3 m4 m5 m6 m7 m8 m9 m10 m11 m12 m13 m14 m15 m16 m17 o0 hst C hml hX hbl hbA w hl kk
  by_cases g23 : z = 23
  · subst g23
    refine lv_tableIn (tgt := 1636) (off := 1596) C.1 C.2.1 dL_law_40 (by decide) (by decide) (by decide) (by decide) ?_
    exact t_L_23 b q0 q1 q2 q4 q5 q6 q10 q3 q7 q8 q9 q11 q12 q13 q14 q15 q16 q17 m0 m1 m2 m3 m4 m5 m6 m7 m8 m9 m10 m11 m12 m13 m14 m15 m16 m17 o0 hst C hml hX hbl hbA w hl kk
  by_cases g24 : z = 24
  · subst g24
    refine lv_tableIn (tgt := 1716) (off := 1676) C.1 C.2.1 dL_law_40 (by decide) (by decide) (by decide) (by decide) ?_
    exact t_L_24 b q0 q1 q2 q4 q5 q6 q10 q3 q7 q8 q9 q11 q12 q13 q14 q15 q16 q17 m0 m1 m2 m3 m4 m5 m6 m7 m8 m9 m10 m11 m12 m13 m14 m15 m16 m17 o0 hst C hml hX hbl hbA w hl kk
  by_cases g25 : z = 25
  · subst g25
    refine lv_tableIn (tgt := 1808) (off := 1768) C.1 C.2.1 dL_law_40 (by decide) (by decide) (by decide) (by decide) ?_
    exact t_L_25 b q0 q1 q2 q4 q5 q6 q10 q3 q7 q8 q9 q11 q12 q13 q14 q15 q16 q17 m0 m1 m2 m3 m4 m5 m6 m7 m8 m9 m10 m11 m12 m13 m14 m15 m16 m17 o0 hst C hml hX hbl hbA w hl kk
  by_cases g26 : z = 26
  · subst g26
    refine lv_tableIn (tgt := 1876) (off := 1836) C.1 C.2.1 dL_law_40 (by decide) (by decide) (by decide) (by decide) ?_
    exact t_L_26 b q0 q1 q2 q4 q5 q6 q10 q3 q7 q8 q9 q11 q12 q13 q14 q15 q16 q17 m0 m1 m2 m3 m4 m5 m6 m7 m8 m9 m10 m11 m12 m13 m14 m15 m16 m17 o0 hst C hml hX hbl hbA w hl kk
  by_cases g27 : z = 27
  · subst g27
    refine lv_tableIn (tgt := 1932) (off := 1892) C.1 C.2.1 dL_law_40 (by decide) (by decide) (by decide) (by decide) ?_
    exact t_L_27 b q0 q1 q2 q4 q5 q6 q10 q3 q7 q8 q9 q11 q12 q13 q14 q15 q16 q17 m0 m1 m2 m3 m4 m5 m6 m7 m8 m9 m10 m11 m12 m13 m14 m15 m16 m17 o0 hst C hml hX hbl hbA w hl kk
  by_cases g28 : z = 28
  · subst g28
    refine lv_tableIn (tgt := 1945) (off := 1905) C.1 C.2.1 dL_law_40 (by decide) (by decide) (by decide) (by decide) ?_
    exact t_L_28 b q0 q1 q2 q4 q5 q6 q10 q3 q7 q8 q9 q11 q12 q13 q14 q15 q16 q17 m0 m1 m2 m3 m4 m5 m6 m7 m8 m9 m10 m11 m12 m13 m14 m15 m16 m17 o0 hst C hml hX hbl hbA w hl kk
  by_cases g29 : z = 29
  · subst g29
    refine lv_tableIn (tgt := 2013) (off := 1973) C.1 C.2.1 dL_law_40 (by decide) (by decide) (by decide) (by decide) ?_
    exact t_L_29 b q0 q1 q2 q4 q5 q6 q10 q3 q7 q8 q9 q11 q12 q13 q14 q15 q16 q17 m0 m1 m2 m3 m4 m5 m6 m7 m8 m9 m10 m11 m12 m13 m14 m15 m16 m17 o0 hst C hml hX hbl hbA w hl kk
  by_cases g30 : z = 30
  · subst g30
    refine lv_tableIn (tgt := 2069) (off := 2029) C.1 C.2.1 dL_law_40 (by decide) (by decide) (by decide) (by decide) ?_
    exact t_L_30 b q0 q1 q2 q4 q5 q6 q10 q3 q7 q8 q9 q11 q12 q13 q14 q15 q16 q17 m0 m1 m2 m3 m4 m5 m6 m7 m8 m9 m10 m11 m12 m13 m14 m15 m16 m17 o0 hst C hml hX hbl hbA w hl kk
  by_cases g31 : z = 31
  · subst g31
    refine lv_tableIn (tgt := 2137) (off := 2097) C.1 C.2.1 dL_law_40 (by decide) (by decide) (by decide) (by decide) ?_
    exact t_L_31 b q0 q1 q2 q4 q5 q6 q10 q3 q7 q8 q9 q11 q12 q13 q14 q15 q16 q17 m0 m1 m2 m3 m4 m5 m6 m7 m8 m9 m10 m11 m12 m13 m14 m15 m16 m17 o0 hst C hml hX hbl hbA w hl kk
  by_cases g32 : z = 32
  · subst g32
    refine lv_tableIn (tgt := 2197) (off := 2157) C.1 C.2.1 dL_law_40 (by decide) (by decide) (by decide) (by decide) ?_
    exact t_L_32 b q0 q1 q2 q4 q5 q6 q10 q3 q7 q8 q9 q11 q12 q13 q14 q15 q16 q17 m0 m1 m2 m3 m4 m5 m6 m7 m8 m9 m10 m11 m12 m13 m14 m15 m16 m17 o0 hst C hml hX hbl hbA w hl kk
  by_cases g33 : z = 33
  · subst g33
    refine lv_tableIn (tgt := 2308) (off := 2268) C.1 C.2.1 dL_law_40 (by decide) (by decide) (by decide) (by decide) ?_
    exact t_L_33 b q0 q1 q2 q4 q5 q6 q10 q3 q7 q8 q9 q11 q12 q13 q14 q15 q16 q17 m0 m1 m2 m3 m4 m5 m6 m7 m8 m9 m10 m11 m12 m13 m14 m15 m16 m17 o0 hst C hml hX hbl hbA w hl kk
  by_cases g34 : z = 34
  · subst g34
    refine lv_tableIn (tgt := 2364) (off := 2324) C.1 C.2.1 dL_law_40 (by decide) (by decide) (by decide) (by decide) ?_
    exact t_L_34 b q0 q1 q2 q4 q5 q6 q10 q3 q7 q8 q9 q11 q12 q13 q14 q15 q16 q17 m0 m1 m2 m3 m4 m5 m6 m7 m8 m9 m10 m11 m12 m13 m14 m15 m16 m17 o0 hst C hml hX hbl hbA w hl kk
  by_cases g35 : z = 35
  · subst g35
    refine lv_tableIn (tgt := 2400) (off := 2360) C.1 C.2.1 dL_law_40 (by decide) (by decide) (by decide) (by decide) ?_
    exact t_L_35 b q0 q1 q2 q4 q5 q6 q10 q3 q7 q8 q9 q11 q12 q13 q14 q15 q16 q17 m0 m1 m2 m3 m4 m5 m6 m7 m8 m9 m10 m11 m12 m13 m14 m15 m16 m17 o0 hst C hml hX hbl hbA w hl kk
  by_cases g36 : z = 36
  · subst g36
    refine lv_tableIn (tgt := 2436) (off := 2396) C.1 C.2.1 dL_law_40 (by decide) (by decide) (by decide) (by decide) ?_
    exact t_L_36 b q0 q1 q2 q4 q5 q6 q10 q3 q7 q8 q9 q11 q12 q13 q14 q15 q16 q17 m0 m1 m2 m3 m4 m5 m6 m7 m8 m9 m10 m11 m12 m13 m14 m15 m16 m17 o0 hst C hml hX hbl hbA w hl kk
  exfalso
  have h0 : ¬ z.toInt = 0 := fun h => g0 ((fa_eq _ _).mpr (h.trans (by decide)))
  have h1 : ¬ z.toInt = 1 := fun h => g1 ((fa_eq _ _).mpr (h.trans (by decide)))
  have h2 : ¬ z.toInt = 2 := fun h => g2 ((fa_eq _ _).mpr (h.trans (by decide)))
  have h3 : ¬ z.toInt = 3 := fun h => g3 ((fa_eq _ _).mpr (h.trans (by decide)))
  have h4 : ¬ z.toInt = 4 := fun h => g4 ((fa_eq _ _).mpr (h.trans (by decide)))
  have h5 : ¬ z.toInt = 5 := fun h => g5 ((fa_eq _ _).mpr (h.trans (by decide)))
  have h6 : ¬ z.toInt = 6 := fun h => g6 ((fa_eq _ _).mpr (h.trans (by decide)))
  have h7 : ¬ z.toInt = 7 := fun h => g7 ((fa_eq _ _).mpr (h.trans (by decide)))
  have h8 : ¬ z.toInt = 8 := fun h => g8 ((fa_eq _ _).mpr (h.trans (by decide)))
  have h9 : ¬ z.toInt = 9 := fun h => g9 ((fa_eq _ _).mpr (h.trans (by decide)))
  have h10 : ¬ z.toInt = 10 := fun h => g10 ((fa_eq _ _).mpr (h.trans (by decide)))
  have h11 : ¬ z.toInt = 11 := fun h => g11 ((fa_eq _ _).mpr (h.trans (by decide)))
  have h12 : ¬ z.toInt = 12 := fun h => g12 ((fa_eq _ _).mpr (h.trans (by decide)))
  have h13 : ¬ z.toInt = 13 := fun h => g13 ((fa_eq _ _).mpr (h.trans (by decide)))
  have h14 : ¬ z.toInt = 14 := fun h => g14 ((fa_eq _ _).mpr (h.trans (by decide)))
  have h15 : ¬ z.toInt = 15 := fun h => g15 ((fa_eq _ _).mpr (h.trans (by decide)))
  have h16 : ¬ z.toInt = 16 := fun h => g16 ((fa_eq _ _).mpr (h.trans (by decide)))
  have h17 : ¬ z.toInt = 17 := fun h => g17 ((fa_eq _ _).mpr (h.trans (by decide)))
  have h18 : ¬ z.toInt = 18 := fun h => g18 ((fa_eq _ _).mpr (h.trans (by decide)))
  have h19 : ¬ z.toInt = 19 := fun h => g19 ((fa_eq _ _).mpr (h.trans (by decide)))
  have h20 : ¬ z.toInt = 20 := fun h => g20 ((fa_eq _ _).mpr (h.trans (by decide)))
  have h21 : ¬ z.toInt = 21 := fun h => g21 ((fa_eq _ _).mpr (h.trans (by decide)))
  have h22 : ¬ z.toInt = 22 := fun h => g22 ((fa_eq _ _).mpr (h.trans (by decide)))
  have h23 : ¬ z.toInt = 23 := fun h => g23 ((fa_eq _ _).mpr (h.trans (by decide)))
  have h24 : ¬ z.toInt = 24 := fun h => g24 ((fa_eq _ _).mpr (h.trans (by decide)))
  have h25 : ¬ z.toInt = 25 := fun h => g25 ((fa_eq _ _).mpr (h.trans (by decide)))
  have h26 : ¬ z.toInt = 26 := fun h => g26 ((fa_eq _ _).mpr (h.trans (by decide)))
  have h27 : ¬ z.toInt = 27 := fun h => g27 ((fa_eq _ _).mpr (h.trans (by decide)))
  have h28 : ¬ z.toInt = 28 := fun h => g28 ((fa_eq _ _).mpr (h.trans (by decide)))
  have h29 : ¬ z.toInt = 29 := fun h => g29 ((fa_eq _ _).mpr (h.trans (by decide)))
  have h30 : ¬ z.toInt = 30 := fun h => g30 ((fa_eq _ _).mpr (h.trans (by decide)))
  have h31 : ¬ z.toInt = 31 := fun h => g31 ((fa_eq _ _).mpr (h.trans (by decide)))
  have h32 : ¬ z.toInt = 32 := fun h => g32 ((fa_eq _ _).mpr (h.trans (by decide)))
  have h33 : ¬ z.toInt = 33 := fun h => g33 ((fa_eq _ _).mpr (h.trans (by decide)))
  have h34 : ¬ z.toInt = 34 := fun h => g34 ((fa_eq _ _).mpr (h.trans (by decide)))
  have h35 : ¬ z.toInt = 35 := fun h => g35 ((fa_eq _ _).mpr (h.trans (by decide)))
  have h36 : ¬ z.toInt = 36 := fun h => g36 ((fa_eq _ _).mpr (h.trans (by decide)))
  omega
theorem dL_law_0 : decode cL_law 0 = .ok (.new 8, 3) := by decide +kernel
theorem cl_RL_8 : Cond.classLink RL 8 RX11 ∈ gw := gw_mem (by decide +kernel) (by decide +kernel)
theorem in_11 : Cond.instantiable RX11 10 ∈ gw := gw_mem (by decide +kernel) (by decide +kernel)
theorem it_11 : Cond.initialized RX11 ∈ gw := gw_mem (by decide +kernel) (by decide +kernel)
theorem dL_law_3 : decode cL_law 3 = .ok (.dup, 1) := by decide +kernel
theorem dL_law_4 : decode cL_law 4 = .ok (.invokespecial 119, 3) := by decide +kernel
theorem fi_RL_119 : FI RL 119 yX11_init cX11_init 1 0 := ⟨⟨gw_mem (by decide +kernel) (by decide +kernel), gw_mem (by decide +kernel) (by decide +kernel), gw_mem (by decide +kernel) (by decide +kernel), gw_mem (by decide +kernel) (by decide +kernel)⟩, ⟨by decide +kernel, by decide +kernel, by decide +kernel⟩, rfl⟩
theorem dL_law_7 : decode cL_law 7 = .ok (.astore_n 1, 1) := by decide +kernel
theorem dL_law_8 : decode cL_law 8 = .ok (.new 120, 3) := by decide +kernel
theorem cl_RL_120 : Cond.classLink RL 120 RX12 ∈ gw := gw_mem (by decide +kernel) (by decide +kernel)
theorem in_12 : Cond.instantiable RX12 32 ∈ gw := gw_mem (by decide +kernel) (by decide +kernel)
theorem it_12 : Cond.initialized RX12 ∈ gw := gw_mem (by decide +kernel) (by decide +kernel)
theorem dL_law_11 : decode cL_law 11 = .ok (.dup, 1) := by decide +kernel
theorem dL_law_12 : decode cL_law 12 = .ok (.invokespecial 122, 3) := by decide +kernel
theorem fi_RL_122 : FI RL 122 yX12_init cX12_init 1 0 := ⟨⟨gw_mem (by decide +kernel) (by decide +kernel), gw_mem (by decide +kernel) (by decide +kernel), gw_mem (by decide +kernel) (by decide +kernel), gw_mem (by decide +kernel) (by decide +kernel)⟩, ⟨by decide +kernel, by decide +kernel, by decide +kernel⟩, rfl⟩
theorem dL_law_15 : decode cL_law 15 = .ok (.astore_n 2, 1) := by decide +kernel
theorem dL_law_16 : decode cL_law 16 = .ok (.iconst 1, 1) := by decide +kernel
theorem dL_law_17 : decode cL_law 17 = .ok (.newarray .long, 2) := by decide +kernel
theorem dL_law_19 : decode cL_law 19 = .ok (.astore_n 3, 1) := by decide +kernel
theorem dL_law_20 : decode cL_law 20 = .ok (.iconst 0, 1) := by decide +kernel
theorem dL_law_21 : decode cL_law 21 = .ok (.istore 4, 2) := by decide +kernel
set_option maxRecDepth 100000 in
set_option maxHeartbeats 4000000 in
theorem law_start {p : Program} {l : Launch} {e : Env} {s : State} {m : MethodId} {below : List Frame} {meth : Method} {c : Code} {D : va_G} {cy : Nat → ClassId} {b L : Nat} {xs : Nat → Int32} (hst : l.stackTraces = false) (hL : L ≤ 6) (C : Cx p s m #[Value.ref b] c cL_law RL D cy (fun q : Nat => s.heap.size ≤ q)) (hml : c.maxLocals = 8) (hX : va_X b L xs s s.heap) (hbl : b < s.heap.size) (hbA : ¬ (fun q : Nat => s.heap.size ≤ q) b) (hr : meth.sig.returnType = ret) (hlocks : meth.locks = false) : W p l e room_1 s m #[Value.ref b] below meth c s.heap [] 0 0 (lw_Z below #[Value.ref b] s) (entryFrame m ([Value.ref b] : List Value).toArray 8) := by
  have w : Wd D (fun q : Nat => s.heap.size ≤ q) s.heap [] s.heap [] := ⟨fun k q h => by simp at h, ⟨fun i j p q h => by simp at h, fun k q h => by simp at h⟩, va_S.rf⟩
  have hl := lv_entry ([.ref b]) (n := 8) (Nat.le_of_ble_eq_true rfl)
  rw [lg_entry_eq]
  generalize (lg_sl ([.ref b]) ++ List.replicate (8 - (lg_sl ([.ref b])).length) Slot.unset).toArray = ls at hl ⊢
  have hl : lv_has ls 8 [(0, .ref b)] := hl
  refine r_new C w (ci := 11) rfl cl_RL_8 in_11 it_11 tyX11 tyX11_ok [.null, .int 0, .int 0, .int 0, .null, .null, .null, .null, .null, .null] (by decide +kernel) 1 10 rfl rfl ⟨Nat.le_of_ble_eq_true rfl, Nat.le_of_ble_eq_true rfl⟩ dL_law_0 (fun n1 H w => ?_)
  have w : Wd D (fun q : Nat => s.heap.size ≤ q) s.heap [(n1, .inr (11, [.null, .int 0, .int 0, .int 0, .null, .null, .null, .null, .null, .null]))] _ _ := w
  refine lv_dup C.1 C.2.1 dL_law_3 rfl ?_
  refine r_callI C w fi_RL_119 (c_X11_init_0 l D cy n1) (hl.1.trans hml.symm) [0] [] (wr := []) ⟨rfl, rfl, rfl, rfl, by decide⟩ rfl rfl ⟨Nat.le_of_ble_eq_true rfl, Nat.le_of_ble_eq_true rfl, Nat.le_of_ble_eq_true rfl⟩ 18 2360 ⟨rfl, rfl, Nat.le_of_ble_eq_true rfl, Nat.le_of_ble_eq_true rfl⟩ dL_law_4 (fun u H locs hp w => ?_)
  obtain ⟨n2, n3, n4, n5, n6, n7, n8, n9, n10, n11, n12, n13, n14, n15, n16, n17, n18⟩ := u
  have w : Wd D (fun q : Nat => s.heap.size ≤ q) s.heap [(n1, .inr (11, [.ref n2, .int 0, .int 0, .int (-1), .ref n3, .ref n5, .ref n6, .ref n7, .ref n11, .null])), (n2, .inl (cy 0, 900, .inl (fun _ => 0))), (n3, .inr (5, [.ref n4, .int 0, .int 0, .int 0, .int 0, .int 0, .int 0, .null])), (n4, .inl (cy 0, 0, .inl (fun _ => 0))), (n5, .inl (cy 4, 5, .inr (.inr (.inr (.inr (va_up (fun _ => none) 0 (some n11))))))), (n6, .inl (cy 4, 3, .inr (.inr (.inr (.inr (fun _ => none)))))), (n7, .inr (10, [.ref n8, .ref n9, .ref n10])), (n8, .inl (cy 1, 4, .inl (upd (upd (upd (upd (fun _ => 0) 0 (-1)) 1 (-1)) 2 (-1)) 3 (-1)))), (n9, .inl (cy 1, 4, .inl (fun _ => 0))), (n10, .inl (cy 2, 160, .inr (.inl (fun _ => 0)))), (n11, .inr (9, [.int 0, .int 2, .int 20, .int 120, .int 0, .int 0, .int 0, .int 0, .ref n12, .int 0, .ref n13, .ref n14, .int 0, .ref n15, .ref n16, .ref n17, .ref n18])), (n12, .inl (cy 1, 6, .inl (fun _ => 0))), (n13, .inl (cy 1, 20, .inl (fun _ => 0))), (n14, .inl (cy 1, 20, .inl (fun _ => 0))), (n15, .inl (cy 1, 300, .inl (fun _ => 0))), (n16, .inl (cy 1, 300, .inl (fun _ => 0))), (n17, .inl (cy 1, 300, .inl (fun _ => 0))), (n18, .inl (cy 1, 300, .inl (fun _ => 0)))] _ _ := w
  refine r_top (g2 := F0 m 7 ls [.ref n1]) rfl ?_
  refine lv_astore_n (lv' := [(1, .ref n1), (0, .ref b)]) C.1 C.2.1 dL_law_7 rfl hl (by decide) rfl (fun ls hl => ?_)
  refine r_new C w (ci := 12) rfl cl_RL_120 in_12 it_12 tyX12 tyX12_ok [.null, .null, .null, .null, .null, .int 0, .null, .int 0, .int 0, .int 0, .int 0, .int 0, .int 0, .int 0, .int 0, .int 0, .int 0, .int 0, .null, .null, .int 0, .null, .int 0, .null, .null, .null, .null, .null, .int 0, .null, .null, .null] (by decide +kernel) 19 2392 rfl rfl ⟨Nat.le_of_ble_eq_true rfl, Nat.le_of_ble_eq_true rfl⟩ dL_law_8 (fun n19 H w => ?_)
  have w : Wd D (fun q : Nat => s.heap.size ≤ q) s.heap [(n1, .inr (11, [.ref n2, .int 0, .int 0, .int (-1), .ref n3, .ref n5, .ref n6, .ref n7, .ref n11, .null])), (n2, .inl (cy 0, 900, .inl (fun _ => 0))), (n3, .inr (5, [.ref n4, .int 0, .int 0, .int 0, .int 0, .int 0, .int 0, .null])), (n4, .inl (cy 0, 0, .inl (fun _ => 0))), (n5, .inl (cy 4, 5, .inr (.inr (.inr (.inr (va_up (fun _ => none) 0 (some n11))))))), (n6, .inl (cy 4, 3, .inr (.inr (.inr (.inr (fun _ => none)))))), (n7, .inr (10, [.ref n8, .ref n9, .ref n10])), (n8, .inl (cy 1, 4, .inl (upd (upd (upd (upd (fun _ => 0) 0 (-1)) 1 (-1)) 2 (-1)) 3 (-1)))), (n9, .inl (cy 1, 4, .inl (fun _ => 0))), (n10, .inl (cy 2, 160, .inr (.inl (fun _ => 0)))), (n11, .inr (9, [.int 0, .int 2, .int 20, .int 120, .int 0, .int 0, .int 0, .int 0, .ref n12, .int 0, .ref n13, .ref n14, .int 0, .ref n15, .ref n16, .ref n17, .ref n18])), (n12, .inl (cy 1, 6, .inl (fun _ => 0))), (n13, .inl (cy 1, 20, .inl (fun _ => 0))), (n14, .inl (cy 1, 20, .inl (fun _ => 0))), (n15, .inl (cy 1, 300, .inl (fun _ => 0))), (n16, .inl (cy 1, 300, .inl (fun _ => 0))), (n17, .inl (cy 1, 300, .inl (fun _ => 0))), (n18, .inl (cy 1, 300, .inl (fun _ => 0))), (n19, .inr (12, [.null, .null, .null, .null, .null, .int 0, .null, .int 0, .int 0, .int 0, .int 0, .int 0, .int 0, .int 0, .int 0, .int 0, .int 0, .int 0, .null, .null, .int 0, .null, .int 0, .null, .null, .null, .null, .null, .int 0, .null, .null, .null]))] _ _ := w
  refine lv_dup C.1 C.2.1 dL_law_11 rfl ?_
  refine r_callI C w fi_RL_122 (c_X12_init_0 l D cy n19) (hl.1.trans hml.symm) [18] [0, 1, 2, 3, 4, 5, 6, 7, 8, 9, 10, 11, 12, 13, 14, 15, 16, 17] (wr := [(n1, .inr (11, [.ref n2, .int 0, .int 0, .int (-1), .ref n3, .ref n5, .ref n6, .ref n7, .ref n11, .null])), (n2, .inl (cy 0, 900, .inl (fun _ => 0))), (n3, .inr (5, [.ref n4, .int 0, .int 0, .int 0, .int 0, .int 0, .int 0, .null])), (n4, .inl (cy 0, 0, .inl (fun _ => 0))), (n5, .inl (cy 4, 5, .inr (.inr (.inr (.inr (va_up (fun _ => none) 0 (some n11))))))), (n6, .inl (cy 4, 3, .inr (.inr (.inr (.inr (fun _ => none)))))), (n7, .inr (10, [.ref n8, .ref n9, .ref n10])), (n8, .inl (cy 1, 4, .inl (upd (upd (upd (upd (fun _ => 0) 0 (-1)) 1 (-1)) 2 (-1)) 3 (-1)))), (n9, .inl (cy 1, 4, .inl (fun _ => 0))), (n10, .inl (cy 2, 160, .inr (.inl (fun _ => 0)))), (n11, .inr (9, [.int 0, .int 2, .int 20, .int 120, .int 0, .int 0, .int 0, .int 0, .ref n12, .int 0, .ref n13, .ref n14, .int 0, .ref n15, .ref n16, .ref n17, .ref n18])), (n12, .inl (cy 1, 6, .inl (fun _ => 0))), (n13, .inl (cy 1, 20, .inl (fun _ => 0))), (n14, .inl (cy 1, 20, .inl (fun _ => 0))), (n15, .inl (cy 1, 300, .inl (fun _ => 0))), (n16, .inl (cy 1, 300, .inl (fun _ => 0))), (n17, .inl (cy 1, 300, .inl (fun _ => 0))), (n18, .inl (cy 1, 300, .inl (fun _ => 0)))]) ⟨rfl, rfl, rfl, rfl, by decide⟩ rfl rfl ⟨Nat.le_of_ble_eq_true rfl, Nat.le_of_ble_eq_true rfl, Nat.le_of_ble_eq_true rfl⟩ 36 29844 ⟨rfl, rfl, Nat.le_of_ble_eq_true rfl, Nat.le_of_ble_eq_true rfl⟩ dL_law_12 (fun u H locs hp w => ?_)
  obtain ⟨n20, n21, n22, n23, n24, n25, n26, n27, n28, n29, n30, n31, n32, n33, n34, n35, n36⟩ := u
  have w : Wd D (fun q : Nat => s.heap.size ≤ q) s.heap [(n1, .inr (11, [.ref n2, .int 0, .int 0, .int (-1), .ref n3, .ref n5, .ref n6, .ref n7, .ref n11, .null])), (n2, .inl (cy 0, 900, .inl (fun _ => 0))), (n3, .inr (5, [.ref n4, .int 0, .int 0, .int 0, .int 0, .int 0, .int 0, .null])), (n4, .inl (cy 0, 0, .inl (fun _ => 0))), (n5, .inl (cy 4, 5, .inr (.inr (.inr (.inr (va_up (fun _ => none) 0 (some n11))))))), (n6, .inl (cy 4, 3, .inr (.inr (.inr (.inr (fun _ => none)))))), (n7, .inr (10, [.ref n8, .ref n9, .ref n10])), (n8, .inl (cy 1, 4, .inl (upd (upd (upd (upd (fun _ => 0) 0 (-1)) 1 (-1)) 2 (-1)) 3 (-1)))), (n9, .inl (cy 1, 4, .inl (fun _ => 0))), (n10, .inl (cy 2, 160, .inr (.inl (fun _ => 0)))), (n11, .inr (9, [.int 0, .int 2, .int 20, .int 120, .int 0, .int 0, .int 0, .int 0, .ref n12, .int 0, .ref n13, .ref n14, .int 0, .ref n15, .ref n16, .ref n17, .ref n18])), (n12, .inl (cy 1, 6, .inl (fun _ => 0))), (n13, .inl (cy 1, 20, .inl (fun _ => 0))), (n14, .inl (cy 1, 20, .inl (fun _ => 0))), (n15, .inl (cy 1, 300, .inl (fun _ => 0))), (n16, .inl (cy 1, 300, .inl (fun _ => 0))), (n17, .inl (cy 1, 300, .inl (fun _ => 0))), (n18, .inl (cy 1, 300, .inl (fun _ => 0))), (n19, .inr (12, [.ref n20, .ref n21, .ref n22, .ref n23, .ref n24, .int 0, .ref n25, .int 0, .int 0, .int 0, .int 0, .int 0, .int 0, .int 0, .int 0, .int 0, .int 0, .int (-1), .ref n26, .ref n27, .int 0, .ref n28, .int 0, .ref n29, .ref n30, .ref n31, .ref n32, .ref n33, .int 0, .ref n34, .ref n35, .ref n36])), (n21, .inl (cy 1, 1868, .inl (fun _ => 0))), (n22, .inl (cy 1, 1868, .inl (fun _ => 0))), (n23, .inl (cy 1, 5604, .inl (fun _ => 0))), (n24, .inl (cy 3, 3, .inl (fun _ => 0))), (n25, .inl (cy 1, 900, .inl (fun _ => 0))), (n26, .inl (cy 1, 1830, .inl (fun _ => 0))), (n27, .inl (cy 1, 1830, .inl (fun _ => 0))), (n28, .inl (cy 2, 2465, .inr (.inl (fun _ => 0)))), (n29, .inl (cy 1, 7201, .inl (fun _ => 0))), (n30, .inl (cy 1, 1830, .inl (fun _ => 0))), (n31, .inl (cy 1, 5, .inl (fun _ => 0))), (n32, .inl (cy 1, 6, .inl (fun _ => 0))), (n33, .inl (cy 1, 6, .inl (fun _ => 0))), (n34, .inl (cy 1, 4, .inl (upd (upd (upd (upd (fun _ => 0) 0 (-1)) 1 (-1)) 2 (-1)) 3 (-1)))), (n35, .inl (cy 1, 4, .inl (fun _ => 0))), (n36, .inl (cy 2, 160, .inr (.inl (fun _ => 0)))), (n20, .inl (cy 1, 1868, .inl (upd (upd (upd (fun _ => 0) 1 2) 2 20) 3 120)))] _ _ := w
  refine r_top (g2 := F0 m 15 ls [.ref n19]) rfl ?_
  refine lv_astore_n (lv' := [(2, .ref n19), (1, .ref n1), (0, .ref b)]) C.1 C.2.1 dL_law_15 rfl hl (by decide) rfl (fun ls hl => ?_)
  refine lv_iconst (v := 1) C.1 C.2.1 dL_law_16 (by decide) ?_
  refine r_newa_long C w 1 ac_long (by decide) (by decide) (by decide) 37 29845 rfl rfl ⟨Nat.le_of_ble_eq_true rfl, Nat.le_of_ble_eq_true rfl⟩ dL_law_17 (fun n37 H w => ?_)
  have w : Wd D (fun q : Nat => s.heap.size ≤ q) s.heap [(n1, .inr (11, [.ref n2, .int 0, .int 0, .int (-1), .ref n3, .ref n5, .ref n6, .ref n7, .ref n11, .null])), (n2, .inl (cy 0, 900, .inl (fun _ => 0))), (n3, .inr (5, [.ref n4, .int 0, .int 0, .int 0, .int 0, .int 0, .int 0, .null])), (n4, .inl (cy 0, 0, .inl (fun _ => 0))), (n5, .inl (cy 4, 5, .inr (.inr (.inr (.inr (va_up (fun _ => none) 0 (some n11))))))), (n6, .inl (cy 4, 3, .inr (.inr (.inr (.inr (fun _ => none)))))), (n7, .inr (10, [.ref n8, .ref n9, .ref n10])), (n8, .inl (cy 1, 4, .inl (upd (upd (upd (upd (fun _ => 0) 0 (-1)) 1 (-1)) 2 (-1)) 3 (-1)))), (n9, .inl (cy 1, 4, .inl (fun _ => 0))), (n10, .inl (cy 2, 160, .inr (.inl (fun _ => 0)))), (n11, .inr (9, [.int 0, .int 2, .int 20, .int 120, .int 0, .int 0, .int 0, .int 0, .ref n12, .int 0, .ref n13, .ref n14, .int 0, .ref n15, .ref n16, .ref n17, .ref n18])), (n12, .inl (cy 1, 6, .inl (fun _ => 0))), (n13, .inl (cy 1, 20, .inl (fun _ => 0))), (n14, .inl (cy 1, 20, .inl (fun _ => 0))), (n15, .inl (cy 1, 300, .inl (fun _ => 0))), (n16, .inl (cy 1, 300, .inl (fun _ => 0))), (n17, .inl (cy 1, 300, .inl (fun _ => 0))), (n18, .inl (cy 1, 300, .inl (fun _ => 0))), (n19, .inr (12, [.ref n20, .ref n21, .ref n22, .ref n23, .ref n24, .int 0, .ref n25, .int 0, .int 0, .int 0, .int 0, .int 0, .int 0, .int 0, .int 0, .int 0, .int 0, .int (-1), .ref n26, .ref n27, .int 0, .ref n28, .int 0, .ref n29, .ref n30, .ref n31, .ref n32, .ref n33, .int 0, .ref n34, .ref n35, .ref n36])), (n21, .inl (cy 1, 1868, .inl (fun _ => 0))), (n22, .inl (cy 1, 1868, .inl (fun _ => 0))), (n23, .inl (cy 1, 5604, .inl (fun _ => 0))), (n24, .inl (cy 3, 3, .inl (fun _ => 0))), (n25, .inl (cy 1, 900, .inl (fun _ => 0))), (n26, .inl (cy 1, 1830, .inl (fun _ => 0))), (n27, .inl (cy 1, 1830, .inl (fun _ => 0))), (n28, .inl (cy 2, 2465, .inr (.inl (fun _ => 0)))), (n29, .inl (cy 1, 7201, .inl (fun _ => 0))), (n30, .inl (cy 1, 1830, .inl (fun _ => 0))), (n31, .inl (cy 1, 5, .inl (fun _ => 0))), (n32, .inl (cy 1, 6, .inl (fun _ => 0))), (n33, .inl (cy 1, 6, .inl (fun _ => 0))), (n34, .inl (cy 1, 4, .inl (upd (upd (upd (upd (fun _ => 0) 0 (-1)) 1 (-1)) 2 (-1)) 3 (-1)))), (n35, .inl (cy 1, 4, .inl (fun _ => 0))), (n36, .inl (cy 2, 160, .inr (.inl (fun _ => 0)))), (n20, .inl (cy 1, 1868, .inl (upd (upd (upd (fun _ => 0) 1 2) 2 20) 3 120))), (n37, .inl (cy 2, 1, .inr (.inl (fun _ => 0))))] _ _ := w
  refine lv_astore_n (lv' := [(3, .ref n37), (2, .ref n19), (1, .ref n1), (0, .ref b)]) C.1 C.2.1 dL_law_19 rfl hl (by decide) rfl (fun ls hl => ?_)
  refine lv_iconst (v := 0) C.1 C.2.1 dL_law_20 (by decide) ?_
  refine lv_istore (lv' := [(4, .int 0), (3, .ref n37), (2, .ref n19), (1, .ref n1), (0, .ref b)]) C.1 C.2.1 dL_law_21 hl (by decide) rfl (fun ls hl => ?_)
  refine lv_iload C.1 C.2.1 dL_law_23 (lv_at hl 0 rfl) ?_
  refine lv_aload_n C.1 C.2.1 dL_law_25 rfl (lv_at hl 4 rfl) ?_
  refine va_slen C.1 C.2.1 hX hbl hbA w.2.2 dL_law_26 ?_
  refine lv_bipush (v := 6) C.1 C.2.1 dL_law_27 (by decide) ?_
  refine r_isub C (v := Int32.ofNat L - 6) dL_law_29 rfl ?_
  by_cases h6 : L = 6
  · subst h6
    refine b_icmp_gt_f C (tgt := 2467) dL_law_30 (by decide) (by decide) ?_
    exact law_switch b n1 n2 n3 n5 n6 n7 n11 n4 n8 n9 n10 n12 n13 n14 n15 n16 n17 n18 n19 n20 n21 n22 n23 n24 n25 n26 n27 n28 n29 n30 n31 n32 n33 n34 n35 n36 n37 hst C hml hX hbl hbA (w.pick [0, 1, 2, 3, 4, 5, 6, 7, 8, 9, 10, 11, 12, 13, 14, 15, 16, 17, 18, 19, 20, 21, 22, 23, 24, 25, 26, 27, 28, 29, 30, 31, 32, 33, 34, 35, 36] rfl rfl) (lv_sub hl [4, 3, 2, 1, 0] rfl) (fun H locs ls hS hl => law_end C hX hbl hbA hr hlocks hS hl)
  · have hlt : (Int32.ofNat L - 6) < 0 := (by decide : ∀ k : Nat, k < 6 → (Int32.ofNat k - 6) < 0) L (by omega)
    refine b_icmp_gt_t C (tgt := 2467) dL_law_30 (by decide) hlt ?_
    refine W.widen (k := 600002) (n := 7302232) (Nat.le_of_ble_eq_true rfl) (Nat.le_of_ble_eq_true rfl) ?_
    exact law_ret C hr hlocks w.2.2
