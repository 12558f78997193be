theorem dX12_count_0 : decode cX12_count 0 = .ok (.aload_n 0, 1) := by decide +kernel
theorem dX12_count_1 : decode cX12_count 1 = .ok (.iconst 0, 1) := by decide +kernel
theorem dX12_count_2 : decode cX12_count 2 = .ok (.putfield 71, 3) := by decide +kernel
theorem dX12_count_5 : decode cX12_count 5 = .ok (.aload_n 0, 1) := by decide +kernel
theorem dX12_count_6 : decode cX12_count 6 = .ok (.invokevirtual 253, 3) := by decide +kernel
theorem dX12_layPairs_0 : decode cX12_layPairs 0 = .ok (.aload_n 0, 1) := by decide +kernel
theorem dX12_layPairs_1 : decode cX12_layPairs 1 = .ok (.iconst 0, 1) := by decide +kernel
theorem dX12_layPairs_2 : decode cX12_layPairs 2 = .ok (.putfield 250, 3) := by decide +kernel
theorem fl_RX12_250 : Cond.fieldLink RX12 250 "TwoSlipsModel" "pairs" "I" ∈ gw := gw_mem (by decide +kernel) (by decide +kernel)
theorem dX12_layPairs_5 : decode cX12_layPairs 5 = .ok (.aload_n 0, 1) := by decide +kernel
theorem dX12_layPairs_6 : decode cX12_layPairs 6 = .ok (.getfield 9, 3) := by decide +kernel
theorem dX12_layPairs_9 : decode cX12_layPairs 9 = .ok (.iconst 1, 1) := by decide +kernel
theorem dX12_layPairs_10 : decode cX12_layPairs 10 = .ok (.iaload, 1) := by decide +kernel
theorem dX12_layPairs_11 : decode cX12_layPairs 11 = .ok (.istore_n 1, 1) := by decide +kernel
theorem dX12_layPairs_31 : decode cX12_layPairs 31 = .ok (.iload_n 2, 1) := by decide +kernel
theorem dX12_layPairs_32 : decode cX12_layPairs 32 = .ok (.aload_n 0, 1) := by decide +kernel
theorem dX12_layPairs_33 : decode cX12_layPairs 33 = .ok (.getfield 9, 3) := by decide +kernel
theorem dX12_layPairs_36 : decode cX12_layPairs 36 = .ok (.iconst 2, 1) := by decide +kernel
theorem dX12_layPairs_37 : decode cX12_layPairs 37 = .ok (.iaload, 1) := by decide +kernel
theorem dX12_layPairs_38 : decode cX12_layPairs 38 = .ok (.if_icmp .gt 51, 3) := by decide +kernel
theorem dX12_layPairs_41 : decode cX12_layPairs 41 = .ok (.iload_n 1, 1) := by decide +kernel
theorem dX12_layPairs_42 : decode cX12_layPairs 42 = .ok (.iload_n 2, 1) := by decide +kernel
theorem dX12_layPairs_43 : decode cX12_layPairs 43 = .ok (.iadd, 1) := by decide +kernel
theorem dX12_layPairs_44 : decode cX12_layPairs 44 = .ok (.aload_n 0, 1) := by decide +kernel
theorem dX12_layPairs_45 : decode cX12_layPairs 45 = .ok (.getfield 9, 3) := by decide +kernel
theorem dX12_layPairs_48 : decode cX12_layPairs 48 = .ok (.iconst 3, 1) := by decide +kernel
theorem dX12_layPairs_49 : decode cX12_layPairs 49 = .ok (.iaload, 1) := by decide +kernel
theorem dX12_layPairs_50 : decode cX12_layPairs 50 = .ok (.if_icmp .gt 39, 3) := by decide +kernel
theorem dX12_layPairs_53 : decode cX12_layPairs 53 = .ok (.aload_n 0, 1) := by decide +kernel
theorem dX12_layPairs_54 : decode cX12_layPairs 54 = .ok (.getfield 33, 3) := by decide +kernel
theorem dX12_layPairs_57 : decode cX12_layPairs 57 = .ok (.aload_n 0, 1) := by decide +kernel
theorem dX12_layPairs_58 : decode cX12_layPairs 58 = .ok (.getfield 250, 3) := by decide +kernel
theorem dX12_layPairs_61 : decode cX12_layPairs 61 = .ok (.iload_n 1, 1) := by decide +kernel
theorem dX12_layPairs_62 : decode cX12_layPairs 62 = .ok (.iastore, 1) := by decide +kernel
theorem dX12_layPairs_63 : decode cX12_layPairs 63 = .ok (.aload_n 0, 1) := by decide +kernel
theorem dX12_layPairs_64 : decode cX12_layPairs 64 = .ok (.getfield 36, 3) := by decide +kernel
theorem dX12_layPairs_67 : decode cX12_layPairs 67 = .ok (.aload_n 0, 1) := by decide +kernel
theorem dX12_layPairs_68 : decode cX12_layPairs 68 = .ok (.getfield 250, 3) := by decide +kernel
theorem dX12_layPairs_71 : decode cX12_layPairs 71 = .ok (.iload_n 2, 1) := by decide +kernel
theorem dX12_layPairs_72 : decode cX12_layPairs 72 = .ok (.iastore, 1) := by decide +kernel
theorem dX12_layPairs_73 : decode cX12_layPairs 73 = .ok (.aload_n 0, 1) := by decide +kernel
theorem dX12_layPairs_74 : decode cX12_layPairs 74 = .ok (.dup, 1) := by decide +kernel
theorem dX12_layPairs_75 : decode cX12_layPairs 75 = .ok (.getfield 250, 3) := by decide +kernel
theorem dX12_layPairs_78 : decode cX12_layPairs 78 = .ok (.iconst 1, 1) := by decide +kernel
theorem dX12_layPairs_79 : decode cX12_layPairs 79 = .ok (.iadd, 1) := by decide +kernel
theorem dX12_layPairs_80 : decode cX12_layPairs 80 = .ok (.putfield 250, 3) := by decide +kernel
theorem dX12_layPairs_83 : decode cX12_layPairs 83 = .ok (.iinc 2 1, 3) := by decide +kernel
theorem dX12_layPairs_86 : decode cX12_layPairs 86 = .ok (.goto (-55), 3) := by decide +kernel
theorem dX12_layPairs_12 : decode cX12_layPairs 12 = .ok (.iload_n 1, 1) := by decide +kernel
theorem dX12_layPairs_13 : decode cX12_layPairs 13 = .ok (.aload_n 0, 1) := by decide +kernel
theorem dX12_layPairs_14 : decode cX12_layPairs 14 = .ok (.getfield 9, 3) := by decide +kernel
theorem dX12_layPairs_17 : decode cX12_layPairs 17 = .ok (.iconst 2, 1) := by decide +kernel
theorem dX12_layPairs_18 : decode cX12_layPairs 18 = .ok (.iaload, 1) := by decide +kernel
theorem dX12_layPairs_19 : decode cX12_layPairs 19 = .ok (.if_icmp .gt 76, 3) := by decide +kernel
theorem dX12_layPairs_22 : decode cX12_layPairs 22 = .ok (.iload_n 1, 1) := by decide +kernel
theorem dX12_layPairs_23 : decode cX12_layPairs 23 = .ok (.aload_n 0, 1) := by decide +kernel
theorem dX12_layPairs_24 : decode cX12_layPairs 24 = .ok (.getfield 9, 3) := by decide +kernel
theorem dX12_layPairs_27 : decode cX12_layPairs 27 = .ok (.iconst 4, 1) := by decide +kernel
theorem dX12_layPairs_28 : decode cX12_layPairs 28 = .ok (.iaload, 1) := by decide +kernel
theorem dX12_layPairs_29 : decode cX12_layPairs 29 = .ok (.iadd, 1) := by decide +kernel
theorem dX12_layPairs_30 : decode cX12_layPairs 30 = .ok (.istore_n 2, 1) := by decide +kernel
theorem dX12_layPairs_89 : decode cX12_layPairs 89 = .ok (.iinc 1 1, 3) := by decide +kernel
theorem dX12_layPairs_92 : decode cX12_layPairs 92 = .ok (.goto (-80), 3) := by decide +kernel
set_option maxRecDepth 100000 in
set_option maxHeartbeats 4000000 in
theorem lp_X12_layPairs_1 {p : Program} {l : Launch} {e : Env} {R : Room} {s : State} {m : MethodId} {args : Array Value} {below : List Frame} {meth : Method} {c : Code} {cells slots : Nat} {Q : State → Prop} {D : va_G} {cy : Nat → ClassId} {A : Nat → Prop} {H : Heap} {locs : List Loc} {ls : Array Slot} (a0 a1 a2 a3 a4 a5 a6 a7 a8 a9 a10 a11 a12 a13 a14 a15 a16 a17 : Nat) (f g : Nat → Int32) (a b : Nat) (x2 x3 : Int32) (hab : 1 ≤ a ∧ a ≤ b ∧ b ≤ 60) (e2 : x2 = nI a) (e3 : x3 = nI b) (C : Cx p s m args c cX12_layPairs RX12 D cy A) (hml : c.maxLocals = 3) (w : Wd D A s.heap [(a0, .inr (12, [.ref a1, .ref a2, .ref a3, .ref a4, .ref a5, .int 0, .ref a6, .int 0, .int 0, .int 0, .int 0, .int 0, .int 0, .int 0, .int 0, .int 0, .int 0, .int (-1), .ref a7, .ref a8, .int 0, .ref a9, .int 0, .ref a10, .ref a11, .ref a12, .ref a13, .ref a14, .int 0, .ref a15, .ref a16, .ref a17])), (a1, .inl (cy 1, 1868, .inl (upd (upd (upd (fun _ => 0) 1 x2) 2 x3) 3 120))), (a7, .inl (cy 1, 1830, .inl (f))), (a8, .inl (cy 1, 1830, .inl (g)))] H locs) (hl : lv_has ls 3 [(0, .ref a0), (1, .int x2)])
    (kk : ∀ (H : Heap) (locs : List Loc) (ls : Array Slot) (pv : Int32), pv = nI (PP b a (b + 1 - a)) → Wd D A s.heap [(a0, .inr (12, [.ref a1, .ref a2, .ref a3, .ref a4, .ref a5, .int 0, .ref a6, .int 0, .int 0, .int 0, .int 0, .int 0, .int 0, .int 0, .int 0, .int 0, .int 0, .int (-1), .ref a7, .ref a8, .int pv, .ref a9, .int 0, .ref a10, .ref a11, .ref a12, .ref a13, .ref a14, .int 0, .ref a15, .ref a16, .ref a17])), (a1, .inl (cy 1, 1868, .inl (upd (upd (upd (fun _ => 0) 1 x2) 2 x3) 3 120))), (a7, .inl (cy 1, 1830, .inl (lxF f a b (PP b a (b + 1 - a))))), (a8, .inl (cy 1, 1830, .inl (lyF g a b (PP b a (b + 1 - a)))))] H locs → lv_has ls 3 [(0, .ref a0)] → W p l e R s m args below meth c H locs cells slots Q (F0 m 95 ls [])) : W p l e R s m args below meth c H locs cells slots Q (F0 m 12 ls []) := by
  obtain ⟨ha1, hab1, hb60⟩ := hab
  have inner : ∀ (k xn yn : Nat) (x y pv : Int32) (H : Heap) (locs : List Loc) (ls : Array Slot), a ≤ xn → xn ≤ b → xn ≤ yn → yn + k = b + 1 → x = nI xn → y = nI yn → pv = nI (PP b a (xn - a) + (yn - xn)) → Wd D A s.heap [(a0, .inr (12, [.ref a1, .ref a2, .ref a3, .ref a4, .ref a5, .int 0, .ref a6, .int 0, .int 0, .int 0, .int 0, .int 0, .int 0, .int 0, .int 0, .int 0, .int 0, .int (-1), .ref a7, .ref a8, .int pv, .ref a9, .int 0, .ref a10, .ref a11, .ref a12, .ref a13, .ref a14, .int 0, .ref a15, .ref a16, .ref a17])), (a1, .inl (cy 1, 1868, .inl (upd (upd (upd (fun _ => 0) 1 x2) 2 x3) 3 120))), (a7, .inl (cy 1, 1830, .inl (lxF f a b (PP b a (xn - a) + (yn - xn))))), (a8, .inl (cy 1, 1830, .inl (lyF g a b (PP b a (xn - a) + (yn - xn)))))] H locs → lv_has ls 3 [(0, .ref a0), (1, .int x), (2, .int y)] →
      (∀ (H : Heap) (locs : List Loc) (ls : Array Slot) (pv y1 : Int32), pv = nI (PP b a (xn + 1 - a)) → Wd D A s.heap [(a0, .inr (12, [.ref a1, .ref a2, .ref a3, .ref a4, .ref a5, .int 0, .ref a6, .int 0, .int 0, .int 0, .int 0, .int 0, .int 0, .int 0, .int 0, .int 0, .int 0, .int (-1), .ref a7, .ref a8, .int pv, .ref a9, .int 0, .ref a10, .ref a11, .ref a12, .ref a13, .ref a14, .int 0, .ref a15, .ref a16, .ref a17])), (a1, .inl (cy 1, 1868, .inl (upd (upd (upd (fun _ => 0) 1 x2) 2 x3) 3 120))), (a7, .inl (cy 1, 1830, .inl (lxF f a b (PP b a (xn + 1 - a))))), (a8, .inl (cy 1, 1830, .inl (lyF g a b (PP b a (xn + 1 - a)))))] H locs → lv_has ls 3 [(0, .ref a0), (1, .int x), (2, .int y1)] → W p l e R s m args below meth c H locs cells slots Q (F0 m 89 ls [])) → W p l e R s m args below meth c H locs cells slots Q (F0 m 31 ls []) := by
    intro k
    induction k with
    | zero =>
      intro xn yn x y pv H locs ls h1 h2 h3 h4 ex ey em w hl kk
      have hy : yn = b + 1 := by omega
      have c1 : x3 < y := by rw [e3, ey, hy]; exact nI_lt (by omega) (by omega)
      refine lv_iload_n C.1 C.2.1 dX12_layPairs_31 rfl (lv_at hl 2 rfl) ?_
      refine lv_aload_n C.1 C.2.1 dX12_layPairs_32 rfl (lv_at hl 0 rfl) ?_
      refine r_get C w 0 rfl rfl 0 (by decide) fl_RX12_9 (v := .ref a1) rfl dX12_layPairs_33 ?_
      refine lv_iconst (v := 2) C.1 C.2.1 dX12_layPairs_36 (by decide) ?_
      refine r_iald C w 1 rfl (v := x3) (vinD (by decide)) rfl dX12_layPairs_37 ?_
      refine b_icmp_gt_t C (tgt := 89) dX12_layPairs_38 (by decide) c1 ?_
      have eN : PP b a (xn - a) + (yn - xn) = PP b a (xn + 1 - a) := by
        have := PP_succ b (xn - a) a
        have e1 : xn - a + 1 = xn + 1 - a := by omega
        have e2 : a + (xn - a) = xn := by omega
        rw [e1, e2] at this
        omega
      exact kk _ _ _ pv y (by rw [em, eN]) (by rw [← eN]; exact w) (lv_sub hl [0, 1, 2] rfl)
    | succ k ih =>
      intro xn yn x y pv H locs ls h1 h2 h3 h4 ex ey em w hl kk
      have hb1 := PP_lt (b := b) h1 h3 (by omega)
      have hb2 := PP_le b hb60 a (by omega) ha1 hab1
      have hb : PP b a (xn - a) + (yn - xn) < 1830 := by omega
      have c1 : ¬ x3 < y := by rw [e3, ey]; exact nI_nlt (by omega) (by omega)
      have c2 : ¬ (120 : Int32) < x + y := by rw [ex, ey, nI_add]; exact nI_nlt (a := 120) (by omega) (by omega)
      have hin : vp_in pv 1830 := by rw [em]; exact vp_in_nI hb (by decide)
      have hsx : upd (lxF f a b (PP b a (xn - a) + (yn - xn))) pv.toNatClampNeg x = lxF f a b (PP b a (xn - a) + (yn - xn) + 1) := by
        rw [em]
        refine lxF_step (by omega) ?_
        rw [pxy_at h1 h3 (by omega), ex]
      have hsy : upd (lyF g a b (PP b a (xn - a) + (yn - xn))) pv.toNatClampNeg y = lyF g a b (PP b a (xn - a) + (yn - xn) + 1) := by
        rw [em]
        refine lyF_step (by omega) ?_
        rw [pxy_at h1 h3 (by omega), ey]
      refine lv_iload_n C.1 C.2.1 dX12_layPairs_31 rfl (lv_at hl 2 rfl) ?_
      refine lv_aload_n C.1 C.2.1 dX12_layPairs_32 rfl (lv_at hl 0 rfl) ?_
      refine r_get C w 0 rfl rfl 0 (by decide) fl_RX12_9 (v := .ref a1) rfl dX12_layPairs_33 ?_
      refine lv_iconst (v := 2) C.1 C.2.1 dX12_layPairs_36 (by decide) ?_
      refine r_iald C w 1 rfl (v := x3) (vinD (by decide)) rfl dX12_layPairs_37 ?_
      refine b_icmp_gt_f C (tgt := 89) dX12_layPairs_38 (by decide) c1 ?_
      refine lv_iload_n C.1 C.2.1 dX12_layPairs_41 rfl (lv_at hl 1 rfl) ?_
      refine lv_iload_n C.1 C.2.1 dX12_layPairs_42 rfl (lv_at hl 2 rfl) ?_
      refine r_iadd C (v := (x + y)) dX12_layPairs_43 rfl ?_
      refine lv_aload_n C.1 C.2.1 dX12_layPairs_44 rfl (lv_at hl 0 rfl) ?_
      refine r_get C w 0 rfl rfl 0 (by decide) fl_RX12_9 (v := .ref a1) rfl dX12_layPairs_45 ?_
      refine lv_iconst (v := 3) C.1 C.2.1 dX12_layPairs_48 (by decide) ?_
      refine r_iald C w 1 rfl (v := 120) (vinD (by decide)) rfl dX12_layPairs_49 ?_
      refine b_icmp_gt_f C (tgt := 89) dX12_layPairs_50 (by decide) c2 ?_
      refine lv_aload_n C.1 C.2.1 dX12_layPairs_53 rfl (lv_at hl 0 rfl) ?_
      refine r_get C w 0 rfl rfl 18 (by decide) fl_RX12_33 (v := .ref a7) rfl dX12_layPairs_54 ?_
      refine lv_aload_n C.1 C.2.1 dX12_layPairs_57 rfl (lv_at hl 0 rfl) ?_
      refine r_get C w 0 rfl rfl 20 (by decide) fl_RX12_250 (v := .int pv) rfl dX12_layPairs_58 ?_
      refine lv_iload_n C.1 C.2.1 dX12_layPairs_61 rfl (lv_at hl 1 rfl) ?_
      refine r_iast C w 2 rfl hin (lxF f a b (PP b a (xn - a) + (yn - xn) + 1)) hsx [(a0, .inr (12, [.ref a1, .ref a2, .ref a3, .ref a4, .ref a5, .int 0, .ref a6, .int 0, .int 0, .int 0, .int 0, .int 0, .int 0, .int 0, .int 0, .int 0, .int 0, .int (-1), .ref a7, .ref a8, .int pv, .ref a9, .int 0, .ref a10, .ref a11, .ref a12, .ref a13, .ref a14, .int 0, .ref a15, .ref a16, .ref a17])), (a1, .inl (cy 1, 1868, .inl (upd (upd (upd (fun _ => 0) 1 x2) 2 x3) 3 120))), (a7, .inl (cy 1, 1830, .inl (lxF f a b (PP b a (xn - a) + (yn - xn) + 1)))), (a8, .inl (cy 1, 1830, .inl (lyF g a b (PP b a (xn - a) + (yn - xn)))))] rfl dX12_layPairs_62 (fun H locs w => ?_)
      refine lv_aload_n C.1 C.2.1 dX12_layPairs_63 rfl (lv_at hl 0 rfl) ?_
      refine r_get C w 0 rfl rfl 19 (by decide) fl_RX12_36 (v := .ref a8) rfl dX12_layPairs_64 ?_
      refine lv_aload_n C.1 C.2.1 dX12_layPairs_67 rfl (lv_at hl 0 rfl) ?_
      refine r_get C w 0 rfl rfl 20 (by decide) fl_RX12_250 (v := .int pv) rfl dX12_layPairs_68 ?_
      refine lv_iload_n C.1 C.2.1 dX12_layPairs_71 rfl (lv_at hl 2 rfl) ?_
      refine r_iast C w 3 rfl hin (lyF g a b (PP b a (xn - a) + (yn - xn) + 1)) hsy [(a0, .inr (12, [.ref a1, .ref a2, .ref a3, .ref a4, .ref a5, .int 0, .ref a6, .int 0, .int 0, .int 0, .int 0, .int 0, .int 0, .int 0, .int 0, .int 0, .int 0, .int (-1), .ref a7, .ref a8, .int pv, .ref a9, .int 0, .ref a10, .ref a11, .ref a12, .ref a13, .ref a14, .int 0, .ref a15, .ref a16, .ref a17])), (a1, .inl (cy 1, 1868, .inl (upd (upd (upd (fun _ => 0) 1 x2) 2 x3) 3 120))), (a7, .inl (cy 1, 1830, .inl (lxF f a b (PP b a (xn - a) + (yn - xn) + 1)))), (a8, .inl (cy 1, 1830, .inl (lyF g a b (PP b a (xn - a) + (yn - xn) + 1))))] rfl dX12_layPairs_72 (fun H locs w => ?_)
      refine lv_aload_n C.1 C.2.1 dX12_layPairs_73 rfl (lv_at hl 0 rfl) ?_
      refine lv_dup C.1 C.2.1 dX12_layPairs_74 rfl ?_
      refine r_get C w 0 rfl rfl 20 (by decide) fl_RX12_250 (v := .int pv) rfl dX12_layPairs_75 ?_
      refine lv_iconst (v := 1) C.1 C.2.1 dX12_layPairs_78 (by decide) ?_
      refine r_iadd C (v := (pv + 1)) dX12_layPairs_79 rfl ?_
      refine r_put C w 0 rfl rfl 20 (by decide) fl_RX12_250 rfl (ty := .int) (tyX12_ok 20 (by decide)) rfl rfl (Nat.le_of_ble_eq_true rfl) [(a0, .inr (12, [.ref a1, .ref a2, .ref a3, .ref a4, .ref a5, .int 0, .ref a6, .int 0, .int 0, .int 0, .int 0, .int 0, .int 0, .int 0, .int 0, .int 0, .int 0, .int (-1), .ref a7, .ref a8, .int (pv + 1), .ref a9, .int 0, .ref a10, .ref a11, .ref a12, .ref a13, .ref a14, .int 0, .ref a15, .ref a16, .ref a17])), (a1, .inl (cy 1, 1868, .inl (upd (upd (upd (fun _ => 0) 1 x2) 2 x3) 3 120))), (a7, .inl (cy 1, 1830, .inl (lxF f a b (PP b a (xn - a) + (yn - xn) + 1)))), (a8, .inl (cy 1, 1830, .inl (lyF g a b (PP b a (xn - a) + (yn - xn) + 1))))] rfl dX12_layPairs_80 (fun H locs w => ?_)
      refine lv_iinc (v := (y + 1)) (lv' := [(2, .int (y + 1)), (0, .ref a0), (1, .int x)]) C.1 C.2.1 dX12_layPairs_83 hl (k := 2) rfl rfl (by decide) rfl (fun ls hl => ?_)
      refine lv_goto (tgt := 31) C.1 C.2.1 dX12_layPairs_86 (by decide) ?_
      have eN : PP b a (xn - a) + (yn + 1 - xn) = PP b a (xn - a) + (yn - xn) + 1 := by omega
      exact ih xn (yn + 1) x (y + 1) (pv + 1) _ _ _ h1 h2 (by omega) (by omega) ex (by rw [ey]; exact nI_1 _) (by rw [em, eN]; exact nI_1 _) (by rw [eN]; exact w) (lv_sub hl [1, 2, 0] rfl) kk
  have outer : ∀ (k xn : Nat) (x pv : Int32) (H : Heap) (locs : List Loc) (ls : Array Slot), a ≤ xn → xn + k = b + 1 → x = nI xn → pv = nI (PP b a (xn - a)) → Wd D A s.heap [(a0, .inr (12, [.ref a1, .ref a2, .ref a3, .ref a4, .ref a5, .int 0, .ref a6, .int 0, .int 0, .int 0, .int 0, .int 0, .int 0, .int 0, .int 0, .int 0, .int 0, .int (-1), .ref a7, .ref a8, .int pv, .ref a9, .int 0, .ref a10, .ref a11, .ref a12, .ref a13, .ref a14, .int 0, .ref a15, .ref a16, .ref a17])), (a1, .inl (cy 1, 1868, .inl (upd (upd (upd (fun _ => 0) 1 x2) 2 x3) 3 120))), (a7, .inl (cy 1, 1830, .inl (lxF f a b (PP b a (xn - a))))), (a8, .inl (cy 1, 1830, .inl (lyF g a b (PP b a (xn - a)))))] H locs → lv_has ls 3 [(0, .ref a0), (1, .int x)] → W p l e R s m args below meth c H locs cells slots Q (F0 m 12 ls []) := by
    intro k
    induction k with
    | zero =>
      intro xn x pv H locs ls h1 h4 ex em w hl
      have hx : xn = b + 1 := by omega
      subst hx
      have c1 : x3 < x := by rw [e3, ex]; exact nI_lt (by omega) (by omega)
      refine lv_iload_n C.1 C.2.1 dX12_layPairs_12 rfl (lv_at hl 1 rfl) ?_
      refine lv_aload_n C.1 C.2.1 dX12_layPairs_13 rfl (lv_at hl 0 rfl) ?_
      refine r_get C w 0 rfl rfl 0 (by decide) fl_RX12_9 (v := .ref a1) rfl dX12_layPairs_14 ?_
      refine lv_iconst (v := 2) C.1 C.2.1 dX12_layPairs_17 (by decide) ?_
      refine r_iald C w 1 rfl (v := x3) (vinD (by decide)) rfl dX12_layPairs_18 ?_
      refine b_icmp_gt_t C (tgt := 95) dX12_layPairs_19 (by decide) c1 ?_
      exact kk _ _ _ pv em w (lv_sub hl [0] rfl)
    | succ k ih =>
      intro xn x pv H locs ls h1 h4 ex em w hl
      have c1 : ¬ x3 < x := by rw [e3, ex]; exact nI_nlt (by omega) (by omega)
      refine lv_iload_n C.1 C.2.1 dX12_layPairs_12 rfl (lv_at hl 1 rfl) ?_
      refine lv_aload_n C.1 C.2.1 dX12_layPairs_13 rfl (lv_at hl 0 rfl) ?_
      refine r_get C w 0 rfl rfl 0 (by decide) fl_RX12_9 (v := .ref a1) rfl dX12_layPairs_14 ?_
      refine lv_iconst (v := 2) C.1 C.2.1 dX12_layPairs_17 (by decide) ?_
      refine r_iald C w 1 rfl (v := x3) (vinD (by decide)) rfl dX12_layPairs_18 ?_
      refine b_icmp_gt_f C (tgt := 95) dX12_layPairs_19 (by decide) c1 ?_
      refine lv_iload_n C.1 C.2.1 dX12_layPairs_22 rfl (lv_at hl 1 rfl) ?_
      refine lv_aload_n C.1 C.2.1 dX12_layPairs_23 rfl (lv_at hl 0 rfl) ?_
      refine r_get C w 0 rfl rfl 0 (by decide) fl_RX12_9 (v := .ref a1) rfl dX12_layPairs_24 ?_
      refine lv_iconst (v := 4) C.1 C.2.1 dX12_layPairs_27 (by decide) ?_
      refine r_iald C w 1 rfl (v := 0) (vinD (by decide)) rfl dX12_layPairs_28 ?_
      refine r_iadd C (v := (x + 0)) dX12_layPairs_29 rfl ?_
      refine lv_istore_n (lv' := [(2, .int (x + 0)), (0, .ref a0), (1, .int x)]) C.1 C.2.1 dX12_layPairs_30 rfl hl (by decide) rfl (fun ls hl => ?_)
      have eN : PP b a (xn - a) + (xn - xn) = PP b a (xn - a) := by omega
      have e0 : x + 0 = x := by rw [Int32.add_zero]
      rw [e0] at hl
      refine inner (b + 1 - xn) xn xn x x pv _ _ _ h1 (by omega) (Nat.le_refl _) (by omega) ex ex (by rw [em, eN]) (by rw [eN]; exact w) (lv_sub hl [1, 2, 0] rfl) (fun H locs ls pv y1 em1 w hl => ?_)
      refine lv_iinc (v := (x + 1)) (lv' := [(1, .int (x + 1)), (0, .ref a0), (2, .int y1)]) C.1 C.2.1 dX12_layPairs_89 hl (k := 1) rfl rfl (by decide) rfl (fun ls hl => ?_)
      refine lv_goto (tgt := 12) C.1 C.2.1 dX12_layPairs_92 (by decide) ?_
      exact ih (xn + 1) (x + 1) pv _ _ _ (by omega) (by omega) (by rw [ex]; exact nI_1 _) em1 w (lv_sub hl [1, 0] rfl)
  refine outer (b + 1 - a) a x2 0 _ _ _ (Nat.le_refl _) (by omega) e2 (by rw [Nat.sub_self]; rfl) ?_ hl
  have e0 : lxF f a b (PP b a (a - a)) = f := by rw [Nat.sub_self]; exact lxF_0 f a b
  have e1 : lyF g a b (PP b a (a - a)) = g := by rw [Nat.sub_self]; exact lyF_0 g a b
  rw [e0, e1]
  exact w
theorem dX12_layPairs_95 : decode cX12_layPairs 95 = .ok (.return_, 1) := by decide +kernel
set_option maxRecDepth 100000 in
set_option maxHeartbeats 4000000 in
theorem c_X12_layPairs_0 (l : Launch) (D : va_G) (cy : Nat → ClassId) (a0 a1 a2 a3 a4 a5 a6 a7 a8 a9 a10 a11 a12 a13 a14 a15 a16 a17 : Nat) : Ct l D cy yX12_layPairs cX12_layPairs 3 none 0 0 0 0 [(a0, .inr (12, [.ref a1, .ref a2, .ref a3, .ref a4, .ref a5, .int 0, .ref a6, .int 0, .int 0, .int 0, .int 0, .int 0, .int 0, .int 0, .int 0, .int 0, .int 0, .int (-1), .ref a7, .ref a8, .int 0, .ref a9, .int 0, .ref a10, .ref a11, .ref a12, .ref a13, .ref a14, .int 0, .ref a15, .ref a16, .ref a17])), (a1, .inl (cy 1, 1868, .inl (upd (upd (upd (fun _ => 0) 1 2) 2 20) 3 120))), (a7, .inl (cy 1, 1830, .inl (fun _ => 0))), (a8, .inl (cy 1, 1830, .inl (fun _ => 0)))] [.ref a0] (fun u : Unit => none) (fun _ => True) (fun u : Unit => [(a0, .inr (12, [.ref a1, .ref a2, .ref a3, .ref a4, .ref a5, .int 0, .ref a6, .int 0, .int 0, .int 0, .int 0, .int 0, .int 0, .int 0, .int 0, .int 0, .int 0, .int (-1), .ref a7, .ref a8, .int 190, .ref a9, .int 0, .ref a10, .ref a11, .ref a12, .ref a13, .ref a14, .int 0, .ref a15, .ref a16, .ref a17])), (a1, .inl (cy 1, 1868, .inl (upd (upd (upd (fun _ => 0) 1 2) 2 20) 3 120))), (a7, .inl (cy 1, 1830, .inl (lxF (fun _ => 0) 2 20 (PP 20 2 (20 + 1 - 2))))), (a8, .inl (cy 1, 1830, .inl (lyF (fun _ => 0) 2 20 (PP 20 2 (20 + 1 - 2)))))]) := by
  refine Ct.of (by decide +kernel) (Nat.le_of_ble_eq_true rfl) ?_
  intro p e s m args below meth c A ls C hr hlocks hml hnm w hl
  have hl : lv_has ls 3 [(0, .ref a0)] := hl
  refine lv_aload_n C.1 C.2.1 dX12_layPairs_0 rfl (lv_at hl 0 rfl) ?_
  refine lv_iconst (v := 0) C.1 C.2.1 dX12_layPairs_1 (by decide) ?_
  refine r_put C w 0 rfl rfl 20 (by decide) fl_RX12_250 rfl (ty := .int) (tyX12_ok 20 (by decide)) rfl rfl (Nat.le_of_ble_eq_true rfl) [(a0, .inr (12, [.ref a1, .ref a2, .ref a3, .ref a4, .ref a5, .int 0, .ref a6, .int 0, .int 0, .int 0, .int 0, .int 0, .int 0, .int 0, .int 0, .int 0, .int 0, .int (-1), .ref a7, .ref a8, .int 0, .ref a9, .int 0, .ref a10, .ref a11, .ref a12, .ref a13, .ref a14, .int 0, .ref a15, .ref a16, .ref a17])), (a1, .inl (cy 1, 1868, .inl (upd (upd (upd (fun _ => 0) 1 2) 2 20) 3 120))), (a7, .inl (cy 1, 1830, .inl (fun _ => 0))), (a8, .inl (cy 1, 1830, .inl (fun _ => 0)))] rfl dX12_layPairs_2 (fun H locs w => ?_)
  refine lv_aload_n C.1 C.2.1 dX12_layPairs_5 rfl (lv_at hl 0 rfl) ?_
  refine r_get C w 0 rfl rfl 0 (by decide) fl_RX12_9 (v := .ref a1) rfl dX12_layPairs_6 ?_
  refine lv_iconst (v := 1) C.1 C.2.1 dX12_layPairs_9 (by decide) ?_
  refine r_iald C w 1 rfl (v := 2) (vinD (by decide)) rfl dX12_layPairs_10 ?_
  refine lv_istore_n (lv' := [(1, .int 2), (0, .ref a0)]) C.1 C.2.1 dX12_layPairs_11 rfl hl (by decide) rfl (fun ls hl => ?_)
  refine lp_X12_layPairs_1 a0 a1 a2 a3 a4 a5 a6 a7 a8 a9 a10 a11 a12 a13 a14 a15 a16 a17 (fun _ => 0) (fun _ => 0) 2 20 2 20 (by decide) rfl rfl C hml (w.re rfl) (lv_sub hl [1, 0] rfl) (fun H locs ls pv em w hl => ?_)
  have em : pv = 190 := by rw [em]; decide +kernel
  subst em
  have w : Wd D A s.heap [(a0, .inr (12, [.ref a1, .ref a2, .ref a3, .ref a4, .ref a5, .int 0, .ref a6, .int 0, .int 0, .int 0, .int 0, .int 0, .int 0, .int 0, .int 0, .int 0, .int 0, .int (-1), .ref a7, .ref a8, .int 190, .ref a9, .int 0, .ref a10, .ref a11, .ref a12, .ref a13, .ref a14, .int 0, .ref a15, .ref a16, .ref a17])), (a1, .inl (cy 1, 1868, .inl (upd (upd (upd (fun _ => 0) 1 2) 2 20) 3 120))), (a7, .inl (cy 1, 1830, .inl (lxF (fun _ => 0) 2 20 (PP 20 2 (20 + 1 - 2))))), (a8, .inl (cy 1, 1830, .inl (lyF (fun _ => 0) 2 20 (PP 20 2 (20 + 1 - 2)))))] _ _ := w
  exact r_vret C w hlocks () hr rfl trivial [0, 1, 2, 3] rfl rfl ⟨Nat.le_of_ble_eq_true rfl, Nat.le_of_ble_eq_true rfl⟩ dX12_layPairs_95
theorem fv_RX12_253 : FV RX12 253 yX12_layPairs cX12_layPairs 3 none 0 := ⟨⟨gw_mem (by decide +kernel) (by decide +kernel), gw_mem (by decide +kernel) (by decide +kernel), gw_mem (by decide +kernel) (by decide +kernel), gw_mem (by decide +kernel) (by decide +kernel), gw_mem (by decide +kernel) (by decide +kernel)⟩, ⟨by decide +kernel, by decide +kernel, by decide +kernel⟩⟩
theorem dX12_count_9 : decode cX12_count 9 = .ok (.iload_n 1, 1) := by decide +kernel
theorem dX12_count_10 : decode cX12_count 10 = .ok (.tableswitch 110 0 8 #[50, 57, 64, 71, 78, 85, 92, 100, 105], 50) := by decide +kernel
theorem dX12_count_120 : decode cX12_count 120 = .ok (.iconst (-1), 1) := by decide +kernel
theorem dX12_count_121 : decode cX12_count 121 = .ok (.ireturn, 1) := by decide +kernel
set_option maxRecDepth 100000 in
set_option maxHeartbeats 4000000 in
theorem c_X12_count_0 (l : Launch) (D : va_G) (cy : Nat → ClassId) (a0 a1 a2 a3 a4 a5 a6 a7 a8 a9 a10 a11 a12 a13 a14 a15 a16 a17 : Nat) (x0 : Int32) (k0 : (x0).toInt < 0 ∨ 8 < (x0).toInt) : Ct l D cy yX12_count cX12_count 2 (some .int) 1 22 0 0 [(a0, .inr (12, [.ref a1, .ref a2, .ref a3, .ref a4, .ref a5, .int 0, .ref a6, .int 0, .int 0, .int 0, .int 0, .int 0, .int 0, .int 0, .int 0, .int 0, .int 0, .int (-1), .ref a7, .ref a8, .int 0, .ref a9, .int 0, .ref a10, .ref a11, .ref a12, .ref a13, .ref a14, .int 0, .ref a15, .ref a16, .ref a17])), (a1, .inl (cy 1, 1868, .inl (upd (upd (upd (fun _ => 0) 1 2) 2 20) 3 120))), (a7, .inl (cy 1, 1830, .inl (fun _ => 0))), (a8, .inl (cy 1, 1830, .inl (fun _ => 0)))] [.ref a0, .int x0] (fun u : Unit => some (.int (-1))) (fun _ => True) (fun u : Unit => [(a0, .inr (12, [.ref a1, .ref a2, .ref a3, .ref a4, .ref a5, .int 0, .ref a6, .int 0, .int 0, .int 0, .int 0, .int 0, .int 0, .int 0, .int 0, .int 0, .int 0, .int (-1), .ref a7, .ref a8, .int 190, .ref a9, .int 0, .ref a10, .ref a11, .ref a12, .ref a13, .ref a14, .int 0, .ref a15, .ref a16, .ref a17])), (a1, .inl (cy 1, 1868, .inl (upd (upd (upd (fun _ => 0) 1 2) 2 20) 3 120))), (a7, .inl (cy 1, 1830, .inl (lxF (fun _ => 0) 2 20 (PP 20 2 (20 + 1 - 2))))), (a8, .inl (cy 1, 1830, .inl (lyF (fun _ => 0) 2 20 (PP 20 2 (20 + 1 - 2)))))]) := by
  refine Ct.of (by decide +kernel) (Nat.le_of_ble_eq_true rfl) ?_
  intro p e s m args below meth c A ls C hr hlocks hml hnm w hl
  have hl : lv_has ls 2 [(0, .ref a0), (1, .int x0)] := hl
  refine lv_aload_n C.1 C.2.1 dX12_count_0 rfl (lv_at hl 0 rfl) ?_
  refine lv_iconst (v := 0) C.1 C.2.1 dX12_count_1 (by decide) ?_
  refine r_put C w 0 rfl rfl 5 (by decide) fl_RX12_71 rfl (ty := .int) (tyX12_ok 5 (by decide)) rfl rfl (Nat.le_of_ble_eq_true rfl) [(a0, .inr (12, [.ref a1, .ref a2, .ref a3, .ref a4, .ref a5, .int 0, .ref a6, .int 0, .int 0, .int 0, .int 0, .int 0, .int 0, .int 0, .int 0, .int 0, .int 0, .int (-1), .ref a7, .ref a8, .int 0, .ref a9, .int 0, .ref a10, .ref a11, .ref a12, .ref a13, .ref a14, .int 0, .ref a15, .ref a16, .ref a17])), (a1, .inl (cy 1, 1868, .inl (upd (upd (upd (fun _ => 0) 1 2) 2 20) 3 120))), (a7, .inl (cy 1, 1830, .inl (fun _ => 0))), (a8, .inl (cy 1, 1830, .inl (fun _ => 0)))] rfl dX12_count_2 (fun H locs w => ?_)
  refine lv_aload_n C.1 C.2.1 dX12_count_5 rfl (lv_at hl 0 rfl) ?_
  refine r_callV C w fv_RX12_253 (c_X12_layPairs_0 l D cy a0 a1 a2 a3 a4 a5 a6 a7 a8 a9 a10 a11 a12 a13 a14 a15 a16 a17) (hl.1.trans hml.symm) [0, 1, 2, 3] [] (wr := []) ⟨rfl, rfl, rfl, rfl, by decide⟩ 0 rfl rfl rfl rfl rfl ⟨Nat.le_of_ble_eq_true rfl, Nat.le_of_ble_eq_true rfl, Nat.le_of_ble_eq_true rfl⟩ 0 0 ⟨rfl, rfl, Nat.le_of_ble_eq_true rfl, Nat.le_of_ble_eq_true rfl⟩ dX12_count_6 (fun u H locs hp w => ?_)
  have w : Wd D A s.heap [(a0, .inr (12, [.ref a1, .ref a2, .ref a3, .ref a4, .ref a5, .int 0, .ref a6, .int 0, .int 0, .int 0, .int 0, .int 0, .int 0, .int 0, .int 0, .int 0, .int 0, .int (-1), .ref a7, .ref a8, .int 190, .ref a9, .int 0, .ref a10, .ref a11, .ref a12, .ref a13, .ref a14, .int 0, .ref a15, .ref a16, .ref a17])), (a1, .inl (cy 1, 1868, .inl (upd (upd (upd (fun _ => 0) 1 2) 2 20) 3 120))), (a7, .inl (cy 1, 1830, .inl (lxF (fun _ => 0) 2 20 (PP 20 2 (20 + 1 - 2))))), (a8, .inl (cy 1, 1830, .inl (lyF (fun _ => 0) 2 20 (PP 20 2 (20 + 1 - 2)))))] _ _ := w
  refine r_top (g2 := F0 m 9 ls []) rfl ?_
  refine lv_iload_n C.1 C.2.1 dX12_count_9 rfl (lv_at hl 1 rfl) ?_
  refine lv_tableOut (tgt := 120) C.1 C.2.1 dX12_count_10 k0 (by decide) ?_
  refine lv_iconst (v := (-1)) C.1 C.2.1 dX12_count_120 (by decide) ?_
  exact r_iret C w hlocks () hr rfl rfl trivial [0, 1, 2, 3] rfl rfl ⟨Nat.le_of_ble_eq_true rfl, Nat.le_of_ble_eq_true rfl⟩ dX12_count_121
theorem dX12_count_115 : decode cX12_count 115 = .ok (.aload_n 0, 1) := by decide +kernel
theorem dX12_count_116 : decode cX12_count 116 = .ok (.getfield 74, 3) := by decide +kernel
theorem dX12_count_119 : decode cX12_count 119 = .ok (.ireturn, 1) := by decide +kernel
set_option maxRecDepth 100000 in
set_option maxHeartbeats 4000000 in
theorem c_X12_count_1 (l : Launch) (D : va_G) (cy : Nat → ClassId) (a0 a1 a2 a3 a4 a5 a6 a7 a8 a9 a10 a11 a12 a13 a14 a15 a16 a17 : Nat) : Ct l D cy yX12_count cX12_count 2 (some .int) 1 22 0 0 [(a0, .inr (12, [.ref a1, .ref a2, .ref a3, .ref a4, .ref a5, .int 0, .ref a6, .int 0, .int 0, .int 0, .int 0, .int 0, .int 0, .int 0, .int 0, .int 0, .int 0, .int (-1), .ref a7, .ref a8, .int 0, .ref a9, .int 0, .ref a10, .ref a11, .ref a12, .ref a13, .ref a14, .int 0, .ref a15, .ref a16, .ref a17])), (a1, .inl (cy 1, 1868, .inl (upd (upd (upd (fun _ => 0) 1 2) 2 20) 3 120))), (a7, .inl (cy 1, 1830, .inl (fun _ => 0))), (a8, .inl (cy 1, 1830, .inl (fun _ => 0)))] [.ref a0, .int 8] (fun u : Unit => some (.int 0)) (fun _ => True) (fun u : Unit => [(a0, .inr (12, [.ref a1, .ref a2, .ref a3, .ref a4, .ref a5, .int 0, .ref a6, .int 0, .int 0, .int 0, .int 0, .int 0, .int 0, .int 0, .int 0, .int 0, .int 0, .int (-1), .ref a7, .ref a8, .int 190, .ref a9, .int 0, .ref a10, .ref a11, .ref a12, .ref a13, .ref a14, .int 0, .ref a15, .ref a16, .ref a17])), (a1, .inl (cy 1, 1868, .inl (upd (upd (upd (fun _ => 0) 1 2) 2 20) 3 120))), (a7, .inl (cy 1, 1830, .inl (lxF (fun _ => 0) 2 20 (PP 20 2 (20 + 1 - 2))))), (a8, .inl (cy 1, 1830, .inl (lyF (fun _ => 0) 2 20 (PP 20 2 (20 + 1 - 2)))))]) := by
  refine Ct.of (by decide +kernel) (Nat.le_of_ble_eq_true rfl) ?_
  intro p e s m args below meth c A ls C hr hlocks hml hnm w hl
  have hl : lv_has ls 2 [(0, .ref a0), (1, .int 8)] := hl
  refine lv_aload_n C.1 C.2.1 dX12_count_0 rfl (lv_at hl 0 rfl) ?_
  refine lv_iconst (v := 0) C.1 C.2.1 dX12_count_1 (by decide) ?_
  refine r_put C w 0 rfl rfl 5 (by decide) fl_RX12_71 rfl (ty := .int) (tyX12_ok 5 (by decide)) rfl rfl (Nat.le_of_ble_eq_true rfl) [(a0, .inr (12, [.ref a1, .ref a2, .ref a3, .ref a4, .ref a5, .int 0, .ref a6, .int 0, .int 0, .int 0, .int 0, .int 0, .int 0, .int 0, .int 0, .int 0, .int 0, .int (-1), .ref a7, .ref a8, .int 0, .ref a9, .int 0, .ref a10, .ref a11, .ref a12, .ref a13, .ref a14, .int 0, .ref a15, .ref a16, .ref a17])), (a1, .inl (cy 1, 1868, .inl (upd (upd (upd (fun _ => 0) 1 2) 2 20) 3 120))), (a7, .inl (cy 1, 1830, .inl (fun _ => 0))), (a8, .inl (cy 1, 1830, .inl (fun _ => 0)))] rfl dX12_count_2 (fun H locs w => ?_)
  refine lv_aload_n C.1 C.2.1 dX12_count_5 rfl (lv_at hl 0 rfl) ?_
  refine r_callV C w fv_RX12_253 (c_X12_layPairs_0 l D cy a0 a1 a2 a3 a4 a5 a6 a7 a8 a9 a10 a11 a12 a13 a14 a15 a16 a17) (hl.1.trans hml.symm) [0, 1, 2, 3] [] (wr := []) ⟨rfl, rfl, rfl, rfl, by decide⟩ 0 rfl rfl rfl rfl rfl ⟨Nat.le_of_ble_eq_true rfl, Nat.le_of_ble_eq_true rfl, Nat.le_of_ble_eq_true rfl⟩ 0 0 ⟨rfl, rfl, Nat.le_of_ble_eq_true rfl, Nat.le_of_ble_eq_true rfl⟩ dX12_count_6 (fun u H locs hp w => ?_)
  have w : Wd D A s.heap [(a0, .inr (12, [.ref a1, .ref a2, .ref a3, .ref a4, .ref a5, .int 0, .ref a6, .int 0, .int 0, .int 0, .int 0, .int 0, .int 0, .int 0, .int 0, .int 0, .int 0, .int (-1), .ref a7, .ref a8, .int 190, .ref a9, .int 0, .ref a10, .ref a11, .ref a12, .ref a13, .ref a14, .int 0, .ref a15, .ref a16, .ref a17])), (a1, .inl (cy 1, 1868, .inl (upd (upd (upd (fun _ => 0) 1 2) 2 20) 3 120))), (a7, .inl (cy 1, 1830, .inl (lxF (fun _ => 0) 2 20 (PP 20 2 (20 + 1 - 2))))), (a8, .inl (cy 1, 1830, .inl (lyF (fun _ => 0) 2 20 (PP 20 2 (20 + 1 - 2)))))] _ _ := w
  refine r_top (g2 := F0 m 9 ls []) rfl ?_
  refine lv_iload_n C.1 C.2.1 dX12_count_9 rfl (lv_at hl 1 rfl) ?_
  refine lv_tableIn (tgt := 115) (off := 105) C.1 C.2.1 dX12_count_10 (by decide) (by decide) (by decide) (by decide) ?_
  refine lv_aload_n C.1 C.2.1 dX12_count_115 rfl (lv_at hl 0 rfl) ?_
  refine r_get C w 0 rfl rfl 7 (by decide) fl_RX12_74 (v := .int 0) rfl dX12_count_116 ?_
  exact r_iret C w hlocks () hr rfl rfl trivial [0, 1, 2, 3] rfl rfl ⟨Nat.le_of_ble_eq_true rfl, Nat.le_of_ble_eq_true rfl⟩ dX12_count_119
theorem dX12_count_110 : decode cX12_count 110 = .ok (.aload_n 0, 1) := by decide +kernel
theorem dX12_count_111 : decode cX12_count 111 = .ok (.getfield 250, 3) := by decide +kernel
theorem dX12_count_114 : decode cX12_count 114 = .ok (.ireturn, 1) := by decide +kernel
set_option maxRecDepth 100000 in
set_option maxHeartbeats 4000000 in
theorem c_X12_count_2 (l : Launch) (D : va_G) (cy : Nat → ClassId) (a0 a1 a2 a3 a4 a5 a6 a7 a8 a9 a10 a11 a12 a13 a14 a15 a16 a17 : Nat) : Ct l D cy yX12_count cX12_count 2 (some .int) 1 22 0 0 [(a0, .inr (12, [.ref a1, .ref a2, .ref a3, .ref a4, .ref a5, .int 0, .ref a6, .int 0, .int 0, .int 0, .int 0, .int 0, .int 0, .int 0, .int 0, .int 0, .int 0, .int (-1), .ref a7, .ref a8, .int 0, .ref a9, .int 0, .ref a10, .ref a11, .ref a12, .ref a13, .ref a14, .int 0, .ref a15, .ref a16, .ref a17])), (a1, .inl (cy 1, 1868, .inl (upd (upd (upd (fun _ => 0) 1 2) 2 20) 3 120))), (a7, .inl (cy 1, 1830, .inl (fun _ => 0))), (a8, .inl (cy 1, 1830, .inl (fun _ => 0)))] [.ref a0, .int 7] (fun u : Unit => some (.int 190)) (fun _ => True) (fun u : Unit => [(a0, .inr (12, [.ref a1, .ref a2, .ref a3, .ref a4, .ref a5, .int 0, .ref a6, .int 0, .int 0, .int 0, .int 0, .int 0, .int 0, .int 0, .int 0, .int 0, .int 0, .int (-1), .ref a7, .ref a8, .int 190, .ref a9, .int 0, .ref a10, .ref a11, .ref a12, .ref a13, .ref a14, .int 0, .ref a15, .ref a16, .ref a17])), (a1, .inl (cy 1, 1868, .inl (upd (upd (upd (fun _ => 0) 1 2) 2 20) 3 120))), (a7, .inl (cy 1, 1830, .inl (lxF (fun _ => 0) 2 20 (PP 20 2 (20 + 1 - 2))))), (a8, .inl (cy 1, 1830, .inl (lyF (fun _ => 0) 2 20 (PP 20 2 (20 + 1 - 2)))))]) := by
  refine Ct.of (by decide +kernel) (Nat.le_of_ble_eq_true rfl) ?_
  intro p e s m args below meth c A ls C hr hlocks hml hnm w hl
  have hl : lv_has ls 2 [(0, .ref a0), (1, .int 7)] := hl
  refine lv_aload_n C.1 C.2.1 dX12_count_0 rfl (lv_at hl 0 rfl) ?_
  refine lv_iconst (v := 0) C.1 C.2.1 dX12_count_1 (by decide) ?_
  refine r_put C w 0 rfl rfl 5 (by decide) fl_RX12_71 rfl (ty := .int) (tyX12_ok 5 (by decide)) rfl rfl (Nat.le_of_ble_eq_true rfl) [(a0, .inr (12, [.ref a1, .ref a2, .ref a3, .ref a4, .ref a5, .int 0, .ref a6, .int 0, .int 0, .int 0, .int 0, .int 0, .int 0, .int 0, .int 0, .int 0, .int 0, .int (-1), .ref a7, .ref a8, .int 0, .ref a9, .int 0, .ref a10, .ref a11, .ref a12, .ref a13, .ref a14, .int 0, .ref a15, .ref a16, .ref a17])), (a1, .inl (cy 1, 1868, .inl (upd (upd (upd (fun _ => 0) 1 2) 2 20) 3 120))), (a7, .inl (cy 1, 1830, .inl (fun _ => 0))), (a8, .inl (cy 1, 1830, .inl (fun _ => 0)))] rfl dX12_count_2 (fun H locs w => ?_)
  refine lv_aload_n C.1 C.2.1 dX12_count_5 rfl (lv_at hl 0 rfl) ?_
  refine r_callV C w fv_RX12_253 (c_X12_layPairs_0 l D cy a0 a1 a2 a3 a4 a5 a6 a7 a8 a9 a10 a11 a12 a13 a14 a15 a16 a17) (hl.1.trans hml.symm) [0, 1, 2, 3] [] (wr := []) ⟨rfl, rfl, rfl, rfl, by decide⟩ 0 rfl rfl rfl rfl rfl ⟨Nat.le_of_ble_eq_true rfl, Nat.le_of_ble_eq_true rfl, Nat.le_of_ble_eq_true rfl⟩ 0 0 ⟨rfl, rfl, Nat.le_of_ble_eq_true rfl, Nat.le_of_ble_eq_true rfl⟩ dX12_count_6 (fun u H locs hp w => ?_)
  have w : Wd D A s.heap [(a0, .inr (12, [.ref a1, .ref a2, .ref a3, .ref a4, .ref a5, .int 0, .ref a6, .int 0, .int 0, .int 0, .int 0, .int 0, .int 0, .int 0, .int 0, .int 0, .int 0, .int (-1), .ref a7, .ref a8, .int 190, .ref a9, .int 0, .ref a10, .ref a11, .ref a12, .ref a13, .ref a14, .int 0, .ref a15, .ref a16, .ref a17])), (a1, .inl (cy 1, 1868, .inl (upd (upd (upd (fun _ => 0) 1 2) 2 20) 3 120))), (a7, .inl (cy 1, 1830, .inl (lxF (fun _ => 0) 2 20 (PP 20 2 (20 + 1 - 2))))), (a8, .inl (cy 1, 1830, .inl (lyF (fun _ => 0) 2 20 (PP 20 2 (20 + 1 - 2)))))] _ _ := w
  refine r_top (g2 := F0 m 9 ls []) rfl ?_
  refine lv_iload_n C.1 C.2.1 dX12_count_9 rfl (lv_at hl 1 rfl) ?_
  refine lv_tableIn (tgt := 110) (off := 100) C.1 C.2.1 dX12_count_10 (by decide) (by decide) (by decide) (by decide) ?_
  refine lv_aload_n C.1 C.2.1 dX12_count_110 rfl (lv_at hl 0 rfl) ?_
  refine r_get C w 0 rfl rfl 20 (by decide) fl_RX12_250 (v := .int 190) rfl dX12_count_111 ?_
  exact r_iret C w hlocks () hr rfl rfl trivial [0, 1, 2, 3] rfl rfl ⟨Nat.le_of_ble_eq_true rfl, Nat.le_of_ble_eq_true rfl⟩ dX12_count_114
theorem dX12_count_102 : decode cX12_count 102 = .ok (.aload_n 0, 1) := by decide +kernel
theorem dX12_count_103 : decode cX12_count 103 = .ok (.getfield 9, 3) := by decide +kernel
theorem dX12_count_106 : decode cX12_count 106 = .ok (.bipush 6, 2) := by decide +kernel
theorem dX12_count_108 : decode cX12_count 108 = .ok (.iaload, 1) := by decide +kernel
theorem dX12_count_109 : decode cX12_count 109 = .ok (.ireturn, 1) := by decide +kernel
set_option maxRecDepth 100000 in
set_option maxHeartbeats 4000000 in
theorem c_X12_count_3 (l : Launch) (D : va_G) (cy : Nat → ClassId) (a0 a1 a2 a3 a4 a5 a6 a7 a8 a9 a10 a11 a12 a13 a14 a15 a16 a17 : Nat) : Ct l D cy yX12_count cX12_count 2 (some .int) 1 22 0 0 [(a0, .inr (12, [.ref a1, .ref a2, .ref a3, .ref a4, .ref a5, .int 0, .ref a6, .int 0, .int 0, .int 0, .int 0, .int 0, .int 0, .int 0, .int 0, .int 0, .int 0, .int (-1), .ref a7, .ref a8, .int 0, .ref a9, .int 0, .ref a10, .ref a11, .ref a12, .ref a13, .ref a14, .int 0, .ref a15, .ref a16, .ref a17])), (a1, .inl (cy 1, 1868, .inl (upd (upd (upd (fun _ => 0) 1 2) 2 20) 3 120))), (a7, .inl (cy 1, 1830, .inl (fun _ => 0))), (a8, .inl (cy 1, 1830, .inl (fun _ => 0)))] [.ref a0, .int 6] (fun u : Unit => some (.int 0)) (fun _ => True) (fun u : Unit => [(a0, .inr (12, [.ref a1, .ref a2, .ref a3, .ref a4, .ref a5, .int 0, .ref a6, .int 0, .int 0, .int 0, .int 0, .int 0, .int 0, .int 0, .int 0, .int 0, .int 0, .int (-1), .ref a7, .ref a8, .int 190, .ref a9, .int 0, .ref a10, .ref a11, .ref a12, .ref a13, .ref a14, .int 0, .ref a15, .ref a16, .ref a17])), (a1, .inl (cy 1, 1868, .inl (upd (upd (upd (fun _ => 0) 1 2) 2 20) 3 120))), (a7, .inl (cy 1, 1830, .inl (lxF (fun _ => 0) 2 20 (PP 20 2 (20 + 1 - 2))))), (a8, .inl (cy 1, 1830, .inl (lyF (fun _ => 0) 2 20 (PP 20 2 (20 + 1 - 2)))))]) := by
  refine Ct.of (by decide +kernel) (Nat.le_of_ble_eq_true rfl) ?_
  intro p e s m args below meth c A ls C hr hlocks hml hnm w hl
  have hl : lv_has ls 2 [(0, .ref a0), (1, .int 6)] := hl
  refine lv_aload_n C.1 C.2.1 dX12_count_0 rfl (lv_at hl 0 rfl) ?_
  refine lv_iconst (v := 0) C.1 C.2.1 dX12_count_1 (by decide) ?_
  refine r_put C w 0 rfl rfl 5 (by decide) fl_RX12_71 rfl (ty := .int) (tyX12_ok 5 (by decide)) rfl rfl (Nat.le_of_ble_eq_true rfl) [(a0, .inr (12, [.ref a1, .ref a2, .ref a3, .ref a4, .ref a5, .int 0, .ref a6, .int 0, .int 0, .int 0, .int 0, .int 0, .int 0, .int 0, .int 0, .int 0, .int 0, .int (-1), .ref a7, .ref a8, .int 0, .ref a9, .int 0, .ref a10, .ref a11, .ref a12, .ref a13, .ref a14, .int 0, .ref a15, .ref a16, .ref a17])), (a1, .inl (cy 1, 1868, .inl (upd (upd (upd (fun _ => 0) 1 2) 2 20) 3 120))), (a7, .inl (cy 1, 1830, .inl (fun _ => 0))), (a8, .inl (cy 1, 1830, .inl (fun _ => 0)))] rfl dX12_count_2 (fun H locs w => ?_)
  refine lv_aload_n C.1 C.2.1 dX12_count_5 rfl (lv_at hl 0 rfl) ?_
  refine r_callV C w fv_RX12_253 (c_X12_layPairs_0 l D cy a0 a1 a2 a3 a4 a5 a6 a7 a8 a9 a10 a11 a12 a13 a14 a15 a16 a17) (hl.1.trans hml.symm) [0, 1, 2, 3] [] (wr := []) ⟨rfl, rfl, rfl, rfl, by decide⟩ 0 rfl rfl rfl rfl rfl ⟨Nat.le_of_ble_eq_true rfl, Nat.le_of_ble_eq_true rfl, Nat.le_of_ble_eq_true rfl⟩ 0 0 ⟨rfl, rfl, Nat.le_of_ble_eq_true rfl, Nat.le_of_ble_eq_true rfl⟩ dX12_count_6 (fun u H locs hp w => ?_)
  have w : Wd D A s.heap [(a0, .inr (12, [.ref a1, .ref a2, .ref a3, .ref a4, .ref a5, .int 0, .ref a6, .int 0, .int 0, .int 0, .int 0, .int 0, .int 0, .int 0, .int 0, .int 0, .int 0, .int (-1), .ref a7, .ref a8, .int 190, .ref a9, .int 0, .ref a10, .ref a11, .ref a12, .ref a13, .ref a14, .int 0, .ref a15, .ref a16, .ref a17])), (a1, .inl (cy 1, 1868, .inl (upd (upd (upd (fun _ => 0) 1 2) 2 20) 3 120))), (a7, .inl (cy 1, 1830, .inl (lxF (fun _ => 0) 2 20 (PP 20 2 (20 + 1 - 2))))), (a8, .inl (cy 1, 1830, .inl (lyF (fun _ => 0) 2 20 (PP 20 2 (20 + 1 - 2)))))] _ _ := w
  refine r_top (g2 := F0 m 9 ls []) rfl ?_
  refine lv_iload_n C.1 C.2.1 dX12_count_9 rfl (lv_at hl 1 rfl) ?_
  refine lv_tableIn (tgt := 102) (off := 92) C.1 C.2.1 dX12_count_10 (by decide) (by decide) (by decide) (by decide) ?_
  refine lv_aload_n C.1 C.2.1 dX12_count_102 rfl (lv_at hl 0 rfl) ?_
  refine r_get C w 0 rfl rfl 0 (by decide) fl_RX12_9 (v := .ref a1) rfl dX12_count_103 ?_
  refine lv_bipush (v := 6) C.1 C.2.1 dX12_count_106 (by decide) ?_
  refine r_iald C w 1 rfl (v := 0) (vinD (by decide)) rfl dX12_count_108 ?_
  exact r_iret C w hlocks () hr rfl rfl trivial [0, 1, 2, 3] rfl rfl ⟨Nat.le_of_ble_eq_true rfl, Nat.le_of_ble_eq_true rfl⟩ dX12_count_109
theorem dX12_count_95 : decode cX12_count 95 = .ok (.aload_n 0, 1) := by decide +kernel
theorem dX12_count_96 : decode cX12_count 96 = .ok (.getfield 9, 3) := by decide +kernel
theorem dX12_count_99 : decode cX12_count 99 = .ok (.iconst 5, 1) := by decide +kernel
theorem dX12_count_100 : decode cX12_count 100 = .ok (.iaload, 1) := by decide +kernel
theorem dX12_count_101 : decode cX12_count 101 = .ok (.ireturn, 1) := by decide +kernel
set_option maxRecDepth 100000 in
set_option maxHeartbeats 4000000 in
theorem c_X12_count_4 (l : Launch) (D : va_G) (cy : Nat → ClassId) (a0 a1 a2 a3 a4 a5 a6 a7 a8 a9 a10 a11 a12 a13 a14 a15 a16 a17 : Nat) : Ct l D cy yX12_count cX12_count 2 (some .int) 1 22 0 0 [(a0, .inr (12, [.ref a1, .ref a2, .ref a3, .ref a4, .ref a5, .int 0, .ref a6, .int 0, .int 0, .int 0, .int 0, .int 0, .int 0, .int 0, .int 0, .int 0, .int 0, .int (-1), .ref a7, .ref a8, .int 0, .ref a9, .int 0, .ref a10, .ref a11, .ref a12, .ref a13, .ref a14, .int 0, .ref a15, .ref a16, .ref a17])), (a1, .inl (cy 1, 1868, .inl (upd (upd (upd (fun _ => 0) 1 2) 2 20) 3 120))), (a7, .inl (cy 1, 1830, .inl (fun _ => 0))), (a8, .inl (cy 1, 1830, .inl (fun _ => 0)))] [.ref a0, .int 5] (fun u : Unit => some (.int 0)) (fun _ => True) (fun u : Unit => [(a0, .inr (12, [.ref a1, .ref a2, .ref a3, .ref a4, .ref a5, .int 0, .ref a6, .int 0, .int 0, .int 0, .int 0, .int 0, .int 0, .int 0, .int 0, .int 0, .int 0, .int (-1), .ref a7, .ref a8, .int 190, .ref a9, .int 0, .ref a10, .ref a11, .ref a12, .ref a13, .ref a14, .int 0, .ref a15, .ref a16, .ref a17])), (a1, .inl (cy 1, 1868, .inl (upd (upd (upd (fun _ => 0) 1 2) 2 20) 3 120))), (a7, .inl (cy 1, 1830, .inl (lxF (fun _ => 0) 2 20 (PP 20 2 (20 + 1 - 2))))), (a8, .inl (cy 1, 1830, .inl (lyF (fun _ => 0) 2 20 (PP 20 2 (20 + 1 - 2)))))]) := by
  refine Ct.of (by decide +kernel) (Nat.le_of_ble_eq_true rfl) ?_
  intro p e s m args below meth c A ls C hr hlocks hml hnm w hl
  have hl : lv_has ls 2 [(0, .ref a0), (1, .int 5)] := hl
  refine lv_aload_n C.1 C.2.1 dX12_count_0 rfl (lv_at hl 0 rfl) ?_
  refine lv_iconst (v := 0) C.1 C.2.1 dX12_count_1 (by decide) ?_
  refine r_put C w 0 rfl rfl 5 (by decide) fl_RX12_71 rfl (ty := .int) (tyX12_ok 5 (by decide)) rfl rfl (Nat.le_of_ble_eq_true rfl) [(a0, .inr (12, [.ref a1, .ref a2, .ref a3, .ref a4, .ref a5, .int 0, .ref a6, .int 0, .int 0, .int 0, .int 0, .int 0, .int 0, .int 0, .int 0, .int 0, .int 0, .int (-1), .ref a7, .ref a8, .int 0, .ref a9, .int 0, .ref a10, .ref a11, .ref a12, .ref a13, .ref a14, .int 0, .ref a15, .ref a16, .ref a17])), (a1, .inl (cy 1, 1868, .inl (upd (upd (upd (fun _ => 0) 1 2) 2 20) 3 120))), (a7, .inl (cy 1, 1830, .inl (fun _ => 0))), (a8, .inl (cy 1, 1830, .inl (fun _ => 0)))] rfl dX12_count_2 (fun H locs w => ?_)
  refine lv_aload_n C.1 C.2.1 dX12_count_5 rfl (lv_at hl 0 rfl) ?_
  refine r_callV C w fv_RX12_253 (c_X12_layPairs_0 l D cy a0 a1 a2 a3 a4 a5 a6 a7 a8 a9 a10 a11 a12 a13 a14 a15 a16 a17) (hl.1.trans hml.symm) [0, 1, 2, 3] [] (wr := []) ⟨rfl, rfl, rfl, rfl, by decide⟩ 0 rfl rfl rfl rfl rfl ⟨Nat.le_of_ble_eq_true rfl, Nat.le_of_ble_eq_true rfl, Nat.le_of_ble_eq_true rfl⟩ 0 0 ⟨rfl, rfl, Nat.le_of_ble_eq_true rfl, Nat.le_of_ble_eq_true rfl⟩ dX12_count_6 (fun u H locs hp w => ?_)
  have w : Wd D A s.heap [(a0, .inr (12, [.ref a1, .ref a2, .ref a3, .ref a4, .ref a5, .int 0, .ref a6, .int 0, .int 0, .int 0, .int 0, .int 0, .int 0, .int 0, .int 0, .int 0, .int 0, .int (-1), .ref a7, .ref a8, .int 190, .ref a9, .int 0, .ref a10, .ref a11, .ref a12, .ref a13, .ref a14, .int 0, .ref a15, .ref a16, .ref a17])), (a1, .inl (cy 1, 1868, .inl (upd (upd (upd (fun _ => 0) 1 2) 2 20) 3 120))), (a7, .inl (cy 1, 1830, .inl (lxF (fun _ => 0) 2 20 (PP 20 2 (20 + 1 - 2))))), (a8, .inl (cy 1, 1830, .inl (lyF (fun _ => 0) 2 20 (PP 20 2 (20 + 1 - 2)))))] _ _ := w
  refine r_top (g2 := F0 m 9 ls []) rfl ?_
  refine lv_iload_n C.1 C.2.1 dX12_count_9 rfl (lv_at hl 1 rfl) ?_
  refine lv_tableIn (tgt := 95) (off := 85) C.1 C.2.1 dX12_count_10 (by decide) (by decide) (by decide) (by decide) ?_
  refine lv_aload_n C.1 C.2.1 dX12_count_95 rfl (lv_at hl 0 rfl) ?_
  refine r_get C w 0 rfl rfl 0 (by decide) fl_RX12_9 (v := .ref a1) rfl dX12_count_96 ?_
  refine lv_iconst (v := 5) C.1 C.2.1 dX12_count_99 (by decide) ?_
  refine r_iald C w 1 rfl (v := 0) (vinD (by decide)) rfl dX12_count_100 ?_
  exact r_iret C w hlocks () hr rfl rfl trivial [0, 1, 2, 3] rfl rfl ⟨Nat.le_of_ble_eq_true rfl, Nat.le_of_ble_eq_true rfl⟩ dX12_count_101
theorem dX12_count_88 : decode cX12_count 88 = .ok (.aload_n 0, 1) := by decide +kernel
theorem dX12_count_89 : decode cX12_count 89 = .ok (.getfield 9, 3) := by decide +kernel
theorem dX12_count_92 : decode cX12_count 92 = .ok (.iconst 4, 1) := by decide +kernel
theorem dX12_count_93 : decode cX12_count 93 = .ok (.iaload, 1) := by decide +kernel
theorem dX12_count_94 : decode cX12_count 94 = .ok (.ireturn, 1) := by decide +kernel
set_option maxRecDepth 100000 in
set_option maxHeartbeats 4000000 in
theorem c_X12_count_5 (l : Launch) (D : va_G) (cy : Nat → ClassId) (a0 a1 a2 a3 a4 a5 a6 a7 a8 a9 a10 a11 a12 a13 a14 a15 a16 a17 : Nat) : Ct l D cy yX12_count cX12_count 2 (some .int) 1 22 0 0 [(a0, .inr (12, [.ref a1, .ref a2, .ref a3, .ref a4, .ref a5, .int 0, .ref a6, .int 0, .int 0, .int 0, .int 0, .int 0, .int 0, .int 0, .int 0, .int 0, .int 0, .int (-1), .ref a7, .ref a8, .int 0, .ref a9, .int 0, .ref a10, .ref a11, .ref a12, .ref a13, .ref a14, .int 0, .ref a15, .ref a16, .ref a17])), (a1, .inl (cy 1, 1868, .inl (upd (upd (upd (fun _ => 0) 1 2) 2 20) 3 120))), (a7, .inl (cy 1, 1830, .inl (fun _ => 0))), (a8, .inl (cy 1, 1830, .inl (fun _ => 0)))] [.ref a0, .int 4] (fun u : Unit => some (.int 0)) (fun _ => True) (fun u : Unit => [(a0, .inr (12, [.ref a1, .ref a2, .ref a3, .ref a4, .ref a5, .int 0, .ref a6, .int 0, .int 0, .int 0, .int 0, .int 0, .int 0, .int 0, .int 0, .int 0, .int 0, .int (-1), .ref a7, .ref a8, .int 190, .ref a9, .int 0, .ref a10, .ref a11, .ref a12, .ref a13, .ref a14, .int 0, .ref a15, .ref a16, .ref a17])), (a1, .inl (cy 1, 1868, .inl (upd (upd (upd (fun _ => 0) 1 2) 2 20) 3 120))), (a7, .inl (cy 1, 1830, .inl (lxF (fun _ => 0) 2 20 (PP 20 2 (20 + 1 - 2))))), (a8, .inl (cy 1, 1830, .inl (lyF (fun _ => 0) 2 20 (PP 20 2 (20 + 1 - 2)))))]) := by
  refine Ct.of (by decide +kernel) (Nat.le_of_ble_eq_true rfl) ?_
  intro p e s m args below meth c A ls C hr hlocks hml hnm w hl
  have hl : lv_has ls 2 [(0, .ref a0), (1, .int 4)] := hl
  refine lv_aload_n C.1 C.2.1 dX12_count_0 rfl (lv_at hl 0 rfl) ?_
  refine lv_iconst (v := 0) C.1 C.2.1 dX12_count_1 (by decide) ?_
  refine r_put C w 0 rfl rfl 5 (by decide) fl_RX12_71 rfl (ty := .int) (tyX12_ok 5 (by decide)) rfl rfl (Nat.le_of_ble_eq_true rfl) [(a0, .inr (12, [.ref a1, .ref a2, .ref a3, .ref a4, .ref a5, .int 0, .ref a6, .int 0, .int 0, .int 0, .int 0, .int 0, .int 0, .int 0, .int 0, .int 0, .int 0, .int (-1), .ref a7, .ref a8, .int 0, .ref a9, .int 0, .ref a10, .ref a11, .ref a12, .ref a13, .ref a14, .int 0, .ref a15, .ref a16, .ref a17])), (a1, .inl (cy 1, 1868, .inl (upd (upd (upd (fun _ => 0) 1 2) 2 20) 3 120))), (a7, .inl (cy 1, 1830, .inl (fun _ => 0))), (a8, .inl (cy 1, 1830, .inl (fun _ => 0)))] rfl dX12_count_2 (fun H locs w => ?_)
  refine lv_aload_n C.1 C.2.1 dX12_count_5 rfl (lv_at hl 0 rfl) ?_
  refine r_callV C w fv_RX12_253 (c_X12_layPairs_0 l D cy a0 a1 a2 a3 a4 a5 a6 a7 a8 a9 a10 a11 a12 a13 a14 a15 a16 a17) (hl.1.trans hml.symm) [0, 1, 2, 3] [] (wr := []) ⟨rfl, rfl, rfl, rfl, by decide⟩ 0 rfl rfl rfl rfl rfl ⟨Nat.le_of_ble_eq_true rfl, Nat.le_of_ble_eq_true rfl, Nat.le_of_ble_eq_true rfl⟩ 0 0 ⟨rfl, rfl, Nat.le_of_ble_eq_true rfl, Nat.le_of_ble_eq_true rfl⟩ dX12_count_6 (fun u H locs hp w => ?_)
  have w : Wd D A s.heap [(a0, .inr (12, [.ref a1, .ref a2, .ref a3, .ref a4, .ref a5, .int 0, .ref a6, .int 0, .int 0, .int 0, .int 0, .int 0, .int 0, .int 0, .int 0, .int 0, .int 0, .int (-1), .ref a7, .ref a8, .int 190, .ref a9, .int 0, .ref a10, .ref a11, .ref a12, .ref a13, .ref a14, .int 0, .ref a15, .ref a16, .ref a17])), (a1, .inl (cy 1, 1868, .inl (upd (upd (upd (fun _ => 0) 1 2) 2 20) 3 120))), (a7, .inl (cy 1, 1830, .inl (lxF (fun _ => 0) 2 20 (PP 20 2 (20 + 1 - 2))))), (a8, .inl (cy 1, 1830, .inl (lyF (fun _ => 0) 2 20 (PP 20 2 (20 + 1 - 2)))))] _ _ := w
  refine r_top (g2 := F0 m 9 ls []) rfl ?_
  refine lv_iload_n C.1 C.2.1 dX12_count_9 rfl (lv_at hl 1 rfl) ?_
  refine lv_tableIn (tgt := 88) (off := 78) C.1 C.2.1 dX12_count_10 (by decide) (by decide) (by decide) (by decide) ?_
  refine lv_aload_n C.1 C.2.1 dX12_count_88 rfl (lv_at hl 0 rfl) ?_
  refine r_get C w 0 rfl rfl 0 (by decide) fl_RX12_9 (v := .ref a1) rfl dX12_count_89 ?_
  refine lv_iconst (v := 4) C.1 C.2.1 dX12_count_92 (by decide) ?_
  refine r_iald C w 1 rfl (v := 0) (vinD (by decide)) rfl dX12_count_93 ?_
  exact r_iret C w hlocks () hr rfl rfl trivial [0, 1, 2, 3] rfl rfl ⟨Nat.le_of_ble_eq_true rfl, Nat.le_of_ble_eq_true rfl⟩ dX12_count_94
theorem dX12_count_81 : decode cX12_count 81 = .ok (.aload_n 0, 1) := by decide +kernel
theorem dX12_count_82 : decode cX12_count 82 = .ok (.getfield 9, 3) := by decide +kernel
theorem dX12_count_85 : decode cX12_count 85 = .ok (.iconst 3, 1) := by decide +kernel
theorem dX12_count_86 : decode cX12_count 86 = .ok (.iaload, 1) := by decide +kernel
theorem dX12_count_87 : decode cX12_count 87 = .ok (.ireturn, 1) := by decide +kernel
set_option maxRecDepth 100000 in
set_option maxHeartbeats 4000000 in
theorem c_X12_count_6 (l : Launch) (D : va_G) (cy : Nat → ClassId) (a0 a1 a2 a3 a4 a5 a6 a7 a8 a9 a10 a11 a12 a13 a14 a15 a16 a17 : Nat) : Ct l D cy yX12_count cX12_count 2 (some .int) 1 22 0 0 [(a0, .inr (12, [.ref a1, .ref a2, .ref a3, .ref a4, .ref a5, .int 0, .ref a6, .int 0, .int 0, .int 0, .int 0, .int 0, .int 0, .int 0, .int 0, .int 0, .int 0, .int (-1), .ref a7, .ref a8, .int 0, .ref a9, .int 0, .ref a10, .ref a11, .ref a12, .ref a13, .ref a14, .int 0, .ref a15, .ref a16, .ref a17])), (a1, .inl (cy 1, 1868, .inl (upd (upd (upd (fun _ => 0) 1 2) 2 20) 3 120))), (a7, .inl (cy 1, 1830, .inl (fun _ => 0))), (a8, .inl (cy 1, 1830, .inl (fun _ => 0)))] [.ref a0, .int 3] (fun u : Unit => some (.int 120)) (fun _ => True) (fun u : Unit => [(a0, .inr (12, [.ref a1, .ref a2, .ref a3, .ref a4, .ref a5, .int 0, .ref a6, .int 0, .int 0, .int 0, .int 0, .int 0, .int 0, .int 0, .int 0, .int 0, .int 0, .int (-1), .ref a7, .ref a8, .int 190, .ref a9, .int 0, .ref a10, .ref a11, .ref a12, .ref a13, .ref a14, .int 0, .ref a15, .ref a16, .ref a17])), (a1, .inl (cy 1, 1868, .inl (upd (upd (upd (fun _ => 0) 1 2) 2 20) 3 120))), (a7, .inl (cy 1, 1830, .inl (lxF (fun _ => 0) 2 20 (PP 20 2 (20 + 1 - 2))))), (a8, .inl (cy 1, 1830, .inl (lyF (fun _ => 0) 2 20 (PP 20 2 (20 + 1 - 2)))))]) := by
  refine Ct.of (by decide +kernel) (Nat.le_of_ble_eq_true rfl) ?_
  intro p e s m args below meth c A ls C hr hlocks hml hnm w hl
  have hl : lv_has ls 2 [(0, .ref a0), (1, .int 3)] := hl
  refine lv_aload_n C.1 C.2.1 dX12_count_0 rfl (lv_at hl 0 rfl) ?_
  refine lv_iconst (v := 0) C.1 C.2.1 dX12_count_1 (by decide) ?_
  refine r_put C w 0 rfl rfl 5 (by decide) fl_RX12_71 rfl (ty := .int) (tyX12_ok 5 (by decide)) rfl rfl (Nat.le_of_ble_eq_true rfl) [(a0, .inr (12, [.ref a1, .ref a2, .ref a3, .ref a4, .ref a5, .int 0, .ref a6, .int 0, .int 0, .int 0, .int 0, .int 0, .int 0, .int 0, .int 0, .int 0, .int 0, .int (-1), .ref a7, .ref a8, .int 0, .ref a9, .int 0, .ref a10, .ref a11, .ref a12, .ref a13, .ref a14, .int 0, .ref a15, .ref a16, .ref a17])), (a1, .inl (cy 1, 1868, .inl (upd (upd (upd (fun _ => 0) 1 2) 2 20) 3 120))), (a7, .inl (cy 1, 1830, .inl (fun _ => 0))), (a8, .inl (cy 1, 1830, .inl (fun _ => 0)))] rfl dX12_count_2 (fun H locs w => ?_)
  refine lv_aload_n C.1 C.2.1 dX12_count_5 rfl (lv_at hl 0 rfl) ?_
  refine r_callV C w fv_RX12_253 (c_X12_layPairs_0 l D cy a0 a1 a2 a3 a4 a5 a6 a7 a8 a9 a10 a11 a12 a13 a14 a15 a16 a17) (hl.1.trans hml.symm) [0, 1, 2, 3] [] (wr := []) ⟨rfl, rfl, rfl, rfl, by decide⟩ 0 rfl rfl rfl rfl rfl ⟨Nat.le_of_ble_eq_true rfl, Nat.le_of_ble_eq_true rfl, Nat.le_of_ble_eq_true rfl⟩ 0 0 ⟨rfl, rfl, Nat.le_of_ble_eq_true rfl, Nat.le_of_ble_eq_true rfl⟩ dX12_count_6 (fun u H locs hp w => ?_)
  have w : Wd D A s.heap [(a0, .inr (12, [.ref a1, .ref a2, .ref a3, .ref a4, .ref a5, .int 0, .ref a6, .int 0, .int 0, .int 0, .int 0, .int 0, .int 0, .int 0, .int 0, .int 0, .int 0, .int (-1), .ref a7, .ref a8, .int 190, .ref a9, .int 0, .ref a10, .ref a11, .ref a12, .ref a13, .ref a14, .int 0, .ref a15, .ref a16, .ref a17])), (a1, .inl (cy 1, 1868, .inl (upd (upd (upd (fun _ => 0) 1 2) 2 20) 3 120))), (a7, .inl (cy 1, 1830, .inl (lxF (fun _ => 0) 2 20 (PP 20 2 (20 + 1 - 2))))), (a8, .inl (cy 1, 1830, .inl (lyF (fun _ => 0) 2 20 (PP 20 2 (20 + 1 - 2)))))] _ _ := w
  refine r_top (g2 := F0 m 9 ls []) rfl ?_
  refine lv_iload_n C.1 C.2.1 dX12_count_9 rfl (lv_at hl 1 rfl) ?_
  refine lv_tableIn (tgt := 81) (off := 71) C.1 C.2.1 dX12_count_10 (by decide) (by decide) (by decide) (by decide) ?_
  refine lv_aload_n C.1 C.2.1 dX12_count_81 rfl (lv_at hl 0 rfl) ?_
  refine r_get C w 0 rfl rfl 0 (by decide) fl_RX12_9 (v := .ref a1) rfl dX12_count_82 ?_
  refine lv_iconst (v := 3) C.1 C.2.1 dX12_count_85 (by decide) ?_
  refine r_iald C w 1 rfl (v := 120) (vinD (by decide)) rfl dX12_count_86 ?_
  exact r_iret C w hlocks () hr rfl rfl trivial [0, 1, 2, 3] rfl rfl ⟨Nat.le_of_ble_eq_true rfl, Nat.le_of_ble_eq_true rfl⟩ dX12_count_87
theorem dX12_count_74 : decode cX12_count 74 = .ok (.aload_n 0, 1) := by decide +kernel
theorem dX12_count_75 : decode cX12_count 75 = .ok (.getfield 9, 3) := by decide +kernel
theorem dX12_count_78 : decode cX12_count 78 = .ok (.iconst 2, 1) := by decide +kernel
theorem dX12_count_79 : decode cX12_count 79 = .ok (.iaload, 1) := by decide +kernel
theorem dX12_count_80 : decode cX12_count 80 = .ok (.ireturn, 1) := by decide +kernel
set_option maxRecDepth 100000 in
set_option maxHeartbeats 4000000 in
theorem c_X12_count_7 (l : Launch) (D : va_G) (cy : Nat → ClassId) (a0 a1 a2 a3 a4 a5 a6 a7 a8 a9 a10 a11 a12 a13 a14 a15 a16 a17 : Nat) : Ct l D cy yX12_count cX12_count 2 (some .int) 1 22 0 0 [(a0, .inr (12, [.ref a1, .ref a2, .ref a3, .ref a4, .ref a5, .int 0, .ref a6, .int 0, .int 0, .int 0, .int 0, .int 0, .int 0, .int 0, .int 0, .int 0, .int 0, .int (-1), .ref a7, .ref a8, .int 0, .ref a9, .int 0, .ref a10, .ref a11, .ref a12, .ref a13, .ref a14, .int 0, .ref a15, .ref a16, .ref a17])), (a1, .inl (cy 1, 1868, .inl (upd (upd (upd (fun _ => 0) 1 2) 2 20) 3 120))), (a7, .inl (cy 1, 1830, .inl (fun _ => 0))), (a8, .inl (cy 1, 1830, .inl (fun _ => 0)))] [.ref a0, .int 2] (fun u : Unit => some (.int 20)) (fun _ => True) (fun u : Unit => [(a0, .inr (12, [.ref a1, .ref a2, .ref a3, .ref a4, .ref a5, .int 0, .ref a6, .int 0, .int 0, .int 0, .int 0, .int 0, .int 0, .int 0, .int 0, .int 0, .int 0, .int (-1), .ref a7, .ref a8, .int 190, .ref a9, .int 0, .ref a10, .ref a11, .ref a12, .ref a13, .ref a14, .int 0, .ref a15, .ref a16, .ref a17])), (a1, .inl (cy 1, 1868, .inl (upd (upd (upd (fun _ => 0) 1 2) 2 20) 3 120))), (a7, .inl (cy 1, 1830, .inl (lxF (fun _ => 0) 2 20 (PP 20 2 (20 + 1 - 2))))), (a8, .inl (cy 1, 1830, .inl (lyF (fun _ => 0) 2 20 (PP 20 2 (20 + 1 - 2)))))]) := by
  refine Ct.of (by decide +kernel) (Nat.le_of_ble_eq_true rfl) ?_
  intro p e s m args below meth c A ls C hr hlocks hml hnm w hl
  have hl : lv_has ls 2 [(0, .ref a0), (1, .int 2)] := hl
  refine lv_aload_n C.1 C.2.1 dX12_count_0 rfl (lv_at hl 0 rfl) ?_
  refine lv_iconst (v := 0) C.1 C.2.1 dX12_count_1 (by decide) ?_
  refine r_put C w 0 rfl rfl 5 (by decide) fl_RX12_71 rfl (ty := .int) (tyX12_ok 5 (by decide)) rfl rfl (Nat.le_of_ble_eq_true rfl) [(a0, .inr (12, [.ref a1, .ref a2, .ref a3, .ref a4, .ref a5, .int 0, .ref a6, .int 0, .int 0, .int 0, .int 0, .int 0, .int 0, .int 0, .int 0, .int 0, .int 0, .int (-1), .ref a7, .ref a8, .int 0, .ref a9, .int 0, .ref a10, .ref a11, .ref a12, .ref a13, .ref a14, .int 0, .ref a15, .ref a16, .ref a17])), (a1, .inl (cy 1, 1868, .inl (upd (upd (upd (fun _ => 0) 1 2) 2 20) 3 120))), (a7, .inl (cy 1, 1830, .inl (fun _ => 0))), (a8, .inl (cy 1, 1830, .inl (fun _ => 0)))] rfl dX12_count_2 (fun H locs w => ?_)
  refine lv_aload_n C.1 C.2.1 dX12_count_5 rfl (lv_at hl 0 rfl) ?_
  refine r_callV C w fv_RX12_253 (c_X12_layPairs_0 l D cy a0 a1 a2 a3 a4 a5 a6 a7 a8 a9 a10 a11 a12 a13 a14 a15 a16 a17) (hl.1.trans hml.symm) [0, 1, 2, 3] [] (wr := []) ⟨rfl, rfl, rfl, rfl, by decide⟩ 0 rfl rfl rfl rfl rfl ⟨Nat.le_of_ble_eq_true rfl, Nat.le_of_ble_eq_true rfl, Nat.le_of_ble_eq_true rfl⟩ 0 0 ⟨rfl, rfl, Nat.le_of_ble_eq_true rfl, Nat.le_of_ble_eq_true rfl⟩ dX12_count_6 (fun u H locs hp w => ?_)
  have w : Wd D A s.heap [(a0, .inr (12, [.ref a1, .ref a2, .ref a3, .ref a4, .ref a5, .int 0, .ref a6, .int 0, .int 0, .int 0, .int 0, .int 0, .int 0, .int 0, .int 0, .int 0, .int 0, .int (-1), .ref a7, .ref a8, .int 190, .ref a9, .int 0, .ref a10, .ref a11, .ref a12, .ref a13, .ref a14, .int 0, .ref a15, .ref a16, .ref a17])), (a1, .inl (cy 1, 1868, .inl (upd (upd (upd (fun _ => 0) 1 2) 2 20) 3 120))), (a7, .inl (cy 1, 1830, .inl (lxF (fun _ => 0) 2 20 (PP 20 2 (20 + 1 - 2))))), (a8, .inl (cy 1, 1830, .inl (lyF (fun _ => 0) 2 20 (PP 20 2 (20 + 1 - 2)))))] _ _ := w
  refine r_top (g2 := F0 m 9 ls []) rfl ?_
  refine lv_iload_n C.1 C.2.1 dX12_count_9 rfl (lv_at hl 1 rfl) ?_
  refine lv_tableIn (tgt := 74) (off := 64) C.1 C.2.1 dX12_count_10 (by decide) (by decide) (by decide) (by decide) ?_
  refine lv_aload_n C.1 C.2.1 dX12_count_74 rfl (lv_at hl 0 rfl) ?_
  refine r_get C w 0 rfl rfl 0 (by decide) fl_RX12_9 (v := .ref a1) rfl dX12_count_75 ?_
  refine lv_iconst (v := 2) C.1 C.2.1 dX12_count_78 (by decide) ?_
  refine r_iald C w 1 rfl (v := 20) (vinD (by decide)) rfl dX12_count_79 ?_
  exact r_iret C w hlocks () hr rfl rfl trivial [0, 1, 2, 3] rfl rfl ⟨Nat.le_of_ble_eq_true rfl, Nat.le_of_ble_eq_true rfl⟩ dX12_count_80
theorem dX12_count_67 : decode cX12_count 67 = .ok (.aload_n 0, 1) := by decide +kernel
theorem dX12_count_68 : decode cX12_count 68 = .ok (.getfield 9, 3) := by decide +kernel
theorem dX12_count_71 : decode cX12_count 71 = .ok (.iconst 1, 1) := by decide +kernel
theorem dX12_count_72 : decode cX12_count 72 = .ok (.iaload, 1) := by decide +kernel
theorem dX12_count_73 : decode cX12_count 73 = .ok (.ireturn, 1) := by decide +kernel
set_option maxRecDepth 100000 in
set_option maxHeartbeats 4000000 in
theorem c_X12_count_8 (l : Launch) (D : va_G) (cy : Nat → ClassId) (a0 a1 a2 a3 a4 a5 a6 a7 a8 a9 a10 a11 a12 a13 a14 a15 a16 a17 : Nat) : Ct l D cy yX12_count cX12_count 2 (some .int) 1 22 0 0 [(a0, .inr (12, [.ref a1, .ref a2, .ref a3, .ref a4, .ref a5, .int 0, .ref a6, .int 0, .int 0, .int 0, .int 0, .int 0, .int 0, .int 0, .int 0, .int 0, .int 0, .int (-1), .ref a7, .ref a8, .int 0, .ref a9, .int 0, .ref a10, .ref a11, .ref a12, .ref a13, .ref a14, .int 0, .ref a15, .ref a16, .ref a17])), (a1, .inl (cy 1, 1868, .inl (upd (upd (upd (fun _ => 0) 1 2) 2 20) 3 120))), (a7, .inl (cy 1, 1830, .inl (fun _ => 0))), (a8, .inl (cy 1, 1830, .inl (fun _ => 0)))] [.ref a0, .int 1] (fun u : Unit => some (.int 2)) (fun _ => True) (fun u : Unit => [(a0, .inr (12, [.ref a1, .ref a2, .ref a3, .ref a4, .ref a5, .int 0, .ref a6, .int 0, .int 0, .int 0, .int 0, .int 0, .int 0, .int 0, .int 0, .int 0, .int 0, .int (-1), .ref a7, .ref a8, .int 190, .ref a9, .int 0, .ref a10, .ref a11, .ref a12, .ref a13, .ref a14, .int 0, .ref a15, .ref a16, .ref a17])), (a1, .inl (cy 1, 1868, .inl (upd (upd (upd (fun _ => 0) 1 2) 2 20) 3 120))), (a7, .inl (cy 1, 1830, .inl (lxF (fun _ => 0) 2 20 (PP 20 2 (20 + 1 - 2))))), (a8, .inl (cy 1, 1830, .inl (lyF (fun _ => 0) 2 20 (PP 20 2 (20 + 1 - 2)))))]) := by
  refine Ct.of (by decide +kernel) (Nat.le_of_ble_eq_true rfl) ?_
  intro p e s m args below meth c A ls C hr hlocks hml hnm w hl
  have hl : lv_has ls 2 [(0, .ref a0), (1, .int 1)] := hl
  refine lv_aload_n C.1 C.2.1 dX12_count_0 rfl (lv_at hl 0 rfl) ?_
  refine lv_iconst (v := 0) C.1 C.2.1 dX12_count_1 (by decide) ?_
  refine r_put C w 0 rfl rfl 5 (by decide) fl_RX12_71 rfl (ty := .int) (tyX12_ok 5 (by decide)) rfl rfl (Nat.le_of_ble_eq_true rfl) [(a0, .inr (12, [.ref a1, .ref a2, .ref a3, .ref a4, .ref a5, .int 0, .ref a6, .int 0, .int 0, .int 0, .int 0, .int 0, .int 0, .int 0, .int 0, .int 0, .int 0, .int (-1), .ref a7, .ref a8, .int 0, .ref a9, .int 0, .ref a10, .ref a11, .ref a12, .ref a13, .ref a14, .int 0, .ref a15, .ref a16, .ref a17])), (a1, .inl (cy 1, 1868, .inl (upd (upd (upd (fun _ => 0) 1 2) 2 20) 3 120))), (a7, .inl (cy 1, 1830, .inl (fun _ => 0))), (a8, .inl (cy 1, 1830, .inl (fun _ => 0)))] rfl dX12_count_2 (fun H locs w => ?_)
  refine lv_aload_n C.1 C.2.1 dX12_count_5 rfl (lv_at hl 0 rfl) ?_
  refine r_callV C w fv_RX12_253 (c_X12_layPairs_0 l D cy a0 a1 a2 a3 a4 a5 a6 a7 a8 a9 a10 a11 a12 a13 a14 a15 a16 a17) (hl.1.trans hml.symm) [0, 1, 2, 3] [] (wr := []) ⟨rfl, rfl, rfl, rfl, by decide⟩ 0 rfl rfl rfl rfl rfl ⟨Nat.le_of_ble_eq_true rfl, Nat.le_of_ble_eq_true rfl, Nat.le_of_ble_eq_true rfl⟩ 0 0 ⟨rfl, rfl, Nat.le_of_ble_eq_true rfl, Nat.le_of_ble_eq_true rfl⟩ dX12_count_6 (fun u H locs hp w => ?_)
  have w : Wd D A s.heap [(a0, .inr (12, [.ref a1, .ref a2, .ref a3, .ref a4, .ref a5, .int 0, .ref a6, .int 0, .int 0, .int 0, .int 0, .int 0, .int 0, .int 0, .int 0, .int 0, .int 0, .int (-1), .ref a7, .ref a8, .int 190, .ref a9, .int 0, .ref a10, .ref a11, .ref a12, .ref a13, .ref a14, .int 0, .ref a15, .ref a16, .ref a17])), (a1, .inl (cy 1, 1868, .inl (upd (upd (upd (fun _ => 0) 1 2) 2 20) 3 120))), (a7, .inl (cy 1, 1830, .inl (lxF (fun _ => 0) 2 20 (PP 20 2 (20 + 1 - 2))))), (a8, .inl (cy 1, 1830, .inl (lyF (fun _ => 0) 2 20 (PP 20 2 (20 + 1 - 2)))))] _ _ := w
  refine r_top (g2 := F0 m 9 ls []) rfl ?_
  refine lv_iload_n C.1 C.2.1 dX12_count_9 rfl (lv_at hl 1 rfl) ?_
  refine lv_tableIn (tgt := 67) (off := 57) C.1 C.2.1 dX12_count_10 (by decide) (by decide) (by decide) (by decide) ?_
  refine lv_aload_n C.1 C.2.1 dX12_count_67 rfl (lv_at hl 0 rfl) ?_
  refine r_get C w 0 rfl rfl 0 (by decide) fl_RX12_9 (v := .ref a1) rfl dX12_count_68 ?_
  refine lv_iconst (v := 1) C.1 C.2.1 dX12_count_71 (by decide) ?_
  refine r_iald C w 1 rfl (v := 2) (vinD (by decide)) rfl dX12_count_72 ?_
  exact r_iret C w hlocks () hr rfl rfl trivial [0, 1, 2, 3] rfl rfl ⟨Nat.le_of_ble_eq_true rfl, Nat.le_of_ble_eq_true rfl⟩ dX12_count_73
theorem dX12_count_60 : decode cX12_count 60 = .ok (.aload_n 0, 1) := by decide +kernel
theorem dX12_count_61 : decode cX12_count 61 = .ok (.getfield 9, 3) := by decide +kernel
theorem dX12_count_64 : decode cX12_count 64 = .ok (.iconst 0, 1) := by decide +kernel
theorem dX12_count_65 : decode cX12_count 65 = .ok (.iaload, 1) := by decide +kernel
theorem dX12_count_66 : decode cX12_count 66 = .ok (.ireturn, 1) := by decide +kernel
set_option maxRecDepth 100000 in
set_option maxHeartbeats 4000000 in
theorem c_X12_count_9 (l : Launch) (D : va_G) (cy : Nat → ClassId) (a0 a1 a2 a3 a4 a5 a6 a7 a8 a9 a10 a11 a12 a13 a14 a15 a16 a17 : Nat) : Ct l D cy yX12_count cX12_count 2 (some .int) 1 22 0 0 [(a0, .inr (12, [.ref a1, .ref a2, .ref a3, .ref a4, .ref a5, .int 0, .ref a6, .int 0, .int 0, .int 0, .int 0, .int 0, .int 0, .int 0, .int 0, .int 0, .int 0, .int (-1), .ref a7, .ref a8, .int 0, .ref a9, .int 0, .ref a10, .ref a11, .ref a12, .ref a13, .ref a14, .int 0, .ref a15, .ref a16, .ref a17])), (a1, .inl (cy 1, 1868, .inl (upd (upd (upd (fun _ => 0) 1 2) 2 20) 3 120))), (a7, .inl (cy 1, 1830, .inl (fun _ => 0))), (a8, .inl (cy 1, 1830, .inl (fun _ => 0)))] [.ref a0, .int 0] (fun u : Unit => some (.int 0)) (fun _ => True) (fun u : Unit => [(a0, .inr (12, [.ref a1, .ref a2, .ref a3, .ref a4, .ref a5, .int 0, .ref a6, .int 0, .int 0, .int 0, .int 0, .int 0, .int 0, .int 0, .int 0, .int 0, .int 0, .int (-1), .ref a7, .ref a8, .int 190, .ref a9, .int 0, .ref a10, .ref a11, .ref a12, .ref a13, .ref a14, .int 0, .ref a15, .ref a16, .ref a17])), (a1, .inl (cy 1, 1868, .inl (upd (upd (upd (fun _ => 0) 1 2) 2 20) 3 120))), (a7, .inl (cy 1, 1830, .inl (lxF (fun _ => 0) 2 20 (PP 20 2 (20 + 1 - 2))))), (a8, .inl (cy 1, 1830, .inl (lyF (fun _ => 0) 2 20 (PP 20 2 (20 + 1 - 2)))))]) := by
  refine Ct.of (by decide +kernel) (Nat.le_of_ble_eq_true rfl) ?_
  intro p e s m args below meth c A ls C hr hlocks hml hnm w hl
  have hl : lv_has ls 2 [(0, .ref a0), (1, .int 0)] := hl
  refine lv_aload_n C.1 C.2.1 dX12_count_0 rfl (lv_at hl 0 rfl) ?_
  refine lv_iconst (v := 0) C.1 C.2.1 dX12_count_1 (by decide) ?_
  refine r_put C w 0 rfl rfl 5 (by decide) fl_RX12_71 rfl (ty := .int) (tyX12_ok 5 (by decide)) rfl rfl (Nat.le_of_ble_eq_true rfl) [(a0, .inr (12, [.ref a1, .ref a2, .ref a3, .ref a4, .ref a5, .int 0, .ref a6, .int 0, .int 0, .int 0, .int 0, .int 0, .int 0, .int 0, .int 0, .int 0, .int 0, .int (-1), .ref a7, .ref a8, .int 0, .ref a9, .int 0, .ref a10, .ref a11, .ref a12, .ref a13, .ref a14, .int 0, .ref a15, .ref a16, .ref a17])), (a1, .inl (cy 1, 1868, .inl (upd (upd (upd (fun _ => 0) 1 2) 2 20) 3 120))), (a7, .inl (cy 1, 1830, .inl (fun _ => 0))), (a8, .inl (cy 1, 1830, .inl (fun _ => 0)))] rfl dX12_count_2 (fun H locs w => ?_)
  refine lv_aload_n C.1 C.2.1 dX12_count_5 rfl (lv_at hl 0 rfl) ?_
  refine r_callV C w fv_RX12_253 (c_X12_layPairs_0 l D cy a0 a1 a2 a3 a4 a5 a6 a7 a8 a9 a10 a11 a12 a13 a14 a15 a16 a17) (hl.1.trans hml.symm) [0, 1, 2, 3] [] (wr := []) ⟨rfl, rfl, rfl, rfl, by decide⟩ 0 rfl rfl rfl rfl rfl ⟨Nat.le_of_ble_eq_true rfl, Nat.le_of_ble_eq_true rfl, Nat.le_of_ble_eq_true rfl⟩ 0 0 ⟨rfl, rfl, Nat.le_of_ble_eq_true rfl, Nat.le_of_ble_eq_true rfl⟩ dX12_count_6 (fun u H locs hp w => ?_)
  have w : Wd D A s.heap [(a0, .inr (12, [.ref a1, .ref a2, .ref a3, .ref a4, .ref a5, .int 0, .ref a6, .int 0, .int 0, .int 0, .int 0, .int 0, .int 0, .int 0, .int 0, .int 0, .int 0, .int (-1), .ref a7, .ref a8, .int 190, .ref a9, .int 0, .ref a10, .ref a11, .ref a12, .ref a13, .ref a14, .int 0, .ref a15, .ref a16, .ref a17])), (a1, .inl (cy 1, 1868, .inl (upd (upd (upd (fun _ => 0) 1 2) 2 20) 3 120))), (a7, .inl (cy 1, 1830, .inl (lxF (fun _ => 0) 2 20 (PP 20 2 (20 + 1 - 2))))), (a8, .inl (cy 1, 1830, .inl (lyF (fun _ => 0) 2 20 (PP 20 2 (20 + 1 - 2)))))] _ _ := w
  refine r_top (g2 := F0 m 9 ls []) rfl ?_
  refine lv_iload_n C.1 C.2.1 dX12_count_9 rfl (lv_at hl 1 rfl) ?_
  refine lv_tableIn (tgt := 60) (off := 50) C.1 C.2.1 dX12_count_10 (by decide) (by decide) (by decide) (by decide) ?_
  refine lv_aload_n C.1 C.2.1 dX12_count_60 rfl (lv_at hl 0 rfl) ?_
  refine r_get C w 0 rfl rfl 0 (by decide) fl_RX12_9 (v := .ref a1) rfl dX12_count_61 ?_
  refine lv_iconst (v := 0) C.1 C.2.1 dX12_count_64 (by decide) ?_
  refine r_iald C w 1 rfl (v := 0) (vinD (by decide)) rfl dX12_count_65 ?_
  exact r_iret C w hlocks () hr rfl rfl trivial [0, 1, 2, 3] rfl rfl ⟨Nat.le_of_ble_eq_true rfl, Nat.le_of_ble_eq_true rfl⟩ dX12_count_66
theorem dX12_world_0 : decode cX12_world 0 = .ok (.aload_n 0, 1) := by decide +kernel
theorem dX12_world_1 : decode cX12_world 1 = .ok (.iconst 0, 1) := by decide +kernel
theorem dX12_world_2 : decode cX12_world 2 = .ok (.putfield 71, 3) := by decide +kernel
theorem dX12_world_5 : decode cX12_world 5 = .ok (.aload_n 0, 1) := by decide +kernel
theorem dX12_world_6 : decode cX12_world 6 = .ok (.iload_n 1, 1) := by decide +kernel
theorem dX12_world_7 : decode cX12_world 7 = .ok (.invokevirtual 256, 3) := by decide +kernel
theorem dX12_isWorld_0 : decode cX12_isWorld 0 = .ok (.aload_n 0, 1) := by decide +kernel
theorem dX12_isWorld_1 : decode cX12_isWorld 1 = .ok (.invokevirtual 253, 3) := by decide +kernel
theorem dX12_isWorld_4 : decode cX12_isWorld 4 = .ok (.iload_n 1, 1) := by decide +kernel
theorem dX12_isWorld_5 : decode cX12_isWorld 5 = .ok (.i2l, 1) := by decide +kernel
theorem dX12_isWorld_6 : decode cX12_isWorld 6 = .ok (.lconst 0, 1) := by decide +kernel
theorem dX12_isWorld_7 : decode cX12_isWorld 7 = .ok (.aload_n 0, 1) := by decide +kernel
theorem dX12_isWorld_8 : decode cX12_isWorld 8 = .ok (.getfield 250, 3) := by decide +kernel
theorem dX12_isWorld_11 : decode cX12_isWorld 11 = .ok (.iconst 1, 1) := by decide +kernel
theorem dX12_isWorld_12 : decode cX12_isWorld 12 = .ok (.isub, 1) := by decide +kernel
theorem dX12_isWorld_13 : decode cX12_isWorld 13 = .ok (.i2l, 1) := by decide +kernel
theorem dX12_isWorld_14 : decode cX12_isWorld 14 = .ok (.invokestatic 133, 3) := by decide +kernel
set_option maxRecDepth 100000 in
set_option maxHeartbeats 4000000 in
theorem c_X12_within_12 (l : Launch) (D : va_G) (cy : Nat → ClassId) (x0 : Int32) (k0 : x0 < 0) : Ct l D cy yX12_within cX12_within 6 (some .boolean) 0 0 0 0 [] [.long (Int32.toInt64 x0), .long 0, .long 189] (fun u : Unit => some (.int 0)) (fun _ => True) (fun u : Unit => []) := by
  refine Ct.of (by decide +kernel) (Nat.le_of_ble_eq_true rfl) ?_
  intro p e s m args below meth c A ls C hr hlocks hml hnm w hl
  have hl : lv_has ls 6 [(0, .long (Int32.toInt64 x0)), (2, .long 0), (4, .long 189)] := hl
  refine lv_lload_n C.1 C.2.1 dX12_within_0 rfl (lv_at hl 0 rfl) ?_
  refine lv_lload_n C.1 C.2.1 dX12_within_1 rfl (lv_at hl 1 rfl) ?_
  refine r_lcmp C (v := (lg_cmp (Int32.toInt64 x0) 0)) dX12_within_2 rfl ?_
  refine b_if_lt_t C (tgt := 17) dX12_within_3 (by decide) (cmp_lt (x := x0) (y := 0) k0) ?_
  refine lv_iconst (v := 0) C.1 C.2.1 dX12_within_17 (by decide) ?_
  exact r_iret C w hlocks () hr rfl rfl trivial [] rfl rfl ⟨Nat.le_of_ble_eq_true rfl, Nat.le_of_ble_eq_true rfl⟩ dX12_within_18
set_option maxRecDepth 100000 in
set_option maxHeartbeats 4000000 in
theorem c_X12_within_13 (l : Launch) (D : va_G) (cy : Nat → ClassId) (x0 : Int32) (k0 : ¬ x0 < 0) (k1 : 189 < x0) : Ct l D cy yX12_within cX12_within 6 (some .boolean) 0 0 0 0 [] [.long (Int32.toInt64 x0), .long 0, .long 189] (fun u : Unit => some (.int 0)) (fun _ => True) (fun u : Unit => []) := by
  refine Ct.of (by decide +kernel) (Nat.le_of_ble_eq_true rfl) ?_
  intro p e s m args below meth c A ls C hr hlocks hml hnm w hl
  have hl : lv_has ls 6 [(0, .long (Int32.toInt64 x0)), (2, .long 0), (4, .long 189)] := hl
  refine lv_lload_n C.1 C.2.1 dX12_within_0 rfl (lv_at hl 0 rfl) ?_
  refine lv_lload_n C.1 C.2.1 dX12_within_1 rfl (lv_at hl 1 rfl) ?_
  refine r_lcmp C (v := (lg_cmp (Int32.toInt64 x0) 0)) dX12_within_2 rfl ?_
  refine b_if_lt_f C (tgt := 17) dX12_within_3 (by decide) (cmp_nlt (x := x0) (y := 0) k0) ?_
  refine lv_lload_n C.1 C.2.1 dX12_within_6 rfl (lv_at hl 0 rfl) ?_
  refine lv_lload C.1 C.2.1 dX12_within_7 (lv_at hl 2 rfl) ?_
  refine r_lcmp C (v := (lg_cmp (Int32.toInt64 x0) 189)) dX12_within_9 rfl ?_
  refine b_if_gt_t C (tgt := 17) dX12_within_10 (by decide) (cmp_gt (x := x0) (y := 189) k1) ?_
  refine lv_iconst (v := 0) C.1 C.2.1 dX12_within_17 (by decide) ?_
  exact r_iret C w hlocks () hr rfl rfl trivial [] rfl rfl ⟨Nat.le_of_ble_eq_true rfl, Nat.le_of_ble_eq_true rfl⟩ dX12_within_18
set_option maxRecDepth 100000 in
set_option maxHeartbeats 4000000 in
theorem c_X12_within_14 (l : Launch) (D : va_G) (cy : Nat → ClassId) (x0 : Int32) (k0 : ¬ x0 < 0) (k1 : ¬ 189 < x0) : Ct l D cy yX12_within cX12_within 6 (some .boolean) 0 0 0 0 [] [.long (Int32.toInt64 x0), .long 0, .long 189] (fun u : Unit => some (.int 1)) (fun _ => True) (fun u : Unit => []) := by
  refine Ct.of (by decide +kernel) (Nat.le_of_ble_eq_true rfl) ?_
  intro p e s m args below meth c A ls C hr hlocks hml hnm w hl
  have hl : lv_has ls 6 [(0, .long (Int32.toInt64 x0)), (2, .long 0), (4, .long 189)] := hl
  refine lv_lload_n C.1 C.2.1 dX12_within_0 rfl (lv_at hl 0 rfl) ?_
  refine lv_lload_n C.1 C.2.1 dX12_within_1 rfl (lv_at hl 1 rfl) ?_
  refine r_lcmp C (v := (lg_cmp (Int32.toInt64 x0) 0)) dX12_within_2 rfl ?_
  refine b_if_lt_f C (tgt := 17) dX12_within_3 (by decide) (cmp_nlt (x := x0) (y := 0) k0) ?_
  refine lv_lload_n C.1 C.2.1 dX12_within_6 rfl (lv_at hl 0 rfl) ?_
  refine lv_lload C.1 C.2.1 dX12_within_7 (lv_at hl 2 rfl) ?_
  refine r_lcmp C (v := (lg_cmp (Int32.toInt64 x0) 189)) dX12_within_9 rfl ?_
  refine b_if_gt_f C (tgt := 17) dX12_within_10 (by decide) (cmp_ngt (x := x0) (y := 189) k1) ?_
  refine lv_iconst (v := 1) C.1 C.2.1 dX12_within_13 (by decide) ?_
  refine lv_goto (tgt := 18) C.1 C.2.1 dX12_within_14 (by decide) ?_
  exact r_iret C w hlocks () hr rfl rfl trivial [] rfl rfl ⟨Nat.le_of_ble_eq_true rfl, Nat.le_of_ble_eq_true rfl⟩ dX12_within_18
theorem dX12_isWorld_17 : decode cX12_isWorld 17 = .ok (.ireturn, 1) := by decide +kernel
set_option maxRecDepth 100000 in
set_option maxHeartbeats 4000000 in
theorem c_X12_isWorld_0 (l : Launch) (D : va_G) (cy : Nat → ClassId) (a0 a1 a2 a3 a4 a5 a6 a7 a8 a9 a10 a11 a12 a13 a14 a15 a16 a17 : Nat) (x0 : Int32) (k0 : x0 < 0) : Ct l D cy yX12_isWorld cX12_isWorld 2 (some .boolean) 1 25 0 0 [(a0, .inr (12, [.ref a1, .ref a2, .ref a3, .ref a4, .ref a5, .int 0, .ref a6, .int 0, .int 0, .int 0, .int 0, .int 0, .int 0, .int 0, .int 0, .int 0, .int 0, .int (-1), .ref a7, .ref a8, .int 0, .ref a9, .int 0, .ref a10, .ref a11, .ref a12, .ref a13, .ref a14, .int 0, .ref a15, .ref a16, .ref a17])), (a1, .inl (cy 1, 1868, .inl (upd (upd (upd (fun _ => 0) 1 2) 2 20) 3 120))), (a7, .inl (cy 1, 1830, .inl (fun _ => 0))), (a8, .inl (cy 1, 1830, .inl (fun _ => 0)))] [.ref a0, .int x0] (fun u : Unit => some (.int 0)) (fun _ => True) (fun u : Unit => [(a0, .inr (12, [.ref a1, .ref a2, .ref a3, .ref a4, .ref a5, .int 0, .ref a6, .int 0, .int 0, .int 0, .int 0, .int 0, .int 0, .int 0, .int 0, .int 0, .int 0, .int (-1), .ref a7, .ref a8, .int 190, .ref a9, .int 0, .ref a10, .ref a11, .ref a12, .ref a13, .ref a14, .int 0, .ref a15, .ref a16, .ref a17])), (a1, .inl (cy 1, 1868, .inl (upd (upd (upd (fun _ => 0) 1 2) 2 20) 3 120))), (a7, .inl (cy 1, 1830, .inl (lxF (fun _ => 0) 2 20 (PP 20 2 (20 + 1 - 2))))), (a8, .inl (cy 1, 1830, .inl (lyF (fun _ => 0) 2 20 (PP 20 2 (20 + 1 - 2)))))]) := by
  refine Ct.of (by decide +kernel) (Nat.le_of_ble_eq_true rfl) ?_
  intro p e s m args below meth c A ls C hr hlocks hml hnm w hl
  have hl : lv_has ls 2 [(0, .ref a0), (1, .int x0)] := hl
  refine lv_aload_n C.1 C.2.1 dX12_isWorld_0 rfl (lv_at hl 0 rfl) ?_
  refine r_callV C w fv_RX12_253 (c_X12_layPairs_0 l D cy a0 a1 a2 a3 a4 a5 a6 a7 a8 a9 a10 a11 a12 a13 a14 a15 a16 a17) (hl.1.trans hml.symm) [0, 1, 2, 3] [] (wr := []) ⟨rfl, rfl, rfl, rfl, by decide⟩ 0 rfl rfl rfl rfl rfl ⟨Nat.le_of_ble_eq_true rfl, Nat.le_of_ble_eq_true rfl, Nat.le_of_ble_eq_true rfl⟩ 0 0 ⟨rfl, rfl, Nat.le_of_ble_eq_true rfl, Nat.le_of_ble_eq_true rfl⟩ dX12_isWorld_1 (fun u H locs hp w => ?_)
  have w : Wd D A s.heap [(a0, .inr (12, [.ref a1, .ref a2, .ref a3, .ref a4, .ref a5, .int 0, .ref a6, .int 0, .int 0, .int 0, .int 0, .int 0, .int 0, .int 0, .int 0, .int 0, .int 0, .int (-1), .ref a7, .ref a8, .int 190, .ref a9, .int 0, .ref a10, .ref a11, .ref a12, .ref a13, .ref a14, .int 0, .ref a15, .ref a16, .ref a17])), (a1, .inl (cy 1, 1868, .inl (upd (upd (upd (fun _ => 0) 1 2) 2 20) 3 120))), (a7, .inl (cy 1, 1830, .inl (lxF (fun _ => 0) 2 20 (PP 20 2 (20 + 1 - 2))))), (a8, .inl (cy 1, 1830, .inl (lyF (fun _ => 0) 2 20 (PP 20 2 (20 + 1 - 2)))))] _ _ := w
  refine r_top (g2 := F0 m 4 ls []) rfl ?_
  refine lv_iload_n C.1 C.2.1 dX12_isWorld_4 rfl (lv_at hl 1 rfl) ?_
  refine lv_i2l (v := (Int32.toInt64 x0)) C.1 C.2.1 dX12_isWorld_5 rfl ?_
  refine lv_lconst (v := 0) C.1 C.2.1 dX12_isWorld_6 (by decide) ?_
  refine lv_aload_n C.1 C.2.1 dX12_isWorld_7 rfl (lv_at hl 0 rfl) ?_
  refine r_get C w 0 rfl rfl 20 (by decide) fl_RX12_250 (v := .int 190) rfl dX12_isWorld_8 ?_
  refine lv_iconst (v := 1) C.1 C.2.1 dX12_isWorld_11 (by decide) ?_
  refine r_isub C (v := 189) dX12_isWorld_12 (by decide) ?_
  refine lv_i2l (v := 189) C.1 C.2.1 dX12_isWorld_13 (by decide) ?_
  refine r_callS C w fs_RX12_133 (c_X12_within_12 l D cy x0 k0) (hl.1.trans hml.symm) [] [0, 1, 2, 3] (wr := [(a0, .inr (12, [.ref a1, .ref a2, .ref a3, .ref a4, .ref a5, .int 0, .ref a6, .int 0, .int 0, .int 0, .int 0, .int 0, .int 0, .int 0, .int 0, .int 0, .int 0, .int (-1), .ref a7, .ref a8, .int 190, .ref a9, .int 0, .ref a10, .ref a11, .ref a12, .ref a13, .ref a14, .int 0, .ref a15, .ref a16, .ref a17])), (a1, .inl (cy 1, 1868, .inl (upd (upd (upd (fun _ => 0) 1 2) 2 20) 3 120))), (a7, .inl (cy 1, 1830, .inl (lxF (fun _ => 0) 2 20 (PP 20 2 (20 + 1 - 2))))), (a8, .inl (cy 1, 1830, .inl (lyF (fun _ => 0) 2 20 (PP 20 2 (20 + 1 - 2)))))]) ⟨rfl, rfl, rfl, rfl, by decide⟩ rfl rfl ⟨Nat.le_of_ble_eq_true rfl, Nat.le_of_ble_eq_true rfl, Nat.le_of_ble_eq_true rfl⟩ 0 0 ⟨rfl, rfl, Nat.le_of_ble_eq_true rfl, Nat.le_of_ble_eq_true rfl⟩ dX12_isWorld_14 (fun u H locs hp w => ?_)
  have w : Wd D A s.heap [(a0, .inr (12, [.ref a1, .ref a2, .ref a3, .ref a4, .ref a5, .int 0, .ref a6, .int 0, .int 0, .int 0, .int 0, .int 0, .int 0, .int 0, .int 0, .int 0, .int 0, .int (-1), .ref a7, .ref a8, .int 190, .ref a9, .int 0, .ref a10, .ref a11, .ref a12, .ref a13, .ref a14, .int 0, .ref a15, .ref a16, .ref a17])), (a1, .inl (cy 1, 1868, .inl (upd (upd (upd (fun _ => 0) 1 2) 2 20) 3 120))), (a7, .inl (cy 1, 1830, .inl (lxF (fun _ => 0) 2 20 (PP 20 2 (20 + 1 - 2))))), (a8, .inl (cy 1, 1830, .inl (lyF (fun _ => 0) 2 20 (PP 20 2 (20 + 1 - 2)))))] _ _ := w
  refine r_top (g2 := F0 m 17 ls [.int 0]) rfl ?_
  exact r_iret C w hlocks () hr rfl rfl trivial [0, 1, 2, 3] rfl rfl ⟨Nat.le_of_ble_eq_true rfl, Nat.le_of_ble_eq_true rfl⟩ dX12_isWorld_17
set_option maxRecDepth 100000 in
set_option maxHeartbeats 4000000 in
theorem c_X12_isWorld_1 (l : Launch) (D : va_G) (cy : Nat → ClassId) (a0 a1 a2 a3 a4 a5 a6 a7 a8 a9 a10 a11 a12 a13 a14 a15 a16 a17 : Nat) (x0 : Int32) (k0 : ¬ x0 < 0) (k1 : ¬ 189 < x0) : Ct l D cy yX12_isWorld cX12_isWorld 2 (some .boolean) 1 25 0 0 [(a0, .inr (12, [.ref a1, .ref a2, .ref a3, .ref a4, .ref a5, .int 0, .ref a6, .int 0, .int 0, .int 0, .int 0, .int 0, .int 0, .int 0, .int 0, .int 0, .int 0, .int (-1), .ref a7, .ref a8, .int 0, .ref a9, .int 0, .ref a10, .ref a11, .ref a12, .ref a13, .ref a14, .int 0, .ref a15, .ref a16, .ref a17])), (a1, .inl (cy 1, 1868, .inl (upd (upd (upd (fun _ => 0) 1 2) 2 20) 3 120))), (a7, .inl (cy 1, 1830, .inl (fun _ => 0))), (a8, .inl (cy 1, 1830, .inl (fun _ => 0)))] [.ref a0, .int x0] (fun u : Unit => some (.int 1)) (fun _ => True) (fun u : Unit => [(a0, .inr (12, [.ref a1, .ref a2, .ref a3, .ref a4, .ref a5, .int 0, .ref a6, .int 0, .int 0, .int 0, .int 0, .int 0, .int 0, .int 0, .int 0, .int 0, .int 0, .int (-1), .ref a7, .ref a8, .int 190, .ref a9, .int 0, .ref a10, .ref a11, .ref a12, .ref a13, .ref a14, .int 0, .ref a15, .ref a16, .ref a17])), (a1, .inl (cy 1, 1868, .inl (upd (upd (upd (fun _ => 0) 1 2) 2 20) 3 120))), (a7, .inl (cy 1, 1830, .inl (lxF (fun _ => 0) 2 20 (PP 20 2 (20 + 1 - 2))))), (a8, .inl (cy 1, 1830, .inl (lyF (fun _ => 0) 2 20 (PP 20 2 (20 + 1 - 2)))))]) := by
  refine Ct.of (by decide +kernel) (Nat.le_of_ble_eq_true rfl) ?_
  intro p e s m args below meth c A ls C hr hlocks hml hnm w hl
  have hl : lv_has ls 2 [(0, .ref a0), (1, .int x0)] := hl
  refine lv_aload_n C.1 C.2.1 dX12_isWorld_0 rfl (lv_at hl 0 rfl) ?_
  refine r_callV C w fv_RX12_253 (c_X12_layPairs_0 l D cy a0 a1 a2 a3 a4 a5 a6 a7 a8 a9 a10 a11 a12 a13 a14 a15 a16 a17) (hl.1.trans hml.symm) [0, 1, 2, 3] [] (wr := []) ⟨rfl, rfl, rfl, rfl, by decide⟩ 0 rfl rfl rfl rfl rfl ⟨Nat.le_of_ble_eq_true rfl, Nat.le_of_ble_eq_true rfl, Nat.le_of_ble_eq_true rfl⟩ 0 0 ⟨rfl, rfl, Nat.le_of_ble_eq_true rfl, Nat.le_of_ble_eq_true rfl⟩ dX12_isWorld_1 (fun u H locs hp w => ?_)
  have w : Wd D A s.heap [(a0, .inr (12, [.ref a1, .ref a2, .ref a3, .ref a4, .ref a5, .int 0, .ref a6, .int 0, .int 0, .int 0, .int 0, .int 0, .int 0, .int 0, .int 0, .int 0, .int 0, .int (-1), .ref a7, .ref a8, .int 190, .ref a9, .int 0, .ref a10, .ref a11, .ref a12, .ref a13, .ref a14, .int 0, .ref a15, .ref a16, .ref a17])), (a1, .inl (cy 1, 1868, .inl (upd (upd (upd (fun _ => 0) 1 2) 2 20) 3 120))), (a7, .inl (cy 1, 1830, .inl (lxF (fun _ => 0) 2 20 (PP 20 2 (20 + 1 - 2))))), (a8, .inl (cy 1, 1830, .inl (lyF (fun _ => 0) 2 20 (PP 20 2 (20 + 1 - 2)))))] _ _ := w
  refine r_top (g2 := F0 m 4 ls []) rfl ?_
  refine lv_iload_n C.1 C.2.1 dX12_isWorld_4 rfl (lv_at hl 1 rfl) ?_
  refine lv_i2l (v := (Int32.toInt64 x0)) C.1 C.2.1 dX12_isWorld_5 rfl ?_
  refine lv_lconst (v := 0) C.1 C.2.1 dX12_isWorld_6 (by decide) ?_
  refine lv_aload_n C.1 C.2.1 dX12_isWorld_7 rfl (lv_at hl 0 rfl) ?_
  refine r_get C w 0 rfl rfl 20 (by decide) fl_RX12_250 (v := .int 190) rfl dX12_isWorld_8 ?_
  refine lv_iconst (v := 1) C.1 C.2.1 dX12_isWorld_11 (by decide) ?_
  refine r_isub C (v := 189) dX12_isWorld_12 (by decide) ?_
  refine lv_i2l (v := 189) C.1 C.2.1 dX12_isWorld_13 (by decide) ?_
  refine r_callS C w fs_RX12_133 (c_X12_within_14 l D cy x0 k0 k1) (hl.1.trans hml.symm) [] [0, 1, 2, 3] (wr := [(a0, .inr (12, [.ref a1, .ref a2, .ref a3, .ref a4, .ref a5, .int 0, .ref a6, .int 0, .int 0, .int 0, .int 0, .int 0, .int 0, .int 0, .int 0, .int 0, .int 0, .int (-1), .ref a7, .ref a8, .int 190, .ref a9, .int 0, .ref a10, .ref a11, .ref a12, .ref a13, .ref a14, .int 0, .ref a15, .ref a16, .ref a17])), (a1, .inl (cy 1, 1868, .inl (upd (upd (upd (fun _ => 0) 1 2) 2 20) 3 120))), (a7, .inl (cy 1, 1830, .inl (lxF (fun _ => 0) 2 20 (PP 20 2 (20 + 1 - 2))))), (a8, .inl (cy 1, 1830, .inl (lyF (fun _ => 0) 2 20 (PP 20 2 (20 + 1 - 2)))))]) ⟨rfl, rfl, rfl, rfl, by decide⟩ rfl rfl ⟨Nat.le_of_ble_eq_true rfl, Nat.le_of_ble_eq_true rfl, Nat.le_of_ble_eq_true rfl⟩ 0 0 ⟨rfl, rfl, Nat.le_of_ble_eq_true rfl, Nat.le_of_ble_eq_true rfl⟩ dX12_isWorld_14 (fun u H locs hp w => ?_)
  have w : Wd D A s.heap [(a0, .inr (12, [.ref a1, .ref a2, .ref a3, .ref a4, .ref a5, .int 0, .ref a6, .int 0, .int 0, .int 0, .int 0, .int 0, .int 0, .int 0, .int 0, .int 0, .int 0, .int (-1), .ref a7, .ref a8, .int 190, .ref a9, .int 0, .ref a10, .ref a11, .ref a12, .ref a13, .ref a14, .int 0, .ref a15, .ref a16, .ref a17])), (a1, .inl (cy 1, 1868, .inl (upd (upd (upd (fun _ => 0) 1 2) 2 20) 3 120))), (a7, .inl (cy 1, 1830, .inl (lxF (fun _ => 0) 2 20 (PP 20 2 (20 + 1 - 2))))), (a8, .inl (cy 1, 1830, .inl (lyF (fun _ => 0) 2 20 (PP 20 2 (20 + 1 - 2)))))] _ _ := w
  refine r_top (g2 := F0 m 17 ls [.int 1]) rfl ?_
  exact r_iret C w hlocks () hr rfl rfl trivial [0, 1, 2, 3] rfl rfl ⟨Nat.le_of_ble_eq_true rfl, Nat.le_of_ble_eq_true rfl⟩ dX12_isWorld_17
set_option maxRecDepth 100000 in
set_option maxHeartbeats 4000000 in
theorem c_X12_isWorld_2 (l : Launch) (D : va_G) (cy : Nat → ClassId) (a0 a1 a2 a3 a4 a5 a6 a7 a8 a9 a10 a11 a12 a13 a14 a15 a16 a17 : Nat) (x0 : Int32) (k0 : ¬ x0 < 0) (k1 : 189 < x0) : Ct l D cy yX12_isWorld cX12_isWorld 2 (some .boolean) 1 25 0 0 [(a0, .inr (12, [.ref a1, .ref a2, .ref a3, .ref a4, .ref a5, .int 0, .ref a6, .int 0, .int 0, .int 0, .int 0, .int 0, .int 0, .int 0, .int 0, .int 0, .int 0, .int (-1), .ref a7, .ref a8, .int 0, .ref a9, .int 0, .ref a10, .ref a11, .ref a12, .ref a13, .ref a14, .int 0, .ref a15, .ref a16, .ref a17])), (a1, .inl (cy 1, 1868, .inl (upd (upd (upd (fun _ => 0) 1 2) 2 20) 3 120))), (a7, .inl (cy 1, 1830, .inl (fun _ => 0))), (a8, .inl (cy 1, 1830, .inl (fun _ => 0)))] [.ref a0, .int x0] (fun u : Unit => some (.int 0)) (fun _ => True) (fun u : Unit => [(a0, .inr (12, [.ref a1, .ref a2, .ref a3, .ref a4, .ref a5, .int 0, .ref a6, .int 0, .int 0, .int 0, .int 0, .int 0, .int 0, .int 0, .int 0, .int 0, .int 0, .int (-1), .ref a7, .ref a8, .int 190, .ref a9, .int 0, .ref a10, .ref a11, .ref a12, .ref a13, .ref a14, .int 0, .ref a15, .ref a16, .ref a17])), (a1, .inl (cy 1, 1868, .inl (upd (upd (upd (fun _ => 0) 1 2) 2 20) 3 120))), (a7, .inl (cy 1, 1830, .inl (lxF (fun _ => 0) 2 20 (PP 20 2 (20 + 1 - 2))))), (a8, .inl (cy 1, 1830, .inl (lyF (fun _ => 0) 2 20 (PP 20 2 (20 + 1 - 2)))))]) := by
  refine Ct.of (by decide +kernel) (Nat.le_of_ble_eq_true rfl) ?_
  intro p e s m args below meth c A ls C hr hlocks hml hnm w hl
  have hl : lv_has ls 2 [(0, .ref a0), (1, .int x0)] := hl
  refine lv_aload_n C.1 C.2.1 dX12_isWorld_0 rfl (lv_at hl 0 rfl) ?_
  refine r_callV C w fv_RX12_253 (c_X12_layPairs_0 l D cy a0 a1 a2 a3 a4 a5 a6 a7 a8 a9 a10 a11 a12 a13 a14 a15 a16 a17) (hl.1.trans hml.symm) [0, 1, 2, 3] [] (wr := []) ⟨rfl, rfl, rfl, rfl, by decide⟩ 0 rfl rfl rfl rfl rfl ⟨Nat.le_of_ble_eq_true rfl, Nat.le_of_ble_eq_true rfl, Nat.le_of_ble_eq_true rfl⟩ 0 0 ⟨rfl, rfl, Nat.le_of_ble_eq_true rfl, Nat.le_of_ble_eq_true rfl⟩ dX12_isWorld_1 (fun u H locs hp w => ?_)
  have w : Wd D A s.heap [(a0, .inr (12, [.ref a1, .ref a2, .ref a3, .ref a4, .ref a5, .int 0, .ref a6, .int 0, .int 0, .int 0, .int 0, .int 0, .int 0, .int 0, .int 0, .int 0, .int 0, .int (-1), .ref a7, .ref a8, .int 190, .ref a9, .int 0, .ref a10, .ref a11, .ref a12, .ref a13, .ref a14, .int 0, .ref a15, .ref a16, .ref a17])), (a1, .inl (cy 1, 1868, .inl (upd (upd (upd (fun _ => 0) 1 2) 2 20) 3 120))), (a7, .inl (cy 1, 1830, .inl (lxF (fun _ => 0) 2 20 (PP 20 2 (20 + 1 - 2))))), (a8, .inl (cy 1, 1830, .inl (lyF (fun _ => 0) 2 20 (PP 20 2 (20 + 1 - 2)))))] _ _ := w
  refine r_top (g2 := F0 m 4 ls []) rfl ?_
  refine lv_iload_n C.1 C.2.1 dX12_isWorld_4 rfl (lv_at hl 1 rfl) ?_
  refine lv_i2l (v := (Int32.toInt64 x0)) C.1 C.2.1 dX12_isWorld_5 rfl ?_
  refine lv_lconst (v := 0) C.1 C.2.1 dX12_isWorld_6 (by decide) ?_
  refine lv_aload_n C.1 C.2.1 dX12_isWorld_7 rfl (lv_at hl 0 rfl) ?_
  refine r_get C w 0 rfl rfl 20 (by decide) fl_RX12_250 (v := .int 190) rfl dX12_isWorld_8 ?_
  refine lv_iconst (v := 1) C.1 C.2.1 dX12_isWorld_11 (by decide) ?_
  refine r_isub C (v := 189) dX12_isWorld_12 (by decide) ?_
  refine lv_i2l (v := 189) C.1 C.2.1 dX12_isWorld_13 (by decide) ?_
  refine r_callS C w fs_RX12_133 (c_X12_within_13 l D cy x0 k0 k1) (hl.1.trans hml.symm) [] [0, 1, 2, 3] (wr := [(a0, .inr (12, [.ref a1, .ref a2, .ref a3, .ref a4, .ref a5, .int 0, .ref a6, .int 0, .int 0, .int 0, .int 0, .int 0, .int 0, .int 0, .int 0, .int 0, .int 0, .int (-1), .ref a7, .ref a8, .int 190, .ref a9, .int 0, .ref a10, .ref a11, .ref a12, .ref a13, .ref a14, .int 0, .ref a15, .ref a16, .ref a17])), (a1, .inl (cy 1, 1868, .inl (upd (upd (upd (fun _ => 0) 1 2) 2 20) 3 120))), (a7, .inl (cy 1, 1830, .inl (lxF (fun _ => 0) 2 20 (PP 20 2 (20 + 1 - 2))))), (a8, .inl (cy 1, 1830, .inl (lyF (fun _ => 0) 2 20 (PP 20 2 (20 + 1 - 2)))))]) ⟨rfl, rfl, rfl, rfl, by decide⟩ rfl rfl ⟨Nat.le_of_ble_eq_true rfl, Nat.le_of_ble_eq_true rfl, Nat.le_of_ble_eq_true rfl⟩ 0 0 ⟨rfl, rfl, Nat.le_of_ble_eq_true rfl, Nat.le_of_ble_eq_true rfl⟩ dX12_isWorld_14 (fun u H locs hp w => ?_)
  have w : Wd D A s.heap [(a0, .inr (12, [.ref a1, .ref a2, .ref a3, .ref a4, .ref a5, .int 0, .ref a6, .int 0, .int 0, .int 0, .int 0, .int 0, .int 0, .int 0, .int 0, .int 0, .int 0, .int (-1), .ref a7, .ref a8, .int 190, .ref a9, .int 0, .ref a10, .ref a11, .ref a12, .ref a13, .ref a14, .int 0, .ref a15, .ref a16, .ref a17])), (a1, .inl (cy 1, 1868, .inl (upd (upd (upd (fun _ => 0) 1 2) 2 20) 3 120))), (a7, .inl (cy 1, 1830, .inl (lxF (fun _ => 0) 2 20 (PP 20 2 (20 + 1 - 2))))), (a8, .inl (cy 1, 1830, .inl (lyF (fun _ => 0) 2 20 (PP 20 2 (20 + 1 - 2)))))] _ _ := w
  refine r_top (g2 := F0 m 17 ls [.int 0]) rfl ?_
  exact r_iret C w hlocks () hr rfl rfl trivial [0, 1, 2, 3] rfl rfl ⟨Nat.le_of_ble_eq_true rfl, Nat.le_of_ble_eq_true rfl⟩ dX12_isWorld_17
theorem fv_RX12_256 : FV RX12 256 yX12_isWorld cX12_isWorld 2 (some .boolean) 1 := ⟨⟨gw_mem (by decide +kernel) (by decide +kernel), gw_mem (by decide +kernel) (by decide +kernel), gw_mem (by decide +kernel) (by decide +kernel), gw_mem (by decide +kernel) (by decide +kernel), gw_mem (by decide +kernel) (by decide +kernel)⟩, ⟨by decide +kernel, by decide +kernel, by decide +kernel⟩⟩
theorem dX12_world_10 : decode cX12_world 10 = .ok (.ifCond .ne 9, 3) := by decide +kernel
theorem dX12_world_13 : decode cX12_world 13 = .ok (.aload_n 0, 1) := by decide +kernel
theorem dX12_world_14 : decode cX12_world 14 = .ok (.iconst 1, 1) := by decide +kernel
theorem dX12_world_15 : decode cX12_world 15 = .ok (.invokevirtual 237, 3) := by decide +kernel
set_option maxRecDepth 100000 in
set_option maxHeartbeats 4000000 in
theorem c_X12_fails_1 (l : Launch) (D : va_G) (cy : Nat → ClassId) (a0 a1 a2 a3 a4 a5 a6 a7 a8 a9 a10 a11 a12 a13 a14 a15 a16 a17 : Nat) : Ct l D cy yX12_fails cX12_fails 2 (some .int) 0 0 0 0 [(a0, .inr (12, [.ref a1, .ref a2, .ref a3, .ref a4, .ref a5, .int 0, .ref a6, .int 0, .int 0, .int 0, .int 0, .int 0, .int 0, .int 0, .int 0, .int 0, .int 0, .int (-1), .ref a7, .ref a8, .int 190, .ref a9, .int 0, .ref a10, .ref a11, .ref a12, .ref a13, .ref a14, .int 0, .ref a15, .ref a16, .ref a17]))] [.ref a0, .int 1] (fun u : Unit => some (.int 0)) (fun _ => True) (fun u : Unit => [(a0, .inr (12, [.ref a1, .ref a2, .ref a3, .ref a4, .ref a5, .int 1, .ref a6, .int 0, .int 0, .int 0, .int 0, .int 0, .int 0, .int 0, .int 0, .int 0, .int 0, .int (-1), .ref a7, .ref a8, .int 190, .ref a9, .int 0, .ref a10, .ref a11, .ref a12, .ref a13, .ref a14, .int 0, .ref a15, .ref a16, .ref a17]))]) := by
  refine Ct.of (by decide +kernel) (Nat.le_of_ble_eq_true rfl) ?_
  intro p e s m args below meth c A ls C hr hlocks hml hnm w hl
  have hl : lv_has ls 2 [(0, .ref a0), (1, .int 1)] := hl
  refine lv_aload_n C.1 C.2.1 dX12_fails_0 rfl (lv_at hl 0 rfl) ?_
  refine lv_iload_n C.1 C.2.1 dX12_fails_1 rfl (lv_at hl 1 rfl) ?_
  refine r_put C w 0 rfl rfl 5 (by decide) fl_RX12_71 rfl (ty := .int) (tyX12_ok 5 (by decide)) rfl rfl (Nat.le_of_ble_eq_true rfl) [(a0, .inr (12, [.ref a1, .ref a2, .ref a3, .ref a4, .ref a5, .int 1, .ref a6, .int 0, .int 0, .int 0, .int 0, .int 0, .int 0, .int 0, .int 0, .int 0, .int 0, .int (-1), .ref a7, .ref a8, .int 190, .ref a9, .int 0, .ref a10, .ref a11, .ref a12, .ref a13, .ref a14, .int 0, .ref a15, .ref a16, .ref a17]))] rfl dX12_fails_2 (fun H locs w => ?_)
  refine lv_iconst (v := 0) C.1 C.2.1 dX12_fails_5 (by decide) ?_
  exact r_iret C w hlocks () hr rfl rfl trivial [0] rfl rfl ⟨Nat.le_of_ble_eq_true rfl, Nat.le_of_ble_eq_true rfl⟩ dX12_fails_6
theorem dX12_world_18 : decode cX12_world 18 = .ok (.ireturn, 1) := by decide +kernel
set_option maxRecDepth 100000 in
set_option maxHeartbeats 4000000 in
theorem c_X12_world_0 (l : Launch) (D : va_G) (cy : Nat → ClassId) (a0 a1 a2 a3 a4 a5 a6 a7 a8 a9 a10 a11 a12 a13 a14 a15 a16 a17 : Nat) (x0 : Int32) (x1 : Int32) (k0 : x0 < 0) : Ct l D cy yX12_world cX12_world 3 (some .int) 2 46 0 0 [(a0, .inr (12, [.ref a1, .ref a2, .ref a3, .ref a4, .ref a5, .int 0, .ref a6, .int 0, .int 0, .int 0, .int 0, .int 0, .int 0, .int 0, .int 0, .int 0, .int 0, .int (-1), .ref a7, .ref a8, .int 0, .ref a9, .int 0, .ref a10, .ref a11, .ref a12, .ref a13, .ref a14, .int 0, .ref a15, .ref a16, .ref a17])), (a1, .inl (cy 1, 1868, .inl (upd (upd (upd (fun _ => 0) 1 2) 2 20) 3 120))), (a7, .inl (cy 1, 1830, .inl (fun _ => 0))), (a8, .inl (cy 1, 1830, .inl (fun _ => 0)))] [.ref a0, .int x0, .int x1] (fun u : Unit => some (.int 0)) (fun _ => True) (fun u : Unit => [(a1, .inl (cy 1, 1868, .inl (upd (upd (upd (fun _ => 0) 1 2) 2 20) 3 120))), (a7, .inl (cy 1, 1830, .inl (lxF (fun _ => 0) 2 20 (PP 20 2 (20 + 1 - 2))))), (a8, .inl (cy 1, 1830, .inl (lyF (fun _ => 0) 2 20 (PP 20 2 (20 + 1 - 2))))), (a0, .inr (12, [.ref a1, .ref a2, .ref a3, .ref a4, .ref a5, .int 1, .ref a6, .int 0, .int 0, .int 0, .int 0, .int 0, .int 0, .int 0, .int 0, .int 0, .int 0, .int (-1), .ref a7, .ref a8, .int 190, .ref a9, .int 0, .ref a10, .ref a11, .ref a12, .ref a13, .ref a14, .int 0, .ref a15, .ref a16, .ref a17]))]) := by
  refine Ct.of (by decide +kernel) (Nat.le_of_ble_eq_true rfl) ?_
  intro p e s m args below meth c A ls C hr hlocks hml hnm w hl
  have hl : lv_has ls 3 [(0, .ref a0), (1, .int x0), (2, .int x1)] := hl
  refine lv_aload_n C.1 C.2.1 dX12_world_0 rfl (lv_at hl 0 rfl) ?_
  refine lv_iconst (v := 0) C.1 C.2.1 dX12_world_1 (by decide) ?_
  refine r_put C w 0 rfl rfl 5 (by decide) fl_RX12_71 rfl (ty := .int) (tyX12_ok 5 (by decide)) rfl rfl (Nat.le_of_ble_eq_true rfl) [(a0, .inr (12, [.ref a1, .ref a2, .ref a3, .ref a4, .ref a5, .int 0, .ref a6, .int 0, .int 0, .int 0, .int 0, .int 0, .int 0, .int 0, .int 0, .int 0, .int 0, .int (-1), .ref a7, .ref a8, .int 0, .ref a9, .int 0, .ref a10, .ref a11, .ref a12, .ref a13, .ref a14, .int 0, .ref a15, .ref a16, .ref a17])), (a1, .inl (cy 1, 1868, .inl (upd (upd (upd (fun _ => 0) 1 2) 2 20) 3 120))), (a7, .inl (cy 1, 1830, .inl (fun _ => 0))), (a8, .inl (cy 1, 1830, .inl (fun _ => 0)))] rfl dX12_world_2 (fun H locs w => ?_)
  refine lv_aload_n C.1 C.2.1 dX12_world_5 rfl (lv_at hl 0 rfl) ?_
  refine lv_iload_n C.1 C.2.1 dX12_world_6 rfl (lv_at hl 1 rfl) ?_
  refine r_callV C w fv_RX12_256 (c_X12_isWorld_0 l D cy a0 a1 a2 a3 a4 a5 a6 a7 a8 a9 a10 a11 a12 a13 a14 a15 a16 a17 x0 k0) (hl.1.trans hml.symm) [0, 1, 2, 3] [] (wr := []) ⟨rfl, rfl, rfl, rfl, by decide⟩ 0 rfl rfl rfl rfl rfl ⟨Nat.le_of_ble_eq_true rfl, Nat.le_of_ble_eq_true rfl, Nat.le_of_ble_eq_true rfl⟩ 0 0 ⟨rfl, rfl, Nat.le_of_ble_eq_true rfl, Nat.le_of_ble_eq_true rfl⟩ dX12_world_7 (fun u H locs hp w => ?_)
  have w : Wd D A s.heap [(a0, .inr (12, [.ref a1, .ref a2, .ref a3, .ref a4, .ref a5, .int 0, .ref a6, .int 0, .int 0, .int 0, .int 0, .int 0, .int 0, .int 0, .int 0, .int 0, .int 0, .int (-1), .ref a7, .ref a8, .int 190, .ref a9, .int 0, .ref a10, .ref a11, .ref a12, .ref a13, .ref a14, .int 0, .ref a15, .ref a16, .ref a17])), (a1, .inl (cy 1, 1868, .inl (upd (upd (upd (fun _ => 0) 1 2) 2 20) 3 120))), (a7, .inl (cy 1, 1830, .inl (lxF (fun _ => 0) 2 20 (PP 20 2 (20 + 1 - 2))))), (a8, .inl (cy 1, 1830, .inl (lyF (fun _ => 0) 2 20 (PP 20 2 (20 + 1 - 2)))))] _ _ := w
  refine r_top (g2 := F0 m 10 ls [.int 0]) rfl ?_
  refine b_if_ne_f C (tgt := 19) dX12_world_10 (by decide) (by decide) ?_
  refine lv_aload_n C.1 C.2.1 dX12_world_13 rfl (lv_at hl 0 rfl) ?_
  refine lv_iconst (v := 1) C.1 C.2.1 dX12_world_14 (by decide) ?_
  refine r_callV C w fv_RX12_237 (c_X12_fails_1 l D cy a0 a1 a2 a3 a4 a5 a6 a7 a8 a9 a10 a11 a12 a13 a14 a15 a16 a17) (hl.1.trans hml.symm) [0] [1, 2, 3] (wr := [(a1, .inl (cy 1, 1868, .inl (upd (upd (upd (fun _ => 0) 1 2) 2 20) 3 120))), (a7, .inl (cy 1, 1830, .inl (lxF (fun _ => 0) 2 20 (PP 20 2 (20 + 1 - 2))))), (a8, .inl (cy 1, 1830, .inl (lyF (fun _ => 0) 2 20 (PP 20 2 (20 + 1 - 2)))))]) ⟨rfl, rfl, rfl, rfl, by decide⟩ 0 rfl rfl rfl rfl rfl ⟨Nat.le_of_ble_eq_true rfl, Nat.le_of_ble_eq_true rfl, Nat.le_of_ble_eq_true rfl⟩ 0 0 ⟨rfl, rfl, Nat.le_of_ble_eq_true rfl, Nat.le_of_ble_eq_true rfl⟩ dX12_world_15 (fun u H locs hp w => ?_)
  have w : Wd D A s.heap [(a1, .inl (cy 1, 1868, .inl (upd (upd (upd (fun _ => 0) 1 2) 2 20) 3 120))), (a7, .inl (cy 1, 1830, .inl (lxF (fun _ => 0) 2 20 (PP 20 2 (20 + 1 - 2))))), (a8, .inl (cy 1, 1830, .inl (lyF (fun _ => 0) 2 20 (PP 20 2 (20 + 1 - 2))))), (a0, .inr (12, [.ref a1, .ref a2, .ref a3, .ref a4, .ref a5, .int 1, .ref a6, .int 0, .int 0, .int 0, .int 0, .int 0, .int 0, .int 0, .int 0, .int 0, .int 0, .int (-1), .ref a7, .ref a8, .int 190, .ref a9, .int 0, .ref a10, .ref a11, .ref a12, .ref a13, .ref a14, .int 0, .ref a15, .ref a16, .ref a17]))] _ _ := w
  refine r_top (g2 := F0 m 18 ls [.int 0]) rfl ?_
  exact r_iret C w hlocks () hr rfl rfl trivial [0, 1, 2, 3] rfl rfl ⟨Nat.le_of_ble_eq_true rfl, Nat.le_of_ble_eq_true rfl⟩ dX12_world_18
set_option maxRecDepth 100000 in
set_option maxHeartbeats 4000000 in
theorem c_X12_world_1 (l : Launch) (D : va_G) (cy : Nat → ClassId) (a0 a1 a2 a3 a4 a5 a6 a7 a8 a9 a10 a11 a12 a13 a14 a15 a16 a17 : Nat) (x0 : Int32) (x1 : Int32) (k0 : ¬ x0 < 0) (k1 : 189 < x0) : Ct l D cy yX12_world cX12_world 3 (some .int) 2 46 0 0 [(a0, .inr (12, [.ref a1, .ref a2, .ref a3, .ref a4, .ref a5, .int 0, .ref a6, .int 0, .int 0, .int 0, .int 0, .int 0, .int 0, .int 0, .int 0, .int 0, .int 0, .int (-1), .ref a7, .ref a8, .int 0, .ref a9, .int 0, .ref a10, .ref a11, .ref a12, .ref a13, .ref a14, .int 0, .ref a15, .ref a16, .ref a17])), (a1, .inl (cy 1, 1868, .inl (upd (upd (upd (fun _ => 0) 1 2) 2 20) 3 120))), (a7, .inl (cy 1, 1830, .inl (fun _ => 0))), (a8, .inl (cy 1, 1830, .inl (fun _ => 0)))] [.ref a0, .int x0, .int x1] (fun u : Unit => some (.int 0)) (fun _ => True) (fun u : Unit => [(a1, .inl (cy 1, 1868, .inl (upd (upd (upd (fun _ => 0) 1 2) 2 20) 3 120))), (a7, .inl (cy 1, 1830, .inl (lxF (fun _ => 0) 2 20 (PP 20 2 (20 + 1 - 2))))), (a8, .inl (cy 1, 1830, .inl (lyF (fun _ => 0) 2 20 (PP 20 2 (20 + 1 - 2))))), (a0, .inr (12, [.ref a1, .ref a2, .ref a3, .ref a4, .ref a5, .int 1, .ref a6, .int 0, .int 0, .int 0, .int 0, .int 0, .int 0, .int 0, .int 0, .int 0, .int 0, .int (-1), .ref a7, .ref a8, .int 190, .ref a9, .int 0, .ref a10, .ref a11, .ref a12, .ref a13, .ref a14, .int 0, .ref a15, .ref a16, .ref a17]))]) := by
  refine Ct.of (by decide +kernel) (Nat.le_of_ble_eq_true rfl) ?_
  intro p e s m args below meth c A ls C hr hlocks hml hnm w hl
  have hl : lv_has ls 3 [(0, .ref a0), (1, .int x0), (2, .int x1)] := hl
  refine lv_aload_n C.1 C.2.1 dX12_world_0 rfl (lv_at hl 0 rfl) ?_
  refine lv_iconst (v := 0) C.1 C.2.1 dX12_world_1 (by decide) ?_
  refine r_put C w 0 rfl rfl 5 (by decide) fl_RX12_71 rfl (ty := .int) (tyX12_ok 5 (by decide)) rfl rfl (Nat.le_of_ble_eq_true rfl) [(a0, .inr (12, [.ref a1, .ref a2, .ref a3, .ref a4, .ref a5, .int 0, .ref a6, .int 0, .int 0, .int 0, .int 0, .int 0, .int 0, .int 0, .int 0, .int 0, .int 0, .int (-1), .ref a7, .ref a8, .int 0, .ref a9, .int 0, .ref a10, .ref a11, .ref a12, .ref a13, .ref a14, .int 0, .ref a15, .ref a16, .ref a17])), (a1, .inl (cy 1, 1868, .inl (upd (upd (upd (fun _ => 0) 1 2) 2 20) 3 120))), (a7, .inl (cy 1, 1830, .inl (fun _ => 0))), (a8, .inl (cy 1, 1830, .inl (fun _ => 0)))] rfl dX12_world_2 (fun H locs w => ?_)
  refine lv_aload_n C.1 C.2.1 dX12_world_5 rfl (lv_at hl 0 rfl) ?_
  refine lv_iload_n C.1 C.2.1 dX12_world_6 rfl (lv_at hl 1 rfl) ?_
  refine r_callV C w fv_RX12_256 (c_X12_isWorld_2 l D cy a0 a1 a2 a3 a4 a5 a6 a7 a8 a9 a10 a11 a12 a13 a14 a15 a16 a17 x0 k0 k1) (hl.1.trans hml.symm) [0, 1, 2, 3] [] (wr := []) ⟨rfl, rfl, rfl, rfl, by decide⟩ 0 rfl rfl rfl rfl rfl ⟨Nat.le_of_ble_eq_true rfl, Nat.le_of_ble_eq_true rfl, Nat.le_of_ble_eq_true rfl⟩ 0 0 ⟨rfl, rfl, Nat.le_of_ble_eq_true rfl, Nat.le_of_ble_eq_true rfl⟩ dX12_world_7 (fun u H locs hp w => ?_)
  have w : Wd D A s.heap [(a0, .inr (12, [.ref a1, .ref a2, .ref a3, .ref a4, .ref a5, .int 0, .ref a6, .int 0, .int 0, .int 0, .int 0, .int 0, .int 0, .int 0, .int 0, .int 0, .int 0, .int (-1), .ref a7, .ref a8, .int 190, .ref a9, .int 0, .ref a10, .ref a11, .ref a12, .ref a13, .ref a14, .int 0, .ref a15, .ref a16, .ref a17])), (a1, .inl (cy 1, 1868, .inl (upd (upd (upd (fun _ => 0) 1 2) 2 20) 3 120))), (a7, .inl (cy 1, 1830, .inl (lxF (fun _ => 0) 2 20 (PP 20 2 (20 + 1 - 2))))), (a8, .inl (cy 1, 1830, .inl (lyF (fun _ => 0) 2 20 (PP 20 2 (20 + 1 - 2)))))] _ _ := w
  refine r_top (g2 := F0 m 10 ls [.int 0]) rfl ?_
  refine b_if_ne_f C (tgt := 19) dX12_world_10 (by decide) (by decide) ?_
  refine lv_aload_n C.1 C.2.1 dX12_world_13 rfl (lv_at hl 0 rfl) ?_
  refine lv_iconst (v := 1) C.1 C.2.1 dX12_world_14 (by decide) ?_
  refine r_callV C w fv_RX12_237 (c_X12_fails_1 l D cy a0 a1 a2 a3 a4 a5 a6 a7 a8 a9 a10 a11 a12 a13 a14 a15 a16 a17) (hl.1.trans hml.symm) [0] [1, 2, 3] (wr := [(a1, .inl (cy 1, 1868, .inl (upd (upd (upd (fun _ => 0) 1 2) 2 20) 3 120))), (a7, .inl (cy 1, 1830, .inl (lxF (fun _ => 0) 2 20 (PP 20 2 (20 + 1 - 2))))), (a8, .inl (cy 1, 1830, .inl (lyF (fun _ => 0) 2 20 (PP 20 2 (20 + 1 - 2)))))]) ⟨rfl, rfl, rfl, rfl, by decide⟩ 0 rfl rfl rfl rfl rfl ⟨Nat.le_of_ble_eq_true rfl, Nat.le_of_ble_eq_true rfl, Nat.le_of_ble_eq_true rfl⟩ 0 0 ⟨rfl, rfl, Nat.le_of_ble_eq_true rfl, Nat.le_of_ble_eq_true rfl⟩ dX12_world_15 (fun u H locs hp w => ?_)
  have w : Wd D A s.heap [(a1, .inl (cy 1, 1868, .inl (upd (upd (upd (fun _ => 0) 1 2) 2 20) 3 120))), (a7, .inl (cy 1, 1830, .inl (lxF (fun _ => 0) 2 20 (PP 20 2 (20 + 1 - 2))))), (a8, .inl (cy 1, 1830, .inl (lyF (fun _ => 0) 2 20 (PP 20 2 (20 + 1 - 2))))), (a0, .inr (12, [.ref a1, .ref a2, .ref a3, .ref a4, .ref a5, .int 1, .ref a6, .int 0, .int 0, .int 0, .int 0, .int 0, .int 0, .int 0, .int 0, .int 0, .int 0, .int (-1), .ref a7, .ref a8, .int 190, .ref a9, .int 0, .ref a10, .ref a11, .ref a12, .ref a13, .ref a14, .int 0, .ref a15, .ref a16, .ref a17]))] _ _ := w
  refine r_top (g2 := F0 m 18 ls [.int 0]) rfl ?_
  exact r_iret C w hlocks () hr rfl rfl trivial [0, 1, 2, 3] rfl rfl ⟨Nat.le_of_ble_eq_true rfl, Nat.le_of_ble_eq_true rfl⟩ dX12_world_18
theorem dX12_world_19 : decode cX12_world 19 = .ok (.iload_n 2, 1) := by decide +kernel
theorem dX12_world_20 : decode cX12_world 20 = .ok (.i2l, 1) := by decide +kernel
theorem dX12_world_21 : decode cX12_world 21 = .ok (.lconst 0, 1) := by decide +kernel
theorem dX12_world_22 : decode cX12_world 22 = .ok (.lconst 1, 1) := by decide +kernel
theorem dX12_world_23 : decode cX12_world 23 = .ok (.invokestatic 133, 3) := by decide +kernel
set_option maxRecDepth 100000 in
set_option maxHeartbeats 4000000 in
theorem c_X12_within_15 (l : Launch) (D : va_G) (cy : Nat → ClassId) (x0 : Int32) (k0 : x0 < 0) : Ct l D cy yX12_within cX12_within 6 (some .boolean) 0 0 0 0 [] [.long (Int32.toInt64 x0), .long 0, .long 1] (fun u : Unit => some (.int 0)) (fun _ => True) (fun u : Unit => []) := by
  refine Ct.of (by decide +kernel) (Nat.le_of_ble_eq_true rfl) ?_
  intro p e s m args below meth c A ls C hr hlocks hml hnm w hl
  have hl : lv_has ls 6 [(0, .long (Int32.toInt64 x0)), (2, .long 0), (4, .long 1)] := hl
  refine lv_lload_n C.1 C.2.1 dX12_within_0 rfl (lv_at hl 0 rfl) ?_
  refine lv_lload_n C.1 C.2.1 dX12_within_1 rfl (lv_at hl 1 rfl) ?_
  refine r_lcmp C (v := (lg_cmp (Int32.toInt64 x0) 0)) dX12_within_2 rfl ?_
  refine b_if_lt_t C (tgt := 17) dX12_within_3 (by decide) (cmp_lt (x := x0) (y := 0) k0) ?_
  refine lv_iconst (v := 0) C.1 C.2.1 dX12_within_17 (by decide) ?_
  exact r_iret C w hlocks () hr rfl rfl trivial [] rfl rfl ⟨Nat.le_of_ble_eq_true rfl, Nat.le_of_ble_eq_true rfl⟩ dX12_within_18
set_option maxRecDepth 100000 in
set_option maxHeartbeats 4000000 in
theorem c_X12_within_16 (l : Launch) (D : va_G) (cy : Nat → ClassId) (x0 : Int32) (k0 : ¬ x0 < 0) (k1 : 1 < x0) : Ct l D cy yX12_within cX12_within 6 (some .boolean) 0 0 0 0 [] [.long (Int32.toInt64 x0), .long 0, .long 1] (fun u : Unit => some (.int 0)) (fun _ => True) (fun u : Unit => []) := by
  refine Ct.of (by decide +kernel) (Nat.le_of_ble_eq_true rfl) ?_
  intro p e s m args below meth c A ls C hr hlocks hml hnm w hl
  have hl : lv_has ls 6 [(0, .long (Int32.toInt64 x0)), (2, .long 0), (4, .long 1)] := hl
  refine lv_lload_n C.1 C.2.1 dX12_within_0 rfl (lv_at hl 0 rfl) ?_
  refine lv_lload_n C.1 C.2.1 dX12_within_1 rfl (lv_at hl 1 rfl) ?_
  refine r_lcmp C (v := (lg_cmp (Int32.toInt64 x0) 0)) dX12_within_2 rfl ?_
  refine b_if_lt_f C (tgt := 17) dX12_within_3 (by decide) (cmp_nlt (x := x0) (y := 0) k0) ?_
  refine lv_lload_n C.1 C.2.1 dX12_within_6 rfl (lv_at hl 0 rfl) ?_
  refine lv_lload C.1 C.2.1 dX12_within_7 (lv_at hl 2 rfl) ?_
  refine r_lcmp C (v := (lg_cmp (Int32.toInt64 x0) 1)) dX12_within_9 rfl ?_
  refine b_if_gt_t C (tgt := 17) dX12_within_10 (by decide) (cmp_gt (x := x0) (y := 1) k1) ?_
  refine lv_iconst (v := 0) C.1 C.2.1 dX12_within_17 (by decide) ?_
  exact r_iret C w hlocks () hr rfl rfl trivial [] rfl rfl ⟨Nat.le_of_ble_eq_true rfl, Nat.le_of_ble_eq_true rfl⟩ dX12_within_18
set_option maxRecDepth 100000 in
set_option maxHeartbeats 4000000 in
theorem c_X12_within_17 (l : Launch) (D : va_G) (cy : Nat → ClassId) (x0 : Int32) (k0 : ¬ x0 < 0) (k1 : ¬ 1 < x0) : Ct l D cy yX12_within cX12_within 6 (some .boolean) 0 0 0 0 [] [.long (Int32.toInt64 x0), .long 0, .long 1] (fun u : Unit => some (.int 1)) (fun _ => True) (fun u : Unit => []) := by
  refine Ct.of (by decide +kernel) (Nat.le_of_ble_eq_true rfl) ?_
  intro p e s m args below meth c A ls C hr hlocks hml hnm w hl
  have hl : lv_has ls 6 [(0, .long (Int32.toInt64 x0)), (2, .long 0), (4, .long 1)] := hl
  refine lv_lload_n C.1 C.2.1 dX12_within_0 rfl (lv_at hl 0 rfl) ?_
  refine lv_lload_n C.1 C.2.1 dX12_within_1 rfl (lv_at hl 1 rfl) ?_
  refine r_lcmp C (v := (lg_cmp (Int32.toInt64 x0) 0)) dX12_within_2 rfl ?_
  refine b_if_lt_f C (tgt := 17) dX12_within_3 (by decide) (cmp_nlt (x := x0) (y := 0) k0) ?_
  refine lv_lload_n C.1 C.2.1 dX12_within_6 rfl (lv_at hl 0 rfl) ?_
  refine lv_lload C.1 C.2.1 dX12_within_7 (lv_at hl 2 rfl) ?_
  refine r_lcmp C (v := (lg_cmp (Int32.toInt64 x0) 1)) dX12_within_9 rfl ?_
  refine b_if_gt_f C (tgt := 17) dX12_within_10 (by decide) (cmp_ngt (x := x0) (y := 1) k1) ?_
  refine lv_iconst (v := 1) C.1 C.2.1 dX12_within_13 (by decide) ?_
  refine lv_goto (tgt := 18) C.1 C.2.1 dX12_within_14 (by decide) ?_
  exact r_iret C w hlocks () hr rfl rfl trivial [] rfl rfl ⟨Nat.le_of_ble_eq_true rfl, Nat.le_of_ble_eq_true rfl⟩ dX12_within_18
theorem dX12_world_26 : decode cX12_world 26 = .ok (.ifCond .ne 9, 3) := by decide +kernel
theorem dX12_world_29 : decode cX12_world 29 = .ok (.aload_n 0, 1) := by decide +kernel
theorem dX12_world_30 : decode cX12_world 30 = .ok (.iconst 2, 1) := by decide +kernel
theorem dX12_world_31 : decode cX12_world 31 = .ok (.invokevirtual 237, 3) := by decide +kernel
set_option maxRecDepth 100000 in
set_option maxHeartbeats 4000000 in
theorem c_X12_fails_2 (l : Launch) (D : va_G) (cy : Nat → ClassId) (a0 a1 a2 a3 a4 a5 a6 a7 a8 a9 a10 a11 a12 a13 a14 a15 a16 a17 : Nat) : Ct l D cy yX12_fails cX12_fails 2 (some .int) 0 0 0 0 [(a0, .inr (12, [.ref a1, .ref a2, .ref a3, .ref a4, .ref a5, .int 0, .ref a6, .int 0, .int 0, .int 0, .int 0, .int 0, .int 0, .int 0, .int 0, .int 0, .int 0, .int (-1), .ref a7, .ref a8, .int 190, .ref a9, .int 0, .ref a10, .ref a11, .ref a12, .ref a13, .ref a14, .int 0, .ref a15, .ref a16, .ref a17]))] [.ref a0, .int 2] (fun u : Unit => some (.int 0)) (fun _ => True) (fun u : Unit => [(a0, .inr (12, [.ref a1, .ref a2, .ref a3, .ref a4, .ref a5, .int 2, .ref a6, .int 0, .int 0, .int 0, .int 0, .int 0, .int 0, .int 0, .int 0, .int 0, .int 0, .int (-1), .ref a7, .ref a8, .int 190, .ref a9, .int 0, .ref a10, .ref a11, .ref a12, .ref a13, .ref a14, .int 0, .ref a15, .ref a16, .ref a17]))]) := by
  refine Ct.of (by decide +kernel) (Nat.le_of_ble_eq_true rfl) ?_
  intro p e s m args below meth c A ls C hr hlocks hml hnm w hl
  have hl : lv_has ls 2 [(0, .ref a0), (1, .int 2)] := hl
  refine lv_aload_n C.1 C.2.1 dX12_fails_0 rfl (lv_at hl 0 rfl) ?_
  refine lv_iload_n C.1 C.2.1 dX12_fails_1 rfl (lv_at hl 1 rfl) ?_
  refine r_put C w 0 rfl rfl 5 (by decide) fl_RX12_71 rfl (ty := .int) (tyX12_ok 5 (by decide)) rfl rfl (Nat.le_of_ble_eq_true rfl) [(a0, .inr (12, [.ref a1, .ref a2, .ref a3, .ref a4, .ref a5, .int 2, .ref a6, .int 0, .int 0, .int 0, .int 0, .int 0, .int 0, .int 0, .int 0, .int 0, .int 0, .int (-1), .ref a7, .ref a8, .int 190, .ref a9, .int 0, .ref a10, .ref a11, .ref a12, .ref a13, .ref a14, .int 0, .ref a15, .ref a16, .ref a17]))] rfl dX12_fails_2 (fun H locs w => ?_)
  refine lv_iconst (v := 0) C.1 C.2.1 dX12_fails_5 (by decide) ?_
  exact r_iret C w hlocks () hr rfl rfl trivial [0] rfl rfl ⟨Nat.le_of_ble_eq_true rfl, Nat.le_of_ble_eq_true rfl⟩ dX12_fails_6
theorem dX12_world_34 : decode cX12_world 34 = .ok (.ireturn, 1) := by decide +kernel
set_option maxRecDepth 100000 in
set_option maxHeartbeats 4000000 in
theorem c_X12_world_2 (l : Launch) (D : va_G) (cy : Nat → ClassId) (a0 a1 a2 a3 a4 a5 a6 a7 a8 a9 a10 a11 a12 a13 a14 a15 a16 a17 : Nat) (x0 : Int32) (x1 : Int32) (k0 : ¬ x0 < 0) (k1 : ¬ 189 < x0) (k2 : x1 < 0) : Ct l D cy yX12_world cX12_world 3 (some .int) 2 46 0 0 [(a0, .inr (12, [.ref a1, .ref a2, .ref a3, .ref a4, .ref a5, .int 0, .ref a6, .int 0, .int 0, .int 0, .int 0, .int 0, .int 0, .int 0, .int 0, .int 0, .int 0, .int (-1), .ref a7, .ref a8, .int 0, .ref a9, .int 0, .ref a10, .ref a11, .ref a12, .ref a13, .ref a14, .int 0, .ref a15, .ref a16, .ref a17])), (a1, .inl (cy 1, 1868, .inl (upd (upd (upd (fun _ => 0) 1 2) 2 20) 3 120))), (a7, .inl (cy 1, 1830, .inl (fun _ => 0))), (a8, .inl (cy 1, 1830, .inl (fun _ => 0)))] [.ref a0, .int x0, .int x1] (fun u : Unit => some (.int 0)) (fun _ => True) (fun u : Unit => [(a1, .inl (cy 1, 1868, .inl (upd (upd (upd (fun _ => 0) 1 2) 2 20) 3 120))), (a7, .inl (cy 1, 1830, .inl (lxF (fun _ => 0) 2 20 (PP 20 2 (20 + 1 - 2))))), (a8, .inl (cy 1, 1830, .inl (lyF (fun _ => 0) 2 20 (PP 20 2 (20 + 1 - 2))))), (a0, .inr (12, [.ref a1, .ref a2, .ref a3, .ref a4, .ref a5, .int 2, .ref a6, .int 0, .int 0, .int 0, .int 0, .int 0, .int 0, .int 0, .int 0, .int 0, .int 0, .int (-1), .ref a7, .ref a8, .int 190, .ref a9, .int 0, .ref a10, .ref a11, .ref a12, .ref a13, .ref a14, .int 0, .ref a15, .ref a16, .ref a17]))]) := by
  refine Ct.of (by decide +kernel) (Nat.le_of_ble_eq_true rfl) ?_
  intro p e s m args below meth c A ls C hr hlocks hml hnm w hl
  have hl : lv_has ls 3 [(0, .ref a0), (1, .int x0), (2, .int x1)] := hl
  refine lv_aload_n C.1 C.2.1 dX12_world_0 rfl (lv_at hl 0 rfl) ?_
  refine lv_iconst (v := 0) C.1 C.2.1 dX12_world_1 (by decide) ?_
  refine r_put C w 0 rfl rfl 5 (by decide) fl_RX12_71 rfl (ty := .int) (tyX12_ok 5 (by decide)) rfl rfl (Nat.le_of_ble_eq_true rfl) [(a0, .inr (12, [.ref a1, .ref a2, .ref a3, .ref a4, .ref a5, .int 0, .ref a6, .int 0, .int 0, .int 0, .int 0, .int 0, .int 0, .int 0, .int 0, .int 0, .int 0, .int (-1), .ref a7, .ref a8, .int 0, .ref a9, .int 0, .ref a10, .ref a11, .ref a12, .ref a13, .ref a14, .int 0, .ref a15, .ref a16, .ref a17])), (a1, .inl (cy 1, 1868, .inl (upd (upd (upd (fun _ => 0) 1 2) 2 20) 3 120))), (a7, .inl (cy 1, 1830, .inl (fun _ => 0))), (a8, .inl (cy 1, 1830, .inl (fun _ => 0)))] rfl dX12_world_2 (fun H locs w => ?_)
  refine lv_aload_n C.1 C.2.1 dX12_world_5 rfl (lv_at hl 0 rfl) ?_
  refine lv_iload_n C.1 C.2.1 dX12_world_6 rfl (lv_at hl 1 rfl) ?_
  refine r_callV C w fv_RX12_256 (c_X12_isWorld_1 l D cy a0 a1 a2 a3 a4 a5 a6 a7 a8 a9 a10 a11 a12 a13 a14 a15 a16 a17 x0 k0 k1) (hl.1.trans hml.symm) [0, 1, 2, 3] [] (wr := []) ⟨rfl, rfl, rfl, rfl, by decide⟩ 0 rfl rfl rfl rfl rfl ⟨Nat.le_of_ble_eq_true rfl, Nat.le_of_ble_eq_true rfl, Nat.le_of_ble_eq_true rfl⟩ 0 0 ⟨rfl, rfl, Nat.le_of_ble_eq_true rfl, Nat.le_of_ble_eq_true rfl⟩ dX12_world_7 (fun u H locs hp w => ?_)
  have w : Wd D A s.heap [(a0, .inr (12, [.ref a1, .ref a2, .ref a3, .ref a4, .ref a5, .int 0, .ref a6, .int 0, .int 0, .int 0, .int 0, .int 0, .int 0, .int 0, .int 0, .int 0, .int 0, .int (-1), .ref a7, .ref a8, .int 190, .ref a9, .int 0, .ref a10, .ref a11, .ref a12, .ref a13, .ref a14, .int 0, .ref a15, .ref a16, .ref a17])), (a1, .inl (cy 1, 1868, .inl (upd (upd (upd (fun _ => 0) 1 2) 2 20) 3 120))), (a7, .inl (cy 1, 1830, .inl (lxF (fun _ => 0) 2 20 (PP 20 2 (20 + 1 - 2))))), (a8, .inl (cy 1, 1830, .inl (lyF (fun _ => 0) 2 20 (PP 20 2 (20 + 1 - 2)))))] _ _ := w
  refine r_top (g2 := F0 m 10 ls [.int 1]) rfl ?_
  refine b_if_ne_t C (tgt := 19) dX12_world_10 (by decide) (by decide) ?_
  refine lv_iload_n C.1 C.2.1 dX12_world_19 rfl (lv_at hl 2 rfl) ?_
  refine lv_i2l (v := (Int32.toInt64 x1)) C.1 C.2.1 dX12_world_20 rfl ?_
  refine lv_lconst (v := 0) C.1 C.2.1 dX12_world_21 (by decide) ?_
  refine lv_lconst (v := 1) C.1 C.2.1 dX12_world_22 (by decide) ?_
  refine r_callS C w fs_RX12_133 (c_X12_within_15 l D cy x1 k2) (hl.1.trans hml.symm) [] [0, 1, 2, 3] (wr := [(a0, .inr (12, [.ref a1, .ref a2, .ref a3, .ref a4, .ref a5, .int 0, .ref a6, .int 0, .int 0, .int 0, .int 0, .int 0, .int 0, .int 0, .int 0, .int 0, .int 0, .int (-1), .ref a7, .ref a8, .int 190, .ref a9, .int 0, .ref a10, .ref a11, .ref a12, .ref a13, .ref a14, .int 0, .ref a15, .ref a16, .ref a17])), (a1, .inl (cy 1, 1868, .inl (upd (upd (upd (fun _ => 0) 1 2) 2 20) 3 120))), (a7, .inl (cy 1, 1830, .inl (lxF (fun _ => 0) 2 20 (PP 20 2 (20 + 1 - 2))))), (a8, .inl (cy 1, 1830, .inl (lyF (fun _ => 0) 2 20 (PP 20 2 (20 + 1 - 2)))))]) ⟨rfl, rfl, rfl, rfl, by decide⟩ rfl rfl ⟨Nat.le_of_ble_eq_true rfl, Nat.le_of_ble_eq_true rfl, Nat.le_of_ble_eq_true rfl⟩ 0 0 ⟨rfl, rfl, Nat.le_of_ble_eq_true rfl, Nat.le_of_ble_eq_true rfl⟩ dX12_world_23 (fun u H locs hp w => ?_)
  have w : Wd D A s.heap [(a0, .inr (12, [.ref a1, .ref a2, .ref a3, .ref a4, .ref a5, .int 0, .ref a6, .int 0, .int 0, .int 0, .int 0, .int 0, .int 0, .int 0, .int 0, .int 0, .int 0, .int (-1), .ref a7, .ref a8, .int 190, .ref a9, .int 0, .ref a10, .ref a11, .ref a12, .ref a13, .ref a14, .int 0, .ref a15, .ref a16, .ref a17])), (a1, .inl (cy 1, 1868, .inl (upd (upd (upd (fun _ => 0) 1 2) 2 20) 3 120))), (a7, .inl (cy 1, 1830, .inl (lxF (fun _ => 0) 2 20 (PP 20 2 (20 + 1 - 2))))), (a8, .inl (cy 1, 1830, .inl (lyF (fun _ => 0) 2 20 (PP 20 2 (20 + 1 - 2)))))] _ _ := w
  refine r_top (g2 := F0 m 26 ls [.int 0]) rfl ?_
  refine b_if_ne_f C (tgt := 35) dX12_world_26 (by decide) (by decide) ?_
  refine lv_aload_n C.1 C.2.1 dX12_world_29 rfl (lv_at hl 0 rfl) ?_
  refine lv_iconst (v := 2) C.1 C.2.1 dX12_world_30 (by decide) ?_
  refine r_callV C w fv_RX12_237 (c_X12_fails_2 l D cy a0 a1 a2 a3 a4 a5 a6 a7 a8 a9 a10 a11 a12 a13 a14 a15 a16 a17) (hl.1.trans hml.symm) [0] [1, 2, 3] (wr := [(a1, .inl (cy 1, 1868, .inl (upd (upd (upd (fun _ => 0) 1 2) 2 20) 3 120))), (a7, .inl (cy 1, 1830, .inl (lxF (fun _ => 0) 2 20 (PP 20 2 (20 + 1 - 2))))), (a8, .inl (cy 1, 1830, .inl (lyF (fun _ => 0) 2 20 (PP 20 2 (20 + 1 - 2)))))]) ⟨rfl, rfl, rfl, rfl, by decide⟩ 0 rfl rfl rfl rfl rfl ⟨Nat.le_of_ble_eq_true rfl, Nat.le_of_ble_eq_true rfl, Nat.le_of_ble_eq_true rfl⟩ 0 0 ⟨rfl, rfl, Nat.le_of_ble_eq_true rfl, Nat.le_of_ble_eq_true rfl⟩ dX12_world_31 (fun u H locs hp w => ?_)
  have w : Wd D A s.heap [(a1, .inl (cy 1, 1868, .inl (upd (upd (upd (fun _ => 0) 1 2) 2 20) 3 120))), (a7, .inl (cy 1, 1830, .inl (lxF (fun _ => 0) 2 20 (PP 20 2 (20 + 1 - 2))))), (a8, .inl (cy 1, 1830, .inl (lyF (fun _ => 0) 2 20 (PP 20 2 (20 + 1 - 2))))), (a0, .inr (12, [.ref a1, .ref a2, .ref a3, .ref a4, .ref a5, .int 2, .ref a6, .int 0, .int 0, .int 0, .int 0, .int 0, .int 0, .int 0, .int 0, .int 0, .int 0, .int (-1), .ref a7, .ref a8, .int 190, .ref a9, .int 0, .ref a10, .ref a11, .ref a12, .ref a13, .ref a14, .int 0, .ref a15, .ref a16, .ref a17]))] _ _ := w
  refine r_top (g2 := F0 m 34 ls [.int 0]) rfl ?_
  exact r_iret C w hlocks () hr rfl rfl trivial [0, 1, 2, 3] rfl rfl ⟨Nat.le_of_ble_eq_true rfl, Nat.le_of_ble_eq_true rfl⟩ dX12_world_34
theorem dX12_world_35 : decode cX12_world 35 = .ok (.iload_n 2, 1) := by decide +kernel
theorem dX12_world_36 : decode cX12_world 36 = .ok (.ifCond .ne 12, 3) := by decide +kernel
theorem dX12_world_48 : decode cX12_world 48 = .ok (.aload_n 0, 1) := by decide +kernel
theorem dX12_world_49 : decode cX12_world 49 = .ok (.getfield 36, 3) := by decide +kernel
theorem dX12_world_52 : decode cX12_world 52 = .ok (.iload_n 1, 1) := by decide +kernel
theorem dX12_world_53 : decode cX12_world 53 = .ok (.iaload, 1) := by decide +kernel
theorem dX12_world_54 : decode cX12_world 54 = .ok (.ireturn, 1) := by decide +kernel
set_option maxRecDepth 100000 in
set_option maxHeartbeats 4000000 in
theorem c_X12_world_3 (l : Launch) (D : va_G) (cy : Nat → ClassId) (a0 a1 a2 a3 a4 a5 a6 a7 a8 a9 a10 a11 a12 a13 a14 a15 a16 a17 : Nat) (x0 : Int32) (x1 : Int32) (k0 : ¬ x0 < 0) (k1 : ¬ 189 < x0) (k2 : ¬ x1 < 0) (k3 : ¬ 1 < x1) (k4 : ¬ x1 = 0) : Ct l D cy yX12_world cX12_world 3 (some .int) 2 46 0 0 [(a0, .inr (12, [.ref a1, .ref a2, .ref a3, .ref a4, .ref a5, .int 0, .ref a6, .int 0, .int 0, .int 0, .int 0, .int 0, .int 0, .int 0, .int 0, .int 0, .int 0, .int (-1), .ref a7, .ref a8, .int 0, .ref a9, .int 0, .ref a10, .ref a11, .ref a12, .ref a13, .ref a14, .int 0, .ref a15, .ref a16, .ref a17])), (a1, .inl (cy 1, 1868, .inl (upd (upd (upd (fun _ => 0) 1 2) 2 20) 3 120))), (a7, .inl (cy 1, 1830, .inl (fun _ => 0))), (a8, .inl (cy 1, 1830, .inl (fun _ => 0)))] [.ref a0, .int x0, .int x1] (fun u : Unit => some (.int (yW x0))) (fun _ => True) (fun u : Unit => [(a0, .inr (12, [.ref a1, .ref a2, .ref a3, .ref a4, .ref a5, .int 0, .ref a6, .int 0, .int 0, .int 0, .int 0, .int 0, .int 0, .int 0, .int 0, .int 0, .int 0, .int (-1), .ref a7, .ref a8, .int 190, .ref a9, .int 0, .ref a10, .ref a11, .ref a12, .ref a13, .ref a14, .int 0, .ref a15, .ref a16, .ref a17])), (a1, .inl (cy 1, 1868, .inl (upd (upd (upd (fun _ => 0) 1 2) 2 20) 3 120))), (a7, .inl (cy 1, 1830, .inl (lxF (fun _ => 0) 2 20 (PP 20 2 (20 + 1 - 2))))), (a8, .inl (cy 1, 1830, .inl (lyF (fun _ => 0) 2 20 (PP 20 2 (20 + 1 - 2)))))]) := by
  refine Ct.of (by decide +kernel) (Nat.le_of_ble_eq_true rfl) ?_
  intro p e s m args below meth c A ls C hr hlocks hml hnm w hl
  have hl : lv_has ls 3 [(0, .ref a0), (1, .int x0), (2, .int x1)] := hl
  refine lv_aload_n C.1 C.2.1 dX12_world_0 rfl (lv_at hl 0 rfl) ?_
  refine lv_iconst (v := 0) C.1 C.2.1 dX12_world_1 (by decide) ?_
  refine r_put C w 0 rfl rfl 5 (by decide) fl_RX12_71 rfl (ty := .int) (tyX12_ok 5 (by decide)) rfl rfl (Nat.le_of_ble_eq_true rfl) [(a0, .inr (12, [.ref a1, .ref a2, .ref a3, .ref a4, .ref a5, .int 0, .ref a6, .int 0, .int 0, .int 0, .int 0, .int 0, .int 0, .int 0, .int 0, .int 0, .int 0, .int (-1), .ref a7, .ref a8, .int 0, .ref a9, .int 0, .ref a10, .ref a11, .ref a12, .ref a13, .ref a14, .int 0, .ref a15, .ref a16, .ref a17])), (a1, .inl (cy 1, 1868, .inl (upd (upd (upd (fun _ => 0) 1 2) 2 20) 3 120))), (a7, .inl (cy 1, 1830, .inl (fun _ => 0))), (a8, .inl (cy 1, 1830, .inl (fun _ => 0)))] rfl dX12_world_2 (fun H locs w => ?_)
  refine lv_aload_n C.1 C.2.1 dX12_world_5 rfl (lv_at hl 0 rfl) ?_
  refine lv_iload_n C.1 C.2.1 dX12_world_6 rfl (lv_at hl 1 rfl) ?_
  refine r_callV C w fv_RX12_256 (c_X12_isWorld_1 l D cy a0 a1 a2 a3 a4 a5 a6 a7 a8 a9 a10 a11 a12 a13 a14 a15 a16 a17 x0 k0 k1) (hl.1.trans hml.symm) [0, 1, 2, 3] [] (wr := []) ⟨rfl, rfl, rfl, rfl, by decide⟩ 0 rfl rfl rfl rfl rfl ⟨Nat.le_of_ble_eq_true rfl, Nat.le_of_ble_eq_true rfl, Nat.le_of_ble_eq_true rfl⟩ 0 0 ⟨rfl, rfl, Nat.le_of_ble_eq_true rfl, Nat.le_of_ble_eq_true rfl⟩ dX12_world_7 (fun u H locs hp w => ?_)
  have w : Wd D A s.heap [(a0, .inr (12, [.ref a1, .ref a2, .ref a3, .ref a4, .ref a5, .int 0, .ref a6, .int 0, .int 0, .int 0, .int 0, .int 0, .int 0, .int 0, .int 0, .int 0, .int 0, .int (-1), .ref a7, .ref a8, .int 190, .ref a9, .int 0, .ref a10, .ref a11, .ref a12, .ref a13, .ref a14, .int 0, .ref a15, .ref a16, .ref a17])), (a1, .inl (cy 1, 1868, .inl (upd (upd (upd (fun _ => 0) 1 2) 2 20) 3 120))), (a7, .inl (cy 1, 1830, .inl (lxF (fun _ => 0) 2 20 (PP 20 2 (20 + 1 - 2))))), (a8, .inl (cy 1, 1830, .inl (lyF (fun _ => 0) 2 20 (PP 20 2 (20 + 1 - 2)))))] _ _ := w
  refine r_top (g2 := F0 m 10 ls [.int 1]) rfl ?_
  refine b_if_ne_t C (tgt := 19) dX12_world_10 (by decide) (by decide) ?_
  refine lv_iload_n C.1 C.2.1 dX12_world_19 rfl (lv_at hl 2 rfl) ?_
  refine lv_i2l (v := (Int32.toInt64 x1)) C.1 C.2.1 dX12_world_20 rfl ?_
  refine lv_lconst (v := 0) C.1 C.2.1 dX12_world_21 (by decide) ?_
  refine lv_lconst (v := 1) C.1 C.2.1 dX12_world_22 (by decide) ?_
  refine r_callS C w fs_RX12_133 (c_X12_within_17 l D cy x1 k2 k3) (hl.1.trans hml.symm) [] [0, 1, 2, 3] (wr := [(a0, .inr (12, [.ref a1, .ref a2, .ref a3, .ref a4, .ref a5, .int 0, .ref a6, .int 0, .int 0, .int 0, .int 0, .int 0, .int 0, .int 0, .int 0, .int 0, .int 0, .int (-1), .ref a7, .ref a8, .int 190, .ref a9, .int 0, .ref a10, .ref a11, .ref a12, .ref a13, .ref a14, .int 0, .ref a15, .ref a16, .ref a17])), (a1, .inl (cy 1, 1868, .inl (upd (upd (upd (fun _ => 0) 1 2) 2 20) 3 120))), (a7, .inl (cy 1, 1830, .inl (lxF (fun _ => 0) 2 20 (PP 20 2 (20 + 1 - 2))))), (a8, .inl (cy 1, 1830, .inl (lyF (fun _ => 0) 2 20 (PP 20 2 (20 + 1 - 2)))))]) ⟨rfl, rfl, rfl, rfl, by decide⟩ rfl rfl ⟨Nat.le_of_ble_eq_true rfl, Nat.le_of_ble_eq_true rfl, Nat.le_of_ble_eq_true rfl⟩ 0 0 ⟨rfl, rfl, Nat.le_of_ble_eq_true rfl, Nat.le_of_ble_eq_true rfl⟩ dX12_world_23 (fun u H locs hp w => ?_)
  have w : Wd D A s.heap [(a0, .inr (12, [.ref a1, .ref a2, .ref a3, .ref a4, .ref a5, .int 0, .ref a6, .int 0, .int 0, .int 0, .int 0, .int 0, .int 0, .int 0, .int 0, .int 0, .int 0, .int (-1), .ref a7, .ref a8, .int 190, .ref a9, .int 0, .ref a10, .ref a11, .ref a12, .ref a13, .ref a14, .int 0, .ref a15, .ref a16, .ref a17])), (a1, .inl (cy 1, 1868, .inl (upd (upd (upd (fun _ => 0) 1 2) 2 20) 3 120))), (a7, .inl (cy 1, 1830, .inl (lxF (fun _ => 0) 2 20 (PP 20 2 (20 + 1 - 2))))), (a8, .inl (cy 1, 1830, .inl (lyF (fun _ => 0) 2 20 (PP 20 2 (20 + 1 - 2)))))] _ _ := w
  refine r_top (g2 := F0 m 26 ls [.int 1]) rfl ?_
  refine b_if_ne_t C (tgt := 35) dX12_world_26 (by decide) (by decide) ?_
  refine lv_iload_n C.1 C.2.1 dX12_world_35 rfl (lv_at hl 2 rfl) ?_
  refine b_if_ne_t C (tgt := 48) dX12_world_36 (by decide) k4 ?_
  refine lv_aload_n C.1 C.2.1 dX12_world_48 rfl (lv_at hl 0 rfl) ?_
  refine r_get C w 0 rfl rfl 19 (by decide) fl_RX12_36 (v := .ref a8) rfl dX12_world_49 ?_
  refine lv_iload_n C.1 C.2.1 dX12_world_52 rfl (lv_at hl 1 rfl) ?_
  refine r_iald C w 3 rfl (v := (yW x0)) (w_in k0 (by have h0 := (i_nlt k0); have h1 := (i_nlt k1); have e0 : (0 : Int32).toInt = 0 := (by decide); have e1 : (189 : Int32).toInt = 189 := (by decide); have e2 : (190 : Int32).toInt = 190 := (by decide); rw [fa_lt]; omega) (by decide)) (lyF_rd k0 (by have h0 := (i_nlt k0); have h1 := (i_nlt k1); have e0 : (0 : Int32).toInt = 0 := (by decide); have e1 : (189 : Int32).toInt = 189 := (by decide); have e2 : (190 : Int32).toInt = 190 := (by decide); rw [fa_lt]; omega)) dX12_world_53 ?_
  exact r_iret C w hlocks () hr rfl rfl trivial [0, 1, 2, 3] rfl rfl ⟨Nat.le_of_ble_eq_true rfl, Nat.le_of_ble_eq_true rfl⟩ dX12_world_54
set_option maxRecDepth 100000 in
set_option maxHeartbeats 4000000 in
theorem c_X12_within_18 (l : Launch) (D : va_G) (cy : Nat → ClassId) : Ct l D cy yX12_within cX12_within 6 (some .boolean) 0 0 0 0 [] [.long 0, .long 0, .long 1] (fun u : Unit => some (.int 1)) (fun _ => True) (fun u : Unit => []) := by
  refine Ct.of (by decide +kernel) (Nat.le_of_ble_eq_true rfl) ?_
  intro p e s m args below meth c A ls C hr hlocks hml hnm w hl
  have hl : lv_has ls 6 [(0, .long 0), (2, .long 0), (4, .long 1)] := hl
  refine lv_lload_n C.1 C.2.1 dX12_within_0 rfl (lv_at hl 0 rfl) ?_
  refine lv_lload_n C.1 C.2.1 dX12_within_1 rfl (lv_at hl 1 rfl) ?_
  refine r_lcmp C (v := 0) dX12_within_2 (by decide) ?_
  refine b_if_lt_f C (tgt := 17) dX12_within_3 (by decide) (by decide) ?_
  refine lv_lload_n C.1 C.2.1 dX12_within_6 rfl (lv_at hl 0 rfl) ?_
  refine lv_lload C.1 C.2.1 dX12_within_7 (lv_at hl 2 rfl) ?_
  refine r_lcmp C (v := (-1)) dX12_within_9 (by decide) ?_
  refine b_if_gt_f C (tgt := 17) dX12_within_10 (by decide) (by decide) ?_
  refine lv_iconst (v := 1) C.1 C.2.1 dX12_within_13 (by decide) ?_
  refine lv_goto (tgt := 18) C.1 C.2.1 dX12_within_14 (by decide) ?_
  exact r_iret C w hlocks () hr rfl rfl trivial [] rfl rfl ⟨Nat.le_of_ble_eq_true rfl, Nat.le_of_ble_eq_true rfl⟩ dX12_within_18
theorem dX12_world_39 : decode cX12_world 39 = .ok (.aload_n 0, 1) := by decide +kernel
theorem dX12_world_40 : decode cX12_world 40 = .ok (.getfield 33, 3) := by decide +kernel
theorem dX12_world_43 : decode cX12_world 43 = .ok (.iload_n 1, 1) := by decide +kernel
theorem dX12_world_44 : decode cX12_world 44 = .ok (.iaload, 1) := by decide +kernel
theorem dX12_world_45 : decode cX12_world 45 = .ok (.goto 9, 3) := by decide +kernel
set_option maxRecDepth 100000 in
set_option maxHeartbeats 4000000 in
theorem c_X12_world_4 (l : Launch) (D : va_G) (cy : Nat → ClassId) (a0 a1 a2 a3 a4 a5 a6 a7 a8 a9 a10 a11 a12 a13 a14 a15 a16 a17 : Nat) (x0 : Int32) (k0 : ¬ x0 < 0) (k1 : ¬ 189 < x0) : Ct l D cy yX12_world cX12_world 3 (some .int) 2 46 0 0 [(a0, .inr (12, [.ref a1, .ref a2, .ref a3, .ref a4, .ref a5, .int 0, .ref a6, .int 0, .int 0, .int 0, .int 0, .int 0, .int 0, .int 0, .int 0, .int 0, .int 0, .int (-1), .ref a7, .ref a8, .int 0, .ref a9, .int 0, .ref a10, .ref a11, .ref a12, .ref a13, .ref a14, .int 0, .ref a15, .ref a16, .ref a17])), (a1, .inl (cy 1, 1868, .inl (upd (upd (upd (fun _ => 0) 1 2) 2 20) 3 120))), (a7, .inl (cy 1, 1830, .inl (fun _ => 0))), (a8, .inl (cy 1, 1830, .inl (fun _ => 0)))] [.ref a0, .int x0, .int 0] (fun u : Unit => some (.int (xW x0))) (fun _ => True) (fun u : Unit => [(a0, .inr (12, [.ref a1, .ref a2, .ref a3, .ref a4, .ref a5, .int 0, .ref a6, .int 0, .int 0, .int 0, .int 0, .int 0, .int 0, .int 0, .int 0, .int 0, .int 0, .int (-1), .ref a7, .ref a8, .int 190, .ref a9, .int 0, .ref a10, .ref a11, .ref a12, .ref a13, .ref a14, .int 0, .ref a15, .ref a16, .ref a17])), (a1, .inl (cy 1, 1868, .inl (upd (upd (upd (fun _ => 0) 1 2) 2 20) 3 120))), (a7, .inl (cy 1, 1830, .inl (lxF (fun _ => 0) 2 20 (PP 20 2 (20 + 1 - 2))))), (a8, .inl (cy 1, 1830, .inl (lyF (fun _ => 0) 2 20 (PP 20 2 (20 + 1 - 2)))))]) := by
  refine Ct.of (by decide +kernel) (Nat.le_of_ble_eq_true rfl) ?_
  intro p e s m args below meth c A ls C hr hlocks hml hnm w hl
  have hl : lv_has ls 3 [(0, .ref a0), (1, .int x0), (2, .int 0)] := hl
  refine lv_aload_n C.1 C.2.1 dX12_world_0 rfl (lv_at hl 0 rfl) ?_
  refine lv_iconst (v := 0) C.1 C.2.1 dX12_world_1 (by decide) ?_
  refine r_put C w 0 rfl rfl 5 (by decide) fl_RX12_71 rfl (ty := .int) (tyX12_ok 5 (by decide)) rfl rfl (Nat.le_of_ble_eq_true rfl) [(a0, .inr (12, [.ref a1, .ref a2, .ref a3, .ref a4, .ref a5, .int 0, .ref a6, .int 0, .int 0, .int 0, .int 0, .int 0, .int 0, .int 0, .int 0, .int 0, .int 0, .int (-1), .ref a7, .ref a8, .int 0, .ref a9, .int 0, .ref a10, .ref a11, .ref a12, .ref a13, .ref a14, .int 0, .ref a15, .ref a16, .ref a17])), (a1, .inl (cy 1, 1868, .inl (upd (upd (upd (fun _ => 0) 1 2) 2 20) 3 120))), (a7, .inl (cy 1, 1830, .inl (fun _ => 0))), (a8, .inl (cy 1, 1830, .inl (fun _ => 0)))] rfl dX12_world_2 (fun H locs w => ?_)
  refine lv_aload_n C.1 C.2.1 dX12_world_5 rfl (lv_at hl 0 rfl) ?_
  refine lv_iload_n C.1 C.2.1 dX12_world_6 rfl (lv_at hl 1 rfl) ?_
  refine r_callV C w fv_RX12_256 (c_X12_isWorld_1 l D cy a0 a1 a2 a3 a4 a5 a6 a7 a8 a9 a10 a11 a12 a13 a14 a15 a16 a17 x0 k0 k1) (hl.1.trans hml.symm) [0, 1, 2, 3] [] (wr := []) ⟨rfl, rfl, rfl, rfl, by decide⟩ 0 rfl rfl rfl rfl rfl ⟨Nat.le_of_ble_eq_true rfl, Nat.le_of_ble_eq_true rfl, Nat.le_of_ble_eq_true rfl⟩ 0 0 ⟨rfl, rfl, Nat.le_of_ble_eq_true rfl, Nat.le_of_ble_eq_true rfl⟩ dX12_world_7 (fun u H locs hp w => ?_)
  have w : Wd D A s.heap [(a0, .inr (12, [.ref a1, .ref a2, .ref a3, .ref a4, .ref a5, .int 0, .ref a6, .int 0, .int 0, .int 0, .int 0, .int 0, .int 0, .int 0, .int 0, .int 0, .int 0, .int (-1), .ref a7, .ref a8, .int 190, .ref a9, .int 0, .ref a10, .ref a11, .ref a12, .ref a13, .ref a14, .int 0, .ref a15, .ref a16, .ref a17])), (a1, .inl (cy 1, 1868, .inl (upd (upd (upd (fun _ => 0) 1 2) 2 20) 3 120))), (a7, .inl (cy 1, 1830, .inl (lxF (fun _ => 0) 2 20 (PP 20 2 (20 + 1 - 2))))), (a8, .inl (cy 1, 1830, .inl (lyF (fun _ => 0) 2 20 (PP 20 2 (20 + 1 - 2)))))] _ _ := w
  refine r_top (g2 := F0 m 10 ls [.int 1]) rfl ?_
  refine b_if_ne_t C (tgt := 19) dX12_world_10 (by decide) (by decide) ?_
  refine lv_iload_n C.1 C.2.1 dX12_world_19 rfl (lv_at hl 2 rfl) ?_
  refine lv_i2l (v := 0) C.1 C.2.1 dX12_world_20 (by decide) ?_
  refine lv_lconst (v := 0) C.1 C.2.1 dX12_world_21 (by decide) ?_
  refine lv_lconst (v := 1) C.1 C.2.1 dX12_world_22 (by decide) ?_
  refine r_callS C w fs_RX12_133 (c_X12_within_18 l D cy) (hl.1.trans hml.symm) [] [0, 1, 2, 3] (wr := [(a0, .inr (12, [.ref a1, .ref a2, .ref a3, .ref a4, .ref a5, .int 0, .ref a6, .int 0, .int 0, .int 0, .int 0, .int 0, .int 0, .int 0, .int 0, .int 0, .int 0, .int (-1), .ref a7, .ref a8, .int 190, .ref a9, .int 0, .ref a10, .ref a11, .ref a12, .ref a13, .ref a14, .int 0, .ref a15, .ref a16, .ref a17])), (a1, .inl (cy 1, 1868, .inl (upd (upd (upd (fun _ => 0) 1 2) 2 20) 3 120))), (a7, .inl (cy 1, 1830, .inl (lxF (fun _ => 0) 2 20 (PP 20 2 (20 + 1 - 2))))), (a8, .inl (cy 1, 1830, .inl (lyF (fun _ => 0) 2 20 (PP 20 2 (20 + 1 - 2)))))]) ⟨rfl, rfl, rfl, rfl, by decide⟩ rfl rfl ⟨Nat.le_of_ble_eq_true rfl, Nat.le_of_ble_eq_true rfl, Nat.le_of_ble_eq_true rfl⟩ 0 0 ⟨rfl, rfl, Nat.le_of_ble_eq_true rfl, Nat.le_of_ble_eq_true rfl⟩ dX12_world_23 (fun u H locs hp w => ?_)
  have w : Wd D A s.heap [(a0, .inr (12, [.ref a1, .ref a2, .ref a3, .ref a4, .ref a5, .int 0, .ref a6, .int 0, .int 0, .int 0, .int 0, .int 0, .int 0, .int 0, .int 0, .int 0, .int 0, .int (-1), .ref a7, .ref a8, .int 190, .ref a9, .int 0, .ref a10, .ref a11, .ref a12, .ref a13, .ref a14, .int 0, .ref a15, .ref a16, .ref a17])), (a1, .inl (cy 1, 1868, .inl (upd (upd (upd (fun _ => 0) 1 2) 2 20) 3 120))), (a7, .inl (cy 1, 1830, .inl (lxF (fun _ => 0) 2 20 (PP 20 2 (20 + 1 - 2))))), (a8, .inl (cy 1, 1830, .inl (lyF (fun _ => 0) 2 20 (PP 20 2 (20 + 1 - 2)))))] _ _ := w
  refine r_top (g2 := F0 m 26 ls [.int 1]) rfl ?_
  refine b_if_ne_t C (tgt := 35) dX12_world_26 (by decide) (by decide) ?_
  refine lv_iload_n C.1 C.2.1 dX12_world_35 rfl (lv_at hl 2 rfl) ?_
  refine b_if_ne_f C (tgt := 48) dX12_world_36 (by decide) (by decide) ?_
  refine lv_aload_n C.1 C.2.1 dX12_world_39 rfl (lv_at hl 0 rfl) ?_
  refine r_get C w 0 rfl rfl 18 (by decide) fl_RX12_33 (v := .ref a7) rfl dX12_world_40 ?_
  refine lv_iload_n C.1 C.2.1 dX12_world_43 rfl (lv_at hl 1 rfl) ?_
  refine r_iald C w 2 rfl (v := (xW x0)) (w_in k0 (by have h0 := (i_nlt k0); have h1 := (i_nlt k1); have e0 : (0 : Int32).toInt = 0 := (by decide); have e1 : (189 : Int32).toInt = 189 := (by decide); have e2 : (190 : Int32).toInt = 190 := (by decide); rw [fa_lt]; omega) (by decide)) (lxF_rd k0 (by have h0 := (i_nlt k0); have h1 := (i_nlt k1); have e0 : (0 : Int32).toInt = 0 := (by decide); have e1 : (189 : Int32).toInt = 189 := (by decide); have e2 : (190 : Int32).toInt = 190 := (by decide); rw [fa_lt]; omega)) dX12_world_44 ?_
  refine lv_goto (tgt := 54) C.1 C.2.1 dX12_world_45 (by decide) ?_
  exact r_iret C w hlocks () hr rfl rfl trivial [0, 1, 2, 3] rfl rfl ⟨Nat.le_of_ble_eq_true rfl, Nat.le_of_ble_eq_true rfl⟩ dX12_world_54
set_option maxRecDepth 100000 in
set_option maxHeartbeats 4000000 in
theorem c_X12_world_5 (l : Launch) (D : va_G) (cy : Nat → ClassId) (a0 a1 a2 a3 a4 a5 a6 a7 a8 a9 a10 a11 a12 a13 a14 a15 a16 a17 : Nat) (x0 : Int32) (x1 : Int32) (k0 : ¬ x0 < 0) (k1 : ¬ 189 < x0) (k2 : ¬ x1 < 0) (k3 : 1 < x1) : Ct l D cy yX12_world cX12_world 3 (some .int) 2 46 0 0 [(a0, .inr (12, [.ref a1, .ref a2, .ref a3, .ref a4, .ref a5, .int 0, .ref a6, .int 0, .int 0, .int 0, .int 0, .int 0, .int 0, .int 0, .int 0, .int 0, .int 0, .int (-1), .ref a7, .ref a8, .int 0, .ref a9, .int 0, .ref a10, .ref a11, .ref a12, .ref a13, .ref a14, .int 0, .ref a15, .ref a16, .ref a17])), (a1, .inl (cy 1, 1868, .inl (upd (upd (upd (fun _ => 0) 1 2) 2 20) 3 120))), (a7, .inl (cy 1, 1830, .inl (fun _ => 0))), (a8, .inl (cy 1, 1830, .inl (fun _ => 0)))] [.ref a0, .int x0, .int x1] (fun u : Unit => some (.int 0)) (fun _ => True) (fun u : Unit => [(a1, .inl (cy 1, 1868, .inl (upd (upd (upd (fun _ => 0) 1 2) 2 20) 3 120))), (a7, .inl (cy 1, 1830, .inl (lxF (fun _ => 0) 2 20 (PP 20 2 (20 + 1 - 2))))), (a8, .inl (cy 1, 1830, .inl (lyF (fun _ => 0) 2 20 (PP 20 2 (20 + 1 - 2))))), (a0, .inr (12, [.ref a1, .ref a2, .ref a3, .ref a4, .ref a5, .int 2, .ref a6, .int 0, .int 0, .int 0, .int 0, .int 0, .int 0, .int 0, .int 0, .int 0, .int 0, .int (-1), .ref a7, .ref a8, .int 190, .ref a9, .int 0, .ref a10, .ref a11, .ref a12, .ref a13, .ref a14, .int 0, .ref a15, .ref a16, .ref a17]))]) := by
  refine Ct.of (by decide +kernel) (Nat.le_of_ble_eq_true rfl) ?_
  intro p e s m args below meth c A ls C hr hlocks hml hnm w hl
  have hl : lv_has ls 3 [(0, .ref a0), (1, .int x0), (2, .int x1)] := hl
  refine lv_aload_n C.1 C.2.1 dX12_world_0 rfl (lv_at hl 0 rfl) ?_
  refine lv_iconst (v := 0) C.1 C.2.1 dX12_world_1 (by decide) ?_
  refine r_put C w 0 rfl rfl 5 (by decide) fl_RX12_71 rfl (ty := .int) (tyX12_ok 5 (by decide)) rfl rfl (Nat.le_of_ble_eq_true rfl) [(a0, .inr (12, [.ref a1, .ref a2, .ref a3, .ref a4, .ref a5, .int 0, .ref a6, .int 0, .int 0, .int 0, .int 0, .int 0, .int 0, .int 0, .int 0, .int 0, .int 0, .int (-1), .ref a7, .ref a8, .int 0, .ref a9, .int 0, .ref a10, .ref a11, .ref a12, .ref a13, .ref a14, .int 0, .ref a15, .ref a16, .ref a17])), (a1, .inl (cy 1, 1868, .inl (upd (upd (upd (fun _ => 0) 1 2) 2 20) 3 120))), (a7, .inl (cy 1, 1830, .inl (fun _ => 0))), (a8, .inl (cy 1, 1830, .inl (fun _ => 0)))] rfl dX12_world_2 (fun H locs w => ?_)
  refine lv_aload_n C.1 C.2.1 dX12_world_5 rfl (lv_at hl 0 rfl) ?_
  refine lv_iload_n C.1 C.2.1 dX12_world_6 rfl (lv_at hl 1 rfl) ?_
  refine r_callV C w fv_RX12_256 (c_X12_isWorld_1 l D cy a0 a1 a2 a3 a4 a5 a6 a7 a8 a9 a10 a11 a12 a13 a14 a15 a16 a17 x0 k0 k1) (hl.1.trans hml.symm) [0, 1, 2, 3] [] (wr := []) ⟨rfl, rfl, rfl, rfl, by decide⟩ 0 rfl rfl rfl rfl rfl ⟨Nat.le_of_ble_eq_true rfl, Nat.le_of_ble_eq_true rfl, Nat.le_of_ble_eq_true rfl⟩ 0 0 ⟨rfl, rfl, Nat.le_of_ble_eq_true rfl, Nat.le_of_ble_eq_true rfl⟩ dX12_world_7 (fun u H locs hp w => ?_)
  have w : Wd D A s.heap [(a0, .inr (12, [.ref a1, .ref a2, .ref a3, .ref a4, .ref a5, .int 0, .ref a6, .int 0, .int 0, .int 0, .int 0, .int 0, .int 0, .int 0, .int 0, .int 0, .int 0, .int (-1), .ref a7, .ref a8, .int 190, .ref a9, .int 0, .ref a10, .ref a11, .ref a12, .ref a13, .ref a14, .int 0, .ref a15, .ref a16, .ref a17])), (a1, .inl (cy 1, 1868, .inl (upd (upd (upd (fun _ => 0) 1 2) 2 20) 3 120))), (a7, .inl (cy 1, 1830, .inl (lxF (fun _ => 0) 2 20 (PP 20 2 (20 + 1 - 2))))), (a8, .inl (cy 1, 1830, .inl (lyF (fun _ => 0) 2 20 (PP 20 2 (20 + 1 - 2)))))] _ _ := w
  refine r_top (g2 := F0 m 10 ls [.int 1]) rfl ?_
  refine b_if_ne_t C (tgt := 19) dX12_world_10 (by decide) (by decide) ?_
  refine lv_iload_n C.1 C.2.1 dX12_world_19 rfl (lv_at hl 2 rfl) ?_
  refine lv_i2l (v := (Int32.toInt64 x1)) C.1 C.2.1 dX12_world_20 rfl ?_
  refine lv_lconst (v := 0) C.1 C.2.1 dX12_world_21 (by decide) ?_
  refine lv_lconst (v := 1) C.1 C.2.1 dX12_world_22 (by decide) ?_
  refine r_callS C w fs_RX12_133 (c_X12_within_16 l D cy x1 k2 k3) (hl.1.trans hml.symm) [] [0, 1, 2, 3] (wr := [(a0, .inr (12, [.ref a1, .ref a2, .ref a3, .ref a4, .ref a5, .int 0, .ref a6, .int 0, .int 0, .int 0, .int 0, .int 0, .int 0, .int 0, .int 0, .int 0, .int 0, .int (-1), .ref a7, .ref a8, .int 190, .ref a9, .int 0, .ref a10, .ref a11, .ref a12, .ref a13, .ref a14, .int 0, .ref a15, .ref a16, .ref a17])), (a1, .inl (cy 1, 1868, .inl (upd (upd (upd (fun _ => 0) 1 2) 2 20) 3 120))), (a7, .inl (cy 1, 1830, .inl (lxF (fun _ => 0) 2 20 (PP 20 2 (20 + 1 - 2))))), (a8, .inl (cy 1, 1830, .inl (lyF (fun _ => 0) 2 20 (PP 20 2 (20 + 1 - 2)))))]) ⟨rfl, rfl, rfl, rfl, by decide⟩ rfl rfl ⟨Nat.le_of_ble_eq_true rfl, Nat.le_of_ble_eq_true rfl, Nat.le_of_ble_eq_true rfl⟩ 0 0 ⟨rfl, rfl, Nat.le_of_ble_eq_true rfl, Nat.le_of_ble_eq_true rfl⟩ dX12_world_23 (fun u H locs hp w => ?_)
  have w : Wd D A s.heap [(a0, .inr (12, [.ref a1, .ref a2, .ref a3, .ref a4, .ref a5, .int 0, .ref a6, .int 0, .int 0, .int 0, .int 0, .int 0, .int 0, .int 0, .int 0, .int 0, .int 0, .int (-1), .ref a7, .ref a8, .int 190, .ref a9, .int 0, .ref a10, .ref a11, .ref a12, .ref a13, .ref a14, .int 0, .ref a15, .ref a16, .ref a17])), (a1, .inl (cy 1, 1868, .inl (upd (upd (upd (fun _ => 0) 1 2) 2 20) 3 120))), (a7, .inl (cy 1, 1830, .inl (lxF (fun _ => 0) 2 20 (PP 20 2 (20 + 1 - 2))))), (a8, .inl (cy 1, 1830, .inl (lyF (fun _ => 0) 2 20 (PP 20 2 (20 + 1 - 2)))))] _ _ := w
  refine r_top (g2 := F0 m 26 ls [.int 0]) rfl ?_
  refine b_if_ne_f C (tgt := 35) dX12_world_26 (by decide) (by decide) ?_
  refine lv_aload_n C.1 C.2.1 dX12_world_29 rfl (lv_at hl 0 rfl) ?_
  refine lv_iconst (v := 2) C.1 C.2.1 dX12_world_30 (by decide) ?_
  refine r_callV C w fv_RX12_237 (c_X12_fails_2 l D cy a0 a1 a2 a3 a4 a5 a6 a7 a8 a9 a10 a11 a12 a13 a14 a15 a16 a17) (hl.1.trans hml.symm) [0] [1, 2, 3] (wr := [(a1, .inl (cy 1, 1868, .inl (upd (upd (upd (fun _ => 0) 1 2) 2 20) 3 120))), (a7, .inl (cy 1, 1830, .inl (lxF (fun _ => 0) 2 20 (PP 20 2 (20 + 1 - 2))))), (a8, .inl (cy 1, 1830, .inl (lyF (fun _ => 0) 2 20 (PP 20 2 (20 + 1 - 2)))))]) ⟨rfl, rfl, rfl, rfl, by decide⟩ 0 rfl rfl rfl rfl rfl ⟨Nat.le_of_ble_eq_true rfl, Nat.le_of_ble_eq_true rfl, Nat.le_of_ble_eq_true rfl⟩ 0 0 ⟨rfl, rfl, Nat.le_of_ble_eq_true rfl, Nat.le_of_ble_eq_true rfl⟩ dX12_world_31 (fun u H locs hp w => ?_)
  have w : Wd D A s.heap [(a1, .inl (cy 1, 1868, .inl (upd (upd (upd (fun _ => 0) 1 2) 2 20) 3 120))), (a7, .inl (cy 1, 1830, .inl (lxF (fun _ => 0) 2 20 (PP 20 2 (20 + 1 - 2))))), (a8, .inl (cy 1, 1830, .inl (lyF (fun _ => 0) 2 20 (PP 20 2 (20 + 1 - 2))))), (a0, .inr (12, [.ref a1, .ref a2, .ref a3, .ref a4, .ref a5, .int 2, .ref a6, .int 0, .int 0, .int 0, .int 0, .int 0, .int 0, .int 0, .int 0, .int 0, .int 0, .int (-1), .ref a7, .ref a8, .int 190, .ref a9, .int 0, .ref a10, .ref a11, .ref a12, .ref a13, .ref a14, .int 0, .ref a15, .ref a16, .ref a17]))] _ _ := w
  refine r_top (g2 := F0 m 34 ls [.int 0]) rfl ?_
  exact r_iret C w hlocks () hr rfl rfl trivial [0, 1, 2, 3] rfl rfl ⟨Nat.le_of_ble_eq_true rfl, Nat.le_of_ble_eq_true rfl⟩ dX12_world_34
theorem dX12_ends_0 : decode cX12_ends 0 = .ok (.aload_n 0, 1) := by decide +kernel
theorem dX12_ends_1 : decode cX12_ends 1 = .ok (.iload_n 1, 1) := by decide +kernel
theorem dX12_ends_2 : decode cX12_ends 2 = .ok (.i2l, 1) := by decide +kernel
theorem dX12_ends_3 : decode cX12_ends 3 = .ok (.lconst 1, 1) := by decide +kernel
theorem kl_RX12_351 : Cond.constantLong RX12 351 60 ∈ gw := gw_mem (by decide +kernel) (by decide +kernel)
theorem dX12_ends_4 : decode cX12_ends 4 = .ok (.ldc2_w 351, 3) := by decide +kernel
theorem dX12_ends_7 : decode cX12_ends 7 = .ok (.invokestatic 133, 3) := by decide +kernel
set_option maxRecDepth 100000 in
set_option maxHeartbeats 4000000 in
theorem c_X12_within_19 (l : Launch) (D : va_G) (cy : Nat → ClassId) (x0 : Int32) (k0 : x0 < 1) : Ct l D cy yX12_within cX12_within 6 (some .boolean) 0 0 0 0 [] [.long (Int32.toInt64 x0), .long 1, .long 60] (fun u : Unit => some (.int 0)) (fun _ => True) (fun u : Unit => []) := by
  refine Ct.of (by decide +kernel) (Nat.le_of_ble_eq_true rfl) ?_
  intro p e s m args below meth c A ls C hr hlocks hml hnm w hl
  have hl : lv_has ls 6 [(0, .long (Int32.toInt64 x0)), (2, .long 1), (4, .long 60)] := hl
  refine lv_lload_n C.1 C.2.1 dX12_within_0 rfl (lv_at hl 0 rfl) ?_
  refine lv_lload_n C.1 C.2.1 dX12_within_1 rfl (lv_at hl 1 rfl) ?_
  refine r_lcmp C (v := (lg_cmp (Int32.toInt64 x0) 1)) dX12_within_2 rfl ?_
  refine b_if_lt_t C (tgt := 17) dX12_within_3 (by decide) (cmp_lt (x := x0) (y := 1) k0) ?_
  refine lv_iconst (v := 0) C.1 C.2.1 dX12_within_17 (by decide) ?_
  exact r_iret C w hlocks () hr rfl rfl trivial [] rfl rfl ⟨Nat.le_of_ble_eq_true rfl, Nat.le_of_ble_eq_true rfl⟩ dX12_within_18
set_option maxRecDepth 100000 in
set_option maxHeartbeats 4000000 in
theorem c_X12_within_20 (l : Launch) (D : va_G) (cy : Nat → ClassId) (x0 : Int32) (k0 : ¬ x0 < 1) (k1 : 60 < x0) : Ct l D cy yX12_within cX12_within 6 (some .boolean) 0 0 0 0 [] [.long (Int32.toInt64 x0), .long 1, .long 60] (fun u : Unit => some (.int 0)) (fun _ => True) (fun u : Unit => []) := by
  refine Ct.of (by decide +kernel) (Nat.le_of_ble_eq_true rfl) ?_
  intro p e s m args below meth c A ls C hr hlocks hml hnm w hl
  have hl : lv_has ls 6 [(0, .long (Int32.toInt64 x0)), (2, .long 1), (4, .long 60)] := hl
  refine lv_lload_n C.1 C.2.1 dX12_within_0 rfl (lv_at hl 0 rfl) ?_
  refine lv_lload_n C.1 C.2.1 dX12_within_1 rfl (lv_at hl 1 rfl) ?_
  refine r_lcmp C (v := (lg_cmp (Int32.toInt64 x0) 1)) dX12_within_2 rfl ?_
  refine b_if_lt_f C (tgt := 17) dX12_within_3 (by decide) (cmp_nlt (x := x0) (y := 1) k0) ?_
  refine lv_lload_n C.1 C.2.1 dX12_within_6 rfl (lv_at hl 0 rfl) ?_
  refine lv_lload C.1 C.2.1 dX12_within_7 (lv_at hl 2 rfl) ?_
  refine r_lcmp C (v := (lg_cmp (Int32.toInt64 x0) 60)) dX12_within_9 rfl ?_
  refine b_if_gt_t C (tgt := 17) dX12_within_10 (by decide) (cmp_gt (x := x0) (y := 60) k1) ?_
  refine lv_iconst (v := 0) C.1 C.2.1 dX12_within_17 (by decide) ?_
  exact r_iret C w hlocks () hr rfl rfl trivial [] rfl rfl ⟨Nat.le_of_ble_eq_true rfl, Nat.le_of_ble_eq_true rfl⟩ dX12_within_18
set_option maxRecDepth 100000 in
set_option maxHeartbeats 4000000 in
theorem c_X12_within_21 (l : Launch) (D : va_G) (cy : Nat → ClassId) (x0 : Int32) (k0 : ¬ x0 < 1) (k1 : ¬ 60 < x0) : Ct l D cy yX12_within cX12_within 6 (some .boolean) 0 0 0 0 [] [.long (Int32.toInt64 x0), .long 1, .long 60] (fun u : Unit => some (.int 1)) (fun _ => True) (fun u : Unit => []) := by
  refine Ct.of (by decide +kernel) (Nat.le_of_ble_eq_true rfl) ?_
  intro p e s m args below meth c A ls C hr hlocks hml hnm w hl
  have hl : lv_has ls 6 [(0, .long (Int32.toInt64 x0)), (2, .long 1), (4, .long 60)] := hl
  refine lv_lload_n C.1 C.2.1 dX12_within_0 rfl (lv_at hl 0 rfl) ?_
  refine lv_lload_n C.1 C.2.1 dX12_within_1 rfl (lv_at hl 1 rfl) ?_
  refine r_lcmp C (v := (lg_cmp (Int32.toInt64 x0) 1)) dX12_within_2 rfl ?_
  refine b_if_lt_f C (tgt := 17) dX12_within_3 (by decide) (cmp_nlt (x := x0) (y := 1) k0) ?_
  refine lv_lload_n C.1 C.2.1 dX12_within_6 rfl (lv_at hl 0 rfl) ?_
  refine lv_lload C.1 C.2.1 dX12_within_7 (lv_at hl 2 rfl) ?_
  refine r_lcmp C (v := (lg_cmp (Int32.toInt64 x0) 60)) dX12_within_9 rfl ?_
  refine b_if_gt_f C (tgt := 17) dX12_within_10 (by decide) (cmp_ngt (x := x0) (y := 60) k1) ?_
  refine lv_iconst (v := 1) C.1 C.2.1 dX12_within_13 (by decide) ?_
  refine lv_goto (tgt := 18) C.1 C.2.1 dX12_within_14 (by decide) ?_
  exact r_iret C w hlocks () hr rfl rfl trivial [] rfl rfl ⟨Nat.le_of_ble_eq_true rfl, Nat.le_of_ble_eq_true rfl⟩ dX12_within_18
theorem dX12_ends_10 : decode cX12_ends 10 = .ok (.ifCond .eq 20, 3) := by decide +kernel
theorem dX12_ends_30 : decode cX12_ends 30 = .ok (.iconst 1, 1) := by decide +kernel
theorem dX12_ends_31 : decode cX12_ends 31 = .ok (.putfield 71, 3) := by decide +kernel
theorem dX12_ends_34 : decode cX12_ends 34 = .ok (.aload_n 0, 1) := by decide +kernel
theorem dX12_ends_35 : decode cX12_ends 35 = .ok (.getfield 71, 3) := by decide +kernel
theorem dX12_ends_38 : decode cX12_ends 38 = .ok (.ifCond .le 7, 3) := by decide +kernel
theorem dX12_ends_41 : decode cX12_ends 41 = .ok (.iconst 0, 1) := by decide +kernel
theorem dX12_ends_42 : decode cX12_ends 42 = .ok (.goto 9, 3) := by decide +kernel
theorem dX12_ends_51 : decode cX12_ends 51 = .ok (.ireturn, 1) := by decide +kernel
set_option maxRecDepth 100000 in
set_option maxHeartbeats 4000000 in
theorem c_X12_ends_0 (l : Launch) (D : va_G) (cy : Nat → ClassId) (a0 a1 a2 a3 a4 a5 a6 a7 a8 a9 a10 a11 a12 a13 a14 a15 a16 a17 : Nat) (x0 : Int32) (x1 : Int32) (k0 : x0 < 1) : Ct l D cy yX12_ends cX12_ends 3 (some .int) 1 25 0 0 [(a0, .inr (12, [.ref a1, .ref a2, .ref a3, .ref a4, .ref a5, .int 0, .ref a6, .int 0, .int 0, .int 0, .int 0, .int 0, .int 0, .int 0, .int 0, .int 0, .int 0, .int (-1), .ref a7, .ref a8, .int 0, .ref a9, .int 0, .ref a10, .ref a11, .ref a12, .ref a13, .ref a14, .int 0, .ref a15, .ref a16, .ref a17]))] [.ref a0, .int x0, .int x1] (fun u : Unit => some (.int 0)) (fun _ => True) (fun u : Unit => [(a0, .inr (12, [.ref a1, .ref a2, .ref a3, .ref a4, .ref a5, .int 1, .ref a6, .int 0, .int 0, .int 0, .int 0, .int 0, .int 0, .int 0, .int 0, .int 0, .int 0, .int (-1), .ref a7, .ref a8, .int 0, .ref a9, .int 0, .ref a10, .ref a11, .ref a12, .ref a13, .ref a14, .int 0, .ref a15, .ref a16, .ref a17]))]) := by
  refine Ct.of (by decide +kernel) (Nat.le_of_ble_eq_true rfl) ?_
  intro p e s m args below meth c A ls C hr hlocks hml hnm w hl
  have hl : lv_has ls 3 [(0, .ref a0), (1, .int x0), (2, .int x1)] := hl
  refine lv_aload_n C.1 C.2.1 dX12_ends_0 rfl (lv_at hl 0 rfl) ?_
  refine lv_iload_n C.1 C.2.1 dX12_ends_1 rfl (lv_at hl 1 rfl) ?_
  refine lv_i2l (v := (Int32.toInt64 x0)) C.1 C.2.1 dX12_ends_2 rfl ?_
  refine lv_lconst (v := 1) C.1 C.2.1 dX12_ends_3 (by decide) ?_
  refine lv_ldc2 (v := 60) C.1 C.2.1 C.2.2.1 (C.2.2.2.1 _ kl_RX12_351) dX12_ends_4 ?_
  refine r_callS C w fs_RX12_133 (c_X12_within_19 l D cy x0 k0) (hl.1.trans hml.symm) [] [0] (wr := [(a0, .inr (12, [.ref a1, .ref a2, .ref a3, .ref a4, .ref a5, .int 0, .ref a6, .int 0, .int 0, .int 0, .int 0, .int 0, .int 0, .int 0, .int 0, .int 0, .int 0, .int (-1), .ref a7, .ref a8, .int 0, .ref a9, .int 0, .ref a10, .ref a11, .ref a12, .ref a13, .ref a14, .int 0, .ref a15, .ref a16, .ref a17]))]) ⟨rfl, rfl, rfl, rfl, by decide⟩ rfl rfl ⟨Nat.le_of_ble_eq_true rfl, Nat.le_of_ble_eq_true rfl, Nat.le_of_ble_eq_true rfl⟩ 0 0 ⟨rfl, rfl, Nat.le_of_ble_eq_true rfl, Nat.le_of_ble_eq_true rfl⟩ dX12_ends_7 (fun u H locs hp w => ?_)
  have w : Wd D A s.heap [(a0, .inr (12, [.ref a1, .ref a2, .ref a3, .ref a4, .ref a5, .int 0, .ref a6, .int 0, .int 0, .int 0, .int 0, .int 0, .int 0, .int 0, .int 0, .int 0, .int 0, .int (-1), .ref a7, .ref a8, .int 0, .ref a9, .int 0, .ref a10, .ref a11, .ref a12, .ref a13, .ref a14, .int 0, .ref a15, .ref a16, .ref a17]))] _ _ := w
  refine r_top (g2 := F0 m 10 ls [.int 0, .ref a0]) rfl ?_
  refine b_if_eq_t C (tgt := 30) dX12_ends_10 (by decide) (by decide) ?_
  refine lv_iconst (v := 1) C.1 C.2.1 dX12_ends_30 (by decide) ?_
  refine r_put C w 0 rfl rfl 5 (by decide) fl_RX12_71 rfl (ty := .int) (tyX12_ok 5 (by decide)) rfl rfl (Nat.le_of_ble_eq_true rfl) [(a0, .inr (12, [.ref a1, .ref a2, .ref a3, .ref a4, .ref a5, .int 1, .ref a6, .int 0, .int 0, .int 0, .int 0, .int 0, .int 0, .int 0, .int 0, .int 0, .int 0, .int (-1), .ref a7, .ref a8, .int 0, .ref a9, .int 0, .ref a10, .ref a11, .ref a12, .ref a13, .ref a14, .int 0, .ref a15, .ref a16, .ref a17]))] rfl dX12_ends_31 (fun H locs w => ?_)
  refine lv_aload_n C.1 C.2.1 dX12_ends_34 rfl (lv_at hl 0 rfl) ?_
  refine r_get C w 0 rfl rfl 5 (by decide) fl_RX12_71 (v := .int 1) rfl dX12_ends_35 ?_
  refine b_if_le_f C (tgt := 45) dX12_ends_38 (by decide) (by decide) ?_
  refine lv_iconst (v := 0) C.1 C.2.1 dX12_ends_41 (by decide) ?_
  refine lv_goto (tgt := 51) C.1 C.2.1 dX12_ends_42 (by decide) ?_
  exact r_iret C w hlocks () hr rfl rfl trivial [0] rfl rfl ⟨Nat.le_of_ble_eq_true rfl, Nat.le_of_ble_eq_true rfl⟩ dX12_ends_51
theorem dX12_ends_13 : decode cX12_ends 13 = .ok (.iload_n 2, 1) := by decide +kernel
theorem dX12_ends_14 : decode cX12_ends 14 = .ok (.i2l, 1) := by decide +kernel
theorem dX12_ends_15 : decode cX12_ends 15 = .ok (.iload_n 1, 1) := by decide +kernel
theorem dX12_ends_16 : decode cX12_ends 16 = .ok (.i2l, 1) := by decide +kernel
theorem dX12_ends_17 : decode cX12_ends 17 = .ok (.ldc2_w 351, 3) := by decide +kernel
theorem dX12_ends_20 : decode cX12_ends 20 = .ok (.invokestatic 133, 3) := by decide +kernel
set_option maxRecDepth 100000 in
set_option maxHeartbeats 4000000 in
theorem c_X12_within_22 (l : Launch) (D : va_G) (cy : Nat → ClassId) (x0 : Int32) (x1 : Int32) (k0 : x0 < x1) : Ct l D cy yX12_within cX12_within 6 (some .boolean) 0 0 0 0 [] [.long (Int32.toInt64 x0), .long (Int32.toInt64 x1), .long 60] (fun u : Unit => some (.int 0)) (fun _ => True) (fun u : Unit => []) := by
  refine Ct.of (by decide +kernel) (Nat.le_of_ble_eq_true rfl) ?_
  intro p e s m args below meth c A ls C hr hlocks hml hnm w hl
  have hl : lv_has ls 6 [(0, .long (Int32.toInt64 x0)), (2, .long (Int32.toInt64 x1)), (4, .long 60)] := hl
  refine lv_lload_n C.1 C.2.1 dX12_within_0 rfl (lv_at hl 0 rfl) ?_
  refine lv_lload_n C.1 C.2.1 dX12_within_1 rfl (lv_at hl 1 rfl) ?_
  refine r_lcmp C (v := (lg_cmp (Int32.toInt64 x0) (Int32.toInt64 x1))) dX12_within_2 rfl ?_
  refine b_if_lt_t C (tgt := 17) dX12_within_3 (by decide) (cmp_lt (x := x0) (y := x1) k0) ?_
  refine lv_iconst (v := 0) C.1 C.2.1 dX12_within_17 (by decide) ?_
  exact r_iret C w hlocks () hr rfl rfl trivial [] rfl rfl ⟨Nat.le_of_ble_eq_true rfl, Nat.le_of_ble_eq_true rfl⟩ dX12_within_18
set_option maxRecDepth 100000 in
set_option maxHeartbeats 4000000 in
theorem c_X12_within_23 (l : Launch) (D : va_G) (cy : Nat → ClassId) (x0 : Int32) (x1 : Int32) (k0 : ¬ x0 < x1) (k1 : 60 < x0) : Ct l D cy yX12_within cX12_within 6 (some .boolean) 0 0 0 0 [] [.long (Int32.toInt64 x0), .long (Int32.toInt64 x1), .long 60] (fun u : Unit => some (.int 0)) (fun _ => True) (fun u : Unit => []) := by
  refine Ct.of (by decide +kernel) (Nat.le_of_ble_eq_true rfl) ?_
  intro p e s m args below meth c A ls C hr hlocks hml hnm w hl
  have hl : lv_has ls 6 [(0, .long (Int32.toInt64 x0)), (2, .long (Int32.toInt64 x1)), (4, .long 60)] := hl
  refine lv_lload_n C.1 C.2.1 dX12_within_0 rfl (lv_at hl 0 rfl) ?_
  refine lv_lload_n C.1 C.2.1 dX12_within_1 rfl (lv_at hl 1 rfl) ?_
  refine r_lcmp C (v := (lg_cmp (Int32.toInt64 x0) (Int32.toInt64 x1))) dX12_within_2 rfl ?_
  refine b_if_lt_f C (tgt := 17) dX12_within_3 (by decide) (cmp_nlt (x := x0) (y := x1) k0) ?_
  refine lv_lload_n C.1 C.2.1 dX12_within_6 rfl (lv_at hl 0 rfl) ?_
  refine lv_lload C.1 C.2.1 dX12_within_7 (lv_at hl 2 rfl) ?_
  refine r_lcmp C (v := (lg_cmp (Int32.toInt64 x0) 60)) dX12_within_9 rfl ?_
  refine b_if_gt_t C (tgt := 17) dX12_within_10 (by decide) (cmp_gt (x := x0) (y := 60) k1) ?_
  refine lv_iconst (v := 0) C.1 C.2.1 dX12_within_17 (by decide) ?_
  exact r_iret C w hlocks () hr rfl rfl trivial [] rfl rfl ⟨Nat.le_of_ble_eq_true rfl, Nat.le_of_ble_eq_true rfl⟩ dX12_within_18
set_option maxRecDepth 100000 in
set_option maxHeartbeats 4000000 in
theorem c_X12_within_24 (l : Launch) (D : va_G) (cy : Nat → ClassId) (x0 : Int32) (x1 : Int32) (k0 : ¬ x0 < x1) (k1 : ¬ 60 < x0) : Ct l D cy yX12_within cX12_within 6 (some .boolean) 0 0 0 0 [] [.long (Int32.toInt64 x0), .long (Int32.toInt64 x1), .long 60] (fun u : Unit => some (.int 1)) (fun _ => True) (fun u : Unit => []) := by
  refine Ct.of (by decide +kernel) (Nat.le_of_ble_eq_true rfl) ?_
  intro p e s m args below meth c A ls C hr hlocks hml hnm w hl
  have hl : lv_has ls 6 [(0, .long (Int32.toInt64 x0)), (2, .long (Int32.toInt64 x1)), (4, .long 60)] := hl
  refine lv_lload_n C.1 C.2.1 dX12_within_0 rfl (lv_at hl 0 rfl) ?_
  refine lv_lload_n C.1 C.2.1 dX12_within_1 rfl (lv_at hl 1 rfl) ?_
  refine r_lcmp C (v := (lg_cmp (Int32.toInt64 x0) (Int32.toInt64 x1))) dX12_within_2 rfl ?_
  refine b_if_lt_f C (tgt := 17) dX12_within_3 (by decide) (cmp_nlt (x := x0) (y := x1) k0) ?_
  refine lv_lload_n C.1 C.2.1 dX12_within_6 rfl (lv_at hl 0 rfl) ?_
  refine lv_lload C.1 C.2.1 dX12_within_7 (lv_at hl 2 rfl) ?_
  refine r_lcmp C (v := (lg_cmp (Int32.toInt64 x0) 60)) dX12_within_9 rfl ?_
  refine b_if_gt_f C (tgt := 17) dX12_within_10 (by decide) (cmp_ngt (x := x0) (y := 60) k1) ?_
  refine lv_iconst (v := 1) C.1 C.2.1 dX12_within_13 (by decide) ?_
  refine lv_goto (tgt := 18) C.1 C.2.1 dX12_within_14 (by decide) ?_
  exact r_iret C w hlocks () hr rfl rfl trivial [] rfl rfl ⟨Nat.le_of_ble_eq_true rfl, Nat.le_of_ble_eq_true rfl⟩ dX12_within_18
theorem dX12_ends_23 : decode cX12_ends 23 = .ok (.ifCond .eq 7, 3) := by decide +kernel
set_option maxRecDepth 100000 in
set_option maxHeartbeats 4000000 in
theorem c_X12_ends_1 (l : Launch) (D : va_G) (cy : Nat → ClassId) (a0 a1 a2 a3 a4 a5 a6 a7 a8 a9 a10 a11 a12 a13 a14 a15 a16 a17 : Nat) (x0 : Int32) (x1 : Int32) (k0 : ¬ x0 < 1) (k1 : ¬ 60 < x0) (k2 : x1 < x0) : Ct l D cy yX12_ends cX12_ends 3 (some .int) 1 25 0 0 [(a0, .inr (12, [.ref a1, .ref a2, .ref a3, .ref a4, .ref a5, .int 0, .ref a6, .int 0, .int 0, .int 0, .int 0, .int 0, .int 0, .int 0, .int 0, .int 0, .int 0, .int (-1), .ref a7, .ref a8, .int 0, .ref a9, .int 0, .ref a10, .ref a11, .ref a12, .ref a13, .ref a14, .int 0, .ref a15, .ref a16, .ref a17]))] [.ref a0, .int x0, .int x1] (fun u : Unit => some (.int 0)) (fun _ => True) (fun u : Unit => [(a0, .inr (12, [.ref a1, .ref a2, .ref a3, .ref a4, .ref a5, .int 1, .ref a6, .int 0, .int 0, .int 0, .int 0, .int 0, .int 0, .int 0, .int 0, .int 0, .int 0, .int (-1), .ref a7, .ref a8, .int 0, .ref a9, .int 0, .ref a10, .ref a11, .ref a12, .ref a13, .ref a14, .int 0, .ref a15, .ref a16, .ref a17]))]) := by
  refine Ct.of (by decide +kernel) (Nat.le_of_ble_eq_true rfl) ?_
  intro p e s m args below meth c A ls C hr hlocks hml hnm w hl
  have hl : lv_has ls 3 [(0, .ref a0), (1, .int x0), (2, .int x1)] := hl
  refine lv_aload_n C.1 C.2.1 dX12_ends_0 rfl (lv_at hl 0 rfl) ?_
  refine lv_iload_n C.1 C.2.1 dX12_ends_1 rfl (lv_at hl 1 rfl) ?_
  refine lv_i2l (v := (Int32.toInt64 x0)) C.1 C.2.1 dX12_ends_2 rfl ?_
  refine lv_lconst (v := 1) C.1 C.2.1 dX12_ends_3 (by decide) ?_
  refine lv_ldc2 (v := 60) C.1 C.2.1 C.2.2.1 (C.2.2.2.1 _ kl_RX12_351) dX12_ends_4 ?_
  refine r_callS C w fs_RX12_133 (c_X12_within_21 l D cy x0 k0 k1) (hl.1.trans hml.symm) [] [0] (wr := [(a0, .inr (12, [.ref a1, .ref a2, .ref a3, .ref a4, .ref a5, .int 0, .ref a6, .int 0, .int 0, .int 0, .int 0, .int 0, .int 0, .int 0, .int 0, .int 0, .int 0, .int (-1), .ref a7, .ref a8, .int 0, .ref a9, .int 0, .ref a10, .ref a11, .ref a12, .ref a13, .ref a14, .int 0, .ref a15, .ref a16, .ref a17]))]) ⟨rfl, rfl, rfl, rfl, by decide⟩ rfl rfl ⟨Nat.le_of_ble_eq_true rfl, Nat.le_of_ble_eq_true rfl, Nat.le_of_ble_eq_true rfl⟩ 0 0 ⟨rfl, rfl, Nat.le_of_ble_eq_true rfl, Nat.le_of_ble_eq_true rfl⟩ dX12_ends_7 (fun u H locs hp w => ?_)
  have w : Wd D A s.heap [(a0, .inr (12, [.ref a1, .ref a2, .ref a3, .ref a4, .ref a5, .int 0, .ref a6, .int 0, .int 0, .int 0, .int 0, .int 0, .int 0, .int 0, .int 0, .int 0, .int 0, .int (-1), .ref a7, .ref a8, .int 0, .ref a9, .int 0, .ref a10, .ref a11, .ref a12, .ref a13, .ref a14, .int 0, .ref a15, .ref a16, .ref a17]))] _ _ := w
  refine r_top (g2 := F0 m 10 ls [.int 1, .ref a0]) rfl ?_
  refine b_if_eq_f C (tgt := 30) dX12_ends_10 (by decide) (by decide) ?_
  refine lv_iload_n C.1 C.2.1 dX12_ends_13 rfl (lv_at hl 2 rfl) ?_
  refine lv_i2l (v := (Int32.toInt64 x1)) C.1 C.2.1 dX12_ends_14 rfl ?_
  refine lv_iload_n C.1 C.2.1 dX12_ends_15 rfl (lv_at hl 1 rfl) ?_
  refine lv_i2l (v := (Int32.toInt64 x0)) C.1 C.2.1 dX12_ends_16 rfl ?_
  refine lv_ldc2 (v := 60) C.1 C.2.1 C.2.2.1 (C.2.2.2.1 _ kl_RX12_351) dX12_ends_17 ?_
  refine r_callS C w fs_RX12_133 (c_X12_within_22 l D cy x1 x0 k2) (hl.1.trans hml.symm) [] [0] (wr := [(a0, .inr (12, [.ref a1, .ref a2, .ref a3, .ref a4, .ref a5, .int 0, .ref a6, .int 0, .int 0, .int 0, .int 0, .int 0, .int 0, .int 0, .int 0, .int 0, .int 0, .int (-1), .ref a7, .ref a8, .int 0, .ref a9, .int 0, .ref a10, .ref a11, .ref a12, .ref a13, .ref a14, .int 0, .ref a15, .ref a16, .ref a17]))]) ⟨rfl, rfl, rfl, rfl, by decide⟩ rfl rfl ⟨Nat.le_of_ble_eq_true rfl, Nat.le_of_ble_eq_true rfl, Nat.le_of_ble_eq_true rfl⟩ 0 0 ⟨rfl, rfl, Nat.le_of_ble_eq_true rfl, Nat.le_of_ble_eq_true rfl⟩ dX12_ends_20 (fun u H locs hp w => ?_)
  have w : Wd D A s.heap [(a0, .inr (12, [.ref a1, .ref a2, .ref a3, .ref a4, .ref a5, .int 0, .ref a6, .int 0, .int 0, .int 0, .int 0, .int 0, .int 0, .int 0, .int 0, .int 0, .int 0, .int (-1), .ref a7, .ref a8, .int 0, .ref a9, .int 0, .ref a10, .ref a11, .ref a12, .ref a13, .ref a14, .int 0, .ref a15, .ref a16, .ref a17]))] _ _ := w
  refine r_top (g2 := F0 m 23 ls [.int 0, .ref a0]) rfl ?_
  refine b_if_eq_t C (tgt := 30) dX12_ends_23 (by decide) (by decide) ?_
  refine lv_iconst (v := 1) C.1 C.2.1 dX12_ends_30 (by decide) ?_
  refine r_put C w 0 rfl rfl 5 (by decide) fl_RX12_71 rfl (ty := .int) (tyX12_ok 5 (by decide)) rfl rfl (Nat.le_of_ble_eq_true rfl) [(a0, .inr (12, [.ref a1, .ref a2, .ref a3, .ref a4, .ref a5, .int 1, .ref a6, .int 0, .int 0, .int 0, .int 0, .int 0, .int 0, .int 0, .int 0, .int 0, .int 0, .int (-1), .ref a7, .ref a8, .int 0, .ref a9, .int 0, .ref a10, .ref a11, .ref a12, .ref a13, .ref a14, .int 0, .ref a15, .ref a16, .ref a17]))] rfl dX12_ends_31 (fun H locs w => ?_)
  refine lv_aload_n C.1 C.2.1 dX12_ends_34 rfl (lv_at hl 0 rfl) ?_
  refine r_get C w 0 rfl rfl 5 (by decide) fl_RX12_71 (v := .int 1) rfl dX12_ends_35 ?_
  refine b_if_le_f C (tgt := 45) dX12_ends_38 (by decide) (by decide) ?_
  refine lv_iconst (v := 0) C.1 C.2.1 dX12_ends_41 (by decide) ?_
  refine lv_goto (tgt := 51) C.1 C.2.1 dX12_ends_42 (by decide) ?_
  exact r_iret C w hlocks () hr rfl rfl trivial [0] rfl rfl ⟨Nat.le_of_ble_eq_true rfl, Nat.le_of_ble_eq_true rfl⟩ dX12_ends_51
theorem dX12_ends_26 : decode cX12_ends 26 = .ok (.iconst 0, 1) := by decide +kernel
theorem dX12_ends_27 : decode cX12_ends 27 = .ok (.goto 4, 3) := by decide +kernel
theorem dX12_ends_45 : decode cX12_ends 45 = .ok (.aload_n 0, 1) := by decide +kernel
theorem dX12_ends_46 : decode cX12_ends 46 = .ok (.iload_n 1, 1) := by decide +kernel
theorem dX12_ends_47 : decode cX12_ends 47 = .ok (.iload_n 2, 1) := by decide +kernel
theorem dX12_ends_48 : decode cX12_ends 48 = .ok (.invokevirtual 353, 3) := by decide +kernel
theorem dX12_leftWith_0 : decode cX12_leftWith 0 = .ok (.aload_n 0, 1) := by decide +kernel
theorem dX12_leftWith_1 : decode cX12_leftWith 1 = .ok (.getfield 9, 3) := by decide +kernel
theorem dX12_leftWith_4 : decode cX12_leftWith 4 = .ok (.iconst 1, 1) := by decide +kernel
theorem dX12_leftWith_5 : decode cX12_leftWith 5 = .ok (.iaload, 1) := by decide +kernel
theorem dX12_leftWith_6 : decode cX12_leftWith 6 = .ok (.istore_n 3, 1) := by decide +kernel
theorem dX12_leftWith_7 : decode cX12_leftWith 7 = .ok (.aload_n 0, 1) := by decide +kernel
theorem dX12_leftWith_8 : decode cX12_leftWith 8 = .ok (.getfield 9, 3) := by decide +kernel
theorem dX12_leftWith_11 : decode cX12_leftWith 11 = .ok (.iconst 2, 1) := by decide +kernel
theorem dX12_leftWith_12 : decode cX12_leftWith 12 = .ok (.iaload, 1) := by decide +kernel
theorem dX12_leftWith_13 : decode cX12_leftWith 13 = .ok (.istore 4, 2) := by decide +kernel
theorem dX12_leftWith_15 : decode cX12_leftWith 15 = .ok (.aload_n 0, 1) := by decide +kernel
theorem dX12_leftWith_16 : decode cX12_leftWith 16 = .ok (.getfield 9, 3) := by decide +kernel
theorem dX12_leftWith_19 : decode cX12_leftWith 19 = .ok (.iconst 1, 1) := by decide +kernel
theorem dX12_leftWith_20 : decode cX12_leftWith 20 = .ok (.iload_n 1, 1) := by decide +kernel
theorem dX12_leftWith_21 : decode cX12_leftWith 21 = .ok (.iastore, 1) := by decide +kernel
theorem dX12_leftWith_22 : decode cX12_leftWith 22 = .ok (.aload_n 0, 1) := by decide +kernel
theorem dX12_leftWith_23 : decode cX12_leftWith 23 = .ok (.getfield 9, 3) := by decide +kernel
theorem dX12_leftWith_26 : decode cX12_leftWith 26 = .ok (.iconst 2, 1) := by decide +kernel
theorem dX12_leftWith_27 : decode cX12_leftWith 27 = .ok (.iload_n 2, 1) := by decide +kernel
theorem dX12_leftWith_28 : decode cX12_leftWith 28 = .ok (.iastore, 1) := by decide +kernel
theorem dX12_leftWith_29 : decode cX12_leftWith 29 = .ok (.aload_n 0, 1) := by decide +kernel
theorem dX12_leftWith_30 : decode cX12_leftWith 30 = .ok (.invokevirtual 336, 3) := by decide +kernel
theorem dX12_leftNow_0 : decode cX12_leftNow 0 = .ok (.aload_n 0, 1) := by decide +kernel
theorem dX12_leftNow_1 : decode cX12_leftNow 1 = .ok (.invokevirtual 330, 3) := by decide +kernel
theorem dX12_lays_0 : decode cX12_lays 0 = .ok (.aload_n 0, 1) := by decide +kernel
theorem dX12_lays_1 : decode cX12_lays 1 = .ok (.invokevirtual 253, 3) := by decide +kernel
set_option maxRecDepth 100000 in
set_option maxHeartbeats 4000000 in
theorem c_X12_layPairs_1 (l : Launch) (D : va_G) (cy : Nat → ClassId) (a0 a1 a2 a3 a4 a5 a6 a7 a8 a9 a10 a11 a12 a13 a14 a15 a16 a17 : Nat) (x0 : Int32) (x1 : Int32) (k0 : ¬ x0 < 1) (k1 : ¬ 60 < x0) (k2 : ¬ x1 < x0) (k3 : ¬ 60 < x1) : Ct l D cy yX12_layPairs cX12_layPairs 3 none 0 0 0 0 [(a0, .inr (12, [.ref a1, .ref a2, .ref a3, .ref a4, .ref a5, .int 0, .ref a6, .int 0, .int 0, .int 0, .int 0, .int 0, .int 0, .int 0, .int 0, .int 0, .int 0, .int (-1), .ref a7, .ref a8, .int 0, .ref a9, .int 0, .ref a10, .ref a11, .ref a12, .ref a13, .ref a14, .int 0, .ref a15, .ref a16, .ref a17])), (a1, .inl (cy 1, 1868, .inl (upd (upd (upd (fun _ => 0) 1 x0) 2 x1) 3 120))), (a7, .inl (cy 1, 1830, .inl (fun _ => 0))), (a8, .inl (cy 1, 1830, .inl (fun _ => 0)))] [.ref a0] (fun u : Unit => none) (fun _ => True) (fun u : Unit => [(a0, .inr (12, [.ref a1, .ref a2, .ref a3, .ref a4, .ref a5, .int 0, .ref a6, .int 0, .int 0, .int 0, .int 0, .int 0, .int 0, .int 0, .int 0, .int 0, .int 0, .int (-1), .ref a7, .ref a8, .int (nI (PP (x1).toNatClampNeg (x0).toNatClampNeg ((x1).toNatClampNeg + 1 - (x0).toNatClampNeg))), .ref a9, .int 0, .ref a10, .ref a11, .ref a12, .ref a13, .ref a14, .int 0, .ref a15, .ref a16, .ref a17])), (a1, .inl (cy 1, 1868, .inl (upd (upd (upd (fun _ => 0) 1 x0) 2 x1) 3 120))), (a7, .inl (cy 1, 1830, .inl (lxF (fun _ => 0) (x0).toNatClampNeg (x1).toNatClampNeg (PP (x1).toNatClampNeg (x0).toNatClampNeg ((x1).toNatClampNeg + 1 - (x0).toNatClampNeg))))), (a8, .inl (cy 1, 1830, .inl (lyF (fun _ => 0) (x0).toNatClampNeg (x1).toNatClampNeg (PP (x1).toNatClampNeg (x0).toNatClampNeg ((x1).toNatClampNeg + 1 - (x0).toNatClampNeg)))))]) := by
  refine Ct.of (by decide +kernel) (Nat.le_of_ble_eq_true rfl) ?_
  intro p e s m args below meth c A ls C hr hlocks hml hnm w hl
  have hl : lv_has ls 3 [(0, .ref a0)] := hl
  refine lv_aload_n C.1 C.2.1 dX12_layPairs_0 rfl (lv_at hl 0 rfl) ?_
  refine lv_iconst (v := 0) C.1 C.2.1 dX12_layPairs_1 (by decide) ?_
  refine r_put C w 0 rfl rfl 20 (by decide) fl_RX12_250 rfl (ty := .int) (tyX12_ok 20 (by decide)) rfl rfl (Nat.le_of_ble_eq_true rfl) [(a0, .inr (12, [.ref a1, .ref a2, .ref a3, .ref a4, .ref a5, .int 0, .ref a6, .int 0, .int 0, .int 0, .int 0, .int 0, .int 0, .int 0, .int 0, .int 0, .int 0, .int (-1), .ref a7, .ref a8, .int 0, .ref a9, .int 0, .ref a10, .ref a11, .ref a12, .ref a13, .ref a14, .int 0, .ref a15, .ref a16, .ref a17])), (a1, .inl (cy 1, 1868, .inl (upd (upd (upd (fun _ => 0) 1 x0) 2 x1) 3 120))), (a7, .inl (cy 1, 1830, .inl (fun _ => 0))), (a8, .inl (cy 1, 1830, .inl (fun _ => 0)))] rfl dX12_layPairs_2 (fun H locs w => ?_)
  refine lv_aload_n C.1 C.2.1 dX12_layPairs_5 rfl (lv_at hl 0 rfl) ?_
  refine r_get C w 0 rfl rfl 0 (by decide) fl_RX12_9 (v := .ref a1) rfl dX12_layPairs_6 ?_
  refine lv_iconst (v := 1) C.1 C.2.1 dX12_layPairs_9 (by decide) ?_
  refine r_iald C w 1 rfl (v := x0) (vinD (by decide)) rfl dX12_layPairs_10 ?_
  refine lv_istore_n (lv' := [(1, .int x0), (0, .ref a0)]) C.1 C.2.1 dX12_layPairs_11 rfl hl (by decide) rfl (fun ls hl => ?_)
  refine lp_X12_layPairs_1 a0 a1 a2 a3 a4 a5 a6 a7 a8 a9 a10 a11 a12 a13 a14 a15 a16 a17 (fun _ => 0) (fun _ => 0) (x0).toNatClampNeg (x1).toNatClampNeg x0 x1 (fill_rng k0 k1 k2 k3).1 (fill_rng k0 k1 k2 k3).2.1 (fill_rng k0 k1 k2 k3).2.2 C hml (w.re rfl) (lv_sub hl [1, 0] rfl) (fun H locs ls pv em w hl => ?_)
  subst em
  have w : Wd D A s.heap [(a0, .inr (12, [.ref a1, .ref a2, .ref a3, .ref a4, .ref a5, .int 0, .ref a6, .int 0, .int 0, .int 0, .int 0, .int 0, .int 0, .int 0, .int 0, .int 0, .int 0, .int (-1), .ref a7, .ref a8, .int (nI (PP (x1).toNatClampNeg (x0).toNatClampNeg ((x1).toNatClampNeg + 1 - (x0).toNatClampNeg))), .ref a9, .int 0, .ref a10, .ref a11, .ref a12, .ref a13, .ref a14, .int 0, .ref a15, .ref a16, .ref a17])), (a1, .inl (cy 1, 1868, .inl (upd (upd (upd (fun _ => 0) 1 x0) 2 x1) 3 120))), (a7, .inl (cy 1, 1830, .inl (lxF (fun _ => 0) (x0).toNatClampNeg (x1).toNatClampNeg (PP (x1).toNatClampNeg (x0).toNatClampNeg ((x1).toNatClampNeg + 1 - (x0).toNatClampNeg))))), (a8, .inl (cy 1, 1830, .inl (lyF (fun _ => 0) (x0).toNatClampNeg (x1).toNatClampNeg (PP (x1).toNatClampNeg (x0).toNatClampNeg ((x1).toNatClampNeg + 1 - (x0).toNatClampNeg)))))] _ _ := w
  exact r_vret C w hlocks () hr rfl trivial [0, 1, 2, 3] rfl rfl ⟨Nat.le_of_ble_eq_true rfl, Nat.le_of_ble_eq_true rfl⟩ dX12_layPairs_95
theorem dX12_lays_4 : decode cX12_lays 4 = .ok (.aload_n 0, 1) := by decide +kernel
theorem dX12_lays_5 : decode cX12_lays 5 = .ok (.iconst 0, 1) := by decide +kernel
theorem dX12_lays_6 : decode cX12_lays 6 = .ok (.iconst 1, 1) := by decide +kernel
theorem dX12_lays_7 : decode cX12_lays 7 = .ok (.invokevirtual 323, 3) := by decide +kernel
theorem dX12_fills_0 : decode cX12_fills 0 = .ok (.iconst 0, 1) := by decide +kernel
theorem dX12_fills_1 : decode cX12_fills 1 = .ok (.istore_n 3, 1) := by decide +kernel
theorem dX12_fills_2 : decode cX12_fills 2 = .ok (.iload_n 3, 1) := by decide +kernel
theorem dX12_fills_3 : decode cX12_fills 3 = .ok (.aload_n 0, 1) := by decide +kernel
theorem dX12_fills_4 : decode cX12_fills 4 = .ok (.getfield 250, 3) := by decide +kernel
theorem dX12_fills_7 : decode cX12_fills 7 = .ok (.if_icmp .ge 16, 3) := by decide +kernel
theorem dX12_fills_10 : decode cX12_fills 10 = .ok (.aload_n 0, 1) := by decide +kernel
theorem dX12_fills_11 : decode cX12_fills 11 = .ok (.iload_n 1, 1) := by decide +kernel
theorem dX12_fills_12 : decode cX12_fills 12 = .ok (.iload_n 3, 1) := by decide +kernel
theorem dX12_fills_13 : decode cX12_fills 13 = .ok (.iload_n 2, 1) := by decide +kernel
theorem dX12_fills_14 : decode cX12_fills 14 = .ok (.invokevirtual 289, 3) := by decide +kernel
theorem dX12_puts_0 : decode cX12_puts 0 = .ok (.bipush 29, 2) := by decide +kernel
theorem dX12_puts_2 : decode cX12_puts 2 = .ok (.iload_n 1, 1) := by decide +kernel
theorem dX12_puts_3 : decode cX12_puts 3 = .ok (.imul, 1) := by decide +kernel
theorem dX12_puts_4 : decode cX12_puts 4 = .ok (.iload_n 2, 1) := by decide +kernel
theorem dX12_puts_5 : decode cX12_puts 5 = .ok (.bipush 6, 2) := by decide +kernel
theorem dX12_puts_7 : decode cX12_puts 7 = .ok (.ishr, 1) := by decide +kernel
theorem dX12_puts_8 : decode cX12_puts 8 = .ok (.iadd, 1) := by decide +kernel
theorem dX12_puts_9 : decode cX12_puts 9 = .ok (.istore 4, 2) := by decide +kernel
theorem dX12_puts_11 : decode cX12_puts 11 = .ok (.lconst 1, 1) := by decide +kernel
theorem dX12_puts_12 : decode cX12_puts 12 = .ok (.iload_n 2, 1) := by decide +kernel
theorem dX12_puts_13 : decode cX12_puts 13 = .ok (.bipush 63, 2) := by decide +kernel
theorem dX12_puts_15 : decode cX12_puts 15 = .ok (.iand, 1) := by decide +kernel
theorem dX12_puts_16 : decode cX12_puts 16 = .ok (.lshl, 1) := by decide +kernel
theorem dX12_puts_17 : decode cX12_puts 17 = .ok (.lstore 5, 2) := by decide +kernel
theorem dX12_puts_19 : decode cX12_puts 19 = .ok (.aload_n 0, 1) := by decide +kernel
theorem dX12_puts_20 : decode cX12_puts 20 = .ok (.getfield 39, 3) := by decide +kernel
theorem dX12_puts_23 : decode cX12_puts 23 = .ok (.iload 4, 2) := by decide +kernel
theorem dX12_puts_25 : decode cX12_puts 25 = .ok (.iload_n 3, 1) := by decide +kernel
theorem dX12_puts_26 : decode cX12_puts 26 = .ok (.ifCond .eq 16, 3) := by decide +kernel
theorem dX12_puts_29 : decode cX12_puts 29 = .ok (.aload_n 0, 1) := by decide +kernel
theorem dX12_puts_30 : decode cX12_puts 30 = .ok (.getfield 39, 3) := by decide +kernel
theorem dX12_puts_33 : decode cX12_puts 33 = .ok (.iload 4, 2) := by decide +kernel
theorem dX12_puts_35 : decode cX12_puts 35 = .ok (.laload, 1) := by decide +kernel
theorem dX12_puts_36 : decode cX12_puts 36 = .ok (.lload 5, 2) := by decide +kernel
theorem dX12_puts_38 : decode cX12_puts 38 = .ok (.lor, 1) := by decide +kernel
theorem dX12_puts_39 : decode cX12_puts 39 = .ok (.goto 17, 3) := by decide +kernel
theorem dX12_puts_56 : decode cX12_puts 56 = .ok (.lastore, 1) := by decide +kernel
theorem dX12_puts_57 : decode cX12_puts 57 = .ok (.return_, 1) := by decide +kernel
set_option maxRecDepth 100000 in
set_option maxHeartbeats 4000000 in
theorem c_X12_puts_0 (l : Launch) (D : va_G) (cy : Nat → ClassId) (a0 a1 a2 a3 a4 a5 a6 a7 a8 a9 a10 a11 a12 a13 a14 a15 a16 a17 : Nat) (x0 : Int32) (x1 : Int32) (f0 : Nat → Int64) (k0 : ¬ x0 < 0) (k1 : x0 < 1830) : Ct l D cy yX12_puts cX12_puts 7 none 0 0 0 0 [(a0, .inr (12, [.ref a1, .ref a2, .ref a3, .ref a4, .ref a5, .int 0, .ref a6, .int 0, .int 0, .int 0, .int 0, .int 0, .int 0, .int 0, .int 0, .int 0, .int 0, .int (-1), .ref a7, .ref a8, .int x1, .ref a9, .int 0, .ref a10, .ref a11, .ref a12, .ref a13, .ref a14, .int 0, .ref a15, .ref a16, .ref a17])), (a9, .inl (cy 2, 2465, .inr (.inl f0)))] [.ref a0, .int 0, .int x0, .int 1] (fun u : Unit => none) (fun _ => True) (fun u : Unit => [(a0, .inr (12, [.ref a1, .ref a2, .ref a3, .ref a4, .ref a5, .int 0, .ref a6, .int 0, .int 0, .int 0, .int 0, .int 0, .int 0, .int 0, .int 0, .int 0, .int 0, .int (-1), .ref a7, .ref a8, .int x1, .ref a9, .int 0, .ref a10, .ref a11, .ref a12, .ref a13, .ref a14, .int 0, .ref a15, .ref a16, .ref a17])), (a9, .inl (cy 2, 2465, .inr (.inl (orW f0 x0))))]) := by
  refine Ct.of (by decide +kernel) (Nat.le_of_ble_eq_true rfl) ?_
  intro p e s m args below meth c A ls C hr hlocks hml hnm w hl
  have hl : lv_has ls 7 [(0, .ref a0), (1, .int 0), (2, .int x0), (3, .int 1)] := hl
  refine lv_bipush (v := 29) C.1 C.2.1 dX12_puts_0 (by decide) ?_
  refine lv_iload_n C.1 C.2.1 dX12_puts_2 rfl (lv_at hl 1 rfl) ?_
  refine r_imul C (v := 0) dX12_puts_3 (by decide) ?_
  refine lv_iload_n C.1 C.2.1 dX12_puts_4 rfl (lv_at hl 2 rfl) ?_
  refine lv_bipush (v := 6) C.1 C.2.1 dX12_puts_5 (by decide) ?_
  refine r_ishr C (v := (x0 >>> (6 &&& 31))) dX12_puts_7 rfl ?_
  refine r_iadd C (v := ((0 : Int32) + (x0 >>> (6 &&& 31)))) dX12_puts_8 rfl ?_
  refine lv_istore (lv' := [(4, .int ((0 : Int32) + (x0 >>> (6 &&& 31)))), (0, .ref a0), (1, .int 0), (2, .int x0), (3, .int 1)]) C.1 C.2.1 dX12_puts_9 hl (by decide) rfl (fun ls hl => ?_)
  refine lv_lconst (v := 1) C.1 C.2.1 dX12_puts_11 (by decide) ?_
  refine lv_iload_n C.1 C.2.1 dX12_puts_12 rfl (lv_at hl 3 rfl) ?_
  refine lv_bipush (v := 63) C.1 C.2.1 dX12_puts_13 (by decide) ?_
  refine r_iand C (v := (x0 &&& 63)) dX12_puts_15 rfl ?_
  refine lv_lshl (v := (1 <<< (Int32.toInt64 (x0 &&& 63) &&& 63))) C.1 C.2.1 dX12_puts_16 rfl ?_
  refine lv_lstore (lv' := [(5, .long (1 <<< (Int32.toInt64 (x0 &&& 63) &&& 63))), (4, .int ((0 : Int32) + (x0 >>> (6 &&& 31)))), (0, .ref a0), (1, .int 0), (2, .int x0), (3, .int 1)]) C.1 C.2.1 dX12_puts_17 hl (by decide) rfl (fun ls hl => ?_)
  refine lv_aload_n C.1 C.2.1 dX12_puts_19 rfl (lv_at hl 2 rfl) ?_
  refine r_get C w 0 rfl rfl 21 (by decide) fl_RX12_39 (v := .ref a9) rfl dX12_puts_20 ?_
  refine lv_iload C.1 C.2.1 dX12_puts_23 (lv_at hl 1 rfl) ?_
  refine lv_iload_n C.1 C.2.1 dX12_puts_25 rfl (lv_at hl 5 rfl) ?_
  refine b_if_eq_f C (tgt := 42) dX12_puts_26 (by decide) (by decide) ?_
  refine lv_aload_n C.1 C.2.1 dX12_puts_29 rfl (lv_at hl 2 rfl) ?_
  refine r_get C w 0 rfl rfl 21 (by decide) fl_RX12_39 (v := .ref a9) rfl dX12_puts_30 ?_
  refine lv_iload C.1 C.2.1 dX12_puts_33 (lv_at hl 1 rfl) ?_
  refine r_lald C w 1 rfl (v := (f0 ((0 : Int32) + (x0 >>> (6 &&& 31))).toNatClampNeg)) (plW_in k0 k1) rfl dX12_puts_35 ?_
  refine lv_lload C.1 C.2.1 dX12_puts_36 (lv_at hl 0 rfl) ?_
  refine r_lor C (v := ((f0 ((0 : Int32) + (x0 >>> (6 &&& 31))).toNatClampNeg) ||| (1 <<< (Int32.toInt64 (x0 &&& 63) &&& 63)))) dX12_puts_38 rfl ?_
  refine lv_goto (tgt := 56) C.1 C.2.1 dX12_puts_39 (by decide) ?_
  refine r_last C w 1 rfl (plW_in k0 k1) (orW f0 x0) rfl [(a0, .inr (12, [.ref a1, .ref a2, .ref a3, .ref a4, .ref a5, .int 0, .ref a6, .int 0, .int 0, .int 0, .int 0, .int 0, .int 0, .int 0, .int 0, .int 0, .int 0, .int (-1), .ref a7, .ref a8, .int x1, .ref a9, .int 0, .ref a10, .ref a11, .ref a12, .ref a13, .ref a14, .int 0, .ref a15, .ref a16, .ref a17])), (a9, .inl (cy 2, 2465, .inr (.inl (orW f0 x0))))] rfl dX12_puts_56 (fun H locs w => ?_)
  exact r_vret C w hlocks () hr rfl trivial [0, 1] rfl rfl ⟨Nat.le_of_ble_eq_true rfl, Nat.le_of_ble_eq_true rfl⟩ dX12_puts_57
theorem fv_RX12_289 : FV RX12 289 yX12_puts cX12_puts 7 none 3 := ⟨⟨gw_mem (by decide +kernel) (by decide +kernel), gw_mem (by decide +kernel) (by decide +kernel), gw_mem (by decide +kernel) (by decide +kernel), gw_mem (by decide +kernel) (by decide +kernel), gw_mem (by decide +kernel) (by decide +kernel)⟩, ⟨by decide +kernel, by decide +kernel, by decide +kernel⟩⟩
theorem dX12_fills_17 : decode cX12_fills 17 = .ok (.iinc 3 1, 3) := by decide +kernel
theorem dX12_fills_20 : decode cX12_fills 20 = .ok (.goto (-18), 3) := by decide +kernel
set_option maxRecDepth 100000 in
set_option maxHeartbeats 4000000 in
theorem c_X12_puts_1 (l : Launch) (D : va_G) (cy : Nat → ClassId) (a0 a1 a2 a3 a4 a5 a6 a7 a8 a9 a10 a11 a12 a13 a14 a15 a16 a17 : Nat) (x0 : Int32) (x1 : Int32) (f0 : Nat → Int64) (k0 : ¬ x0 < 0) (k1 : x0 < 1830) : Ct l D cy yX12_puts cX12_puts 7 none 0 0 0 0 [(a0, .inr (12, [.ref a1, .ref a2, .ref a3, .ref a4, .ref a5, .int 0, .ref a6, .int 0, .int 0, .int 0, .int 0, .int 0, .int 0, .int 0, .int 0, .int 0, .int 0, .int (-1), .ref a7, .ref a8, .int x1, .ref a9, .int 0, .ref a10, .ref a11, .ref a12, .ref a13, .ref a14, .int 0, .ref a15, .ref a16, .ref a17])), (a9, .inl (cy 2, 2465, .inr (.inl f0)))] [.ref a0, .int 0, .int x0, .int 1] (fun u : Unit => none) (fun _ => True) (fun u : Unit => [(a0, .inr (12, [.ref a1, .ref a2, .ref a3, .ref a4, .ref a5, .int 0, .ref a6, .int 0, .int 0, .int 0, .int 0, .int 0, .int 0, .int 0, .int 0, .int 0, .int 0, .int (-1), .ref a7, .ref a8, .int x1, .ref a9, .int 0, .ref a10, .ref a11, .ref a12, .ref a13, .ref a14, .int 0, .ref a15, .ref a16, .ref a17])), (a9, .inl (cy 2, 2465, .inr (.inl (orW f0 x0))))]) := by
  refine Ct.of (by decide +kernel) (Nat.le_of_ble_eq_true rfl) ?_
  intro p e s m args below meth c A ls C hr hlocks hml hnm w hl
  have hl : lv_has ls 7 [(0, .ref a0), (1, .int 0), (2, .int x0), (3, .int 1)] := hl
  refine lv_bipush (v := 29) C.1 C.2.1 dX12_puts_0 (by decide) ?_
  refine lv_iload_n C.1 C.2.1 dX12_puts_2 rfl (lv_at hl 1 rfl) ?_
  refine r_imul C (v := 0) dX12_puts_3 (by decide) ?_
  refine lv_iload_n C.1 C.2.1 dX12_puts_4 rfl (lv_at hl 2 rfl) ?_
  refine lv_bipush (v := 6) C.1 C.2.1 dX12_puts_5 (by decide) ?_
  refine r_ishr C (v := (x0 >>> (6 &&& 31))) dX12_puts_7 rfl ?_
  refine r_iadd C (v := ((0 : Int32) + (x0 >>> (6 &&& 31)))) dX12_puts_8 rfl ?_
  refine lv_istore (lv' := [(4, .int ((0 : Int32) + (x0 >>> (6 &&& 31)))), (0, .ref a0), (1, .int 0), (2, .int x0), (3, .int 1)]) C.1 C.2.1 dX12_puts_9 hl (by decide) rfl (fun ls hl => ?_)
  refine lv_lconst (v := 1) C.1 C.2.1 dX12_puts_11 (by decide) ?_
  refine lv_iload_n C.1 C.2.1 dX12_puts_12 rfl (lv_at hl 3 rfl) ?_
  refine lv_bipush (v := 63) C.1 C.2.1 dX12_puts_13 (by decide) ?_
  refine r_iand C (v := (x0 &&& 63)) dX12_puts_15 rfl ?_
  refine lv_lshl (v := (1 <<< (Int32.toInt64 (x0 &&& 63) &&& 63))) C.1 C.2.1 dX12_puts_16 rfl ?_
  refine lv_lstore (lv' := [(5, .long (1 <<< (Int32.toInt64 (x0 &&& 63) &&& 63))), (4, .int ((0 : Int32) + (x0 >>> (6 &&& 31)))), (0, .ref a0), (1, .int 0), (2, .int x0), (3, .int 1)]) C.1 C.2.1 dX12_puts_17 hl (by decide) rfl (fun ls hl => ?_)
  refine lv_aload_n C.1 C.2.1 dX12_puts_19 rfl (lv_at hl 2 rfl) ?_
  refine r_get C w 0 rfl rfl 21 (by decide) fl_RX12_39 (v := .ref a9) rfl dX12_puts_20 ?_
  refine lv_iload C.1 C.2.1 dX12_puts_23 (lv_at hl 1 rfl) ?_
  refine lv_iload_n C.1 C.2.1 dX12_puts_25 rfl (lv_at hl 5 rfl) ?_
  refine b_if_eq_f C (tgt := 42) dX12_puts_26 (by decide) (by decide) ?_
  refine lv_aload_n C.1 C.2.1 dX12_puts_29 rfl (lv_at hl 2 rfl) ?_
  refine r_get C w 0 rfl rfl 21 (by decide) fl_RX12_39 (v := .ref a9) rfl dX12_puts_30 ?_
  refine lv_iload C.1 C.2.1 dX12_puts_33 (lv_at hl 1 rfl) ?_
  refine r_lald C w 1 rfl (v := (f0 ((0 : Int32) + (x0 >>> (6 &&& 31))).toNatClampNeg)) (plW_in k0 k1) rfl dX12_puts_35 ?_
  refine lv_lload C.1 C.2.1 dX12_puts_36 (lv_at hl 0 rfl) ?_
  refine r_lor C (v := ((f0 ((0 : Int32) + (x0 >>> (6 &&& 31))).toNatClampNeg) ||| (1 <<< (Int32.toInt64 (x0 &&& 63) &&& 63)))) dX12_puts_38 rfl ?_
  refine lv_goto (tgt := 56) C.1 C.2.1 dX12_puts_39 (by decide) ?_
  refine r_last C w 1 rfl (plW_in k0 k1) (orW f0 x0) rfl [(a0, .inr (12, [.ref a1, .ref a2, .ref a3, .ref a4, .ref a5, .int 0, .ref a6, .int 0, .int 0, .int 0, .int 0, .int 0, .int 0, .int 0, .int 0, .int 0, .int 0, .int (-1), .ref a7, .ref a8, .int x1, .ref a9, .int 0, .ref a10, .ref a11, .ref a12, .ref a13, .ref a14, .int 0, .ref a15, .ref a16, .ref a17])), (a9, .inl (cy 2, 2465, .inr (.inl (orW f0 x0))))] rfl dX12_puts_56 (fun H locs w => ?_)
  exact r_vret C w hlocks () hr rfl trivial [0, 1] rfl rfl ⟨Nat.le_of_ble_eq_true rfl, Nat.le_of_ble_eq_true rfl⟩ dX12_puts_57
set_option maxRecDepth 100000 in
set_option maxHeartbeats 4000000 in
theorem lp_X12_fills_1 {p : Program} {l : Launch} {e : Env} {R : Room} {s : State} {m : MethodId} {args : Array Value} {below : List Frame} {meth : Method} {c : Code} {cells slots : Nat} {Q : State → Prop} {D : va_G} {cy : Nat → ClassId} {A : Nat → Prop} {H : Heap} {locs : List Loc} {ls : Array Slot} (a0 a1 a2 a3 a4 a5 a6 a7 a8 a9 a10 a11 a12 a13 a14 a15 a16 a17 : Nat) (f : Nat → Int64) (pv : Int32) (P : Nat) (ep : pv = nI P) (hP : P ≤ 1830) (C : Cx p s m args c cX12_fills RX12 D cy A) (hml : c.maxLocals = 4) (hfr : 1 ≤ R.frames) (hlo : 26 ≤ R.locals) (hcs : cells ≤ R.cells ∧ slots ≤ R.slots) (w : Wd D A s.heap [(a0, .inr (12, [.ref a1, .ref a2, .ref a3, .ref a4, .ref a5, .int 0, .ref a6, .int 0, .int 0, .int 0, .int 0, .int 0, .int 0, .int 0, .int 0, .int 0, .int 0, .int (-1), .ref a7, .ref a8, .int pv, .ref a9, .int 0, .ref a10, .ref a11, .ref a12, .ref a13, .ref a14, .int 0, .ref a15, .ref a16, .ref a17])), (a9, .inl (cy 2, 2465, .inr (.inl (f))))] H locs) (hl : lv_has ls 4 [(0, .ref a0), (1, .int 0), (2, .int 1), (3, .int 0)])
    (kk : ∀ (H : Heap) (locs : List Loc) (ls : Array Slot), Wd D A s.heap [(a0, .inr (12, [.ref a1, .ref a2, .ref a3, .ref a4, .ref a5, .int 0, .ref a6, .int 0, .int 0, .int 0, .int 0, .int 0, .int 0, .int 0, .int 0, .int 0, .int 0, .int (-1), .ref a7, .ref a8, .int pv, .ref a9, .int 0, .ref a10, .ref a11, .ref a12, .ref a13, .ref a14, .int 0, .ref a15, .ref a16, .ref a17])), (a9, .inl (cy 2, 2465, .inr (.inl (rwF f P))))] H locs → lv_has ls 4 [(0, .ref a0), (1, .int 0), (2, .int 1)] → W p l e R s m args below meth c H locs cells slots Q (F0 m 23 ls [])) : W p l e R s m args below meth c H locs cells slots Q (F0 m 2 ls []) := by
  have lp : ∀ (k n : Nat) (wv : Int32) (H : Heap) (locs : List Loc) (ls : Array Slot), n + k = P → wv = nI n → Wd D A s.heap [(a0, .inr (12, [.ref a1, .ref a2, .ref a3, .ref a4, .ref a5, .int 0, .ref a6, .int 0, .int 0, .int 0, .int 0, .int 0, .int 0, .int 0, .int 0, .int 0, .int 0, .int (-1), .ref a7, .ref a8, .int pv, .ref a9, .int 0, .ref a10, .ref a11, .ref a12, .ref a13, .ref a14, .int 0, .ref a15, .ref a16, .ref a17])), (a9, .inl (cy 2, 2465, .inr (.inl (rwF f n))))] H locs → lv_has ls 4 [(0, .ref a0), (1, .int 0), (2, .int 1), (3, .int wv)] → W p l e R s m args below meth c H locs cells slots Q (F0 m 2 ls []) := by
    intro k
    induction k with
    | zero =>
      intro n wv H locs ls h4 ei w hl
      have hx : n = P := by omega
      subst hx
      have c1 : pv ≤ wv := by rw [ep, ei]; exact Int32.le_refl _
      refine lv_iload_n C.1 C.2.1 dX12_fills_2 rfl (lv_at hl 3 rfl) ?_
      refine lv_aload_n C.1 C.2.1 dX12_fills_3 rfl (lv_at hl 0 rfl) ?_
      refine r_get C w 0 rfl rfl 20 (by decide) fl_RX12_250 (v := .int pv) rfl dX12_fills_4 ?_
      refine b_icmp_ge_t C (tgt := 23) dX12_fills_7 (by decide) c1 ?_
      exact kk _ _ _ w (lv_sub hl [0, 1, 2] rfl)
    | succ k ih =>
      intro n wv H locs ls h4 ei w hl
      have c1 : ¬ pv ≤ wv := by rw [ep, ei]; exact nI_ge (by omega) (by omega)
      have hw0 : ¬ wv < 0 := by rw [ei]; exact nI_pos (by omega)
      have hw1 : wv < 1830 := by rw [ei]; exact nI_lt (b := 1830) (by omega) (by decide)
      refine lv_iload_n C.1 C.2.1 dX12_fills_2 rfl (lv_at hl 3 rfl) ?_
      refine lv_aload_n C.1 C.2.1 dX12_fills_3 rfl (lv_at hl 0 rfl) ?_
      refine r_get C w 0 rfl rfl 20 (by decide) fl_RX12_250 (v := .int pv) rfl dX12_fills_4 ?_
      refine b_icmp_ge_f C (tgt := 23) dX12_fills_7 (by decide) c1 ?_
      refine lv_aload_n C.1 C.2.1 dX12_fills_10 rfl (lv_at hl 0 rfl) ?_
      refine lv_iload_n C.1 C.2.1 dX12_fills_11 rfl (lv_at hl 1 rfl) ?_
      refine lv_iload_n C.1 C.2.1 dX12_fills_12 rfl (lv_at hl 3 rfl) ?_
      refine lv_iload_n C.1 C.2.1 dX12_fills_13 rfl (lv_at hl 2 rfl) ?_
      refine r_callV C w fv_RX12_289 (c_X12_puts_1 l D cy a0 a1 a2 a3 a4 a5 a6 a7 a8 a9 a10 a11 a12 a13 a14 a15 a16 a17 wv pv (rwF f n) hw0 hw1) (hl.1.trans hml.symm) [0, 1] [] (wr := []) ⟨rfl, rfl, rfl, rfl, by decide⟩ 0 rfl rfl rfl rfl rfl ⟨by omega, by omega, Nat.le_of_ble_eq_true rfl⟩ cells slots ⟨rfl, rfl, hcs.1, hcs.2⟩ dX12_fills_14 (fun u H locs hp w => ?_)
      have w : Wd D A s.heap [(a0, .inr (12, [.ref a1, .ref a2, .ref a3, .ref a4, .ref a5, .int 0, .ref a6, .int 0, .int 0, .int 0, .int 0, .int 0, .int 0, .int 0, .int 0, .int 0, .int 0, .int (-1), .ref a7, .ref a8, .int pv, .ref a9, .int 0, .ref a10, .ref a11, .ref a12, .ref a13, .ref a14, .int 0, .ref a15, .ref a16, .ref a17])), (a9, .inl (cy 2, 2465, .inr (.inl (orW (rwF f n) wv))))] _ _ := w
      refine r_top (g2 := F0 m 17 ls []) rfl ?_
      refine lv_iinc (v := (wv + 1)) (lv' := [(3, .int (wv + 1)), (0, .ref a0), (1, .int 0), (2, .int 1)]) C.1 C.2.1 dX12_fills_17 hl (k := 3) rfl rfl (by decide) rfl (fun ls hl => ?_)
      refine lv_goto (tgt := 2) C.1 C.2.1 dX12_fills_20 (by decide) ?_
      exact ih (n + 1) (wv + 1) _ _ _ (by omega) (by rw [ei]; exact nI_1 _) (by subst ei; exact w) (lv_sub hl [1, 2, 3, 0] rfl)
  exact lp P 0 0 _ _ _ (Nat.zero_add _) rfl w hl
theorem dX12_fills_23 : decode cX12_fills 23 = .ok (.return_, 1) := by decide +kernel
set_option maxRecDepth 100000 in
set_option maxHeartbeats 4000000 in
theorem c_X12_fills_0 (l : Launch) (D : va_G) (cy : Nat → ClassId) (a0 a1 a2 a3 a4 a5 a6 a7 a8 a9 a10 a11 a12 a13 a14 a15 a16 a17 : Nat) (x0 : Int32) (x1 : Int32) (k0 : ¬ x0 < 1) (k1 : ¬ 60 < x0) (k2 : ¬ x1 < x0) (k3 : ¬ 60 < x1) : Ct l D cy yX12_fills cX12_fills 4 none 1 26 0 0 [(a0, .inr (12, [.ref a1, .ref a2, .ref a3, .ref a4, .ref a5, .int 0, .ref a6, .int 0, .int 0, .int 0, .int 0, .int 0, .int 0, .int 0, .int 0, .int 0, .int 0, .int (-1), .ref a7, .ref a8, .int (nI (PP (x1).toNatClampNeg (x0).toNatClampNeg ((x1).toNatClampNeg + 1 - (x0).toNatClampNeg))), .ref a9, .int 0, .ref a10, .ref a11, .ref a12, .ref a13, .ref a14, .int 0, .ref a15, .ref a16, .ref a17])), (a9, .inl (cy 2, 2465, .inr (.inl (fun _ => 0))))] [.ref a0, .int 0, .int 1] (fun u : Unit => none) (fun _ => True) (fun u : Unit => [(a0, .inr (12, [.ref a1, .ref a2, .ref a3, .ref a4, .ref a5, .int 0, .ref a6, .int 0, .int 0, .int 0, .int 0, .int 0, .int 0, .int 0, .int 0, .int 0, .int 0, .int (-1), .ref a7, .ref a8, .int (nI (PP (x1).toNatClampNeg (x0).toNatClampNeg ((x1).toNatClampNeg + 1 - (x0).toNatClampNeg))), .ref a9, .int 0, .ref a10, .ref a11, .ref a12, .ref a13, .ref a14, .int 0, .ref a15, .ref a16, .ref a17])), (a9, .inl (cy 2, 2465, .inr (.inl (rwF (fun _ => 0) (PP (x1).toNatClampNeg (x0).toNatClampNeg ((x1).toNatClampNeg + 1 - (x0).toNatClampNeg))))))]) := by
  refine Ct.of (by decide +kernel) (Nat.le_of_ble_eq_true rfl) ?_
  intro p e s m args below meth c A ls C hr hlocks hml hnm w hl
  have hl : lv_has ls 4 [(0, .ref a0), (1, .int 0), (2, .int 1)] := hl
  refine lv_iconst (v := 0) C.1 C.2.1 dX12_fills_0 (by decide) ?_
  refine lv_istore_n (lv' := [(3, .int 0), (0, .ref a0), (1, .int 0), (2, .int 1)]) C.1 C.2.1 dX12_fills_1 rfl hl (by decide) rfl (fun ls hl => ?_)
  refine lp_X12_fills_1 a0 a1 a2 a3 a4 a5 a6 a7 a8 a9 a10 a11 a12 a13 a14 a15 a16 a17 (fun _ => 0) (nI (PP (x1).toNatClampNeg (x0).toNatClampNeg ((x1).toNatClampNeg + 1 - (x0).toNatClampNeg))) (PP (x1).toNatClampNeg (x0).toNatClampNeg ((x1).toNatClampNeg + 1 - (x0).toNatClampNeg)) rfl (cnt_le k0 k1 k2 k3) C hml (Nat.le_of_ble_eq_true rfl) (Nat.le_of_ble_eq_true rfl) ⟨Nat.le_of_ble_eq_true rfl, Nat.le_of_ble_eq_true rfl⟩ (w.re rfl) (lv_sub hl [1, 2, 3, 0] rfl) (fun H locs ls w hl => ?_)
  have w : Wd D A s.heap [(a0, .inr (12, [.ref a1, .ref a2, .ref a3, .ref a4, .ref a5, .int 0, .ref a6, .int 0, .int 0, .int 0, .int 0, .int 0, .int 0, .int 0, .int 0, .int 0, .int 0, .int (-1), .ref a7, .ref a8, .int (nI (PP (x1).toNatClampNeg (x0).toNatClampNeg ((x1).toNatClampNeg + 1 - (x0).toNatClampNeg))), .ref a9, .int 0, .ref a10, .ref a11, .ref a12, .ref a13, .ref a14, .int 0, .ref a15, .ref a16, .ref a17])), (a9, .inl (cy 2, 2465, .inr (.inl (rwF (fun _ => 0) (PP (x1).toNatClampNeg (x0).toNatClampNeg ((x1).toNatClampNeg + 1 - (x0).toNatClampNeg))))))] _ _ := w
  exact r_vret C w hlocks () hr rfl trivial [0, 1] rfl rfl ⟨Nat.le_of_ble_eq_true rfl, Nat.le_of_ble_eq_true rfl⟩ dX12_fills_23
theorem fv_RX12_323 : FV RX12 323 yX12_fills cX12_fills 4 none 2 := ⟨⟨gw_mem (by decide +kernel) (by decide +kernel), gw_mem (by decide +kernel) (by decide +kernel), gw_mem (by decide +kernel) (by decide +kernel), gw_mem (by decide +kernel) (by decide +kernel), gw_mem (by decide +kernel) (by decide +kernel)⟩, ⟨by decide +kernel, by decide +kernel, by decide +kernel⟩⟩
theorem dX12_lays_10 : decode cX12_lays 10 = .ok (.iconst 0, 1) := by decide +kernel
theorem dX12_lays_11 : decode cX12_lays 11 = .ok (.istore_n 1, 1) := by decide +kernel
theorem dX12_lays_12 : decode cX12_lays 12 = .ok (.iload_n 1, 1) := by decide +kernel
theorem dX12_lays_13 : decode cX12_lays 13 = .ok (.aload_n 0, 1) := by decide +kernel
theorem dX12_lays_14 : decode cX12_lays 14 = .ok (.getfield 9, 3) := by decide +kernel
theorem dX12_lays_17 : decode cX12_lays 17 = .ok (.bipush 6, 2) := by decide +kernel
theorem dX12_lays_19 : decode cX12_lays 19 = .ok (.iaload, 1) := by decide +kernel
theorem dX12_lays_20 : decode cX12_lays 20 = .ok (.if_icmp .ge 68, 3) := by decide +kernel
theorem dX12_lays_88 : decode cX12_lays 88 = .ok (.aload_n 0, 1) := by decide +kernel
theorem dX12_lays_89 : decode cX12_lays 89 = .ok (.bipush 21, 2) := by decide +kernel
theorem dX12_lays_91 : decode cX12_lays 91 = .ok (.putfield 297, 3) := by decide +kernel
theorem fl_RX12_297 : Cond.fieldLink RX12 297 "TwoSlipsModel" "top" "I" ∈ gw := gw_mem (by decide +kernel) (by decide +kernel)
theorem dX12_lays_94 : decode cX12_lays 94 = .ok (.return_, 1) := by decide +kernel
set_option maxRecDepth 100000 in
set_option maxHeartbeats 4000000 in
theorem c_X12_lays_0 (l : Launch) (D : va_G) (cy : Nat → ClassId) (a0 a1 a2 a3 a4 a5 a6 a7 a8 a9 a10 a11 a12 a13 a14 a15 a16 a17 : Nat) (x0 : Int32) (x1 : Int32) (k0 : ¬ x0 < 1) (k1 : ¬ 60 < x0) (k2 : ¬ x1 < x0) (k3 : ¬ 60 < x1) : Ct l D cy yX12_lays cX12_lays 4 none 2 49 0 0 [(a0, .inr (12, [.ref a1, .ref a2, .ref a3, .ref a4, .ref a5, .int 0, .ref a6, .int 0, .int 0, .int 0, .int 0, .int 0, .int 0, .int 0, .int 0, .int 0, .int 0, .int (-1), .ref a7, .ref a8, .int 0, .ref a9, .int 0, .ref a10, .ref a11, .ref a12, .ref a13, .ref a14, .int 0, .ref a15, .ref a16, .ref a17])), (a1, .inl (cy 1, 1868, .inl (upd (upd (upd (fun _ => 0) 1 x0) 2 x1) 3 120))), (a7, .inl (cy 1, 1830, .inl (fun _ => 0))), (a8, .inl (cy 1, 1830, .inl (fun _ => 0))), (a9, .inl (cy 2, 2465, .inr (.inl (fun _ => 0))))] [.ref a0] (fun u : Unit => none) (fun _ => True) (fun u : Unit => [(a1, .inl (cy 1, 1868, .inl (upd (upd (upd (fun _ => 0) 1 x0) 2 x1) 3 120))), (a7, .inl (cy 1, 1830, .inl (lxF (fun _ => 0) (x0).toNatClampNeg (x1).toNatClampNeg (PP (x1).toNatClampNeg (x0).toNatClampNeg ((x1).toNatClampNeg + 1 - (x0).toNatClampNeg))))), (a8, .inl (cy 1, 1830, .inl (lyF (fun _ => 0) (x0).toNatClampNeg (x1).toNatClampNeg (PP (x1).toNatClampNeg (x0).toNatClampNeg ((x1).toNatClampNeg + 1 - (x0).toNatClampNeg))))), (a0, .inr (12, [.ref a1, .ref a2, .ref a3, .ref a4, .ref a5, .int 0, .ref a6, .int 0, .int 0, .int 0, .int 0, .int 0, .int 0, .int 0, .int 0, .int 0, .int 0, .int (-1), .ref a7, .ref a8, .int (nI (PP (x1).toNatClampNeg (x0).toNatClampNeg ((x1).toNatClampNeg + 1 - (x0).toNatClampNeg))), .ref a9, .int 21, .ref a10, .ref a11, .ref a12, .ref a13, .ref a14, .int 0, .ref a15, .ref a16, .ref a17])), (a9, .inl (cy 2, 2465, .inr (.inl (rwF (fun _ => 0) (PP (x1).toNatClampNeg (x0).toNatClampNeg ((x1).toNatClampNeg + 1 - (x0).toNatClampNeg))))))]) := by
  refine Ct.of (by decide +kernel) (Nat.le_of_ble_eq_true rfl) ?_
  intro p e s m args below meth c A ls C hr hlocks hml hnm w hl
  have hl : lv_has ls 4 [(0, .ref a0)] := hl
  refine lv_aload_n C.1 C.2.1 dX12_lays_0 rfl (lv_at hl 0 rfl) ?_
  refine r_callV C w fv_RX12_253 (c_X12_layPairs_1 l D cy a0 a1 a2 a3 a4 a5 a6 a7 a8 a9 a10 a11 a12 a13 a14 a15 a16 a17 x0 x1 k0 k1 k2 k3) (hl.1.trans hml.symm) [0, 1, 2, 3] [4] (wr := [(a9, .inl (cy 2, 2465, .inr (.inl (fun _ => 0))))]) ⟨rfl, rfl, rfl, rfl, by decide⟩ 0 rfl rfl rfl rfl rfl ⟨Nat.le_of_ble_eq_true rfl, Nat.le_of_ble_eq_true rfl, Nat.le_of_ble_eq_true rfl⟩ 0 0 ⟨rfl, rfl, Nat.le_of_ble_eq_true rfl, Nat.le_of_ble_eq_true rfl⟩ dX12_lays_1 (fun u H locs hp w => ?_)
  have w : Wd D A s.heap [(a9, .inl (cy 2, 2465, .inr (.inl (fun _ => 0)))), (a0, .inr (12, [.ref a1, .ref a2, .ref a3, .ref a4, .ref a5, .int 0, .ref a6, .int 0, .int 0, .int 0, .int 0, .int 0, .int 0, .int 0, .int 0, .int 0, .int 0, .int (-1), .ref a7, .ref a8, .int (nI (PP (x1).toNatClampNeg (x0).toNatClampNeg ((x1).toNatClampNeg + 1 - (x0).toNatClampNeg))), .ref a9, .int 0, .ref a10, .ref a11, .ref a12, .ref a13, .ref a14, .int 0, .ref a15, .ref a16, .ref a17])), (a1, .inl (cy 1, 1868, .inl (upd (upd (upd (fun _ => 0) 1 x0) 2 x1) 3 120))), (a7, .inl (cy 1, 1830, .inl (lxF (fun _ => 0) (x0).toNatClampNeg (x1).toNatClampNeg (PP (x1).toNatClampNeg (x0).toNatClampNeg ((x1).toNatClampNeg + 1 - (x0).toNatClampNeg))))), (a8, .inl (cy 1, 1830, .inl (lyF (fun _ => 0) (x0).toNatClampNeg (x1).toNatClampNeg (PP (x1).toNatClampNeg (x0).toNatClampNeg ((x1).toNatClampNeg + 1 - (x0).toNatClampNeg)))))] _ _ := w
  refine r_top (g2 := F0 m 4 ls []) rfl ?_
  refine lv_aload_n C.1 C.2.1 dX12_lays_4 rfl (lv_at hl 0 rfl) ?_
  refine lv_iconst (v := 0) C.1 C.2.1 dX12_lays_5 (by decide) ?_
  refine lv_iconst (v := 1) C.1 C.2.1 dX12_lays_6 (by decide) ?_
  refine r_callV C w fv_RX12_323 (c_X12_fills_0 l D cy a0 a1 a2 a3 a4 a5 a6 a7 a8 a9 a10 a11 a12 a13 a14 a15 a16 a17 x0 x1 k0 k1 k2 k3) (hl.1.trans hml.symm) [1, 0] [2, 3, 4] (wr := [(a1, .inl (cy 1, 1868, .inl (upd (upd (upd (fun _ => 0) 1 x0) 2 x1) 3 120))), (a7, .inl (cy 1, 1830, .inl (lxF (fun _ => 0) (x0).toNatClampNeg (x1).toNatClampNeg (PP (x1).toNatClampNeg (x0).toNatClampNeg ((x1).toNatClampNeg + 1 - (x0).toNatClampNeg))))), (a8, .inl (cy 1, 1830, .inl (lyF (fun _ => 0) (x0).toNatClampNeg (x1).toNatClampNeg (PP (x1).toNatClampNeg (x0).toNatClampNeg ((x1).toNatClampNeg + 1 - (x0).toNatClampNeg)))))]) ⟨rfl, rfl, rfl, rfl, by decide⟩ 0 rfl rfl rfl rfl rfl ⟨Nat.le_of_ble_eq_true rfl, Nat.le_of_ble_eq_true rfl, Nat.le_of_ble_eq_true rfl⟩ 0 0 ⟨rfl, rfl, Nat.le_of_ble_eq_true rfl, Nat.le_of_ble_eq_true rfl⟩ dX12_lays_7 (fun u H locs hp w => ?_)
  have w : Wd D A s.heap [(a1, .inl (cy 1, 1868, .inl (upd (upd (upd (fun _ => 0) 1 x0) 2 x1) 3 120))), (a7, .inl (cy 1, 1830, .inl (lxF (fun _ => 0) (x0).toNatClampNeg (x1).toNatClampNeg (PP (x1).toNatClampNeg (x0).toNatClampNeg ((x1).toNatClampNeg + 1 - (x0).toNatClampNeg))))), (a8, .inl (cy 1, 1830, .inl (lyF (fun _ => 0) (x0).toNatClampNeg (x1).toNatClampNeg (PP (x1).toNatClampNeg (x0).toNatClampNeg ((x1).toNatClampNeg + 1 - (x0).toNatClampNeg))))), (a0, .inr (12, [.ref a1, .ref a2, .ref a3, .ref a4, .ref a5, .int 0, .ref a6, .int 0, .int 0, .int 0, .int 0, .int 0, .int 0, .int 0, .int 0, .int 0, .int 0, .int (-1), .ref a7, .ref a8, .int (nI (PP (x1).toNatClampNeg (x0).toNatClampNeg ((x1).toNatClampNeg + 1 - (x0).toNatClampNeg))), .ref a9, .int 0, .ref a10, .ref a11, .ref a12, .ref a13, .ref a14, .int 0, .ref a15, .ref a16, .ref a17])), (a9, .inl (cy 2, 2465, .inr (.inl (rwF (fun _ => 0) (PP (x1).toNatClampNeg (x0).toNatClampNeg ((x1).toNatClampNeg + 1 - (x0).toNatClampNeg))))))] _ _ := w
  refine r_top (g2 := F0 m 10 ls []) rfl ?_
  refine lv_iconst (v := 0) C.1 C.2.1 dX12_lays_10 (by decide) ?_
  refine lv_istore_n (lv' := [(1, .int 0), (0, .ref a0)]) C.1 C.2.1 dX12_lays_11 rfl hl (by decide) rfl (fun ls hl => ?_)
  refine lv_iload_n C.1 C.2.1 dX12_lays_12 rfl (lv_at hl 0 rfl) ?_
  refine lv_aload_n C.1 C.2.1 dX12_lays_13 rfl (lv_at hl 1 rfl) ?_
  refine r_get C w 3 rfl rfl 0 (by decide) fl_RX12_9 (v := .ref a1) rfl dX12_lays_14 ?_
  refine lv_bipush (v := 6) C.1 C.2.1 dX12_lays_17 (by decide) ?_
  refine r_iald C w 0 rfl (v := 0) (vinD (by decide)) rfl dX12_lays_19 ?_
  refine b_icmp_ge_t C (tgt := 88) dX12_lays_20 (by decide) (by decide) ?_
  refine lv_aload_n C.1 C.2.1 dX12_lays_88 rfl (lv_at hl 1 rfl) ?_
  refine lv_bipush (v := 21) C.1 C.2.1 dX12_lays_89 (by decide) ?_
  refine r_put C w 3 rfl rfl 22 (by decide) fl_RX12_297 rfl (ty := .int) (tyX12_ok 22 (by decide)) rfl rfl (Nat.le_of_ble_eq_true rfl) [(a1, .inl (cy 1, 1868, .inl (upd (upd (upd (fun _ => 0) 1 x0) 2 x1) 3 120))), (a7, .inl (cy 1, 1830, .inl (lxF (fun _ => 0) (x0).toNatClampNeg (x1).toNatClampNeg (PP (x1).toNatClampNeg (x0).toNatClampNeg ((x1).toNatClampNeg + 1 - (x0).toNatClampNeg))))), (a8, .inl (cy 1, 1830, .inl (lyF (fun _ => 0) (x0).toNatClampNeg (x1).toNatClampNeg (PP (x1).toNatClampNeg (x0).toNatClampNeg ((x1).toNatClampNeg + 1 - (x0).toNatClampNeg))))), (a0, .inr (12, [.ref a1, .ref a2, .ref a3, .ref a4, .ref a5, .int 0, .ref a6, .int 0, .int 0, .int 0, .int 0, .int 0, .int 0, .int 0, .int 0, .int 0, .int 0, .int (-1), .ref a7, .ref a8, .int (nI (PP (x1).toNatClampNeg (x0).toNatClampNeg ((x1).toNatClampNeg + 1 - (x0).toNatClampNeg))), .ref a9, .int 21, .ref a10, .ref a11, .ref a12, .ref a13, .ref a14, .int 0, .ref a15, .ref a16, .ref a17])), (a9, .inl (cy 2, 2465, .inr (.inl (rwF (fun _ => 0) (PP (x1).toNatClampNeg (x0).toNatClampNeg ((x1).toNatClampNeg + 1 - (x0).toNatClampNeg))))))] rfl dX12_lays_91 (fun H locs w => ?_)
  exact r_vret C w hlocks () hr rfl trivial [0, 1, 2, 3, 4] rfl rfl ⟨Nat.le_of_ble_eq_true rfl, Nat.le_of_ble_eq_true rfl⟩ dX12_lays_94
theorem fv_RX12_330 : FV RX12 330 yX12_lays cX12_lays 4 none 0 := ⟨⟨gw_mem (by decide +kernel) (by decide +kernel), gw_mem (by decide +kernel) (by decide +kernel), gw_mem (by decide +kernel) (by decide +kernel), gw_mem (by decide +kernel) (by decide +kernel), gw_mem (by decide +kernel) (by decide +kernel)⟩, ⟨by decide +kernel, by decide +kernel, by decide +kernel⟩⟩
theorem dX12_leftNow_4 : decode cX12_leftNow 4 = .ok (.aload_n 0, 1) := by decide +kernel
theorem dX12_leftNow_5 : decode cX12_leftNow 5 = .ok (.aload_n 0, 1) := by decide +kernel
theorem dX12_leftNow_6 : decode cX12_leftNow 6 = .ok (.getfield 9, 3) := by decide +kernel
theorem dX12_leftNow_9 : decode cX12_leftNow 9 = .ok (.bipush 6, 2) := by decide +kernel
theorem dX12_leftNow_11 : decode cX12_leftNow 11 = .ok (.iaload, 1) := by decide +kernel
theorem dX12_leftNow_12 : decode cX12_leftNow 12 = .ok (.invokevirtual 333, 3) := by decide +kernel
theorem dX12_manyOf_0 : decode cX12_manyOf 0 = .ok (.iconst 0, 1) := by decide +kernel
theorem dX12_manyOf_1 : decode cX12_manyOf 1 = .ok (.istore_n 2, 1) := by decide +kernel
theorem dX12_manyOf_2 : decode cX12_manyOf 2 = .ok (.iconst 0, 1) := by decide +kernel
theorem dX12_manyOf_3 : decode cX12_manyOf 3 = .ok (.istore_n 3, 1) := by decide +kernel
theorem dX12_manyOf_4 : decode cX12_manyOf 4 = .ok (.iload_n 3, 1) := by decide +kernel
theorem dX12_manyOf_5 : decode cX12_manyOf 5 = .ok (.aload_n 0, 1) := by decide +kernel
theorem dX12_manyOf_6 : decode cX12_manyOf 6 = .ok (.getfield 250, 3) := by decide +kernel
theorem dX12_manyOf_9 : decode cX12_manyOf 9 = .ok (.if_icmp .ge 26, 3) := by decide +kernel
theorem dX12_manyOf_12 : decode cX12_manyOf 12 = .ok (.iload_n 2, 1) := by decide +kernel
theorem dX12_manyOf_13 : decode cX12_manyOf 13 = .ok (.aload_n 0, 1) := by decide +kernel
theorem dX12_manyOf_14 : decode cX12_manyOf 14 = .ok (.iload_n 1, 1) := by decide +kernel
theorem dX12_manyOf_15 : decode cX12_manyOf 15 = .ok (.iload_n 3, 1) := by decide +kernel
theorem dX12_manyOf_16 : decode cX12_manyOf 16 = .ok (.invokevirtual 293, 3) := by decide +kernel
theorem dX12_has_0 : decode cX12_has 0 = .ok (.aload_n 0, 1) := by decide +kernel
theorem dX12_has_1 : decode cX12_has 1 = .ok (.getfield 39, 3) := by decide +kernel
theorem dX12_has_4 : decode cX12_has 4 = .ok (.bipush 29, 2) := by decide +kernel
theorem dX12_has_6 : decode cX12_has 6 = .ok (.iload_n 1, 1) := by decide +kernel
theorem dX12_has_7 : decode cX12_has 7 = .ok (.imul, 1) := by decide +kernel
theorem dX12_has_8 : decode cX12_has 8 = .ok (.iload_n 2, 1) := by decide +kernel
theorem dX12_has_9 : decode cX12_has 9 = .ok (.bipush 6, 2) := by decide +kernel
theorem dX12_has_11 : decode cX12_has 11 = .ok (.ishr, 1) := by decide +kernel
theorem dX12_has_12 : decode cX12_has 12 = .ok (.iadd, 1) := by decide +kernel
theorem dX12_has_13 : decode cX12_has 13 = .ok (.laload, 1) := by decide +kernel
theorem dX12_has_14 : decode cX12_has 14 = .ok (.iload_n 2, 1) := by decide +kernel
theorem dX12_has_15 : decode cX12_has 15 = .ok (.bipush 63, 2) := by decide +kernel
theorem dX12_has_17 : decode cX12_has 17 = .ok (.iand, 1) := by decide +kernel
theorem dX12_has_18 : decode cX12_has 18 = .ok (.lshr, 1) := by decide +kernel
theorem dX12_has_19 : decode cX12_has 19 = .ok (.lconst 1, 1) := by decide +kernel
theorem dX12_has_20 : decode cX12_has 20 = .ok (.land, 1) := by decide +kernel
theorem dX12_has_21 : decode cX12_has 21 = .ok (.lconst 1, 1) := by decide +kernel
theorem dX12_has_22 : decode cX12_has 22 = .ok (.lcmp, 1) := by decide +kernel
theorem dX12_has_23 : decode cX12_has 23 = .ok (.ifCond .ne 7, 3) := by decide +kernel
theorem dX12_has_26 : decode cX12_has 26 = .ok (.iconst 1, 1) := by decide +kernel
theorem dX12_has_27 : decode cX12_has 27 = .ok (.goto 4, 3) := by decide +kernel
theorem dX12_has_31 : decode cX12_has 31 = .ok (.ireturn, 1) := by decide +kernel
set_option maxRecDepth 100000 in
set_option maxHeartbeats 4000000 in
theorem c_X12_has_0 (l : Launch) (D : va_G) (cy : Nat → ClassId) (a0 a1 a2 a3 a4 a5 a6 a7 a8 a9 a10 a11 a12 a13 a14 a15 a16 a17 : Nat) (x0 : Int32) (x1 : Int32) (f0 : Nat → Int64) (k0 : ¬ x0 < 0) (k1 : x0 < 1830) (hbit : bitW f0 x0 = 1) : Ct l D cy yX12_has cX12_has 3 (some .boolean) 0 0 0 0 [(a0, .inr (12, [.ref a1, .ref a2, .ref a3, .ref a4, .ref a5, .int 0, .ref a6, .int 0, .int 0, .int 0, .int 0, .int 0, .int 0, .int 0, .int 0, .int 0, .int 0, .int (-1), .ref a7, .ref a8, .int x1, .ref a9, .int 21, .ref a10, .ref a11, .ref a12, .ref a13, .ref a14, .int 0, .ref a15, .ref a16, .ref a17])), (a9, .inl (cy 2, 2465, .inr (.inl f0)))] [.ref a0, .int 0, .int x0] (fun u : Unit => some (.int 1)) (fun _ => True) (fun u : Unit => [(a0, .inr (12, [.ref a1, .ref a2, .ref a3, .ref a4, .ref a5, .int 0, .ref a6, .int 0, .int 0, .int 0, .int 0, .int 0, .int 0, .int 0, .int 0, .int 0, .int 0, .int (-1), .ref a7, .ref a8, .int x1, .ref a9, .int 21, .ref a10, .ref a11, .ref a12, .ref a13, .ref a14, .int 0, .ref a15, .ref a16, .ref a17])), (a9, .inl (cy 2, 2465, .inr (.inl f0)))]) := by
  refine Ct.of (by decide +kernel) (Nat.le_of_ble_eq_true rfl) ?_
  intro p e s m args below meth c A ls C hr hlocks hml hnm w hl
  have hl : lv_has ls 3 [(0, .ref a0), (1, .int 0), (2, .int x0)] := hl
  refine lv_aload_n C.1 C.2.1 dX12_has_0 rfl (lv_at hl 0 rfl) ?_
  refine r_get C w 0 rfl rfl 21 (by decide) fl_RX12_39 (v := .ref a9) rfl dX12_has_1 ?_
  refine lv_bipush (v := 29) C.1 C.2.1 dX12_has_4 (by decide) ?_
  refine lv_iload_n C.1 C.2.1 dX12_has_6 rfl (lv_at hl 1 rfl) ?_
  refine r_imul C (v := 0) dX12_has_7 (by decide) ?_
  refine lv_iload_n C.1 C.2.1 dX12_has_8 rfl (lv_at hl 2 rfl) ?_
  refine lv_bipush (v := 6) C.1 C.2.1 dX12_has_9 (by decide) ?_
  refine r_ishr C (v := (x0 >>> (6 &&& 31))) dX12_has_11 rfl ?_
  refine r_iadd C (v := ((0 : Int32) + (x0 >>> (6 &&& 31)))) dX12_has_12 rfl ?_
  refine r_lald C w 1 rfl (v := (f0 ((0 : Int32) + (x0 >>> (6 &&& 31))).toNatClampNeg)) (plW_in k0 k1) rfl dX12_has_13 ?_
  refine lv_iload_n C.1 C.2.1 dX12_has_14 rfl (lv_at hl 2 rfl) ?_
  refine lv_bipush (v := 63) C.1 C.2.1 dX12_has_15 (by decide) ?_
  refine r_iand C (v := (x0 &&& 63)) dX12_has_17 rfl ?_
  refine lv_lshr (v := ((f0 ((0 : Int32) + (x0 >>> (6 &&& 31))).toNatClampNeg) >>> (Int32.toInt64 (x0 &&& 63) &&& 63))) C.1 C.2.1 dX12_has_18 rfl ?_
  refine lv_lconst (v := 1) C.1 C.2.1 dX12_has_19 (by decide) ?_
  refine r_land C (v := (((f0 ((0 : Int32) + (x0 >>> (6 &&& 31))).toNatClampNeg) >>> (Int32.toInt64 (x0 &&& 63) &&& 63)) &&& 1)) dX12_has_20 rfl ?_
  refine lv_lconst (v := 1) C.1 C.2.1 dX12_has_21 (by decide) ?_
  refine r_lcmp C (v := 0) dX12_has_22 (lgc_1 hbit) ?_
  refine b_if_ne_f C (tgt := 30) dX12_has_23 (by decide) (by decide) ?_
  refine lv_iconst (v := 1) C.1 C.2.1 dX12_has_26 (by decide) ?_
  refine lv_goto (tgt := 31) C.1 C.2.1 dX12_has_27 (by decide) ?_
  exact r_iret C w hlocks () hr rfl rfl trivial [0, 1] rfl rfl ⟨Nat.le_of_ble_eq_true rfl, Nat.le_of_ble_eq_true rfl⟩ dX12_has_31
theorem fv_RX12_293 : FV RX12 293 yX12_has cX12_has 3 (some .boolean) 2 := ⟨⟨gw_mem (by decide +kernel) (by decide +kernel), gw_mem (by decide +kernel) (by decide +kernel), gw_mem (by decide +kernel) (by decide +kernel), gw_mem (by decide +kernel) (by decide +kernel), gw_mem (by decide +kernel) (by decide +kernel)⟩, ⟨by decide +kernel, by decide +kernel, by decide +kernel⟩⟩
theorem dX12_manyOf_19 : decode cX12_manyOf 19 = .ok (.ifCond .eq 7, 3) := by decide +kernel
theorem dX12_manyOf_22 : decode cX12_manyOf 22 = .ok (.iconst 1, 1) := by decide +kernel
theorem dX12_manyOf_23 : decode cX12_manyOf 23 = .ok (.goto 4, 3) := by decide +kernel
theorem dX12_manyOf_27 : decode cX12_manyOf 27 = .ok (.iadd, 1) := by decide +kernel
theorem dX12_manyOf_28 : decode cX12_manyOf 28 = .ok (.istore_n 2, 1) := by decide +kernel
theorem dX12_manyOf_29 : decode cX12_manyOf 29 = .ok (.iinc 3 1, 3) := by decide +kernel
theorem dX12_manyOf_32 : decode cX12_manyOf 32 = .ok (.goto (-28), 3) := by decide +kernel
theorem dX12_manyOf_35 : decode cX12_manyOf 35 = .ok (.iload_n 2, 1) := by decide +kernel
set_option maxRecDepth 100000 in
set_option maxHeartbeats 4000000 in
theorem c_X12_has_1 (l : Launch) (D : va_G) (cy : Nat → ClassId) (a0 a1 a2 a3 a4 a5 a6 a7 a8 a9 a10 a11 a12 a13 a14 a15 a16 a17 : Nat) (x0 : Int32) (x1 : Int32) (f0 : Nat → Int64) (k0 : ¬ x0 < 0) (k1 : x0 < 1830) (hbit : bitW f0 x0 = 1) : Ct l D cy yX12_has cX12_has 3 (some .boolean) 0 0 0 0 [(a0, .inr (12, [.ref a1, .ref a2, .ref a3, .ref a4, .ref a5, .int 0, .ref a6, .int 0, .int 0, .int 0, .int 0, .int 0, .int 0, .int 0, .int 0, .int 0, .int 0, .int (-1), .ref a7, .ref a8, .int x1, .ref a9, .int 21, .ref a10, .ref a11, .ref a12, .ref a13, .ref a14, .int 0, .ref a15, .ref a16, .ref a17])), (a9, .inl (cy 2, 2465, .inr (.inl f0)))] [.ref a0, .int 0, .int x0] (fun u : Unit => some (.int 1)) (fun _ => True) (fun u : Unit => [(a0, .inr (12, [.ref a1, .ref a2, .ref a3, .ref a4, .ref a5, .int 0, .ref a6, .int 0, .int 0, .int 0, .int 0, .int 0, .int 0, .int 0, .int 0, .int 0, .int 0, .int (-1), .ref a7, .ref a8, .int x1, .ref a9, .int 21, .ref a10, .ref a11, .ref a12, .ref a13, .ref a14, .int 0, .ref a15, .ref a16, .ref a17])), (a9, .inl (cy 2, 2465, .inr (.inl f0)))]) := by
  refine Ct.of (by decide +kernel) (Nat.le_of_ble_eq_true rfl) ?_
  intro p e s m args below meth c A ls C hr hlocks hml hnm w hl
  have hl : lv_has ls 3 [(0, .ref a0), (1, .int 0), (2, .int x0)] := hl
  refine lv_aload_n C.1 C.2.1 dX12_has_0 rfl (lv_at hl 0 rfl) ?_
  refine r_get C w 0 rfl rfl 21 (by decide) fl_RX12_39 (v := .ref a9) rfl dX12_has_1 ?_
  refine lv_bipush (v := 29) C.1 C.2.1 dX12_has_4 (by decide) ?_
  refine lv_iload_n C.1 C.2.1 dX12_has_6 rfl (lv_at hl 1 rfl) ?_
  refine r_imul C (v := 0) dX12_has_7 (by decide) ?_
  refine lv_iload_n C.1 C.2.1 dX12_has_8 rfl (lv_at hl 2 rfl) ?_
  refine lv_bipush (v := 6) C.1 C.2.1 dX12_has_9 (by decide) ?_
  refine r_ishr C (v := (x0 >>> (6 &&& 31))) dX12_has_11 rfl ?_
  refine r_iadd C (v := ((0 : Int32) + (x0 >>> (6 &&& 31)))) dX12_has_12 rfl ?_
  refine r_lald C w 1 rfl (v := (f0 ((0 : Int32) + (x0 >>> (6 &&& 31))).toNatClampNeg)) (plW_in k0 k1) rfl dX12_has_13 ?_
  refine lv_iload_n C.1 C.2.1 dX12_has_14 rfl (lv_at hl 2 rfl) ?_
  refine lv_bipush (v := 63) C.1 C.2.1 dX12_has_15 (by decide) ?_
  refine r_iand C (v := (x0 &&& 63)) dX12_has_17 rfl ?_
  refine lv_lshr (v := ((f0 ((0 : Int32) + (x0 >>> (6 &&& 31))).toNatClampNeg) >>> (Int32.toInt64 (x0 &&& 63) &&& 63))) C.1 C.2.1 dX12_has_18 rfl ?_
  refine lv_lconst (v := 1) C.1 C.2.1 dX12_has_19 (by decide) ?_
  refine r_land C (v := (((f0 ((0 : Int32) + (x0 >>> (6 &&& 31))).toNatClampNeg) >>> (Int32.toInt64 (x0 &&& 63) &&& 63)) &&& 1)) dX12_has_20 rfl ?_
  refine lv_lconst (v := 1) C.1 C.2.1 dX12_has_21 (by decide) ?_
  refine r_lcmp C (v := 0) dX12_has_22 (lgc_1 hbit) ?_
  refine b_if_ne_f C (tgt := 30) dX12_has_23 (by decide) (by decide) ?_
  refine lv_iconst (v := 1) C.1 C.2.1 dX12_has_26 (by decide) ?_
  refine lv_goto (tgt := 31) C.1 C.2.1 dX12_has_27 (by decide) ?_
  exact r_iret C w hlocks () hr rfl rfl trivial [0, 1] rfl rfl ⟨Nat.le_of_ble_eq_true rfl, Nat.le_of_ble_eq_true rfl⟩ dX12_has_31
set_option maxRecDepth 100000 in
set_option maxHeartbeats 4000000 in
theorem lp_X12_manyOf_1 {p : Program} {l : Launch} {e : Env} {R : Room} {s : State} {m : MethodId} {args : Array Value} {below : List Frame} {meth : Method} {c : Code} {cells slots : Nat} {Q : State → Prop} {D : va_G} {cy : Nat → ClassId} {A : Nat → Prop} {H : Heap} {locs : List Loc} {ls : Array Slot} (a0 a1 a2 a3 a4 a5 a6 a7 a8 a9 a10 a11 a12 a13 a14 a15 a16 a17 : Nat) (f : Nat → Int64) (pv : Int32) (P : Nat) (ep : pv = nI P) (hP : P ≤ 1830) (C : Cx p s m args c cX12_manyOf RX12 D cy A) (hml : c.maxLocals = 4) (hfr : 1 ≤ R.frames) (hlo : 22 ≤ R.locals) (hcs : cells ≤ R.cells ∧ slots ≤ R.slots) (w : Wd D A s.heap [(a0, .inr (12, [.ref a1, .ref a2, .ref a3, .ref a4, .ref a5, .int 0, .ref a6, .int 0, .int 0, .int 0, .int 0, .int 0, .int 0, .int 0, .int 0, .int 0, .int 0, .int (-1), .ref a7, .ref a8, .int pv, .ref a9, .int 21, .ref a10, .ref a11, .ref a12, .ref a13, .ref a14, .int 0, .ref a15, .ref a16, .ref a17])), (a9, .inl (cy 2, 2465, .inr (.inl (rwF f P))))] H locs) (hl : lv_has ls 4 [(0, .ref a0), (1, .int 0), (2, .int 0), (3, .int 0)])
    (kk : ∀ (H : Heap) (locs : List Loc) (ls : Array Slot), Wd D A s.heap [(a0, .inr (12, [.ref a1, .ref a2, .ref a3, .ref a4, .ref a5, .int 0, .ref a6, .int 0, .int 0, .int 0, .int 0, .int 0, .int 0, .int 0, .int 0, .int 0, .int 0, .int (-1), .ref a7, .ref a8, .int pv, .ref a9, .int 21, .ref a10, .ref a11, .ref a12, .ref a13, .ref a14, .int 0, .ref a15, .ref a16, .ref a17])), (a9, .inl (cy 2, 2465, .inr (.inl (rwF f P))))] H locs → lv_has ls 4 [(0, .ref a0), (1, .int 0), (2, .int pv)] → W p l e R s m args below meth c H locs cells slots Q (F0 m 35 ls [])) : W p l e R s m args below meth c H locs cells slots Q (F0 m 4 ls []) := by
  have lp : ∀ (k n : Nat) (nv wv : Int32) (H : Heap) (locs : List Loc) (ls : Array Slot), n + k = P → nv = nI n → wv = nI n → Wd D A s.heap [(a0, .inr (12, [.ref a1, .ref a2, .ref a3, .ref a4, .ref a5, .int 0, .ref a6, .int 0, .int 0, .int 0, .int 0, .int 0, .int 0, .int 0, .int 0, .int 0, .int 0, .int (-1), .ref a7, .ref a8, .int pv, .ref a9, .int 21, .ref a10, .ref a11, .ref a12, .ref a13, .ref a14, .int 0, .ref a15, .ref a16, .ref a17])), (a9, .inl (cy 2, 2465, .inr (.inl (rwF f P))))] H locs → lv_has ls 4 [(0, .ref a0), (1, .int 0), (2, .int nv), (3, .int wv)] → W p l e R s m args below meth c H locs cells slots Q (F0 m 4 ls []) := by
    intro k
    induction k with
    | zero =>
      intro n nv wv H locs ls h4 en ei w hl
      have hx : n = P := by omega
      subst hx
      have c1 : pv ≤ wv := by rw [ep, ei]; exact Int32.le_refl _
      refine lv_iload_n C.1 C.2.1 dX12_manyOf_4 rfl (lv_at hl 3 rfl) ?_
      refine lv_aload_n C.1 C.2.1 dX12_manyOf_5 rfl (lv_at hl 0 rfl) ?_
      refine r_get C w 0 rfl rfl 20 (by decide) fl_RX12_250 (v := .int pv) rfl dX12_manyOf_6 ?_
      refine b_icmp_ge_t C (tgt := 35) dX12_manyOf_9 (by decide) c1 ?_
      have e5 : nv = pv := by rw [en, ep]
      subst e5
      exact kk _ _ _ w (lv_sub hl [0, 1, 2] rfl)
    | succ k ih =>
      intro n nv wv H locs ls h4 en ei w hl
      have c1 : ¬ pv ≤ wv := by rw [ep, ei]; exact nI_ge (by omega) (by omega)
      have hw0 : ¬ wv < 0 := by rw [ei]; exact nI_pos (by omega)
      have hw1 : wv < 1830 := by rw [ei]; exact nI_lt (b := 1830) (by omega) (by decide)
      have hbit : bitW (rwF f P) wv = 1 := by rw [ei]; exact bitW_rwF f (by omega) (by omega)
      refine lv_iload_n C.1 C.2.1 dX12_manyOf_4 rfl (lv_at hl 3 rfl) ?_
      refine lv_aload_n C.1 C.2.1 dX12_manyOf_5 rfl (lv_at hl 0 rfl) ?_
      refine r_get C w 0 rfl rfl 20 (by decide) fl_RX12_250 (v := .int pv) rfl dX12_manyOf_6 ?_
      refine b_icmp_ge_f C (tgt := 35) dX12_manyOf_9 (by decide) c1 ?_
      refine lv_iload_n C.1 C.2.1 dX12_manyOf_12 rfl (lv_at hl 2 rfl) ?_
      refine lv_aload_n C.1 C.2.1 dX12_manyOf_13 rfl (lv_at hl 0 rfl) ?_
      refine lv_iload_n C.1 C.2.1 dX12_manyOf_14 rfl (lv_at hl 1 rfl) ?_
      refine lv_iload_n C.1 C.2.1 dX12_manyOf_15 rfl (lv_at hl 3 rfl) ?_
      refine r_callV C w fv_RX12_293 (c_X12_has_1 l D cy a0 a1 a2 a3 a4 a5 a6 a7 a8 a9 a10 a11 a12 a13 a14 a15 a16 a17 wv pv (rwF f P) hw0 hw1 hbit) (hl.1.trans hml.symm) [0, 1] [] (wr := []) ⟨rfl, rfl, rfl, rfl, by decide⟩ 0 rfl rfl rfl rfl rfl ⟨by omega, by omega, Nat.le_of_ble_eq_true rfl⟩ cells slots ⟨rfl, rfl, hcs.1, hcs.2⟩ dX12_manyOf_16 (fun u H locs hp w => ?_)
      have w : Wd D A s.heap [(a0, .inr (12, [.ref a1, .ref a2, .ref a3, .ref a4, .ref a5, .int 0, .ref a6, .int 0, .int 0, .int 0, .int 0, .int 0, .int 0, .int 0, .int 0, .int 0, .int 0, .int (-1), .ref a7, .ref a8, .int pv, .ref a9, .int 21, .ref a10, .ref a11, .ref a12, .ref a13, .ref a14, .int 0, .ref a15, .ref a16, .ref a17])), (a9, .inl (cy 2, 2465, .inr (.inl (rwF f P))))] _ _ := w
      refine r_top (g2 := F0 m 19 ls [.int 1, .int nv]) rfl ?_
      refine b_if_eq_f C (tgt := 26) dX12_manyOf_19 (by decide) (by decide) ?_
      refine lv_iconst (v := 1) C.1 C.2.1 dX12_manyOf_22 (by decide) ?_
      refine lv_goto (tgt := 27) C.1 C.2.1 dX12_manyOf_23 (by decide) ?_
      refine r_iadd C (v := (nv + 1)) dX12_manyOf_27 rfl ?_
      refine lv_istore_n (lv' := [(2, .int (nv + 1)), (0, .ref a0), (1, .int 0), (3, .int wv)]) C.1 C.2.1 dX12_manyOf_28 rfl hl (by decide) rfl (fun ls hl => ?_)
      refine lv_iinc (v := (wv + 1)) (lv' := [(3, .int (wv + 1)), (2, .int (nv + 1)), (0, .ref a0), (1, .int 0)]) C.1 C.2.1 dX12_manyOf_29 hl (k := 3) rfl rfl (by decide) rfl (fun ls hl => ?_)
      refine lv_goto (tgt := 4) C.1 C.2.1 dX12_manyOf_32 (by decide) ?_
      exact ih (n + 1) (nv + 1) (wv + 1) _ _ _ (by omega) (by rw [en]; exact nI_1 _) (by rw [ei]; exact nI_1 _) w (lv_sub hl [2, 3, 1, 0] rfl)
  exact lp P 0 0 0 _ _ _ (Nat.zero_add _) rfl rfl w hl
theorem dX12_manyOf_36 : decode cX12_manyOf 36 = .ok (.ireturn, 1) := by decide +kernel
set_option maxRecDepth 100000 in
set_option maxHeartbeats 4000000 in
theorem c_X12_manyOf_0 (l : Launch) (D : va_G) (cy : Nat → ClassId) (a0 a1 a2 a3 a4 a5 a6 a7 a8 a9 a10 a11 a12 a13 a14 a15 a16 a17 : Nat) (x0 : Int32) (x1 : Int32) (k0 : ¬ x0 < 1) (k1 : ¬ 60 < x0) (k2 : ¬ x1 < x0) (k3 : ¬ 60 < x1) : Ct l D cy yX12_manyOf cX12_manyOf 4 (some .int) 1 22 0 0 [(a0, .inr (12, [.ref a1, .ref a2, .ref a3, .ref a4, .ref a5, .int 0, .ref a6, .int 0, .int 0, .int 0, .int 0, .int 0, .int 0, .int 0, .int 0, .int 0, .int 0, .int (-1), .ref a7, .ref a8, .int (nI (PP (x1).toNatClampNeg (x0).toNatClampNeg ((x1).toNatClampNeg + 1 - (x0).toNatClampNeg))), .ref a9, .int 21, .ref a10, .ref a11, .ref a12, .ref a13, .ref a14, .int 0, .ref a15, .ref a16, .ref a17])), (a9, .inl (cy 2, 2465, .inr (.inl (rwF (fun _ => 0) (PP (x1).toNatClampNeg (x0).toNatClampNeg ((x1).toNatClampNeg + 1 - (x0).toNatClampNeg))))))] [.ref a0, .int 0] (fun u : Unit => some (.int (nI (PP (x1).toNatClampNeg (x0).toNatClampNeg ((x1).toNatClampNeg + 1 - (x0).toNatClampNeg))))) (fun _ => True) (fun u : Unit => [(a0, .inr (12, [.ref a1, .ref a2, .ref a3, .ref a4, .ref a5, .int 0, .ref a6, .int 0, .int 0, .int 0, .int 0, .int 0, .int 0, .int 0, .int 0, .int 0, .int 0, .int (-1), .ref a7, .ref a8, .int (nI (PP (x1).toNatClampNeg (x0).toNatClampNeg ((x1).toNatClampNeg + 1 - (x0).toNatClampNeg))), .ref a9, .int 21, .ref a10, .ref a11, .ref a12, .ref a13, .ref a14, .int 0, .ref a15, .ref a16, .ref a17])), (a9, .inl (cy 2, 2465, .inr (.inl (rwF (fun _ => 0) (PP (x1).toNatClampNeg (x0).toNatClampNeg ((x1).toNatClampNeg + 1 - (x0).toNatClampNeg))))))]) := by
  refine Ct.of (by decide +kernel) (Nat.le_of_ble_eq_true rfl) ?_
  intro p e s m args below meth c A ls C hr hlocks hml hnm w hl
  have hl : lv_has ls 4 [(0, .ref a0), (1, .int 0)] := hl
  refine lv_iconst (v := 0) C.1 C.2.1 dX12_manyOf_0 (by decide) ?_
  refine lv_istore_n (lv' := [(2, .int 0), (0, .ref a0), (1, .int 0)]) C.1 C.2.1 dX12_manyOf_1 rfl hl (by decide) rfl (fun ls hl => ?_)
  refine lv_iconst (v := 0) C.1 C.2.1 dX12_manyOf_2 (by decide) ?_
  refine lv_istore_n (lv' := [(3, .int 0), (2, .int 0), (0, .ref a0), (1, .int 0)]) C.1 C.2.1 dX12_manyOf_3 rfl hl (by decide) rfl (fun ls hl => ?_)
  refine lp_X12_manyOf_1 a0 a1 a2 a3 a4 a5 a6 a7 a8 a9 a10 a11 a12 a13 a14 a15 a16 a17 (fun _ => 0) (nI (PP (x1).toNatClampNeg (x0).toNatClampNeg ((x1).toNatClampNeg + 1 - (x0).toNatClampNeg))) (PP (x1).toNatClampNeg (x0).toNatClampNeg ((x1).toNatClampNeg + 1 - (x0).toNatClampNeg)) rfl (cnt_le k0 k1 k2 k3) C hml (Nat.le_of_ble_eq_true rfl) (Nat.le_of_ble_eq_true rfl) ⟨Nat.le_of_ble_eq_true rfl, Nat.le_of_ble_eq_true rfl⟩ (w.re rfl) (lv_sub hl [2, 3, 1, 0] rfl) (fun H locs ls w hl => ?_)
  have w : Wd D A s.heap [(a0, .inr (12, [.ref a1, .ref a2, .ref a3, .ref a4, .ref a5, .int 0, .ref a6, .int 0, .int 0, .int 0, .int 0, .int 0, .int 0, .int 0, .int 0, .int 0, .int 0, .int (-1), .ref a7, .ref a8, .int (nI (PP (x1).toNatClampNeg (x0).toNatClampNeg ((x1).toNatClampNeg + 1 - (x0).toNatClampNeg))), .ref a9, .int 21, .ref a10, .ref a11, .ref a12, .ref a13, .ref a14, .int 0, .ref a15, .ref a16, .ref a17])), (a9, .inl (cy 2, 2465, .inr (.inl (rwF (fun _ => 0) (PP (x1).toNatClampNeg (x0).toNatClampNeg ((x1).toNatClampNeg + 1 - (x0).toNatClampNeg))))))] _ _ := w
  refine lv_iload_n C.1 C.2.1 dX12_manyOf_35 rfl (lv_at hl 2 rfl) ?_
  exact r_iret C w hlocks () hr rfl rfl trivial [0, 1] rfl rfl ⟨Nat.le_of_ble_eq_true rfl, Nat.le_of_ble_eq_true rfl⟩ dX12_manyOf_36
theorem fv_RX12_333 : FV RX12 333 yX12_manyOf cX12_manyOf 4 (some .int) 1 := ⟨⟨gw_mem (by decide +kernel) (by decide +kernel), gw_mem (by decide +kernel) (by decide +kernel), gw_mem (by decide +kernel) (by decide +kernel), gw_mem (by decide +kernel) (by decide +kernel), gw_mem (by decide +kernel) (by decide +kernel)⟩, ⟨by decide +kernel, by decide +kernel, by decide +kernel⟩⟩
theorem dX12_leftNow_15 : decode cX12_leftNow 15 = .ok (.ireturn, 1) := by decide +kernel
set_option maxRecDepth 100000 in
set_option maxHeartbeats 4000000 in
theorem c_X12_leftNow_0 (l : Launch) (D : va_G) (cy : Nat → ClassId) (a0 a1 a2 a3 a4 a5 a6 a7 a8 a9 a10 a11 a12 a13 a14 a15 a16 a17 : Nat) (x0 : Int32) (x1 : Int32) (k0 : ¬ x0 < 1) (k1 : ¬ 60 < x0) (k2 : ¬ x1 < x0) (k3 : ¬ 60 < x1) : Ct l D cy yX12_leftNow cX12_leftNow 1 (some .int) 3 72 0 0 [(a0, .inr (12, [.ref a1, .ref a2, .ref a3, .ref a4, .ref a5, .int 0, .ref a6, .int 0, .int 0, .int 0, .int 0, .int 0, .int 0, .int 0, .int 0, .int 0, .int 0, .int (-1), .ref a7, .ref a8, .int 0, .ref a9, .int 0, .ref a10, .ref a11, .ref a12, .ref a13, .ref a14, .int 0, .ref a15, .ref a16, .ref a17])), (a1, .inl (cy 1, 1868, .inl (upd (upd (upd (fun _ => 0) 1 x0) 2 x1) 3 120))), (a7, .inl (cy 1, 1830, .inl (fun _ => 0))), (a8, .inl (cy 1, 1830, .inl (fun _ => 0))), (a9, .inl (cy 2, 2465, .inr (.inl (fun _ => 0))))] [.ref a0] (fun u : Unit => some (.int (nI (PP (x1).toNatClampNeg (x0).toNatClampNeg ((x1).toNatClampNeg + 1 - (x0).toNatClampNeg))))) (fun _ => True) (fun u : Unit => [(a1, .inl (cy 1, 1868, .inl (upd (upd (upd (fun _ => 0) 1 x0) 2 x1) 3 120))), (a7, .inl (cy 1, 1830, .inl (lxF (fun _ => 0) (x0).toNatClampNeg (x1).toNatClampNeg (PP (x1).toNatClampNeg (x0).toNatClampNeg ((x1).toNatClampNeg + 1 - (x0).toNatClampNeg))))), (a8, .inl (cy 1, 1830, .inl (lyF (fun _ => 0) (x0).toNatClampNeg (x1).toNatClampNeg (PP (x1).toNatClampNeg (x0).toNatClampNeg ((x1).toNatClampNeg + 1 - (x0).toNatClampNeg))))), (a0, .inr (12, [.ref a1, .ref a2, .ref a3, .ref a4, .ref a5, .int 0, .ref a6, .int 0, .int 0, .int 0, .int 0, .int 0, .int 0, .int 0, .int 0, .int 0, .int 0, .int (-1), .ref a7, .ref a8, .int (nI (PP (x1).toNatClampNeg (x0).toNatClampNeg ((x1).toNatClampNeg + 1 - (x0).toNatClampNeg))), .ref a9, .int 21, .ref a10, .ref a11, .ref a12, .ref a13, .ref a14, .int 0, .ref a15, .ref a16, .ref a17])), (a9, .inl (cy 2, 2465, .inr (.inl (rwF (fun _ => 0) (PP (x1).toNatClampNeg (x0).toNatClampNeg ((x1).toNatClampNeg + 1 - (x0).toNatClampNeg))))))]) := by
  refine Ct.of (by decide +kernel) (Nat.le_of_ble_eq_true rfl) ?_
  intro p e s m args below meth c A ls C hr hlocks hml hnm w hl
  have hl : lv_has ls 1 [(0, .ref a0)] := hl
  refine lv_aload_n C.1 C.2.1 dX12_leftNow_0 rfl (lv_at hl 0 rfl) ?_
  refine r_callV C w fv_RX12_330 (c_X12_lays_0 l D cy a0 a1 a2 a3 a4 a5 a6 a7 a8 a9 a10 a11 a12 a13 a14 a15 a16 a17 x0 x1 k0 k1 k2 k3) (hl.1.trans hml.symm) [0, 1, 2, 3, 4] [] (wr := []) ⟨rfl, rfl, rfl, rfl, by decide⟩ 0 rfl rfl rfl rfl rfl ⟨Nat.le_of_ble_eq_true rfl, Nat.le_of_ble_eq_true rfl, Nat.le_of_ble_eq_true rfl⟩ 0 0 ⟨rfl, rfl, Nat.le_of_ble_eq_true rfl, Nat.le_of_ble_eq_true rfl⟩ dX12_leftNow_1 (fun u H locs hp w => ?_)
  have w : Wd D A s.heap [(a1, .inl (cy 1, 1868, .inl (upd (upd (upd (fun _ => 0) 1 x0) 2 x1) 3 120))), (a7, .inl (cy 1, 1830, .inl (lxF (fun _ => 0) (x0).toNatClampNeg (x1).toNatClampNeg (PP (x1).toNatClampNeg (x0).toNatClampNeg ((x1).toNatClampNeg + 1 - (x0).toNatClampNeg))))), (a8, .inl (cy 1, 1830, .inl (lyF (fun _ => 0) (x0).toNatClampNeg (x1).toNatClampNeg (PP (x1).toNatClampNeg (x0).toNatClampNeg ((x1).toNatClampNeg + 1 - (x0).toNatClampNeg))))), (a0, .inr (12, [.ref a1, .ref a2, .ref a3, .ref a4, .ref a5, .int 0, .ref a6, .int 0, .int 0, .int 0, .int 0, .int 0, .int 0, .int 0, .int 0, .int 0, .int 0, .int (-1), .ref a7, .ref a8, .int (nI (PP (x1).toNatClampNeg (x0).toNatClampNeg ((x1).toNatClampNeg + 1 - (x0).toNatClampNeg))), .ref a9, .int 21, .ref a10, .ref a11, .ref a12, .ref a13, .ref a14, .int 0, .ref a15, .ref a16, .ref a17])), (a9, .inl (cy 2, 2465, .inr (.inl (rwF (fun _ => 0) (PP (x1).toNatClampNeg (x0).toNatClampNeg ((x1).toNatClampNeg + 1 - (x0).toNatClampNeg))))))] _ _ := w
  refine r_top (g2 := F0 m 4 ls []) rfl ?_
  refine lv_aload_n C.1 C.2.1 dX12_leftNow_4 rfl (lv_at hl 0 rfl) ?_
  refine lv_aload_n C.1 C.2.1 dX12_leftNow_5 rfl (lv_at hl 0 rfl) ?_
  refine r_get C w 3 rfl rfl 0 (by decide) fl_RX12_9 (v := .ref a1) rfl dX12_leftNow_6 ?_
  refine lv_bipush (v := 6) C.1 C.2.1 dX12_leftNow_9 (by decide) ?_
  refine r_iald C w 0 rfl (v := 0) (vinD (by decide)) rfl dX12_leftNow_11 ?_
  refine r_callV C w fv_RX12_333 (c_X12_manyOf_0 l D cy a0 a1 a2 a3 a4 a5 a6 a7 a8 a9 a10 a11 a12 a13 a14 a15 a16 a17 x0 x1 k0 k1 k2 k3) (hl.1.trans hml.symm) [3, 4] [0, 1, 2] (wr := [(a1, .inl (cy 1, 1868, .inl (upd (upd (upd (fun _ => 0) 1 x0) 2 x1) 3 120))), (a7, .inl (cy 1, 1830, .inl (lxF (fun _ => 0) (x0).toNatClampNeg (x1).toNatClampNeg (PP (x1).toNatClampNeg (x0).toNatClampNeg ((x1).toNatClampNeg + 1 - (x0).toNatClampNeg))))), (a8, .inl (cy 1, 1830, .inl (lyF (fun _ => 0) (x0).toNatClampNeg (x1).toNatClampNeg (PP (x1).toNatClampNeg (x0).toNatClampNeg ((x1).toNatClampNeg + 1 - (x0).toNatClampNeg)))))]) ⟨rfl, rfl, rfl, rfl, by decide⟩ 0 rfl rfl rfl rfl rfl ⟨Nat.le_of_ble_eq_true rfl, Nat.le_of_ble_eq_true rfl, Nat.le_of_ble_eq_true rfl⟩ 0 0 ⟨rfl, rfl, Nat.le_of_ble_eq_true rfl, Nat.le_of_ble_eq_true rfl⟩ dX12_leftNow_12 (fun u H locs hp w => ?_)
  have w : Wd D A s.heap [(a1, .inl (cy 1, 1868, .inl (upd (upd (upd (fun _ => 0) 1 x0) 2 x1) 3 120))), (a7, .inl (cy 1, 1830, .inl (lxF (fun _ => 0) (x0).toNatClampNeg (x1).toNatClampNeg (PP (x1).toNatClampNeg (x0).toNatClampNeg ((x1).toNatClampNeg + 1 - (x0).toNatClampNeg))))), (a8, .inl (cy 1, 1830, .inl (lyF (fun _ => 0) (x0).toNatClampNeg (x1).toNatClampNeg (PP (x1).toNatClampNeg (x0).toNatClampNeg ((x1).toNatClampNeg + 1 - (x0).toNatClampNeg))))), (a0, .inr (12, [.ref a1, .ref a2, .ref a3, .ref a4, .ref a5, .int 0, .ref a6, .int 0, .int 0, .int 0, .int 0, .int 0, .int 0, .int 0, .int 0, .int 0, .int 0, .int (-1), .ref a7, .ref a8, .int (nI (PP (x1).toNatClampNeg (x0).toNatClampNeg ((x1).toNatClampNeg + 1 - (x0).toNatClampNeg))), .ref a9, .int 21, .ref a10, .ref a11, .ref a12, .ref a13, .ref a14, .int 0, .ref a15, .ref a16, .ref a17])), (a9, .inl (cy 2, 2465, .inr (.inl (rwF (fun _ => 0) (PP (x1).toNatClampNeg (x0).toNatClampNeg ((x1).toNatClampNeg + 1 - (x0).toNatClampNeg))))))] _ _ := w
  refine r_top (g2 := F0 m 15 ls [.int (nI (PP (x1).toNatClampNeg (x0).toNatClampNeg ((x1).toNatClampNeg + 1 - (x0).toNatClampNeg)))]) rfl ?_
  exact r_iret C w hlocks () hr rfl rfl trivial [0, 1, 2, 3, 4] rfl rfl ⟨Nat.le_of_ble_eq_true rfl, Nat.le_of_ble_eq_true rfl⟩ dX12_leftNow_15
theorem fv_RX12_336 : FV RX12 336 yX12_leftNow cX12_leftNow 1 (some .int) 0 := ⟨⟨gw_mem (by decide +kernel) (by decide +kernel), gw_mem (by decide +kernel) (by decide +kernel), gw_mem (by decide +kernel) (by decide +kernel), gw_mem (by decide +kernel) (by decide +kernel), gw_mem (by decide +kernel) (by decide +kernel)⟩, ⟨by decide +kernel, by decide +kernel, by decide +kernel⟩⟩
theorem dX12_leftWith_33 : decode cX12_leftWith 33 = .ok (.istore 5, 2) := by decide +kernel
theorem dX12_leftWith_35 : decode cX12_leftWith 35 = .ok (.aload_n 0, 1) := by decide +kernel
theorem dX12_leftWith_36 : decode cX12_leftWith 36 = .ok (.getfield 9, 3) := by decide +kernel
theorem dX12_leftWith_39 : decode cX12_leftWith 39 = .ok (.iconst 1, 1) := by decide +kernel
theorem dX12_leftWith_40 : decode cX12_leftWith 40 = .ok (.iload_n 3, 1) := by decide +kernel
theorem dX12_leftWith_41 : decode cX12_leftWith 41 = .ok (.iastore, 1) := by decide +kernel
theorem dX12_leftWith_42 : decode cX12_leftWith 42 = .ok (.aload_n 0, 1) := by decide +kernel
theorem dX12_leftWith_43 : decode cX12_leftWith 43 = .ok (.getfield 9, 3) := by decide +kernel
theorem dX12_leftWith_46 : decode cX12_leftWith 46 = .ok (.iconst 2, 1) := by decide +kernel
theorem dX12_leftWith_47 : decode cX12_leftWith 47 = .ok (.iload 4, 2) := by decide +kernel
theorem dX12_leftWith_49 : decode cX12_leftWith 49 = .ok (.iastore, 1) := by decide +kernel
theorem dX12_leftWith_50 : decode cX12_leftWith 50 = .ok (.iload 5, 2) := by decide +kernel
theorem dX12_leftWith_52 : decode cX12_leftWith 52 = .ok (.ireturn, 1) := by decide +kernel
set_option maxRecDepth 100000 in
set_option maxHeartbeats 4000000 in
theorem c_X12_leftWith_0 (l : Launch) (D : va_G) (cy : Nat → ClassId) (a0 a1 a2 a3 a4 a5 a6 a7 a8 a9 a10 a11 a12 a13 a14 a15 a16 a17 : Nat) (x0 : Int32) (x1 : Int32) (k0 : ¬ x0 < 1) (k1 : ¬ 60 < x0) (k2 : ¬ x1 < x0) (k3 : ¬ 60 < x1) : Ct l D cy yX12_leftWith cX12_leftWith 6 (some .int) 4 92 0 0 [(a0, .inr (12, [.ref a1, .ref a2, .ref a3, .ref a4, .ref a5, .int 0, .ref a6, .int 0, .int 0, .int 0, .int 0, .int 0, .int 0, .int 0, .int 0, .int 0, .int 0, .int (-1), .ref a7, .ref a8, .int 0, .ref a9, .int 0, .ref a10, .ref a11, .ref a12, .ref a13, .ref a14, .int 0, .ref a15, .ref a16, .ref a17])), (a1, .inl (cy 1, 1868, .inl (upd (upd (upd (fun _ => 0) 1 2) 2 20) 3 120))), (a7, .inl (cy 1, 1830, .inl (fun _ => 0))), (a8, .inl (cy 1, 1830, .inl (fun _ => 0))), (a9, .inl (cy 2, 2465, .inr (.inl (fun _ => 0))))] [.ref a0, .int x0, .int x1] (fun u : Unit => some (.int (nI (PP (x1).toNatClampNeg (x0).toNatClampNeg ((x1).toNatClampNeg + 1 - (x0).toNatClampNeg))))) (fun _ => True) (fun u : Unit => [(a1, .inl (cy 1, 1868, .inl (upd (upd (upd (fun _ => 0) 1 2) 2 20) 3 120))), (a7, .inl (cy 1, 1830, .inl (lxF (fun _ => 0) (x0).toNatClampNeg (x1).toNatClampNeg (PP (x1).toNatClampNeg (x0).toNatClampNeg ((x1).toNatClampNeg + 1 - (x0).toNatClampNeg))))), (a8, .inl (cy 1, 1830, .inl (lyF (fun _ => 0) (x0).toNatClampNeg (x1).toNatClampNeg (PP (x1).toNatClampNeg (x0).toNatClampNeg ((x1).toNatClampNeg + 1 - (x0).toNatClampNeg))))), (a0, .inr (12, [.ref a1, .ref a2, .ref a3, .ref a4, .ref a5, .int 0, .ref a6, .int 0, .int 0, .int 0, .int 0, .int 0, .int 0, .int 0, .int 0, .int 0, .int 0, .int (-1), .ref a7, .ref a8, .int (nI (PP (x1).toNatClampNeg (x0).toNatClampNeg ((x1).toNatClampNeg + 1 - (x0).toNatClampNeg))), .ref a9, .int 21, .ref a10, .ref a11, .ref a12, .ref a13, .ref a14, .int 0, .ref a15, .ref a16, .ref a17])), (a9, .inl (cy 2, 2465, .inr (.inl (rwF (fun _ => 0) (PP (x1).toNatClampNeg (x0).toNatClampNeg ((x1).toNatClampNeg + 1 - (x0).toNatClampNeg))))))]) := by
  refine Ct.of (by decide +kernel) (Nat.le_of_ble_eq_true rfl) ?_
  intro p e s m args below meth c A ls C hr hlocks hml hnm w hl
  have hl : lv_has ls 6 [(0, .ref a0), (1, .int x0), (2, .int x1)] := hl
  refine lv_aload_n C.1 C.2.1 dX12_leftWith_0 rfl (lv_at hl 0 rfl) ?_
  refine r_get C w 0 rfl rfl 0 (by decide) fl_RX12_9 (v := .ref a1) rfl dX12_leftWith_1 ?_
  refine lv_iconst (v := 1) C.1 C.2.1 dX12_leftWith_4 (by decide) ?_
  refine r_iald C w 1 rfl (v := 2) (vinD (by decide)) rfl dX12_leftWith_5 ?_
  refine lv_istore_n (lv' := [(3, .int 2), (0, .ref a0), (1, .int x0), (2, .int x1)]) C.1 C.2.1 dX12_leftWith_6 rfl hl (by decide) rfl (fun ls hl => ?_)
  refine lv_aload_n C.1 C.2.1 dX12_leftWith_7 rfl (lv_at hl 1 rfl) ?_
  refine r_get C w 0 rfl rfl 0 (by decide) fl_RX12_9 (v := .ref a1) rfl dX12_leftWith_8 ?_
  refine lv_iconst (v := 2) C.1 C.2.1 dX12_leftWith_11 (by decide) ?_
  refine r_iald C w 1 rfl (v := 20) (vinD (by decide)) rfl dX12_leftWith_12 ?_
  refine lv_istore (lv' := [(4, .int 20), (3, .int 2), (0, .ref a0), (1, .int x0), (2, .int x1)]) C.1 C.2.1 dX12_leftWith_13 hl (by decide) rfl (fun ls hl => ?_)
  refine lv_aload_n C.1 C.2.1 dX12_leftWith_15 rfl (lv_at hl 2 rfl) ?_
  refine r_get C w 0 rfl rfl 0 (by decide) fl_RX12_9 (v := .ref a1) rfl dX12_leftWith_16 ?_
  refine lv_iconst (v := 1) C.1 C.2.1 dX12_leftWith_19 (by decide) ?_
  refine lv_iload_n C.1 C.2.1 dX12_leftWith_20 rfl (lv_at hl 3 rfl) ?_
  refine r_iast C w 1 rfl (vinD (by decide)) (upd (upd (upd (fun _ => 0) 1 x0) 2 20) 3 120) (show upd (upd (upd (upd (fun _ => 0) 1 2) 2 20) 3 120) 1 x0 = (upd (upd (upd (fun _ => 0) 1 x0) 2 20) 3 120) from by funext j; simp only [upd]; (repeat' split) <;> (first | rfl | omega)) [(a0, .inr (12, [.ref a1, .ref a2, .ref a3, .ref a4, .ref a5, .int 0, .ref a6, .int 0, .int 0, .int 0, .int 0, .int 0, .int 0, .int 0, .int 0, .int 0, .int 0, .int (-1), .ref a7, .ref a8, .int 0, .ref a9, .int 0, .ref a10, .ref a11, .ref a12, .ref a13, .ref a14, .int 0, .ref a15, .ref a16, .ref a17])), (a1, .inl (cy 1, 1868, .inl (upd (upd (upd (fun _ => 0) 1 x0) 2 20) 3 120))), (a7, .inl (cy 1, 1830, .inl (fun _ => 0))), (a8, .inl (cy 1, 1830, .inl (fun _ => 0))), (a9, .inl (cy 2, 2465, .inr (.inl (fun _ => 0))))] rfl dX12_leftWith_21 (fun H locs w => ?_)
  refine lv_aload_n C.1 C.2.1 dX12_leftWith_22 rfl (lv_at hl 2 rfl) ?_
  refine r_get C w 0 rfl rfl 0 (by decide) fl_RX12_9 (v := .ref a1) rfl dX12_leftWith_23 ?_
  refine lv_iconst (v := 2) C.1 C.2.1 dX12_leftWith_26 (by decide) ?_
  refine lv_iload_n C.1 C.2.1 dX12_leftWith_27 rfl (lv_at hl 4 rfl) ?_
  refine r_iast C w 1 rfl (vinD (by decide)) (upd (upd (upd (fun _ => 0) 1 x0) 2 x1) 3 120) (show upd (upd (upd (upd (fun _ => 0) 1 x0) 2 20) 3 120) 2 x1 = (upd (upd (upd (fun _ => 0) 1 x0) 2 x1) 3 120) from by funext j; simp only [upd]; (repeat' split) <;> (first | rfl | omega)) [(a0, .inr (12, [.ref a1, .ref a2, .ref a3, .ref a4, .ref a5, .int 0, .ref a6, .int 0, .int 0, .int 0, .int 0, .int 0, .int 0, .int 0, .int 0, .int 0, .int 0, .int (-1), .ref a7, .ref a8, .int 0, .ref a9, .int 0, .ref a10, .ref a11, .ref a12, .ref a13, .ref a14, .int 0, .ref a15, .ref a16, .ref a17])), (a1, .inl (cy 1, 1868, .inl (upd (upd (upd (fun _ => 0) 1 x0) 2 x1) 3 120))), (a7, .inl (cy 1, 1830, .inl (fun _ => 0))), (a8, .inl (cy 1, 1830, .inl (fun _ => 0))), (a9, .inl (cy 2, 2465, .inr (.inl (fun _ => 0))))] rfl dX12_leftWith_28 (fun H locs w => ?_)
  refine lv_aload_n C.1 C.2.1 dX12_leftWith_29 rfl (lv_at hl 2 rfl) ?_
  refine r_callV C w fv_RX12_336 (c_X12_leftNow_0 l D cy a0 a1 a2 a3 a4 a5 a6 a7 a8 a9 a10 a11 a12 a13 a14 a15 a16 a17 x0 x1 k0 k1 k2 k3) (hl.1.trans hml.symm) [0, 1, 2, 3, 4] [] (wr := []) ⟨rfl, rfl, rfl, rfl, by decide⟩ 0 rfl rfl rfl rfl rfl ⟨Nat.le_of_ble_eq_true rfl, Nat.le_of_ble_eq_true rfl, Nat.le_of_ble_eq_true rfl⟩ 0 0 ⟨rfl, rfl, Nat.le_of_ble_eq_true rfl, Nat.le_of_ble_eq_true rfl⟩ dX12_leftWith_30 (fun u H locs hp w => ?_)
  have w : Wd D A s.heap [(a1, .inl (cy 1, 1868, .inl (upd (upd (upd (fun _ => 0) 1 x0) 2 x1) 3 120))), (a7, .inl (cy 1, 1830, .inl (lxF (fun _ => 0) (x0).toNatClampNeg (x1).toNatClampNeg (PP (x1).toNatClampNeg (x0).toNatClampNeg ((x1).toNatClampNeg + 1 - (x0).toNatClampNeg))))), (a8, .inl (cy 1, 1830, .inl (lyF (fun _ => 0) (x0).toNatClampNeg (x1).toNatClampNeg (PP (x1).toNatClampNeg (x0).toNatClampNeg ((x1).toNatClampNeg + 1 - (x0).toNatClampNeg))))), (a0, .inr (12, [.ref a1, .ref a2, .ref a3, .ref a4, .ref a5, .int 0, .ref a6, .int 0, .int 0, .int 0, .int 0, .int 0, .int 0, .int 0, .int 0, .int 0, .int 0, .int (-1), .ref a7, .ref a8, .int (nI (PP (x1).toNatClampNeg (x0).toNatClampNeg ((x1).toNatClampNeg + 1 - (x0).toNatClampNeg))), .ref a9, .int 21, .ref a10, .ref a11, .ref a12, .ref a13, .ref a14, .int 0, .ref a15, .ref a16, .ref a17])), (a9, .inl (cy 2, 2465, .inr (.inl (rwF (fun _ => 0) (PP (x1).toNatClampNeg (x0).toNatClampNeg ((x1).toNatClampNeg + 1 - (x0).toNatClampNeg))))))] _ _ := w
  refine r_top (g2 := F0 m 33 ls [.int (nI (PP (x1).toNatClampNeg (x0).toNatClampNeg ((x1).toNatClampNeg + 1 - (x0).toNatClampNeg)))]) rfl ?_
  refine lv_istore (lv' := [(5, .int (nI (PP (x1).toNatClampNeg (x0).toNatClampNeg ((x1).toNatClampNeg + 1 - (x0).toNatClampNeg)))), (4, .int 20), (3, .int 2), (0, .ref a0), (1, .int x0), (2, .int x1)]) C.1 C.2.1 dX12_leftWith_33 hl (by decide) rfl (fun ls hl => ?_)
  refine lv_aload_n C.1 C.2.1 dX12_leftWith_35 rfl (lv_at hl 3 rfl) ?_
  refine r_get C w 3 rfl rfl 0 (by decide) fl_RX12_9 (v := .ref a1) rfl dX12_leftWith_36 ?_
  refine lv_iconst (v := 1) C.1 C.2.1 dX12_leftWith_39 (by decide) ?_
  refine lv_iload_n C.1 C.2.1 dX12_leftWith_40 rfl (lv_at hl 2 rfl) ?_
  refine r_iast C w 0 rfl (vinD (by decide)) (upd (upd (upd (fun _ => 0) 1 2) 2 x1) 3 120) (show upd (upd (upd (upd (fun _ => 0) 1 x0) 2 x1) 3 120) 1 2 = (upd (upd (upd (fun _ => 0) 1 2) 2 x1) 3 120) from by funext j; simp only [upd]; (repeat' split) <;> (first | rfl | omega)) [(a1, .inl (cy 1, 1868, .inl (upd (upd (upd (fun _ => 0) 1 2) 2 x1) 3 120))), (a7, .inl (cy 1, 1830, .inl (lxF (fun _ => 0) (x0).toNatClampNeg (x1).toNatClampNeg (PP (x1).toNatClampNeg (x0).toNatClampNeg ((x1).toNatClampNeg + 1 - (x0).toNatClampNeg))))), (a8, .inl (cy 1, 1830, .inl (lyF (fun _ => 0) (x0).toNatClampNeg (x1).toNatClampNeg (PP (x1).toNatClampNeg (x0).toNatClampNeg ((x1).toNatClampNeg + 1 - (x0).toNatClampNeg))))), (a0, .inr (12, [.ref a1, .ref a2, .ref a3, .ref a4, .ref a5, .int 0, .ref a6, .int 0, .int 0, .int 0, .int 0, .int 0, .int 0, .int 0, .int 0, .int 0, .int 0, .int (-1), .ref a7, .ref a8, .int (nI (PP (x1).toNatClampNeg (x0).toNatClampNeg ((x1).toNatClampNeg + 1 - (x0).toNatClampNeg))), .ref a9, .int 21, .ref a10, .ref a11, .ref a12, .ref a13, .ref a14, .int 0, .ref a15, .ref a16, .ref a17])), (a9, .inl (cy 2, 2465, .inr (.inl (rwF (fun _ => 0) (PP (x1).toNatClampNeg (x0).toNatClampNeg ((x1).toNatClampNeg + 1 - (x0).toNatClampNeg))))))] rfl dX12_leftWith_41 (fun H locs w => ?_)
  refine lv_aload_n C.1 C.2.1 dX12_leftWith_42 rfl (lv_at hl 3 rfl) ?_
  refine r_get C w 3 rfl rfl 0 (by decide) fl_RX12_9 (v := .ref a1) rfl dX12_leftWith_43 ?_
  refine lv_iconst (v := 2) C.1 C.2.1 dX12_leftWith_46 (by decide) ?_
  refine lv_iload C.1 C.2.1 dX12_leftWith_47 (lv_at hl 1 rfl) ?_
  refine r_iast C w 0 rfl (vinD (by decide)) (upd (upd (upd (fun _ => 0) 1 2) 2 20) 3 120) (show upd (upd (upd (upd (fun _ => 0) 1 2) 2 x1) 3 120) 2 20 = (upd (upd (upd (fun _ => 0) 1 2) 2 20) 3 120) from by funext j; simp only [upd]; (repeat' split) <;> (first | rfl | omega)) [(a1, .inl (cy 1, 1868, .inl (upd (upd (upd (fun _ => 0) 1 2) 2 20) 3 120))), (a7, .inl (cy 1, 1830, .inl (lxF (fun _ => 0) (x0).toNatClampNeg (x1).toNatClampNeg (PP (x1).toNatClampNeg (x0).toNatClampNeg ((x1).toNatClampNeg + 1 - (x0).toNatClampNeg))))), (a8, .inl (cy 1, 1830, .inl (lyF (fun _ => 0) (x0).toNatClampNeg (x1).toNatClampNeg (PP (x1).toNatClampNeg (x0).toNatClampNeg ((x1).toNatClampNeg + 1 - (x0).toNatClampNeg))))), (a0, .inr (12, [.ref a1, .ref a2, .ref a3, .ref a4, .ref a5, .int 0, .ref a6, .int 0, .int 0, .int 0, .int 0, .int 0, .int 0, .int 0, .int 0, .int 0, .int 0, .int (-1), .ref a7, .ref a8, .int (nI (PP (x1).toNatClampNeg (x0).toNatClampNeg ((x1).toNatClampNeg + 1 - (x0).toNatClampNeg))), .ref a9, .int 21, .ref a10, .ref a11, .ref a12, .ref a13, .ref a14, .int 0, .ref a15, .ref a16, .ref a17])), (a9, .inl (cy 2, 2465, .inr (.inl (rwF (fun _ => 0) (PP (x1).toNatClampNeg (x0).toNatClampNeg ((x1).toNatClampNeg + 1 - (x0).toNatClampNeg))))))] rfl dX12_leftWith_49 (fun H locs w => ?_)
  refine lv_iload C.1 C.2.1 dX12_leftWith_50 (lv_at hl 0 rfl) ?_
  exact r_iret C w hlocks () hr rfl rfl trivial [0, 1, 2, 3, 4] rfl rfl ⟨Nat.le_of_ble_eq_true rfl, Nat.le_of_ble_eq_true rfl⟩ dX12_leftWith_52
theorem fv_RX12_353 : FV RX12 353 yX12_leftWith cX12_leftWith 6 (some .int) 2 := ⟨⟨gw_mem (by decide +kernel) (by decide +kernel), gw_mem (by decide +kernel) (by decide +kernel), gw_mem (by decide +kernel) (by decide +kernel), gw_mem (by decide +kernel) (by decide +kernel), gw_mem (by decide +kernel) (by decide +kernel)⟩, ⟨by decide +kernel, by decide +kernel, by decide +kernel⟩⟩
set_option maxRecDepth 100000 in
set_option maxHeartbeats 4000000 in
theorem c_X12_ends_2 (l : Launch) (D : va_G) (cy : Nat → ClassId) (a0 a1 a2 a3 a4 a5 a6 a7 a8 a9 a10 a11 a12 a13 a14 a15 a16 a17 : Nat) (x0 : Int32) (x1 : Int32) (k0 : ¬ x0 < 1) (k1 : ¬ 60 < x0) (k2 : ¬ x1 < x0) (k3 : ¬ 60 < x1) : Ct l D cy yX12_ends cX12_ends 3 (some .int) 5 117 0 0 [(a0, .inr (12, [.ref a1, .ref a2, .ref a3, .ref a4, .ref a5, .int 0, .ref a6, .int 0, .int 0, .int 0, .int 0, .int 0, .int 0, .int 0, .int 0, .int 0, .int 0, .int (-1), .ref a7, .ref a8, .int 0, .ref a9, .int 0, .ref a10, .ref a11, .ref a12, .ref a13, .ref a14, .int 0, .ref a15, .ref a16, .ref a17])), (a1, .inl (cy 1, 1868, .inl (upd (upd (upd (fun _ => 0) 1 2) 2 20) 3 120))), (a7, .inl (cy 1, 1830, .inl (fun _ => 0))), (a8, .inl (cy 1, 1830, .inl (fun _ => 0))), (a9, .inl (cy 2, 2465, .inr (.inl (fun _ => 0))))] [.ref a0, .int x0, .int x1] (fun u : Unit => some (.int (nI (PP (x1).toNatClampNeg (x0).toNatClampNeg ((x1).toNatClampNeg + 1 - (x0).toNatClampNeg))))) (fun _ => True) (fun u : Unit => [(a1, .inl (cy 1, 1868, .inl (upd (upd (upd (fun _ => 0) 1 2) 2 20) 3 120))), (a7, .inl (cy 1, 1830, .inl (lxF (fun _ => 0) (x0).toNatClampNeg (x1).toNatClampNeg (PP (x1).toNatClampNeg (x0).toNatClampNeg ((x1).toNatClampNeg + 1 - (x0).toNatClampNeg))))), (a8, .inl (cy 1, 1830, .inl (lyF (fun _ => 0) (x0).toNatClampNeg (x1).toNatClampNeg (PP (x1).toNatClampNeg (x0).toNatClampNeg ((x1).toNatClampNeg + 1 - (x0).toNatClampNeg))))), (a0, .inr (12, [.ref a1, .ref a2, .ref a3, .ref a4, .ref a5, .int 0, .ref a6, .int 0, .int 0, .int 0, .int 0, .int 0, .int 0, .int 0, .int 0, .int 0, .int 0, .int (-1), .ref a7, .ref a8, .int (nI (PP (x1).toNatClampNeg (x0).toNatClampNeg ((x1).toNatClampNeg + 1 - (x0).toNatClampNeg))), .ref a9, .int 21, .ref a10, .ref a11, .ref a12, .ref a13, .ref a14, .int 0, .ref a15, .ref a16, .ref a17])), (a9, .inl (cy 2, 2465, .inr (.inl (rwF (fun _ => 0) (PP (x1).toNatClampNeg (x0).toNatClampNeg ((x1).toNatClampNeg + 1 - (x0).toNatClampNeg))))))]) := by
  refine Ct.of (by decide +kernel) (Nat.le_of_ble_eq_true rfl) ?_
  intro p e s m args below meth c A ls C hr hlocks hml hnm w hl
  have hl : lv_has ls 3 [(0, .ref a0), (1, .int x0), (2, .int x1)] := hl
  refine lv_aload_n C.1 C.2.1 dX12_ends_0 rfl (lv_at hl 0 rfl) ?_
  refine lv_iload_n C.1 C.2.1 dX12_ends_1 rfl (lv_at hl 1 rfl) ?_
  refine lv_i2l (v := (Int32.toInt64 x0)) C.1 C.2.1 dX12_ends_2 rfl ?_
  refine lv_lconst (v := 1) C.1 C.2.1 dX12_ends_3 (by decide) ?_
  refine lv_ldc2 (v := 60) C.1 C.2.1 C.2.2.1 (C.2.2.2.1 _ kl_RX12_351) dX12_ends_4 ?_
  refine r_callS C w fs_RX12_133 (c_X12_within_21 l D cy x0 k0 k1) (hl.1.trans hml.symm) [] [0, 1, 2, 3, 4] (wr := [(a0, .inr (12, [.ref a1, .ref a2, .ref a3, .ref a4, .ref a5, .int 0, .ref a6, .int 0, .int 0, .int 0, .int 0, .int 0, .int 0, .int 0, .int 0, .int 0, .int 0, .int (-1), .ref a7, .ref a8, .int 0, .ref a9, .int 0, .ref a10, .ref a11, .ref a12, .ref a13, .ref a14, .int 0, .ref a15, .ref a16, .ref a17])), (a1, .inl (cy 1, 1868, .inl (upd (upd (upd (fun _ => 0) 1 2) 2 20) 3 120))), (a7, .inl (cy 1, 1830, .inl (fun _ => 0))), (a8, .inl (cy 1, 1830, .inl (fun _ => 0))), (a9, .inl (cy 2, 2465, .inr (.inl (fun _ => 0))))]) ⟨rfl, rfl, rfl, rfl, by decide⟩ rfl rfl ⟨Nat.le_of_ble_eq_true rfl, Nat.le_of_ble_eq_true rfl, Nat.le_of_ble_eq_true rfl⟩ 0 0 ⟨rfl, rfl, Nat.le_of_ble_eq_true rfl, Nat.le_of_ble_eq_true rfl⟩ dX12_ends_7 (fun u H locs hp w => ?_)
  have w : Wd D A s.heap [(a0, .inr (12, [.ref a1, .ref a2, .ref a3, .ref a4, .ref a5, .int 0, .ref a6, .int 0, .int 0, .int 0, .int 0, .int 0, .int 0, .int 0, .int 0, .int 0, .int 0, .int (-1), .ref a7, .ref a8, .int 0, .ref a9, .int 0, .ref a10, .ref a11, .ref a12, .ref a13, .ref a14, .int 0, .ref a15, .ref a16, .ref a17])), (a1, .inl (cy 1, 1868, .inl (upd (upd (upd (fun _ => 0) 1 2) 2 20) 3 120))), (a7, .inl (cy 1, 1830, .inl (fun _ => 0))), (a8, .inl (cy 1, 1830, .inl (fun _ => 0))), (a9, .inl (cy 2, 2465, .inr (.inl (fun _ => 0))))] _ _ := w
  refine r_top (g2 := F0 m 10 ls [.int 1, .ref a0]) rfl ?_
  refine b_if_eq_f C (tgt := 30) dX12_ends_10 (by decide) (by decide) ?_
  refine lv_iload_n C.1 C.2.1 dX12_ends_13 rfl (lv_at hl 2 rfl) ?_
  refine lv_i2l (v := (Int32.toInt64 x1)) C.1 C.2.1 dX12_ends_14 rfl ?_
  refine lv_iload_n C.1 C.2.1 dX12_ends_15 rfl (lv_at hl 1 rfl) ?_
  refine lv_i2l (v := (Int32.toInt64 x0)) C.1 C.2.1 dX12_ends_16 rfl ?_
  refine lv_ldc2 (v := 60) C.1 C.2.1 C.2.2.1 (C.2.2.2.1 _ kl_RX12_351) dX12_ends_17 ?_
  refine r_callS C w fs_RX12_133 (c_X12_within_24 l D cy x1 x0 k2 k3) (hl.1.trans hml.symm) [] [0, 1, 2, 3, 4] (wr := [(a0, .inr (12, [.ref a1, .ref a2, .ref a3, .ref a4, .ref a5, .int 0, .ref a6, .int 0, .int 0, .int 0, .int 0, .int 0, .int 0, .int 0, .int 0, .int 0, .int 0, .int (-1), .ref a7, .ref a8, .int 0, .ref a9, .int 0, .ref a10, .ref a11, .ref a12, .ref a13, .ref a14, .int 0, .ref a15, .ref a16, .ref a17])), (a1, .inl (cy 1, 1868, .inl (upd (upd (upd (fun _ => 0) 1 2) 2 20) 3 120))), (a7, .inl (cy 1, 1830, .inl (fun _ => 0))), (a8, .inl (cy 1, 1830, .inl (fun _ => 0))), (a9, .inl (cy 2, 2465, .inr (.inl (fun _ => 0))))]) ⟨rfl, rfl, rfl, rfl, by decide⟩ rfl rfl ⟨Nat.le_of_ble_eq_true rfl, Nat.le_of_ble_eq_true rfl, Nat.le_of_ble_eq_true rfl⟩ 0 0 ⟨rfl, rfl, Nat.le_of_ble_eq_true rfl, Nat.le_of_ble_eq_true rfl⟩ dX12_ends_20 (fun u H locs hp w => ?_)
  have w : Wd D A s.heap [(a0, .inr (12, [.ref a1, .ref a2, .ref a3, .ref a4, .ref a5, .int 0, .ref a6, .int 0, .int 0, .int 0, .int 0, .int 0, .int 0, .int 0, .int 0, .int 0, .int 0, .int (-1), .ref a7, .ref a8, .int 0, .ref a9, .int 0, .ref a10, .ref a11, .ref a12, .ref a13, .ref a14, .int 0, .ref a15, .ref a16, .ref a17])), (a1, .inl (cy 1, 1868, .inl (upd (upd (upd (fun _ => 0) 1 2) 2 20) 3 120))), (a7, .inl (cy 1, 1830, .inl (fun _ => 0))), (a8, .inl (cy 1, 1830, .inl (fun _ => 0))), (a9, .inl (cy 2, 2465, .inr (.inl (fun _ => 0))))] _ _ := w
  refine r_top (g2 := F0 m 23 ls [.int 1, .ref a0]) rfl ?_
  refine b_if_eq_f C (tgt := 30) dX12_ends_23 (by decide) (by decide) ?_
  refine lv_iconst (v := 0) C.1 C.2.1 dX12_ends_26 (by decide) ?_
  refine lv_goto (tgt := 31) C.1 C.2.1 dX12_ends_27 (by decide) ?_
  refine r_put C w 0 rfl rfl 5 (by decide) fl_RX12_71 rfl (ty := .int) (tyX12_ok 5 (by decide)) rfl rfl (Nat.le_of_ble_eq_true rfl) [(a0, .inr (12, [.ref a1, .ref a2, .ref a3, .ref a4, .ref a5, .int 0, .ref a6, .int 0, .int 0, .int 0, .int 0, .int 0, .int 0, .int 0, .int 0, .int 0, .int 0, .int (-1), .ref a7, .ref a8, .int 0, .ref a9, .int 0, .ref a10, .ref a11, .ref a12, .ref a13, .ref a14, .int 0, .ref a15, .ref a16, .ref a17])), (a1, .inl (cy 1, 1868, .inl (upd (upd (upd (fun _ => 0) 1 2) 2 20) 3 120))), (a7, .inl (cy 1, 1830, .inl (fun _ => 0))), (a8, .inl (cy 1, 1830, .inl (fun _ => 0))), (a9, .inl (cy 2, 2465, .inr (.inl (fun _ => 0))))] rfl dX12_ends_31 (fun H locs w => ?_)
  refine lv_aload_n C.1 C.2.1 dX12_ends_34 rfl (lv_at hl 0 rfl) ?_
  refine r_get C w 0 rfl rfl 5 (by decide) fl_RX12_71 (v := .int 0) rfl dX12_ends_35 ?_
  refine b_if_le_t C (tgt := 45) dX12_ends_38 (by decide) (by decide) ?_
  refine lv_aload_n C.1 C.2.1 dX12_ends_45 rfl (lv_at hl 0 rfl) ?_
  refine lv_iload_n C.1 C.2.1 dX12_ends_46 rfl (lv_at hl 1 rfl) ?_
  refine lv_iload_n C.1 C.2.1 dX12_ends_47 rfl (lv_at hl 2 rfl) ?_
  refine r_callV C w fv_RX12_353 (c_X12_leftWith_0 l D cy a0 a1 a2 a3 a4 a5 a6 a7 a8 a9 a10 a11 a12 a13 a14 a15 a16 a17 x0 x1 k0 k1 k2 k3) (hl.1.trans hml.symm) [0, 1, 2, 3, 4] [] (wr := []) ⟨rfl, rfl, rfl, rfl, by decide⟩ 0 rfl rfl rfl rfl rfl ⟨Nat.le_of_ble_eq_true rfl, Nat.le_of_ble_eq_true rfl, Nat.le_of_ble_eq_true rfl⟩ 0 0 ⟨rfl, rfl, Nat.le_of_ble_eq_true rfl, Nat.le_of_ble_eq_true rfl⟩ dX12_ends_48 (fun u H locs hp w => ?_)
  have w : Wd D A s.heap [(a1, .inl (cy 1, 1868, .inl (upd (upd (upd (fun _ => 0) 1 2) 2 20) 3 120))), (a7, .inl (cy 1, 1830, .inl (lxF (fun _ => 0) (x0).toNatClampNeg (x1).toNatClampNeg (PP (x1).toNatClampNeg (x0).toNatClampNeg ((x1).toNatClampNeg + 1 - (x0).toNatClampNeg))))), (a8, .inl (cy 1, 1830, .inl (lyF (fun _ => 0) (x0).toNatClampNeg (x1).toNatClampNeg (PP (x1).toNatClampNeg (x0).toNatClampNeg ((x1).toNatClampNeg + 1 - (x0).toNatClampNeg))))), (a0, .inr (12, [.ref a1, .ref a2, .ref a3, .ref a4, .ref a5, .int 0, .ref a6, .int 0, .int 0, .int 0, .int 0, .int 0, .int 0, .int 0, .int 0, .int 0, .int 0, .int (-1), .ref a7, .ref a8, .int (nI (PP (x1).toNatClampNeg (x0).toNatClampNeg ((x1).toNatClampNeg + 1 - (x0).toNatClampNeg))), .ref a9, .int 21, .ref a10, .ref a11, .ref a12, .ref a13, .ref a14, .int 0, .ref a15, .ref a16, .ref a17])), (a9, .inl (cy 2, 2465, .inr (.inl (rwF (fun _ => 0) (PP (x1).toNatClampNeg (x0).toNatClampNeg ((x1).toNatClampNeg + 1 - (x0).toNatClampNeg))))))] _ _ := w
  refine r_top (g2 := F0 m 51 ls [.int (nI (PP (x1).toNatClampNeg (x0).toNatClampNeg ((x1).toNatClampNeg + 1 - (x0).toNatClampNeg)))]) rfl ?_
  exact r_iret C w hlocks () hr rfl rfl trivial [0, 1, 2, 3, 4] rfl rfl ⟨Nat.le_of_ble_eq_true rfl, Nat.le_of_ble_eq_true rfl⟩ dX12_ends_51
set_option maxRecDepth 100000 in
set_option maxHeartbeats 4000000 in
theorem c_X12_ends_3 (l : Launch) (D : va_G) (cy : Nat → ClassId) (a0 a1 a2 a3 a4 a5 a6 a7 a8 a9 a10 a11 a12 a13 a14 a15 a16 a17 : Nat) (x0 : Int32) (x1 : Int32) (k0 : ¬ x0 < 1) (k1 : ¬ 60 < x0) (k2 : ¬ x1 < x0) (k3 : 60 < x1) : Ct l D cy yX12_ends cX12_ends 3 (some .int) 1 25 0 0 [(a0, .inr (12, [.ref a1, .ref a2, .ref a3, .ref a4, .ref a5, .int 0, .ref a6, .int 0, .int 0, .int 0, .int 0, .int 0, .int 0, .int 0, .int 0, .int 0, .int 0, .int (-1), .ref a7, .ref a8, .int 0, .ref a9, .int 0, .ref a10, .ref a11, .ref a12, .ref a13, .ref a14, .int 0, .ref a15, .ref a16, .ref a17]))] [.ref a0, .int x0, .int x1] (fun u : Unit => some (.int 0)) (fun _ => True) (fun u : Unit => [(a0, .inr (12, [.ref a1, .ref a2, .ref a3, .ref a4, .ref a5, .int 1, .ref a6, .int 0, .int 0, .int 0, .int 0, .int 0, .int 0, .int 0, .int 0, .int 0, .int 0, .int (-1), .ref a7, .ref a8, .int 0, .ref a9, .int 0, .ref a10, .ref a11, .ref a12, .ref a13, .ref a14, .int 0, .ref a15, .ref a16, .ref a17]))]) := by
  refine Ct.of (by decide +kernel) (Nat.le_of_ble_eq_true rfl) ?_
  intro p e s m args below meth c A ls C hr hlocks hml hnm w hl
  have hl : lv_has ls 3 [(0, .ref a0), (1, .int x0), (2, .int x1)] := hl
  refine lv_aload_n C.1 C.2.1 dX12_ends_0 rfl (lv_at hl 0 rfl) ?_
  refine lv_iload_n C.1 C.2.1 dX12_ends_1 rfl (lv_at hl 1 rfl) ?_
  refine lv_i2l (v := (Int32.toInt64 x0)) C.1 C.2.1 dX12_ends_2 rfl ?_
  refine lv_lconst (v := 1) C.1 C.2.1 dX12_ends_3 (by decide) ?_
  refine lv_ldc2 (v := 60) C.1 C.2.1 C.2.2.1 (C.2.2.2.1 _ kl_RX12_351) dX12_ends_4 ?_
  refine r_callS C w fs_RX12_133 (c_X12_within_21 l D cy x0 k0 k1) (hl.1.trans hml.symm) [] [0] (wr := [(a0, .inr (12, [.ref a1, .ref a2, .ref a3, .ref a4, .ref a5, .int 0, .ref a6, .int 0, .int 0, .int 0, .int 0, .int 0, .int 0, .int 0, .int 0, .int 0, .int 0, .int (-1), .ref a7, .ref a8, .int 0, .ref a9, .int 0, .ref a10, .ref a11, .ref a12, .ref a13, .ref a14, .int 0, .ref a15, .ref a16, .ref a17]))]) ⟨rfl, rfl, rfl, rfl, by decide⟩ rfl rfl ⟨Nat.le_of_ble_eq_true rfl, Nat.le_of_ble_eq_true rfl, Nat.le_of_ble_eq_true rfl⟩ 0 0 ⟨rfl, rfl, Nat.le_of_ble_eq_true rfl, Nat.le_of_ble_eq_true rfl⟩ dX12_ends_7 (fun u H locs hp w => ?_)
  have w : Wd D A s.heap [(a0, .inr (12, [.ref a1, .ref a2, .ref a3, .ref a4, .ref a5, .int 0, .ref a6, .int 0, .int 0, .int 0, .int 0, .int 0, .int 0, .int 0, .int 0, .int 0, .int 0, .int (-1), .ref a7, .ref a8, .int 0, .ref a9, .int 0, .ref a10, .ref a11, .ref a12, .ref a13, .ref a14, .int 0, .ref a15, .ref a16, .ref a17]))] _ _ := w
  refine r_top (g2 := F0 m 10 ls [.int 1, .ref a0]) rfl ?_
  refine b_if_eq_f C (tgt := 30) dX12_ends_10 (by decide) (by decide) ?_
  refine lv_iload_n C.1 C.2.1 dX12_ends_13 rfl (lv_at hl 2 rfl) ?_
  refine lv_i2l (v := (Int32.toInt64 x1)) C.1 C.2.1 dX12_ends_14 rfl ?_
  refine lv_iload_n C.1 C.2.1 dX12_ends_15 rfl (lv_at hl 1 rfl) ?_
  refine lv_i2l (v := (Int32.toInt64 x0)) C.1 C.2.1 dX12_ends_16 rfl ?_
  refine lv_ldc2 (v := 60) C.1 C.2.1 C.2.2.1 (C.2.2.2.1 _ kl_RX12_351) dX12_ends_17 ?_
  refine r_callS C w fs_RX12_133 (c_X12_within_23 l D cy x1 x0 k2 k3) (hl.1.trans hml.symm) [] [0] (wr := [(a0, .inr (12, [.ref a1, .ref a2, .ref a3, .ref a4, .ref a5, .int 0, .ref a6, .int 0, .int 0, .int 0, .int 0, .int 0, .int 0, .int 0, .int 0, .int 0, .int 0, .int (-1), .ref a7, .ref a8, .int 0, .ref a9, .int 0, .ref a10, .ref a11, .ref a12, .ref a13, .ref a14, .int 0, .ref a15, .ref a16, .ref a17]))]) ⟨rfl, rfl, rfl, rfl, by decide⟩ rfl rfl ⟨Nat.le_of_ble_eq_true rfl, Nat.le_of_ble_eq_true rfl, Nat.le_of_ble_eq_true rfl⟩ 0 0 ⟨rfl, rfl, Nat.le_of_ble_eq_true rfl, Nat.le_of_ble_eq_true rfl⟩ dX12_ends_20 (fun u H locs hp w => ?_)
  have w : Wd D A s.heap [(a0, .inr (12, [.ref a1, .ref a2, .ref a3, .ref a4, .ref a5, .int 0, .ref a6, .int 0, .int 0, .int 0, .int 0, .int 0, .int 0, .int 0, .int 0, .int 0, .int 0, .int (-1), .ref a7, .ref a8, .int 0, .ref a9, .int 0, .ref a10, .ref a11, .ref a12, .ref a13, .ref a14, .int 0, .ref a15, .ref a16, .ref a17]))] _ _ := w
  refine r_top (g2 := F0 m 23 ls [.int 0, .ref a0]) rfl ?_
  refine b_if_eq_t C (tgt := 30) dX12_ends_23 (by decide) (by decide) ?_
  refine lv_iconst (v := 1) C.1 C.2.1 dX12_ends_30 (by decide) ?_
  refine r_put C w 0 rfl rfl 5 (by decide) fl_RX12_71 rfl (ty := .int) (tyX12_ok 5 (by decide)) rfl rfl (Nat.le_of_ble_eq_true rfl) [(a0, .inr (12, [.ref a1, .ref a2, .ref a3, .ref a4, .ref a5, .int 1, .ref a6, .int 0, .int 0, .int 0, .int 0, .int 0, .int 0, .int 0, .int 0, .int 0, .int 0, .int (-1), .ref a7, .ref a8, .int 0, .ref a9, .int 0, .ref a10, .ref a11, .ref a12, .ref a13, .ref a14, .int 0, .ref a15, .ref a16, .ref a17]))] rfl dX12_ends_31 (fun H locs w => ?_)
  refine lv_aload_n C.1 C.2.1 dX12_ends_34 rfl (lv_at hl 0 rfl) ?_
  refine r_get C w 0 rfl rfl 5 (by decide) fl_RX12_71 (v := .int 1) rfl dX12_ends_35 ?_
  refine b_if_le_f C (tgt := 45) dX12_ends_38 (by decide) (by decide) ?_
  refine lv_iconst (v := 0) C.1 C.2.1 dX12_ends_41 (by decide) ?_
  refine lv_goto (tgt := 51) C.1 C.2.1 dX12_ends_42 (by decide) ?_
  exact r_iret C w hlocks () hr rfl rfl trivial [0] rfl rfl ⟨Nat.le_of_ble_eq_true rfl, Nat.le_of_ble_eq_true rfl⟩ dX12_ends_51
set_option maxRecDepth 100000 in
set_option maxHeartbeats 4000000 in
theorem c_X12_ends_4 (l : Launch) (D : va_G) (cy : Nat → ClassId) (a0 a1 a2 a3 a4 a5 a6 a7 a8 a9 a10 a11 a12 a13 a14 a15 a16 a17 : Nat) (x0 : Int32) (x1 : Int32) (k0 : ¬ x0 < 1) (k1 : 60 < x0) : Ct l D cy yX12_ends cX12_ends 3 (some .int) 1 25 0 0 [(a0, .inr (12, [.ref a1, .ref a2, .ref a3, .ref a4, .ref a5, .int 0, .ref a6, .int 0, .int 0, .int 0, .int 0, .int 0, .int 0, .int 0, .int 0, .int 0, .int 0, .int (-1), .ref a7, .ref a8, .int 0, .ref a9, .int 0, .ref a10, .ref a11, .ref a12, .ref a13, .ref a14, .int 0, .ref a15, .ref a16, .ref a17]))] [.ref a0, .int x0, .int x1] (fun u : Unit => some (.int 0)) (fun _ => True) (fun u : Unit => [(a0, .inr (12, [.ref a1, .ref a2, .ref a3, .ref a4, .ref a5, .int 1, .ref a6, .int 0, .int 0, .int 0, .int 0, .int 0, .int 0, .int 0, .int 0, .int 0, .int 0, .int (-1), .ref a7, .ref a8, .int 0, .ref a9, .int 0, .ref a10, .ref a11, .ref a12, .ref a13, .ref a14, .int 0, .ref a15, .ref a16, .ref a17]))]) := by
  refine Ct.of (by decide +kernel) (Nat.le_of_ble_eq_true rfl) ?_
  intro p e s m args below meth c A ls C hr hlocks hml hnm w hl
  have hl : lv_has ls 3 [(0, .ref a0), (1, .int x0), (2, .int x1)] := hl
  refine lv_aload_n C.1 C.2.1 dX12_ends_0 rfl (lv_at hl 0 rfl) ?_
  refine lv_iload_n C.1 C.2.1 dX12_ends_1 rfl (lv_at hl 1 rfl) ?_
  refine lv_i2l (v := (Int32.toInt64 x0)) C.1 C.2.1 dX12_ends_2 rfl ?_
  refine lv_lconst (v := 1) C.1 C.2.1 dX12_ends_3 (by decide) ?_
  refine lv_ldc2 (v := 60) C.1 C.2.1 C.2.2.1 (C.2.2.2.1 _ kl_RX12_351) dX12_ends_4 ?_
  refine r_callS C w fs_RX12_133 (c_X12_within_20 l D cy x0 k0 k1) (hl.1.trans hml.symm) [] [0] (wr := [(a0, .inr (12, [.ref a1, .ref a2, .ref a3, .ref a4, .ref a5, .int 0, .ref a6, .int 0, .int 0, .int 0, .int 0, .int 0, .int 0, .int 0, .int 0, .int 0, .int 0, .int (-1), .ref a7, .ref a8, .int 0, .ref a9, .int 0, .ref a10, .ref a11, .ref a12, .ref a13, .ref a14, .int 0, .ref a15, .ref a16, .ref a17]))]) ⟨rfl, rfl, rfl, rfl, by decide⟩ rfl rfl ⟨Nat.le_of_ble_eq_true rfl, Nat.le_of_ble_eq_true rfl, Nat.le_of_ble_eq_true rfl⟩ 0 0 ⟨rfl, rfl, Nat.le_of_ble_eq_true rfl, Nat.le_of_ble_eq_true rfl⟩ dX12_ends_7 (fun u H locs hp w => ?_)
  have w : Wd D A s.heap [(a0, .inr (12, [.ref a1, .ref a2, .ref a3, .ref a4, .ref a5, .int 0, .ref a6, .int 0, .int 0, .int 0, .int 0, .int 0, .int 0, .int 0, .int 0, .int 0, .int 0, .int (-1), .ref a7, .ref a8, .int 0, .ref a9, .int 0, .ref a10, .ref a11, .ref a12, .ref a13, .ref a14, .int 0, .ref a15, .ref a16, .ref a17]))] _ _ := w
  refine r_top (g2 := F0 m 10 ls [.int 0, .ref a0]) rfl ?_
  refine b_if_eq_t C (tgt := 30) dX12_ends_10 (by decide) (by decide) ?_
  refine lv_iconst (v := 1) C.1 C.2.1 dX12_ends_30 (by decide) ?_
  refine r_put C w 0 rfl rfl 5 (by decide) fl_RX12_71 rfl (ty := .int) (tyX12_ok 5 (by decide)) rfl rfl (Nat.le_of_ble_eq_true rfl) [(a0, .inr (12, [.ref a1, .ref a2, .ref a3, .ref a4, .ref a5, .int 1, .ref a6, .int 0, .int 0, .int 0, .int 0, .int 0, .int 0, .int 0, .int 0, .int 0, .int 0, .int (-1), .ref a7, .ref a8, .int 0, .ref a9, .int 0, .ref a10, .ref a11, .ref a12, .ref a13, .ref a14, .int 0, .ref a15, .ref a16, .ref a17]))] rfl dX12_ends_31 (fun H locs w => ?_)
  refine lv_aload_n C.1 C.2.1 dX12_ends_34 rfl (lv_at hl 0 rfl) ?_
  refine r_get C w 0 rfl rfl 5 (by decide) fl_RX12_71 (v := .int 1) rfl dX12_ends_35 ?_
  refine b_if_le_f C (tgt := 45) dX12_ends_38 (by decide) (by decide) ?_
  refine lv_iconst (v := 0) C.1 C.2.1 dX12_ends_41 (by decide) ?_
  refine lv_goto (tgt := 51) C.1 C.2.1 dX12_ends_42 (by decide) ?_
  exact r_iret C w hlocks () hr rfl rfl trivial [0] rfl rfl ⟨Nat.le_of_ble_eq_true rfl, Nat.le_of_ble_eq_true rfl⟩ dX12_ends_51
theorem dX12_isLeft_0 : decode cX12_isLeft 0 = .ok (.aload_n 0, 1) := by decide +kernel
theorem dX12_isLeft_1 : decode cX12_isLeft 1 = .ok (.aload_n 0, 1) := by decide +kernel
theorem dX12_isLeft_2 : decode cX12_isLeft 2 = .ok (.iload_n 2, 1) := by decide +kernel
theorem dX12_isLeft_3 : decode cX12_isLeft 3 = .ok (.invokevirtual 256, 3) := by decide +kernel
theorem dX12_isLeft_6 : decode cX12_isLeft 6 = .ok (.ifCond .ne 7, 3) := by decide +kernel
theorem dX12_isLeft_9 : decode cX12_isLeft 9 = .ok (.iconst 1, 1) := by decide +kernel
theorem dX12_isLeft_10 : decode cX12_isLeft 10 = .ok (.goto 16, 3) := by decide +kernel
theorem dX12_isLeft_26 : decode cX12_isLeft 26 = .ok (.putfield 71, 3) := by decide +kernel
theorem dX12_isLeft_29 : decode cX12_isLeft 29 = .ok (.aload_n 0, 1) := by decide +kernel
theorem dX12_isLeft_30 : decode cX12_isLeft 30 = .ok (.getfield 71, 3) := by decide +kernel
theorem dX12_isLeft_33 : decode cX12_isLeft 33 = .ok (.ifCond .le 5, 3) := by decide +kernel
theorem dX12_isLeft_36 : decode cX12_isLeft 36 = .ok (.iconst 0, 1) := by decide +kernel
theorem dX12_isLeft_37 : decode cX12_isLeft 37 = .ok (.ireturn, 1) := by decide +kernel
set_option maxRecDepth 100000 in
set_option maxHeartbeats 4000000 in
theorem c_X12_isLeft_0 (l : Launch) (D : va_G) (cy : Nat → ClassId) (a0 a1 a2 a3 a4 a5 a6 a7 a8 a9 a10 a11 a12 a13 a14 a15 a16 a17 : Nat) (x0 : Int32) (x1 : Int32) (k0 : x1 < 0) : Ct l D cy yX12_isLeft cX12_isLeft 3 (some .boolean) 2 46 0 0 [(a0, .inr (12, [.ref a1, .ref a2, .ref a3, .ref a4, .ref a5, .int 0, .ref a6, .int 0, .int 0, .int 0, .int 0, .int 0, .int 0, .int 0, .int 0, .int 0, .int 0, .int (-1), .ref a7, .ref a8, .int 0, .ref a9, .int 0, .ref a10, .ref a11, .ref a12, .ref a13, .ref a14, .int 0, .ref a15, .ref a16, .ref a17])), (a1, .inl (cy 1, 1868, .inl (upd (upd (upd (fun _ => 0) 1 2) 2 20) 3 120))), (a7, .inl (cy 1, 1830, .inl (fun _ => 0))), (a8, .inl (cy 1, 1830, .inl (fun _ => 0)))] [.ref a0, .int x0, .int x1] (fun u : Unit => some (.int 0)) (fun _ => True) (fun u : Unit => [(a0, .inr (12, [.ref a1, .ref a2, .ref a3, .ref a4, .ref a5, .int 1, .ref a6, .int 0, .int 0, .int 0, .int 0, .int 0, .int 0, .int 0, .int 0, .int 0, .int 0, .int (-1), .ref a7, .ref a8, .int 190, .ref a9, .int 0, .ref a10, .ref a11, .ref a12, .ref a13, .ref a14, .int 0, .ref a15, .ref a16, .ref a17])), (a1, .inl (cy 1, 1868, .inl (upd (upd (upd (fun _ => 0) 1 2) 2 20) 3 120))), (a7, .inl (cy 1, 1830, .inl (lxF (fun _ => 0) 2 20 (PP 20 2 (20 + 1 - 2))))), (a8, .inl (cy 1, 1830, .inl (lyF (fun _ => 0) 2 20 (PP 20 2 (20 + 1 - 2)))))]) := by
  refine Ct.of (by decide +kernel) (Nat.le_of_ble_eq_true rfl) ?_
  intro p e s m args below meth c A ls C hr hlocks hml hnm w hl
  have hl : lv_has ls 3 [(0, .ref a0), (1, .int x0), (2, .int x1)] := hl
  refine lv_aload_n C.1 C.2.1 dX12_isLeft_0 rfl (lv_at hl 0 rfl) ?_
  refine lv_aload_n C.1 C.2.1 dX12_isLeft_1 rfl (lv_at hl 0 rfl) ?_
  refine lv_iload_n C.1 C.2.1 dX12_isLeft_2 rfl (lv_at hl 2 rfl) ?_
  refine r_callV C w fv_RX12_256 (c_X12_isWorld_0 l D cy a0 a1 a2 a3 a4 a5 a6 a7 a8 a9 a10 a11 a12 a13 a14 a15 a16 a17 x1 k0) (hl.1.trans hml.symm) [0, 1, 2, 3] [] (wr := []) ⟨rfl, rfl, rfl, rfl, by decide⟩ 0 rfl rfl rfl rfl rfl ⟨Nat.le_of_ble_eq_true rfl, Nat.le_of_ble_eq_true rfl, Nat.le_of_ble_eq_true rfl⟩ 0 0 ⟨rfl, rfl, Nat.le_of_ble_eq_true rfl, Nat.le_of_ble_eq_true rfl⟩ dX12_isLeft_3 (fun u H locs hp w => ?_)
  have w : Wd D A s.heap [(a0, .inr (12, [.ref a1, .ref a2, .ref a3, .ref a4, .ref a5, .int 0, .ref a6, .int 0, .int 0, .int 0, .int 0, .int 0, .int 0, .int 0, .int 0, .int 0, .int 0, .int (-1), .ref a7, .ref a8, .int 190, .ref a9, .int 0, .ref a10, .ref a11, .ref a12, .ref a13, .ref a14, .int 0, .ref a15, .ref a16, .ref a17])), (a1, .inl (cy 1, 1868, .inl (upd (upd (upd (fun _ => 0) 1 2) 2 20) 3 120))), (a7, .inl (cy 1, 1830, .inl (lxF (fun _ => 0) 2 20 (PP 20 2 (20 + 1 - 2))))), (a8, .inl (cy 1, 1830, .inl (lyF (fun _ => 0) 2 20 (PP 20 2 (20 + 1 - 2)))))] _ _ := w
  refine r_top (g2 := F0 m 6 ls [.int 0, .ref a0]) rfl ?_
  refine b_if_ne_f C (tgt := 13) dX12_isLeft_6 (by decide) (by decide) ?_
  refine lv_iconst (v := 1) C.1 C.2.1 dX12_isLeft_9 (by decide) ?_
  refine lv_goto (tgt := 26) C.1 C.2.1 dX12_isLeft_10 (by decide) ?_
  refine r_put C w 0 rfl rfl 5 (by decide) fl_RX12_71 rfl (ty := .int) (tyX12_ok 5 (by decide)) rfl rfl (Nat.le_of_ble_eq_true rfl) [(a0, .inr (12, [.ref a1, .ref a2, .ref a3, .ref a4, .ref a5, .int 1, .ref a6, .int 0, .int 0, .int 0, .int 0, .int 0, .int 0, .int 0, .int 0, .int 0, .int 0, .int (-1), .ref a7, .ref a8, .int 190, .ref a9, .int 0, .ref a10, .ref a11, .ref a12, .ref a13, .ref a14, .int 0, .ref a15, .ref a16, .ref a17])), (a1, .inl (cy 1, 1868, .inl (upd (upd (upd (fun _ => 0) 1 2) 2 20) 3 120))), (a7, .inl (cy 1, 1830, .inl (lxF (fun _ => 0) 2 20 (PP 20 2 (20 + 1 - 2))))), (a8, .inl (cy 1, 1830, .inl (lyF (fun _ => 0) 2 20 (PP 20 2 (20 + 1 - 2)))))] rfl dX12_isLeft_26 (fun H locs w => ?_)
  refine lv_aload_n C.1 C.2.1 dX12_isLeft_29 rfl (lv_at hl 0 rfl) ?_
  refine r_get C w 0 rfl rfl 5 (by decide) fl_RX12_71 (v := .int 1) rfl dX12_isLeft_30 ?_
  refine b_if_le_f C (tgt := 38) dX12_isLeft_33 (by decide) (by decide) ?_
  refine lv_iconst (v := 0) C.1 C.2.1 dX12_isLeft_36 (by decide) ?_
  exact r_iret C w hlocks () hr rfl rfl trivial [0, 1, 2, 3] rfl rfl ⟨Nat.le_of_ble_eq_true rfl, Nat.le_of_ble_eq_true rfl⟩ dX12_isLeft_37
set_option maxRecDepth 100000 in
set_option maxHeartbeats 4000000 in
theorem c_X12_isLeft_1 (l : Launch) (D : va_G) (cy : Nat → ClassId) (a0 a1 a2 a3 a4 a5 a6 a7 a8 a9 a10 a11 a12 a13 a14 a15 a16 a17 : Nat) (x0 : Int32) (x1 : Int32) (k0 : ¬ x1 < 0) (k1 : 189 < x1) : Ct l D cy yX12_isLeft cX12_isLeft 3 (some .boolean) 2 46 0 0 [(a0, .inr (12, [.ref a1, .ref a2, .ref a3, .ref a4, .ref a5, .int 0, .ref a6, .int 0, .int 0, .int 0, .int 0, .int 0, .int 0, .int 0, .int 0, .int 0, .int 0, .int (-1), .ref a7, .ref a8, .int 0, .ref a9, .int 0, .ref a10, .ref a11, .ref a12, .ref a13, .ref a14, .int 0, .ref a15, .ref a16, .ref a17])), (a1, .inl (cy 1, 1868, .inl (upd (upd (upd (fun _ => 0) 1 2) 2 20) 3 120))), (a7, .inl (cy 1, 1830, .inl (fun _ => 0))), (a8, .inl (cy 1, 1830, .inl (fun _ => 0)))] [.ref a0, .int x0, .int x1] (fun u : Unit => some (.int 0)) (fun _ => True) (fun u : Unit => [(a0, .inr (12, [.ref a1, .ref a2, .ref a3, .ref a4, .ref a5, .int 1, .ref a6, .int 0, .int 0, .int 0, .int 0, .int 0, .int 0, .int 0, .int 0, .int 0, .int 0, .int (-1), .ref a7, .ref a8, .int 190, .ref a9, .int 0, .ref a10, .ref a11, .ref a12, .ref a13, .ref a14, .int 0, .ref a15, .ref a16, .ref a17])), (a1, .inl (cy 1, 1868, .inl (upd (upd (upd (fun _ => 0) 1 2) 2 20) 3 120))), (a7, .inl (cy 1, 1830, .inl (lxF (fun _ => 0) 2 20 (PP 20 2 (20 + 1 - 2))))), (a8, .inl (cy 1, 1830, .inl (lyF (fun _ => 0) 2 20 (PP 20 2 (20 + 1 - 2)))))]) := by
  refine Ct.of (by decide +kernel) (Nat.le_of_ble_eq_true rfl) ?_
  intro p e s m args below meth c A ls C hr hlocks hml hnm w hl
  have hl : lv_has ls 3 [(0, .ref a0), (1, .int x0), (2, .int x1)] := hl
  refine lv_aload_n C.1 C.2.1 dX12_isLeft_0 rfl (lv_at hl 0 rfl) ?_
  refine lv_aload_n C.1 C.2.1 dX12_isLeft_1 rfl (lv_at hl 0 rfl) ?_
  refine lv_iload_n C.1 C.2.1 dX12_isLeft_2 rfl (lv_at hl 2 rfl) ?_
  refine r_callV C w fv_RX12_256 (c_X12_isWorld_2 l D cy a0 a1 a2 a3 a4 a5 a6 a7 a8 a9 a10 a11 a12 a13 a14 a15 a16 a17 x1 k0 k1) (hl.1.trans hml.symm) [0, 1, 2, 3] [] (wr := []) ⟨rfl, rfl, rfl, rfl, by decide⟩ 0 rfl rfl rfl rfl rfl ⟨Nat.le_of_ble_eq_true rfl, Nat.le_of_ble_eq_true rfl, Nat.le_of_ble_eq_true rfl⟩ 0 0 ⟨rfl, rfl, Nat.le_of_ble_eq_true rfl, Nat.le_of_ble_eq_true rfl⟩ dX12_isLeft_3 (fun u H locs hp w => ?_)
  have w : Wd D A s.heap [(a0, .inr (12, [.ref a1, .ref a2, .ref a3, .ref a4, .ref a5, .int 0, .ref a6, .int 0, .int 0, .int 0, .int 0, .int 0, .int 0, .int 0, .int 0, .int 0, .int 0, .int (-1), .ref a7, .ref a8, .int 190, .ref a9, .int 0, .ref a10, .ref a11, .ref a12, .ref a13, .ref a14, .int 0, .ref a15, .ref a16, .ref a17])), (a1, .inl (cy 1, 1868, .inl (upd (upd (upd (fun _ => 0) 1 2) 2 20) 3 120))), (a7, .inl (cy 1, 1830, .inl (lxF (fun _ => 0) 2 20 (PP 20 2 (20 + 1 - 2))))), (a8, .inl (cy 1, 1830, .inl (lyF (fun _ => 0) 2 20 (PP 20 2 (20 + 1 - 2)))))] _ _ := w
  refine r_top (g2 := F0 m 6 ls [.int 0, .ref a0]) rfl ?_
  refine b_if_ne_f C (tgt := 13) dX12_isLeft_6 (by decide) (by decide) ?_
  refine lv_iconst (v := 1) C.1 C.2.1 dX12_isLeft_9 (by decide) ?_
  refine lv_goto (tgt := 26) C.1 C.2.1 dX12_isLeft_10 (by decide) ?_
  refine r_put C w 0 rfl rfl 5 (by decide) fl_RX12_71 rfl (ty := .int) (tyX12_ok 5 (by decide)) rfl rfl (Nat.le_of_ble_eq_true rfl) [(a0, .inr (12, [.ref a1, .ref a2, .ref a3, .ref a4, .ref a5, .int 1, .ref a6, .int 0, .int 0, .int 0, .int 0, .int 0, .int 0, .int 0, .int 0, .int 0, .int 0, .int (-1), .ref a7, .ref a8, .int 190, .ref a9, .int 0, .ref a10, .ref a11, .ref a12, .ref a13, .ref a14, .int 0, .ref a15, .ref a16, .ref a17])), (a1, .inl (cy 1, 1868, .inl (upd (upd (upd (fun _ => 0) 1 2) 2 20) 3 120))), (a7, .inl (cy 1, 1830, .inl (lxF (fun _ => 0) 2 20 (PP 20 2 (20 + 1 - 2))))), (a8, .inl (cy 1, 1830, .inl (lyF (fun _ => 0) 2 20 (PP 20 2 (20 + 1 - 2)))))] rfl dX12_isLeft_26 (fun H locs w => ?_)
  refine lv_aload_n C.1 C.2.1 dX12_isLeft_29 rfl (lv_at hl 0 rfl) ?_
  refine r_get C w 0 rfl rfl 5 (by decide) fl_RX12_71 (v := .int 1) rfl dX12_isLeft_30 ?_
  refine b_if_le_f C (tgt := 38) dX12_isLeft_33 (by decide) (by decide) ?_
  refine lv_iconst (v := 0) C.1 C.2.1 dX12_isLeft_36 (by decide) ?_
  exact r_iret C w hlocks () hr rfl rfl trivial [0, 1, 2, 3] rfl rfl ⟨Nat.le_of_ble_eq_true rfl, Nat.le_of_ble_eq_true rfl⟩ dX12_isLeft_37
theorem dX12_isLeft_13 : decode cX12_isLeft 13 = .ok (.aload_n 0, 1) := by decide +kernel
theorem dX12_isLeft_14 : decode cX12_isLeft 14 = .ok (.iload_n 1, 1) := by decide +kernel
theorem dX12_isLeft_15 : decode cX12_isLeft 15 = .ok (.invokevirtual 342, 3) := by decide +kernel
theorem dX12_isBehind_0 : decode cX12_isBehind 0 = .ok (.iload_n 1, 1) := by decide +kernel
theorem dX12_isBehind_1 : decode cX12_isBehind 1 = .ok (.i2l, 1) := by decide +kernel
theorem dX12_isBehind_2 : decode cX12_isBehind 2 = .ok (.lconst 0, 1) := by decide +kernel
theorem dX12_isBehind_3 : decode cX12_isBehind 3 = .ok (.aload_n 0, 1) := by decide +kernel
theorem dX12_isBehind_4 : decode cX12_isBehind 4 = .ok (.getfield 9, 3) := by decide +kernel
theorem dX12_isBehind_7 : decode cX12_isBehind 7 = .ok (.bipush 6, 2) := by decide +kernel
theorem dX12_isBehind_9 : decode cX12_isBehind 9 = .ok (.iaload, 1) := by decide +kernel
theorem dX12_isBehind_10 : decode cX12_isBehind 10 = .ok (.i2l, 1) := by decide +kernel
theorem dX12_isBehind_11 : decode cX12_isBehind 11 = .ok (.invokestatic 133, 3) := by decide +kernel
theorem dX12_isBehind_14 : decode cX12_isBehind 14 = .ok (.ireturn, 1) := by decide +kernel
set_option maxRecDepth 100000 in
set_option maxHeartbeats 4000000 in
theorem c_X12_isBehind_0 (l : Launch) (D : va_G) (cy : Nat → ClassId) (a0 a1 a2 a3 a4 a5 a6 a7 a8 a9 a10 a11 a12 a13 a14 a15 a16 a17 : Nat) (x0 : Int32) (k0 : x0 < 0) : Ct l D cy yX12_isBehind cX12_isBehind 2 (some .boolean) 1 25 0 0 [(a0, .inr (12, [.ref a1, .ref a2, .ref a3, .ref a4, .ref a5, .int 0, .ref a6, .int 0, .int 0, .int 0, .int 0, .int 0, .int 0, .int 0, .int 0, .int 0, .int 0, .int (-1), .ref a7, .ref a8, .int 190, .ref a9, .int 0, .ref a10, .ref a11, .ref a12, .ref a13, .ref a14, .int 0, .ref a15, .ref a16, .ref a17])), (a1, .inl (cy 1, 1868, .inl (upd (upd (upd (fun _ => 0) 1 2) 2 20) 3 120)))] [.ref a0, .int x0] (fun u : Unit => some (.int 0)) (fun _ => True) (fun u : Unit => [(a0, .inr (12, [.ref a1, .ref a2, .ref a3, .ref a4, .ref a5, .int 0, .ref a6, .int 0, .int 0, .int 0, .int 0, .int 0, .int 0, .int 0, .int 0, .int 0, .int 0, .int (-1), .ref a7, .ref a8, .int 190, .ref a9, .int 0, .ref a10, .ref a11, .ref a12, .ref a13, .ref a14, .int 0, .ref a15, .ref a16, .ref a17])), (a1, .inl (cy 1, 1868, .inl (upd (upd (upd (fun _ => 0) 1 2) 2 20) 3 120)))]) := by
  refine Ct.of (by decide +kernel) (Nat.le_of_ble_eq_true rfl) ?_
  intro p e s m args below meth c A ls C hr hlocks hml hnm w hl
  have hl : lv_has ls 2 [(0, .ref a0), (1, .int x0)] := hl
  refine lv_iload_n C.1 C.2.1 dX12_isBehind_0 rfl (lv_at hl 1 rfl) ?_
  refine lv_i2l (v := (Int32.toInt64 x0)) C.1 C.2.1 dX12_isBehind_1 rfl ?_
  refine lv_lconst (v := 0) C.1 C.2.1 dX12_isBehind_2 (by decide) ?_
  refine lv_aload_n C.1 C.2.1 dX12_isBehind_3 rfl (lv_at hl 0 rfl) ?_
  refine r_get C w 0 rfl rfl 0 (by decide) fl_RX12_9 (v := .ref a1) rfl dX12_isBehind_4 ?_
  refine lv_bipush (v := 6) C.1 C.2.1 dX12_isBehind_7 (by decide) ?_
  refine r_iald C w 1 rfl (v := 0) (vinD (by decide)) rfl dX12_isBehind_9 ?_
  refine lv_i2l (v := 0) C.1 C.2.1 dX12_isBehind_10 (by decide) ?_
  refine r_callS C w fs_RX12_133 (c_X12_within_0 l D cy x0 k0) (hl.1.trans hml.symm) [] [0, 1] (wr := [(a0, .inr (12, [.ref a1, .ref a2, .ref a3, .ref a4, .ref a5, .int 0, .ref a6, .int 0, .int 0, .int 0, .int 0, .int 0, .int 0, .int 0, .int 0, .int 0, .int 0, .int (-1), .ref a7, .ref a8, .int 190, .ref a9, .int 0, .ref a10, .ref a11, .ref a12, .ref a13, .ref a14, .int 0, .ref a15, .ref a16, .ref a17])), (a1, .inl (cy 1, 1868, .inl (upd (upd (upd (fun _ => 0) 1 2) 2 20) 3 120)))]) ⟨rfl, rfl, rfl, rfl, by decide⟩ rfl rfl ⟨Nat.le_of_ble_eq_true rfl, Nat.le_of_ble_eq_true rfl, Nat.le_of_ble_eq_true rfl⟩ 0 0 ⟨rfl, rfl, Nat.le_of_ble_eq_true rfl, Nat.le_of_ble_eq_true rfl⟩ dX12_isBehind_11 (fun u H locs hp w => ?_)
  have w : Wd D A s.heap [(a0, .inr (12, [.ref a1, .ref a2, .ref a3, .ref a4, .ref a5, .int 0, .ref a6, .int 0, .int 0, .int 0, .int 0, .int 0, .int 0, .int 0, .int 0, .int 0, .int 0, .int (-1), .ref a7, .ref a8, .int 190, .ref a9, .int 0, .ref a10, .ref a11, .ref a12, .ref a13, .ref a14, .int 0, .ref a15, .ref a16, .ref a17])), (a1, .inl (cy 1, 1868, .inl (upd (upd (upd (fun _ => 0) 1 2) 2 20) 3 120)))] _ _ := w
  refine r_top (g2 := F0 m 14 ls [.int 0]) rfl ?_
  exact r_iret C w hlocks () hr rfl rfl trivial [0, 1] rfl rfl ⟨Nat.le_of_ble_eq_true rfl, Nat.le_of_ble_eq_true rfl⟩ dX12_isBehind_14
set_option maxRecDepth 100000 in
set_option maxHeartbeats 4000000 in
theorem c_X12_isBehind_1 (l : Launch) (D : va_G) (cy : Nat → ClassId) (a0 a1 a2 a3 a4 a5 a6 a7 a8 a9 a10 a11 a12 a13 a14 a15 a16 a17 : Nat) : Ct l D cy yX12_isBehind cX12_isBehind 2 (some .boolean) 1 25 0 0 [(a0, .inr (12, [.ref a1, .ref a2, .ref a3, .ref a4, .ref a5, .int 0, .ref a6, .int 0, .int 0, .int 0, .int 0, .int 0, .int 0, .int 0, .int 0, .int 0, .int 0, .int (-1), .ref a7, .ref a8, .int 190, .ref a9, .int 0, .ref a10, .ref a11, .ref a12, .ref a13, .ref a14, .int 0, .ref a15, .ref a16, .ref a17])), (a1, .inl (cy 1, 1868, .inl (upd (upd (upd (fun _ => 0) 1 2) 2 20) 3 120)))] [.ref a0, .int 0] (fun u : Unit => some (.int 1)) (fun _ => True) (fun u : Unit => [(a0, .inr (12, [.ref a1, .ref a2, .ref a3, .ref a4, .ref a5, .int 0, .ref a6, .int 0, .int 0, .int 0, .int 0, .int 0, .int 0, .int 0, .int 0, .int 0, .int 0, .int (-1), .ref a7, .ref a8, .int 190, .ref a9, .int 0, .ref a10, .ref a11, .ref a12, .ref a13, .ref a14, .int 0, .ref a15, .ref a16, .ref a17])), (a1, .inl (cy 1, 1868, .inl (upd (upd (upd (fun _ => 0) 1 2) 2 20) 3 120)))]) := by
  refine Ct.of (by decide +kernel) (Nat.le_of_ble_eq_true rfl) ?_
  intro p e s m args below meth c A ls C hr hlocks hml hnm w hl
  have hl : lv_has ls 2 [(0, .ref a0), (1, .int 0)] := hl
  refine lv_iload_n C.1 C.2.1 dX12_isBehind_0 rfl (lv_at hl 1 rfl) ?_
  refine lv_i2l (v := 0) C.1 C.2.1 dX12_isBehind_1 (by decide) ?_
  refine lv_lconst (v := 0) C.1 C.2.1 dX12_isBehind_2 (by decide) ?_
  refine lv_aload_n C.1 C.2.1 dX12_isBehind_3 rfl (lv_at hl 0 rfl) ?_
  refine r_get C w 0 rfl rfl 0 (by decide) fl_RX12_9 (v := .ref a1) rfl dX12_isBehind_4 ?_
  refine lv_bipush (v := 6) C.1 C.2.1 dX12_isBehind_7 (by decide) ?_
  refine r_iald C w 1 rfl (v := 0) (vinD (by decide)) rfl dX12_isBehind_9 ?_
  refine lv_i2l (v := 0) C.1 C.2.1 dX12_isBehind_10 (by decide) ?_
  refine r_callS C w fs_RX12_133 (c_X12_within_3 l D cy) (hl.1.trans hml.symm) [] [0, 1] (wr := [(a0, .inr (12, [.ref a1, .ref a2, .ref a3, .ref a4, .ref a5, .int 0, .ref a6, .int 0, .int 0, .int 0, .int 0, .int 0, .int 0, .int 0, .int 0, .int 0, .int 0, .int (-1), .ref a7, .ref a8, .int 190, .ref a9, .int 0, .ref a10, .ref a11, .ref a12, .ref a13, .ref a14, .int 0, .ref a15, .ref a16, .ref a17])), (a1, .inl (cy 1, 1868, .inl (upd (upd (upd (fun _ => 0) 1 2) 2 20) 3 120)))]) ⟨rfl, rfl, rfl, rfl, by decide⟩ rfl rfl ⟨Nat.le_of_ble_eq_true rfl, Nat.le_of_ble_eq_true rfl, Nat.le_of_ble_eq_true rfl⟩ 0 0 ⟨rfl, rfl, Nat.le_of_ble_eq_true rfl, Nat.le_of_ble_eq_true rfl⟩ dX12_isBehind_11 (fun u H locs hp w => ?_)
  have w : Wd D A s.heap [(a0, .inr (12, [.ref a1, .ref a2, .ref a3, .ref a4, .ref a5, .int 0, .ref a6, .int 0, .int 0, .int 0, .int 0, .int 0, .int 0, .int 0, .int 0, .int 0, .int 0, .int (-1), .ref a7, .ref a8, .int 190, .ref a9, .int 0, .ref a10, .ref a11, .ref a12, .ref a13, .ref a14, .int 0, .ref a15, .ref a16, .ref a17])), (a1, .inl (cy 1, 1868, .inl (upd (upd (upd (fun _ => 0) 1 2) 2 20) 3 120)))] _ _ := w
  refine r_top (g2 := F0 m 14 ls [.int 1]) rfl ?_
  exact r_iret C w hlocks () hr rfl rfl trivial [0, 1] rfl rfl ⟨Nat.le_of_ble_eq_true rfl, Nat.le_of_ble_eq_true rfl⟩ dX12_isBehind_14
set_option maxRecDepth 100000 in
set_option maxHeartbeats 4000000 in
theorem c_X12_isBehind_2 (l : Launch) (D : va_G) (cy : Nat → ClassId) (a0 a1 a2 a3 a4 a5 a6 a7 a8 a9 a10 a11 a12 a13 a14 a15 a16 a17 : Nat) (x0 : Int32) (k0 : ¬ x0 < 0) (k1 : 0 < x0) : Ct l D cy yX12_isBehind cX12_isBehind 2 (some .boolean) 1 25 0 0 [(a0, .inr (12, [.ref a1, .ref a2, .ref a3, .ref a4, .ref a5, .int 0, .ref a6, .int 0, .int 0, .int 0, .int 0, .int 0, .int 0, .int 0, .int 0, .int 0, .int 0, .int (-1), .ref a7, .ref a8, .int 190, .ref a9, .int 0, .ref a10, .ref a11, .ref a12, .ref a13, .ref a14, .int 0, .ref a15, .ref a16, .ref a17])), (a1, .inl (cy 1, 1868, .inl (upd (upd (upd (fun _ => 0) 1 2) 2 20) 3 120)))] [.ref a0, .int x0] (fun u : Unit => some (.int 0)) (fun _ => True) (fun u : Unit => [(a0, .inr (12, [.ref a1, .ref a2, .ref a3, .ref a4, .ref a5, .int 0, .ref a6, .int 0, .int 0, .int 0, .int 0, .int 0, .int 0, .int 0, .int 0, .int 0, .int 0, .int (-1), .ref a7, .ref a8, .int 190, .ref a9, .int 0, .ref a10, .ref a11, .ref a12, .ref a13, .ref a14, .int 0, .ref a15, .ref a16, .ref a17])), (a1, .inl (cy 1, 1868, .inl (upd (upd (upd (fun _ => 0) 1 2) 2 20) 3 120)))]) := by
  refine Ct.of (by decide +kernel) (Nat.le_of_ble_eq_true rfl) ?_
  intro p e s m args below meth c A ls C hr hlocks hml hnm w hl
  have hl : lv_has ls 2 [(0, .ref a0), (1, .int x0)] := hl
  refine lv_iload_n C.1 C.2.1 dX12_isBehind_0 rfl (lv_at hl 1 rfl) ?_
  refine lv_i2l (v := (Int32.toInt64 x0)) C.1 C.2.1 dX12_isBehind_1 rfl ?_
  refine lv_lconst (v := 0) C.1 C.2.1 dX12_isBehind_2 (by decide) ?_
  refine lv_aload_n C.1 C.2.1 dX12_isBehind_3 rfl (lv_at hl 0 rfl) ?_
  refine r_get C w 0 rfl rfl 0 (by decide) fl_RX12_9 (v := .ref a1) rfl dX12_isBehind_4 ?_
  refine lv_bipush (v := 6) C.1 C.2.1 dX12_isBehind_7 (by decide) ?_
  refine r_iald C w 1 rfl (v := 0) (vinD (by decide)) rfl dX12_isBehind_9 ?_
  refine lv_i2l (v := 0) C.1 C.2.1 dX12_isBehind_10 (by decide) ?_
  refine r_callS C w fs_RX12_133 (c_X12_within_1 l D cy x0 k0 k1) (hl.1.trans hml.symm) [] [0, 1] (wr := [(a0, .inr (12, [.ref a1, .ref a2, .ref a3, .ref a4, .ref a5, .int 0, .ref a6, .int 0, .int 0, .int 0, .int 0, .int 0, .int 0, .int 0, .int 0, .int 0, .int 0, .int (-1), .ref a7, .ref a8, .int 190, .ref a9, .int 0, .ref a10, .ref a11, .ref a12, .ref a13, .ref a14, .int 0, .ref a15, .ref a16, .ref a17])), (a1, .inl (cy 1, 1868, .inl (upd (upd (upd (fun _ => 0) 1 2) 2 20) 3 120)))]) ⟨rfl, rfl, rfl, rfl, by decide⟩ rfl rfl ⟨Nat.le_of_ble_eq_true rfl, Nat.le_of_ble_eq_true rfl, Nat.le_of_ble_eq_true rfl⟩ 0 0 ⟨rfl, rfl, Nat.le_of_ble_eq_true rfl, Nat.le_of_ble_eq_true rfl⟩ dX12_isBehind_11 (fun u H locs hp w => ?_)
  have w : Wd D A s.heap [(a0, .inr (12, [.ref a1, .ref a2, .ref a3, .ref a4, .ref a5, .int 0, .ref a6, .int 0, .int 0, .int 0, .int 0, .int 0, .int 0, .int 0, .int 0, .int 0, .int 0, .int (-1), .ref a7, .ref a8, .int 190, .ref a9, .int 0, .ref a10, .ref a11, .ref a12, .ref a13, .ref a14, .int 0, .ref a15, .ref a16, .ref a17])), (a1, .inl (cy 1, 1868, .inl (upd (upd (upd (fun _ => 0) 1 2) 2 20) 3 120)))] _ _ := w
  refine r_top (g2 := F0 m 14 ls [.int 0]) rfl ?_
  exact r_iret C w hlocks () hr rfl rfl trivial [0, 1] rfl rfl ⟨Nat.le_of_ble_eq_true rfl, Nat.le_of_ble_eq_true rfl⟩ dX12_isBehind_14
theorem fv_RX12_342 : FV RX12 342 yX12_isBehind cX12_isBehind 2 (some .boolean) 1 := ⟨⟨gw_mem (by decide +kernel) (by decide +kernel), gw_mem (by decide +kernel) (by decide +kernel), gw_mem (by decide +kernel) (by decide +kernel), gw_mem (by decide +kernel) (by decide +kernel), gw_mem (by decide +kernel) (by decide +kernel)⟩, ⟨by decide +kernel, by decide +kernel, by decide +kernel⟩⟩
theorem dX12_isLeft_18 : decode cX12_isLeft 18 = .ok (.ifCond .eq 7, 3) := by decide +kernel
theorem dX12_isLeft_25 : decode cX12_isLeft 25 = .ok (.iconst 2, 1) := by decide +kernel
set_option maxRecDepth 100000 in
set_option maxHeartbeats 4000000 in
theorem c_X12_isLeft_2 (l : Launch) (D : va_G) (cy : Nat → ClassId) (a0 a1 a2 a3 a4 a5 a6 a7 a8 a9 a10 a11 a12 a13 a14 a15 a16 a17 : Nat) (x0 : Int32) (x1 : Int32) (k0 : ¬ x1 < 0) (k1 : ¬ 189 < x1) (k2 : x0 < 0) : Ct l D cy yX12_isLeft cX12_isLeft 3 (some .boolean) 2 46 0 0 [(a0, .inr (12, [.ref a1, .ref a2, .ref a3, .ref a4, .ref a5, .int 0, .ref a6, .int 0, .int 0, .int 0, .int 0, .int 0, .int 0, .int 0, .int 0, .int 0, .int 0, .int (-1), .ref a7, .ref a8, .int 0, .ref a9, .int 0, .ref a10, .ref a11, .ref a12, .ref a13, .ref a14, .int 0, .ref a15, .ref a16, .ref a17])), (a1, .inl (cy 1, 1868, .inl (upd (upd (upd (fun _ => 0) 1 2) 2 20) 3 120))), (a7, .inl (cy 1, 1830, .inl (fun _ => 0))), (a8, .inl (cy 1, 1830, .inl (fun _ => 0)))] [.ref a0, .int x0, .int x1] (fun u : Unit => some (.int 0)) (fun _ => True) (fun u : Unit => [(a7, .inl (cy 1, 1830, .inl (lxF (fun _ => 0) 2 20 (PP 20 2 (20 + 1 - 2))))), (a8, .inl (cy 1, 1830, .inl (lyF (fun _ => 0) 2 20 (PP 20 2 (20 + 1 - 2))))), (a0, .inr (12, [.ref a1, .ref a2, .ref a3, .ref a4, .ref a5, .int 2, .ref a6, .int 0, .int 0, .int 0, .int 0, .int 0, .int 0, .int 0, .int 0, .int 0, .int 0, .int (-1), .ref a7, .ref a8, .int 190, .ref a9, .int 0, .ref a10, .ref a11, .ref a12, .ref a13, .ref a14, .int 0, .ref a15, .ref a16, .ref a17])), (a1, .inl (cy 1, 1868, .inl (upd (upd (upd (fun _ => 0) 1 2) 2 20) 3 120)))]) := by
  refine Ct.of (by decide +kernel) (Nat.le_of_ble_eq_true rfl) ?_
  intro p e s m args below meth c A ls C hr hlocks hml hnm w hl
  have hl : lv_has ls 3 [(0, .ref a0), (1, .int x0), (2, .int x1)] := hl
  refine lv_aload_n C.1 C.2.1 dX12_isLeft_0 rfl (lv_at hl 0 rfl) ?_
  refine lv_aload_n C.1 C.2.1 dX12_isLeft_1 rfl (lv_at hl 0 rfl) ?_
  refine lv_iload_n C.1 C.2.1 dX12_isLeft_2 rfl (lv_at hl 2 rfl) ?_
  refine r_callV C w fv_RX12_256 (c_X12_isWorld_1 l D cy a0 a1 a2 a3 a4 a5 a6 a7 a8 a9 a10 a11 a12 a13 a14 a15 a16 a17 x1 k0 k1) (hl.1.trans hml.symm) [0, 1, 2, 3] [] (wr := []) ⟨rfl, rfl, rfl, rfl, by decide⟩ 0 rfl rfl rfl rfl rfl ⟨Nat.le_of_ble_eq_true rfl, Nat.le_of_ble_eq_true rfl, Nat.le_of_ble_eq_true rfl⟩ 0 0 ⟨rfl, rfl, Nat.le_of_ble_eq_true rfl, Nat.le_of_ble_eq_true rfl⟩ dX12_isLeft_3 (fun u H locs hp w => ?_)
  have w : Wd D A s.heap [(a0, .inr (12, [.ref a1, .ref a2, .ref a3, .ref a4, .ref a5, .int 0, .ref a6, .int 0, .int 0, .int 0, .int 0, .int 0, .int 0, .int 0, .int 0, .int 0, .int 0, .int (-1), .ref a7, .ref a8, .int 190, .ref a9, .int 0, .ref a10, .ref a11, .ref a12, .ref a13, .ref a14, .int 0, .ref a15, .ref a16, .ref a17])), (a1, .inl (cy 1, 1868, .inl (upd (upd (upd (fun _ => 0) 1 2) 2 20) 3 120))), (a7, .inl (cy 1, 1830, .inl (lxF (fun _ => 0) 2 20 (PP 20 2 (20 + 1 - 2))))), (a8, .inl (cy 1, 1830, .inl (lyF (fun _ => 0) 2 20 (PP 20 2 (20 + 1 - 2)))))] _ _ := w
  refine r_top (g2 := F0 m 6 ls [.int 1, .ref a0]) rfl ?_
  refine b_if_ne_t C (tgt := 13) dX12_isLeft_6 (by decide) (by decide) ?_
  refine lv_aload_n C.1 C.2.1 dX12_isLeft_13 rfl (lv_at hl 0 rfl) ?_
  refine lv_iload_n C.1 C.2.1 dX12_isLeft_14 rfl (lv_at hl 1 rfl) ?_
  refine r_callV C w fv_RX12_342 (c_X12_isBehind_0 l D cy a0 a1 a2 a3 a4 a5 a6 a7 a8 a9 a10 a11 a12 a13 a14 a15 a16 a17 x0 k2) (hl.1.trans hml.symm) [0, 1] [2, 3] (wr := [(a7, .inl (cy 1, 1830, .inl (lxF (fun _ => 0) 2 20 (PP 20 2 (20 + 1 - 2))))), (a8, .inl (cy 1, 1830, .inl (lyF (fun _ => 0) 2 20 (PP 20 2 (20 + 1 - 2)))))]) ⟨rfl, rfl, rfl, rfl, by decide⟩ 0 rfl rfl rfl rfl rfl ⟨Nat.le_of_ble_eq_true rfl, Nat.le_of_ble_eq_true rfl, Nat.le_of_ble_eq_true rfl⟩ 0 0 ⟨rfl, rfl, Nat.le_of_ble_eq_true rfl, Nat.le_of_ble_eq_true rfl⟩ dX12_isLeft_15 (fun u H locs hp w => ?_)
  have w : Wd D A s.heap [(a7, .inl (cy 1, 1830, .inl (lxF (fun _ => 0) 2 20 (PP 20 2 (20 + 1 - 2))))), (a8, .inl (cy 1, 1830, .inl (lyF (fun _ => 0) 2 20 (PP 20 2 (20 + 1 - 2))))), (a0, .inr (12, [.ref a1, .ref a2, .ref a3, .ref a4, .ref a5, .int 0, .ref a6, .int 0, .int 0, .int 0, .int 0, .int 0, .int 0, .int 0, .int 0, .int 0, .int 0, .int (-1), .ref a7, .ref a8, .int 190, .ref a9, .int 0, .ref a10, .ref a11, .ref a12, .ref a13, .ref a14, .int 0, .ref a15, .ref a16, .ref a17])), (a1, .inl (cy 1, 1868, .inl (upd (upd (upd (fun _ => 0) 1 2) 2 20) 3 120)))] _ _ := w
  refine r_top (g2 := F0 m 18 ls [.int 0, .ref a0]) rfl ?_
  refine b_if_eq_t C (tgt := 25) dX12_isLeft_18 (by decide) (by decide) ?_
  refine lv_iconst (v := 2) C.1 C.2.1 dX12_isLeft_25 (by decide) ?_
  refine r_put C w 2 rfl rfl 5 (by decide) fl_RX12_71 rfl (ty := .int) (tyX12_ok 5 (by decide)) rfl rfl (Nat.le_of_ble_eq_true rfl) [(a7, .inl (cy 1, 1830, .inl (lxF (fun _ => 0) 2 20 (PP 20 2 (20 + 1 - 2))))), (a8, .inl (cy 1, 1830, .inl (lyF (fun _ => 0) 2 20 (PP 20 2 (20 + 1 - 2))))), (a0, .inr (12, [.ref a1, .ref a2, .ref a3, .ref a4, .ref a5, .int 2, .ref a6, .int 0, .int 0, .int 0, .int 0, .int 0, .int 0, .int 0, .int 0, .int 0, .int 0, .int (-1), .ref a7, .ref a8, .int 190, .ref a9, .int 0, .ref a10, .ref a11, .ref a12, .ref a13, .ref a14, .int 0, .ref a15, .ref a16, .ref a17])), (a1, .inl (cy 1, 1868, .inl (upd (upd (upd (fun _ => 0) 1 2) 2 20) 3 120)))] rfl dX12_isLeft_26 (fun H locs w => ?_)
  refine lv_aload_n C.1 C.2.1 dX12_isLeft_29 rfl (lv_at hl 0 rfl) ?_
  refine r_get C w 2 rfl rfl 5 (by decide) fl_RX12_71 (v := .int 2) rfl dX12_isLeft_30 ?_
  refine b_if_le_f C (tgt := 38) dX12_isLeft_33 (by decide) (by decide) ?_
  refine lv_iconst (v := 0) C.1 C.2.1 dX12_isLeft_36 (by decide) ?_
  exact r_iret C w hlocks () hr rfl rfl trivial [0, 1, 2, 3] rfl rfl ⟨Nat.le_of_ble_eq_true rfl, Nat.le_of_ble_eq_true rfl⟩ dX12_isLeft_37
set_option maxRecDepth 100000 in
set_option maxHeartbeats 4000000 in
theorem c_X12_isLeft_3 (l : Launch) (D : va_G) (cy : Nat → ClassId) (a0 a1 a2 a3 a4 a5 a6 a7 a8 a9 a10 a11 a12 a13 a14 a15 a16 a17 : Nat) (x0 : Int32) (x1 : Int32) (k0 : ¬ x1 < 0) (k1 : ¬ 189 < x1) (k2 : ¬ x0 < 0) (k3 : 0 < x0) : Ct l D cy yX12_isLeft cX12_isLeft 3 (some .boolean) 2 46 0 0 [(a0, .inr (12, [.ref a1, .ref a2, .ref a3, .ref a4, .ref a5, .int 0, .ref a6, .int 0, .int 0, .int 0, .int 0, .int 0, .int 0, .int 0, .int 0, .int 0, .int 0, .int (-1), .ref a7, .ref a8, .int 0, .ref a9, .int 0, .ref a10, .ref a11, .ref a12, .ref a13, .ref a14, .int 0, .ref a15, .ref a16, .ref a17])), (a1, .inl (cy 1, 1868, .inl (upd (upd (upd (fun _ => 0) 1 2) 2 20) 3 120))), (a7, .inl (cy 1, 1830, .inl (fun _ => 0))), (a8, .inl (cy 1, 1830, .inl (fun _ => 0)))] [.ref a0, .int x0, .int x1] (fun u : Unit => some (.int 0)) (fun _ => True) (fun u : Unit => [(a7, .inl (cy 1, 1830, .inl (lxF (fun _ => 0) 2 20 (PP 20 2 (20 + 1 - 2))))), (a8, .inl (cy 1, 1830, .inl (lyF (fun _ => 0) 2 20 (PP 20 2 (20 + 1 - 2))))), (a0, .inr (12, [.ref a1, .ref a2, .ref a3, .ref a4, .ref a5, .int 2, .ref a6, .int 0, .int 0, .int 0, .int 0, .int 0, .int 0, .int 0, .int 0, .int 0, .int 0, .int (-1), .ref a7, .ref a8, .int 190, .ref a9, .int 0, .ref a10, .ref a11, .ref a12, .ref a13, .ref a14, .int 0, .ref a15, .ref a16, .ref a17])), (a1, .inl (cy 1, 1868, .inl (upd (upd (upd (fun _ => 0) 1 2) 2 20) 3 120)))]) := by
  refine Ct.of (by decide +kernel) (Nat.le_of_ble_eq_true rfl) ?_
  intro p e s m args below meth c A ls C hr hlocks hml hnm w hl
  have hl : lv_has ls 3 [(0, .ref a0), (1, .int x0), (2, .int x1)] := hl
  refine lv_aload_n C.1 C.2.1 dX12_isLeft_0 rfl (lv_at hl 0 rfl) ?_
  refine lv_aload_n C.1 C.2.1 dX12_isLeft_1 rfl (lv_at hl 0 rfl) ?_
  refine lv_iload_n C.1 C.2.1 dX12_isLeft_2 rfl (lv_at hl 2 rfl) ?_
  refine r_callV C w fv_RX12_256 (c_X12_isWorld_1 l D cy a0 a1 a2 a3 a4 a5 a6 a7 a8 a9 a10 a11 a12 a13 a14 a15 a16 a17 x1 k0 k1) (hl.1.trans hml.symm) [0, 1, 2, 3] [] (wr := []) ⟨rfl, rfl, rfl, rfl, by decide⟩ 0 rfl rfl rfl rfl rfl ⟨Nat.le_of_ble_eq_true rfl, Nat.le_of_ble_eq_true rfl, Nat.le_of_ble_eq_true rfl⟩ 0 0 ⟨rfl, rfl, Nat.le_of_ble_eq_true rfl, Nat.le_of_ble_eq_true rfl⟩ dX12_isLeft_3 (fun u H locs hp w => ?_)
  have w : Wd D A s.heap [(a0, .inr (12, [.ref a1, .ref a2, .ref a3, .ref a4, .ref a5, .int 0, .ref a6, .int 0, .int 0, .int 0, .int 0, .int 0, .int 0, .int 0, .int 0, .int 0, .int 0, .int (-1), .ref a7, .ref a8, .int 190, .ref a9, .int 0, .ref a10, .ref a11, .ref a12, .ref a13, .ref a14, .int 0, .ref a15, .ref a16, .ref a17])), (a1, .inl (cy 1, 1868, .inl (upd (upd (upd (fun _ => 0) 1 2) 2 20) 3 120))), (a7, .inl (cy 1, 1830, .inl (lxF (fun _ => 0) 2 20 (PP 20 2 (20 + 1 - 2))))), (a8, .inl (cy 1, 1830, .inl (lyF (fun _ => 0) 2 20 (PP 20 2 (20 + 1 - 2)))))] _ _ := w
  refine r_top (g2 := F0 m 6 ls [.int 1, .ref a0]) rfl ?_
  refine b_if_ne_t C (tgt := 13) dX12_isLeft_6 (by decide) (by decide) ?_
  refine lv_aload_n C.1 C.2.1 dX12_isLeft_13 rfl (lv_at hl 0 rfl) ?_
  refine lv_iload_n C.1 C.2.1 dX12_isLeft_14 rfl (lv_at hl 1 rfl) ?_
  refine r_callV C w fv_RX12_342 (c_X12_isBehind_2 l D cy a0 a1 a2 a3 a4 a5 a6 a7 a8 a9 a10 a11 a12 a13 a14 a15 a16 a17 x0 k2 k3) (hl.1.trans hml.symm) [0, 1] [2, 3] (wr := [(a7, .inl (cy 1, 1830, .inl (lxF (fun _ => 0) 2 20 (PP 20 2 (20 + 1 - 2))))), (a8, .inl (cy 1, 1830, .inl (lyF (fun _ => 0) 2 20 (PP 20 2 (20 + 1 - 2)))))]) ⟨rfl, rfl, rfl, rfl, by decide⟩ 0 rfl rfl rfl rfl rfl ⟨Nat.le_of_ble_eq_true rfl, Nat.le_of_ble_eq_true rfl, Nat.le_of_ble_eq_true rfl⟩ 0 0 ⟨rfl, rfl, Nat.le_of_ble_eq_true rfl, Nat.le_of_ble_eq_true rfl⟩ dX12_isLeft_15 (fun u H locs hp w => ?_)
  have w : Wd D A s.heap [(a7, .inl (cy 1, 1830, .inl (lxF (fun _ => 0) 2 20 (PP 20 2 (20 + 1 - 2))))), (a8, .inl (cy 1, 1830, .inl (lyF (fun _ => 0) 2 20 (PP 20 2 (20 + 1 - 2))))), (a0, .inr (12, [.ref a1, .ref a2, .ref a3, .ref a4, .ref a5, .int 0, .ref a6, .int 0, .int 0, .int 0, .int 0, .int 0, .int 0, .int 0, .int 0, .int 0, .int 0, .int (-1), .ref a7, .ref a8, .int 190, .ref a9, .int 0, .ref a10, .ref a11, .ref a12, .ref a13, .ref a14, .int 0, .ref a15, .ref a16, .ref a17])), (a1, .inl (cy 1, 1868, .inl (upd (upd (upd (fun _ => 0) 1 2) 2 20) 3 120)))] _ _ := w
  refine r_top (g2 := F0 m 18 ls [.int 0, .ref a0]) rfl ?_
  refine b_if_eq_t C (tgt := 25) dX12_isLeft_18 (by decide) (by decide) ?_
  refine lv_iconst (v := 2) C.1 C.2.1 dX12_isLeft_25 (by decide) ?_
  refine r_put C w 2 rfl rfl 5 (by decide) fl_RX12_71 rfl (ty := .int) (tyX12_ok 5 (by decide)) rfl rfl (Nat.le_of_ble_eq_true rfl) [(a7, .inl (cy 1, 1830, .inl (lxF (fun _ => 0) 2 20 (PP 20 2 (20 + 1 - 2))))), (a8, .inl (cy 1, 1830, .inl (lyF (fun _ => 0) 2 20 (PP 20 2 (20 + 1 - 2))))), (a0, .inr (12, [.ref a1, .ref a2, .ref a3, .ref a4, .ref a5, .int 2, .ref a6, .int 0, .int 0, .int 0, .int 0, .int 0, .int 0, .int 0, .int 0, .int 0, .int 0, .int (-1), .ref a7, .ref a8, .int 190, .ref a9, .int 0, .ref a10, .ref a11, .ref a12, .ref a13, .ref a14, .int 0, .ref a15, .ref a16, .ref a17])), (a1, .inl (cy 1, 1868, .inl (upd (upd (upd (fun _ => 0) 1 2) 2 20) 3 120)))] rfl dX12_isLeft_26 (fun H locs w => ?_)
  refine lv_aload_n C.1 C.2.1 dX12_isLeft_29 rfl (lv_at hl 0 rfl) ?_
  refine r_get C w 2 rfl rfl 5 (by decide) fl_RX12_71 (v := .int 2) rfl dX12_isLeft_30 ?_
  refine b_if_le_f C (tgt := 38) dX12_isLeft_33 (by decide) (by decide) ?_
  refine lv_iconst (v := 0) C.1 C.2.1 dX12_isLeft_36 (by decide) ?_
  exact r_iret C w hlocks () hr rfl rfl trivial [0, 1, 2, 3] rfl rfl ⟨Nat.le_of_ble_eq_true rfl, Nat.le_of_ble_eq_true rfl⟩ dX12_isLeft_37
set_option maxRecDepth 100000 in
set_option maxHeartbeats 4000000 in
theorem c_X12_isBehind_3 (l : Launch) (D : va_G) (cy : Nat → ClassId) (a0 a1 a2 a3 a4 a5 a6 a7 a8 a9 a10 a11 a12 a13 a14 a15 a16 a17 : Nat) : Ct l D cy yX12_isBehind cX12_isBehind 2 (some .boolean) 1 25 0 0 [(a0, .inr (12, [.ref a1, .ref a2, .ref a3, .ref a4, .ref a5, .int 0, .ref a6, .int 0, .int 0, .int 0, .int 0, .int 0, .int 0, .int 0, .int 0, .int 0, .int 0, .int (-1), .ref a7, .ref a8, .int 190, .ref a9, .int 0, .ref a10, .ref a11, .ref a12, .ref a13, .ref a14, .int 0, .ref a15, .ref a16, .ref a17])), (a1, .inl (cy 1, 1868, .inl (upd (upd (upd (fun _ => 0) 1 2) 2 20) 3 120)))] [.ref a0, .int 0] (fun u : Unit => some (.int 1)) (fun _ => True) (fun u : Unit => [(a0, .inr (12, [.ref a1, .ref a2, .ref a3, .ref a4, .ref a5, .int 0, .ref a6, .int 0, .int 0, .int 0, .int 0, .int 0, .int 0, .int 0, .int 0, .int 0, .int 0, .int (-1), .ref a7, .ref a8, .int 190, .ref a9, .int 0, .ref a10, .ref a11, .ref a12, .ref a13, .ref a14, .int 0, .ref a15, .ref a16, .ref a17])), (a1, .inl (cy 1, 1868, .inl (upd (upd (upd (fun _ => 0) 1 2) 2 20) 3 120)))]) := by
  refine Ct.of (by decide +kernel) (Nat.le_of_ble_eq_true rfl) ?_
  intro p e s m args below meth c A ls C hr hlocks hml hnm w hl
  have hl : lv_has ls 2 [(0, .ref a0), (1, .int 0)] := hl
  refine lv_iload_n C.1 C.2.1 dX12_isBehind_0 rfl (lv_at hl 1 rfl) ?_
  refine lv_i2l (v := 0) C.1 C.2.1 dX12_isBehind_1 (by decide) ?_
  refine lv_lconst (v := 0) C.1 C.2.1 dX12_isBehind_2 (by decide) ?_
  refine lv_aload_n C.1 C.2.1 dX12_isBehind_3 rfl (lv_at hl 0 rfl) ?_
  refine r_get C w 0 rfl rfl 0 (by decide) fl_RX12_9 (v := .ref a1) rfl dX12_isBehind_4 ?_
  refine lv_bipush (v := 6) C.1 C.2.1 dX12_isBehind_7 (by decide) ?_
  refine r_iald C w 1 rfl (v := 0) (vinD (by decide)) rfl dX12_isBehind_9 ?_
  refine lv_i2l (v := 0) C.1 C.2.1 dX12_isBehind_10 (by decide) ?_
  refine r_callS C w fs_RX12_133 (c_X12_within_3 l D cy) (hl.1.trans hml.symm) [] [0, 1] (wr := [(a0, .inr (12, [.ref a1, .ref a2, .ref a3, .ref a4, .ref a5, .int 0, .ref a6, .int 0, .int 0, .int 0, .int 0, .int 0, .int 0, .int 0, .int 0, .int 0, .int 0, .int (-1), .ref a7, .ref a8, .int 190, .ref a9, .int 0, .ref a10, .ref a11, .ref a12, .ref a13, .ref a14, .int 0, .ref a15, .ref a16, .ref a17])), (a1, .inl (cy 1, 1868, .inl (upd (upd (upd (fun _ => 0) 1 2) 2 20) 3 120)))]) ⟨rfl, rfl, rfl, rfl, by decide⟩ rfl rfl ⟨Nat.le_of_ble_eq_true rfl, Nat.le_of_ble_eq_true rfl, Nat.le_of_ble_eq_true rfl⟩ 0 0 ⟨rfl, rfl, Nat.le_of_ble_eq_true rfl, Nat.le_of_ble_eq_true rfl⟩ dX12_isBehind_11 (fun u H locs hp w => ?_)
  have w : Wd D A s.heap [(a0, .inr (12, [.ref a1, .ref a2, .ref a3, .ref a4, .ref a5, .int 0, .ref a6, .int 0, .int 0, .int 0, .int 0, .int 0, .int 0, .int 0, .int 0, .int 0, .int 0, .int (-1), .ref a7, .ref a8, .int 190, .ref a9, .int 0, .ref a10, .ref a11, .ref a12, .ref a13, .ref a14, .int 0, .ref a15, .ref a16, .ref a17])), (a1, .inl (cy 1, 1868, .inl (upd (upd (upd (fun _ => 0) 1 2) 2 20) 3 120)))] _ _ := w
  refine r_top (g2 := F0 m 14 ls [.int 1]) rfl ?_
  exact r_iret C w hlocks () hr rfl rfl trivial [0, 1] rfl rfl ⟨Nat.le_of_ble_eq_true rfl, Nat.le_of_ble_eq_true rfl⟩ dX12_isBehind_14
theorem dX12_isLeft_21 : decode cX12_isLeft 21 = .ok (.iconst 0, 1) := by decide +kernel
theorem dX12_isLeft_22 : decode cX12_isLeft 22 = .ok (.goto 4, 3) := by decide +kernel
theorem dX12_isLeft_38 : decode cX12_isLeft 38 = .ok (.aload_n 0, 1) := by decide +kernel
theorem dX12_isLeft_39 : decode cX12_isLeft 39 = .ok (.invokevirtual 330, 3) := by decide +kernel
set_option maxRecDepth 100000 in
set_option maxHeartbeats 4000000 in
theorem c_X12_layPairs_2 (l : Launch) (D : va_G) (cy : Nat → ClassId) (a0 a1 a2 a3 a4 a5 a6 a7 a8 a9 a10 a11 a12 a13 a14 a15 a16 a17 : Nat) : Ct l D cy yX12_layPairs cX12_layPairs 3 none 0 0 0 0 [(a0, .inr (12, [.ref a1, .ref a2, .ref a3, .ref a4, .ref a5, .int 0, .ref a6, .int 0, .int 0, .int 0, .int 0, .int 0, .int 0, .int 0, .int 0, .int 0, .int 0, .int (-1), .ref a7, .ref a8, .int 190, .ref a9, .int 0, .ref a10, .ref a11, .ref a12, .ref a13, .ref a14, .int 0, .ref a15, .ref a16, .ref a17])), (a1, .inl (cy 1, 1868, .inl (upd (upd (upd (fun _ => 0) 1 2) 2 20) 3 120))), (a7, .inl (cy 1, 1830, .inl (lxF (fun _ => 0) 2 20 (PP 20 2 (20 + 1 - 2))))), (a8, .inl (cy 1, 1830, .inl (lyF (fun _ => 0) 2 20 (PP 20 2 (20 + 1 - 2)))))] [.ref a0] (fun u : Unit => none) (fun _ => True) (fun u : Unit => [(a0, .inr (12, [.ref a1, .ref a2, .ref a3, .ref a4, .ref a5, .int 0, .ref a6, .int 0, .int 0, .int 0, .int 0, .int 0, .int 0, .int 0, .int 0, .int 0, .int 0, .int (-1), .ref a7, .ref a8, .int 190, .ref a9, .int 0, .ref a10, .ref a11, .ref a12, .ref a13, .ref a14, .int 0, .ref a15, .ref a16, .ref a17])), (a1, .inl (cy 1, 1868, .inl (upd (upd (upd (fun _ => 0) 1 2) 2 20) 3 120))), (a7, .inl (cy 1, 1830, .inl (lxF (lxF (fun _ => 0) 2 20 (PP 20 2 (20 + 1 - 2))) 2 20 (PP 20 2 (20 + 1 - 2))))), (a8, .inl (cy 1, 1830, .inl (lyF (lyF (fun _ => 0) 2 20 (PP 20 2 (20 + 1 - 2))) 2 20 (PP 20 2 (20 + 1 - 2)))))]) := by
  refine Ct.of (by decide +kernel) (Nat.le_of_ble_eq_true rfl) ?_
  intro p e s m args below meth c A ls C hr hlocks hml hnm w hl
  have hl : lv_has ls 3 [(0, .ref a0)] := hl
  refine lv_aload_n C.1 C.2.1 dX12_layPairs_0 rfl (lv_at hl 0 rfl) ?_
  refine lv_iconst (v := 0) C.1 C.2.1 dX12_layPairs_1 (by decide) ?_
  refine r_put C w 0 rfl rfl 20 (by decide) fl_RX12_250 rfl (ty := .int) (tyX12_ok 20 (by decide)) rfl rfl (Nat.le_of_ble_eq_true rfl) [(a0, .inr (12, [.ref a1, .ref a2, .ref a3, .ref a4, .ref a5, .int 0, .ref a6, .int 0, .int 0, .int 0, .int 0, .int 0, .int 0, .int 0, .int 0, .int 0, .int 0, .int (-1), .ref a7, .ref a8, .int 0, .ref a9, .int 0, .ref a10, .ref a11, .ref a12, .ref a13, .ref a14, .int 0, .ref a15, .ref a16, .ref a17])), (a1, .inl (cy 1, 1868, .inl (upd (upd (upd (fun _ => 0) 1 2) 2 20) 3 120))), (a7, .inl (cy 1, 1830, .inl (lxF (fun _ => 0) 2 20 (PP 20 2 (20 + 1 - 2))))), (a8, .inl (cy 1, 1830, .inl (lyF (fun _ => 0) 2 20 (PP 20 2 (20 + 1 - 2)))))] rfl dX12_layPairs_2 (fun H locs w => ?_)
  refine lv_aload_n C.1 C.2.1 dX12_layPairs_5 rfl (lv_at hl 0 rfl) ?_
  refine r_get C w 0 rfl rfl 0 (by decide) fl_RX12_9 (v := .ref a1) rfl dX12_layPairs_6 ?_
  refine lv_iconst (v := 1) C.1 C.2.1 dX12_layPairs_9 (by decide) ?_
  refine r_iald C w 1 rfl (v := 2) (vinD (by decide)) rfl dX12_layPairs_10 ?_
  refine lv_istore_n (lv' := [(1, .int 2), (0, .ref a0)]) C.1 C.2.1 dX12_layPairs_11 rfl hl (by decide) rfl (fun ls hl => ?_)
  refine lp_X12_layPairs_1 a0 a1 a2 a3 a4 a5 a6 a7 a8 a9 a10 a11 a12 a13 a14 a15 a16 a17 (lxF (fun _ => 0) 2 20 (PP 20 2 (20 + 1 - 2))) (lyF (fun _ => 0) 2 20 (PP 20 2 (20 + 1 - 2))) 2 20 2 20 (by decide) rfl rfl C hml (w.re rfl) (lv_sub hl [1, 0] rfl) (fun H locs ls pv em w hl => ?_)
  have em : pv = 190 := by rw [em]; decide +kernel
  subst em
  have w : Wd D A s.heap [(a0, .inr (12, [.ref a1, .ref a2, .ref a3, .ref a4, .ref a5, .int 0, .ref a6, .int 0, .int 0, .int 0, .int 0, .int 0, .int 0, .int 0, .int 0, .int 0, .int 0, .int (-1), .ref a7, .ref a8, .int 190, .ref a9, .int 0, .ref a10, .ref a11, .ref a12, .ref a13, .ref a14, .int 0, .ref a15, .ref a16, .ref a17])), (a1, .inl (cy 1, 1868, .inl (upd (upd (upd (fun _ => 0) 1 2) 2 20) 3 120))), (a7, .inl (cy 1, 1830, .inl (lxF (lxF (fun _ => 0) 2 20 (PP 20 2 (20 + 1 - 2))) 2 20 (PP 20 2 (20 + 1 - 2))))), (a8, .inl (cy 1, 1830, .inl (lyF (lyF (fun _ => 0) 2 20 (PP 20 2 (20 + 1 - 2))) 2 20 (PP 20 2 (20 + 1 - 2)))))] _ _ := w
  exact r_vret C w hlocks () hr rfl trivial [0, 1, 2, 3] rfl rfl ⟨Nat.le_of_ble_eq_true rfl, Nat.le_of_ble_eq_true rfl⟩ dX12_layPairs_95
set_option maxRecDepth 100000 in
set_option maxHeartbeats 4000000 in
theorem c_X12_puts_2 (l : Launch) (D : va_G) (cy : Nat → ClassId) (a0 a1 a2 a3 a4 a5 a6 a7 a8 a9 a10 a11 a12 a13 a14 a15 a16 a17 : Nat) (x0 : Int32) (x1 : Int32) (f0 : Nat → Int64) (k0 : ¬ x0 < 0) (k1 : x0 < 1830) : Ct l D cy yX12_puts cX12_puts 7 none 0 0 0 0 [(a0, .inr (12, [.ref a1, .ref a2, .ref a3, .ref a4, .ref a5, .int 0, .ref a6, .int 0, .int 0, .int 0, .int 0, .int 0, .int 0, .int 0, .int 0, .int 0, .int 0, .int (-1), .ref a7, .ref a8, .int x1, .ref a9, .int 0, .ref a10, .ref a11, .ref a12, .ref a13, .ref a14, .int 0, .ref a15, .ref a16, .ref a17])), (a9, .inl (cy 2, 2465, .inr (.inl f0)))] [.ref a0, .int 0, .int x0, .int 1] (fun u : Unit => none) (fun _ => True) (fun u : Unit => [(a0, .inr (12, [.ref a1, .ref a2, .ref a3, .ref a4, .ref a5, .int 0, .ref a6, .int 0, .int 0, .int 0, .int 0, .int 0, .int 0, .int 0, .int 0, .int 0, .int 0, .int (-1), .ref a7, .ref a8, .int x1, .ref a9, .int 0, .ref a10, .ref a11, .ref a12, .ref a13, .ref a14, .int 0, .ref a15, .ref a16, .ref a17])), (a9, .inl (cy 2, 2465, .inr (.inl (orW f0 x0))))]) := by
  refine Ct.of (by decide +kernel) (Nat.le_of_ble_eq_true rfl) ?_
  intro p e s m args below meth c A ls C hr hlocks hml hnm w hl
  have hl : lv_has ls 7 [(0, .ref a0), (1, .int 0), (2, .int x0), (3, .int 1)] := hl
  refine lv_bipush (v := 29) C.1 C.2.1 dX12_puts_0 (by decide) ?_
  refine lv_iload_n C.1 C.2.1 dX12_puts_2 rfl (lv_at hl 1 rfl) ?_
  refine r_imul C (v := 0) dX12_puts_3 (by decide) ?_
  refine lv_iload_n C.1 C.2.1 dX12_puts_4 rfl (lv_at hl 2 rfl) ?_
  refine lv_bipush (v := 6) C.1 C.2.1 dX12_puts_5 (by decide) ?_
  refine r_ishr C (v := (x0 >>> (6 &&& 31))) dX12_puts_7 rfl ?_
  refine r_iadd C (v := ((0 : Int32) + (x0 >>> (6 &&& 31)))) dX12_puts_8 rfl ?_
  refine lv_istore (lv' := [(4, .int ((0 : Int32) + (x0 >>> (6 &&& 31)))), (0, .ref a0), (1, .int 0), (2, .int x0), (3, .int 1)]) C.1 C.2.1 dX12_puts_9 hl (by decide) rfl (fun ls hl => ?_)
  refine lv_lconst (v := 1) C.1 C.2.1 dX12_puts_11 (by decide) ?_
  refine lv_iload_n C.1 C.2.1 dX12_puts_12 rfl (lv_at hl 3 rfl) ?_
  refine lv_bipush (v := 63) C.1 C.2.1 dX12_puts_13 (by decide) ?_
  refine r_iand C (v := (x0 &&& 63)) dX12_puts_15 rfl ?_
  refine lv_lshl (v := (1 <<< (Int32.toInt64 (x0 &&& 63) &&& 63))) C.1 C.2.1 dX12_puts_16 rfl ?_
  refine lv_lstore (lv' := [(5, .long (1 <<< (Int32.toInt64 (x0 &&& 63) &&& 63))), (4, .int ((0 : Int32) + (x0 >>> (6 &&& 31)))), (0, .ref a0), (1, .int 0), (2, .int x0), (3, .int 1)]) C.1 C.2.1 dX12_puts_17 hl (by decide) rfl (fun ls hl => ?_)
  refine lv_aload_n C.1 C.2.1 dX12_puts_19 rfl (lv_at hl 2 rfl) ?_
  refine r_get C w 0 rfl rfl 21 (by decide) fl_RX12_39 (v := .ref a9) rfl dX12_puts_20 ?_
  refine lv_iload C.1 C.2.1 dX12_puts_23 (lv_at hl 1 rfl) ?_
  refine lv_iload_n C.1 C.2.1 dX12_puts_25 rfl (lv_at hl 5 rfl) ?_
  refine b_if_eq_f C (tgt := 42) dX12_puts_26 (by decide) (by decide) ?_
  refine lv_aload_n C.1 C.2.1 dX12_puts_29 rfl (lv_at hl 2 rfl) ?_
  refine r_get C w 0 rfl rfl 21 (by decide) fl_RX12_39 (v := .ref a9) rfl dX12_puts_30 ?_
  refine lv_iload C.1 C.2.1 dX12_puts_33 (lv_at hl 1 rfl) ?_
  refine r_lald C w 1 rfl (v := (f0 ((0 : Int32) + (x0 >>> (6 &&& 31))).toNatClampNeg)) (plW_in k0 k1) rfl dX12_puts_35 ?_
  refine lv_lload C.1 C.2.1 dX12_puts_36 (lv_at hl 0 rfl) ?_
  refine r_lor C (v := ((f0 ((0 : Int32) + (x0 >>> (6 &&& 31))).toNatClampNeg) ||| (1 <<< (Int32.toInt64 (x0 &&& 63) &&& 63)))) dX12_puts_38 rfl ?_
  refine lv_goto (tgt := 56) C.1 C.2.1 dX12_puts_39 (by decide) ?_
  refine r_last C w 1 rfl (plW_in k0 k1) (orW f0 x0) rfl [(a0, .inr (12, [.ref a1, .ref a2, .ref a3, .ref a4, .ref a5, .int 0, .ref a6, .int 0, .int 0, .int 0, .int 0, .int 0, .int 0, .int 0, .int 0, .int 0, .int 0, .int (-1), .ref a7, .ref a8, .int x1, .ref a9, .int 0, .ref a10, .ref a11, .ref a12, .ref a13, .ref a14, .int 0, .ref a15, .ref a16, .ref a17])), (a9, .inl (cy 2, 2465, .inr (.inl (orW f0 x0))))] rfl dX12_puts_56 (fun H locs w => ?_)
  exact r_vret C w hlocks () hr rfl trivial [0, 1] rfl rfl ⟨Nat.le_of_ble_eq_true rfl, Nat.le_of_ble_eq_true rfl⟩ dX12_puts_57
set_option maxRecDepth 100000 in
set_option maxHeartbeats 4000000 in
theorem c_X12_fills_1 (l : Launch) (D : va_G) (cy : Nat → ClassId) (a0 a1 a2 a3 a4 a5 a6 a7 a8 a9 a10 a11 a12 a13 a14 a15 a16 a17 : Nat) : Ct l D cy yX12_fills cX12_fills 4 none 1 26 0 0 [(a0, .inr (12, [.ref a1, .ref a2, .ref a3, .ref a4, .ref a5, .int 0, .ref a6, .int 0, .int 0, .int 0, .int 0, .int 0, .int 0, .int 0, .int 0, .int 0, .int 0, .int (-1), .ref a7, .ref a8, .int 190, .ref a9, .int 0, .ref a10, .ref a11, .ref a12, .ref a13, .ref a14, .int 0, .ref a15, .ref a16, .ref a17])), (a9, .inl (cy 2, 2465, .inr (.inl (fun _ => 0))))] [.ref a0, .int 0, .int 1] (fun u : Unit => none) (fun _ => True) (fun u : Unit => [(a0, .inr (12, [.ref a1, .ref a2, .ref a3, .ref a4, .ref a5, .int 0, .ref a6, .int 0, .int 0, .int 0, .int 0, .int 0, .int 0, .int 0, .int 0, .int 0, .int 0, .int (-1), .ref a7, .ref a8, .int 190, .ref a9, .int 0, .ref a10, .ref a11, .ref a12, .ref a13, .ref a14, .int 0, .ref a15, .ref a16, .ref a17])), (a9, .inl (cy 2, 2465, .inr (.inl (rwF (fun _ => 0) (PP 20 2 (20 + 1 - 2))))))]) := by
  refine Ct.of (by decide +kernel) (Nat.le_of_ble_eq_true rfl) ?_
  intro p e s m args below meth c A ls C hr hlocks hml hnm w hl
  have hl : lv_has ls 4 [(0, .ref a0), (1, .int 0), (2, .int 1)] := hl
  refine lv_iconst (v := 0) C.1 C.2.1 dX12_fills_0 (by decide) ?_
  refine lv_istore_n (lv' := [(3, .int 0), (0, .ref a0), (1, .int 0), (2, .int 1)]) C.1 C.2.1 dX12_fills_1 rfl hl (by decide) rfl (fun ls hl => ?_)
  refine lp_X12_fills_1 a0 a1 a2 a3 a4 a5 a6 a7 a8 a9 a10 a11 a12 a13 a14 a15 a16 a17 (fun _ => 0) 190 (190) rfl (by decide) C hml (Nat.le_of_ble_eq_true rfl) (Nat.le_of_ble_eq_true rfl) ⟨Nat.le_of_ble_eq_true rfl, Nat.le_of_ble_eq_true rfl⟩ (w.re rfl) (lv_sub hl [1, 2, 3, 0] rfl) (fun H locs ls w hl => ?_)
  rw [show (190 : Nat) = PP 20 2 (20 + 1 - 2) from by decide +kernel] at w
  have w : Wd D A s.heap [(a0, .inr (12, [.ref a1, .ref a2, .ref a3, .ref a4, .ref a5, .int 0, .ref a6, .int 0, .int 0, .int 0, .int 0, .int 0, .int 0, .int 0, .int 0, .int 0, .int 0, .int (-1), .ref a7, .ref a8, .int 190, .ref a9, .int 0, .ref a10, .ref a11, .ref a12, .ref a13, .ref a14, .int 0, .ref a15, .ref a16, .ref a17])), (a9, .inl (cy 2, 2465, .inr (.inl (rwF (fun _ => 0) (PP 20 2 (20 + 1 - 2))))))] _ _ := w
  exact r_vret C w hlocks () hr rfl trivial [0, 1] rfl rfl ⟨Nat.le_of_ble_eq_true rfl, Nat.le_of_ble_eq_true rfl⟩ dX12_fills_23
set_option maxRecDepth 100000 in
set_option maxHeartbeats 4000000 in
theorem c_X12_lays_1 (l : Launch) (D : va_G) (cy : Nat → ClassId) (a0 a1 a2 a3 a4 a5 a6 a7 a8 a9 a10 a11 a12 a13 a14 a15 a16 a17 : Nat) : Ct l D cy yX12_lays cX12_lays 4 none 2 49 0 0 [(a0, .inr (12, [.ref a1, .ref a2, .ref a3, .ref a4, .ref a5, .int 0, .ref a6, .int 0, .int 0, .int 0, .int 0, .int 0, .int 0, .int 0, .int 0, .int 0, .int 0, .int (-1), .ref a7, .ref a8, .int 190, .ref a9, .int 0, .ref a10, .ref a11, .ref a12, .ref a13, .ref a14, .int 0, .ref a15, .ref a16, .ref a17])), (a1, .inl (cy 1, 1868, .inl (upd (upd (upd (fun _ => 0) 1 2) 2 20) 3 120))), (a7, .inl (cy 1, 1830, .inl (lxF (fun _ => 0) 2 20 (PP 20 2 (20 + 1 - 2))))), (a8, .inl (cy 1, 1830, .inl (lyF (fun _ => 0) 2 20 (PP 20 2 (20 + 1 - 2))))), (a9, .inl (cy 2, 2465, .inr (.inl (fun _ => 0))))] [.ref a0] (fun u : Unit => none) (fun _ => True) (fun u : Unit => [(a1, .inl (cy 1, 1868, .inl (upd (upd (upd (fun _ => 0) 1 2) 2 20) 3 120))), (a7, .inl (cy 1, 1830, .inl (lxF (lxF (fun _ => 0) 2 20 (PP 20 2 (20 + 1 - 2))) 2 20 (PP 20 2 (20 + 1 - 2))))), (a8, .inl (cy 1, 1830, .inl (lyF (lyF (fun _ => 0) 2 20 (PP 20 2 (20 + 1 - 2))) 2 20 (PP 20 2 (20 + 1 - 2))))), (a0, .inr (12, [.ref a1, .ref a2, .ref a3, .ref a4, .ref a5, .int 0, .ref a6, .int 0, .int 0, .int 0, .int 0, .int 0, .int 0, .int 0, .int 0, .int 0, .int 0, .int (-1), .ref a7, .ref a8, .int 190, .ref a9, .int 21, .ref a10, .ref a11, .ref a12, .ref a13, .ref a14, .int 0, .ref a15, .ref a16, .ref a17])), (a9, .inl (cy 2, 2465, .inr (.inl (rwF (fun _ => 0) (PP 20 2 (20 + 1 - 2))))))]) := by
  refine Ct.of (by decide +kernel) (Nat.le_of_ble_eq_true rfl) ?_
  intro p e s m args below meth c A ls C hr hlocks hml hnm w hl
  have hl : lv_has ls 4 [(0, .ref a0)] := hl
  refine lv_aload_n C.1 C.2.1 dX12_lays_0 rfl (lv_at hl 0 rfl) ?_
  refine r_callV C w fv_RX12_253 (c_X12_layPairs_2 l D cy a0 a1 a2 a3 a4 a5 a6 a7 a8 a9 a10 a11 a12 a13 a14 a15 a16 a17) (hl.1.trans hml.symm) [0, 1, 2, 3] [4] (wr := [(a9, .inl (cy 2, 2465, .inr (.inl (fun _ => 0))))]) ⟨rfl, rfl, rfl, rfl, by decide⟩ 0 rfl rfl rfl rfl rfl ⟨Nat.le_of_ble_eq_true rfl, Nat.le_of_ble_eq_true rfl, Nat.le_of_ble_eq_true rfl⟩ 0 0 ⟨rfl, rfl, Nat.le_of_ble_eq_true rfl, Nat.le_of_ble_eq_true rfl⟩ dX12_lays_1 (fun u H locs hp w => ?_)
  have w : Wd D A s.heap [(a9, .inl (cy 2, 2465, .inr (.inl (fun _ => 0)))), (a0, .inr (12, [.ref a1, .ref a2, .ref a3, .ref a4, .ref a5, .int 0, .ref a6, .int 0, .int 0, .int 0, .int 0, .int 0, .int 0, .int 0, .int 0, .int 0, .int 0, .int (-1), .ref a7, .ref a8, .int 190, .ref a9, .int 0, .ref a10, .ref a11, .ref a12, .ref a13, .ref a14, .int 0, .ref a15, .ref a16, .ref a17])), (a1, .inl (cy 1, 1868, .inl (upd (upd (upd (fun _ => 0) 1 2) 2 20) 3 120))), (a7, .inl (cy 1, 1830, .inl (lxF (lxF (fun _ => 0) 2 20 (PP 20 2 (20 + 1 - 2))) 2 20 (PP 20 2 (20 + 1 - 2))))), (a8, .inl (cy 1, 1830, .inl (lyF (lyF (fun _ => 0) 2 20 (PP 20 2 (20 + 1 - 2))) 2 20 (PP 20 2 (20 + 1 - 2)))))] _ _ := w
  refine r_top (g2 := F0 m 4 ls []) rfl ?_
  refine lv_aload_n C.1 C.2.1 dX12_lays_4 rfl (lv_at hl 0 rfl) ?_
  refine lv_iconst (v := 0) C.1 C.2.1 dX12_lays_5 (by decide) ?_
  refine lv_iconst (v := 1) C.1 C.2.1 dX12_lays_6 (by decide) ?_
  refine r_callV C w fv_RX12_323 (c_X12_fills_1 l D cy a0 a1 a2 a3 a4 a5 a6 a7 a8 a9 a10 a11 a12 a13 a14 a15 a16 a17) (hl.1.trans hml.symm) [1, 0] [2, 3, 4] (wr := [(a1, .inl (cy 1, 1868, .inl (upd (upd (upd (fun _ => 0) 1 2) 2 20) 3 120))), (a7, .inl (cy 1, 1830, .inl (lxF (lxF (fun _ => 0) 2 20 (PP 20 2 (20 + 1 - 2))) 2 20 (PP 20 2 (20 + 1 - 2))))), (a8, .inl (cy 1, 1830, .inl (lyF (lyF (fun _ => 0) 2 20 (PP 20 2 (20 + 1 - 2))) 2 20 (PP 20 2 (20 + 1 - 2)))))]) ⟨rfl, rfl, rfl, rfl, by decide⟩ 0 rfl rfl rfl rfl rfl ⟨Nat.le_of_ble_eq_true rfl, Nat.le_of_ble_eq_true rfl, Nat.le_of_ble_eq_true rfl⟩ 0 0 ⟨rfl, rfl, Nat.le_of_ble_eq_true rfl, Nat.le_of_ble_eq_true rfl⟩ dX12_lays_7 (fun u H locs hp w => ?_)
  have w : Wd D A s.heap [(a1, .inl (cy 1, 1868, .inl (upd (upd (upd (fun _ => 0) 1 2) 2 20) 3 120))), (a7, .inl (cy 1, 1830, .inl (lxF (lxF (fun _ => 0) 2 20 (PP 20 2 (20 + 1 - 2))) 2 20 (PP 20 2 (20 + 1 - 2))))), (a8, .inl (cy 1, 1830, .inl (lyF (lyF (fun _ => 0) 2 20 (PP 20 2 (20 + 1 - 2))) 2 20 (PP 20 2 (20 + 1 - 2))))), (a0, .inr (12, [.ref a1, .ref a2, .ref a3, .ref a4, .ref a5, .int 0, .ref a6, .int 0, .int 0, .int 0, .int 0, .int 0, .int 0, .int 0, .int 0, .int 0, .int 0, .int (-1), .ref a7, .ref a8, .int 190, .ref a9, .int 0, .ref a10, .ref a11, .ref a12, .ref a13, .ref a14, .int 0, .ref a15, .ref a16, .ref a17])), (a9, .inl (cy 2, 2465, .inr (.inl (rwF (fun _ => 0) (PP 20 2 (20 + 1 - 2))))))] _ _ := w
  refine r_top (g2 := F0 m 10 ls []) rfl ?_
  refine lv_iconst (v := 0) C.1 C.2.1 dX12_lays_10 (by decide) ?_
  refine lv_istore_n (lv' := [(1, .int 0), (0, .ref a0)]) C.1 C.2.1 dX12_lays_11 rfl hl (by decide) rfl (fun ls hl => ?_)
  refine lv_iload_n C.1 C.2.1 dX12_lays_12 rfl (lv_at hl 0 rfl) ?_
  refine lv_aload_n C.1 C.2.1 dX12_lays_13 rfl (lv_at hl 1 rfl) ?_
  refine r_get C w 3 rfl rfl 0 (by decide) fl_RX12_9 (v := .ref a1) rfl dX12_lays_14 ?_
  refine lv_bipush (v := 6) C.1 C.2.1 dX12_lays_17 (by decide) ?_
  refine r_iald C w 0 rfl (v := 0) (vinD (by decide)) rfl dX12_lays_19 ?_
  refine b_icmp_ge_t C (tgt := 88) dX12_lays_20 (by decide) (by decide) ?_
  refine lv_aload_n C.1 C.2.1 dX12_lays_88 rfl (lv_at hl 1 rfl) ?_
  refine lv_bipush (v := 21) C.1 C.2.1 dX12_lays_89 (by decide) ?_
  refine r_put C w 3 rfl rfl 22 (by decide) fl_RX12_297 rfl (ty := .int) (tyX12_ok 22 (by decide)) rfl rfl (Nat.le_of_ble_eq_true rfl) [(a1, .inl (cy 1, 1868, .inl (upd (upd (upd (fun _ => 0) 1 2) 2 20) 3 120))), (a7, .inl (cy 1, 1830, .inl (lxF (lxF (fun _ => 0) 2 20 (PP 20 2 (20 + 1 - 2))) 2 20 (PP 20 2 (20 + 1 - 2))))), (a8, .inl (cy 1, 1830, .inl (lyF (lyF (fun _ => 0) 2 20 (PP 20 2 (20 + 1 - 2))) 2 20 (PP 20 2 (20 + 1 - 2))))), (a0, .inr (12, [.ref a1, .ref a2, .ref a3, .ref a4, .ref a5, .int 0, .ref a6, .int 0, .int 0, .int 0, .int 0, .int 0, .int 0, .int 0, .int 0, .int 0, .int 0, .int (-1), .ref a7, .ref a8, .int 190, .ref a9, .int 21, .ref a10, .ref a11, .ref a12, .ref a13, .ref a14, .int 0, .ref a15, .ref a16, .ref a17])), (a9, .inl (cy 2, 2465, .inr (.inl (rwF (fun _ => 0) (PP 20 2 (20 + 1 - 2))))))] rfl dX12_lays_91 (fun H locs w => ?_)
  exact r_vret C w hlocks () hr rfl trivial [0, 1, 2, 3, 4] rfl rfl ⟨Nat.le_of_ble_eq_true rfl, Nat.le_of_ble_eq_true rfl⟩ dX12_lays_94
theorem dX12_isLeft_42 : decode cX12_isLeft 42 = .ok (.aload_n 0, 1) := by decide +kernel
theorem dX12_isLeft_43 : decode cX12_isLeft 43 = .ok (.iload_n 1, 1) := by decide +kernel
theorem dX12_isLeft_44 : decode cX12_isLeft 44 = .ok (.iload_n 2, 1) := by decide +kernel
theorem dX12_isLeft_45 : decode cX12_isLeft 45 = .ok (.invokevirtual 293, 3) := by decide +kernel
set_option maxRecDepth 100000 in
set_option maxHeartbeats 4000000 in
theorem c_X12_has_2 (l : Launch) (D : va_G) (cy : Nat → ClassId) (a0 a1 a2 a3 a4 a5 a6 a7 a8 a9 a10 a11 a12 a13 a14 a15 a16 a17 : Nat) (x0 : Int32) (f0 : Nat → Int64) (k0 : ¬ x0 < 0) (k1 : x0 < 1830) (hbit : bitW f0 x0 = 1) : Ct l D cy yX12_has cX12_has 3 (some .boolean) 0 0 0 0 [(a0, .inr (12, [.ref a1, .ref a2, .ref a3, .ref a4, .ref a5, .int 0, .ref a6, .int 0, .int 0, .int 0, .int 0, .int 0, .int 0, .int 0, .int 0, .int 0, .int 0, .int (-1), .ref a7, .ref a8, .int 190, .ref a9, .int 21, .ref a10, .ref a11, .ref a12, .ref a13, .ref a14, .int 0, .ref a15, .ref a16, .ref a17])), (a9, .inl (cy 2, 2465, .inr (.inl f0)))] [.ref a0, .int 0, .int x0] (fun u : Unit => some (.int 1)) (fun _ => True) (fun u : Unit => [(a0, .inr (12, [.ref a1, .ref a2, .ref a3, .ref a4, .ref a5, .int 0, .ref a6, .int 0, .int 0, .int 0, .int 0, .int 0, .int 0, .int 0, .int 0, .int 0, .int 0, .int (-1), .ref a7, .ref a8, .int 190, .ref a9, .int 21, .ref a10, .ref a11, .ref a12, .ref a13, .ref a14, .int 0, .ref a15, .ref a16, .ref a17])), (a9, .inl (cy 2, 2465, .inr (.inl f0)))]) := by
  refine Ct.of (by decide +kernel) (Nat.le_of_ble_eq_true rfl) ?_
  intro p e s m args below meth c A ls C hr hlocks hml hnm w hl
  have hl : lv_has ls 3 [(0, .ref a0), (1, .int 0), (2, .int x0)] := hl
  refine lv_aload_n C.1 C.2.1 dX12_has_0 rfl (lv_at hl 0 rfl) ?_
  refine r_get C w 0 rfl rfl 21 (by decide) fl_RX12_39 (v := .ref a9) rfl dX12_has_1 ?_
  refine lv_bipush (v := 29) C.1 C.2.1 dX12_has_4 (by decide) ?_
  refine lv_iload_n C.1 C.2.1 dX12_has_6 rfl (lv_at hl 1 rfl) ?_
  refine r_imul C (v := 0) dX12_has_7 (by decide) ?_
  refine lv_iload_n C.1 C.2.1 dX12_has_8 rfl (lv_at hl 2 rfl) ?_
  refine lv_bipush (v := 6) C.1 C.2.1 dX12_has_9 (by decide) ?_
  refine r_ishr C (v := (x0 >>> (6 &&& 31))) dX12_has_11 rfl ?_
  refine r_iadd C (v := ((0 : Int32) + (x0 >>> (6 &&& 31)))) dX12_has_12 rfl ?_
  refine r_lald C w 1 rfl (v := (f0 ((0 : Int32) + (x0 >>> (6 &&& 31))).toNatClampNeg)) (plW_in k0 k1) rfl dX12_has_13 ?_
  refine lv_iload_n C.1 C.2.1 dX12_has_14 rfl (lv_at hl 2 rfl) ?_
  refine lv_bipush (v := 63) C.1 C.2.1 dX12_has_15 (by decide) ?_
  refine r_iand C (v := (x0 &&& 63)) dX12_has_17 rfl ?_
  refine lv_lshr (v := ((f0 ((0 : Int32) + (x0 >>> (6 &&& 31))).toNatClampNeg) >>> (Int32.toInt64 (x0 &&& 63) &&& 63))) C.1 C.2.1 dX12_has_18 rfl ?_
  refine lv_lconst (v := 1) C.1 C.2.1 dX12_has_19 (by decide) ?_
  refine r_land C (v := (((f0 ((0 : Int32) + (x0 >>> (6 &&& 31))).toNatClampNeg) >>> (Int32.toInt64 (x0 &&& 63) &&& 63)) &&& 1)) dX12_has_20 rfl ?_
  refine lv_lconst (v := 1) C.1 C.2.1 dX12_has_21 (by decide) ?_
  refine r_lcmp C (v := 0) dX12_has_22 (lgc_1 hbit) ?_
  refine b_if_ne_f C (tgt := 30) dX12_has_23 (by decide) (by decide) ?_
  refine lv_iconst (v := 1) C.1 C.2.1 dX12_has_26 (by decide) ?_
  refine lv_goto (tgt := 31) C.1 C.2.1 dX12_has_27 (by decide) ?_
  exact r_iret C w hlocks () hr rfl rfl trivial [0, 1] rfl rfl ⟨Nat.le_of_ble_eq_true rfl, Nat.le_of_ble_eq_true rfl⟩ dX12_has_31
theorem dX12_isLeft_48 : decode cX12_isLeft 48 = .ok (.ireturn, 1) := by decide +kernel
set_option maxRecDepth 100000 in
set_option maxHeartbeats 4000000 in
theorem c_X12_isLeft_4 (l : Launch) (D : va_G) (cy : Nat → ClassId) (a0 a1 a2 a3 a4 a5 a6 a7 a8 a9 a10 a11 a12 a13 a14 a15 a16 a17 : Nat) (x1 : Int32) (k0 : ¬ x1 < 0) (k1 : ¬ 189 < x1) : Ct l D cy yX12_isLeft cX12_isLeft 3 (some .boolean) 3 72 0 0 [(a0, .inr (12, [.ref a1, .ref a2, .ref a3, .ref a4, .ref a5, .int 0, .ref a6, .int 0, .int 0, .int 0, .int 0, .int 0, .int 0, .int 0, .int 0, .int 0, .int 0, .int (-1), .ref a7, .ref a8, .int 0, .ref a9, .int 0, .ref a10, .ref a11, .ref a12, .ref a13, .ref a14, .int 0, .ref a15, .ref a16, .ref a17])), (a1, .inl (cy 1, 1868, .inl (upd (upd (upd (fun _ => 0) 1 2) 2 20) 3 120))), (a7, .inl (cy 1, 1830, .inl (fun _ => 0))), (a8, .inl (cy 1, 1830, .inl (fun _ => 0))), (a9, .inl (cy 2, 2465, .inr (.inl (fun _ => 0))))] [.ref a0, .int 0, .int x1] (fun u : Unit => some (.int 1)) (fun _ => True) (fun u : Unit => [(a1, .inl (cy 1, 1868, .inl (upd (upd (upd (fun _ => 0) 1 2) 2 20) 3 120))), (a7, .inl (cy 1, 1830, .inl (lxF (lxF (fun _ => 0) 2 20 (PP 20 2 (20 + 1 - 2))) 2 20 (PP 20 2 (20 + 1 - 2))))), (a8, .inl (cy 1, 1830, .inl (lyF (lyF (fun _ => 0) 2 20 (PP 20 2 (20 + 1 - 2))) 2 20 (PP 20 2 (20 + 1 - 2))))), (a0, .inr (12, [.ref a1, .ref a2, .ref a3, .ref a4, .ref a5, .int 0, .ref a6, .int 0, .int 0, .int 0, .int 0, .int 0, .int 0, .int 0, .int 0, .int 0, .int 0, .int (-1), .ref a7, .ref a8, .int 190, .ref a9, .int 21, .ref a10, .ref a11, .ref a12, .ref a13, .ref a14, .int 0, .ref a15, .ref a16, .ref a17])), (a9, .inl (cy 2, 2465, .inr (.inl (rwF (fun _ => 0) (PP 20 2 (20 + 1 - 2))))))]) := by
  refine Ct.of (by decide +kernel) (Nat.le_of_ble_eq_true rfl) ?_
  intro p e s m args below meth c A ls C hr hlocks hml hnm w hl
  have hl : lv_has ls 3 [(0, .ref a0), (1, .int 0), (2, .int x1)] := hl
  refine lv_aload_n C.1 C.2.1 dX12_isLeft_0 rfl (lv_at hl 0 rfl) ?_
  refine lv_aload_n C.1 C.2.1 dX12_isLeft_1 rfl (lv_at hl 0 rfl) ?_
  refine lv_iload_n C.1 C.2.1 dX12_isLeft_2 rfl (lv_at hl 2 rfl) ?_
  refine r_callV C w fv_RX12_256 (c_X12_isWorld_1 l D cy a0 a1 a2 a3 a4 a5 a6 a7 a8 a9 a10 a11 a12 a13 a14 a15 a16 a17 x1 k0 k1) (hl.1.trans hml.symm) [0, 1, 2, 3] [4] (wr := [(a9, .inl (cy 2, 2465, .inr (.inl (fun _ => 0))))]) ⟨rfl, rfl, rfl, rfl, by decide⟩ 0 rfl rfl rfl rfl rfl ⟨Nat.le_of_ble_eq_true rfl, Nat.le_of_ble_eq_true rfl, Nat.le_of_ble_eq_true rfl⟩ 0 0 ⟨rfl, rfl, Nat.le_of_ble_eq_true rfl, Nat.le_of_ble_eq_true rfl⟩ dX12_isLeft_3 (fun u H locs hp w => ?_)
  have w : Wd D A s.heap [(a9, .inl (cy 2, 2465, .inr (.inl (fun _ => 0)))), (a0, .inr (12, [.ref a1, .ref a2, .ref a3, .ref a4, .ref a5, .int 0, .ref a6, .int 0, .int 0, .int 0, .int 0, .int 0, .int 0, .int 0, .int 0, .int 0, .int 0, .int (-1), .ref a7, .ref a8, .int 190, .ref a9, .int 0, .ref a10, .ref a11, .ref a12, .ref a13, .ref a14, .int 0, .ref a15, .ref a16, .ref a17])), (a1, .inl (cy 1, 1868, .inl (upd (upd (upd (fun _ => 0) 1 2) 2 20) 3 120))), (a7, .inl (cy 1, 1830, .inl (lxF (fun _ => 0) 2 20 (PP 20 2 (20 + 1 - 2))))), (a8, .inl (cy 1, 1830, .inl (lyF (fun _ => 0) 2 20 (PP 20 2 (20 + 1 - 2)))))] _ _ := w
  refine r_top (g2 := F0 m 6 ls [.int 1, .ref a0]) rfl ?_
  refine b_if_ne_t C (tgt := 13) dX12_isLeft_6 (by decide) (by decide) ?_
  refine lv_aload_n C.1 C.2.1 dX12_isLeft_13 rfl (lv_at hl 0 rfl) ?_
  refine lv_iload_n C.1 C.2.1 dX12_isLeft_14 rfl (lv_at hl 1 rfl) ?_
  refine r_callV C w fv_RX12_342 (c_X12_isBehind_3 l D cy a0 a1 a2 a3 a4 a5 a6 a7 a8 a9 a10 a11 a12 a13 a14 a15 a16 a17) (hl.1.trans hml.symm) [1, 2] [0, 3, 4] (wr := [(a9, .inl (cy 2, 2465, .inr (.inl (fun _ => 0)))), (a7, .inl (cy 1, 1830, .inl (lxF (fun _ => 0) 2 20 (PP 20 2 (20 + 1 - 2))))), (a8, .inl (cy 1, 1830, .inl (lyF (fun _ => 0) 2 20 (PP 20 2 (20 + 1 - 2)))))]) ⟨rfl, rfl, rfl, rfl, by decide⟩ 0 rfl rfl rfl rfl rfl ⟨Nat.le_of_ble_eq_true rfl, Nat.le_of_ble_eq_true rfl, Nat.le_of_ble_eq_true rfl⟩ 0 0 ⟨rfl, rfl, Nat.le_of_ble_eq_true rfl, Nat.le_of_ble_eq_true rfl⟩ dX12_isLeft_15 (fun u H locs hp w => ?_)
  have w : Wd D A s.heap [(a9, .inl (cy 2, 2465, .inr (.inl (fun _ => 0)))), (a7, .inl (cy 1, 1830, .inl (lxF (fun _ => 0) 2 20 (PP 20 2 (20 + 1 - 2))))), (a8, .inl (cy 1, 1830, .inl (lyF (fun _ => 0) 2 20 (PP 20 2 (20 + 1 - 2))))), (a0, .inr (12, [.ref a1, .ref a2, .ref a3, .ref a4, .ref a5, .int 0, .ref a6, .int 0, .int 0, .int 0, .int 0, .int 0, .int 0, .int 0, .int 0, .int 0, .int 0, .int (-1), .ref a7, .ref a8, .int 190, .ref a9, .int 0, .ref a10, .ref a11, .ref a12, .ref a13, .ref a14, .int 0, .ref a15, .ref a16, .ref a17])), (a1, .inl (cy 1, 1868, .inl (upd (upd (upd (fun _ => 0) 1 2) 2 20) 3 120)))] _ _ := w
  refine r_top (g2 := F0 m 18 ls [.int 1, .ref a0]) rfl ?_
  refine b_if_eq_f C (tgt := 25) dX12_isLeft_18 (by decide) (by decide) ?_
  refine lv_iconst (v := 0) C.1 C.2.1 dX12_isLeft_21 (by decide) ?_
  refine lv_goto (tgt := 26) C.1 C.2.1 dX12_isLeft_22 (by decide) ?_
  refine r_put C w 3 rfl rfl 5 (by decide) fl_RX12_71 rfl (ty := .int) (tyX12_ok 5 (by decide)) rfl rfl (Nat.le_of_ble_eq_true rfl) [(a9, .inl (cy 2, 2465, .inr (.inl (fun _ => 0)))), (a7, .inl (cy 1, 1830, .inl (lxF (fun _ => 0) 2 20 (PP 20 2 (20 + 1 - 2))))), (a8, .inl (cy 1, 1830, .inl (lyF (fun _ => 0) 2 20 (PP 20 2 (20 + 1 - 2))))), (a0, .inr (12, [.ref a1, .ref a2, .ref a3, .ref a4, .ref a5, .int 0, .ref a6, .int 0, .int 0, .int 0, .int 0, .int 0, .int 0, .int 0, .int 0, .int 0, .int 0, .int (-1), .ref a7, .ref a8, .int 190, .ref a9, .int 0, .ref a10, .ref a11, .ref a12, .ref a13, .ref a14, .int 0, .ref a15, .ref a16, .ref a17])), (a1, .inl (cy 1, 1868, .inl (upd (upd (upd (fun _ => 0) 1 2) 2 20) 3 120)))] rfl dX12_isLeft_26 (fun H locs w => ?_)
  refine lv_aload_n C.1 C.2.1 dX12_isLeft_29 rfl (lv_at hl 0 rfl) ?_
  refine r_get C w 3 rfl rfl 5 (by decide) fl_RX12_71 (v := .int 0) rfl dX12_isLeft_30 ?_
  refine b_if_le_t C (tgt := 38) dX12_isLeft_33 (by decide) (by decide) ?_
  refine lv_aload_n C.1 C.2.1 dX12_isLeft_38 rfl (lv_at hl 0 rfl) ?_
  refine r_callV C w fv_RX12_330 (c_X12_lays_1 l D cy a0 a1 a2 a3 a4 a5 a6 a7 a8 a9 a10 a11 a12 a13 a14 a15 a16 a17) (hl.1.trans hml.symm) [3, 4, 1, 2, 0] [] (wr := []) ⟨rfl, rfl, rfl, rfl, by decide⟩ 0 rfl rfl rfl rfl rfl ⟨Nat.le_of_ble_eq_true rfl, Nat.le_of_ble_eq_true rfl, Nat.le_of_ble_eq_true rfl⟩ 0 0 ⟨rfl, rfl, Nat.le_of_ble_eq_true rfl, Nat.le_of_ble_eq_true rfl⟩ dX12_isLeft_39 (fun u H locs hp w => ?_)
  have w : Wd D A s.heap [(a1, .inl (cy 1, 1868, .inl (upd (upd (upd (fun _ => 0) 1 2) 2 20) 3 120))), (a7, .inl (cy 1, 1830, .inl (lxF (lxF (fun _ => 0) 2 20 (PP 20 2 (20 + 1 - 2))) 2 20 (PP 20 2 (20 + 1 - 2))))), (a8, .inl (cy 1, 1830, .inl (lyF (lyF (fun _ => 0) 2 20 (PP 20 2 (20 + 1 - 2))) 2 20 (PP 20 2 (20 + 1 - 2))))), (a0, .inr (12, [.ref a1, .ref a2, .ref a3, .ref a4, .ref a5, .int 0, .ref a6, .int 0, .int 0, .int 0, .int 0, .int 0, .int 0, .int 0, .int 0, .int 0, .int 0, .int (-1), .ref a7, .ref a8, .int 190, .ref a9, .int 21, .ref a10, .ref a11, .ref a12, .ref a13, .ref a14, .int 0, .ref a15, .ref a16, .ref a17])), (a9, .inl (cy 2, 2465, .inr (.inl (rwF (fun _ => 0) (PP 20 2 (20 + 1 - 2))))))] _ _ := w
  refine r_top (g2 := F0 m 42 ls []) rfl ?_
  refine lv_aload_n C.1 C.2.1 dX12_isLeft_42 rfl (lv_at hl 0 rfl) ?_
  refine lv_iload_n C.1 C.2.1 dX12_isLeft_43 rfl (lv_at hl 1 rfl) ?_
  refine lv_iload_n C.1 C.2.1 dX12_isLeft_44 rfl (lv_at hl 2 rfl) ?_
  refine r_callV C w fv_RX12_293 (c_X12_has_2 l D cy a0 a1 a2 a3 a4 a5 a6 a7 a8 a9 a10 a11 a12 a13 a14 a15 a16 a17 x1 (rwF (fun _ => 0) (PP 20 2 (20 + 1 - 2))) k0 (by have h0 := (i_nlt k0); have h1 := (i_nlt k1); have e0 : (0 : Int32).toInt = 0 := (by decide); have e1 : (189 : Int32).toInt = 189 := (by decide); have e2 : (1830 : Int32).toInt = 1830 := (by decide); rw [fa_lt]; omega) (bitW_w _ k0 (by have h0 := (i_nlt k0); have h1 := (i_nlt k1); have e0 : (0 : Int32).toInt = 0 := (by decide); have e1 : (189 : Int32).toInt = 189 := (by decide); have e2 : (190 : Int32).toInt = 190 := (by decide); rw [fa_lt]; omega))) (hl.1.trans hml.symm) [3, 4] [0, 1, 2] (wr := [(a1, .inl (cy 1, 1868, .inl (upd (upd (upd (fun _ => 0) 1 2) 2 20) 3 120))), (a7, .inl (cy 1, 1830, .inl (lxF (lxF (fun _ => 0) 2 20 (PP 20 2 (20 + 1 - 2))) 2 20 (PP 20 2 (20 + 1 - 2))))), (a8, .inl (cy 1, 1830, .inl (lyF (lyF (fun _ => 0) 2 20 (PP 20 2 (20 + 1 - 2))) 2 20 (PP 20 2 (20 + 1 - 2)))))]) ⟨rfl, rfl, rfl, rfl, by decide⟩ 0 rfl rfl rfl rfl rfl ⟨Nat.le_of_ble_eq_true rfl, Nat.le_of_ble_eq_true rfl, Nat.le_of_ble_eq_true rfl⟩ 0 0 ⟨rfl, rfl, Nat.le_of_ble_eq_true rfl, Nat.le_of_ble_eq_true rfl⟩ dX12_isLeft_45 (fun u H locs hp w => ?_)
  have w : Wd D A s.heap [(a1, .inl (cy 1, 1868, .inl (upd (upd (upd (fun _ => 0) 1 2) 2 20) 3 120))), (a7, .inl (cy 1, 1830, .inl (lxF (lxF (fun _ => 0) 2 20 (PP 20 2 (20 + 1 - 2))) 2 20 (PP 20 2 (20 + 1 - 2))))), (a8, .inl (cy 1, 1830, .inl (lyF (lyF (fun _ => 0) 2 20 (PP 20 2 (20 + 1 - 2))) 2 20 (PP 20 2 (20 + 1 - 2))))), (a0, .inr (12, [.ref a1, .ref a2, .ref a3, .ref a4, .ref a5, .int 0, .ref a6, .int 0, .int 0, .int 0, .int 0, .int 0, .int 0, .int 0, .int 0, .int 0, .int 0, .int (-1), .ref a7, .ref a8, .int 190, .ref a9, .int 21, .ref a10, .ref a11, .ref a12, .ref a13, .ref a14, .int 0, .ref a15, .ref a16, .ref a17])), (a9, .inl (cy 2, 2465, .inr (.inl (rwF (fun _ => 0) (PP 20 2 (20 + 1 - 2))))))] _ _ := w
  refine r_top (g2 := F0 m 48 ls [.int 1]) rfl ?_
  exact r_iret C w hlocks () hr rfl rfl trivial [0, 1, 2, 3, 4] rfl rfl ⟨Nat.le_of_ble_eq_true rfl, Nat.le_of_ble_eq_true rfl⟩ dX12_isLeft_48
theorem dX12_left_0 : decode cX12_left 0 = .ok (.aload_n 0, 1) := by decide +kernel
theorem dX12_left_1 : decode cX12_left 1 = .ok (.iconst 0, 1) := by decide +kernel
theorem dX12_left_2 : decode cX12_left 2 = .ok (.putfield 71, 3) := by decide +kernel
theorem dX12_left_5 : decode cX12_left 5 = .ok (.aload_n 0, 1) := by decide +kernel
theorem dX12_left_6 : decode cX12_left 6 = .ok (.iload_n 1, 1) := by decide +kernel
theorem dX12_left_7 : decode cX12_left 7 = .ok (.invokevirtual 342, 3) := by decide +kernel
set_option maxRecDepth 100000 in
set_option maxHeartbeats 4000000 in
theorem c_X12_isBehind_4 (l : Launch) (D : va_G) (cy : Nat → ClassId) (a0 a1 a2 a3 a4 a5 a6 a7 a8 a9 a10 a11 a12 a13 a14 a15 a16 a17 : Nat) (x0 : Int32) (k0 : x0 < 0) : Ct l D cy yX12_isBehind cX12_isBehind 2 (some .boolean) 1 25 0 0 [(a0, .inr (12, [.ref a1, .ref a2, .ref a3, .ref a4, .ref a5, .int 0, .ref a6, .int 0, .int 0, .int 0, .int 0, .int 0, .int 0, .int 0, .int 0, .int 0, .int 0, .int (-1), .ref a7, .ref a8, .int 0, .ref a9, .int 0, .ref a10, .ref a11, .ref a12, .ref a13, .ref a14, .int 0, .ref a15, .ref a16, .ref a17])), (a1, .inl (cy 1, 1868, .inl (upd (upd (upd (fun _ => 0) 1 2) 2 20) 3 120)))] [.ref a0, .int x0] (fun u : Unit => some (.int 0)) (fun _ => True) (fun u : Unit => [(a0, .inr (12, [.ref a1, .ref a2, .ref a3, .ref a4, .ref a5, .int 0, .ref a6, .int 0, .int 0, .int 0, .int 0, .int 0, .int 0, .int 0, .int 0, .int 0, .int 0, .int (-1), .ref a7, .ref a8, .int 0, .ref a9, .int 0, .ref a10, .ref a11, .ref a12, .ref a13, .ref a14, .int 0, .ref a15, .ref a16, .ref a17])), (a1, .inl (cy 1, 1868, .inl (upd (upd (upd (fun _ => 0) 1 2) 2 20) 3 120)))]) := by
  refine Ct.of (by decide +kernel) (Nat.le_of_ble_eq_true rfl) ?_
  intro p e s m args below meth c A ls C hr hlocks hml hnm w hl
  have hl : lv_has ls 2 [(0, .ref a0), (1, .int x0)] := hl
  refine lv_iload_n C.1 C.2.1 dX12_isBehind_0 rfl (lv_at hl 1 rfl) ?_
  refine lv_i2l (v := (Int32.toInt64 x0)) C.1 C.2.1 dX12_isBehind_1 rfl ?_
  refine lv_lconst (v := 0) C.1 C.2.1 dX12_isBehind_2 (by decide) ?_
  refine lv_aload_n C.1 C.2.1 dX12_isBehind_3 rfl (lv_at hl 0 rfl) ?_
  refine r_get C w 0 rfl rfl 0 (by decide) fl_RX12_9 (v := .ref a1) rfl dX12_isBehind_4 ?_
  refine lv_bipush (v := 6) C.1 C.2.1 dX12_isBehind_7 (by decide) ?_
  refine r_iald C w 1 rfl (v := 0) (vinD (by decide)) rfl dX12_isBehind_9 ?_
  refine lv_i2l (v := 0) C.1 C.2.1 dX12_isBehind_10 (by decide) ?_
  refine r_callS C w fs_RX12_133 (c_X12_within_0 l D cy x0 k0) (hl.1.trans hml.symm) [] [0, 1] (wr := [(a0, .inr (12, [.ref a1, .ref a2, .ref a3, .ref a4, .ref a5, .int 0, .ref a6, .int 0, .int 0, .int 0, .int 0, .int 0, .int 0, .int 0, .int 0, .int 0, .int 0, .int (-1), .ref a7, .ref a8, .int 0, .ref a9, .int 0, .ref a10, .ref a11, .ref a12, .ref a13, .ref a14, .int 0, .ref a15, .ref a16, .ref a17])), (a1, .inl (cy 1, 1868, .inl (upd (upd (upd (fun _ => 0) 1 2) 2 20) 3 120)))]) ⟨rfl, rfl, rfl, rfl, by decide⟩ rfl rfl ⟨Nat.le_of_ble_eq_true rfl, Nat.le_of_ble_eq_true rfl, Nat.le_of_ble_eq_true rfl⟩ 0 0 ⟨rfl, rfl, Nat.le_of_ble_eq_true rfl, Nat.le_of_ble_eq_true rfl⟩ dX12_isBehind_11 (fun u H locs hp w => ?_)
  have w : Wd D A s.heap [(a0, .inr (12, [.ref a1, .ref a2, .ref a3, .ref a4, .ref a5, .int 0, .ref a6, .int 0, .int 0, .int 0, .int 0, .int 0, .int 0, .int 0, .int 0, .int 0, .int 0, .int (-1), .ref a7, .ref a8, .int 0, .ref a9, .int 0, .ref a10, .ref a11, .ref a12, .ref a13, .ref a14, .int 0, .ref a15, .ref a16, .ref a17])), (a1, .inl (cy 1, 1868, .inl (upd (upd (upd (fun _ => 0) 1 2) 2 20) 3 120)))] _ _ := w
  refine r_top (g2 := F0 m 14 ls [.int 0]) rfl ?_
  exact r_iret C w hlocks () hr rfl rfl trivial [0, 1] rfl rfl ⟨Nat.le_of_ble_eq_true rfl, Nat.le_of_ble_eq_true rfl⟩ dX12_isBehind_14
set_option maxRecDepth 100000 in
set_option maxHeartbeats 4000000 in
theorem c_X12_isBehind_5 (l : Launch) (D : va_G) (cy : Nat → ClassId) (a0 a1 a2 a3 a4 a5 a6 a7 a8 a9 a10 a11 a12 a13 a14 a15 a16 a17 : Nat) : Ct l D cy yX12_isBehind cX12_isBehind 2 (some .boolean) 1 25 0 0 [(a0, .inr (12, [.ref a1, .ref a2, .ref a3, .ref a4, .ref a5, .int 0, .ref a6, .int 0, .int 0, .int 0, .int 0, .int 0, .int 0, .int 0, .int 0, .int 0, .int 0, .int (-1), .ref a7, .ref a8, .int 0, .ref a9, .int 0, .ref a10, .ref a11, .ref a12, .ref a13, .ref a14, .int 0, .ref a15, .ref a16, .ref a17])), (a1, .inl (cy 1, 1868, .inl (upd (upd (upd (fun _ => 0) 1 2) 2 20) 3 120)))] [.ref a0, .int 0] (fun u : Unit => some (.int 1)) (fun _ => True) (fun u : Unit => [(a0, .inr (12, [.ref a1, .ref a2, .ref a3, .ref a4, .ref a5, .int 0, .ref a6, .int 0, .int 0, .int 0, .int 0, .int 0, .int 0, .int 0, .int 0, .int 0, .int 0, .int (-1), .ref a7, .ref a8, .int 0, .ref a9, .int 0, .ref a10, .ref a11, .ref a12, .ref a13, .ref a14, .int 0, .ref a15, .ref a16, .ref a17])), (a1, .inl (cy 1, 1868, .inl (upd (upd (upd (fun _ => 0) 1 2) 2 20) 3 120)))]) := by
  refine Ct.of (by decide +kernel) (Nat.le_of_ble_eq_true rfl) ?_
  intro p e s m args below meth c A ls C hr hlocks hml hnm w hl
  have hl : lv_has ls 2 [(0, .ref a0), (1, .int 0)] := hl
  refine lv_iload_n C.1 C.2.1 dX12_isBehind_0 rfl (lv_at hl 1 rfl) ?_
  refine lv_i2l (v := 0) C.1 C.2.1 dX12_isBehind_1 (by decide) ?_
  refine lv_lconst (v := 0) C.1 C.2.1 dX12_isBehind_2 (by decide) ?_
  refine lv_aload_n C.1 C.2.1 dX12_isBehind_3 rfl (lv_at hl 0 rfl) ?_
  refine r_get C w 0 rfl rfl 0 (by decide) fl_RX12_9 (v := .ref a1) rfl dX12_isBehind_4 ?_
  refine lv_bipush (v := 6) C.1 C.2.1 dX12_isBehind_7 (by decide) ?_
  refine r_iald C w 1 rfl (v := 0) (vinD (by decide)) rfl dX12_isBehind_9 ?_
  refine lv_i2l (v := 0) C.1 C.2.1 dX12_isBehind_10 (by decide) ?_
  refine r_callS C w fs_RX12_133 (c_X12_within_3 l D cy) (hl.1.trans hml.symm) [] [0, 1] (wr := [(a0, .inr (12, [.ref a1, .ref a2, .ref a3, .ref a4, .ref a5, .int 0, .ref a6, .int 0, .int 0, .int 0, .int 0, .int 0, .int 0, .int 0, .int 0, .int 0, .int 0, .int (-1), .ref a7, .ref a8, .int 0, .ref a9, .int 0, .ref a10, .ref a11, .ref a12, .ref a13, .ref a14, .int 0, .ref a15, .ref a16, .ref a17])), (a1, .inl (cy 1, 1868, .inl (upd (upd (upd (fun _ => 0) 1 2) 2 20) 3 120)))]) ⟨rfl, rfl, rfl, rfl, by decide⟩ rfl rfl ⟨Nat.le_of_ble_eq_true rfl, Nat.le_of_ble_eq_true rfl, Nat.le_of_ble_eq_true rfl⟩ 0 0 ⟨rfl, rfl, Nat.le_of_ble_eq_true rfl, Nat.le_of_ble_eq_true rfl⟩ dX12_isBehind_11 (fun u H locs hp w => ?_)
  have w : Wd D A s.heap [(a0, .inr (12, [.ref a1, .ref a2, .ref a3, .ref a4, .ref a5, .int 0, .ref a6, .int 0, .int 0, .int 0, .int 0, .int 0, .int 0, .int 0, .int 0, .int 0, .int 0, .int (-1), .ref a7, .ref a8, .int 0, .ref a9, .int 0, .ref a10, .ref a11, .ref a12, .ref a13, .ref a14, .int 0, .ref a15, .ref a16, .ref a17])), (a1, .inl (cy 1, 1868, .inl (upd (upd (upd (fun _ => 0) 1 2) 2 20) 3 120)))] _ _ := w
  refine r_top (g2 := F0 m 14 ls [.int 1]) rfl ?_
  exact r_iret C w hlocks () hr rfl rfl trivial [0, 1] rfl rfl ⟨Nat.le_of_ble_eq_true rfl, Nat.le_of_ble_eq_true rfl⟩ dX12_isBehind_14
set_option maxRecDepth 100000 in
set_option maxHeartbeats 4000000 in
theorem c_X12_isBehind_6 (l : Launch) (D : va_G) (cy : Nat → ClassId) (a0 a1 a2 a3 a4 a5 a6 a7 a8 a9 a10 a11 a12 a13 a14 a15 a16 a17 : Nat) (x0 : Int32) (k0 : ¬ x0 < 0) (k1 : 0 < x0) : Ct l D cy yX12_isBehind cX12_isBehind 2 (some .boolean) 1 25 0 0 [(a0, .inr (12, [.ref a1, .ref a2, .ref a3, .ref a4, .ref a5, .int 0, .ref a6, .int 0, .int 0, .int 0, .int 0, .int 0, .int 0, .int 0, .int 0, .int 0, .int 0, .int (-1), .ref a7, .ref a8, .int 0, .ref a9, .int 0, .ref a10, .ref a11, .ref a12, .ref a13, .ref a14, .int 0, .ref a15, .ref a16, .ref a17])), (a1, .inl (cy 1, 1868, .inl (upd (upd (upd (fun _ => 0) 1 2) 2 20) 3 120)))] [.ref a0, .int x0] (fun u : Unit => some (.int 0)) (fun _ => True) (fun u : Unit => [(a0, .inr (12, [.ref a1, .ref a2, .ref a3, .ref a4, .ref a5, .int 0, .ref a6, .int 0, .int 0, .int 0, .int 0, .int 0, .int 0, .int 0, .int 0, .int 0, .int 0, .int (-1), .ref a7, .ref a8, .int 0, .ref a9, .int 0, .ref a10, .ref a11, .ref a12, .ref a13, .ref a14, .int 0, .ref a15, .ref a16, .ref a17])), (a1, .inl (cy 1, 1868, .inl (upd (upd (upd (fun _ => 0) 1 2) 2 20) 3 120)))]) := by
  refine Ct.of (by decide +kernel) (Nat.le_of_ble_eq_true rfl) ?_
  intro p e s m args below meth c A ls C hr hlocks hml hnm w hl
  have hl : lv_has ls 2 [(0, .ref a0), (1, .int x0)] := hl
  refine lv_iload_n C.1 C.2.1 dX12_isBehind_0 rfl (lv_at hl 1 rfl) ?_
  refine lv_i2l (v := (Int32.toInt64 x0)) C.1 C.2.1 dX12_isBehind_1 rfl ?_
  refine lv_lconst (v := 0) C.1 C.2.1 dX12_isBehind_2 (by decide) ?_
  refine lv_aload_n C.1 C.2.1 dX12_isBehind_3 rfl (lv_at hl 0 rfl) ?_
  refine r_get C w 0 rfl rfl 0 (by decide) fl_RX12_9 (v := .ref a1) rfl dX12_isBehind_4 ?_
  refine lv_bipush (v := 6) C.1 C.2.1 dX12_isBehind_7 (by decide) ?_
  refine r_iald C w 1 rfl (v := 0) (vinD (by decide)) rfl dX12_isBehind_9 ?_
  refine lv_i2l (v := 0) C.1 C.2.1 dX12_isBehind_10 (by decide) ?_
  refine r_callS C w fs_RX12_133 (c_X12_within_1 l D cy x0 k0 k1) (hl.1.trans hml.symm) [] [0, 1] (wr := [(a0, .inr (12, [.ref a1, .ref a2, .ref a3, .ref a4, .ref a5, .int 0, .ref a6, .int 0, .int 0, .int 0, .int 0, .int 0, .int 0, .int 0, .int 0, .int 0, .int 0, .int (-1), .ref a7, .ref a8, .int 0, .ref a9, .int 0, .ref a10, .ref a11, .ref a12, .ref a13, .ref a14, .int 0, .ref a15, .ref a16, .ref a17])), (a1, .inl (cy 1, 1868, .inl (upd (upd (upd (fun _ => 0) 1 2) 2 20) 3 120)))]) ⟨rfl, rfl, rfl, rfl, by decide⟩ rfl rfl ⟨Nat.le_of_ble_eq_true rfl, Nat.le_of_ble_eq_true rfl, Nat.le_of_ble_eq_true rfl⟩ 0 0 ⟨rfl, rfl, Nat.le_of_ble_eq_true rfl, Nat.le_of_ble_eq_true rfl⟩ dX12_isBehind_11 (fun u H locs hp w => ?_)
  have w : Wd D A s.heap [(a0, .inr (12, [.ref a1, .ref a2, .ref a3, .ref a4, .ref a5, .int 0, .ref a6, .int 0, .int 0, .int 0, .int 0, .int 0, .int 0, .int 0, .int 0, .int 0, .int 0, .int (-1), .ref a7, .ref a8, .int 0, .ref a9, .int 0, .ref a10, .ref a11, .ref a12, .ref a13, .ref a14, .int 0, .ref a15, .ref a16, .ref a17])), (a1, .inl (cy 1, 1868, .inl (upd (upd (upd (fun _ => 0) 1 2) 2 20) 3 120)))] _ _ := w
  refine r_top (g2 := F0 m 14 ls [.int 0]) rfl ?_
  exact r_iret C w hlocks () hr rfl rfl trivial [0, 1] rfl rfl ⟨Nat.le_of_ble_eq_true rfl, Nat.le_of_ble_eq_true rfl⟩ dX12_isBehind_14
theorem dX12_left_10 : decode cX12_left 10 = .ok (.ifCond .ne 9, 3) := by decide +kernel
theorem dX12_left_13 : decode cX12_left 13 = .ok (.aload_n 0, 1) := by decide +kernel
theorem dX12_left_14 : decode cX12_left 14 = .ok (.iconst 1, 1) := by decide +kernel
theorem dX12_left_15 : decode cX12_left 15 = .ok (.invokevirtual 237, 3) := by decide +kernel
theorem dX12_left_18 : decode cX12_left 18 = .ok (.ireturn, 1) := by decide +kernel
set_option maxRecDepth 100000 in
set_option maxHeartbeats 4000000 in
theorem c_X12_left_0 (l : Launch) (D : va_G) (cy : Nat → ClassId) (a0 a1 a2 a3 a4 a5 a6 a7 a8 a9 a10 a11 a12 a13 a14 a15 a16 a17 : Nat) (x0 : Int32) (k0 : x0 < 0) : Ct l D cy yX12_left cX12_left 2 (some .int) 2 46 0 0 [(a0, .inr (12, [.ref a1, .ref a2, .ref a3, .ref a4, .ref a5, .int 0, .ref a6, .int 0, .int 0, .int 0, .int 0, .int 0, .int 0, .int 0, .int 0, .int 0, .int 0, .int (-1), .ref a7, .ref a8, .int 0, .ref a9, .int 0, .ref a10, .ref a11, .ref a12, .ref a13, .ref a14, .int 0, .ref a15, .ref a16, .ref a17])), (a1, .inl (cy 1, 1868, .inl (upd (upd (upd (fun _ => 0) 1 2) 2 20) 3 120)))] [.ref a0, .int x0] (fun u : Unit => some (.int 0)) (fun _ => True) (fun u : Unit => [(a1, .inl (cy 1, 1868, .inl (upd (upd (upd (fun _ => 0) 1 2) 2 20) 3 120))), (a0, .inr (12, [.ref a1, .ref a2, .ref a3, .ref a4, .ref a5, .int 1, .ref a6, .int 0, .int 0, .int 0, .int 0, .int 0, .int 0, .int 0, .int 0, .int 0, .int 0, .int (-1), .ref a7, .ref a8, .int 0, .ref a9, .int 0, .ref a10, .ref a11, .ref a12, .ref a13, .ref a14, .int 0, .ref a15, .ref a16, .ref a17]))]) := by
  refine Ct.of (by decide +kernel) (Nat.le_of_ble_eq_true rfl) ?_
  intro p e s m args below meth c A ls C hr hlocks hml hnm w hl
  have hl : lv_has ls 2 [(0, .ref a0), (1, .int x0)] := hl
  refine lv_aload_n C.1 C.2.1 dX12_left_0 rfl (lv_at hl 0 rfl) ?_
  refine lv_iconst (v := 0) C.1 C.2.1 dX12_left_1 (by decide) ?_
  refine r_put C w 0 rfl rfl 5 (by decide) fl_RX12_71 rfl (ty := .int) (tyX12_ok 5 (by decide)) rfl rfl (Nat.le_of_ble_eq_true rfl) [(a0, .inr (12, [.ref a1, .ref a2, .ref a3, .ref a4, .ref a5, .int 0, .ref a6, .int 0, .int 0, .int 0, .int 0, .int 0, .int 0, .int 0, .int 0, .int 0, .int 0, .int (-1), .ref a7, .ref a8, .int 0, .ref a9, .int 0, .ref a10, .ref a11, .ref a12, .ref a13, .ref a14, .int 0, .ref a15, .ref a16, .ref a17])), (a1, .inl (cy 1, 1868, .inl (upd (upd (upd (fun _ => 0) 1 2) 2 20) 3 120)))] rfl dX12_left_2 (fun H locs w => ?_)
  refine lv_aload_n C.1 C.2.1 dX12_left_5 rfl (lv_at hl 0 rfl) ?_
  refine lv_iload_n C.1 C.2.1 dX12_left_6 rfl (lv_at hl 1 rfl) ?_
  refine r_callV C w fv_RX12_342 (c_X12_isBehind_4 l D cy a0 a1 a2 a3 a4 a5 a6 a7 a8 a9 a10 a11 a12 a13 a14 a15 a16 a17 x0 k0) (hl.1.trans hml.symm) [0, 1] [] (wr := []) ⟨rfl, rfl, rfl, rfl, by decide⟩ 0 rfl rfl rfl rfl rfl ⟨Nat.le_of_ble_eq_true rfl, Nat.le_of_ble_eq_true rfl, Nat.le_of_ble_eq_true rfl⟩ 0 0 ⟨rfl, rfl, Nat.le_of_ble_eq_true rfl, Nat.le_of_ble_eq_true rfl⟩ dX12_left_7 (fun u H locs hp w => ?_)
  have w : Wd D A s.heap [(a0, .inr (12, [.ref a1, .ref a2, .ref a3, .ref a4, .ref a5, .int 0, .ref a6, .int 0, .int 0, .int 0, .int 0, .int 0, .int 0, .int 0, .int 0, .int 0, .int 0, .int (-1), .ref a7, .ref a8, .int 0, .ref a9, .int 0, .ref a10, .ref a11, .ref a12, .ref a13, .ref a14, .int 0, .ref a15, .ref a16, .ref a17])), (a1, .inl (cy 1, 1868, .inl (upd (upd (upd (fun _ => 0) 1 2) 2 20) 3 120)))] _ _ := w
  refine r_top (g2 := F0 m 10 ls [.int 0]) rfl ?_
  refine b_if_ne_f C (tgt := 19) dX12_left_10 (by decide) (by decide) ?_
  refine lv_aload_n C.1 C.2.1 dX12_left_13 rfl (lv_at hl 0 rfl) ?_
  refine lv_iconst (v := 1) C.1 C.2.1 dX12_left_14 (by decide) ?_
  refine r_callV C w fv_RX12_237 (c_X12_fails_0 l D cy a0 a1 a2 a3 a4 a5 a6 a7 a8 a9 a10 a11 a12 a13 a14 a15 a16 a17) (hl.1.trans hml.symm) [0] [1] (wr := [(a1, .inl (cy 1, 1868, .inl (upd (upd (upd (fun _ => 0) 1 2) 2 20) 3 120)))]) ⟨rfl, rfl, rfl, rfl, by decide⟩ 0 rfl rfl rfl rfl rfl ⟨Nat.le_of_ble_eq_true rfl, Nat.le_of_ble_eq_true rfl, Nat.le_of_ble_eq_true rfl⟩ 0 0 ⟨rfl, rfl, Nat.le_of_ble_eq_true rfl, Nat.le_of_ble_eq_true rfl⟩ dX12_left_15 (fun u H locs hp w => ?_)
  have w : Wd D A s.heap [(a1, .inl (cy 1, 1868, .inl (upd (upd (upd (fun _ => 0) 1 2) 2 20) 3 120))), (a0, .inr (12, [.ref a1, .ref a2, .ref a3, .ref a4, .ref a5, .int 1, .ref a6, .int 0, .int 0, .int 0, .int 0, .int 0, .int 0, .int 0, .int 0, .int 0, .int 0, .int (-1), .ref a7, .ref a8, .int 0, .ref a9, .int 0, .ref a10, .ref a11, .ref a12, .ref a13, .ref a14, .int 0, .ref a15, .ref a16, .ref a17]))] _ _ := w
  refine r_top (g2 := F0 m 18 ls [.int 0]) rfl ?_
  exact r_iret C w hlocks () hr rfl rfl trivial [0, 1] rfl rfl ⟨Nat.le_of_ble_eq_true rfl, Nat.le_of_ble_eq_true rfl⟩ dX12_left_18
set_option maxRecDepth 100000 in
set_option maxHeartbeats 4000000 in
theorem c_X12_left_1 (l : Launch) (D : va_G) (cy : Nat → ClassId) (a0 a1 a2 a3 a4 a5 a6 a7 a8 a9 a10 a11 a12 a13 a14 a15 a16 a17 : Nat) (x0 : Int32) (k0 : ¬ x0 < 0) (k1 : 0 < x0) : Ct l D cy yX12_left cX12_left 2 (some .int) 2 46 0 0 [(a0, .inr (12, [.ref a1, .ref a2, .ref a3, .ref a4, .ref a5, .int 0, .ref a6, .int 0, .int 0, .int 0, .int 0, .int 0, .int 0, .int 0, .int 0, .int 0, .int 0, .int (-1), .ref a7, .ref a8, .int 0, .ref a9, .int 0, .ref a10, .ref a11, .ref a12, .ref a13, .ref a14, .int 0, .ref a15, .ref a16, .ref a17])), (a1, .inl (cy 1, 1868, .inl (upd (upd (upd (fun _ => 0) 1 2) 2 20) 3 120)))] [.ref a0, .int x0] (fun u : Unit => some (.int 0)) (fun _ => True) (fun u : Unit => [(a1, .inl (cy 1, 1868, .inl (upd (upd (upd (fun _ => 0) 1 2) 2 20) 3 120))), (a0, .inr (12, [.ref a1, .ref a2, .ref a3, .ref a4, .ref a5, .int 1, .ref a6, .int 0, .int 0, .int 0, .int 0, .int 0, .int 0, .int 0, .int 0, .int 0, .int 0, .int (-1), .ref a7, .ref a8, .int 0, .ref a9, .int 0, .ref a10, .ref a11, .ref a12, .ref a13, .ref a14, .int 0, .ref a15, .ref a16, .ref a17]))]) := by
  refine Ct.of (by decide +kernel) (Nat.le_of_ble_eq_true rfl) ?_
  intro p e s m args below meth c A ls C hr hlocks hml hnm w hl
  have hl : lv_has ls 2 [(0, .ref a0), (1, .int x0)] := hl
  refine lv_aload_n C.1 C.2.1 dX12_left_0 rfl (lv_at hl 0 rfl) ?_
  refine lv_iconst (v := 0) C.1 C.2.1 dX12_left_1 (by decide) ?_
  refine r_put C w 0 rfl rfl 5 (by decide) fl_RX12_71 rfl (ty := .int) (tyX12_ok 5 (by decide)) rfl rfl (Nat.le_of_ble_eq_true rfl) [(a0, .inr (12, [.ref a1, .ref a2, .ref a3, .ref a4, .ref a5, .int 0, .ref a6, .int 0, .int 0, .int 0, .int 0, .int 0, .int 0, .int 0, .int 0, .int 0, .int 0, .int (-1), .ref a7, .ref a8, .int 0, .ref a9, .int 0, .ref a10, .ref a11, .ref a12, .ref a13, .ref a14, .int 0, .ref a15, .ref a16, .ref a17])), (a1, .inl (cy 1, 1868, .inl (upd (upd (upd (fun _ => 0) 1 2) 2 20) 3 120)))] rfl dX12_left_2 (fun H locs w => ?_)
  refine lv_aload_n C.1 C.2.1 dX12_left_5 rfl (lv_at hl 0 rfl) ?_
  refine lv_iload_n C.1 C.2.1 dX12_left_6 rfl (lv_at hl 1 rfl) ?_
  refine r_callV C w fv_RX12_342 (c_X12_isBehind_6 l D cy a0 a1 a2 a3 a4 a5 a6 a7 a8 a9 a10 a11 a12 a13 a14 a15 a16 a17 x0 k0 k1) (hl.1.trans hml.symm) [0, 1] [] (wr := []) ⟨rfl, rfl, rfl, rfl, by decide⟩ 0 rfl rfl rfl rfl rfl ⟨Nat.le_of_ble_eq_true rfl, Nat.le_of_ble_eq_true rfl, Nat.le_of_ble_eq_true rfl⟩ 0 0 ⟨rfl, rfl, Nat.le_of_ble_eq_true rfl, Nat.le_of_ble_eq_true rfl⟩ dX12_left_7 (fun u H locs hp w => ?_)
  have w : Wd D A s.heap [(a0, .inr (12, [.ref a1, .ref a2, .ref a3, .ref a4, .ref a5, .int 0, .ref a6, .int 0, .int 0, .int 0, .int 0, .int 0, .int 0, .int 0, .int 0, .int 0, .int 0, .int (-1), .ref a7, .ref a8, .int 0, .ref a9, .int 0, .ref a10, .ref a11, .ref a12, .ref a13, .ref a14, .int 0, .ref a15, .ref a16, .ref a17])), (a1, .inl (cy 1, 1868, .inl (upd (upd (upd (fun _ => 0) 1 2) 2 20) 3 120)))] _ _ := w
  refine r_top (g2 := F0 m 10 ls [.int 0]) rfl ?_
  refine b_if_ne_f C (tgt := 19) dX12_left_10 (by decide) (by decide) ?_
  refine lv_aload_n C.1 C.2.1 dX12_left_13 rfl (lv_at hl 0 rfl) ?_
  refine lv_iconst (v := 1) C.1 C.2.1 dX12_left_14 (by decide) ?_
  refine r_callV C w fv_RX12_237 (c_X12_fails_0 l D cy a0 a1 a2 a3 a4 a5 a6 a7 a8 a9 a10 a11 a12 a13 a14 a15 a16 a17) (hl.1.trans hml.symm) [0] [1] (wr := [(a1, .inl (cy 1, 1868, .inl (upd (upd (upd (fun _ => 0) 1 2) 2 20) 3 120)))]) ⟨rfl, rfl, rfl, rfl, by decide⟩ 0 rfl rfl rfl rfl rfl ⟨Nat.le_of_ble_eq_true rfl, Nat.le_of_ble_eq_true rfl, Nat.le_of_ble_eq_true rfl⟩ 0 0 ⟨rfl, rfl, Nat.le_of_ble_eq_true rfl, Nat.le_of_ble_eq_true rfl⟩ dX12_left_15 (fun u H locs hp w => ?_)
  have w : Wd D A s.heap [(a1, .inl (cy 1, 1868, .inl (upd (upd (upd (fun _ => 0) 1 2) 2 20) 3 120))), (a0, .inr (12, [.ref a1, .ref a2, .ref a3, .ref a4, .ref a5, .int 1, .ref a6, .int 0, .int 0, .int 0, .int 0, .int 0, .int 0, .int 0, .int 0, .int 0, .int 0, .int (-1), .ref a7, .ref a8, .int 0, .ref a9, .int 0, .ref a10, .ref a11, .ref a12, .ref a13, .ref a14, .int 0, .ref a15, .ref a16, .ref a17]))] _ _ := w
  refine r_top (g2 := F0 m 18 ls [.int 0]) rfl ?_
  exact r_iret C w hlocks () hr rfl rfl trivial [0, 1] rfl rfl ⟨Nat.le_of_ble_eq_true rfl, Nat.le_of_ble_eq_true rfl⟩ dX12_left_18
set_option maxRecDepth 100000 in
set_option maxHeartbeats 4000000 in
theorem c_X12_isBehind_7 (l : Launch) (D : va_G) (cy : Nat → ClassId) (a0 a1 a2 a3 a4 a5 a6 a7 a8 a9 a10 a11 a12 a13 a14 a15 a16 a17 : Nat) : Ct l D cy yX12_isBehind cX12_isBehind 2 (some .boolean) 1 25 0 0 [(a0, .inr (12, [.ref a1, .ref a2, .ref a3, .ref a4, .ref a5, .int 0, .ref a6, .int 0, .int 0, .int 0, .int 0, .int 0, .int 0, .int 0, .int 0, .int 0, .int 0, .int (-1), .ref a7, .ref a8, .int 0, .ref a9, .int 0, .ref a10, .ref a11, .ref a12, .ref a13, .ref a14, .int 0, .ref a15, .ref a16, .ref a17])), (a1, .inl (cy 1, 1868, .inl (upd (upd (upd (fun _ => 0) 1 2) 2 20) 3 120)))] [.ref a0, .int 0] (fun u : Unit => some (.int 1)) (fun _ => True) (fun u : Unit => [(a0, .inr (12, [.ref a1, .ref a2, .ref a3, .ref a4, .ref a5, .int 0, .ref a6, .int 0, .int 0, .int 0, .int 0, .int 0, .int 0, .int 0, .int 0, .int 0, .int 0, .int (-1), .ref a7, .ref a8, .int 0, .ref a9, .int 0, .ref a10, .ref a11, .ref a12, .ref a13, .ref a14, .int 0, .ref a15, .ref a16, .ref a17])), (a1, .inl (cy 1, 1868, .inl (upd (upd (upd (fun _ => 0) 1 2) 2 20) 3 120)))]) := by
  refine Ct.of (by decide +kernel) (Nat.le_of_ble_eq_true rfl) ?_
  intro p e s m args below meth c A ls C hr hlocks hml hnm w hl
  have hl : lv_has ls 2 [(0, .ref a0), (1, .int 0)] := hl
  refine lv_iload_n C.1 C.2.1 dX12_isBehind_0 rfl (lv_at hl 1 rfl) ?_
  refine lv_i2l (v := 0) C.1 C.2.1 dX12_isBehind_1 (by decide) ?_
  refine lv_lconst (v := 0) C.1 C.2.1 dX12_isBehind_2 (by decide) ?_
  refine lv_aload_n C.1 C.2.1 dX12_isBehind_3 rfl (lv_at hl 0 rfl) ?_
  refine r_get C w 0 rfl rfl 0 (by decide) fl_RX12_9 (v := .ref a1) rfl dX12_isBehind_4 ?_
  refine lv_bipush (v := 6) C.1 C.2.1 dX12_isBehind_7 (by decide) ?_
  refine r_iald C w 1 rfl (v := 0) (vinD (by decide)) rfl dX12_isBehind_9 ?_
  refine lv_i2l (v := 0) C.1 C.2.1 dX12_isBehind_10 (by decide) ?_
  refine r_callS C w fs_RX12_133 (c_X12_within_3 l D cy) (hl.1.trans hml.symm) [] [0, 1] (wr := [(a0, .inr (12, [.ref a1, .ref a2, .ref a3, .ref a4, .ref a5, .int 0, .ref a6, .int 0, .int 0, .int 0, .int 0, .int 0, .int 0, .int 0, .int 0, .int 0, .int 0, .int (-1), .ref a7, .ref a8, .int 0, .ref a9, .int 0, .ref a10, .ref a11, .ref a12, .ref a13, .ref a14, .int 0, .ref a15, .ref a16, .ref a17])), (a1, .inl (cy 1, 1868, .inl (upd (upd (upd (fun _ => 0) 1 2) 2 20) 3 120)))]) ⟨rfl, rfl, rfl, rfl, by decide⟩ rfl rfl ⟨Nat.le_of_ble_eq_true rfl, Nat.le_of_ble_eq_true rfl, Nat.le_of_ble_eq_true rfl⟩ 0 0 ⟨rfl, rfl, Nat.le_of_ble_eq_true rfl, Nat.le_of_ble_eq_true rfl⟩ dX12_isBehind_11 (fun u H locs hp w => ?_)
  have w : Wd D A s.heap [(a0, .inr (12, [.ref a1, .ref a2, .ref a3, .ref a4, .ref a5, .int 0, .ref a6, .int 0, .int 0, .int 0, .int 0, .int 0, .int 0, .int 0, .int 0, .int 0, .int 0, .int (-1), .ref a7, .ref a8, .int 0, .ref a9, .int 0, .ref a10, .ref a11, .ref a12, .ref a13, .ref a14, .int 0, .ref a15, .ref a16, .ref a17])), (a1, .inl (cy 1, 1868, .inl (upd (upd (upd (fun _ => 0) 1 2) 2 20) 3 120)))] _ _ := w
  refine r_top (g2 := F0 m 14 ls [.int 1]) rfl ?_
  exact r_iret C w hlocks () hr rfl rfl trivial [0, 1] rfl rfl ⟨Nat.le_of_ble_eq_true rfl, Nat.le_of_ble_eq_true rfl⟩ dX12_isBehind_14
theorem dX12_left_19 : decode cX12_left 19 = .ok (.aload_n 0, 1) := by decide +kernel
theorem dX12_left_20 : decode cX12_left 20 = .ok (.invokevirtual 330, 3) := by decide +kernel
set_option maxRecDepth 100000 in
set_option maxHeartbeats 4000000 in
theorem c_X12_puts_3 (l : Launch) (D : va_G) (cy : Nat → ClassId) (a0 a1 a2 a3 a4 a5 a6 a7 a8 a9 a10 a11 a12 a13 a14 a15 a16 a17 : Nat) (x0 : Int32) (x1 : Int32) (f0 : Nat → Int64) (k0 : ¬ x0 < 0) (k1 : x0 < 1830) : Ct l D cy yX12_puts cX12_puts 7 none 0 0 0 0 [(a0, .inr (12, [.ref a1, .ref a2, .ref a3, .ref a4, .ref a5, .int 0, .ref a6, .int 0, .int 0, .int 0, .int 0, .int 0, .int 0, .int 0, .int 0, .int 0, .int 0, .int (-1), .ref a7, .ref a8, .int x1, .ref a9, .int 0, .ref a10, .ref a11, .ref a12, .ref a13, .ref a14, .int 0, .ref a15, .ref a16, .ref a17])), (a9, .inl (cy 2, 2465, .inr (.inl f0)))] [.ref a0, .int 0, .int x0, .int 1] (fun u : Unit => none) (fun _ => True) (fun u : Unit => [(a0, .inr (12, [.ref a1, .ref a2, .ref a3, .ref a4, .ref a5, .int 0, .ref a6, .int 0, .int 0, .int 0, .int 0, .int 0, .int 0, .int 0, .int 0, .int 0, .int 0, .int (-1), .ref a7, .ref a8, .int x1, .ref a9, .int 0, .ref a10, .ref a11, .ref a12, .ref a13, .ref a14, .int 0, .ref a15, .ref a16, .ref a17])), (a9, .inl (cy 2, 2465, .inr (.inl (orW f0 x0))))]) := by
  refine Ct.of (by decide +kernel) (Nat.le_of_ble_eq_true rfl) ?_
  intro p e s m args below meth c A ls C hr hlocks hml hnm w hl
  have hl : lv_has ls 7 [(0, .ref a0), (1, .int 0), (2, .int x0), (3, .int 1)] := hl
  refine lv_bipush (v := 29) C.1 C.2.1 dX12_puts_0 (by decide) ?_
  refine lv_iload_n C.1 C.2.1 dX12_puts_2 rfl (lv_at hl 1 rfl) ?_
  refine r_imul C (v := 0) dX12_puts_3 (by decide) ?_
  refine lv_iload_n C.1 C.2.1 dX12_puts_4 rfl (lv_at hl 2 rfl) ?_
  refine lv_bipush (v := 6) C.1 C.2.1 dX12_puts_5 (by decide) ?_
  refine r_ishr C (v := (x0 >>> (6 &&& 31))) dX12_puts_7 rfl ?_
  refine r_iadd C (v := ((0 : Int32) + (x0 >>> (6 &&& 31)))) dX12_puts_8 rfl ?_
  refine lv_istore (lv' := [(4, .int ((0 : Int32) + (x0 >>> (6 &&& 31)))), (0, .ref a0), (1, .int 0), (2, .int x0), (3, .int 1)]) C.1 C.2.1 dX12_puts_9 hl (by decide) rfl (fun ls hl => ?_)
  refine lv_lconst (v := 1) C.1 C.2.1 dX12_puts_11 (by decide) ?_
  refine lv_iload_n C.1 C.2.1 dX12_puts_12 rfl (lv_at hl 3 rfl) ?_
  refine lv_bipush (v := 63) C.1 C.2.1 dX12_puts_13 (by decide) ?_
  refine r_iand C (v := (x0 &&& 63)) dX12_puts_15 rfl ?_
  refine lv_lshl (v := (1 <<< (Int32.toInt64 (x0 &&& 63) &&& 63))) C.1 C.2.1 dX12_puts_16 rfl ?_
  refine lv_lstore (lv' := [(5, .long (1 <<< (Int32.toInt64 (x0 &&& 63) &&& 63))), (4, .int ((0 : Int32) + (x0 >>> (6 &&& 31)))), (0, .ref a0), (1, .int 0), (2, .int x0), (3, .int 1)]) C.1 C.2.1 dX12_puts_17 hl (by decide) rfl (fun ls hl => ?_)
  refine lv_aload_n C.1 C.2.1 dX12_puts_19 rfl (lv_at hl 2 rfl) ?_
  refine r_get C w 0 rfl rfl 21 (by decide) fl_RX12_39 (v := .ref a9) rfl dX12_puts_20 ?_
  refine lv_iload C.1 C.2.1 dX12_puts_23 (lv_at hl 1 rfl) ?_
  refine lv_iload_n C.1 C.2.1 dX12_puts_25 rfl (lv_at hl 5 rfl) ?_
  refine b_if_eq_f C (tgt := 42) dX12_puts_26 (by decide) (by decide) ?_
  refine lv_aload_n C.1 C.2.1 dX12_puts_29 rfl (lv_at hl 2 rfl) ?_
  refine r_get C w 0 rfl rfl 21 (by decide) fl_RX12_39 (v := .ref a9) rfl dX12_puts_30 ?_
  refine lv_iload C.1 C.2.1 dX12_puts_33 (lv_at hl 1 rfl) ?_
  refine r_lald C w 1 rfl (v := (f0 ((0 : Int32) + (x0 >>> (6 &&& 31))).toNatClampNeg)) (plW_in k0 k1) rfl dX12_puts_35 ?_
  refine lv_lload C.1 C.2.1 dX12_puts_36 (lv_at hl 0 rfl) ?_
  refine r_lor C (v := ((f0 ((0 : Int32) + (x0 >>> (6 &&& 31))).toNatClampNeg) ||| (1 <<< (Int32.toInt64 (x0 &&& 63) &&& 63)))) dX12_puts_38 rfl ?_
  refine lv_goto (tgt := 56) C.1 C.2.1 dX12_puts_39 (by decide) ?_
  refine r_last C w 1 rfl (plW_in k0 k1) (orW f0 x0) rfl [(a0, .inr (12, [.ref a1, .ref a2, .ref a3, .ref a4, .ref a5, .int 0, .ref a6, .int 0, .int 0, .int 0, .int 0, .int 0, .int 0, .int 0, .int 0, .int 0, .int 0, .int (-1), .ref a7, .ref a8, .int x1, .ref a9, .int 0, .ref a10, .ref a11, .ref a12, .ref a13, .ref a14, .int 0, .ref a15, .ref a16, .ref a17])), (a9, .inl (cy 2, 2465, .inr (.inl (orW f0 x0))))] rfl dX12_puts_56 (fun H locs w => ?_)
  exact r_vret C w hlocks () hr rfl trivial [0, 1] rfl rfl ⟨Nat.le_of_ble_eq_true rfl, Nat.le_of_ble_eq_true rfl⟩ dX12_puts_57
set_option maxRecDepth 100000 in
set_option maxHeartbeats 4000000 in
theorem c_X12_fills_2 (l : Launch) (D : va_G) (cy : Nat → ClassId) (a0 a1 a2 a3 a4 a5 a6 a7 a8 a9 a10 a11 a12 a13 a14 a15 a16 a17 : Nat) : Ct l D cy yX12_fills cX12_fills 4 none 1 26 0 0 [(a0, .inr (12, [.ref a1, .ref a2, .ref a3, .ref a4, .ref a5, .int 0, .ref a6, .int 0, .int 0, .int 0, .int 0, .int 0, .int 0, .int 0, .int 0, .int 0, .int 0, .int (-1), .ref a7, .ref a8, .int 190, .ref a9, .int 0, .ref a10, .ref a11, .ref a12, .ref a13, .ref a14, .int 0, .ref a15, .ref a16, .ref a17])), (a9, .inl (cy 2, 2465, .inr (.inl (fun _ => 0))))] [.ref a0, .int 0, .int 1] (fun u : Unit => none) (fun _ => True) (fun u : Unit => [(a0, .inr (12, [.ref a1, .ref a2, .ref a3, .ref a4, .ref a5, .int 0, .ref a6, .int 0, .int 0, .int 0, .int 0, .int 0, .int 0, .int 0, .int 0, .int 0, .int 0, .int (-1), .ref a7, .ref a8, .int 190, .ref a9, .int 0, .ref a10, .ref a11, .ref a12, .ref a13, .ref a14, .int 0, .ref a15, .ref a16, .ref a17])), (a9, .inl (cy 2, 2465, .inr (.inl (rwF (fun _ => 0) (PP 20 2 (20 + 1 - 2))))))]) := by
  refine Ct.of (by decide +kernel) (Nat.le_of_ble_eq_true rfl) ?_
  intro p e s m args below meth c A ls C hr hlocks hml hnm w hl
  have hl : lv_has ls 4 [(0, .ref a0), (1, .int 0), (2, .int 1)] := hl
  refine lv_iconst (v := 0) C.1 C.2.1 dX12_fills_0 (by decide) ?_
  refine lv_istore_n (lv' := [(3, .int 0), (0, .ref a0), (1, .int 0), (2, .int 1)]) C.1 C.2.1 dX12_fills_1 rfl hl (by decide) rfl (fun ls hl => ?_)
  refine lp_X12_fills_1 a0 a1 a2 a3 a4 a5 a6 a7 a8 a9 a10 a11 a12 a13 a14 a15 a16 a17 (fun _ => 0) 190 (190) rfl (by decide) C hml (Nat.le_of_ble_eq_true rfl) (Nat.le_of_ble_eq_true rfl) ⟨Nat.le_of_ble_eq_true rfl, Nat.le_of_ble_eq_true rfl⟩ (w.re rfl) (lv_sub hl [1, 2, 3, 0] rfl) (fun H locs ls w hl => ?_)
  rw [show (190 : Nat) = PP 20 2 (20 + 1 - 2) from by decide +kernel] at w
  have w : Wd D A s.heap [(a0, .inr (12, [.ref a1, .ref a2, .ref a3, .ref a4, .ref a5, .int 0, .ref a6, .int 0, .int 0, .int 0, .int 0, .int 0, .int 0, .int 0, .int 0, .int 0, .int 0, .int (-1), .ref a7, .ref a8, .int 190, .ref a9, .int 0, .ref a10, .ref a11, .ref a12, .ref a13, .ref a14, .int 0, .ref a15, .ref a16, .ref a17])), (a9, .inl (cy 2, 2465, .inr (.inl (rwF (fun _ => 0) (PP 20 2 (20 + 1 - 2))))))] _ _ := w
  exact r_vret C w hlocks () hr rfl trivial [0, 1] rfl rfl ⟨Nat.le_of_ble_eq_true rfl, Nat.le_of_ble_eq_true rfl⟩ dX12_fills_23
set_option maxRecDepth 100000 in
set_option maxHeartbeats 4000000 in
theorem c_X12_lays_2 (l : Launch) (D : va_G) (cy : Nat → ClassId) (a0 a1 a2 a3 a4 a5 a6 a7 a8 a9 a10 a11 a12 a13 a14 a15 a16 a17 : Nat) : Ct l D cy yX12_lays cX12_lays 4 none 2 49 0 0 [(a0, .inr (12, [.ref a1, .ref a2, .ref a3, .ref a4, .ref a5, .int 0, .ref a6, .int 0, .int 0, .int 0, .int 0, .int 0, .int 0, .int 0, .int 0, .int 0, .int 0, .int (-1), .ref a7, .ref a8, .int 0, .ref a9, .int 0, .ref a10, .ref a11, .ref a12, .ref a13, .ref a14, .int 0, .ref a15, .ref a16, .ref a17])), (a1, .inl (cy 1, 1868, .inl (upd (upd (upd (fun _ => 0) 1 2) 2 20) 3 120))), (a7, .inl (cy 1, 1830, .inl (fun _ => 0))), (a8, .inl (cy 1, 1830, .inl (fun _ => 0))), (a9, .inl (cy 2, 2465, .inr (.inl (fun _ => 0))))] [.ref a0] (fun u : Unit => none) (fun _ => True) (fun u : Unit => [(a1, .inl (cy 1, 1868, .inl (upd (upd (upd (fun _ => 0) 1 2) 2 20) 3 120))), (a7, .inl (cy 1, 1830, .inl (lxF (fun _ => 0) 2 20 (PP 20 2 (20 + 1 - 2))))), (a8, .inl (cy 1, 1830, .inl (lyF (fun _ => 0) 2 20 (PP 20 2 (20 + 1 - 2))))), (a0, .inr (12, [.ref a1, .ref a2, .ref a3, .ref a4, .ref a5, .int 0, .ref a6, .int 0, .int 0, .int 0, .int 0, .int 0, .int 0, .int 0, .int 0, .int 0, .int 0, .int (-1), .ref a7, .ref a8, .int 190, .ref a9, .int 21, .ref a10, .ref a11, .ref a12, .ref a13, .ref a14, .int 0, .ref a15, .ref a16, .ref a17])), (a9, .inl (cy 2, 2465, .inr (.inl (rwF (fun _ => 0) (PP 20 2 (20 + 1 - 2))))))]) := by
  refine Ct.of (by decide +kernel) (Nat.le_of_ble_eq_true rfl) ?_
  intro p e s m args below meth c A ls C hr hlocks hml hnm w hl
  have hl : lv_has ls 4 [(0, .ref a0)] := hl
  refine lv_aload_n C.1 C.2.1 dX12_lays_0 rfl (lv_at hl 0 rfl) ?_
  refine r_callV C w fv_RX12_253 (c_X12_layPairs_0 l D cy a0 a1 a2 a3 a4 a5 a6 a7 a8 a9 a10 a11 a12 a13 a14 a15 a16 a17) (hl.1.trans hml.symm) [0, 1, 2, 3] [4] (wr := [(a9, .inl (cy 2, 2465, .inr (.inl (fun _ => 0))))]) ⟨rfl, rfl, rfl, rfl, by decide⟩ 0 rfl rfl rfl rfl rfl ⟨Nat.le_of_ble_eq_true rfl, Nat.le_of_ble_eq_true rfl, Nat.le_of_ble_eq_true rfl⟩ 0 0 ⟨rfl, rfl, Nat.le_of_ble_eq_true rfl, Nat.le_of_ble_eq_true rfl⟩ dX12_lays_1 (fun u H locs hp w => ?_)
  have w : Wd D A s.heap [(a9, .inl (cy 2, 2465, .inr (.inl (fun _ => 0)))), (a0, .inr (12, [.ref a1, .ref a2, .ref a3, .ref a4, .ref a5, .int 0, .ref a6, .int 0, .int 0, .int 0, .int 0, .int 0, .int 0, .int 0, .int 0, .int 0, .int 0, .int (-1), .ref a7, .ref a8, .int 190, .ref a9, .int 0, .ref a10, .ref a11, .ref a12, .ref a13, .ref a14, .int 0, .ref a15, .ref a16, .ref a17])), (a1, .inl (cy 1, 1868, .inl (upd (upd (upd (fun _ => 0) 1 2) 2 20) 3 120))), (a7, .inl (cy 1, 1830, .inl (lxF (fun _ => 0) 2 20 (PP 20 2 (20 + 1 - 2))))), (a8, .inl (cy 1, 1830, .inl (lyF (fun _ => 0) 2 20 (PP 20 2 (20 + 1 - 2)))))] _ _ := w
  refine r_top (g2 := F0 m 4 ls []) rfl ?_
  refine lv_aload_n C.1 C.2.1 dX12_lays_4 rfl (lv_at hl 0 rfl) ?_
  refine lv_iconst (v := 0) C.1 C.2.1 dX12_lays_5 (by decide) ?_
  refine lv_iconst (v := 1) C.1 C.2.1 dX12_lays_6 (by decide) ?_
  refine r_callV C w fv_RX12_323 (c_X12_fills_2 l D cy a0 a1 a2 a3 a4 a5 a6 a7 a8 a9 a10 a11 a12 a13 a14 a15 a16 a17) (hl.1.trans hml.symm) [1, 0] [2, 3, 4] (wr := [(a1, .inl (cy 1, 1868, .inl (upd (upd (upd (fun _ => 0) 1 2) 2 20) 3 120))), (a7, .inl (cy 1, 1830, .inl (lxF (fun _ => 0) 2 20 (PP 20 2 (20 + 1 - 2))))), (a8, .inl (cy 1, 1830, .inl (lyF (fun _ => 0) 2 20 (PP 20 2 (20 + 1 - 2)))))]) ⟨rfl, rfl, rfl, rfl, by decide⟩ 0 rfl rfl rfl rfl rfl ⟨Nat.le_of_ble_eq_true rfl, Nat.le_of_ble_eq_true rfl, Nat.le_of_ble_eq_true rfl⟩ 0 0 ⟨rfl, rfl, Nat.le_of_ble_eq_true rfl, Nat.le_of_ble_eq_true rfl⟩ dX12_lays_7 (fun u H locs hp w => ?_)
  have w : Wd D A s.heap [(a1, .inl (cy 1, 1868, .inl (upd (upd (upd (fun _ => 0) 1 2) 2 20) 3 120))), (a7, .inl (cy 1, 1830, .inl (lxF (fun _ => 0) 2 20 (PP 20 2 (20 + 1 - 2))))), (a8, .inl (cy 1, 1830, .inl (lyF (fun _ => 0) 2 20 (PP 20 2 (20 + 1 - 2))))), (a0, .inr (12, [.ref a1, .ref a2, .ref a3, .ref a4, .ref a5, .int 0, .ref a6, .int 0, .int 0, .int 0, .int 0, .int 0, .int 0, .int 0, .int 0, .int 0, .int 0, .int (-1), .ref a7, .ref a8, .int 190, .ref a9, .int 0, .ref a10, .ref a11, .ref a12, .ref a13, .ref a14, .int 0, .ref a15, .ref a16, .ref a17])), (a9, .inl (cy 2, 2465, .inr (.inl (rwF (fun _ => 0) (PP 20 2 (20 + 1 - 2))))))] _ _ := w
  refine r_top (g2 := F0 m 10 ls []) rfl ?_
  refine lv_iconst (v := 0) C.1 C.2.1 dX12_lays_10 (by decide) ?_
  refine lv_istore_n (lv' := [(1, .int 0), (0, .ref a0)]) C.1 C.2.1 dX12_lays_11 rfl hl (by decide) rfl (fun ls hl => ?_)
  refine lv_iload_n C.1 C.2.1 dX12_lays_12 rfl (lv_at hl 0 rfl) ?_
  refine lv_aload_n C.1 C.2.1 dX12_lays_13 rfl (lv_at hl 1 rfl) ?_
  refine r_get C w 3 rfl rfl 0 (by decide) fl_RX12_9 (v := .ref a1) rfl dX12_lays_14 ?_
  refine lv_bipush (v := 6) C.1 C.2.1 dX12_lays_17 (by decide) ?_
  refine r_iald C w 0 rfl (v := 0) (vinD (by decide)) rfl dX12_lays_19 ?_
  refine b_icmp_ge_t C (tgt := 88) dX12_lays_20 (by decide) (by decide) ?_
  refine lv_aload_n C.1 C.2.1 dX12_lays_88 rfl (lv_at hl 1 rfl) ?_
  refine lv_bipush (v := 21) C.1 C.2.1 dX12_lays_89 (by decide) ?_
  refine r_put C w 3 rfl rfl 22 (by decide) fl_RX12_297 rfl (ty := .int) (tyX12_ok 22 (by decide)) rfl rfl (Nat.le_of_ble_eq_true rfl) [(a1, .inl (cy 1, 1868, .inl (upd (upd (upd (fun _ => 0) 1 2) 2 20) 3 120))), (a7, .inl (cy 1, 1830, .inl (lxF (fun _ => 0) 2 20 (PP 20 2 (20 + 1 - 2))))), (a8, .inl (cy 1, 1830, .inl (lyF (fun _ => 0) 2 20 (PP 20 2 (20 + 1 - 2))))), (a0, .inr (12, [.ref a1, .ref a2, .ref a3, .ref a4, .ref a5, .int 0, .ref a6, .int 0, .int 0, .int 0, .int 0, .int 0, .int 0, .int 0, .int 0, .int 0, .int 0, .int (-1), .ref a7, .ref a8, .int 190, .ref a9, .int 21, .ref a10, .ref a11, .ref a12, .ref a13, .ref a14, .int 0, .ref a15, .ref a16, .ref a17])), (a9, .inl (cy 2, 2465, .inr (.inl (rwF (fun _ => 0) (PP 20 2 (20 + 1 - 2))))))] rfl dX12_lays_91 (fun H locs w => ?_)
  exact r_vret C w hlocks () hr rfl trivial [0, 1, 2, 3, 4] rfl rfl ⟨Nat.le_of_ble_eq_true rfl, Nat.le_of_ble_eq_true rfl⟩ dX12_lays_94
theorem dX12_left_23 : decode cX12_left 23 = .ok (.aload_n 0, 1) := by decide +kernel
theorem dX12_left_24 : decode cX12_left 24 = .ok (.iload_n 1, 1) := by decide +kernel
theorem dX12_left_25 : decode cX12_left 25 = .ok (.invokevirtual 333, 3) := by decide +kernel
set_option maxRecDepth 100000 in
set_option maxHeartbeats 4000000 in
theorem c_X12_has_3 (l : Launch) (D : va_G) (cy : Nat → ClassId) (a0 a1 a2 a3 a4 a5 a6 a7 a8 a9 a10 a11 a12 a13 a14 a15 a16 a17 : Nat) (x0 : Int32) (x1 : Int32) (f0 : Nat → Int64) (k0 : ¬ x0 < 0) (k1 : x0 < 1830) (hbit : bitW f0 x0 = 1) : Ct l D cy yX12_has cX12_has 3 (some .boolean) 0 0 0 0 [(a0, .inr (12, [.ref a1, .ref a2, .ref a3, .ref a4, .ref a5, .int 0, .ref a6, .int 0, .int 0, .int 0, .int 0, .int 0, .int 0, .int 0, .int 0, .int 0, .int 0, .int (-1), .ref a7, .ref a8, .int x1, .ref a9, .int 21, .ref a10, .ref a11, .ref a12, .ref a13, .ref a14, .int 0, .ref a15, .ref a16, .ref a17])), (a9, .inl (cy 2, 2465, .inr (.inl f0)))] [.ref a0, .int 0, .int x0] (fun u : Unit => some (.int 1)) (fun _ => True) (fun u : Unit => [(a0, .inr (12, [.ref a1, .ref a2, .ref a3, .ref a4, .ref a5, .int 0, .ref a6, .int 0, .int 0, .int 0, .int 0, .int 0, .int 0, .int 0, .int 0, .int 0, .int 0, .int (-1), .ref a7, .ref a8, .int x1, .ref a9, .int 21, .ref a10, .ref a11, .ref a12, .ref a13, .ref a14, .int 0, .ref a15, .ref a16, .ref a17])), (a9, .inl (cy 2, 2465, .inr (.inl f0)))]) := by
  refine Ct.of (by decide +kernel) (Nat.le_of_ble_eq_true rfl) ?_
  intro p e s m args below meth c A ls C hr hlocks hml hnm w hl
  have hl : lv_has ls 3 [(0, .ref a0), (1, .int 0), (2, .int x0)] := hl
  refine lv_aload_n C.1 C.2.1 dX12_has_0 rfl (lv_at hl 0 rfl) ?_
  refine r_get C w 0 rfl rfl 21 (by decide) fl_RX12_39 (v := .ref a9) rfl dX12_has_1 ?_
  refine lv_bipush (v := 29) C.1 C.2.1 dX12_has_4 (by decide) ?_
  refine lv_iload_n C.1 C.2.1 dX12_has_6 rfl (lv_at hl 1 rfl) ?_
  refine r_imul C (v := 0) dX12_has_7 (by decide) ?_
  refine lv_iload_n C.1 C.2.1 dX12_has_8 rfl (lv_at hl 2 rfl) ?_
  refine lv_bipush (v := 6) C.1 C.2.1 dX12_has_9 (by decide) ?_
  refine r_ishr C (v := (x0 >>> (6 &&& 31))) dX12_has_11 rfl ?_
  refine r_iadd C (v := ((0 : Int32) + (x0 >>> (6 &&& 31)))) dX12_has_12 rfl ?_
  refine r_lald C w 1 rfl (v := (f0 ((0 : Int32) + (x0 >>> (6 &&& 31))).toNatClampNeg)) (plW_in k0 k1) rfl dX12_has_13 ?_
  refine lv_iload_n C.1 C.2.1 dX12_has_14 rfl (lv_at hl 2 rfl) ?_
  refine lv_bipush (v := 63) C.1 C.2.1 dX12_has_15 (by decide) ?_
  refine r_iand C (v := (x0 &&& 63)) dX12_has_17 rfl ?_
  refine lv_lshr (v := ((f0 ((0 : Int32) + (x0 >>> (6 &&& 31))).toNatClampNeg) >>> (Int32.toInt64 (x0 &&& 63) &&& 63))) C.1 C.2.1 dX12_has_18 rfl ?_
  refine lv_lconst (v := 1) C.1 C.2.1 dX12_has_19 (by decide) ?_
  refine r_land C (v := (((f0 ((0 : Int32) + (x0 >>> (6 &&& 31))).toNatClampNeg) >>> (Int32.toInt64 (x0 &&& 63) &&& 63)) &&& 1)) dX12_has_20 rfl ?_
  refine lv_lconst (v := 1) C.1 C.2.1 dX12_has_21 (by decide) ?_
  refine r_lcmp C (v := 0) dX12_has_22 (lgc_1 hbit) ?_
  refine b_if_ne_f C (tgt := 30) dX12_has_23 (by decide) (by decide) ?_
  refine lv_iconst (v := 1) C.1 C.2.1 dX12_has_26 (by decide) ?_
  refine lv_goto (tgt := 31) C.1 C.2.1 dX12_has_27 (by decide) ?_
  exact r_iret C w hlocks () hr rfl rfl trivial [0, 1] rfl rfl ⟨Nat.le_of_ble_eq_true rfl, Nat.le_of_ble_eq_true rfl⟩ dX12_has_31
set_option maxRecDepth 100000 in
set_option maxHeartbeats 4000000 in
theorem c_X12_manyOf_1 (l : Launch) (D : va_G) (cy : Nat → ClassId) (a0 a1 a2 a3 a4 a5 a6 a7 a8 a9 a10 a11 a12 a13 a14 a15 a16 a17 : Nat) : Ct l D cy yX12_manyOf cX12_manyOf 4 (some .int) 1 22 0 0 [(a0, .inr (12, [.ref a1, .ref a2, .ref a3, .ref a4, .ref a5, .int 0, .ref a6, .int 0, .int 0, .int 0, .int 0, .int 0, .int 0, .int 0, .int 0, .int 0, .int 0, .int (-1), .ref a7, .ref a8, .int 190, .ref a9, .int 21, .ref a10, .ref a11, .ref a12, .ref a13, .ref a14, .int 0, .ref a15, .ref a16, .ref a17])), (a9, .inl (cy 2, 2465, .inr (.inl (rwF (fun _ => 0) (PP 20 2 (20 + 1 - 2))))))] [.ref a0, .int 0] (fun u : Unit => some (.int 190)) (fun _ => True) (fun u : Unit => [(a0, .inr (12, [.ref a1, .ref a2, .ref a3, .ref a4, .ref a5, .int 0, .ref a6, .int 0, .int 0, .int 0, .int 0, .int 0, .int 0, .int 0, .int 0, .int 0, .int 0, .int (-1), .ref a7, .ref a8, .int 190, .ref a9, .int 21, .ref a10, .ref a11, .ref a12, .ref a13, .ref a14, .int 0, .ref a15, .ref a16, .ref a17])), (a9, .inl (cy 2, 2465, .inr (.inl (rwF (fun _ => 0) (PP 20 2 (20 + 1 - 2))))))]) := by
  refine Ct.of (by decide +kernel) (Nat.le_of_ble_eq_true rfl) ?_
  intro p e s m args below meth c A ls C hr hlocks hml hnm w hl
  have hl : lv_has ls 4 [(0, .ref a0), (1, .int 0)] := hl
  refine lv_iconst (v := 0) C.1 C.2.1 dX12_manyOf_0 (by decide) ?_
  refine lv_istore_n (lv' := [(2, .int 0), (0, .ref a0), (1, .int 0)]) C.1 C.2.1 dX12_manyOf_1 rfl hl (by decide) rfl (fun ls hl => ?_)
  refine lv_iconst (v := 0) C.1 C.2.1 dX12_manyOf_2 (by decide) ?_
  refine lv_istore_n (lv' := [(3, .int 0), (2, .int 0), (0, .ref a0), (1, .int 0)]) C.1 C.2.1 dX12_manyOf_3 rfl hl (by decide) rfl (fun ls hl => ?_)
  refine lp_X12_manyOf_1 a0 a1 a2 a3 a4 a5 a6 a7 a8 a9 a10 a11 a12 a13 a14 a15 a16 a17 (fun _ => 0) 190 (PP 20 2 (20 + 1 - 2)) (by decide +kernel) (by decide +kernel) C hml (Nat.le_of_ble_eq_true rfl) (Nat.le_of_ble_eq_true rfl) ⟨Nat.le_of_ble_eq_true rfl, Nat.le_of_ble_eq_true rfl⟩ (w.re rfl) (lv_sub hl [2, 3, 1, 0] rfl) (fun H locs ls w hl => ?_)
  have w : Wd D A s.heap [(a0, .inr (12, [.ref a1, .ref a2, .ref a3, .ref a4, .ref a5, .int 0, .ref a6, .int 0, .int 0, .int 0, .int 0, .int 0, .int 0, .int 0, .int 0, .int 0, .int 0, .int (-1), .ref a7, .ref a8, .int 190, .ref a9, .int 21, .ref a10, .ref a11, .ref a12, .ref a13, .ref a14, .int 0, .ref a15, .ref a16, .ref a17])), (a9, .inl (cy 2, 2465, .inr (.inl (rwF (fun _ => 0) (PP 20 2 (20 + 1 - 2))))))] _ _ := w
  refine lv_iload_n C.1 C.2.1 dX12_manyOf_35 rfl (lv_at hl 2 rfl) ?_
  exact r_iret C w hlocks () hr rfl rfl trivial [0, 1] rfl rfl ⟨Nat.le_of_ble_eq_true rfl, Nat.le_of_ble_eq_true rfl⟩ dX12_manyOf_36
theorem dX12_left_28 : decode cX12_left 28 = .ok (.ireturn, 1) := by decide +kernel
set_option maxRecDepth 100000 in
set_option maxHeartbeats 4000000 in
theorem c_X12_left_2 (l : Launch) (D : va_G) (cy : Nat → ClassId) (a0 a1 a2 a3 a4 a5 a6 a7 a8 a9 a10 a11 a12 a13 a14 a15 a16 a17 : Nat) : Ct l D cy yX12_left cX12_left 2 (some .int) 3 72 0 0 [(a0, .inr (12, [.ref a1, .ref a2, .ref a3, .ref a4, .ref a5, .int 0, .ref a6, .int 0, .int 0, .int 0, .int 0, .int 0, .int 0, .int 0, .int 0, .int 0, .int 0, .int (-1), .ref a7, .ref a8, .int 0, .ref a9, .int 0, .ref a10, .ref a11, .ref a12, .ref a13, .ref a14, .int 0, .ref a15, .ref a16, .ref a17])), (a1, .inl (cy 1, 1868, .inl (upd (upd (upd (fun _ => 0) 1 2) 2 20) 3 120))), (a7, .inl (cy 1, 1830, .inl (fun _ => 0))), (a8, .inl (cy 1, 1830, .inl (fun _ => 0))), (a9, .inl (cy 2, 2465, .inr (.inl (fun _ => 0))))] [.ref a0, .int 0] (fun u : Unit => some (.int 190)) (fun _ => True) (fun u : Unit => [(a1, .inl (cy 1, 1868, .inl (upd (upd (upd (fun _ => 0) 1 2) 2 20) 3 120))), (a7, .inl (cy 1, 1830, .inl (lxF (fun _ => 0) 2 20 (PP 20 2 (20 + 1 - 2))))), (a8, .inl (cy 1, 1830, .inl (lyF (fun _ => 0) 2 20 (PP 20 2 (20 + 1 - 2))))), (a0, .inr (12, [.ref a1, .ref a2, .ref a3, .ref a4, .ref a5, .int 0, .ref a6, .int 0, .int 0, .int 0, .int 0, .int 0, .int 0, .int 0, .int 0, .int 0, .int 0, .int (-1), .ref a7, .ref a8, .int 190, .ref a9, .int 21, .ref a10, .ref a11, .ref a12, .ref a13, .ref a14, .int 0, .ref a15, .ref a16, .ref a17])), (a9, .inl (cy 2, 2465, .inr (.inl (rwF (fun _ => 0) (PP 20 2 (20 + 1 - 2))))))]) := by
  refine Ct.of (by decide +kernel) (Nat.le_of_ble_eq_true rfl) ?_
  intro p e s m args below meth c A ls C hr hlocks hml hnm w hl
  have hl : lv_has ls 2 [(0, .ref a0), (1, .int 0)] := hl
  refine lv_aload_n C.1 C.2.1 dX12_left_0 rfl (lv_at hl 0 rfl) ?_
  refine lv_iconst (v := 0) C.1 C.2.1 dX12_left_1 (by decide) ?_
  refine r_put C w 0 rfl rfl 5 (by decide) fl_RX12_71 rfl (ty := .int) (tyX12_ok 5 (by decide)) rfl rfl (Nat.le_of_ble_eq_true rfl) [(a0, .inr (12, [.ref a1, .ref a2, .ref a3, .ref a4, .ref a5, .int 0, .ref a6, .int 0, .int 0, .int 0, .int 0, .int 0, .int 0, .int 0, .int 0, .int 0, .int 0, .int (-1), .ref a7, .ref a8, .int 0, .ref a9, .int 0, .ref a10, .ref a11, .ref a12, .ref a13, .ref a14, .int 0, .ref a15, .ref a16, .ref a17])), (a1, .inl (cy 1, 1868, .inl (upd (upd (upd (fun _ => 0) 1 2) 2 20) 3 120))), (a7, .inl (cy 1, 1830, .inl (fun _ => 0))), (a8, .inl (cy 1, 1830, .inl (fun _ => 0))), (a9, .inl (cy 2, 2465, .inr (.inl (fun _ => 0))))] rfl dX12_left_2 (fun H locs w => ?_)
  refine lv_aload_n C.1 C.2.1 dX12_left_5 rfl (lv_at hl 0 rfl) ?_
  refine lv_iload_n C.1 C.2.1 dX12_left_6 rfl (lv_at hl 1 rfl) ?_
  refine r_callV C w fv_RX12_342 (c_X12_isBehind_7 l D cy a0 a1 a2 a3 a4 a5 a6 a7 a8 a9 a10 a11 a12 a13 a14 a15 a16 a17) (hl.1.trans hml.symm) [0, 1] [2, 3, 4] (wr := [(a7, .inl (cy 1, 1830, .inl (fun _ => 0))), (a8, .inl (cy 1, 1830, .inl (fun _ => 0))), (a9, .inl (cy 2, 2465, .inr (.inl (fun _ => 0))))]) ⟨rfl, rfl, rfl, rfl, by decide⟩ 0 rfl rfl rfl rfl rfl ⟨Nat.le_of_ble_eq_true rfl, Nat.le_of_ble_eq_true rfl, Nat.le_of_ble_eq_true rfl⟩ 0 0 ⟨rfl, rfl, Nat.le_of_ble_eq_true rfl, Nat.le_of_ble_eq_true rfl⟩ dX12_left_7 (fun u H locs hp w => ?_)
  have w : Wd D A s.heap [(a7, .inl (cy 1, 1830, .inl (fun _ => 0))), (a8, .inl (cy 1, 1830, .inl (fun _ => 0))), (a9, .inl (cy 2, 2465, .inr (.inl (fun _ => 0)))), (a0, .inr (12, [.ref a1, .ref a2, .ref a3, .ref a4, .ref a5, .int 0, .ref a6, .int 0, .int 0, .int 0, .int 0, .int 0, .int 0, .int 0, .int 0, .int 0, .int 0, .int (-1), .ref a7, .ref a8, .int 0, .ref a9, .int 0, .ref a10, .ref a11, .ref a12, .ref a13, .ref a14, .int 0, .ref a15, .ref a16, .ref a17])), (a1, .inl (cy 1, 1868, .inl (upd (upd (upd (fun _ => 0) 1 2) 2 20) 3 120)))] _ _ := w
  refine r_top (g2 := F0 m 10 ls [.int 1]) rfl ?_
  refine b_if_ne_t C (tgt := 19) dX12_left_10 (by decide) (by decide) ?_
  refine lv_aload_n C.1 C.2.1 dX12_left_19 rfl (lv_at hl 0 rfl) ?_
  refine r_callV C w fv_RX12_330 (c_X12_lays_2 l D cy a0 a1 a2 a3 a4 a5 a6 a7 a8 a9 a10 a11 a12 a13 a14 a15 a16 a17) (hl.1.trans hml.symm) [3, 4, 0, 1, 2] [] (wr := []) ⟨rfl, rfl, rfl, rfl, by decide⟩ 0 rfl rfl rfl rfl rfl ⟨Nat.le_of_ble_eq_true rfl, Nat.le_of_ble_eq_true rfl, Nat.le_of_ble_eq_true rfl⟩ 0 0 ⟨rfl, rfl, Nat.le_of_ble_eq_true rfl, Nat.le_of_ble_eq_true rfl⟩ dX12_left_20 (fun u H locs hp w => ?_)
  have w : Wd D A s.heap [(a1, .inl (cy 1, 1868, .inl (upd (upd (upd (fun _ => 0) 1 2) 2 20) 3 120))), (a7, .inl (cy 1, 1830, .inl (lxF (fun _ => 0) 2 20 (PP 20 2 (20 + 1 - 2))))), (a8, .inl (cy 1, 1830, .inl (lyF (fun _ => 0) 2 20 (PP 20 2 (20 + 1 - 2))))), (a0, .inr (12, [.ref a1, .ref a2, .ref a3, .ref a4, .ref a5, .int 0, .ref a6, .int 0, .int 0, .int 0, .int 0, .int 0, .int 0, .int 0, .int 0, .int 0, .int 0, .int (-1), .ref a7, .ref a8, .int 190, .ref a9, .int 21, .ref a10, .ref a11, .ref a12, .ref a13, .ref a14, .int 0, .ref a15, .ref a16, .ref a17])), (a9, .inl (cy 2, 2465, .inr (.inl (rwF (fun _ => 0) (PP 20 2 (20 + 1 - 2))))))] _ _ := w
  refine r_top (g2 := F0 m 23 ls []) rfl ?_
  refine lv_aload_n C.1 C.2.1 dX12_left_23 rfl (lv_at hl 0 rfl) ?_
  refine lv_iload_n C.1 C.2.1 dX12_left_24 rfl (lv_at hl 1 rfl) ?_
  refine r_callV C w fv_RX12_333 (c_X12_manyOf_1 l D cy a0 a1 a2 a3 a4 a5 a6 a7 a8 a9 a10 a11 a12 a13 a14 a15 a16 a17) (hl.1.trans hml.symm) [3, 4] [0, 1, 2] (wr := [(a1, .inl (cy 1, 1868, .inl (upd (upd (upd (fun _ => 0) 1 2) 2 20) 3 120))), (a7, .inl (cy 1, 1830, .inl (lxF (fun _ => 0) 2 20 (PP 20 2 (20 + 1 - 2))))), (a8, .inl (cy 1, 1830, .inl (lyF (fun _ => 0) 2 20 (PP 20 2 (20 + 1 - 2)))))]) ⟨rfl, rfl, rfl, rfl, by decide⟩ 0 rfl rfl rfl rfl rfl ⟨Nat.le_of_ble_eq_true rfl, Nat.le_of_ble_eq_true rfl, Nat.le_of_ble_eq_true rfl⟩ 0 0 ⟨rfl, rfl, Nat.le_of_ble_eq_true rfl, Nat.le_of_ble_eq_true rfl⟩ dX12_left_25 (fun u H locs hp w => ?_)
  have w : Wd D A s.heap [(a1, .inl (cy 1, 1868, .inl (upd (upd (upd (fun _ => 0) 1 2) 2 20) 3 120))), (a7, .inl (cy 1, 1830, .inl (lxF (fun _ => 0) 2 20 (PP 20 2 (20 + 1 - 2))))), (a8, .inl (cy 1, 1830, .inl (lyF (fun _ => 0) 2 20 (PP 20 2 (20 + 1 - 2))))), (a0, .inr (12, [.ref a1, .ref a2, .ref a3, .ref a4, .ref a5, .int 0, .ref a6, .int 0, .int 0, .int 0, .int 0, .int 0, .int 0, .int 0, .int 0, .int 0, .int 0, .int (-1), .ref a7, .ref a8, .int 190, .ref a9, .int 21, .ref a10, .ref a11, .ref a12, .ref a13, .ref a14, .int 0, .ref a15, .ref a16, .ref a17])), (a9, .inl (cy 2, 2465, .inr (.inl (rwF (fun _ => 0) (PP 20 2 (20 + 1 - 2))))))] _ _ := w
  refine r_top (g2 := F0 m 28 ls [.int 190]) rfl ?_
  exact r_iret C w hlocks () hr rfl rfl trivial [0, 1, 2, 3, 4] rfl rfl ⟨Nat.le_of_ble_eq_true rfl, Nat.le_of_ble_eq_true rfl⟩ dX12_left_28
theorem dX12_judge_0 : decode cX12_judge 0 = .ok (.aload_n 0, 1) := by decide +kernel
theorem dX12_judge_1 : decode cX12_judge 1 = .ok (.iconst 0, 1) := by decide +kernel
theorem dX12_judge_2 : decode cX12_judge 2 = .ok (.putfield 71, 3) := by decide +kernel
theorem dX12_judge_5 : decode cX12_judge 5 = .ok (.aload_n 0, 1) := by decide +kernel
theorem dX12_judge_6 : decode cX12_judge 6 = .ok (.iload_n 1, 1) := by decide +kernel
theorem dX12_judge_7 : decode cX12_judge 7 = .ok (.invokevirtual 256, 3) := by decide +kernel
theorem dX12_judge_10 : decode cX12_judge 10 = .ok (.ifCond .ne 9, 3) := by decide +kernel
theorem dX12_judge_13 : decode cX12_judge 13 = .ok (.aload_n 0, 1) := by decide +kernel
theorem dX12_judge_14 : decode cX12_judge 14 = .ok (.iconst 1, 1) := by decide +kernel
theorem dX12_judge_15 : decode cX12_judge 15 = .ok (.invokevirtual 237, 3) := by decide +kernel
theorem dX12_judge_18 : decode cX12_judge 18 = .ok (.ireturn, 1) := by decide +kernel
set_option maxRecDepth 100000 in
set_option maxHeartbeats 4000000 in
theorem c_X12_judge_0 (l : Launch) (D : va_G) (cy : Nat → ClassId) (a0 a1 a2 a3 a4 a5 a6 a7 a8 a9 a10 a11 a12 a13 a14 a15 a16 a17 : Nat) (x0 : Int32) (k0 : x0 < 0) : Ct l D cy yX12_judge cX12_judge 3 (some .int) 2 46 0 0 [(a0, .inr (12, [.ref a1, .ref a2, .ref a3, .ref a4, .ref a5, .int 0, .ref a6, .int 0, .int 0, .int 0, .int 0, .int 0, .int 0, .int 0, .int 0, .int 0, .int 0, .int (-1), .ref a7, .ref a8, .int 0, .ref a9, .int 0, .ref a10, .ref a11, .ref a12, .ref a13, .ref a14, .int 0, .ref a15, .ref a16, .ref a17])), (a1, .inl (cy 1, 1868, .inl (upd (upd (upd (fun _ => 0) 1 2) 2 20) 3 120))), (a7, .inl (cy 1, 1830, .inl (fun _ => 0))), (a8, .inl (cy 1, 1830, .inl (fun _ => 0)))] [.ref a0, .int x0] (fun u : Unit => some (.int 0)) (fun _ => True) (fun u : Unit => [(a1, .inl (cy 1, 1868, .inl (upd (upd (upd (fun _ => 0) 1 2) 2 20) 3 120))), (a7, .inl (cy 1, 1830, .inl (lxF (fun _ => 0) 2 20 (PP 20 2 (20 + 1 - 2))))), (a8, .inl (cy 1, 1830, .inl (lyF (fun _ => 0) 2 20 (PP 20 2 (20 + 1 - 2))))), (a0, .inr (12, [.ref a1, .ref a2, .ref a3, .ref a4, .ref a5, .int 1, .ref a6, .int 0, .int 0, .int 0, .int 0, .int 0, .int 0, .int 0, .int 0, .int 0, .int 0, .int (-1), .ref a7, .ref a8, .int 190, .ref a9, .int 0, .ref a10, .ref a11, .ref a12, .ref a13, .ref a14, .int 0, .ref a15, .ref a16, .ref a17]))]) := by
  refine Ct.of (by decide +kernel) (Nat.le_of_ble_eq_true rfl) ?_
  intro p e s m args below meth c A ls C hr hlocks hml hnm w hl
  have hl : lv_has ls 3 [(0, .ref a0), (1, .int x0)] := hl
  refine lv_aload_n C.1 C.2.1 dX12_judge_0 rfl (lv_at hl 0 rfl) ?_
  refine lv_iconst (v := 0) C.1 C.2.1 dX12_judge_1 (by decide) ?_
  refine r_put C w 0 rfl rfl 5 (by decide) fl_RX12_71 rfl (ty := .int) (tyX12_ok 5 (by decide)) rfl rfl (Nat.le_of_ble_eq_true rfl) [(a0, .inr (12, [.ref a1, .ref a2, .ref a3, .ref a4, .ref a5, .int 0, .ref a6, .int 0, .int 0, .int 0, .int 0, .int 0, .int 0, .int 0, .int 0, .int 0, .int 0, .int (-1), .ref a7, .ref a8, .int 0, .ref a9, .int 0, .ref a10, .ref a11, .ref a12, .ref a13, .ref a14, .int 0, .ref a15, .ref a16, .ref a17])), (a1, .inl (cy 1, 1868, .inl (upd (upd (upd (fun _ => 0) 1 2) 2 20) 3 120))), (a7, .inl (cy 1, 1830, .inl (fun _ => 0))), (a8, .inl (cy 1, 1830, .inl (fun _ => 0)))] rfl dX12_judge_2 (fun H locs w => ?_)
  refine lv_aload_n C.1 C.2.1 dX12_judge_5 rfl (lv_at hl 0 rfl) ?_
  refine lv_iload_n C.1 C.2.1 dX12_judge_6 rfl (lv_at hl 1 rfl) ?_
  refine r_callV C w fv_RX12_256 (c_X12_isWorld_0 l D cy a0 a1 a2 a3 a4 a5 a6 a7 a8 a9 a10 a11 a12 a13 a14 a15 a16 a17 x0 k0) (hl.1.trans hml.symm) [0, 1, 2, 3] [] (wr := []) ⟨rfl, rfl, rfl, rfl, by decide⟩ 0 rfl rfl rfl rfl rfl ⟨Nat.le_of_ble_eq_true rfl, Nat.le_of_ble_eq_true rfl, Nat.le_of_ble_eq_true rfl⟩ 0 0 ⟨rfl, rfl, Nat.le_of_ble_eq_true rfl, Nat.le_of_ble_eq_true rfl⟩ dX12_judge_7 (fun u H locs hp w => ?_)
  have w : Wd D A s.heap [(a0, .inr (12, [.ref a1, .ref a2, .ref a3, .ref a4, .ref a5, .int 0, .ref a6, .int 0, .int 0, .int 0, .int 0, .int 0, .int 0, .int 0, .int 0, .int 0, .int 0, .int (-1), .ref a7, .ref a8, .int 190, .ref a9, .int 0, .ref a10, .ref a11, .ref a12, .ref a13, .ref a14, .int 0, .ref a15, .ref a16, .ref a17])), (a1, .inl (cy 1, 1868, .inl (upd (upd (upd (fun _ => 0) 1 2) 2 20) 3 120))), (a7, .inl (cy 1, 1830, .inl (lxF (fun _ => 0) 2 20 (PP 20 2 (20 + 1 - 2))))), (a8, .inl (cy 1, 1830, .inl (lyF (fun _ => 0) 2 20 (PP 20 2 (20 + 1 - 2)))))] _ _ := w
  refine r_top (g2 := F0 m 10 ls [.int 0]) rfl ?_
  refine b_if_ne_f C (tgt := 19) dX12_judge_10 (by decide) (by decide) ?_
  refine lv_aload_n C.1 C.2.1 dX12_judge_13 rfl (lv_at hl 0 rfl) ?_
  refine lv_iconst (v := 1) C.1 C.2.1 dX12_judge_14 (by decide) ?_
  refine r_callV C w fv_RX12_237 (c_X12_fails_1 l D cy a0 a1 a2 a3 a4 a5 a6 a7 a8 a9 a10 a11 a12 a13 a14 a15 a16 a17) (hl.1.trans hml.symm) [0] [1, 2, 3] (wr := [(a1, .inl (cy 1, 1868, .inl (upd (upd (upd (fun _ => 0) 1 2) 2 20) 3 120))), (a7, .inl (cy 1, 1830, .inl (lxF (fun _ => 0) 2 20 (PP 20 2 (20 + 1 - 2))))), (a8, .inl (cy 1, 1830, .inl (lyF (fun _ => 0) 2 20 (PP 20 2 (20 + 1 - 2)))))]) ⟨rfl, rfl, rfl, rfl, by decide⟩ 0 rfl rfl rfl rfl rfl ⟨Nat.le_of_ble_eq_true rfl, Nat.le_of_ble_eq_true rfl, Nat.le_of_ble_eq_true rfl⟩ 0 0 ⟨rfl, rfl, Nat.le_of_ble_eq_true rfl, Nat.le_of_ble_eq_true rfl⟩ dX12_judge_15 (fun u H locs hp w => ?_)
  have w : Wd D A s.heap [(a1, .inl (cy 1, 1868, .inl (upd (upd (upd (fun _ => 0) 1 2) 2 20) 3 120))), (a7, .inl (cy 1, 1830, .inl (lxF (fun _ => 0) 2 20 (PP 20 2 (20 + 1 - 2))))), (a8, .inl (cy 1, 1830, .inl (lyF (fun _ => 0) 2 20 (PP 20 2 (20 + 1 - 2))))), (a0, .inr (12, [.ref a1, .ref a2, .ref a3, .ref a4, .ref a5, .int 1, .ref a6, .int 0, .int 0, .int 0, .int 0, .int 0, .int 0, .int 0, .int 0, .int 0, .int 0, .int (-1), .ref a7, .ref a8, .int 190, .ref a9, .int 0, .ref a10, .ref a11, .ref a12, .ref a13, .ref a14, .int 0, .ref a15, .ref a16, .ref a17]))] _ _ := w
  refine r_top (g2 := F0 m 18 ls [.int 0]) rfl ?_
  exact r_iret C w hlocks () hr rfl rfl trivial [0, 1, 2, 3] rfl rfl ⟨Nat.le_of_ble_eq_true rfl, Nat.le_of_ble_eq_true rfl⟩ dX12_judge_18
set_option maxRecDepth 100000 in
set_option maxHeartbeats 4000000 in
theorem c_X12_judge_1 (l : Launch) (D : va_G) (cy : Nat → ClassId) (a0 a1 a2 a3 a4 a5 a6 a7 a8 a9 a10 a11 a12 a13 a14 a15 a16 a17 : Nat) (x0 : Int32) (k0 : ¬ x0 < 0) (k1 : 189 < x0) : Ct l D cy yX12_judge cX12_judge 3 (some .int) 2 46 0 0 [(a0, .inr (12, [.ref a1, .ref a2, .ref a3, .ref a4, .ref a5, .int 0, .ref a6, .int 0, .int 0, .int 0, .int 0, .int 0, .int 0, .int 0, .int 0, .int 0, .int 0, .int (-1), .ref a7, .ref a8, .int 0, .ref a9, .int 0, .ref a10, .ref a11, .ref a12, .ref a13, .ref a14, .int 0, .ref a15, .ref a16, .ref a17])), (a1, .inl (cy 1, 1868, .inl (upd (upd (upd (fun _ => 0) 1 2) 2 20) 3 120))), (a7, .inl (cy 1, 1830, .inl (fun _ => 0))), (a8, .inl (cy 1, 1830, .inl (fun _ => 0)))] [.ref a0, .int x0] (fun u : Unit => some (.int 0)) (fun _ => True) (fun u : Unit => [(a1, .inl (cy 1, 1868, .inl (upd (upd (upd (fun _ => 0) 1 2) 2 20) 3 120))), (a7, .inl (cy 1, 1830, .inl (lxF (fun _ => 0) 2 20 (PP 20 2 (20 + 1 - 2))))), (a8, .inl (cy 1, 1830, .inl (lyF (fun _ => 0) 2 20 (PP 20 2 (20 + 1 - 2))))), (a0, .inr (12, [.ref a1, .ref a2, .ref a3, .ref a4, .ref a5, .int 1, .ref a6, .int 0, .int 0, .int 0, .int 0, .int 0, .int 0, .int 0, .int 0, .int 0, .int 0, .int (-1), .ref a7, .ref a8, .int 190, .ref a9, .int 0, .ref a10, .ref a11, .ref a12, .ref a13, .ref a14, .int 0, .ref a15, .ref a16, .ref a17]))]) := by
  refine Ct.of (by decide +kernel) (Nat.le_of_ble_eq_true rfl) ?_
  intro p e s m args below meth c A ls C hr hlocks hml hnm w hl
  have hl : lv_has ls 3 [(0, .ref a0), (1, .int x0)] := hl
  refine lv_aload_n C.1 C.2.1 dX12_judge_0 rfl (lv_at hl 0 rfl) ?_
  refine lv_iconst (v := 0) C.1 C.2.1 dX12_judge_1 (by decide) ?_
  refine r_put C w 0 rfl rfl 5 (by decide) fl_RX12_71 rfl (ty := .int) (tyX12_ok 5 (by decide)) rfl rfl (Nat.le_of_ble_eq_true rfl) [(a0, .inr (12, [.ref a1, .ref a2, .ref a3, .ref a4, .ref a5, .int 0, .ref a6, .int 0, .int 0, .int 0, .int 0, .int 0, .int 0, .int 0, .int 0, .int 0, .int 0, .int (-1), .ref a7, .ref a8, .int 0, .ref a9, .int 0, .ref a10, .ref a11, .ref a12, .ref a13, .ref a14, .int 0, .ref a15, .ref a16, .ref a17])), (a1, .inl (cy 1, 1868, .inl (upd (upd (upd (fun _ => 0) 1 2) 2 20) 3 120))), (a7, .inl (cy 1, 1830, .inl (fun _ => 0))), (a8, .inl (cy 1, 1830, .inl (fun _ => 0)))] rfl dX12_judge_2 (fun H locs w => ?_)
  refine lv_aload_n C.1 C.2.1 dX12_judge_5 rfl (lv_at hl 0 rfl) ?_
  refine lv_iload_n C.1 C.2.1 dX12_judge_6 rfl (lv_at hl 1 rfl) ?_
  refine r_callV C w fv_RX12_256 (c_X12_isWorld_2 l D cy a0 a1 a2 a3 a4 a5 a6 a7 a8 a9 a10 a11 a12 a13 a14 a15 a16 a17 x0 k0 k1) (hl.1.trans hml.symm) [0, 1, 2, 3] [] (wr := []) ⟨rfl, rfl, rfl, rfl, by decide⟩ 0 rfl rfl rfl rfl rfl ⟨Nat.le_of_ble_eq_true rfl, Nat.le_of_ble_eq_true rfl, Nat.le_of_ble_eq_true rfl⟩ 0 0 ⟨rfl, rfl, Nat.le_of_ble_eq_true rfl, Nat.le_of_ble_eq_true rfl⟩ dX12_judge_7 (fun u H locs hp w => ?_)
  have w : Wd D A s.heap [(a0, .inr (12, [.ref a1, .ref a2, .ref a3, .ref a4, .ref a5, .int 0, .ref a6, .int 0, .int 0, .int 0, .int 0, .int 0, .int 0, .int 0, .int 0, .int 0, .int 0, .int (-1), .ref a7, .ref a8, .int 190, .ref a9, .int 0, .ref a10, .ref a11, .ref a12, .ref a13, .ref a14, .int 0, .ref a15, .ref a16, .ref a17])), (a1, .inl (cy 1, 1868, .inl (upd (upd (upd (fun _ => 0) 1 2) 2 20) 3 120))), (a7, .inl (cy 1, 1830, .inl (lxF (fun _ => 0) 2 20 (PP 20 2 (20 + 1 - 2))))), (a8, .inl (cy 1, 1830, .inl (lyF (fun _ => 0) 2 20 (PP 20 2 (20 + 1 - 2)))))] _ _ := w
  refine r_top (g2 := F0 m 10 ls [.int 0]) rfl ?_
  refine b_if_ne_f C (tgt := 19) dX12_judge_10 (by decide) (by decide) ?_
  refine lv_aload_n C.1 C.2.1 dX12_judge_13 rfl (lv_at hl 0 rfl) ?_
  refine lv_iconst (v := 1) C.1 C.2.1 dX12_judge_14 (by decide) ?_
  refine r_callV C w fv_RX12_237 (c_X12_fails_1 l D cy a0 a1 a2 a3 a4 a5 a6 a7 a8 a9 a10 a11 a12 a13 a14 a15 a16 a17) (hl.1.trans hml.symm) [0] [1, 2, 3] (wr := [(a1, .inl (cy 1, 1868, .inl (upd (upd (upd (fun _ => 0) 1 2) 2 20) 3 120))), (a7, .inl (cy 1, 1830, .inl (lxF (fun _ => 0) 2 20 (PP 20 2 (20 + 1 - 2))))), (a8, .inl (cy 1, 1830, .inl (lyF (fun _ => 0) 2 20 (PP 20 2 (20 + 1 - 2)))))]) ⟨rfl, rfl, rfl, rfl, by decide⟩ 0 rfl rfl rfl rfl rfl ⟨Nat.le_of_ble_eq_true rfl, Nat.le_of_ble_eq_true rfl, Nat.le_of_ble_eq_true rfl⟩ 0 0 ⟨rfl, rfl, Nat.le_of_ble_eq_true rfl, Nat.le_of_ble_eq_true rfl⟩ dX12_judge_15 (fun u H locs hp w => ?_)
  have w : Wd D A s.heap [(a1, .inl (cy 1, 1868, .inl (upd (upd (upd (fun _ => 0) 1 2) 2 20) 3 120))), (a7, .inl (cy 1, 1830, .inl (lxF (fun _ => 0) 2 20 (PP 20 2 (20 + 1 - 2))))), (a8, .inl (cy 1, 1830, .inl (lyF (fun _ => 0) 2 20 (PP 20 2 (20 + 1 - 2))))), (a0, .inr (12, [.ref a1, .ref a2, .ref a3, .ref a4, .ref a5, .int 1, .ref a6, .int 0, .int 0, .int 0, .int 0, .int 0, .int 0, .int 0, .int 0, .int 0, .int 0, .int (-1), .ref a7, .ref a8, .int 190, .ref a9, .int 0, .ref a10, .ref a11, .ref a12, .ref a13, .ref a14, .int 0, .ref a15, .ref a16, .ref a17]))] _ _ := w
  refine r_top (g2 := F0 m 18 ls [.int 0]) rfl ?_
  exact r_iret C w hlocks () hr rfl rfl trivial [0, 1, 2, 3] rfl rfl ⟨Nat.le_of_ble_eq_true rfl, Nat.le_of_ble_eq_true rfl⟩ dX12_judge_18
theorem dX12_judge_19 : decode cX12_judge 19 = .ok (.aload_n 0, 1) := by decide +kernel
theorem dX12_judge_20 : decode cX12_judge 20 = .ok (.invokevirtual 330, 3) := by decide +kernel
theorem dX12_judge_23 : decode cX12_judge 23 = .ok (.iconst 0, 1) := by decide +kernel
theorem dX12_judge_24 : decode cX12_judge 24 = .ok (.istore_n 2, 1) := by decide +kernel
theorem dX12_judge_25 : decode cX12_judge 25 = .ok (.iload_n 2, 1) := by decide +kernel
theorem dX12_judge_26 : decode cX12_judge 26 = .ok (.aload_n 0, 1) := by decide +kernel
theorem dX12_judge_27 : decode cX12_judge 27 = .ok (.getfield 9, 3) := by decide +kernel
theorem dX12_judge_30 : decode cX12_judge 30 = .ok (.bipush 6, 2) := by decide +kernel
theorem dX12_judge_32 : decode cX12_judge 32 = .ok (.iaload, 1) := by decide +kernel
theorem dX12_judge_33 : decode cX12_judge 33 = .ok (.if_icmp .ge 22, 3) := by decide +kernel
theorem dX12_judge_55 : decode cX12_judge 55 = .ok (.iconst (-1), 1) := by decide +kernel
theorem dX12_judge_56 : decode cX12_judge 56 = .ok (.ireturn, 1) := by decide +kernel
set_option maxRecDepth 100000 in
set_option maxHeartbeats 4000000 in
theorem c_X12_judge_2 (l : Launch) (D : va_G) (cy : Nat → ClassId) (a0 a1 a2 a3 a4 a5 a6 a7 a8 a9 a10 a11 a12 a13 a14 a15 a16 a17 : Nat) (x0 : Int32) (k0 : ¬ x0 < 0) (k1 : ¬ 189 < x0) : Ct l D cy yX12_judge cX12_judge 3 (some .int) 3 72 0 0 [(a0, .inr (12, [.ref a1, .ref a2, .ref a3, .ref a4, .ref a5, .int 0, .ref a6, .int 0, .int 0, .int 0, .int 0, .int 0, .int 0, .int 0, .int 0, .int 0, .int 0, .int (-1), .ref a7, .ref a8, .int 0, .ref a9, .int 0, .ref a10, .ref a11, .ref a12, .ref a13, .ref a14, .int 0, .ref a15, .ref a16, .ref a17])), (a1, .inl (cy 1, 1868, .inl (upd (upd (upd (fun _ => 0) 1 2) 2 20) 3 120))), (a7, .inl (cy 1, 1830, .inl (fun _ => 0))), (a8, .inl (cy 1, 1830, .inl (fun _ => 0))), (a9, .inl (cy 2, 2465, .inr (.inl (fun _ => 0))))] [.ref a0, .int x0] (fun u : Unit => some (.int (-1))) (fun _ => True) (fun u : Unit => [(a1, .inl (cy 1, 1868, .inl (upd (upd (upd (fun _ => 0) 1 2) 2 20) 3 120))), (a7, .inl (cy 1, 1830, .inl (lxF (lxF (fun _ => 0) 2 20 (PP 20 2 (20 + 1 - 2))) 2 20 (PP 20 2 (20 + 1 - 2))))), (a8, .inl (cy 1, 1830, .inl (lyF (lyF (fun _ => 0) 2 20 (PP 20 2 (20 + 1 - 2))) 2 20 (PP 20 2 (20 + 1 - 2))))), (a0, .inr (12, [.ref a1, .ref a2, .ref a3, .ref a4, .ref a5, .int 0, .ref a6, .int 0, .int 0, .int 0, .int 0, .int 0, .int 0, .int 0, .int 0, .int 0, .int 0, .int (-1), .ref a7, .ref a8, .int 190, .ref a9, .int 21, .ref a10, .ref a11, .ref a12, .ref a13, .ref a14, .int 0, .ref a15, .ref a16, .ref a17])), (a9, .inl (cy 2, 2465, .inr (.inl (rwF (fun _ => 0) (PP 20 2 (20 + 1 - 2))))))]) := by
  refine Ct.of (by decide +kernel) (Nat.le_of_ble_eq_true rfl) ?_
  intro p e s m args below meth c A ls C hr hlocks hml hnm w hl
  have hl : lv_has ls 3 [(0, .ref a0), (1, .int x0)] := hl
  refine lv_aload_n C.1 C.2.1 dX12_judge_0 rfl (lv_at hl 0 rfl) ?_
  refine lv_iconst (v := 0) C.1 C.2.1 dX12_judge_1 (by decide) ?_
  refine r_put C w 0 rfl rfl 5 (by decide) fl_RX12_71 rfl (ty := .int) (tyX12_ok 5 (by decide)) rfl rfl (Nat.le_of_ble_eq_true rfl) [(a0, .inr (12, [.ref a1, .ref a2, .ref a3, .ref a4, .ref a5, .int 0, .ref a6, .int 0, .int 0, .int 0, .int 0, .int 0, .int 0, .int 0, .int 0, .int 0, .int 0, .int (-1), .ref a7, .ref a8, .int 0, .ref a9, .int 0, .ref a10, .ref a11, .ref a12, .ref a13, .ref a14, .int 0, .ref a15, .ref a16, .ref a17])), (a1, .inl (cy 1, 1868, .inl (upd (upd (upd (fun _ => 0) 1 2) 2 20) 3 120))), (a7, .inl (cy 1, 1830, .inl (fun _ => 0))), (a8, .inl (cy 1, 1830, .inl (fun _ => 0))), (a9, .inl (cy 2, 2465, .inr (.inl (fun _ => 0))))] rfl dX12_judge_2 (fun H locs w => ?_)
  refine lv_aload_n C.1 C.2.1 dX12_judge_5 rfl (lv_at hl 0 rfl) ?_
  refine lv_iload_n C.1 C.2.1 dX12_judge_6 rfl (lv_at hl 1 rfl) ?_
  refine r_callV C w fv_RX12_256 (c_X12_isWorld_1 l D cy a0 a1 a2 a3 a4 a5 a6 a7 a8 a9 a10 a11 a12 a13 a14 a15 a16 a17 x0 k0 k1) (hl.1.trans hml.symm) [0, 1, 2, 3] [4] (wr := [(a9, .inl (cy 2, 2465, .inr (.inl (fun _ => 0))))]) ⟨rfl, rfl, rfl, rfl, by decide⟩ 0 rfl rfl rfl rfl rfl ⟨Nat.le_of_ble_eq_true rfl, Nat.le_of_ble_eq_true rfl, Nat.le_of_ble_eq_true rfl⟩ 0 0 ⟨rfl, rfl, Nat.le_of_ble_eq_true rfl, Nat.le_of_ble_eq_true rfl⟩ dX12_judge_7 (fun u H locs hp w => ?_)
  have w : Wd D A s.heap [(a9, .inl (cy 2, 2465, .inr (.inl (fun _ => 0)))), (a0, .inr (12, [.ref a1, .ref a2, .ref a3, .ref a4, .ref a5, .int 0, .ref a6, .int 0, .int 0, .int 0, .int 0, .int 0, .int 0, .int 0, .int 0, .int 0, .int 0, .int (-1), .ref a7, .ref a8, .int 190, .ref a9, .int 0, .ref a10, .ref a11, .ref a12, .ref a13, .ref a14, .int 0, .ref a15, .ref a16, .ref a17])), (a1, .inl (cy 1, 1868, .inl (upd (upd (upd (fun _ => 0) 1 2) 2 20) 3 120))), (a7, .inl (cy 1, 1830, .inl (lxF (fun _ => 0) 2 20 (PP 20 2 (20 + 1 - 2))))), (a8, .inl (cy 1, 1830, .inl (lyF (fun _ => 0) 2 20 (PP 20 2 (20 + 1 - 2)))))] _ _ := w
  refine r_top (g2 := F0 m 10 ls [.int 1]) rfl ?_
  refine b_if_ne_t C (tgt := 19) dX12_judge_10 (by decide) (by decide) ?_
  refine lv_aload_n C.1 C.2.1 dX12_judge_19 rfl (lv_at hl 0 rfl) ?_
  refine r_callV C w fv_RX12_330 (c_X12_lays_1 l D cy a0 a1 a2 a3 a4 a5 a6 a7 a8 a9 a10 a11 a12 a13 a14 a15 a16 a17) (hl.1.trans hml.symm) [1, 2, 3, 4, 0] [] (wr := []) ⟨rfl, rfl, rfl, rfl, by decide⟩ 0 rfl rfl rfl rfl rfl ⟨Nat.le_of_ble_eq_true rfl, Nat.le_of_ble_eq_true rfl, Nat.le_of_ble_eq_true rfl⟩ 0 0 ⟨rfl, rfl, Nat.le_of_ble_eq_true rfl, Nat.le_of_ble_eq_true rfl⟩ dX12_judge_20 (fun u H locs hp w => ?_)
  have w : Wd D A s.heap [(a1, .inl (cy 1, 1868, .inl (upd (upd (upd (fun _ => 0) 1 2) 2 20) 3 120))), (a7, .inl (cy 1, 1830, .inl (lxF (lxF (fun _ => 0) 2 20 (PP 20 2 (20 + 1 - 2))) 2 20 (PP 20 2 (20 + 1 - 2))))), (a8, .inl (cy 1, 1830, .inl (lyF (lyF (fun _ => 0) 2 20 (PP 20 2 (20 + 1 - 2))) 2 20 (PP 20 2 (20 + 1 - 2))))), (a0, .inr (12, [.ref a1, .ref a2, .ref a3, .ref a4, .ref a5, .int 0, .ref a6, .int 0, .int 0, .int 0, .int 0, .int 0, .int 0, .int 0, .int 0, .int 0, .int 0, .int (-1), .ref a7, .ref a8, .int 190, .ref a9, .int 21, .ref a10, .ref a11, .ref a12, .ref a13, .ref a14, .int 0, .ref a15, .ref a16, .ref a17])), (a9, .inl (cy 2, 2465, .inr (.inl (rwF (fun _ => 0) (PP 20 2 (20 + 1 - 2))))))] _ _ := w
  refine r_top (g2 := F0 m 23 ls []) rfl ?_
  refine lv_iconst (v := 0) C.1 C.2.1 dX12_judge_23 (by decide) ?_
  refine lv_istore_n (lv' := [(2, .int 0), (0, .ref a0), (1, .int x0)]) C.1 C.2.1 dX12_judge_24 rfl hl (by decide) rfl (fun ls hl => ?_)
  refine lv_iload_n C.1 C.2.1 dX12_judge_25 rfl (lv_at hl 0 rfl) ?_
  refine lv_aload_n C.1 C.2.1 dX12_judge_26 rfl (lv_at hl 1 rfl) ?_
  refine r_get C w 3 rfl rfl 0 (by decide) fl_RX12_9 (v := .ref a1) rfl dX12_judge_27 ?_
  refine lv_bipush (v := 6) C.1 C.2.1 dX12_judge_30 (by decide) ?_
  refine r_iald C w 0 rfl (v := 0) (vinD (by decide)) rfl dX12_judge_32 ?_
  refine b_icmp_ge_t C (tgt := 55) dX12_judge_33 (by decide) (by decide) ?_
  refine lv_iconst (v := (-1)) C.1 C.2.1 dX12_judge_55 (by decide) ?_
  exact r_iret C w hlocks () hr rfl rfl trivial [0, 1, 2, 3, 4] rfl rfl ⟨Nat.le_of_ble_eq_true rfl, Nat.le_of_ble_eq_true rfl⟩ dX12_judge_56
theorem dX12_strikes_0 : decode cX12_strikes 0 = .ok (.aload_n 0, 1) := by decide +kernel
theorem dX12_strikes_1 : decode cX12_strikes 1 = .ok (.iload_n 1, 1) := by decide +kernel
theorem dX12_strikes_2 : decode cX12_strikes 2 = .ok (.i2l, 1) := by decide +kernel
theorem dX12_strikes_3 : decode cX12_strikes 3 = .ok (.lconst 0, 1) := by decide +kernel
theorem dX12_strikes_4 : decode cX12_strikes 4 = .ok (.lconst 1, 1) := by decide +kernel
theorem dX12_strikes_5 : decode cX12_strikes 5 = .ok (.invokestatic 133, 3) := by decide +kernel
theorem dX12_strikes_8 : decode cX12_strikes 8 = .ok (.ifCond .eq 7, 3) := by decide +kernel
theorem dX12_strikes_15 : decode cX12_strikes 15 = .ok (.iconst 1, 1) := by decide +kernel
theorem dX12_strikes_16 : decode cX12_strikes 16 = .ok (.putfield 71, 3) := by decide +kernel
theorem dX12_strikes_19 : decode cX12_strikes 19 = .ok (.aload_n 0, 1) := by decide +kernel
theorem dX12_strikes_20 : decode cX12_strikes 20 = .ok (.getfield 71, 3) := by decide +kernel
theorem dX12_strikes_23 : decode cX12_strikes 23 = .ok (.ifCond .le 5, 3) := by decide +kernel
theorem dX12_strikes_26 : decode cX12_strikes 26 = .ok (.iconst 0, 1) := by decide +kernel
theorem dX12_strikes_27 : decode cX12_strikes 27 = .ok (.ireturn, 1) := by decide +kernel
set_option maxRecDepth 100000 in
set_option maxHeartbeats 4000000 in
theorem c_X12_strikes_0 (l : Launch) (D : va_G) (cy : Nat → ClassId) (a0 a1 a2 a3 a4 a5 a6 a7 a8 a9 a10 a11 a12 a13 a14 a15 a16 a17 : Nat) (x0 : Int32) (k0 : x0 < 0) : Ct l D cy yX12_strikes cX12_strikes 6 (some .int) 1 25 0 0 [(a0, .inr (12, [.ref a1, .ref a2, .ref a3, .ref a4, .ref a5, .int 0, .ref a6, .int 0, .int 0, .int 0, .int 0, .int 0, .int 0, .int 0, .int 0, .int 0, .int 0, .int (-1), .ref a7, .ref a8, .int 0, .ref a9, .int 0, .ref a10, .ref a11, .ref a12, .ref a13, .ref a14, .int 0, .ref a15, .ref a16, .ref a17]))] [.ref a0, .int x0] (fun u : Unit => some (.int 0)) (fun _ => True) (fun u : Unit => [(a0, .inr (12, [.ref a1, .ref a2, .ref a3, .ref a4, .ref a5, .int 1, .ref a6, .int 0, .int 0, .int 0, .int 0, .int 0, .int 0, .int 0, .int 0, .int 0, .int 0, .int (-1), .ref a7, .ref a8, .int 0, .ref a9, .int 0, .ref a10, .ref a11, .ref a12, .ref a13, .ref a14, .int 0, .ref a15, .ref a16, .ref a17]))]) := by
  refine Ct.of (by decide +kernel) (Nat.le_of_ble_eq_true rfl) ?_
  intro p e s m args below meth c A ls C hr hlocks hml hnm w hl
  have hl : lv_has ls 6 [(0, .ref a0), (1, .int x0)] := hl
  refine lv_aload_n C.1 C.2.1 dX12_strikes_0 rfl (lv_at hl 0 rfl) ?_
  refine lv_iload_n C.1 C.2.1 dX12_strikes_1 rfl (lv_at hl 1 rfl) ?_
  refine lv_i2l (v := (Int32.toInt64 x0)) C.1 C.2.1 dX12_strikes_2 rfl ?_
  refine lv_lconst (v := 0) C.1 C.2.1 dX12_strikes_3 (by decide) ?_
  refine lv_lconst (v := 1) C.1 C.2.1 dX12_strikes_4 (by decide) ?_
  refine r_callS C w fs_RX12_133 (c_X12_within_15 l D cy x0 k0) (hl.1.trans hml.symm) [] [0] (wr := [(a0, .inr (12, [.ref a1, .ref a2, .ref a3, .ref a4, .ref a5, .int 0, .ref a6, .int 0, .int 0, .int 0, .int 0, .int 0, .int 0, .int 0, .int 0, .int 0, .int 0, .int (-1), .ref a7, .ref a8, .int 0, .ref a9, .int 0, .ref a10, .ref a11, .ref a12, .ref a13, .ref a14, .int 0, .ref a15, .ref a16, .ref a17]))]) ⟨rfl, rfl, rfl, rfl, by decide⟩ rfl rfl ⟨Nat.le_of_ble_eq_true rfl, Nat.le_of_ble_eq_true rfl, Nat.le_of_ble_eq_true rfl⟩ 0 0 ⟨rfl, rfl, Nat.le_of_ble_eq_true rfl, Nat.le_of_ble_eq_true rfl⟩ dX12_strikes_5 (fun u H locs hp w => ?_)
  have w : Wd D A s.heap [(a0, .inr (12, [.ref a1, .ref a2, .ref a3, .ref a4, .ref a5, .int 0, .ref a6, .int 0, .int 0, .int 0, .int 0, .int 0, .int 0, .int 0, .int 0, .int 0, .int 0, .int (-1), .ref a7, .ref a8, .int 0, .ref a9, .int 0, .ref a10, .ref a11, .ref a12, .ref a13, .ref a14, .int 0, .ref a15, .ref a16, .ref a17]))] _ _ := w
  refine r_top (g2 := F0 m 8 ls [.int 0, .ref a0]) rfl ?_
  refine b_if_eq_t C (tgt := 15) dX12_strikes_8 (by decide) (by decide) ?_
  refine lv_iconst (v := 1) C.1 C.2.1 dX12_strikes_15 (by decide) ?_
  refine r_put C w 0 rfl rfl 5 (by decide) fl_RX12_71 rfl (ty := .int) (tyX12_ok 5 (by decide)) rfl rfl (Nat.le_of_ble_eq_true rfl) [(a0, .inr (12, [.ref a1, .ref a2, .ref a3, .ref a4, .ref a5, .int 1, .ref a6, .int 0, .int 0, .int 0, .int 0, .int 0, .int 0, .int 0, .int 0, .int 0, .int 0, .int (-1), .ref a7, .ref a8, .int 0, .ref a9, .int 0, .ref a10, .ref a11, .ref a12, .ref a13, .ref a14, .int 0, .ref a15, .ref a16, .ref a17]))] rfl dX12_strikes_16 (fun H locs w => ?_)
  refine lv_aload_n C.1 C.2.1 dX12_strikes_19 rfl (lv_at hl 0 rfl) ?_
  refine r_get C w 0 rfl rfl 5 (by decide) fl_RX12_71 (v := .int 1) rfl dX12_strikes_20 ?_
  refine b_if_le_f C (tgt := 28) dX12_strikes_23 (by decide) (by decide) ?_
  refine lv_iconst (v := 0) C.1 C.2.1 dX12_strikes_26 (by decide) ?_
  exact r_iret C w hlocks () hr rfl rfl trivial [0] rfl rfl ⟨Nat.le_of_ble_eq_true rfl, Nat.le_of_ble_eq_true rfl⟩ dX12_strikes_27
theorem dX12_strikes_11 : decode cX12_strikes 11 = .ok (.iconst 0, 1) := by decide +kernel
theorem dX12_strikes_12 : decode cX12_strikes 12 = .ok (.goto 4, 3) := by decide +kernel
theorem dX12_strikes_28 : decode cX12_strikes 28 = .ok (.aload_n 0, 1) := by decide +kernel
theorem dX12_strikes_29 : decode cX12_strikes 29 = .ok (.invokevirtual 330, 3) := by decide +kernel
theorem dX12_strikes_32 : decode cX12_strikes 32 = .ok (.iconst (-1), 1) := by decide +kernel
theorem dX12_strikes_33 : decode cX12_strikes 33 = .ok (.istore_n 2, 1) := by decide +kernel
theorem dX12_strikes_34 : decode cX12_strikes 34 = .ok (.iconst 0, 1) := by decide +kernel
theorem dX12_strikes_35 : decode cX12_strikes 35 = .ok (.istore_n 3, 1) := by decide +kernel
theorem dX12_strikes_36 : decode cX12_strikes 36 = .ok (.iconst 0, 1) := by decide +kernel
theorem dX12_strikes_37 : decode cX12_strikes 37 = .ok (.istore 4, 2) := by decide +kernel
theorem dX12_strikes_39 : decode cX12_strikes 39 = .ok (.iload 4, 2) := by decide +kernel
theorem dX12_strikes_41 : decode cX12_strikes 41 = .ok (.aload_n 0, 1) := by decide +kernel
theorem dX12_strikes_42 : decode cX12_strikes 42 = .ok (.getfield 9, 3) := by decide +kernel
theorem dX12_strikes_45 : decode cX12_strikes 45 = .ok (.bipush 6, 2) := by decide +kernel
theorem dX12_strikes_47 : decode cX12_strikes 47 = .ok (.iaload, 1) := by decide +kernel
theorem dX12_strikes_48 : decode cX12_strikes 48 = .ok (.if_icmp .ge 46, 3) := by decide +kernel
theorem dX12_strikes_94 : decode cX12_strikes 94 = .ok (.iload_n 1, 1) := by decide +kernel
theorem dX12_strikes_95 : decode cX12_strikes 95 = .ok (.ifCond .ne 7, 3) := by decide +kernel
theorem dX12_strikes_102 : decode cX12_strikes 102 = .ok (.iload_n 2, 1) := by decide +kernel
theorem dX12_strikes_103 : decode cX12_strikes 103 = .ok (.ireturn, 1) := by decide +kernel
set_option maxRecDepth 100000 in
set_option maxHeartbeats 4000000 in
theorem c_X12_strikes_1 (l : Launch) (D : va_G) (cy : Nat → ClassId) (a0 a1 a2 a3 a4 a5 a6 a7 a8 a9 a10 a11 a12 a13 a14 a15 a16 a17 : Nat) (x0 : Int32) (k0 : ¬ x0 < 0) (k1 : ¬ 1 < x0) (k2 : ¬ x0 = 0) : Ct l D cy yX12_strikes cX12_strikes 6 (some .int) 3 72 0 0 [(a0, .inr (12, [.ref a1, .ref a2, .ref a3, .ref a4, .ref a5, .int 0, .ref a6, .int 0, .int 0, .int 0, .int 0, .int 0, .int 0, .int 0, .int 0, .int 0, .int 0, .int (-1), .ref a7, .ref a8, .int 0, .ref a9, .int 0, .ref a10, .ref a11, .ref a12, .ref a13, .ref a14, .int 0, .ref a15, .ref a16, .ref a17])), (a1, .inl (cy 1, 1868, .inl (upd (upd (upd (fun _ => 0) 1 2) 2 20) 3 120))), (a7, .inl (cy 1, 1830, .inl (fun _ => 0))), (a8, .inl (cy 1, 1830, .inl (fun _ => 0))), (a9, .inl (cy 2, 2465, .inr (.inl (fun _ => 0))))] [.ref a0, .int x0] (fun u : Unit => some (.int (-1))) (fun _ => True) (fun u : Unit => [(a1, .inl (cy 1, 1868, .inl (upd (upd (upd (fun _ => 0) 1 2) 2 20) 3 120))), (a7, .inl (cy 1, 1830, .inl (lxF (fun _ => 0) 2 20 (PP 20 2 (20 + 1 - 2))))), (a8, .inl (cy 1, 1830, .inl (lyF (fun _ => 0) 2 20 (PP 20 2 (20 + 1 - 2))))), (a0, .inr (12, [.ref a1, .ref a2, .ref a3, .ref a4, .ref a5, .int 0, .ref a6, .int 0, .int 0, .int 0, .int 0, .int 0, .int 0, .int 0, .int 0, .int 0, .int 0, .int (-1), .ref a7, .ref a8, .int 190, .ref a9, .int 21, .ref a10, .ref a11, .ref a12, .ref a13, .ref a14, .int 0, .ref a15, .ref a16, .ref a17])), (a9, .inl (cy 2, 2465, .inr (.inl (rwF (fun _ => 0) (PP 20 2 (20 + 1 - 2))))))]) := by
  refine Ct.of (by decide +kernel) (Nat.le_of_ble_eq_true rfl) ?_
  intro p e s m args below meth c A ls C hr hlocks hml hnm w hl
  have hl : lv_has ls 6 [(0, .ref a0), (1, .int x0)] := hl
  refine lv_aload_n C.1 C.2.1 dX12_strikes_0 rfl (lv_at hl 0 rfl) ?_
  refine lv_iload_n C.1 C.2.1 dX12_strikes_1 rfl (lv_at hl 1 rfl) ?_
  refine lv_i2l (v := (Int32.toInt64 x0)) C.1 C.2.1 dX12_strikes_2 rfl ?_
  refine lv_lconst (v := 0) C.1 C.2.1 dX12_strikes_3 (by decide) ?_
  refine lv_lconst (v := 1) C.1 C.2.1 dX12_strikes_4 (by decide) ?_
  refine r_callS C w fs_RX12_133 (c_X12_within_17 l D cy x0 k0 k1) (hl.1.trans hml.symm) [] [0, 1, 2, 3, 4] (wr := [(a0, .inr (12, [.ref a1, .ref a2, .ref a3, .ref a4, .ref a5, .int 0, .ref a6, .int 0, .int 0, .int 0, .int 0, .int 0, .int 0, .int 0, .int 0, .int 0, .int 0, .int (-1), .ref a7, .ref a8, .int 0, .ref a9, .int 0, .ref a10, .ref a11, .ref a12, .ref a13, .ref a14, .int 0, .ref a15, .ref a16, .ref a17])), (a1, .inl (cy 1, 1868, .inl (upd (upd (upd (fun _ => 0) 1 2) 2 20) 3 120))), (a7, .inl (cy 1, 1830, .inl (fun _ => 0))), (a8, .inl (cy 1, 1830, .inl (fun _ => 0))), (a9, .inl (cy 2, 2465, .inr (.inl (fun _ => 0))))]) ⟨rfl, rfl, rfl, rfl, by decide⟩ rfl rfl ⟨Nat.le_of_ble_eq_true rfl, Nat.le_of_ble_eq_true rfl, Nat.le_of_ble_eq_true rfl⟩ 0 0 ⟨rfl, rfl, Nat.le_of_ble_eq_true rfl, Nat.le_of_ble_eq_true rfl⟩ dX12_strikes_5 (fun u H locs hp w => ?_)
  have w : Wd D A s.heap [(a0, .inr (12, [.ref a1, .ref a2, .ref a3, .ref a4, .ref a5, .int 0, .ref a6, .int 0, .int 0, .int 0, .int 0, .int 0, .int 0, .int 0, .int 0, .int 0, .int 0, .int (-1), .ref a7, .ref a8, .int 0, .ref a9, .int 0, .ref a10, .ref a11, .ref a12, .ref a13, .ref a14, .int 0, .ref a15, .ref a16, .ref a17])), (a1, .inl (cy 1, 1868, .inl (upd (upd (upd (fun _ => 0) 1 2) 2 20) 3 120))), (a7, .inl (cy 1, 1830, .inl (fun _ => 0))), (a8, .inl (cy 1, 1830, .inl (fun _ => 0))), (a9, .inl (cy 2, 2465, .inr (.inl (fun _ => 0))))] _ _ := w
  refine r_top (g2 := F0 m 8 ls [.int 1, .ref a0]) rfl ?_
  refine b_if_eq_f C (tgt := 15) dX12_strikes_8 (by decide) (by decide) ?_
  refine lv_iconst (v := 0) C.1 C.2.1 dX12_strikes_11 (by decide) ?_
  refine lv_goto (tgt := 16) C.1 C.2.1 dX12_strikes_12 (by decide) ?_
  refine r_put C w 0 rfl rfl 5 (by decide) fl_RX12_71 rfl (ty := .int) (tyX12_ok 5 (by decide)) rfl rfl (Nat.le_of_ble_eq_true rfl) [(a0, .inr (12, [.ref a1, .ref a2, .ref a3, .ref a4, .ref a5, .int 0, .ref a6, .int 0, .int 0, .int 0, .int 0, .int 0, .int 0, .int 0, .int 0, .int 0, .int 0, .int (-1), .ref a7, .ref a8, .int 0, .ref a9, .int 0, .ref a10, .ref a11, .ref a12, .ref a13, .ref a14, .int 0, .ref a15, .ref a16, .ref a17])), (a1, .inl (cy 1, 1868, .inl (upd (upd (upd (fun _ => 0) 1 2) 2 20) 3 120))), (a7, .inl (cy 1, 1830, .inl (fun _ => 0))), (a8, .inl (cy 1, 1830, .inl (fun _ => 0))), (a9, .inl (cy 2, 2465, .inr (.inl (fun _ => 0))))] rfl dX12_strikes_16 (fun H locs w => ?_)
  refine lv_aload_n C.1 C.2.1 dX12_strikes_19 rfl (lv_at hl 0 rfl) ?_
  refine r_get C w 0 rfl rfl 5 (by decide) fl_RX12_71 (v := .int 0) rfl dX12_strikes_20 ?_
  refine b_if_le_t C (tgt := 28) dX12_strikes_23 (by decide) (by decide) ?_
  refine lv_aload_n C.1 C.2.1 dX12_strikes_28 rfl (lv_at hl 0 rfl) ?_
  refine r_callV C w fv_RX12_330 (c_X12_lays_2 l D cy a0 a1 a2 a3 a4 a5 a6 a7 a8 a9 a10 a11 a12 a13 a14 a15 a16 a17) (hl.1.trans hml.symm) [0, 1, 2, 3, 4] [] (wr := []) ⟨rfl, rfl, rfl, rfl, by decide⟩ 0 rfl rfl rfl rfl rfl ⟨Nat.le_of_ble_eq_true rfl, Nat.le_of_ble_eq_true rfl, Nat.le_of_ble_eq_true rfl⟩ 0 0 ⟨rfl, rfl, Nat.le_of_ble_eq_true rfl, Nat.le_of_ble_eq_true rfl⟩ dX12_strikes_29 (fun u H locs hp w => ?_)
  have w : Wd D A s.heap [(a1, .inl (cy 1, 1868, .inl (upd (upd (upd (fun _ => 0) 1 2) 2 20) 3 120))), (a7, .inl (cy 1, 1830, .inl (lxF (fun _ => 0) 2 20 (PP 20 2 (20 + 1 - 2))))), (a8, .inl (cy 1, 1830, .inl (lyF (fun _ => 0) 2 20 (PP 20 2 (20 + 1 - 2))))), (a0, .inr (12, [.ref a1, .ref a2, .ref a3, .ref a4, .ref a5, .int 0, .ref a6, .int 0, .int 0, .int 0, .int 0, .int 0, .int 0, .int 0, .int 0, .int 0, .int 0, .int (-1), .ref a7, .ref a8, .int 190, .ref a9, .int 21, .ref a10, .ref a11, .ref a12, .ref a13, .ref a14, .int 0, .ref a15, .ref a16, .ref a17])), (a9, .inl (cy 2, 2465, .inr (.inl (rwF (fun _ => 0) (PP 20 2 (20 + 1 - 2))))))] _ _ := w
  refine r_top (g2 := F0 m 32 ls []) rfl ?_
  refine lv_iconst (v := (-1)) C.1 C.2.1 dX12_strikes_32 (by decide) ?_
  refine lv_istore_n (lv' := [(2, .int (-1)), (0, .ref a0), (1, .int x0)]) C.1 C.2.1 dX12_strikes_33 rfl hl (by decide) rfl (fun ls hl => ?_)
  refine lv_iconst (v := 0) C.1 C.2.1 dX12_strikes_34 (by decide) ?_
  refine lv_istore_n (lv' := [(3, .int 0), (2, .int (-1)), (0, .ref a0), (1, .int x0)]) C.1 C.2.1 dX12_strikes_35 rfl hl (by decide) rfl (fun ls hl => ?_)
  refine lv_iconst (v := 0) C.1 C.2.1 dX12_strikes_36 (by decide) ?_
  refine lv_istore (lv' := [(4, .int 0), (3, .int 0), (2, .int (-1)), (0, .ref a0), (1, .int x0)]) C.1 C.2.1 dX12_strikes_37 hl (by decide) rfl (fun ls hl => ?_)
  refine lv_iload C.1 C.2.1 dX12_strikes_39 (lv_at hl 0 rfl) ?_
  refine lv_aload_n C.1 C.2.1 dX12_strikes_41 rfl (lv_at hl 3 rfl) ?_
  refine r_get C w 3 rfl rfl 0 (by decide) fl_RX12_9 (v := .ref a1) rfl dX12_strikes_42 ?_
  refine lv_bipush (v := 6) C.1 C.2.1 dX12_strikes_45 (by decide) ?_
  refine r_iald C w 0 rfl (v := 0) (vinD (by decide)) rfl dX12_strikes_47 ?_
  refine b_icmp_ge_t C (tgt := 94) dX12_strikes_48 (by decide) (by decide) ?_
  refine lv_iload_n C.1 C.2.1 dX12_strikes_94 rfl (lv_at hl 4 rfl) ?_
  refine b_if_ne_t C (tgt := 102) dX12_strikes_95 (by decide) k2 ?_
  refine lv_iload_n C.1 C.2.1 dX12_strikes_102 rfl (lv_at hl 2 rfl) ?_
  exact r_iret C w hlocks () hr rfl rfl trivial [0, 1, 2, 3, 4] rfl rfl ⟨Nat.le_of_ble_eq_true rfl, Nat.le_of_ble_eq_true rfl⟩ dX12_strikes_103
theorem dX12_strikes_98 : decode cX12_strikes 98 = .ok (.iload_n 3, 1) := by decide +kernel
theorem dX12_strikes_99 : decode cX12_strikes 99 = .ok (.goto 4, 3) := by decide +kernel
set_option maxRecDepth 100000 in
set_option maxHeartbeats 4000000 in
theorem c_X12_strikes_2 (l : Launch) (D : va_G) (cy : Nat → ClassId) (a0 a1 a2 a3 a4 a5 a6 a7 a8 a9 a10 a11 a12 a13 a14 a15 a16 a17 : Nat) : Ct l D cy yX12_strikes cX12_strikes 6 (some .int) 3 72 0 0 [(a0, .inr (12, [.ref a1, .ref a2, .ref a3, .ref a4, .ref a5, .int 0, .ref a6, .int 0, .int 0, .int 0, .int 0, .int 0, .int 0, .int 0, .int 0, .int 0, .int 0, .int (-1), .ref a7, .ref a8, .int 0, .ref a9, .int 0, .ref a10, .ref a11, .ref a12, .ref a13, .ref a14, .int 0, .ref a15, .ref a16, .ref a17])), (a1, .inl (cy 1, 1868, .inl (upd (upd (upd (fun _ => 0) 1 2) 2 20) 3 120))), (a7, .inl (cy 1, 1830, .inl (fun _ => 0))), (a8, .inl (cy 1, 1830, .inl (fun _ => 0))), (a9, .inl (cy 2, 2465, .inr (.inl (fun _ => 0))))] [.ref a0, .int 0] (fun u : Unit => some (.int 0)) (fun _ => True) (fun u : Unit => [(a1, .inl (cy 1, 1868, .inl (upd (upd (upd (fun _ => 0) 1 2) 2 20) 3 120))), (a7, .inl (cy 1, 1830, .inl (lxF (fun _ => 0) 2 20 (PP 20 2 (20 + 1 - 2))))), (a8, .inl (cy 1, 1830, .inl (lyF (fun _ => 0) 2 20 (PP 20 2 (20 + 1 - 2))))), (a0, .inr (12, [.ref a1, .ref a2, .ref a3, .ref a4, .ref a5, .int 0, .ref a6, .int 0, .int 0, .int 0, .int 0, .int 0, .int 0, .int 0, .int 0, .int 0, .int 0, .int (-1), .ref a7, .ref a8, .int 190, .ref a9, .int 21, .ref a10, .ref a11, .ref a12, .ref a13, .ref a14, .int 0, .ref a15, .ref a16, .ref a17])), (a9, .inl (cy 2, 2465, .inr (.inl (rwF (fun _ => 0) (PP 20 2 (20 + 1 - 2))))))]) := by
  refine Ct.of (by decide +kernel) (Nat.le_of_ble_eq_true rfl) ?_
  intro p e s m args below meth c A ls C hr hlocks hml hnm w hl
  have hl : lv_has ls 6 [(0, .ref a0), (1, .int 0)] := hl
  refine lv_aload_n C.1 C.2.1 dX12_strikes_0 rfl (lv_at hl 0 rfl) ?_
  refine lv_iload_n C.1 C.2.1 dX12_strikes_1 rfl (lv_at hl 1 rfl) ?_
  refine lv_i2l (v := 0) C.1 C.2.1 dX12_strikes_2 (by decide) ?_
  refine lv_lconst (v := 0) C.1 C.2.1 dX12_strikes_3 (by decide) ?_
  refine lv_lconst (v := 1) C.1 C.2.1 dX12_strikes_4 (by decide) ?_
  refine r_callS C w fs_RX12_133 (c_X12_within_18 l D cy) (hl.1.trans hml.symm) [] [0, 1, 2, 3, 4] (wr := [(a0, .inr (12, [.ref a1, .ref a2, .ref a3, .ref a4, .ref a5, .int 0, .ref a6, .int 0, .int 0, .int 0, .int 0, .int 0, .int 0, .int 0, .int 0, .int 0, .int 0, .int (-1), .ref a7, .ref a8, .int 0, .ref a9, .int 0, .ref a10, .ref a11, .ref a12, .ref a13, .ref a14, .int 0, .ref a15, .ref a16, .ref a17])), (a1, .inl (cy 1, 1868, .inl (upd (upd (upd (fun _ => 0) 1 2) 2 20) 3 120))), (a7, .inl (cy 1, 1830, .inl (fun _ => 0))), (a8, .inl (cy 1, 1830, .inl (fun _ => 0))), (a9, .inl (cy 2, 2465, .inr (.inl (fun _ => 0))))]) ⟨rfl, rfl, rfl, rfl, by decide⟩ rfl rfl ⟨Nat.le_of_ble_eq_true rfl, Nat.le_of_ble_eq_true rfl, Nat.le_of_ble_eq_true rfl⟩ 0 0 ⟨rfl, rfl, Nat.le_of_ble_eq_true rfl, Nat.le_of_ble_eq_true rfl⟩ dX12_strikes_5 (fun u H locs hp w => ?_)
  have w : Wd D A s.heap [(a0, .inr (12, [.ref a1, .ref a2, .ref a3, .ref a4, .ref a5, .int 0, .ref a6, .int 0, .int 0, .int 0, .int 0, .int 0, .int 0, .int 0, .int 0, .int 0, .int 0, .int (-1), .ref a7, .ref a8, .int 0, .ref a9, .int 0, .ref a10, .ref a11, .ref a12, .ref a13, .ref a14, .int 0, .ref a15, .ref a16, .ref a17])), (a1, .inl (cy 1, 1868, .inl (upd (upd (upd (fun _ => 0) 1 2) 2 20) 3 120))), (a7, .inl (cy 1, 1830, .inl (fun _ => 0))), (a8, .inl (cy 1, 1830, .inl (fun _ => 0))), (a9, .inl (cy 2, 2465, .inr (.inl (fun _ => 0))))] _ _ := w
  refine r_top (g2 := F0 m 8 ls [.int 1, .ref a0]) rfl ?_
  refine b_if_eq_f C (tgt := 15) dX12_strikes_8 (by decide) (by decide) ?_
  refine lv_iconst (v := 0) C.1 C.2.1 dX12_strikes_11 (by decide) ?_
  refine lv_goto (tgt := 16) C.1 C.2.1 dX12_strikes_12 (by decide) ?_
  refine r_put C w 0 rfl rfl 5 (by decide) fl_RX12_71 rfl (ty := .int) (tyX12_ok 5 (by decide)) rfl rfl (Nat.le_of_ble_eq_true rfl) [(a0, .inr (12, [.ref a1, .ref a2, .ref a3, .ref a4, .ref a5, .int 0, .ref a6, .int 0, .int 0, .int 0, .int 0, .int 0, .int 0, .int 0, .int 0, .int 0, .int 0, .int (-1), .ref a7, .ref a8, .int 0, .ref a9, .int 0, .ref a10, .ref a11, .ref a12, .ref a13, .ref a14, .int 0, .ref a15, .ref a16, .ref a17])), (a1, .inl (cy 1, 1868, .inl (upd (upd (upd (fun _ => 0) 1 2) 2 20) 3 120))), (a7, .inl (cy 1, 1830, .inl (fun _ => 0))), (a8, .inl (cy 1, 1830, .inl (fun _ => 0))), (a9, .inl (cy 2, 2465, .inr (.inl (fun _ => 0))))] rfl dX12_strikes_16 (fun H locs w => ?_)
  refine lv_aload_n C.1 C.2.1 dX12_strikes_19 rfl (lv_at hl 0 rfl) ?_
  refine r_get C w 0 rfl rfl 5 (by decide) fl_RX12_71 (v := .int 0) rfl dX12_strikes_20 ?_
  refine b_if_le_t C (tgt := 28) dX12_strikes_23 (by decide) (by decide) ?_
  refine lv_aload_n C.1 C.2.1 dX12_strikes_28 rfl (lv_at hl 0 rfl) ?_
  refine r_callV C w fv_RX12_330 (c_X12_lays_2 l D cy a0 a1 a2 a3 a4 a5 a6 a7 a8 a9 a10 a11 a12 a13 a14 a15 a16 a17) (hl.1.trans hml.symm) [0, 1, 2, 3, 4] [] (wr := []) ⟨rfl, rfl, rfl, rfl, by decide⟩ 0 rfl rfl rfl rfl rfl ⟨Nat.le_of_ble_eq_true rfl, Nat.le_of_ble_eq_true rfl, Nat.le_of_ble_eq_true rfl⟩ 0 0 ⟨rfl, rfl, Nat.le_of_ble_eq_true rfl, Nat.le_of_ble_eq_true rfl⟩ dX12_strikes_29 (fun u H locs hp w => ?_)
  have w : Wd D A s.heap [(a1, .inl (cy 1, 1868, .inl (upd (upd (upd (fun _ => 0) 1 2) 2 20) 3 120))), (a7, .inl (cy 1, 1830, .inl (lxF (fun _ => 0) 2 20 (PP 20 2 (20 + 1 - 2))))), (a8, .inl (cy 1, 1830, .inl (lyF (fun _ => 0) 2 20 (PP 20 2 (20 + 1 - 2))))), (a0, .inr (12, [.ref a1, .ref a2, .ref a3, .ref a4, .ref a5, .int 0, .ref a6, .int 0, .int 0, .int 0, .int 0, .int 0, .int 0, .int 0, .int 0, .int 0, .int 0, .int (-1), .ref a7, .ref a8, .int 190, .ref a9, .int 21, .ref a10, .ref a11, .ref a12, .ref a13, .ref a14, .int 0, .ref a15, .ref a16, .ref a17])), (a9, .inl (cy 2, 2465, .inr (.inl (rwF (fun _ => 0) (PP 20 2 (20 + 1 - 2))))))] _ _ := w
  refine r_top (g2 := F0 m 32 ls []) rfl ?_
  refine lv_iconst (v := (-1)) C.1 C.2.1 dX12_strikes_32 (by decide) ?_
  refine lv_istore_n (lv' := [(2, .int (-1)), (0, .ref a0), (1, .int 0)]) C.1 C.2.1 dX12_strikes_33 rfl hl (by decide) rfl (fun ls hl => ?_)
  refine lv_iconst (v := 0) C.1 C.2.1 dX12_strikes_34 (by decide) ?_
  refine lv_istore_n (lv' := [(3, .int 0), (2, .int (-1)), (0, .ref a0), (1, .int 0)]) C.1 C.2.1 dX12_strikes_35 rfl hl (by decide) rfl (fun ls hl => ?_)
  refine lv_iconst (v := 0) C.1 C.2.1 dX12_strikes_36 (by decide) ?_
  refine lv_istore (lv' := [(4, .int 0), (3, .int 0), (2, .int (-1)), (0, .ref a0), (1, .int 0)]) C.1 C.2.1 dX12_strikes_37 hl (by decide) rfl (fun ls hl => ?_)
  refine lv_iload C.1 C.2.1 dX12_strikes_39 (lv_at hl 0 rfl) ?_
  refine lv_aload_n C.1 C.2.1 dX12_strikes_41 rfl (lv_at hl 3 rfl) ?_
  refine r_get C w 3 rfl rfl 0 (by decide) fl_RX12_9 (v := .ref a1) rfl dX12_strikes_42 ?_
  refine lv_bipush (v := 6) C.1 C.2.1 dX12_strikes_45 (by decide) ?_
  refine r_iald C w 0 rfl (v := 0) (vinD (by decide)) rfl dX12_strikes_47 ?_
  refine b_icmp_ge_t C (tgt := 94) dX12_strikes_48 (by decide) (by decide) ?_
  refine lv_iload_n C.1 C.2.1 dX12_strikes_94 rfl (lv_at hl 4 rfl) ?_
  refine b_if_ne_f C (tgt := 102) dX12_strikes_95 (by decide) (by decide) ?_
  refine lv_iload_n C.1 C.2.1 dX12_strikes_98 rfl (lv_at hl 1 rfl) ?_
  refine lv_goto (tgt := 103) C.1 C.2.1 dX12_strikes_99 (by decide) ?_
  exact r_iret C w hlocks () hr rfl rfl trivial [0, 1, 2, 3, 4] rfl rfl ⟨Nat.le_of_ble_eq_true rfl, Nat.le_of_ble_eq_true rfl⟩ dX12_strikes_103
set_option maxRecDepth 100000 in
set_option maxHeartbeats 4000000 in
theorem c_X12_strikes_3 (l : Launch) (D : va_G) (cy : Nat → ClassId) (a0 a1 a2 a3 a4 a5 a6 a7 a8 a9 a10 a11 a12 a13 a14 a15 a16 a17 : Nat) (x0 : Int32) (k0 : ¬ x0 < 0) (k1 : 1 < x0) : Ct l D cy yX12_strikes cX12_strikes 6 (some .int) 1 25 0 0 [(a0, .inr (12, [.ref a1, .ref a2, .ref a3, .ref a4, .ref a5, .int 0, .ref a6, .int 0, .int 0, .int 0, .int 0, .int 0, .int 0, .int 0, .int 0, .int 0, .int 0, .int (-1), .ref a7, .ref a8, .int 0, .ref a9, .int 0, .ref a10, .ref a11, .ref a12, .ref a13, .ref a14, .int 0, .ref a15, .ref a16, .ref a17]))] [.ref a0, .int x0] (fun u : Unit => some (.int 0)) (fun _ => True) (fun u : Unit => [(a0, .inr (12, [.ref a1, .ref a2, .ref a3, .ref a4, .ref a5, .int 1, .ref a6, .int 0, .int 0, .int 0, .int 0, .int 0, .int 0, .int 0, .int 0, .int 0, .int 0, .int (-1), .ref a7, .ref a8, .int 0, .ref a9, .int 0, .ref a10, .ref a11, .ref a12, .ref a13, .ref a14, .int 0, .ref a15, .ref a16, .ref a17]))]) := by
  refine Ct.of (by decide +kernel) (Nat.le_of_ble_eq_true rfl) ?_
  intro p e s m args below meth c A ls C hr hlocks hml hnm w hl
  have hl : lv_has ls 6 [(0, .ref a0), (1, .int x0)] := hl
  refine lv_aload_n C.1 C.2.1 dX12_strikes_0 rfl (lv_at hl 0 rfl) ?_
  refine lv_iload_n C.1 C.2.1 dX12_strikes_1 rfl (lv_at hl 1 rfl) ?_
  refine lv_i2l (v := (Int32.toInt64 x0)) C.1 C.2.1 dX12_strikes_2 rfl ?_
  refine lv_lconst (v := 0) C.1 C.2.1 dX12_strikes_3 (by decide) ?_
  refine lv_lconst (v := 1) C.1 C.2.1 dX12_strikes_4 (by decide) ?_
  refine r_callS C w fs_RX12_133 (c_X12_within_16 l D cy x0 k0 k1) (hl.1.trans hml.symm) [] [0] (wr := [(a0, .inr (12, [.ref a1, .ref a2, .ref a3, .ref a4, .ref a5, .int 0, .ref a6, .int 0, .int 0, .int 0, .int 0, .int 0, .int 0, .int 0, .int 0, .int 0, .int 0, .int (-1), .ref a7, .ref a8, .int 0, .ref a9, .int 0, .ref a10, .ref a11, .ref a12, .ref a13, .ref a14, .int 0, .ref a15, .ref a16, .ref a17]))]) ⟨rfl, rfl, rfl, rfl, by decide⟩ rfl rfl ⟨Nat.le_of_ble_eq_true rfl, Nat.le_of_ble_eq_true rfl, Nat.le_of_ble_eq_true rfl⟩ 0 0 ⟨rfl, rfl, Nat.le_of_ble_eq_true rfl, Nat.le_of_ble_eq_true rfl⟩ dX12_strikes_5 (fun u H locs hp w => ?_)
  have w : Wd D A s.heap [(a0, .inr (12, [.ref a1, .ref a2, .ref a3, .ref a4, .ref a5, .int 0, .ref a6, .int 0, .int 0, .int 0, .int 0, .int 0, .int 0, .int 0, .int 0, .int 0, .int 0, .int (-1), .ref a7, .ref a8, .int 0, .ref a9, .int 0, .ref a10, .ref a11, .ref a12, .ref a13, .ref a14, .int 0, .ref a15, .ref a16, .ref a17]))] _ _ := w
  refine r_top (g2 := F0 m 8 ls [.int 0, .ref a0]) rfl ?_
  refine b_if_eq_t C (tgt := 15) dX12_strikes_8 (by decide) (by decide) ?_
  refine lv_iconst (v := 1) C.1 C.2.1 dX12_strikes_15 (by decide) ?_
  refine r_put C w 0 rfl rfl 5 (by decide) fl_RX12_71 rfl (ty := .int) (tyX12_ok 5 (by decide)) rfl rfl (Nat.le_of_ble_eq_true rfl) [(a0, .inr (12, [.ref a1, .ref a2, .ref a3, .ref a4, .ref a5, .int 1, .ref a6, .int 0, .int 0, .int 0, .int 0, .int 0, .int 0, .int 0, .int 0, .int 0, .int 0, .int (-1), .ref a7, .ref a8, .int 0, .ref a9, .int 0, .ref a10, .ref a11, .ref a12, .ref a13, .ref a14, .int 0, .ref a15, .ref a16, .ref a17]))] rfl dX12_strikes_16 (fun H locs w => ?_)
  refine lv_aload_n C.1 C.2.1 dX12_strikes_19 rfl (lv_at hl 0 rfl) ?_
  refine r_get C w 0 rfl rfl 5 (by decide) fl_RX12_71 (v := .int 1) rfl dX12_strikes_20 ?_
  refine b_if_le_f C (tgt := 28) dX12_strikes_23 (by decide) (by decide) ?_
  refine lv_iconst (v := 0) C.1 C.2.1 dX12_strikes_26 (by decide) ?_
  exact r_iret C w hlocks () hr rfl rfl trivial [0] rfl rfl ⟨Nat.le_of_ble_eq_true rfl, Nat.le_of_ble_eq_true rfl⟩ dX12_strikes_27
theorem dX12_mended_0 : decode cX12_mended 0 = .ok (.aload_n 0, 1) := by decide +kernel
theorem dX12_mended_1 : decode cX12_mended 1 = .ok (.iload_n 1, 1) := by decide +kernel
theorem dX12_mended_2 : decode cX12_mended 2 = .ok (.i2l, 1) := by decide +kernel
theorem dX12_mended_3 : decode cX12_mended 3 = .ok (.lconst 0, 1) := by decide +kernel
theorem dX12_mended_4 : decode cX12_mended 4 = .ok (.ldc2_w 401, 3) := by decide +kernel
theorem dX12_mended_7 : decode cX12_mended 7 = .ok (.invokestatic 133, 3) := by decide +kernel
theorem dX12_mended_10 : decode cX12_mended 10 = .ok (.ifCond .eq 7, 3) := by decide +kernel
theorem dX12_mended_17 : decode cX12_mended 17 = .ok (.iconst 1, 1) := by decide +kernel
theorem dX12_mended_18 : decode cX12_mended 18 = .ok (.putfield 71, 3) := by decide +kernel
theorem dX12_mended_21 : decode cX12_mended 21 = .ok (.aload_n 0, 1) := by decide +kernel
theorem dX12_mended_22 : decode cX12_mended 22 = .ok (.getfield 71, 3) := by decide +kernel
theorem dX12_mended_25 : decode cX12_mended 25 = .ok (.ifCond .le 5, 3) := by decide +kernel
theorem dX12_mended_28 : decode cX12_mended 28 = .ok (.iconst 0, 1) := by decide +kernel
theorem dX12_mended_29 : decode cX12_mended 29 = .ok (.ireturn, 1) := by decide +kernel
set_option maxRecDepth 100000 in
set_option maxHeartbeats 4000000 in
theorem c_X12_mended_0 (l : Launch) (D : va_G) (cy : Nat → ClassId) (a0 a1 a2 a3 a4 a5 a6 a7 a8 a9 a10 a11 a12 a13 a14 a15 a16 a17 : Nat) (x0 : Int32) (k0 : x0 < 0) : Ct l D cy yX12_mended cX12_mended 6 (some .int) 1 25 0 0 [(a0, .inr (12, [.ref a1, .ref a2, .ref a3, .ref a4, .ref a5, .int 0, .ref a6, .int 0, .int 0, .int 0, .int 0, .int 0, .int 0, .int 0, .int 0, .int 0, .int 0, .int (-1), .ref a7, .ref a8, .int 0, .ref a9, .int 0, .ref a10, .ref a11, .ref a12, .ref a13, .ref a14, .int 0, .ref a15, .ref a16, .ref a17]))] [.ref a0, .int x0] (fun u : Unit => some (.int 0)) (fun _ => True) (fun u : Unit => [(a0, .inr (12, [.ref a1, .ref a2, .ref a3, .ref a4, .ref a5, .int 1, .ref a6, .int 0, .int 0, .int 0, .int 0, .int 0, .int 0, .int 0, .int 0, .int 0, .int 0, .int (-1), .ref a7, .ref a8, .int 0, .ref a9, .int 0, .ref a10, .ref a11, .ref a12, .ref a13, .ref a14, .int 0, .ref a15, .ref a16, .ref a17]))]) := by
  refine Ct.of (by decide +kernel) (Nat.le_of_ble_eq_true rfl) ?_
  intro p e s m args below meth c A ls C hr hlocks hml hnm w hl
  have hl : lv_has ls 6 [(0, .ref a0), (1, .int x0)] := hl
  refine lv_aload_n C.1 C.2.1 dX12_mended_0 rfl (lv_at hl 0 rfl) ?_
  refine lv_iload_n C.1 C.2.1 dX12_mended_1 rfl (lv_at hl 1 rfl) ?_
  refine lv_i2l (v := (Int32.toInt64 x0)) C.1 C.2.1 dX12_mended_2 rfl ?_
  refine lv_lconst (v := 0) C.1 C.2.1 dX12_mended_3 (by decide) ?_
  refine lv_ldc2 (v := 2) C.1 C.2.1 C.2.2.1 (C.2.2.2.1 _ kl_RX12_401) dX12_mended_4 ?_
  refine r_callS C w fs_RX12_133 (c_X12_within_6 l D cy x0 k0) (hl.1.trans hml.symm) [] [0] (wr := [(a0, .inr (12, [.ref a1, .ref a2, .ref a3, .ref a4, .ref a5, .int 0, .ref a6, .int 0, .int 0, .int 0, .int 0, .int 0, .int 0, .int 0, .int 0, .int 0, .int 0, .int (-1), .ref a7, .ref a8, .int 0, .ref a9, .int 0, .ref a10, .ref a11, .ref a12, .ref a13, .ref a14, .int 0, .ref a15, .ref a16, .ref a17]))]) ⟨rfl, rfl, rfl, rfl, by decide⟩ rfl rfl ⟨Nat.le_of_ble_eq_true rfl, Nat.le_of_ble_eq_true rfl, Nat.le_of_ble_eq_true rfl⟩ 0 0 ⟨rfl, rfl, Nat.le_of_ble_eq_true rfl, Nat.le_of_ble_eq_true rfl⟩ dX12_mended_7 (fun u H locs hp w => ?_)
  have w : Wd D A s.heap [(a0, .inr (12, [.ref a1, .ref a2, .ref a3, .ref a4, .ref a5, .int 0, .ref a6, .int 0, .int 0, .int 0, .int 0, .int 0, .int 0, .int 0, .int 0, .int 0, .int 0, .int (-1), .ref a7, .ref a8, .int 0, .ref a9, .int 0, .ref a10, .ref a11, .ref a12, .ref a13, .ref a14, .int 0, .ref a15, .ref a16, .ref a17]))] _ _ := w
  refine r_top (g2 := F0 m 10 ls [.int 0, .ref a0]) rfl ?_
  refine b_if_eq_t C (tgt := 17) dX12_mended_10 (by decide) (by decide) ?_
  refine lv_iconst (v := 1) C.1 C.2.1 dX12_mended_17 (by decide) ?_
  refine r_put C w 0 rfl rfl 5 (by decide) fl_RX12_71 rfl (ty := .int) (tyX12_ok 5 (by decide)) rfl rfl (Nat.le_of_ble_eq_true rfl) [(a0, .inr (12, [.ref a1, .ref a2, .ref a3, .ref a4, .ref a5, .int 1, .ref a6, .int 0, .int 0, .int 0, .int 0, .int 0, .int 0, .int 0, .int 0, .int 0, .int 0, .int (-1), .ref a7, .ref a8, .int 0, .ref a9, .int 0, .ref a10, .ref a11, .ref a12, .ref a13, .ref a14, .int 0, .ref a15, .ref a16, .ref a17]))] rfl dX12_mended_18 (fun H locs w => ?_)
  refine lv_aload_n C.1 C.2.1 dX12_mended_21 rfl (lv_at hl 0 rfl) ?_
  refine r_get C w 0 rfl rfl 5 (by decide) fl_RX12_71 (v := .int 1) rfl dX12_mended_22 ?_
  refine b_if_le_f C (tgt := 30) dX12_mended_25 (by decide) (by decide) ?_
  refine lv_iconst (v := 0) C.1 C.2.1 dX12_mended_28 (by decide) ?_
  exact r_iret C w hlocks () hr rfl rfl trivial [0] rfl rfl ⟨Nat.le_of_ble_eq_true rfl, Nat.le_of_ble_eq_true rfl⟩ dX12_mended_29
theorem dX12_mended_13 : decode cX12_mended 13 = .ok (.iconst 0, 1) := by decide +kernel
theorem dX12_mended_14 : decode cX12_mended 14 = .ok (.goto 4, 3) := by decide +kernel
theorem dX12_mended_30 : decode cX12_mended 30 = .ok (.iconst 0, 1) := by decide +kernel
theorem dX12_mended_31 : decode cX12_mended 31 = .ok (.istore_n 2, 1) := by decide +kernel
theorem dX12_mended_32 : decode cX12_mended 32 = .ok (.iload_n 2, 1) := by decide +kernel
theorem dX12_mended_33 : decode cX12_mended 33 = .ok (.aload_n 0, 1) := by decide +kernel
theorem dX12_mended_34 : decode cX12_mended 34 = .ok (.getfield 9, 3) := by decide +kernel
theorem dX12_mended_37 : decode cX12_mended 37 = .ok (.bipush 6, 2) := by decide +kernel
theorem dX12_mended_39 : decode cX12_mended 39 = .ok (.iaload, 1) := by decide +kernel
theorem dX12_mended_40 : decode cX12_mended 40 = .ok (.if_icmp .ge 102, 3) := by decide +kernel
theorem dX12_mended_142 : decode cX12_mended 142 = .ok (.iconst (-1), 1) := by decide +kernel
theorem dX12_mended_143 : decode cX12_mended 143 = .ok (.ireturn, 1) := by decide +kernel
set_option maxRecDepth 100000 in
set_option maxHeartbeats 4000000 in
theorem c_X12_mended_1 (l : Launch) (D : va_G) (cy : Nat → ClassId) (a0 a1 a2 a3 a4 a5 a6 a7 a8 a9 a10 a11 a12 a13 a14 a15 a16 a17 : Nat) (x0 : Int32) (k0 : ¬ x0 < 0) (k1 : ¬ 2 < x0) : Ct l D cy yX12_mended cX12_mended 6 (some .int) 1 25 0 0 [(a0, .inr (12, [.ref a1, .ref a2, .ref a3, .ref a4, .ref a5, .int 0, .ref a6, .int 0, .int 0, .int 0, .int 0, .int 0, .int 0, .int 0, .int 0, .int 0, .int 0, .int (-1), .ref a7, .ref a8, .int 0, .ref a9, .int 0, .ref a10, .ref a11, .ref a12, .ref a13, .ref a14, .int 0, .ref a15, .ref a16, .ref a17])), (a1, .inl (cy 1, 1868, .inl (upd (upd (upd (fun _ => 0) 1 2) 2 20) 3 120)))] [.ref a0, .int x0] (fun u : Unit => some (.int (-1))) (fun _ => True) (fun u : Unit => [(a0, .inr (12, [.ref a1, .ref a2, .ref a3, .ref a4, .ref a5, .int 0, .ref a6, .int 0, .int 0, .int 0, .int 0, .int 0, .int 0, .int 0, .int 0, .int 0, .int 0, .int (-1), .ref a7, .ref a8, .int 0, .ref a9, .int 0, .ref a10, .ref a11, .ref a12, .ref a13, .ref a14, .int 0, .ref a15, .ref a16, .ref a17])), (a1, .inl (cy 1, 1868, .inl (upd (upd (upd (fun _ => 0) 1 2) 2 20) 3 120)))]) := by
  refine Ct.of (by decide +kernel) (Nat.le_of_ble_eq_true rfl) ?_
  intro p e s m args below meth c A ls C hr hlocks hml hnm w hl
  have hl : lv_has ls 6 [(0, .ref a0), (1, .int x0)] := hl
  refine lv_aload_n C.1 C.2.1 dX12_mended_0 rfl (lv_at hl 0 rfl) ?_
  refine lv_iload_n C.1 C.2.1 dX12_mended_1 rfl (lv_at hl 1 rfl) ?_
  refine lv_i2l (v := (Int32.toInt64 x0)) C.1 C.2.1 dX12_mended_2 rfl ?_
  refine lv_lconst (v := 0) C.1 C.2.1 dX12_mended_3 (by decide) ?_
  refine lv_ldc2 (v := 2) C.1 C.2.1 C.2.2.1 (C.2.2.2.1 _ kl_RX12_401) dX12_mended_4 ?_
  refine r_callS C w fs_RX12_133 (c_X12_within_8 l D cy x0 k0 k1) (hl.1.trans hml.symm) [] [0, 1] (wr := [(a0, .inr (12, [.ref a1, .ref a2, .ref a3, .ref a4, .ref a5, .int 0, .ref a6, .int 0, .int 0, .int 0, .int 0, .int 0, .int 0, .int 0, .int 0, .int 0, .int 0, .int (-1), .ref a7, .ref a8, .int 0, .ref a9, .int 0, .ref a10, .ref a11, .ref a12, .ref a13, .ref a14, .int 0, .ref a15, .ref a16, .ref a17])), (a1, .inl (cy 1, 1868, .inl (upd (upd (upd (fun _ => 0) 1 2) 2 20) 3 120)))]) ⟨rfl, rfl, rfl, rfl, by decide⟩ rfl rfl ⟨Nat.le_of_ble_eq_true rfl, Nat.le_of_ble_eq_true rfl, Nat.le_of_ble_eq_true rfl⟩ 0 0 ⟨rfl, rfl, Nat.le_of_ble_eq_true rfl, Nat.le_of_ble_eq_true rfl⟩ dX12_mended_7 (fun u H locs hp w => ?_)
  have w : Wd D A s.heap [(a0, .inr (12, [.ref a1, .ref a2, .ref a3, .ref a4, .ref a5, .int 0, .ref a6, .int 0, .int 0, .int 0, .int 0, .int 0, .int 0, .int 0, .int 0, .int 0, .int 0, .int (-1), .ref a7, .ref a8, .int 0, .ref a9, .int 0, .ref a10, .ref a11, .ref a12, .ref a13, .ref a14, .int 0, .ref a15, .ref a16, .ref a17])), (a1, .inl (cy 1, 1868, .inl (upd (upd (upd (fun _ => 0) 1 2) 2 20) 3 120)))] _ _ := w
  refine r_top (g2 := F0 m 10 ls [.int 1, .ref a0]) rfl ?_
  refine b_if_eq_f C (tgt := 17) dX12_mended_10 (by decide) (by decide) ?_
  refine lv_iconst (v := 0) C.1 C.2.1 dX12_mended_13 (by decide) ?_
  refine lv_goto (tgt := 18) C.1 C.2.1 dX12_mended_14 (by decide) ?_
  refine r_put C w 0 rfl rfl 5 (by decide) fl_RX12_71 rfl (ty := .int) (tyX12_ok 5 (by decide)) rfl rfl (Nat.le_of_ble_eq_true rfl) [(a0, .inr (12, [.ref a1, .ref a2, .ref a3, .ref a4, .ref a5, .int 0, .ref a6, .int 0, .int 0, .int 0, .int 0, .int 0, .int 0, .int 0, .int 0, .int 0, .int 0, .int (-1), .ref a7, .ref a8, .int 0, .ref a9, .int 0, .ref a10, .ref a11, .ref a12, .ref a13, .ref a14, .int 0, .ref a15, .ref a16, .ref a17])), (a1, .inl (cy 1, 1868, .inl (upd (upd (upd (fun _ => 0) 1 2) 2 20) 3 120)))] rfl dX12_mended_18 (fun H locs w => ?_)
  refine lv_aload_n C.1 C.2.1 dX12_mended_21 rfl (lv_at hl 0 rfl) ?_
  refine r_get C w 0 rfl rfl 5 (by decide) fl_RX12_71 (v := .int 0) rfl dX12_mended_22 ?_
  refine b_if_le_t C (tgt := 30) dX12_mended_25 (by decide) (by decide) ?_
  refine lv_iconst (v := 0) C.1 C.2.1 dX12_mended_30 (by decide) ?_
  refine lv_istore_n (lv' := [(2, .int 0), (0, .ref a0), (1, .int x0)]) C.1 C.2.1 dX12_mended_31 rfl hl (by decide) rfl (fun ls hl => ?_)
  refine lv_iload_n C.1 C.2.1 dX12_mended_32 rfl (lv_at hl 0 rfl) ?_
  refine lv_aload_n C.1 C.2.1 dX12_mended_33 rfl (lv_at hl 1 rfl) ?_
  refine r_get C w 0 rfl rfl 0 (by decide) fl_RX12_9 (v := .ref a1) rfl dX12_mended_34 ?_
  refine lv_bipush (v := 6) C.1 C.2.1 dX12_mended_37 (by decide) ?_
  refine r_iald C w 1 rfl (v := 0) (vinD (by decide)) rfl dX12_mended_39 ?_
  refine b_icmp_ge_t C (tgt := 142) dX12_mended_40 (by decide) (by decide) ?_
  refine lv_iconst (v := (-1)) C.1 C.2.1 dX12_mended_142 (by decide) ?_
  exact r_iret C w hlocks () hr rfl rfl trivial [0, 1] rfl rfl ⟨Nat.le_of_ble_eq_true rfl, Nat.le_of_ble_eq_true rfl⟩ dX12_mended_143
set_option maxRecDepth 100000 in
set_option maxHeartbeats 4000000 in
theorem c_X12_mended_2 (l : Launch) (D : va_G) (cy : Nat → ClassId) (a0 a1 a2 a3 a4 a5 a6 a7 a8 a9 a10 a11 a12 a13 a14 a15 a16 a17 : Nat) (x0 : Int32) (k0 : ¬ x0 < 0) (k1 : 2 < x0) : Ct l D cy yX12_mended cX12_mended 6 (some .int) 1 25 0 0 [(a0, .inr (12, [.ref a1, .ref a2, .ref a3, .ref a4, .ref a5, .int 0, .ref a6, .int 0, .int 0, .int 0, .int 0, .int 0, .int 0, .int 0, .int 0, .int 0, .int 0, .int (-1), .ref a7, .ref a8, .int 0, .ref a9, .int 0, .ref a10, .ref a11, .ref a12, .ref a13, .ref a14, .int 0, .ref a15, .ref a16, .ref a17]))] [.ref a0, .int x0] (fun u : Unit => some (.int 0)) (fun _ => True) (fun u : Unit => [(a0, .inr (12, [.ref a1, .ref a2, .ref a3, .ref a4, .ref a5, .int 1, .ref a6, .int 0, .int 0, .int 0, .int 0, .int 0, .int 0, .int 0, .int 0, .int 0, .int 0, .int (-1), .ref a7, .ref a8, .int 0, .ref a9, .int 0, .ref a10, .ref a11, .ref a12, .ref a13, .ref a14, .int 0, .ref a15, .ref a16, .ref a17]))]) := by
  refine Ct.of (by decide +kernel) (Nat.le_of_ble_eq_true rfl) ?_
  intro p e s m args below meth c A ls C hr hlocks hml hnm w hl
  have hl : lv_has ls 6 [(0, .ref a0), (1, .int x0)] := hl
  refine lv_aload_n C.1 C.2.1 dX12_mended_0 rfl (lv_at hl 0 rfl) ?_
  refine lv_iload_n C.1 C.2.1 dX12_mended_1 rfl (lv_at hl 1 rfl) ?_
  refine lv_i2l (v := (Int32.toInt64 x0)) C.1 C.2.1 dX12_mended_2 rfl ?_
  refine lv_lconst (v := 0) C.1 C.2.1 dX12_mended_3 (by decide) ?_
  refine lv_ldc2 (v := 2) C.1 C.2.1 C.2.2.1 (C.2.2.2.1 _ kl_RX12_401) dX12_mended_4 ?_
  refine r_callS C w fs_RX12_133 (c_X12_within_7 l D cy x0 k0 k1) (hl.1.trans hml.symm) [] [0] (wr := [(a0, .inr (12, [.ref a1, .ref a2, .ref a3, .ref a4, .ref a5, .int 0, .ref a6, .int 0, .int 0, .int 0, .int 0, .int 0, .int 0, .int 0, .int 0, .int 0, .int 0, .int (-1), .ref a7, .ref a8, .int 0, .ref a9, .int 0, .ref a10, .ref a11, .ref a12, .ref a13, .ref a14, .int 0, .ref a15, .ref a16, .ref a17]))]) ⟨rfl, rfl, rfl, rfl, by decide⟩ rfl rfl ⟨Nat.le_of_ble_eq_true rfl, Nat.le_of_ble_eq_true rfl, Nat.le_of_ble_eq_true rfl⟩ 0 0 ⟨rfl, rfl, Nat.le_of_ble_eq_true rfl, Nat.le_of_ble_eq_true rfl⟩ dX12_mended_7 (fun u H locs hp w => ?_)
  have w : Wd D A s.heap [(a0, .inr (12, [.ref a1, .ref a2, .ref a3, .ref a4, .ref a5, .int 0, .ref a6, .int 0, .int 0, .int 0, .int 0, .int 0, .int 0, .int 0, .int 0, .int 0, .int 0, .int (-1), .ref a7, .ref a8, .int 0, .ref a9, .int 0, .ref a10, .ref a11, .ref a12, .ref a13, .ref a14, .int 0, .ref a15, .ref a16, .ref a17]))] _ _ := w
  refine r_top (g2 := F0 m 10 ls [.int 0, .ref a0]) rfl ?_
  refine b_if_eq_t C (tgt := 17) dX12_mended_10 (by decide) (by decide) ?_
  refine lv_iconst (v := 1) C.1 C.2.1 dX12_mended_17 (by decide) ?_
  refine r_put C w 0 rfl rfl 5 (by decide) fl_RX12_71 rfl (ty := .int) (tyX12_ok 5 (by decide)) rfl rfl (Nat.le_of_ble_eq_true rfl) [(a0, .inr (12, [.ref a1, .ref a2, .ref a3, .ref a4, .ref a5, .int 1, .ref a6, .int 0, .int 0, .int 0, .int 0, .int 0, .int 0, .int 0, .int 0, .int 0, .int 0, .int (-1), .ref a7, .ref a8, .int 0, .ref a9, .int 0, .ref a10, .ref a11, .ref a12, .ref a13, .ref a14, .int 0, .ref a15, .ref a16, .ref a17]))] rfl dX12_mended_18 (fun H locs w => ?_)
  refine lv_aload_n C.1 C.2.1 dX12_mended_21 rfl (lv_at hl 0 rfl) ?_
  refine r_get C w 0 rfl rfl 5 (by decide) fl_RX12_71 (v := .int 1) rfl dX12_mended_22 ?_
  refine b_if_le_f C (tgt := 30) dX12_mended_25 (by decide) (by decide) ?_
  refine lv_iconst (v := 0) C.1 C.2.1 dX12_mended_28 (by decide) ?_
  exact r_iret C w hlocks () hr rfl rfl trivial [0] rfl rfl ⟨Nat.le_of_ble_eq_true rfl, Nat.le_of_ble_eq_true rfl⟩ dX12_mended_29
theorem dX12_only_0 : decode cX12_only 0 = .ok (.aload_n 0, 1) := by decide +kernel
theorem dX12_only_1 : decode cX12_only 1 = .ok (.iconst 0, 1) := by decide +kernel
theorem dX12_only_2 : decode cX12_only 2 = .ok (.putfield 71, 3) := by decide +kernel
theorem dX12_only_5 : decode cX12_only 5 = .ok (.aload_n 0, 1) := by decide +kernel
theorem dX12_only_6 : decode cX12_only 6 = .ok (.invokevirtual 345, 3) := by decide +kernel
theorem dX12_onlyNow_0 : decode cX12_onlyNow 0 = .ok (.aload_n 0, 1) := by decide +kernel
theorem dX12_onlyNow_1 : decode cX12_onlyNow 1 = .ok (.invokevirtual 336, 3) := by decide +kernel
set_option maxRecDepth 100000 in
set_option maxHeartbeats 4000000 in
theorem c_X12_leftNow_1 (l : Launch) (D : va_G) (cy : Nat → ClassId) (a0 a1 a2 a3 a4 a5 a6 a7 a8 a9 a10 a11 a12 a13 a14 a15 a16 a17 : Nat) : Ct l D cy yX12_leftNow cX12_leftNow 1 (some .int) 3 72 0 0 [(a0, .inr (12, [.ref a1, .ref a2, .ref a3, .ref a4, .ref a5, .int 0, .ref a6, .int 0, .int 0, .int 0, .int 0, .int 0, .int 0, .int 0, .int 0, .int 0, .int 0, .int (-1), .ref a7, .ref a8, .int 0, .ref a9, .int 0, .ref a10, .ref a11, .ref a12, .ref a13, .ref a14, .int 0, .ref a15, .ref a16, .ref a17])), (a1, .inl (cy 1, 1868, .inl (upd (upd (upd (fun _ => 0) 1 2) 2 20) 3 120))), (a7, .inl (cy 1, 1830, .inl (fun _ => 0))), (a8, .inl (cy 1, 1830, .inl (fun _ => 0))), (a9, .inl (cy 2, 2465, .inr (.inl (fun _ => 0))))] [.ref a0] (fun u : Unit => some (.int 190)) (fun _ => True) (fun u : Unit => [(a1, .inl (cy 1, 1868, .inl (upd (upd (upd (fun _ => 0) 1 2) 2 20) 3 120))), (a7, .inl (cy 1, 1830, .inl (lxF (fun _ => 0) 2 20 (PP 20 2 (20 + 1 - 2))))), (a8, .inl (cy 1, 1830, .inl (lyF (fun _ => 0) 2 20 (PP 20 2 (20 + 1 - 2))))), (a0, .inr (12, [.ref a1, .ref a2, .ref a3, .ref a4, .ref a5, .int 0, .ref a6, .int 0, .int 0, .int 0, .int 0, .int 0, .int 0, .int 0, .int 0, .int 0, .int 0, .int (-1), .ref a7, .ref a8, .int 190, .ref a9, .int 21, .ref a10, .ref a11, .ref a12, .ref a13, .ref a14, .int 0, .ref a15, .ref a16, .ref a17])), (a9, .inl (cy 2, 2465, .inr (.inl (rwF (fun _ => 0) (PP 20 2 (20 + 1 - 2))))))]) := by
  refine Ct.of (by decide +kernel) (Nat.le_of_ble_eq_true rfl) ?_
  intro p e s m args below meth c A ls C hr hlocks hml hnm w hl
  have hl : lv_has ls 1 [(0, .ref a0)] := hl
  refine lv_aload_n C.1 C.2.1 dX12_leftNow_0 rfl (lv_at hl 0 rfl) ?_
  refine r_callV C w fv_RX12_330 (c_X12_lays_2 l D cy a0 a1 a2 a3 a4 a5 a6 a7 a8 a9 a10 a11 a12 a13 a14 a15 a16 a17) (hl.1.trans hml.symm) [0, 1, 2, 3, 4] [] (wr := []) ⟨rfl, rfl, rfl, rfl, by decide⟩ 0 rfl rfl rfl rfl rfl ⟨Nat.le_of_ble_eq_true rfl, Nat.le_of_ble_eq_true rfl, Nat.le_of_ble_eq_true rfl⟩ 0 0 ⟨rfl, rfl, Nat.le_of_ble_eq_true rfl, Nat.le_of_ble_eq_true rfl⟩ dX12_leftNow_1 (fun u H locs hp w => ?_)
  have w : Wd D A s.heap [(a1, .inl (cy 1, 1868, .inl (upd (upd (upd (fun _ => 0) 1 2) 2 20) 3 120))), (a7, .inl (cy 1, 1830, .inl (lxF (fun _ => 0) 2 20 (PP 20 2 (20 + 1 - 2))))), (a8, .inl (cy 1, 1830, .inl (lyF (fun _ => 0) 2 20 (PP 20 2 (20 + 1 - 2))))), (a0, .inr (12, [.ref a1, .ref a2, .ref a3, .ref a4, .ref a5, .int 0, .ref a6, .int 0, .int 0, .int 0, .int 0, .int 0, .int 0, .int 0, .int 0, .int 0, .int 0, .int (-1), .ref a7, .ref a8, .int 190, .ref a9, .int 21, .ref a10, .ref a11, .ref a12, .ref a13, .ref a14, .int 0, .ref a15, .ref a16, .ref a17])), (a9, .inl (cy 2, 2465, .inr (.inl (rwF (fun _ => 0) (PP 20 2 (20 + 1 - 2))))))] _ _ := w
  refine r_top (g2 := F0 m 4 ls []) rfl ?_
  refine lv_aload_n C.1 C.2.1 dX12_leftNow_4 rfl (lv_at hl 0 rfl) ?_
  refine lv_aload_n C.1 C.2.1 dX12_leftNow_5 rfl (lv_at hl 0 rfl) ?_
  refine r_get C w 3 rfl rfl 0 (by decide) fl_RX12_9 (v := .ref a1) rfl dX12_leftNow_6 ?_
  refine lv_bipush (v := 6) C.1 C.2.1 dX12_leftNow_9 (by decide) ?_
  refine r_iald C w 0 rfl (v := 0) (vinD (by decide)) rfl dX12_leftNow_11 ?_
  refine r_callV C w fv_RX12_333 (c_X12_manyOf_1 l D cy a0 a1 a2 a3 a4 a5 a6 a7 a8 a9 a10 a11 a12 a13 a14 a15 a16 a17) (hl.1.trans hml.symm) [3, 4] [0, 1, 2] (wr := [(a1, .inl (cy 1, 1868, .inl (upd (upd (upd (fun _ => 0) 1 2) 2 20) 3 120))), (a7, .inl (cy 1, 1830, .inl (lxF (fun _ => 0) 2 20 (PP 20 2 (20 + 1 - 2))))), (a8, .inl (cy 1, 1830, .inl (lyF (fun _ => 0) 2 20 (PP 20 2 (20 + 1 - 2)))))]) ⟨rfl, rfl, rfl, rfl, by decide⟩ 0 rfl rfl rfl rfl rfl ⟨Nat.le_of_ble_eq_true rfl, Nat.le_of_ble_eq_true rfl, Nat.le_of_ble_eq_true rfl⟩ 0 0 ⟨rfl, rfl, Nat.le_of_ble_eq_true rfl, Nat.le_of_ble_eq_true rfl⟩ dX12_leftNow_12 (fun u H locs hp w => ?_)
  have w : Wd D A s.heap [(a1, .inl (cy 1, 1868, .inl (upd (upd (upd (fun _ => 0) 1 2) 2 20) 3 120))), (a7, .inl (cy 1, 1830, .inl (lxF (fun _ => 0) 2 20 (PP 20 2 (20 + 1 - 2))))), (a8, .inl (cy 1, 1830, .inl (lyF (fun _ => 0) 2 20 (PP 20 2 (20 + 1 - 2))))), (a0, .inr (12, [.ref a1, .ref a2, .ref a3, .ref a4, .ref a5, .int 0, .ref a6, .int 0, .int 0, .int 0, .int 0, .int 0, .int 0, .int 0, .int 0, .int 0, .int 0, .int (-1), .ref a7, .ref a8, .int 190, .ref a9, .int 21, .ref a10, .ref a11, .ref a12, .ref a13, .ref a14, .int 0, .ref a15, .ref a16, .ref a17])), (a9, .inl (cy 2, 2465, .inr (.inl (rwF (fun _ => 0) (PP 20 2 (20 + 1 - 2))))))] _ _ := w
  refine r_top (g2 := F0 m 15 ls [.int 190]) rfl ?_
  exact r_iret C w hlocks () hr rfl rfl trivial [0, 1, 2, 3, 4] rfl rfl ⟨Nat.le_of_ble_eq_true rfl, Nat.le_of_ble_eq_true rfl⟩ dX12_leftNow_15
theorem dX12_onlyNow_4 : decode cX12_onlyNow 4 = .ok (.iconst 1, 1) := by decide +kernel
theorem dX12_onlyNow_5 : decode cX12_onlyNow 5 = .ok (.if_icmp .ne 17, 3) := by decide +kernel
theorem dX12_onlyNow_22 : decode cX12_onlyNow 22 = .ok (.iconst (-1), 1) := by decide +kernel
theorem dX12_onlyNow_23 : decode cX12_onlyNow 23 = .ok (.ireturn, 1) := by decide +kernel
set_option maxRecDepth 100000 in
set_option maxHeartbeats 4000000 in
theorem c_X12_onlyNow_0 (l : Launch) (D : va_G) (cy : Nat → ClassId) (a0 a1 a2 a3 a4 a5 a6 a7 a8 a9 a10 a11 a12 a13 a14 a15 a16 a17 : Nat) : Ct l D cy yX12_onlyNow cX12_onlyNow 1 (some .int) 4 92 0 0 [(a0, .inr (12, [.ref a1, .ref a2, .ref a3, .ref a4, .ref a5, .int 0, .ref a6, .int 0, .int 0, .int 0, .int 0, .int 0, .int 0, .int 0, .int 0, .int 0, .int 0, .int (-1), .ref a7, .ref a8, .int 0, .ref a9, .int 0, .ref a10, .ref a11, .ref a12, .ref a13, .ref a14, .int 0, .ref a15, .ref a16, .ref a17])), (a1, .inl (cy 1, 1868, .inl (upd (upd (upd (fun _ => 0) 1 2) 2 20) 3 120))), (a7, .inl (cy 1, 1830, .inl (fun _ => 0))), (a8, .inl (cy 1, 1830, .inl (fun _ => 0))), (a9, .inl (cy 2, 2465, .inr (.inl (fun _ => 0))))] [.ref a0] (fun u : Unit => some (.int (-1))) (fun _ => True) (fun u : Unit => [(a1, .inl (cy 1, 1868, .inl (upd (upd (upd (fun _ => 0) 1 2) 2 20) 3 120))), (a7, .inl (cy 1, 1830, .inl (lxF (fun _ => 0) 2 20 (PP 20 2 (20 + 1 - 2))))), (a8, .inl (cy 1, 1830, .inl (lyF (fun _ => 0) 2 20 (PP 20 2 (20 + 1 - 2))))), (a0, .inr (12, [.ref a1, .ref a2, .ref a3, .ref a4, .ref a5, .int 0, .ref a6, .int 0, .int 0, .int 0, .int 0, .int 0, .int 0, .int 0, .int 0, .int 0, .int 0, .int (-1), .ref a7, .ref a8, .int 190, .ref a9, .int 21, .ref a10, .ref a11, .ref a12, .ref a13, .ref a14, .int 0, .ref a15, .ref a16, .ref a17])), (a9, .inl (cy 2, 2465, .inr (.inl (rwF (fun _ => 0) (PP 20 2 (20 + 1 - 2))))))]) := by
  refine Ct.of (by decide +kernel) (Nat.le_of_ble_eq_true rfl) ?_
  intro p e s m args below meth c A ls C hr hlocks hml hnm w hl
  have hl : lv_has ls 1 [(0, .ref a0)] := hl
  refine lv_aload_n C.1 C.2.1 dX12_onlyNow_0 rfl (lv_at hl 0 rfl) ?_
  refine r_callV C w fv_RX12_336 (c_X12_leftNow_1 l D cy a0 a1 a2 a3 a4 a5 a6 a7 a8 a9 a10 a11 a12 a13 a14 a15 a16 a17) (hl.1.trans hml.symm) [0, 1, 2, 3, 4] [] (wr := []) ⟨rfl, rfl, rfl, rfl, by decide⟩ 0 rfl rfl rfl rfl rfl ⟨Nat.le_of_ble_eq_true rfl, Nat.le_of_ble_eq_true rfl, Nat.le_of_ble_eq_true rfl⟩ 0 0 ⟨rfl, rfl, Nat.le_of_ble_eq_true rfl, Nat.le_of_ble_eq_true rfl⟩ dX12_onlyNow_1 (fun u H locs hp w => ?_)
  have w : Wd D A s.heap [(a1, .inl (cy 1, 1868, .inl (upd (upd (upd (fun _ => 0) 1 2) 2 20) 3 120))), (a7, .inl (cy 1, 1830, .inl (lxF (fun _ => 0) 2 20 (PP 20 2 (20 + 1 - 2))))), (a8, .inl (cy 1, 1830, .inl (lyF (fun _ => 0) 2 20 (PP 20 2 (20 + 1 - 2))))), (a0, .inr (12, [.ref a1, .ref a2, .ref a3, .ref a4, .ref a5, .int 0, .ref a6, .int 0, .int 0, .int 0, .int 0, .int 0, .int 0, .int 0, .int 0, .int 0, .int 0, .int (-1), .ref a7, .ref a8, .int 190, .ref a9, .int 21, .ref a10, .ref a11, .ref a12, .ref a13, .ref a14, .int 0, .ref a15, .ref a16, .ref a17])), (a9, .inl (cy 2, 2465, .inr (.inl (rwF (fun _ => 0) (PP 20 2 (20 + 1 - 2))))))] _ _ := w
  refine r_top (g2 := F0 m 4 ls [.int 190]) rfl ?_
  refine lv_iconst (v := 1) C.1 C.2.1 dX12_onlyNow_4 (by decide) ?_
  refine b_icmp_ne_t C (tgt := 22) dX12_onlyNow_5 (by decide) (by decide) ?_
  refine lv_iconst (v := (-1)) C.1 C.2.1 dX12_onlyNow_22 (by decide) ?_
  exact r_iret C w hlocks () hr rfl rfl trivial [0, 1, 2, 3, 4] rfl rfl ⟨Nat.le_of_ble_eq_true rfl, Nat.le_of_ble_eq_true rfl⟩ dX12_onlyNow_23
theorem fv_RX12_345 : FV RX12 345 yX12_onlyNow cX12_onlyNow 1 (some .int) 0 := ⟨⟨gw_mem (by decide +kernel) (by decide +kernel), gw_mem (by decide +kernel) (by decide +kernel), gw_mem (by decide +kernel) (by decide +kernel), gw_mem (by decide +kernel) (by decide +kernel), gw_mem (by decide +kernel) (by decide +kernel)⟩, ⟨by decide +kernel, by decide +kernel, by decide +kernel⟩⟩
theorem dX12_only_9 : decode cX12_only 9 = .ok (.ireturn, 1) := by decide +kernel
set_option maxRecDepth 100000 in
set_option maxHeartbeats 4000000 in
theorem c_X12_only_0 (l : Launch) (D : va_G) (cy : Nat → ClassId) (a0 a1 a2 a3 a4 a5 a6 a7 a8 a9 a10 a11 a12 a13 a14 a15 a16 a17 : Nat) : Ct l D cy yX12_only cX12_only 1 (some .int) 5 112 0 0 [(a0, .inr (12, [.ref a1, .ref a2, .ref a3, .ref a4, .ref a5, .int 0, .ref a6, .int 0, .int 0, .int 0, .int 0, .int 0, .int 0, .int 0, .int 0, .int 0, .int 0, .int (-1), .ref a7, .ref a8, .int 0, .ref a9, .int 0, .ref a10, .ref a11, .ref a12, .ref a13, .ref a14, .int 0, .ref a15, .ref a16, .ref a17])), (a1, .inl (cy 1, 1868, .inl (upd (upd (upd (fun _ => 0) 1 2) 2 20) 3 120))), (a7, .inl (cy 1, 1830, .inl (fun _ => 0))), (a8, .inl (cy 1, 1830, .inl (fun _ => 0))), (a9, .inl (cy 2, 2465, .inr (.inl (fun _ => 0))))] [.ref a0] (fun u : Unit => some (.int (-1))) (fun _ => True) (fun u : Unit => [(a1, .inl (cy 1, 1868, .inl (upd (upd (upd (fun _ => 0) 1 2) 2 20) 3 120))), (a7, .inl (cy 1, 1830, .inl (lxF (fun _ => 0) 2 20 (PP 20 2 (20 + 1 - 2))))), (a8, .inl (cy 1, 1830, .inl (lyF (fun _ => 0) 2 20 (PP 20 2 (20 + 1 - 2))))), (a0, .inr (12, [.ref a1, .ref a2, .ref a3, .ref a4, .ref a5, .int 0, .ref a6, .int 0, .int 0, .int 0, .int 0, .int 0, .int 0, .int 0, .int 0, .int 0, .int 0, .int (-1), .ref a7, .ref a8, .int 190, .ref a9, .int 21, .ref a10, .ref a11, .ref a12, .ref a13, .ref a14, .int 0, .ref a15, .ref a16, .ref a17])), (a9, .inl (cy 2, 2465, .inr (.inl (rwF (fun _ => 0) (PP 20 2 (20 + 1 - 2))))))]) := by
  refine Ct.of (by decide +kernel) (Nat.le_of_ble_eq_true rfl) ?_
  intro p e s m args below meth c A ls C hr hlocks hml hnm w hl
  have hl : lv_has ls 1 [(0, .ref a0)] := hl
  refine lv_aload_n C.1 C.2.1 dX12_only_0 rfl (lv_at hl 0 rfl) ?_
  refine lv_iconst (v := 0) C.1 C.2.1 dX12_only_1 (by decide) ?_
  refine r_put C w 0 rfl rfl 5 (by decide) fl_RX12_71 rfl (ty := .int) (tyX12_ok 5 (by decide)) rfl rfl (Nat.le_of_ble_eq_true rfl) [(a0, .inr (12, [.ref a1, .ref a2, .ref a3, .ref a4, .ref a5, .int 0, .ref a6, .int 0, .int 0, .int 0, .int 0, .int 0, .int 0, .int 0, .int 0, .int 0, .int 0, .int (-1), .ref a7, .ref a8, .int 0, .ref a9, .int 0, .ref a10, .ref a11, .ref a12, .ref a13, .ref a14, .int 0, .ref a15, .ref a16, .ref a17])), (a1, .inl (cy 1, 1868, .inl (upd (upd (upd (fun _ => 0) 1 2) 2 20) 3 120))), (a7, .inl (cy 1, 1830, .inl (fun _ => 0))), (a8, .inl (cy 1, 1830, .inl (fun _ => 0))), (a9, .inl (cy 2, 2465, .inr (.inl (fun _ => 0))))] rfl dX12_only_2 (fun H locs w => ?_)
  refine lv_aload_n C.1 C.2.1 dX12_only_5 rfl (lv_at hl 0 rfl) ?_
  refine r_callV C w fv_RX12_345 (c_X12_onlyNow_0 l D cy a0 a1 a2 a3 a4 a5 a6 a7 a8 a9 a10 a11 a12 a13 a14 a15 a16 a17) (hl.1.trans hml.symm) [0, 1, 2, 3, 4] [] (wr := []) ⟨rfl, rfl, rfl, rfl, by decide⟩ 0 rfl rfl rfl rfl rfl ⟨Nat.le_of_ble_eq_true rfl, Nat.le_of_ble_eq_true rfl, Nat.le_of_ble_eq_true rfl⟩ 0 0 ⟨rfl, rfl, Nat.le_of_ble_eq_true rfl, Nat.le_of_ble_eq_true rfl⟩ dX12_only_6 (fun u H locs hp w => ?_)
  have w : Wd D A s.heap [(a1, .inl (cy 1, 1868, .inl (upd (upd (upd (fun _ => 0) 1 2) 2 20) 3 120))), (a7, .inl (cy 1, 1830, .inl (lxF (fun _ => 0) 2 20 (PP 20 2 (20 + 1 - 2))))), (a8, .inl (cy 1, 1830, .inl (lyF (fun _ => 0) 2 20 (PP 20 2 (20 + 1 - 2))))), (a0, .inr (12, [.ref a1, .ref a2, .ref a3, .ref a4, .ref a5, .int 0, .ref a6, .int 0, .int 0, .int 0, .int 0, .int 0, .int 0, .int 0, .int 0, .int 0, .int 0, .int (-1), .ref a7, .ref a8, .int 190, .ref a9, .int 21, .ref a10, .ref a11, .ref a12, .ref a13, .ref a14, .int 0, .ref a15, .ref a16, .ref a17])), (a9, .inl (cy 2, 2465, .inr (.inl (rwF (fun _ => 0) (PP 20 2 (20 + 1 - 2))))))] _ _ := w
  refine r_top (g2 := F0 m 9 ls [.int (-1)]) rfl ?_
  exact r_iret C w hlocks () hr rfl rfl trivial [0, 1, 2, 3, 4] rfl rfl ⟨Nat.le_of_ble_eq_true rfl, Nat.le_of_ble_eq_true rfl⟩ dX12_only_9
theorem dX12_when_0 : decode cX12_when 0 = .ok (.aload_n 0, 1) := by decide +kernel
theorem dX12_when_1 : decode cX12_when 1 = .ok (.aload_n 0, 1) := by decide +kernel
theorem dX12_when_2 : decode cX12_when 2 = .ok (.iload_n 1, 1) := by decide +kernel
theorem dX12_when_3 : decode cX12_when 3 = .ok (.iload_n 2, 1) := by decide +kernel
theorem dX12_when_4 : decode cX12_when 4 = .ok (.invokevirtual 360, 3) := by decide +kernel
theorem dX12_when_7 : decode cX12_when 7 = .ok (.putfield 71, 3) := by decide +kernel
theorem dX12_when_10 : decode cX12_when 10 = .ok (.aload_n 0, 1) := by decide +kernel
theorem dX12_when_11 : decode cX12_when 11 = .ok (.iload_n 3, 1) := by decide +kernel
theorem dX12_when_12 : decode cX12_when 12 = .ok (.invokevirtual 256, 3) := by decide +kernel
set_option maxRecDepth 100000 in
set_option maxHeartbeats 4000000 in
theorem lp_X12_layPairs_2 {p : Program} {l : Launch} {e : Env} {R : Room} {s : State} {m : MethodId} {args : Array Value} {below : List Frame} {meth : Method} {c : Code} {cells slots : Nat} {Q : State → Prop} {D : va_G} {cy : Nat → ClassId} {A : Nat → Prop} {H : Heap} {locs : List Loc} {ls : Array Slot} (a0 a1 a2 a3 a4 a5 a6 a7 a8 a9 a10 a11 a12 a13 a14 a15 a16 a17 : Nat) (f g : Nat → Int32) (a b : Nat) (x2 x3 : Int32) (hab : 1 ≤ a ∧ a ≤ b ∧ b ≤ 60) (e2 : x2 = nI a) (e3 : x3 = nI b) (C : Cx p s m args c cX12_layPairs RX12 D cy A) (hml : c.maxLocals = 3) (w : Wd D A s.heap [(a0, .inr (12, [.ref a1, .ref a2, .ref a3, .ref a4, .ref a5, .int 1, .ref a6, .int 0, .int 0, .int 0, .int 0, .int 0, .int 0, .int 0, .int 0, .int 0, .int 0, .int (-1), .ref a7, .ref a8, .int 0, .ref a9, .int 0, .ref a10, .ref a11, .ref a12, .ref a13, .ref a14, .int 0, .ref a15, .ref a16, .ref a17])), (a1, .inl (cy 1, 1868, .inl (upd (upd (upd (fun _ => 0) 1 x2) 2 x3) 3 120))), (a7, .inl (cy 1, 1830, .inl (f))), (a8, .inl (cy 1, 1830, .inl (g)))] H locs) (hl : lv_has ls 3 [(0, .ref a0), (1, .int x2)])
    (kk : ∀ (H : Heap) (locs : List Loc) (ls : Array Slot) (pv : Int32), pv = nI (PP b a (b + 1 - a)) → Wd D A s.heap [(a0, .inr (12, [.ref a1, .ref a2, .ref a3, .ref a4, .ref a5, .int 1, .ref a6, .int 0, .int 0, .int 0, .int 0, .int 0, .int 0, .int 0, .int 0, .int 0, .int 0, .int (-1), .ref a7, .ref a8, .int pv, .ref a9, .int 0, .ref a10, .ref a11, .ref a12, .ref a13, .ref a14, .int 0, .ref a15, .ref a16, .ref a17])), (a1, .inl (cy 1, 1868, .inl (upd (upd (upd (fun _ => 0) 1 x2) 2 x3) 3 120))), (a7, .inl (cy 1, 1830, .inl (lxF f a b (PP b a (b + 1 - a))))), (a8, .inl (cy 1, 1830, .inl (lyF g a b (PP b a (b + 1 - a)))))] H locs → lv_has ls 3 [(0, .ref a0)] → W p l e R s m args below meth c H locs cells slots Q (F0 m 95 ls [])) : W p l e R s m args below meth c H locs cells slots Q (F0 m 12 ls []) := by
  obtain ⟨ha1, hab1, hb60⟩ := hab
  have inner : ∀ (k xn yn : Nat) (x y pv : Int32) (H : Heap) (locs : List Loc) (ls : Array Slot), a ≤ xn → xn ≤ b → xn ≤ yn → yn + k = b + 1 → x = nI xn → y = nI yn → pv = nI (PP b a (xn - a) + (yn - xn)) → Wd D A s.heap [(a0, .inr (12, [.ref a1, .ref a2, .ref a3, .ref a4, .ref a5, .int 1, .ref a6, .int 0, .int 0, .int 0, .int 0, .int 0, .int 0, .int 0, .int 0, .int 0, .int 0, .int (-1), .ref a7, .ref a8, .int pv, .ref a9, .int 0, .ref a10, .ref a11, .ref a12, .ref a13, .ref a14, .int 0, .ref a15, .ref a16, .ref a17])), (a1, .inl (cy 1, 1868, .inl (upd (upd (upd (fun _ => 0) 1 x2) 2 x3) 3 120))), (a7, .inl (cy 1, 1830, .inl (lxF f a b (PP b a (xn - a) + (yn - xn))))), (a8, .inl (cy 1, 1830, .inl (lyF g a b (PP b a (xn - a) + (yn - xn)))))] H locs → lv_has ls 3 [(0, .ref a0), (1, .int x), (2, .int y)] →
      (∀ (H : Heap) (locs : List Loc) (ls : Array Slot) (pv y1 : Int32), pv = nI (PP b a (xn + 1 - a)) → Wd D A s.heap [(a0, .inr (12, [.ref a1, .ref a2, .ref a3, .ref a4, .ref a5, .int 1, .ref a6, .int 0, .int 0, .int 0, .int 0, .int 0, .int 0, .int 0, .int 0, .int 0, .int 0, .int (-1), .ref a7, .ref a8, .int pv, .ref a9, .int 0, .ref a10, .ref a11, .ref a12, .ref a13, .ref a14, .int 0, .ref a15, .ref a16, .ref a17])), (a1, .inl (cy 1, 1868, .inl (upd (upd (upd (fun _ => 0) 1 x2) 2 x3) 3 120))), (a7, .inl (cy 1, 1830, .inl (lxF f a b (PP b a (xn + 1 - a))))), (a8, .inl (cy 1, 1830, .inl (lyF g a b (PP b a (xn + 1 - a)))))] H locs → lv_has ls 3 [(0, .ref a0), (1, .int x), (2, .int y1)] → W p l e R s m args below meth c H locs cells slots Q (F0 m 89 ls [])) → W p l e R s m args below meth c H locs cells slots Q (F0 m 31 ls []) := by
    intro k
    induction k with
    | zero =>
      intro xn yn x y pv H locs ls h1 h2 h3 h4 ex ey em w hl kk
      have hy : yn = b + 1 := by omega
      have c1 : x3 < y := by rw [e3, ey, hy]; exact nI_lt (by omega) (by omega)
      refine lv_iload_n C.1 C.2.1 dX12_layPairs_31 rfl (lv_at hl 2 rfl) ?_
      refine lv_aload_n C.1 C.2.1 dX12_layPairs_32 rfl (lv_at hl 0 rfl) ?_
      refine r_get C w 0 rfl rfl 0 (by decide) fl_RX12_9 (v := .ref a1) rfl dX12_layPairs_33 ?_
      refine lv_iconst (v := 2) C.1 C.2.1 dX12_layPairs_36 (by decide) ?_
      refine r_iald C w 1 rfl (v := x3) (vinD (by decide)) rfl dX12_layPairs_37 ?_
      refine b_icmp_gt_t C (tgt := 89) dX12_layPairs_38 (by decide) c1 ?_
      have eN : PP b a (xn - a) + (yn - xn) = PP b a (xn + 1 - a) := by
        have := PP_succ b (xn - a) a
        have e1 : xn - a + 1 = xn + 1 - a := by omega
        have e2 : a + (xn - a) = xn := by omega
        rw [e1, e2] at this
        omega
      exact kk _ _ _ pv y (by rw [em, eN]) (by rw [← eN]; exact w) (lv_sub hl [0, 1, 2] rfl)
    | succ k ih =>
      intro xn yn x y pv H locs ls h1 h2 h3 h4 ex ey em w hl kk
      have hb1 := PP_lt (b := b) h1 h3 (by omega)
      have hb2 := PP_le b hb60 a (by omega) ha1 hab1
      have hb : PP b a (xn - a) + (yn - xn) < 1830 := by omega
      have c1 : ¬ x3 < y := by rw [e3, ey]; exact nI_nlt (by omega) (by omega)
      have c2 : ¬ (120 : Int32) < x + y := by rw [ex, ey, nI_add]; exact nI_nlt (a := 120) (by omega) (by omega)
      have hin : vp_in pv 1830 := by rw [em]; exact vp_in_nI hb (by decide)
      have hsx : upd (lxF f a b (PP b a (xn - a) + (yn - xn))) pv.toNatClampNeg x = lxF f a b (PP b a (xn - a) + (yn - xn) + 1) := by
        rw [em]
        refine lxF_step (by omega) ?_
        rw [pxy_at h1 h3 (by omega), ex]
      have hsy : upd (lyF g a b (PP b a (xn - a) + (yn - xn))) pv.toNatClampNeg y = lyF g a b (PP b a (xn - a) + (yn - xn) + 1) := by
        rw [em]
        refine lyF_step (by omega) ?_
        rw [pxy_at h1 h3 (by omega), ey]
      refine lv_iload_n C.1 C.2.1 dX12_layPairs_31 rfl (lv_at hl 2 rfl) ?_
      refine lv_aload_n C.1 C.2.1 dX12_layPairs_32 rfl (lv_at hl 0 rfl) ?_
      refine r_get C w 0 rfl rfl 0 (by decide) fl_RX12_9 (v := .ref a1) rfl dX12_layPairs_33 ?_
      refine lv_iconst (v := 2) C.1 C.2.1 dX12_layPairs_36 (by decide) ?_
      refine r_iald C w 1 rfl (v := x3) (vinD (by decide)) rfl dX12_layPairs_37 ?_
      refine b_icmp_gt_f C (tgt := 89) dX12_layPairs_38 (by decide) c1 ?_
      refine lv_iload_n C.1 C.2.1 dX12_layPairs_41 rfl (lv_at hl 1 rfl) ?_
      refine lv_iload_n C.1 C.2.1 dX12_layPairs_42 rfl (lv_at hl 2 rfl) ?_
      refine r_iadd C (v := (x + y)) dX12_layPairs_43 rfl ?_
      refine lv_aload_n C.1 C.2.1 dX12_layPairs_44 rfl (lv_at hl 0 rfl) ?_
      refine r_get C w 0 rfl rfl 0 (by decide) fl_RX12_9 (v := .ref a1) rfl dX12_layPairs_45 ?_
      refine lv_iconst (v := 3) C.1 C.2.1 dX12_layPairs_48 (by decide) ?_
      refine r_iald C w 1 rfl (v := 120) (vinD (by decide)) rfl dX12_layPairs_49 ?_
      refine b_icmp_gt_f C (tgt := 89) dX12_layPairs_50 (by decide) c2 ?_
      refine lv_aload_n C.1 C.2.1 dX12_layPairs_53 rfl (lv_at hl 0 rfl) ?_
      refine r_get C w 0 rfl rfl 18 (by decide) fl_RX12_33 (v := .ref a7) rfl dX12_layPairs_54 ?_
      refine lv_aload_n C.1 C.2.1 dX12_layPairs_57 rfl (lv_at hl 0 rfl) ?_
      refine r_get C w 0 rfl rfl 20 (by decide) fl_RX12_250 (v := .int pv) rfl dX12_layPairs_58 ?_
      refine lv_iload_n C.1 C.2.1 dX12_layPairs_61 rfl (lv_at hl 1 rfl) ?_
      refine r_iast C w 2 rfl hin (lxF f a b (PP b a (xn - a) + (yn - xn) + 1)) hsx [(a0, .inr (12, [.ref a1, .ref a2, .ref a3, .ref a4, .ref a5, .int 1, .ref a6, .int 0, .int 0, .int 0, .int 0, .int 0, .int 0, .int 0, .int 0, .int 0, .int 0, .int (-1), .ref a7, .ref a8, .int pv, .ref a9, .int 0, .ref a10, .ref a11, .ref a12, .ref a13, .ref a14, .int 0, .ref a15, .ref a16, .ref a17])), (a1, .inl (cy 1, 1868, .inl (upd (upd (upd (fun _ => 0) 1 x2) 2 x3) 3 120))), (a7, .inl (cy 1, 1830, .inl (lxF f a b (PP b a (xn - a) + (yn - xn) + 1)))), (a8, .inl (cy 1, 1830, .inl (lyF g a b (PP b a (xn - a) + (yn - xn)))))] rfl dX12_layPairs_62 (fun H locs w => ?_)
      refine lv_aload_n C.1 C.2.1 dX12_layPairs_63 rfl (lv_at hl 0 rfl) ?_
      refine r_get C w 0 rfl rfl 19 (by decide) fl_RX12_36 (v := .ref a8) rfl dX12_layPairs_64 ?_
      refine lv_aload_n C.1 C.2.1 dX12_layPairs_67 rfl (lv_at hl 0 rfl) ?_
      refine r_get C w 0 rfl rfl 20 (by decide) fl_RX12_250 (v := .int pv) rfl dX12_layPairs_68 ?_
      refine lv_iload_n C.1 C.2.1 dX12_layPairs_71 rfl (lv_at hl 2 rfl) ?_
      refine r_iast C w 3 rfl hin (lyF g a b (PP b a (xn - a) + (yn - xn) + 1)) hsy [(a0, .inr (12, [.ref a1, .ref a2, .ref a3, .ref a4, .ref a5, .int 1, .ref a6, .int 0, .int 0, .int 0, .int 0, .int 0, .int 0, .int 0, .int 0, .int 0, .int 0, .int (-1), .ref a7, .ref a8, .int pv, .ref a9, .int 0, .ref a10, .ref a11, .ref a12, .ref a13, .ref a14, .int 0, .ref a15, .ref a16, .ref a17])), (a1, .inl (cy 1, 1868, .inl (upd (upd (upd (fun _ => 0) 1 x2) 2 x3) 3 120))), (a7, .inl (cy 1, 1830, .inl (lxF f a b (PP b a (xn - a) + (yn - xn) + 1)))), (a8, .inl (cy 1, 1830, .inl (lyF g a b (PP b a (xn - a) + (yn - xn) + 1))))] rfl dX12_layPairs_72 (fun H locs w => ?_)
      refine lv_aload_n C.1 C.2.1 dX12_layPairs_73 rfl (lv_at hl 0 rfl) ?_
      refine lv_dup C.1 C.2.1 dX12_layPairs_74 rfl ?_
      refine r_get C w 0 rfl rfl 20 (by decide) fl_RX12_250 (v := .int pv) rfl dX12_layPairs_75 ?_
      refine lv_iconst (v := 1) C.1 C.2.1 dX12_layPairs_78 (by decide) ?_
      refine r_iadd C (v := (pv + 1)) dX12_layPairs_79 rfl ?_
      refine r_put C w 0 rfl rfl 20 (by decide) fl_RX12_250 rfl (ty := .int) (tyX12_ok 20 (by decide)) rfl rfl (Nat.le_of_ble_eq_true rfl) [(a0, .inr (12, [.ref a1, .ref a2, .ref a3, .ref a4, .ref a5, .int 1, .ref a6, .int 0, .int 0, .int 0, .int 0, .int 0, .int 0, .int 0, .int 0, .int 0, .int 0, .int (-1), .ref a7, .ref a8, .int (pv + 1), .ref a9, .int 0, .ref a10, .ref a11, .ref a12, .ref a13, .ref a14, .int 0, .ref a15, .ref a16, .ref a17])), (a1, .inl (cy 1, 1868, .inl (upd (upd (upd (fun _ => 0) 1 x2) 2 x3) 3 120))), (a7, .inl (cy 1, 1830, .inl (lxF f a b (PP b a (xn - a) + (yn - xn) + 1)))), (a8, .inl (cy 1, 1830, .inl (lyF g a b (PP b a (xn - a) + (yn - xn) + 1))))] rfl dX12_layPairs_80 (fun H locs w => ?_)
      refine lv_iinc (v := (y + 1)) (lv' := [(2, .int (y + 1)), (0, .ref a0), (1, .int x)]) C.1 C.2.1 dX12_layPairs_83 hl (k := 2) rfl rfl (by decide) rfl (fun ls hl => ?_)
      refine lv_goto (tgt := 31) C.1 C.2.1 dX12_layPairs_86 (by decide) ?_
      have eN : PP b a (xn - a) + (yn + 1 - xn) = PP b a (xn - a) + (yn - xn) + 1 := by omega
      exact ih xn (yn + 1) x (y + 1) (pv + 1) _ _ _ h1 h2 (by omega) (by omega) ex (by rw [ey]; exact nI_1 _) (by rw [em, eN]; exact nI_1 _) (by rw [eN]; exact w) (lv_sub hl [1, 2, 0] rfl) kk
  have outer : ∀ (k xn : Nat) (x pv : Int32) (H : Heap) (locs : List Loc) (ls : Array Slot), a ≤ xn → xn + k = b + 1 → x = nI xn → pv = nI (PP b a (xn - a)) → Wd D A s.heap [(a0, .inr (12, [.ref a1, .ref a2, .ref a3, .ref a4, .ref a5, .int 1, .ref a6, .int 0, .int 0, .int 0, .int 0, .int 0, .int 0, .int 0, .int 0, .int 0, .int 0, .int (-1), .ref a7, .ref a8, .int pv, .ref a9, .int 0, .ref a10, .ref a11, .ref a12, .ref a13, .ref a14, .int 0, .ref a15, .ref a16, .ref a17])), (a1, .inl (cy 1, 1868, .inl (upd (upd (upd (fun _ => 0) 1 x2) 2 x3) 3 120))), (a7, .inl (cy 1, 1830, .inl (lxF f a b (PP b a (xn - a))))), (a8, .inl (cy 1, 1830, .inl (lyF g a b (PP b a (xn - a)))))] H locs → lv_has ls 3 [(0, .ref a0), (1, .int x)] → W p l e R s m args below meth c H locs cells slots Q (F0 m 12 ls []) := by
    intro k
    induction k with
    | zero =>
      intro xn x pv H locs ls h1 h4 ex em w hl
      have hx : xn = b + 1 := by omega
      subst hx
      have c1 : x3 < x := by rw [e3, ex]; exact nI_lt (by omega) (by omega)
      refine lv_iload_n C.1 C.2.1 dX12_layPairs_12 rfl (lv_at hl 1 rfl) ?_
      refine lv_aload_n C.1 C.2.1 dX12_layPairs_13 rfl (lv_at hl 0 rfl) ?_
      refine r_get C w 0 rfl rfl 0 (by decide) fl_RX12_9 (v := .ref a1) rfl dX12_layPairs_14 ?_
      refine lv_iconst (v := 2) C.1 C.2.1 dX12_layPairs_17 (by decide) ?_
      refine r_iald C w 1 rfl (v := x3) (vinD (by decide)) rfl dX12_layPairs_18 ?_
      refine b_icmp_gt_t C (tgt := 95) dX12_layPairs_19 (by decide) c1 ?_
      exact kk _ _ _ pv em w (lv_sub hl [0] rfl)
    | succ k ih =>
      intro xn x pv H locs ls h1 h4 ex em w hl
      have c1 : ¬ x3 < x := by rw [e3, ex]; exact nI_nlt (by omega) (by omega)
      refine lv_iload_n C.1 C.2.1 dX12_layPairs_12 rfl (lv_at hl 1 rfl) ?_
      refine lv_aload_n C.1 C.2.1 dX12_layPairs_13 rfl (lv_at hl 0 rfl) ?_
      refine r_get C w 0 rfl rfl 0 (by decide) fl_RX12_9 (v := .ref a1) rfl dX12_layPairs_14 ?_
      refine lv_iconst (v := 2) C.1 C.2.1 dX12_layPairs_17 (by decide) ?_
      refine r_iald C w 1 rfl (v := x3) (vinD (by decide)) rfl dX12_layPairs_18 ?_
      refine b_icmp_gt_f C (tgt := 95) dX12_layPairs_19 (by decide) c1 ?_
      refine lv_iload_n C.1 C.2.1 dX12_layPairs_22 rfl (lv_at hl 1 rfl) ?_
      refine lv_aload_n C.1 C.2.1 dX12_layPairs_23 rfl (lv_at hl 0 rfl) ?_
      refine r_get C w 0 rfl rfl 0 (by decide) fl_RX12_9 (v := .ref a1) rfl dX12_layPairs_24 ?_
      refine lv_iconst (v := 4) C.1 C.2.1 dX12_layPairs_27 (by decide) ?_
      refine r_iald C w 1 rfl (v := 0) (vinD (by decide)) rfl dX12_layPairs_28 ?_
      refine r_iadd C (v := (x + 0)) dX12_layPairs_29 rfl ?_
      refine lv_istore_n (lv' := [(2, .int (x + 0)), (0, .ref a0), (1, .int x)]) C.1 C.2.1 dX12_layPairs_30 rfl hl (by decide) rfl (fun ls hl => ?_)
      have eN : PP b a (xn - a) + (xn - xn) = PP b a (xn - a) := by omega
      have e0 : x + 0 = x := by rw [Int32.add_zero]
      rw [e0] at hl
      refine inner (b + 1 - xn) xn xn x x pv _ _ _ h1 (by omega) (Nat.le_refl _) (by omega) ex ex (by rw [em, eN]) (by rw [eN]; exact w) (lv_sub hl [1, 2, 0] rfl) (fun H locs ls pv y1 em1 w hl => ?_)
      refine lv_iinc (v := (x + 1)) (lv' := [(1, .int (x + 1)), (0, .ref a0), (2, .int y1)]) C.1 C.2.1 dX12_layPairs_89 hl (k := 1) rfl rfl (by decide) rfl (fun ls hl => ?_)
      refine lv_goto (tgt := 12) C.1 C.2.1 dX12_layPairs_92 (by decide) ?_
      exact ih (xn + 1) (x + 1) pv _ _ _ (by omega) (by omega) (by rw [ex]; exact nI_1 _) em1 w (lv_sub hl [1, 0] rfl)
  refine outer (b + 1 - a) a x2 0 _ _ _ (Nat.le_refl _) (by omega) e2 (by rw [Nat.sub_self]; rfl) ?_ hl
  have e0 : lxF f a b (PP b a (a - a)) = f := by rw [Nat.sub_self]; exact lxF_0 f a b
  have e1 : lyF g a b (PP b a (a - a)) = g := by rw [Nat.sub_self]; exact lyF_0 g a b
  rw [e0, e1]
  exact w
set_option maxRecDepth 100000 in
set_option maxHeartbeats 4000000 in
theorem c_X12_layPairs_3 (l : Launch) (D : va_G) (cy : Nat → ClassId) (a0 a1 a2 a3 a4 a5 a6 a7 a8 a9 a10 a11 a12 a13 a14 a15 a16 a17 : Nat) : Ct l D cy yX12_layPairs cX12_layPairs 3 none 0 0 0 0 [(a0, .inr (12, [.ref a1, .ref a2, .ref a3, .ref a4, .ref a5, .int 1, .ref a6, .int 0, .int 0, .int 0, .int 0, .int 0, .int 0, .int 0, .int 0, .int 0, .int 0, .int (-1), .ref a7, .ref a8, .int 0, .ref a9, .int 0, .ref a10, .ref a11, .ref a12, .ref a13, .ref a14, .int 0, .ref a15, .ref a16, .ref a17])), (a1, .inl (cy 1, 1868, .inl (upd (upd (upd (fun _ => 0) 1 2) 2 20) 3 120))), (a7, .inl (cy 1, 1830, .inl (fun _ => 0))), (a8, .inl (cy 1, 1830, .inl (fun _ => 0)))] [.ref a0] (fun u : Unit => none) (fun _ => True) (fun u : Unit => [(a0, .inr (12, [.ref a1, .ref a2, .ref a3, .ref a4, .ref a5, .int 1, .ref a6, .int 0, .int 0, .int 0, .int 0, .int 0, .int 0, .int 0, .int 0, .int 0, .int 0, .int (-1), .ref a7, .ref a8, .int 190, .ref a9, .int 0, .ref a10, .ref a11, .ref a12, .ref a13, .ref a14, .int 0, .ref a15, .ref a16, .ref a17])), (a1, .inl (cy 1, 1868, .inl (upd (upd (upd (fun _ => 0) 1 2) 2 20) 3 120))), (a7, .inl (cy 1, 1830, .inl (lxF (fun _ => 0) 2 20 (PP 20 2 (20 + 1 - 2))))), (a8, .inl (cy 1, 1830, .inl (lyF (fun _ => 0) 2 20 (PP 20 2 (20 + 1 - 2)))))]) := by
  refine Ct.of (by decide +kernel) (Nat.le_of_ble_eq_true rfl) ?_
  intro p e s m args below meth c A ls C hr hlocks hml hnm w hl
  have hl : lv_has ls 3 [(0, .ref a0)] := hl
  refine lv_aload_n C.1 C.2.1 dX12_layPairs_0 rfl (lv_at hl 0 rfl) ?_
  refine lv_iconst (v := 0) C.1 C.2.1 dX12_layPairs_1 (by decide) ?_
  refine r_put C w 0 rfl rfl 20 (by decide) fl_RX12_250 rfl (ty := .int) (tyX12_ok 20 (by decide)) rfl rfl (Nat.le_of_ble_eq_true rfl) [(a0, .inr (12, [.ref a1, .ref a2, .ref a3, .ref a4, .ref a5, .int 1, .ref a6, .int 0, .int 0, .int 0, .int 0, .int 0, .int 0, .int 0, .int 0, .int 0, .int 0, .int (-1), .ref a7, .ref a8, .int 0, .ref a9, .int 0, .ref a10, .ref a11, .ref a12, .ref a13, .ref a14, .int 0, .ref a15, .ref a16, .ref a17])), (a1, .inl (cy 1, 1868, .inl (upd (upd (upd (fun _ => 0) 1 2) 2 20) 3 120))), (a7, .inl (cy 1, 1830, .inl (fun _ => 0))), (a8, .inl (cy 1, 1830, .inl (fun _ => 0)))] rfl dX12_layPairs_2 (fun H locs w => ?_)
  refine lv_aload_n C.1 C.2.1 dX12_layPairs_5 rfl (lv_at hl 0 rfl) ?_
  refine r_get C w 0 rfl rfl 0 (by decide) fl_RX12_9 (v := .ref a1) rfl dX12_layPairs_6 ?_
  refine lv_iconst (v := 1) C.1 C.2.1 dX12_layPairs_9 (by decide) ?_
  refine r_iald C w 1 rfl (v := 2) (vinD (by decide)) rfl dX12_layPairs_10 ?_
  refine lv_istore_n (lv' := [(1, .int 2), (0, .ref a0)]) C.1 C.2.1 dX12_layPairs_11 rfl hl (by decide) rfl (fun ls hl => ?_)
  refine lp_X12_layPairs_2 a0 a1 a2 a3 a4 a5 a6 a7 a8 a9 a10 a11 a12 a13 a14 a15 a16 a17 (fun _ => 0) (fun _ => 0) 2 20 2 20 (by decide) rfl rfl C hml (w.re rfl) (lv_sub hl [1, 0] rfl) (fun H locs ls pv em w hl => ?_)
  have em : pv = 190 := by rw [em]; decide +kernel
  subst em
  have w : Wd D A s.heap [(a0, .inr (12, [.ref a1, .ref a2, .ref a3, .ref a4, .ref a5, .int 1, .ref a6, .int 0, .int 0, .int 0, .int 0, .int 0, .int 0, .int 0, .int 0, .int 0, .int 0, .int (-1), .ref a7, .ref a8, .int 190, .ref a9, .int 0, .ref a10, .ref a11, .ref a12, .ref a13, .ref a14, .int 0, .ref a15, .ref a16, .ref a17])), (a1, .inl (cy 1, 1868, .inl (upd (upd (upd (fun _ => 0) 1 2) 2 20) 3 120))), (a7, .inl (cy 1, 1830, .inl (lxF (fun _ => 0) 2 20 (PP 20 2 (20 + 1 - 2))))), (a8, .inl (cy 1, 1830, .inl (lyF (fun _ => 0) 2 20 (PP 20 2 (20 + 1 - 2)))))] _ _ := w
  exact r_vret C w hlocks () hr rfl trivial [0, 1, 2, 3] rfl rfl ⟨Nat.le_of_ble_eq_true rfl, Nat.le_of_ble_eq_true rfl⟩ dX12_layPairs_95
set_option maxRecDepth 100000 in
set_option maxHeartbeats 4000000 in
theorem c_X12_isWorld_3 (l : Launch) (D : va_G) (cy : Nat → ClassId) (a0 a1 a2 a3 a4 a5 a6 a7 a8 a9 a10 a11 a12 a13 a14 a15 a16 a17 : Nat) (x0 : Int32) (k0 : x0 < 0) : Ct l D cy yX12_isWorld cX12_isWorld 2 (some .boolean) 1 25 0 0 [(a0, .inr (12, [.ref a1, .ref a2, .ref a3, .ref a4, .ref a5, .int 1, .ref a6, .int 0, .int 0, .int 0, .int 0, .int 0, .int 0, .int 0, .int 0, .int 0, .int 0, .int (-1), .ref a7, .ref a8, .int 0, .ref a9, .int 0, .ref a10, .ref a11, .ref a12, .ref a13, .ref a14, .int 0, .ref a15, .ref a16, .ref a17])), (a1, .inl (cy 1, 1868, .inl (upd (upd (upd (fun _ => 0) 1 2) 2 20) 3 120))), (a7, .inl (cy 1, 1830, .inl (fun _ => 0))), (a8, .inl (cy 1, 1830, .inl (fun _ => 0)))] [.ref a0, .int x0] (fun u : Unit => some (.int 0)) (fun _ => True) (fun u : Unit => [(a0, .inr (12, [.ref a1, .ref a2, .ref a3, .ref a4, .ref a5, .int 1, .ref a6, .int 0, .int 0, .int 0, .int 0, .int 0, .int 0, .int 0, .int 0, .int 0, .int 0, .int (-1), .ref a7, .ref a8, .int 190, .ref a9, .int 0, .ref a10, .ref a11, .ref a12, .ref a13, .ref a14, .int 0, .ref a15, .ref a16, .ref a17])), (a1, .inl (cy 1, 1868, .inl (upd (upd (upd (fun _ => 0) 1 2) 2 20) 3 120))), (a7, .inl (cy 1, 1830, .inl (lxF (fun _ => 0) 2 20 (PP 20 2 (20 + 1 - 2))))), (a8, .inl (cy 1, 1830, .inl (lyF (fun _ => 0) 2 20 (PP 20 2 (20 + 1 - 2)))))]) := by
  refine Ct.of (by decide +kernel) (Nat.le_of_ble_eq_true rfl) ?_
  intro p e s m args below meth c A ls C hr hlocks hml hnm w hl
  have hl : lv_has ls 2 [(0, .ref a0), (1, .int x0)] := hl
  refine lv_aload_n C.1 C.2.1 dX12_isWorld_0 rfl (lv_at hl 0 rfl) ?_
  refine r_callV C w fv_RX12_253 (c_X12_layPairs_3 l D cy a0 a1 a2 a3 a4 a5 a6 a7 a8 a9 a10 a11 a12 a13 a14 a15 a16 a17) (hl.1.trans hml.symm) [0, 1, 2, 3] [] (wr := []) ⟨rfl, rfl, rfl, rfl, by decide⟩ 0 rfl rfl rfl rfl rfl ⟨Nat.le_of_ble_eq_true rfl, Nat.le_of_ble_eq_true rfl, Nat.le_of_ble_eq_true rfl⟩ 0 0 ⟨rfl, rfl, Nat.le_of_ble_eq_true rfl, Nat.le_of_ble_eq_true rfl⟩ dX12_isWorld_1 (fun u H locs hp w => ?_)
  have w : Wd D A s.heap [(a0, .inr (12, [.ref a1, .ref a2, .ref a3, .ref a4, .ref a5, .int 1, .ref a6, .int 0, .int 0, .int 0, .int 0, .int 0, .int 0, .int 0, .int 0, .int 0, .int 0, .int (-1), .ref a7, .ref a8, .int 190, .ref a9, .int 0, .ref a10, .ref a11, .ref a12, .ref a13, .ref a14, .int 0, .ref a15, .ref a16, .ref a17])), (a1, .inl (cy 1, 1868, .inl (upd (upd (upd (fun _ => 0) 1 2) 2 20) 3 120))), (a7, .inl (cy 1, 1830, .inl (lxF (fun _ => 0) 2 20 (PP 20 2 (20 + 1 - 2))))), (a8, .inl (cy 1, 1830, .inl (lyF (fun _ => 0) 2 20 (PP 20 2 (20 + 1 - 2)))))] _ _ := w
  refine r_top (g2 := F0 m 4 ls []) rfl ?_
  refine lv_iload_n C.1 C.2.1 dX12_isWorld_4 rfl (lv_at hl 1 rfl) ?_
  refine lv_i2l (v := (Int32.toInt64 x0)) C.1 C.2.1 dX12_isWorld_5 rfl ?_
  refine lv_lconst (v := 0) C.1 C.2.1 dX12_isWorld_6 (by decide) ?_
  refine lv_aload_n C.1 C.2.1 dX12_isWorld_7 rfl (lv_at hl 0 rfl) ?_
  refine r_get C w 0 rfl rfl 20 (by decide) fl_RX12_250 (v := .int 190) rfl dX12_isWorld_8 ?_
  refine lv_iconst (v := 1) C.1 C.2.1 dX12_isWorld_11 (by decide) ?_
  refine r_isub C (v := 189) dX12_isWorld_12 (by decide) ?_
  refine lv_i2l (v := 189) C.1 C.2.1 dX12_isWorld_13 (by decide) ?_
  refine r_callS C w fs_RX12_133 (c_X12_within_12 l D cy x0 k0) (hl.1.trans hml.symm) [] [0, 1, 2, 3] (wr := [(a0, .inr (12, [.ref a1, .ref a2, .ref a3, .ref a4, .ref a5, .int 1, .ref a6, .int 0, .int 0, .int 0, .int 0, .int 0, .int 0, .int 0, .int 0, .int 0, .int 0, .int (-1), .ref a7, .ref a8, .int 190, .ref a9, .int 0, .ref a10, .ref a11, .ref a12, .ref a13, .ref a14, .int 0, .ref a15, .ref a16, .ref a17])), (a1, .inl (cy 1, 1868, .inl (upd (upd (upd (fun _ => 0) 1 2) 2 20) 3 120))), (a7, .inl (cy 1, 1830, .inl (lxF (fun _ => 0) 2 20 (PP 20 2 (20 + 1 - 2))))), (a8, .inl (cy 1, 1830, .inl (lyF (fun _ => 0) 2 20 (PP 20 2 (20 + 1 - 2)))))]) ⟨rfl, rfl, rfl, rfl, by decide⟩ rfl rfl ⟨Nat.le_of_ble_eq_true rfl, Nat.le_of_ble_eq_true rfl, Nat.le_of_ble_eq_true rfl⟩ 0 0 ⟨rfl, rfl, Nat.le_of_ble_eq_true rfl, Nat.le_of_ble_eq_true rfl⟩ dX12_isWorld_14 (fun u H locs hp w => ?_)
  have w : Wd D A s.heap [(a0, .inr (12, [.ref a1, .ref a2, .ref a3, .ref a4, .ref a5, .int 1, .ref a6, .int 0, .int 0, .int 0, .int 0, .int 0, .int 0, .int 0, .int 0, .int 0, .int 0, .int (-1), .ref a7, .ref a8, .int 190, .ref a9, .int 0, .ref a10, .ref a11, .ref a12, .ref a13, .ref a14, .int 0, .ref a15, .ref a16, .ref a17])), (a1, .inl (cy 1, 1868, .inl (upd (upd (upd (fun _ => 0) 1 2) 2 20) 3 120))), (a7, .inl (cy 1, 1830, .inl (lxF (fun _ => 0) 2 20 (PP 20 2 (20 + 1 - 2))))), (a8, .inl (cy 1, 1830, .inl (lyF (fun _ => 0) 2 20 (PP 20 2 (20 + 1 - 2)))))] _ _ := w
  refine r_top (g2 := F0 m 17 ls [.int 0]) rfl ?_
  exact r_iret C w hlocks () hr rfl rfl trivial [0, 1, 2, 3] rfl rfl ⟨Nat.le_of_ble_eq_true rfl, Nat.le_of_ble_eq_true rfl⟩ dX12_isWorld_17
set_option maxRecDepth 100000 in
set_option maxHeartbeats 4000000 in
theorem c_X12_isWorld_4 (l : Launch) (D : va_G) (cy : Nat → ClassId) (a0 a1 a2 a3 a4 a5 a6 a7 a8 a9 a10 a11 a12 a13 a14 a15 a16 a17 : Nat) (x0 : Int32) (k0 : ¬ x0 < 0) (k1 : ¬ 189 < x0) : Ct l D cy yX12_isWorld cX12_isWorld 2 (some .boolean) 1 25 0 0 [(a0, .inr (12, [.ref a1, .ref a2, .ref a3, .ref a4, .ref a5, .int 1, .ref a6, .int 0, .int 0, .int 0, .int 0, .int 0, .int 0, .int 0, .int 0, .int 0, .int 0, .int (-1), .ref a7, .ref a8, .int 0, .ref a9, .int 0, .ref a10, .ref a11, .ref a12, .ref a13, .ref a14, .int 0, .ref a15, .ref a16, .ref a17])), (a1, .inl (cy 1, 1868, .inl (upd (upd (upd (fun _ => 0) 1 2) 2 20) 3 120))), (a7, .inl (cy 1, 1830, .inl (fun _ => 0))), (a8, .inl (cy 1, 1830, .inl (fun _ => 0)))] [.ref a0, .int x0] (fun u : Unit => some (.int 1)) (fun _ => True) (fun u : Unit => [(a0, .inr (12, [.ref a1, .ref a2, .ref a3, .ref a4, .ref a5, .int 1, .ref a6, .int 0, .int 0, .int 0, .int 0, .int 0, .int 0, .int 0, .int 0, .int 0, .int 0, .int (-1), .ref a7, .ref a8, .int 190, .ref a9, .int 0, .ref a10, .ref a11, .ref a12, .ref a13, .ref a14, .int 0, .ref a15, .ref a16, .ref a17])), (a1, .inl (cy 1, 1868, .inl (upd (upd (upd (fun _ => 0) 1 2) 2 20) 3 120))), (a7, .inl (cy 1, 1830, .inl (lxF (fun _ => 0) 2 20 (PP 20 2 (20 + 1 - 2))))), (a8, .inl (cy 1, 1830, .inl (lyF (fun _ => 0) 2 20 (PP 20 2 (20 + 1 - 2)))))]) := by
  refine Ct.of (by decide +kernel) (Nat.le_of_ble_eq_true rfl) ?_
  intro p e s m args below meth c A ls C hr hlocks hml hnm w hl
  have hl : lv_has ls 2 [(0, .ref a0), (1, .int x0)] := hl
  refine lv_aload_n C.1 C.2.1 dX12_isWorld_0 rfl (lv_at hl 0 rfl) ?_
  refine r_callV C w fv_RX12_253 (c_X12_layPairs_3 l D cy a0 a1 a2 a3 a4 a5 a6 a7 a8 a9 a10 a11 a12 a13 a14 a15 a16 a17) (hl.1.trans hml.symm) [0, 1, 2, 3] [] (wr := []) ⟨rfl, rfl, rfl, rfl, by decide⟩ 0 rfl rfl rfl rfl rfl ⟨Nat.le_of_ble_eq_true rfl, Nat.le_of_ble_eq_true rfl, Nat.le_of_ble_eq_true rfl⟩ 0 0 ⟨rfl, rfl, Nat.le_of_ble_eq_true rfl, Nat.le_of_ble_eq_true rfl⟩ dX12_isWorld_1 (fun u H locs hp w => ?_)
  have w : Wd D A s.heap [(a0, .inr (12, [.ref a1, .ref a2, .ref a3, .ref a4, .ref a5, .int 1, .ref a6, .int 0, .int 0, .int 0, .int 0, .int 0, .int 0, .int 0, .int 0, .int 0, .int 0, .int (-1), .ref a7, .ref a8, .int 190, .ref a9, .int 0, .ref a10, .ref a11, .ref a12, .ref a13, .ref a14, .int 0, .ref a15, .ref a16, .ref a17])), (a1, .inl (cy 1, 1868, .inl (upd (upd (upd (fun _ => 0) 1 2) 2 20) 3 120))), (a7, .inl (cy 1, 1830, .inl (lxF (fun _ => 0) 2 20 (PP 20 2 (20 + 1 - 2))))), (a8, .inl (cy 1, 1830, .inl (lyF (fun _ => 0) 2 20 (PP 20 2 (20 + 1 - 2)))))] _ _ := w
  refine r_top (g2 := F0 m 4 ls []) rfl ?_
  refine lv_iload_n C.1 C.2.1 dX12_isWorld_4 rfl (lv_at hl 1 rfl) ?_
  refine lv_i2l (v := (Int32.toInt64 x0)) C.1 C.2.1 dX12_isWorld_5 rfl ?_
  refine lv_lconst (v := 0) C.1 C.2.1 dX12_isWorld_6 (by decide) ?_
  refine lv_aload_n C.1 C.2.1 dX12_isWorld_7 rfl (lv_at hl 0 rfl) ?_
  refine r_get C w 0 rfl rfl 20 (by decide) fl_RX12_250 (v := .int 190) rfl dX12_isWorld_8 ?_
  refine lv_iconst (v := 1) C.1 C.2.1 dX12_isWorld_11 (by decide) ?_
  refine r_isub C (v := 189) dX12_isWorld_12 (by decide) ?_
  refine lv_i2l (v := 189) C.1 C.2.1 dX12_isWorld_13 (by decide) ?_
  refine r_callS C w fs_RX12_133 (c_X12_within_14 l D cy x0 k0 k1) (hl.1.trans hml.symm) [] [0, 1, 2, 3] (wr := [(a0, .inr (12, [.ref a1, .ref a2, .ref a3, .ref a4, .ref a5, .int 1, .ref a6, .int 0, .int 0, .int 0, .int 0, .int 0, .int 0, .int 0, .int 0, .int 0, .int 0, .int (-1), .ref a7, .ref a8, .int 190, .ref a9, .int 0, .ref a10, .ref a11, .ref a12, .ref a13, .ref a14, .int 0, .ref a15, .ref a16, .ref a17])), (a1, .inl (cy 1, 1868, .inl (upd (upd (upd (fun _ => 0) 1 2) 2 20) 3 120))), (a7, .inl (cy 1, 1830, .inl (lxF (fun _ => 0) 2 20 (PP 20 2 (20 + 1 - 2))))), (a8, .inl (cy 1, 1830, .inl (lyF (fun _ => 0) 2 20 (PP 20 2 (20 + 1 - 2)))))]) ⟨rfl, rfl, rfl, rfl, by decide⟩ rfl rfl ⟨Nat.le_of_ble_eq_true rfl, Nat.le_of_ble_eq_true rfl, Nat.le_of_ble_eq_true rfl⟩ 0 0 ⟨rfl, rfl, Nat.le_of_ble_eq_true rfl, Nat.le_of_ble_eq_true rfl⟩ dX12_isWorld_14 (fun u H locs hp w => ?_)
  have w : Wd D A s.heap [(a0, .inr (12, [.ref a1, .ref a2, .ref a3, .ref a4, .ref a5, .int 1, .ref a6, .int 0, .int 0, .int 0, .int 0, .int 0, .int 0, .int 0, .int 0, .int 0, .int 0, .int (-1), .ref a7, .ref a8, .int 190, .ref a9, .int 0, .ref a10, .ref a11, .ref a12, .ref a13, .ref a14, .int 0, .ref a15, .ref a16, .ref a17])), (a1, .inl (cy 1, 1868, .inl (upd (upd (upd (fun _ => 0) 1 2) 2 20) 3 120))), (a7, .inl (cy 1, 1830, .inl (lxF (fun _ => 0) 2 20 (PP 20 2 (20 + 1 - 2))))), (a8, .inl (cy 1, 1830, .inl (lyF (fun _ => 0) 2 20 (PP 20 2 (20 + 1 - 2)))))] _ _ := w
  refine r_top (g2 := F0 m 17 ls [.int 1]) rfl ?_
  exact r_iret C w hlocks () hr rfl rfl trivial [0, 1, 2, 3] rfl rfl ⟨Nat.le_of_ble_eq_true rfl, Nat.le_of_ble_eq_true rfl⟩ dX12_isWorld_17
set_option maxRecDepth 100000 in
set_option maxHeartbeats 4000000 in
theorem c_X12_isWorld_5 (l : Launch) (D : va_G) (cy : Nat → ClassId) (a0 a1 a2 a3 a4 a5 a6 a7 a8 a9 a10 a11 a12 a13 a14 a15 a16 a17 : Nat) (x0 : Int32) (k0 : ¬ x0 < 0) (k1 : 189 < x0) : Ct l D cy yX12_isWorld cX12_isWorld 2 (some .boolean) 1 25 0 0 [(a0, .inr (12, [.ref a1, .ref a2, .ref a3, .ref a4, .ref a5, .int 1, .ref a6, .int 0, .int 0, .int 0, .int 0, .int 0, .int 0, .int 0, .int 0, .int 0, .int 0, .int (-1), .ref a7, .ref a8, .int 0, .ref a9, .int 0, .ref a10, .ref a11, .ref a12, .ref a13, .ref a14, .int 0, .ref a15, .ref a16, .ref a17])), (a1, .inl (cy 1, 1868, .inl (upd (upd (upd (fun _ => 0) 1 2) 2 20) 3 120))), (a7, .inl (cy 1, 1830, .inl (fun _ => 0))), (a8, .inl (cy 1, 1830, .inl (fun _ => 0)))] [.ref a0, .int x0] (fun u : Unit => some (.int 0)) (fun _ => True) (fun u : Unit => [(a0, .inr (12, [.ref a1, .ref a2, .ref a3, .ref a4, .ref a5, .int 1, .ref a6, .int 0, .int 0, .int 0, .int 0, .int 0, .int 0, .int 0, .int 0, .int 0, .int 0, .int (-1), .ref a7, .ref a8, .int 190, .ref a9, .int 0, .ref a10, .ref a11, .ref a12, .ref a13, .ref a14, .int 0, .ref a15, .ref a16, .ref a17])), (a1, .inl (cy 1, 1868, .inl (upd (upd (upd (fun _ => 0) 1 2) 2 20) 3 120))), (a7, .inl (cy 1, 1830, .inl (lxF (fun _ => 0) 2 20 (PP 20 2 (20 + 1 - 2))))), (a8, .inl (cy 1, 1830, .inl (lyF (fun _ => 0) 2 20 (PP 20 2 (20 + 1 - 2)))))]) := by
  refine Ct.of (by decide +kernel) (Nat.le_of_ble_eq_true rfl) ?_
  intro p e s m args below meth c A ls C hr hlocks hml hnm w hl
  have hl : lv_has ls 2 [(0, .ref a0), (1, .int x0)] := hl
  refine lv_aload_n C.1 C.2.1 dX12_isWorld_0 rfl (lv_at hl 0 rfl) ?_
  refine r_callV C w fv_RX12_253 (c_X12_layPairs_3 l D cy a0 a1 a2 a3 a4 a5 a6 a7 a8 a9 a10 a11 a12 a13 a14 a15 a16 a17) (hl.1.trans hml.symm) [0, 1, 2, 3] [] (wr := []) ⟨rfl, rfl, rfl, rfl, by decide⟩ 0 rfl rfl rfl rfl rfl ⟨Nat.le_of_ble_eq_true rfl, Nat.le_of_ble_eq_true rfl, Nat.le_of_ble_eq_true rfl⟩ 0 0 ⟨rfl, rfl, Nat.le_of_ble_eq_true rfl, Nat.le_of_ble_eq_true rfl⟩ dX12_isWorld_1 (fun u H locs hp w => ?_)
  have w : Wd D A s.heap [(a0, .inr (12, [.ref a1, .ref a2, .ref a3, .ref a4, .ref a5, .int 1, .ref a6, .int 0, .int 0, .int 0, .int 0, .int 0, .int 0, .int 0, .int 0, .int 0, .int 0, .int (-1), .ref a7, .ref a8, .int 190, .ref a9, .int 0, .ref a10, .ref a11, .ref a12, .ref a13, .ref a14, .int 0, .ref a15, .ref a16, .ref a17])), (a1, .inl (cy 1, 1868, .inl (upd (upd (upd (fun _ => 0) 1 2) 2 20) 3 120))), (a7, .inl (cy 1, 1830, .inl (lxF (fun _ => 0) 2 20 (PP 20 2 (20 + 1 - 2))))), (a8, .inl (cy 1, 1830, .inl (lyF (fun _ => 0) 2 20 (PP 20 2 (20 + 1 - 2)))))] _ _ := w
  refine r_top (g2 := F0 m 4 ls []) rfl ?_
  refine lv_iload_n C.1 C.2.1 dX12_isWorld_4 rfl (lv_at hl 1 rfl) ?_
  refine lv_i2l (v := (Int32.toInt64 x0)) C.1 C.2.1 dX12_isWorld_5 rfl ?_
  refine lv_lconst (v := 0) C.1 C.2.1 dX12_isWorld_6 (by decide) ?_
  refine lv_aload_n C.1 C.2.1 dX12_isWorld_7 rfl (lv_at hl 0 rfl) ?_
  refine r_get C w 0 rfl rfl 20 (by decide) fl_RX12_250 (v := .int 190) rfl dX12_isWorld_8 ?_
  refine lv_iconst (v := 1) C.1 C.2.1 dX12_isWorld_11 (by decide) ?_
  refine r_isub C (v := 189) dX12_isWorld_12 (by decide) ?_
  refine lv_i2l (v := 189) C.1 C.2.1 dX12_isWorld_13 (by decide) ?_
  refine r_callS C w fs_RX12_133 (c_X12_within_13 l D cy x0 k0 k1) (hl.1.trans hml.symm) [] [0, 1, 2, 3] (wr := [(a0, .inr (12, [.ref a1, .ref a2, .ref a3, .ref a4, .ref a5, .int 1, .ref a6, .int 0, .int 0, .int 0, .int 0, .int 0, .int 0, .int 0, .int 0, .int 0, .int 0, .int (-1), .ref a7, .ref a8, .int 190, .ref a9, .int 0, .ref a10, .ref a11, .ref a12, .ref a13, .ref a14, .int 0, .ref a15, .ref a16, .ref a17])), (a1, .inl (cy 1, 1868, .inl (upd (upd (upd (fun _ => 0) 1 2) 2 20) 3 120))), (a7, .inl (cy 1, 1830, .inl (lxF (fun _ => 0) 2 20 (PP 20 2 (20 + 1 - 2))))), (a8, .inl (cy 1, 1830, .inl (lyF (fun _ => 0) 2 20 (PP 20 2 (20 + 1 - 2)))))]) ⟨rfl, rfl, rfl, rfl, by decide⟩ rfl rfl ⟨Nat.le_of_ble_eq_true rfl, Nat.le_of_ble_eq_true rfl, Nat.le_of_ble_eq_true rfl⟩ 0 0 ⟨rfl, rfl, Nat.le_of_ble_eq_true rfl, Nat.le_of_ble_eq_true rfl⟩ dX12_isWorld_14 (fun u H locs hp w => ?_)
  have w : Wd D A s.heap [(a0, .inr (12, [.ref a1, .ref a2, .ref a3, .ref a4, .ref a5, .int 1, .ref a6, .int 0, .int 0, .int 0, .int 0, .int 0, .int 0, .int 0, .int 0, .int 0, .int 0, .int (-1), .ref a7, .ref a8, .int 190, .ref a9, .int 0, .ref a10, .ref a11, .ref a12, .ref a13, .ref a14, .int 0, .ref a15, .ref a16, .ref a17])), (a1, .inl (cy 1, 1868, .inl (upd (upd (upd (fun _ => 0) 1 2) 2 20) 3 120))), (a7, .inl (cy 1, 1830, .inl (lxF (fun _ => 0) 2 20 (PP 20 2 (20 + 1 - 2))))), (a8, .inl (cy 1, 1830, .inl (lyF (fun _ => 0) 2 20 (PP 20 2 (20 + 1 - 2)))))] _ _ := w
  refine r_top (g2 := F0 m 17 ls [.int 0]) rfl ?_
  exact r_iret C w hlocks () hr rfl rfl trivial [0, 1, 2, 3] rfl rfl ⟨Nat.le_of_ble_eq_true rfl, Nat.le_of_ble_eq_true rfl⟩ dX12_isWorld_17
theorem dX12_when_15 : decode cX12_when 15 = .ok (.ifCond .ne 8, 3) := by decide +kernel
theorem dX12_when_18 : decode cX12_when 18 = .ok (.aload_n 0, 1) := by decide +kernel
theorem dX12_when_19 : decode cX12_when 19 = .ok (.iconst 1, 1) := by decide +kernel
theorem dX12_when_20 : decode cX12_when 20 = .ok (.putfield 71, 3) := by decide +kernel
theorem dX12_when_23 : decode cX12_when 23 = .ok (.aload_n 0, 1) := by decide +kernel
theorem dX12_when_24 : decode cX12_when 24 = .ok (.getfield 71, 3) := by decide +kernel
theorem dX12_when_27 : decode cX12_when 27 = .ok (.ifCond .le 5, 3) := by decide +kernel
theorem dX12_when_30 : decode cX12_when 30 = .ok (.iconst 0, 1) := by decide +kernel
theorem dX12_when_31 : decode cX12_when 31 = .ok (.ireturn, 1) := by decide +kernel
set_option maxRecDepth 100000 in
set_option maxHeartbeats 4000000 in
theorem c_X12_when_0 (l : Launch) (D : va_G) (cy : Nat → ClassId) (a0 a1 a2 a3 a4 a5 a6 a7 a8 a9 a10 a11 a12 a13 a14 a15 a16 a17 : Nat) (x0 : Int32) (x1 : Int32) (x2 : Int32) (k0 : x0 < 0) (k1 : x2 < 0) : Ct l D cy yX12_when cX12_when 4 (some .int) 3 68 0 0 [(a0, .inr (12, [.ref a1, .ref a2, .ref a3, .ref a4, .ref a5, .int 0, .ref a6, .int 0, .int 0, .int 0, .int 0, .int 0, .int 0, .int 0, .int 0, .int 0, .int 0, .int (-1), .ref a7, .ref a8, .int 0, .ref a9, .int 0, .ref a10, .ref a11, .ref a12, .ref a13, .ref a14, .int 0, .ref a15, .ref a16, .ref a17])), (a1, .inl (cy 1, 1868, .inl (upd (upd (upd (fun _ => 0) 1 2) 2 20) 3 120))), (a7, .inl (cy 1, 1830, .inl (fun _ => 0))), (a8, .inl (cy 1, 1830, .inl (fun _ => 0)))] [.ref a0, .int x0, .int x1, .int x2] (fun u : Unit => some (.int 0)) (fun _ => True) (fun u : Unit => [(a0, .inr (12, [.ref a1, .ref a2, .ref a3, .ref a4, .ref a5, .int 1, .ref a6, .int 0, .int 0, .int 0, .int 0, .int 0, .int 0, .int 0, .int 0, .int 0, .int 0, .int (-1), .ref a7, .ref a8, .int 190, .ref a9, .int 0, .ref a10, .ref a11, .ref a12, .ref a13, .ref a14, .int 0, .ref a15, .ref a16, .ref a17])), (a1, .inl (cy 1, 1868, .inl (upd (upd (upd (fun _ => 0) 1 2) 2 20) 3 120))), (a7, .inl (cy 1, 1830, .inl (lxF (fun _ => 0) 2 20 (PP 20 2 (20 + 1 - 2))))), (a8, .inl (cy 1, 1830, .inl (lyF (fun _ => 0) 2 20 (PP 20 2 (20 + 1 - 2)))))]) := by
  refine Ct.of (by decide +kernel) (Nat.le_of_ble_eq_true rfl) ?_
  intro p e s m args below meth c A ls C hr hlocks hml hnm w hl
  have hl : lv_has ls 4 [(0, .ref a0), (1, .int x0), (2, .int x1), (3, .int x2)] := hl
  refine lv_aload_n C.1 C.2.1 dX12_when_0 rfl (lv_at hl 0 rfl) ?_
  refine lv_aload_n C.1 C.2.1 dX12_when_1 rfl (lv_at hl 0 rfl) ?_
  refine lv_iload_n C.1 C.2.1 dX12_when_2 rfl (lv_at hl 1 rfl) ?_
  refine lv_iload_n C.1 C.2.1 dX12_when_3 rfl (lv_at hl 2 rfl) ?_
  refine r_callV C w fv_RX12_360 (c_X12_twoFault_0 l D cy a0 a1 a2 a3 a4 a5 a6 a7 a8 a9 a10 a11 a12 a13 a14 a15 a16 a17 x0 x1 k0) (hl.1.trans hml.symm) [0, 1] [2, 3] (wr := [(a7, .inl (cy 1, 1830, .inl (fun _ => 0))), (a8, .inl (cy 1, 1830, .inl (fun _ => 0)))]) ⟨rfl, rfl, rfl, rfl, by decide⟩ 0 rfl rfl rfl rfl rfl ⟨Nat.le_of_ble_eq_true rfl, Nat.le_of_ble_eq_true rfl, Nat.le_of_ble_eq_true rfl⟩ 0 0 ⟨rfl, rfl, Nat.le_of_ble_eq_true rfl, Nat.le_of_ble_eq_true rfl⟩ dX12_when_4 (fun u H locs hp w => ?_)
  have w : Wd D A s.heap [(a7, .inl (cy 1, 1830, .inl (fun _ => 0))), (a8, .inl (cy 1, 1830, .inl (fun _ => 0))), (a0, .inr (12, [.ref a1, .ref a2, .ref a3, .ref a4, .ref a5, .int 0, .ref a6, .int 0, .int 0, .int 0, .int 0, .int 0, .int 0, .int 0, .int 0, .int 0, .int 0, .int (-1), .ref a7, .ref a8, .int 0, .ref a9, .int 0, .ref a10, .ref a11, .ref a12, .ref a13, .ref a14, .int 0, .ref a15, .ref a16, .ref a17])), (a1, .inl (cy 1, 1868, .inl (upd (upd (upd (fun _ => 0) 1 2) 2 20) 3 120)))] _ _ := w
  refine r_top (g2 := F0 m 7 ls [.int 1, .ref a0]) rfl ?_
  refine r_put C w 2 rfl rfl 5 (by decide) fl_RX12_71 rfl (ty := .int) (tyX12_ok 5 (by decide)) rfl rfl (Nat.le_of_ble_eq_true rfl) [(a7, .inl (cy 1, 1830, .inl (fun _ => 0))), (a8, .inl (cy 1, 1830, .inl (fun _ => 0))), (a0, .inr (12, [.ref a1, .ref a2, .ref a3, .ref a4, .ref a5, .int 1, .ref a6, .int 0, .int 0, .int 0, .int 0, .int 0, .int 0, .int 0, .int 0, .int 0, .int 0, .int (-1), .ref a7, .ref a8, .int 0, .ref a9, .int 0, .ref a10, .ref a11, .ref a12, .ref a13, .ref a14, .int 0, .ref a15, .ref a16, .ref a17])), (a1, .inl (cy 1, 1868, .inl (upd (upd (upd (fun _ => 0) 1 2) 2 20) 3 120)))] rfl dX12_when_7 (fun H locs w => ?_)
  refine lv_aload_n C.1 C.2.1 dX12_when_10 rfl (lv_at hl 0 rfl) ?_
  refine lv_iload_n C.1 C.2.1 dX12_when_11 rfl (lv_at hl 3 rfl) ?_
  refine r_callV C w fv_RX12_256 (c_X12_isWorld_3 l D cy a0 a1 a2 a3 a4 a5 a6 a7 a8 a9 a10 a11 a12 a13 a14 a15 a16 a17 x2 k1) (hl.1.trans hml.symm) [2, 3, 0, 1] [] (wr := []) ⟨rfl, rfl, rfl, rfl, by decide⟩ 0 rfl rfl rfl rfl rfl ⟨Nat.le_of_ble_eq_true rfl, Nat.le_of_ble_eq_true rfl, Nat.le_of_ble_eq_true rfl⟩ 0 0 ⟨rfl, rfl, Nat.le_of_ble_eq_true rfl, Nat.le_of_ble_eq_true rfl⟩ dX12_when_12 (fun u H locs hp w => ?_)
  have w : Wd D A s.heap [(a0, .inr (12, [.ref a1, .ref a2, .ref a3, .ref a4, .ref a5, .int 1, .ref a6, .int 0, .int 0, .int 0, .int 0, .int 0, .int 0, .int 0, .int 0, .int 0, .int 0, .int (-1), .ref a7, .ref a8, .int 190, .ref a9, .int 0, .ref a10, .ref a11, .ref a12, .ref a13, .ref a14, .int 0, .ref a15, .ref a16, .ref a17])), (a1, .inl (cy 1, 1868, .inl (upd (upd (upd (fun _ => 0) 1 2) 2 20) 3 120))), (a7, .inl (cy 1, 1830, .inl (lxF (fun _ => 0) 2 20 (PP 20 2 (20 + 1 - 2))))), (a8, .inl (cy 1, 1830, .inl (lyF (fun _ => 0) 2 20 (PP 20 2 (20 + 1 - 2)))))] _ _ := w
  refine r_top (g2 := F0 m 15 ls [.int 0]) rfl ?_
  refine b_if_ne_f C (tgt := 23) dX12_when_15 (by decide) (by decide) ?_
  refine lv_aload_n C.1 C.2.1 dX12_when_18 rfl (lv_at hl 0 rfl) ?_
  refine lv_iconst (v := 1) C.1 C.2.1 dX12_when_19 (by decide) ?_
  refine r_put C w 0 rfl rfl 5 (by decide) fl_RX12_71 rfl (ty := .int) (tyX12_ok 5 (by decide)) rfl rfl (Nat.le_of_ble_eq_true rfl) [(a0, .inr (12, [.ref a1, .ref a2, .ref a3, .ref a4, .ref a5, .int 1, .ref a6, .int 0, .int 0, .int 0, .int 0, .int 0, .int 0, .int 0, .int 0, .int 0, .int 0, .int (-1), .ref a7, .ref a8, .int 190, .ref a9, .int 0, .ref a10, .ref a11, .ref a12, .ref a13, .ref a14, .int 0, .ref a15, .ref a16, .ref a17])), (a1, .inl (cy 1, 1868, .inl (upd (upd (upd (fun _ => 0) 1 2) 2 20) 3 120))), (a7, .inl (cy 1, 1830, .inl (lxF (fun _ => 0) 2 20 (PP 20 2 (20 + 1 - 2))))), (a8, .inl (cy 1, 1830, .inl (lyF (fun _ => 0) 2 20 (PP 20 2 (20 + 1 - 2)))))] rfl dX12_when_20 (fun H locs w => ?_)
  refine lv_aload_n C.1 C.2.1 dX12_when_23 rfl (lv_at hl 0 rfl) ?_
  refine r_get C w 0 rfl rfl 5 (by decide) fl_RX12_71 (v := .int 1) rfl dX12_when_24 ?_
  refine b_if_le_f C (tgt := 32) dX12_when_27 (by decide) (by decide) ?_
  refine lv_iconst (v := 0) C.1 C.2.1 dX12_when_30 (by decide) ?_
  exact r_iret C w hlocks () hr rfl rfl trivial [0, 1, 2, 3] rfl rfl ⟨Nat.le_of_ble_eq_true rfl, Nat.le_of_ble_eq_true rfl⟩ dX12_when_31
set_option maxRecDepth 100000 in
set_option maxHeartbeats 4000000 in
theorem c_X12_when_1 (l : Launch) (D : va_G) (cy : Nat → ClassId) (a0 a1 a2 a3 a4 a5 a6 a7 a8 a9 a10 a11 a12 a13 a14 a15 a16 a17 : Nat) (x0 : Int32) (x1 : Int32) (x2 : Int32) (k0 : x0 < 0) (k1 : ¬ x2 < 0) (k2 : 189 < x2) : Ct l D cy yX12_when cX12_when 4 (some .int) 3 68 0 0 [(a0, .inr (12, [.ref a1, .ref a2, .ref a3, .ref a4, .ref a5, .int 0, .ref a6, .int 0, .int 0, .int 0, .int 0, .int 0, .int 0, .int 0, .int 0, .int 0, .int 0, .int (-1), .ref a7, .ref a8, .int 0, .ref a9, .int 0, .ref a10, .ref a11, .ref a12, .ref a13, .ref a14, .int 0, .ref a15, .ref a16, .ref a17])), (a1, .inl (cy 1, 1868, .inl (upd (upd (upd (fun _ => 0) 1 2) 2 20) 3 120))), (a7, .inl (cy 1, 1830, .inl (fun _ => 0))), (a8, .inl (cy 1, 1830, .inl (fun _ => 0)))] [.ref a0, .int x0, .int x1, .int x2] (fun u : Unit => some (.int 0)) (fun _ => True) (fun u : Unit => [(a0, .inr (12, [.ref a1, .ref a2, .ref a3, .ref a4, .ref a5, .int 1, .ref a6, .int 0, .int 0, .int 0, .int 0, .int 0, .int 0, .int 0, .int 0, .int 0, .int 0, .int (-1), .ref a7, .ref a8, .int 190, .ref a9, .int 0, .ref a10, .ref a11, .ref a12, .ref a13, .ref a14, .int 0, .ref a15, .ref a16, .ref a17])), (a1, .inl (cy 1, 1868, .inl (upd (upd (upd (fun _ => 0) 1 2) 2 20) 3 120))), (a7, .inl (cy 1, 1830, .inl (lxF (fun _ => 0) 2 20 (PP 20 2 (20 + 1 - 2))))), (a8, .inl (cy 1, 1830, .inl (lyF (fun _ => 0) 2 20 (PP 20 2 (20 + 1 - 2)))))]) := by
  refine Ct.of (by decide +kernel) (Nat.le_of_ble_eq_true rfl) ?_
  intro p e s m args below meth c A ls C hr hlocks hml hnm w hl
  have hl : lv_has ls 4 [(0, .ref a0), (1, .int x0), (2, .int x1), (3, .int x2)] := hl
  refine lv_aload_n C.1 C.2.1 dX12_when_0 rfl (lv_at hl 0 rfl) ?_
  refine lv_aload_n C.1 C.2.1 dX12_when_1 rfl (lv_at hl 0 rfl) ?_
  refine lv_iload_n C.1 C.2.1 dX12_when_2 rfl (lv_at hl 1 rfl) ?_
  refine lv_iload_n C.1 C.2.1 dX12_when_3 rfl (lv_at hl 2 rfl) ?_
  refine r_callV C w fv_RX12_360 (c_X12_twoFault_0 l D cy a0 a1 a2 a3 a4 a5 a6 a7 a8 a9 a10 a11 a12 a13 a14 a15 a16 a17 x0 x1 k0) (hl.1.trans hml.symm) [0, 1] [2, 3] (wr := [(a7, .inl (cy 1, 1830, .inl (fun _ => 0))), (a8, .inl (cy 1, 1830, .inl (fun _ => 0)))]) ⟨rfl, rfl, rfl, rfl, by decide⟩ 0 rfl rfl rfl rfl rfl ⟨Nat.le_of_ble_eq_true rfl, Nat.le_of_ble_eq_true rfl, Nat.le_of_ble_eq_true rfl⟩ 0 0 ⟨rfl, rfl, Nat.le_of_ble_eq_true rfl, Nat.le_of_ble_eq_true rfl⟩ dX12_when_4 (fun u H locs hp w => ?_)
  have w : Wd D A s.heap [(a7, .inl (cy 1, 1830, .inl (fun _ => 0))), (a8, .inl (cy 1, 1830, .inl (fun _ => 0))), (a0, .inr (12, [.ref a1, .ref a2, .ref a3, .ref a4, .ref a5, .int 0, .ref a6, .int 0, .int 0, .int 0, .int 0, .int 0, .int 0, .int 0, .int 0, .int 0, .int 0, .int (-1), .ref a7, .ref a8, .int 0, .ref a9, .int 0, .ref a10, .ref a11, .ref a12, .ref a13, .ref a14, .int 0, .ref a15, .ref a16, .ref a17])), (a1, .inl (cy 1, 1868, .inl (upd (upd (upd (fun _ => 0) 1 2) 2 20) 3 120)))] _ _ := w
  refine r_top (g2 := F0 m 7 ls [.int 1, .ref a0]) rfl ?_
  refine r_put C w 2 rfl rfl 5 (by decide) fl_RX12_71 rfl (ty := .int) (tyX12_ok 5 (by decide)) rfl rfl (Nat.le_of_ble_eq_true rfl) [(a7, .inl (cy 1, 1830, .inl (fun _ => 0))), (a8, .inl (cy 1, 1830, .inl (fun _ => 0))), (a0, .inr (12, [.ref a1, .ref a2, .ref a3, .ref a4, .ref a5, .int 1, .ref a6, .int 0, .int 0, .int 0, .int 0, .int 0, .int 0, .int 0, .int 0, .int 0, .int 0, .int (-1), .ref a7, .ref a8, .int 0, .ref a9, .int 0, .ref a10, .ref a11, .ref a12, .ref a13, .ref a14, .int 0, .ref a15, .ref a16, .ref a17])), (a1, .inl (cy 1, 1868, .inl (upd (upd (upd (fun _ => 0) 1 2) 2 20) 3 120)))] rfl dX12_when_7 (fun H locs w => ?_)
  refine lv_aload_n C.1 C.2.1 dX12_when_10 rfl (lv_at hl 0 rfl) ?_
  refine lv_iload_n C.1 C.2.1 dX12_when_11 rfl (lv_at hl 3 rfl) ?_
  refine r_callV C w fv_RX12_256 (c_X12_isWorld_5 l D cy a0 a1 a2 a3 a4 a5 a6 a7 a8 a9 a10 a11 a12 a13 a14 a15 a16 a17 x2 k1 k2) (hl.1.trans hml.symm) [2, 3, 0, 1] [] (wr := []) ⟨rfl, rfl, rfl, rfl, by decide⟩ 0 rfl rfl rfl rfl rfl ⟨Nat.le_of_ble_eq_true rfl, Nat.le_of_ble_eq_true rfl, Nat.le_of_ble_eq_true rfl⟩ 0 0 ⟨rfl, rfl, Nat.le_of_ble_eq_true rfl, Nat.le_of_ble_eq_true rfl⟩ dX12_when_12 (fun u H locs hp w => ?_)
  have w : Wd D A s.heap [(a0, .inr (12, [.ref a1, .ref a2, .ref a3, .ref a4, .ref a5, .int 1, .ref a6, .int 0, .int 0, .int 0, .int 0, .int 0, .int 0, .int 0, .int 0, .int 0, .int 0, .int (-1), .ref a7, .ref a8, .int 190, .ref a9, .int 0, .ref a10, .ref a11, .ref a12, .ref a13, .ref a14, .int 0, .ref a15, .ref a16, .ref a17])), (a1, .inl (cy 1, 1868, .inl (upd (upd (upd (fun _ => 0) 1 2) 2 20) 3 120))), (a7, .inl (cy 1, 1830, .inl (lxF (fun _ => 0) 2 20 (PP 20 2 (20 + 1 - 2))))), (a8, .inl (cy 1, 1830, .inl (lyF (fun _ => 0) 2 20 (PP 20 2 (20 + 1 - 2)))))] _ _ := w
  refine r_top (g2 := F0 m 15 ls [.int 0]) rfl ?_
  refine b_if_ne_f C (tgt := 23) dX12_when_15 (by decide) (by decide) ?_
  refine lv_aload_n C.1 C.2.1 dX12_when_18 rfl (lv_at hl 0 rfl) ?_
  refine lv_iconst (v := 1) C.1 C.2.1 dX12_when_19 (by decide) ?_
  refine r_put C w 0 rfl rfl 5 (by decide) fl_RX12_71 rfl (ty := .int) (tyX12_ok 5 (by decide)) rfl rfl (Nat.le_of_ble_eq_true rfl) [(a0, .inr (12, [.ref a1, .ref a2, .ref a3, .ref a4, .ref a5, .int 1, .ref a6, .int 0, .int 0, .int 0, .int 0, .int 0, .int 0, .int 0, .int 0, .int 0, .int 0, .int (-1), .ref a7, .ref a8, .int 190, .ref a9, .int 0, .ref a10, .ref a11, .ref a12, .ref a13, .ref a14, .int 0, .ref a15, .ref a16, .ref a17])), (a1, .inl (cy 1, 1868, .inl (upd (upd (upd (fun _ => 0) 1 2) 2 20) 3 120))), (a7, .inl (cy 1, 1830, .inl (lxF (fun _ => 0) 2 20 (PP 20 2 (20 + 1 - 2))))), (a8, .inl (cy 1, 1830, .inl (lyF (fun _ => 0) 2 20 (PP 20 2 (20 + 1 - 2)))))] rfl dX12_when_20 (fun H locs w => ?_)
  refine lv_aload_n C.1 C.2.1 dX12_when_23 rfl (lv_at hl 0 rfl) ?_
  refine r_get C w 0 rfl rfl 5 (by decide) fl_RX12_71 (v := .int 1) rfl dX12_when_24 ?_
  refine b_if_le_f C (tgt := 32) dX12_when_27 (by decide) (by decide) ?_
  refine lv_iconst (v := 0) C.1 C.2.1 dX12_when_30 (by decide) ?_
  exact r_iret C w hlocks () hr rfl rfl trivial [0, 1, 2, 3] rfl rfl ⟨Nat.le_of_ble_eq_true rfl, Nat.le_of_ble_eq_true rfl⟩ dX12_when_31
set_option maxRecDepth 100000 in
set_option maxHeartbeats 4000000 in
theorem c_X12_when_2 (l : Launch) (D : va_G) (cy : Nat → ClassId) (a0 a1 a2 a3 a4 a5 a6 a7 a8 a9 a10 a11 a12 a13 a14 a15 a16 a17 : Nat) (x0 : Int32) (x1 : Int32) (x2 : Int32) (k0 : x0 < 0) (k1 : ¬ x2 < 0) (k2 : ¬ 189 < x2) : Ct l D cy yX12_when cX12_when 4 (some .int) 3 68 0 0 [(a0, .inr (12, [.ref a1, .ref a2, .ref a3, .ref a4, .ref a5, .int 0, .ref a6, .int 0, .int 0, .int 0, .int 0, .int 0, .int 0, .int 0, .int 0, .int 0, .int 0, .int (-1), .ref a7, .ref a8, .int 0, .ref a9, .int 0, .ref a10, .ref a11, .ref a12, .ref a13, .ref a14, .int 0, .ref a15, .ref a16, .ref a17])), (a1, .inl (cy 1, 1868, .inl (upd (upd (upd (fun _ => 0) 1 2) 2 20) 3 120))), (a7, .inl (cy 1, 1830, .inl (fun _ => 0))), (a8, .inl (cy 1, 1830, .inl (fun _ => 0)))] [.ref a0, .int x0, .int x1, .int x2] (fun u : Unit => some (.int 0)) (fun _ => True) (fun u : Unit => [(a0, .inr (12, [.ref a1, .ref a2, .ref a3, .ref a4, .ref a5, .int 1, .ref a6, .int 0, .int 0, .int 0, .int 0, .int 0, .int 0, .int 0, .int 0, .int 0, .int 0, .int (-1), .ref a7, .ref a8, .int 190, .ref a9, .int 0, .ref a10, .ref a11, .ref a12, .ref a13, .ref a14, .int 0, .ref a15, .ref a16, .ref a17])), (a1, .inl (cy 1, 1868, .inl (upd (upd (upd (fun _ => 0) 1 2) 2 20) 3 120))), (a7, .inl (cy 1, 1830, .inl (lxF (fun _ => 0) 2 20 (PP 20 2 (20 + 1 - 2))))), (a8, .inl (cy 1, 1830, .inl (lyF (fun _ => 0) 2 20 (PP 20 2 (20 + 1 - 2)))))]) := by
  refine Ct.of (by decide +kernel) (Nat.le_of_ble_eq_true rfl) ?_
  intro p e s m args below meth c A ls C hr hlocks hml hnm w hl
  have hl : lv_has ls 4 [(0, .ref a0), (1, .int x0), (2, .int x1), (3, .int x2)] := hl
  refine lv_aload_n C.1 C.2.1 dX12_when_0 rfl (lv_at hl 0 rfl) ?_
  refine lv_aload_n C.1 C.2.1 dX12_when_1 rfl (lv_at hl 0 rfl) ?_
  refine lv_iload_n C.1 C.2.1 dX12_when_2 rfl (lv_at hl 1 rfl) ?_
  refine lv_iload_n C.1 C.2.1 dX12_when_3 rfl (lv_at hl 2 rfl) ?_
  refine r_callV C w fv_RX12_360 (c_X12_twoFault_0 l D cy a0 a1 a2 a3 a4 a5 a6 a7 a8 a9 a10 a11 a12 a13 a14 a15 a16 a17 x0 x1 k0) (hl.1.trans hml.symm) [0, 1] [2, 3] (wr := [(a7, .inl (cy 1, 1830, .inl (fun _ => 0))), (a8, .inl (cy 1, 1830, .inl (fun _ => 0)))]) ⟨rfl, rfl, rfl, rfl, by decide⟩ 0 rfl rfl rfl rfl rfl ⟨Nat.le_of_ble_eq_true rfl, Nat.le_of_ble_eq_true rfl, Nat.le_of_ble_eq_true rfl⟩ 0 0 ⟨rfl, rfl, Nat.le_of_ble_eq_true rfl, Nat.le_of_ble_eq_true rfl⟩ dX12_when_4 (fun u H locs hp w => ?_)
  have w : Wd D A s.heap [(a7, .inl (cy 1, 1830, .inl (fun _ => 0))), (a8, .inl (cy 1, 1830, .inl (fun _ => 0))), (a0, .inr (12, [.ref a1, .ref a2, .ref a3, .ref a4, .ref a5, .int 0, .ref a6, .int 0, .int 0, .int 0, .int 0, .int 0, .int 0, .int 0, .int 0, .int 0, .int 0, .int (-1), .ref a7, .ref a8, .int 0, .ref a9, .int 0, .ref a10, .ref a11, .ref a12, .ref a13, .ref a14, .int 0, .ref a15, .ref a16, .ref a17])), (a1, .inl (cy 1, 1868, .inl (upd (upd (upd (fun _ => 0) 1 2) 2 20) 3 120)))] _ _ := w
  refine r_top (g2 := F0 m 7 ls [.int 1, .ref a0]) rfl ?_
  refine r_put C w 2 rfl rfl 5 (by decide) fl_RX12_71 rfl (ty := .int) (tyX12_ok 5 (by decide)) rfl rfl (Nat.le_of_ble_eq_true rfl) [(a7, .inl (cy 1, 1830, .inl (fun _ => 0))), (a8, .inl (cy 1, 1830, .inl (fun _ => 0))), (a0, .inr (12, [.ref a1, .ref a2, .ref a3, .ref a4, .ref a5, .int 1, .ref a6, .int 0, .int 0, .int 0, .int 0, .int 0, .int 0, .int 0, .int 0, .int 0, .int 0, .int (-1), .ref a7, .ref a8, .int 0, .ref a9, .int 0, .ref a10, .ref a11, .ref a12, .ref a13, .ref a14, .int 0, .ref a15, .ref a16, .ref a17])), (a1, .inl (cy 1, 1868, .inl (upd (upd (upd (fun _ => 0) 1 2) 2 20) 3 120)))] rfl dX12_when_7 (fun H locs w => ?_)
  refine lv_aload_n C.1 C.2.1 dX12_when_10 rfl (lv_at hl 0 rfl) ?_
  refine lv_iload_n C.1 C.2.1 dX12_when_11 rfl (lv_at hl 3 rfl) ?_
  refine r_callV C w fv_RX12_256 (c_X12_isWorld_4 l D cy a0 a1 a2 a3 a4 a5 a6 a7 a8 a9 a10 a11 a12 a13 a14 a15 a16 a17 x2 k1 k2) (hl.1.trans hml.symm) [2, 3, 0, 1] [] (wr := []) ⟨rfl, rfl, rfl, rfl, by decide⟩ 0 rfl rfl rfl rfl rfl ⟨Nat.le_of_ble_eq_true rfl, Nat.le_of_ble_eq_true rfl, Nat.le_of_ble_eq_true rfl⟩ 0 0 ⟨rfl, rfl, Nat.le_of_ble_eq_true rfl, Nat.le_of_ble_eq_true rfl⟩ dX12_when_12 (fun u H locs hp w => ?_)
  have w : Wd D A s.heap [(a0, .inr (12, [.ref a1, .ref a2, .ref a3, .ref a4, .ref a5, .int 1, .ref a6, .int 0, .int 0, .int 0, .int 0, .int 0, .int 0, .int 0, .int 0, .int 0, .int 0, .int (-1), .ref a7, .ref a8, .int 190, .ref a9, .int 0, .ref a10, .ref a11, .ref a12, .ref a13, .ref a14, .int 0, .ref a15, .ref a16, .ref a17])), (a1, .inl (cy 1, 1868, .inl (upd (upd (upd (fun _ => 0) 1 2) 2 20) 3 120))), (a7, .inl (cy 1, 1830, .inl (lxF (fun _ => 0) 2 20 (PP 20 2 (20 + 1 - 2))))), (a8, .inl (cy 1, 1830, .inl (lyF (fun _ => 0) 2 20 (PP 20 2 (20 + 1 - 2)))))] _ _ := w
  refine r_top (g2 := F0 m 15 ls [.int 1]) rfl ?_
  refine b_if_ne_t C (tgt := 23) dX12_when_15 (by decide) (by decide) ?_
  refine lv_aload_n C.1 C.2.1 dX12_when_23 rfl (lv_at hl 0 rfl) ?_
  refine r_get C w 0 rfl rfl 5 (by decide) fl_RX12_71 (v := .int 1) rfl dX12_when_24 ?_
  refine b_if_le_f C (tgt := 32) dX12_when_27 (by decide) (by decide) ?_
  refine lv_iconst (v := 0) C.1 C.2.1 dX12_when_30 (by decide) ?_
  exact r_iret C w hlocks () hr rfl rfl trivial [0, 1, 2, 3] rfl rfl ⟨Nat.le_of_ble_eq_true rfl, Nat.le_of_ble_eq_true rfl⟩ dX12_when_31
set_option maxRecDepth 100000 in
set_option maxHeartbeats 4000000 in
theorem c_X12_when_3 (l : Launch) (D : va_G) (cy : Nat → ClassId) (a0 a1 a2 a3 a4 a5 a6 a7 a8 a9 a10 a11 a12 a13 a14 a15 a16 a17 : Nat) (x0 : Int32) (x1 : Int32) (x2 : Int32) (k0 : ¬ x0 < 0) (k1 : x2 < 0) : Ct l D cy yX12_when cX12_when 4 (some .int) 3 68 0 0 [(a0, .inr (12, [.ref a1, .ref a2, .ref a3, .ref a4, .ref a5, .int 0, .ref a6, .int 0, .int 0, .int 0, .int 0, .int 0, .int 0, .int 0, .int 0, .int 0, .int 0, .int (-1), .ref a7, .ref a8, .int 0, .ref a9, .int 0, .ref a10, .ref a11, .ref a12, .ref a13, .ref a14, .int 0, .ref a15, .ref a16, .ref a17])), (a1, .inl (cy 1, 1868, .inl (upd (upd (upd (fun _ => 0) 1 2) 2 20) 3 120))), (a7, .inl (cy 1, 1830, .inl (fun _ => 0))), (a8, .inl (cy 1, 1830, .inl (fun _ => 0)))] [.ref a0, .int x0, .int x1, .int x2] (fun u : Unit => some (.int 0)) (fun _ => True) (fun u : Unit => [(a0, .inr (12, [.ref a1, .ref a2, .ref a3, .ref a4, .ref a5, .int 1, .ref a6, .int 0, .int 0, .int 0, .int 0, .int 0, .int 0, .int 0, .int 0, .int 0, .int 0, .int (-1), .ref a7, .ref a8, .int 190, .ref a9, .int 0, .ref a10, .ref a11, .ref a12, .ref a13, .ref a14, .int 0, .ref a15, .ref a16, .ref a17])), (a1, .inl (cy 1, 1868, .inl (upd (upd (upd (fun _ => 0) 1 2) 2 20) 3 120))), (a7, .inl (cy 1, 1830, .inl (lxF (fun _ => 0) 2 20 (PP 20 2 (20 + 1 - 2))))), (a8, .inl (cy 1, 1830, .inl (lyF (fun _ => 0) 2 20 (PP 20 2 (20 + 1 - 2)))))]) := by
  refine Ct.of (by decide +kernel) (Nat.le_of_ble_eq_true rfl) ?_
  intro p e s m args below meth c A ls C hr hlocks hml hnm w hl
  have hl : lv_has ls 4 [(0, .ref a0), (1, .int x0), (2, .int x1), (3, .int x2)] := hl
  refine lv_aload_n C.1 C.2.1 dX12_when_0 rfl (lv_at hl 0 rfl) ?_
  refine lv_aload_n C.1 C.2.1 dX12_when_1 rfl (lv_at hl 0 rfl) ?_
  refine lv_iload_n C.1 C.2.1 dX12_when_2 rfl (lv_at hl 1 rfl) ?_
  refine lv_iload_n C.1 C.2.1 dX12_when_3 rfl (lv_at hl 2 rfl) ?_
  refine r_callV C w fv_RX12_360 (c_X12_twoFault_1 l D cy a0 a1 a2 a3 a4 a5 a6 a7 a8 a9 a10 a11 a12 a13 a14 a15 a16 a17 x0 x1 k0) (hl.1.trans hml.symm) [0, 1] [2, 3] (wr := [(a7, .inl (cy 1, 1830, .inl (fun _ => 0))), (a8, .inl (cy 1, 1830, .inl (fun _ => 0)))]) ⟨rfl, rfl, rfl, rfl, by decide⟩ 0 rfl rfl rfl rfl rfl ⟨Nat.le_of_ble_eq_true rfl, Nat.le_of_ble_eq_true rfl, Nat.le_of_ble_eq_true rfl⟩ 0 0 ⟨rfl, rfl, Nat.le_of_ble_eq_true rfl, Nat.le_of_ble_eq_true rfl⟩ dX12_when_4 (fun u H locs hp w => ?_)
  have w : Wd D A s.heap [(a7, .inl (cy 1, 1830, .inl (fun _ => 0))), (a8, .inl (cy 1, 1830, .inl (fun _ => 0))), (a0, .inr (12, [.ref a1, .ref a2, .ref a3, .ref a4, .ref a5, .int 0, .ref a6, .int 0, .int 0, .int 0, .int 0, .int 0, .int 0, .int 0, .int 0, .int 0, .int 0, .int (-1), .ref a7, .ref a8, .int 0, .ref a9, .int 0, .ref a10, .ref a11, .ref a12, .ref a13, .ref a14, .int 0, .ref a15, .ref a16, .ref a17])), (a1, .inl (cy 1, 1868, .inl (upd (upd (upd (fun _ => 0) 1 2) 2 20) 3 120)))] _ _ := w
  refine r_top (g2 := F0 m 7 ls [.int 1, .ref a0]) rfl ?_
  refine r_put C w 2 rfl rfl 5 (by decide) fl_RX12_71 rfl (ty := .int) (tyX12_ok 5 (by decide)) rfl rfl (Nat.le_of_ble_eq_true rfl) [(a7, .inl (cy 1, 1830, .inl (fun _ => 0))), (a8, .inl (cy 1, 1830, .inl (fun _ => 0))), (a0, .inr (12, [.ref a1, .ref a2, .ref a3, .ref a4, .ref a5, .int 1, .ref a6, .int 0, .int 0, .int 0, .int 0, .int 0, .int 0, .int 0, .int 0, .int 0, .int 0, .int (-1), .ref a7, .ref a8, .int 0, .ref a9, .int 0, .ref a10, .ref a11, .ref a12, .ref a13, .ref a14, .int 0, .ref a15, .ref a16, .ref a17])), (a1, .inl (cy 1, 1868, .inl (upd (upd (upd (fun _ => 0) 1 2) 2 20) 3 120)))] rfl dX12_when_7 (fun H locs w => ?_)
  refine lv_aload_n C.1 C.2.1 dX12_when_10 rfl (lv_at hl 0 rfl) ?_
  refine lv_iload_n C.1 C.2.1 dX12_when_11 rfl (lv_at hl 3 rfl) ?_
  refine r_callV C w fv_RX12_256 (c_X12_isWorld_3 l D cy a0 a1 a2 a3 a4 a5 a6 a7 a8 a9 a10 a11 a12 a13 a14 a15 a16 a17 x2 k1) (hl.1.trans hml.symm) [2, 3, 0, 1] [] (wr := []) ⟨rfl, rfl, rfl, rfl, by decide⟩ 0 rfl rfl rfl rfl rfl ⟨Nat.le_of_ble_eq_true rfl, Nat.le_of_ble_eq_true rfl, Nat.le_of_ble_eq_true rfl⟩ 0 0 ⟨rfl, rfl, Nat.le_of_ble_eq_true rfl, Nat.le_of_ble_eq_true rfl⟩ dX12_when_12 (fun u H locs hp w => ?_)
  have w : Wd D A s.heap [(a0, .inr (12, [.ref a1, .ref a2, .ref a3, .ref a4, .ref a5, .int 1, .ref a6, .int 0, .int 0, .int 0, .int 0, .int 0, .int 0, .int 0, .int 0, .int 0, .int 0, .int (-1), .ref a7, .ref a8, .int 190, .ref a9, .int 0, .ref a10, .ref a11, .ref a12, .ref a13, .ref a14, .int 0, .ref a15, .ref a16, .ref a17])), (a1, .inl (cy 1, 1868, .inl (upd (upd (upd (fun _ => 0) 1 2) 2 20) 3 120))), (a7, .inl (cy 1, 1830, .inl (lxF (fun _ => 0) 2 20 (PP 20 2 (20 + 1 - 2))))), (a8, .inl (cy 1, 1830, .inl (lyF (fun _ => 0) 2 20 (PP 20 2 (20 + 1 - 2)))))] _ _ := w
  refine r_top (g2 := F0 m 15 ls [.int 0]) rfl ?_
  refine b_if_ne_f C (tgt := 23) dX12_when_15 (by decide) (by decide) ?_
  refine lv_aload_n C.1 C.2.1 dX12_when_18 rfl (lv_at hl 0 rfl) ?_
  refine lv_iconst (v := 1) C.1 C.2.1 dX12_when_19 (by decide) ?_
  refine r_put C w 0 rfl rfl 5 (by decide) fl_RX12_71 rfl (ty := .int) (tyX12_ok 5 (by decide)) rfl rfl (Nat.le_of_ble_eq_true rfl) [(a0, .inr (12, [.ref a1, .ref a2, .ref a3, .ref a4, .ref a5, .int 1, .ref a6, .int 0, .int 0, .int 0, .int 0, .int 0, .int 0, .int 0, .int 0, .int 0, .int 0, .int (-1), .ref a7, .ref a8, .int 190, .ref a9, .int 0, .ref a10, .ref a11, .ref a12, .ref a13, .ref a14, .int 0, .ref a15, .ref a16, .ref a17])), (a1, .inl (cy 1, 1868, .inl (upd (upd (upd (fun _ => 0) 1 2) 2 20) 3 120))), (a7, .inl (cy 1, 1830, .inl (lxF (fun _ => 0) 2 20 (PP 20 2 (20 + 1 - 2))))), (a8, .inl (cy 1, 1830, .inl (lyF (fun _ => 0) 2 20 (PP 20 2 (20 + 1 - 2)))))] rfl dX12_when_20 (fun H locs w => ?_)
  refine lv_aload_n C.1 C.2.1 dX12_when_23 rfl (lv_at hl 0 rfl) ?_
  refine r_get C w 0 rfl rfl 5 (by decide) fl_RX12_71 (v := .int 1) rfl dX12_when_24 ?_
  refine b_if_le_f C (tgt := 32) dX12_when_27 (by decide) (by decide) ?_
  refine lv_iconst (v := 0) C.1 C.2.1 dX12_when_30 (by decide) ?_
  exact r_iret C w hlocks () hr rfl rfl trivial [0, 1, 2, 3] rfl rfl ⟨Nat.le_of_ble_eq_true rfl, Nat.le_of_ble_eq_true rfl⟩ dX12_when_31
set_option maxRecDepth 100000 in
set_option maxHeartbeats 4000000 in
theorem c_X12_when_4 (l : Launch) (D : va_G) (cy : Nat → ClassId) (a0 a1 a2 a3 a4 a5 a6 a7 a8 a9 a10 a11 a12 a13 a14 a15 a16 a17 : Nat) (x0 : Int32) (x1 : Int32) (x2 : Int32) (k0 : ¬ x0 < 0) (k1 : ¬ x2 < 0) (k2 : 189 < x2) : Ct l D cy yX12_when cX12_when 4 (some .int) 3 68 0 0 [(a0, .inr (12, [.ref a1, .ref a2, .ref a3, .ref a4, .ref a5, .int 0, .ref a6, .int 0, .int 0, .int 0, .int 0, .int 0, .int 0, .int 0, .int 0, .int 0, .int 0, .int (-1), .ref a7, .ref a8, .int 0, .ref a9, .int 0, .ref a10, .ref a11, .ref a12, .ref a13, .ref a14, .int 0, .ref a15, .ref a16, .ref a17])), (a1, .inl (cy 1, 1868, .inl (upd (upd (upd (fun _ => 0) 1 2) 2 20) 3 120))), (a7, .inl (cy 1, 1830, .inl (fun _ => 0))), (a8, .inl (cy 1, 1830, .inl (fun _ => 0)))] [.ref a0, .int x0, .int x1, .int x2] (fun u : Unit => some (.int 0)) (fun _ => True) (fun u : Unit => [(a0, .inr (12, [.ref a1, .ref a2, .ref a3, .ref a4, .ref a5, .int 1, .ref a6, .int 0, .int 0, .int 0, .int 0, .int 0, .int 0, .int 0, .int 0, .int 0, .int 0, .int (-1), .ref a7, .ref a8, .int 190, .ref a9, .int 0, .ref a10, .ref a11, .ref a12, .ref a13, .ref a14, .int 0, .ref a15, .ref a16, .ref a17])), (a1, .inl (cy 1, 1868, .inl (upd (upd (upd (fun _ => 0) 1 2) 2 20) 3 120))), (a7, .inl (cy 1, 1830, .inl (lxF (fun _ => 0) 2 20 (PP 20 2 (20 + 1 - 2))))), (a8, .inl (cy 1, 1830, .inl (lyF (fun _ => 0) 2 20 (PP 20 2 (20 + 1 - 2)))))]) := by
  refine Ct.of (by decide +kernel) (Nat.le_of_ble_eq_true rfl) ?_
  intro p e s m args below meth c A ls C hr hlocks hml hnm w hl
  have hl : lv_has ls 4 [(0, .ref a0), (1, .int x0), (2, .int x1), (3, .int x2)] := hl
  refine lv_aload_n C.1 C.2.1 dX12_when_0 rfl (lv_at hl 0 rfl) ?_
  refine lv_aload_n C.1 C.2.1 dX12_when_1 rfl (lv_at hl 0 rfl) ?_
  refine lv_iload_n C.1 C.2.1 dX12_when_2 rfl (lv_at hl 1 rfl) ?_
  refine lv_iload_n C.1 C.2.1 dX12_when_3 rfl (lv_at hl 2 rfl) ?_
  refine r_callV C w fv_RX12_360 (c_X12_twoFault_1 l D cy a0 a1 a2 a3 a4 a5 a6 a7 a8 a9 a10 a11 a12 a13 a14 a15 a16 a17 x0 x1 k0) (hl.1.trans hml.symm) [0, 1] [2, 3] (wr := [(a7, .inl (cy 1, 1830, .inl (fun _ => 0))), (a8, .inl (cy 1, 1830, .inl (fun _ => 0)))]) ⟨rfl, rfl, rfl, rfl, by decide⟩ 0 rfl rfl rfl rfl rfl ⟨Nat.le_of_ble_eq_true rfl, Nat.le_of_ble_eq_true rfl, Nat.le_of_ble_eq_true rfl⟩ 0 0 ⟨rfl, rfl, Nat.le_of_ble_eq_true rfl, Nat.le_of_ble_eq_true rfl⟩ dX12_when_4 (fun u H locs hp w => ?_)
  have w : Wd D A s.heap [(a7, .inl (cy 1, 1830, .inl (fun _ => 0))), (a8, .inl (cy 1, 1830, .inl (fun _ => 0))), (a0, .inr (12, [.ref a1, .ref a2, .ref a3, .ref a4, .ref a5, .int 0, .ref a6, .int 0, .int 0, .int 0, .int 0, .int 0, .int 0, .int 0, .int 0, .int 0, .int 0, .int (-1), .ref a7, .ref a8, .int 0, .ref a9, .int 0, .ref a10, .ref a11, .ref a12, .ref a13, .ref a14, .int 0, .ref a15, .ref a16, .ref a17])), (a1, .inl (cy 1, 1868, .inl (upd (upd (upd (fun _ => 0) 1 2) 2 20) 3 120)))] _ _ := w
  refine r_top (g2 := F0 m 7 ls [.int 1, .ref a0]) rfl ?_
  refine r_put C w 2 rfl rfl 5 (by decide) fl_RX12_71 rfl (ty := .int) (tyX12_ok 5 (by decide)) rfl rfl (Nat.le_of_ble_eq_true rfl) [(a7, .inl (cy 1, 1830, .inl (fun _ => 0))), (a8, .inl (cy 1, 1830, .inl (fun _ => 0))), (a0, .inr (12, [.ref a1, .ref a2, .ref a3, .ref a4, .ref a5, .int 1, .ref a6, .int 0, .int 0, .int 0, .int 0, .int 0, .int 0, .int 0, .int 0, .int 0, .int 0, .int (-1), .ref a7, .ref a8, .int 0, .ref a9, .int 0, .ref a10, .ref a11, .ref a12, .ref a13, .ref a14, .int 0, .ref a15, .ref a16, .ref a17])), (a1, .inl (cy 1, 1868, .inl (upd (upd (upd (fun _ => 0) 1 2) 2 20) 3 120)))] rfl dX12_when_7 (fun H locs w => ?_)
  refine lv_aload_n C.1 C.2.1 dX12_when_10 rfl (lv_at hl 0 rfl) ?_
  refine lv_iload_n C.1 C.2.1 dX12_when_11 rfl (lv_at hl 3 rfl) ?_
  refine r_callV C w fv_RX12_256 (c_X12_isWorld_5 l D cy a0 a1 a2 a3 a4 a5 a6 a7 a8 a9 a10 a11 a12 a13 a14 a15 a16 a17 x2 k1 k2) (hl.1.trans hml.symm) [2, 3, 0, 1] [] (wr := []) ⟨rfl, rfl, rfl, rfl, by decide⟩ 0 rfl rfl rfl rfl rfl ⟨Nat.le_of_ble_eq_true rfl, Nat.le_of_ble_eq_true rfl, Nat.le_of_ble_eq_true rfl⟩ 0 0 ⟨rfl, rfl, Nat.le_of_ble_eq_true rfl, Nat.le_of_ble_eq_true rfl⟩ dX12_when_12 (fun u H locs hp w => ?_)
  have w : Wd D A s.heap [(a0, .inr (12, [.ref a1, .ref a2, .ref a3, .ref a4, .ref a5, .int 1, .ref a6, .int 0, .int 0, .int 0, .int 0, .int 0, .int 0, .int 0, .int 0, .int 0, .int 0, .int (-1), .ref a7, .ref a8, .int 190, .ref a9, .int 0, .ref a10, .ref a11, .ref a12, .ref a13, .ref a14, .int 0, .ref a15, .ref a16, .ref a17])), (a1, .inl (cy 1, 1868, .inl (upd (upd (upd (fun _ => 0) 1 2) 2 20) 3 120))), (a7, .inl (cy 1, 1830, .inl (lxF (fun _ => 0) 2 20 (PP 20 2 (20 + 1 - 2))))), (a8, .inl (cy 1, 1830, .inl (lyF (fun _ => 0) 2 20 (PP 20 2 (20 + 1 - 2)))))] _ _ := w
  refine r_top (g2 := F0 m 15 ls [.int 0]) rfl ?_
  refine b_if_ne_f C (tgt := 23) dX12_when_15 (by decide) (by decide) ?_
  refine lv_aload_n C.1 C.2.1 dX12_when_18 rfl (lv_at hl 0 rfl) ?_
  refine lv_iconst (v := 1) C.1 C.2.1 dX12_when_19 (by decide) ?_
  refine r_put C w 0 rfl rfl 5 (by decide) fl_RX12_71 rfl (ty := .int) (tyX12_ok 5 (by decide)) rfl rfl (Nat.le_of_ble_eq_true rfl) [(a0, .inr (12, [.ref a1, .ref a2, .ref a3, .ref a4, .ref a5, .int 1, .ref a6, .int 0, .int 0, .int 0, .int 0, .int 0, .int 0, .int 0, .int 0, .int 0, .int 0, .int (-1), .ref a7, .ref a8, .int 190, .ref a9, .int 0, .ref a10, .ref a11, .ref a12, .ref a13, .ref a14, .int 0, .ref a15, .ref a16, .ref a17])), (a1, .inl (cy 1, 1868, .inl (upd (upd (upd (fun _ => 0) 1 2) 2 20) 3 120))), (a7, .inl (cy 1, 1830, .inl (lxF (fun _ => 0) 2 20 (PP 20 2 (20 + 1 - 2))))), (a8, .inl (cy 1, 1830, .inl (lyF (fun _ => 0) 2 20 (PP 20 2 (20 + 1 - 2)))))] rfl dX12_when_20 (fun H locs w => ?_)
  refine lv_aload_n C.1 C.2.1 dX12_when_23 rfl (lv_at hl 0 rfl) ?_
  refine r_get C w 0 rfl rfl 5 (by decide) fl_RX12_71 (v := .int 1) rfl dX12_when_24 ?_
  refine b_if_le_f C (tgt := 32) dX12_when_27 (by decide) (by decide) ?_
  refine lv_iconst (v := 0) C.1 C.2.1 dX12_when_30 (by decide) ?_
  exact r_iret C w hlocks () hr rfl rfl trivial [0, 1, 2, 3] rfl rfl ⟨Nat.le_of_ble_eq_true rfl, Nat.le_of_ble_eq_true rfl⟩ dX12_when_31
set_option maxRecDepth 100000 in
set_option maxHeartbeats 4000000 in
theorem c_X12_when_5 (l : Launch) (D : va_G) (cy : Nat → ClassId) (a0 a1 a2 a3 a4 a5 a6 a7 a8 a9 a10 a11 a12 a13 a14 a15 a16 a17 : Nat) (x0 : Int32) (x1 : Int32) (x2 : Int32) (k0 : ¬ x0 < 0) (k1 : ¬ x2 < 0) (k2 : ¬ 189 < x2) : Ct l D cy yX12_when cX12_when 4 (some .int) 3 68 0 0 [(a0, .inr (12, [.ref a1, .ref a2, .ref a3, .ref a4, .ref a5, .int 0, .ref a6, .int 0, .int 0, .int 0, .int 0, .int 0, .int 0, .int 0, .int 0, .int 0, .int 0, .int (-1), .ref a7, .ref a8, .int 0, .ref a9, .int 0, .ref a10, .ref a11, .ref a12, .ref a13, .ref a14, .int 0, .ref a15, .ref a16, .ref a17])), (a1, .inl (cy 1, 1868, .inl (upd (upd (upd (fun _ => 0) 1 2) 2 20) 3 120))), (a7, .inl (cy 1, 1830, .inl (fun _ => 0))), (a8, .inl (cy 1, 1830, .inl (fun _ => 0)))] [.ref a0, .int x0, .int x1, .int x2] (fun u : Unit => some (.int 0)) (fun _ => True) (fun u : Unit => [(a0, .inr (12, [.ref a1, .ref a2, .ref a3, .ref a4, .ref a5, .int 1, .ref a6, .int 0, .int 0, .int 0, .int 0, .int 0, .int 0, .int 0, .int 0, .int 0, .int 0, .int (-1), .ref a7, .ref a8, .int 190, .ref a9, .int 0, .ref a10, .ref a11, .ref a12, .ref a13, .ref a14, .int 0, .ref a15, .ref a16, .ref a17])), (a1, .inl (cy 1, 1868, .inl (upd (upd (upd (fun _ => 0) 1 2) 2 20) 3 120))), (a7, .inl (cy 1, 1830, .inl (lxF (fun _ => 0) 2 20 (PP 20 2 (20 + 1 - 2))))), (a8, .inl (cy 1, 1830, .inl (lyF (fun _ => 0) 2 20 (PP 20 2 (20 + 1 - 2)))))]) := by
  refine Ct.of (by decide +kernel) (Nat.le_of_ble_eq_true rfl) ?_
  intro p e s m args below meth c A ls C hr hlocks hml hnm w hl
  have hl : lv_has ls 4 [(0, .ref a0), (1, .int x0), (2, .int x1), (3, .int x2)] := hl
  refine lv_aload_n C.1 C.2.1 dX12_when_0 rfl (lv_at hl 0 rfl) ?_
  refine lv_aload_n C.1 C.2.1 dX12_when_1 rfl (lv_at hl 0 rfl) ?_
  refine lv_iload_n C.1 C.2.1 dX12_when_2 rfl (lv_at hl 1 rfl) ?_
  refine lv_iload_n C.1 C.2.1 dX12_when_3 rfl (lv_at hl 2 rfl) ?_
  refine r_callV C w fv_RX12_360 (c_X12_twoFault_1 l D cy a0 a1 a2 a3 a4 a5 a6 a7 a8 a9 a10 a11 a12 a13 a14 a15 a16 a17 x0 x1 k0) (hl.1.trans hml.symm) [0, 1] [2, 3] (wr := [(a7, .inl (cy 1, 1830, .inl (fun _ => 0))), (a8, .inl (cy 1, 1830, .inl (fun _ => 0)))]) ⟨rfl, rfl, rfl, rfl, by decide⟩ 0 rfl rfl rfl rfl rfl ⟨Nat.le_of_ble_eq_true rfl, Nat.le_of_ble_eq_true rfl, Nat.le_of_ble_eq_true rfl⟩ 0 0 ⟨rfl, rfl, Nat.le_of_ble_eq_true rfl, Nat.le_of_ble_eq_true rfl⟩ dX12_when_4 (fun u H locs hp w => ?_)
  have w : Wd D A s.heap [(a7, .inl (cy 1, 1830, .inl (fun _ => 0))), (a8, .inl (cy 1, 1830, .inl (fun _ => 0))), (a0, .inr (12, [.ref a1, .ref a2, .ref a3, .ref a4, .ref a5, .int 0, .ref a6, .int 0, .int 0, .int 0, .int 0, .int 0, .int 0, .int 0, .int 0, .int 0, .int 0, .int (-1), .ref a7, .ref a8, .int 0, .ref a9, .int 0, .ref a10, .ref a11, .ref a12, .ref a13, .ref a14, .int 0, .ref a15, .ref a16, .ref a17])), (a1, .inl (cy 1, 1868, .inl (upd (upd (upd (fun _ => 0) 1 2) 2 20) 3 120)))] _ _ := w
  refine r_top (g2 := F0 m 7 ls [.int 1, .ref a0]) rfl ?_
  refine r_put C w 2 rfl rfl 5 (by decide) fl_RX12_71 rfl (ty := .int) (tyX12_ok 5 (by decide)) rfl rfl (Nat.le_of_ble_eq_true rfl) [(a7, .inl (cy 1, 1830, .inl (fun _ => 0))), (a8, .inl (cy 1, 1830, .inl (fun _ => 0))), (a0, .inr (12, [.ref a1, .ref a2, .ref a3, .ref a4, .ref a5, .int 1, .ref a6, .int 0, .int 0, .int 0, .int 0, .int 0, .int 0, .int 0, .int 0, .int 0, .int 0, .int (-1), .ref a7, .ref a8, .int 0, .ref a9, .int 0, .ref a10, .ref a11, .ref a12, .ref a13, .ref a14, .int 0, .ref a15, .ref a16, .ref a17])), (a1, .inl (cy 1, 1868, .inl (upd (upd (upd (fun _ => 0) 1 2) 2 20) 3 120)))] rfl dX12_when_7 (fun H locs w => ?_)
  refine lv_aload_n C.1 C.2.1 dX12_when_10 rfl (lv_at hl 0 rfl) ?_
  refine lv_iload_n C.1 C.2.1 dX12_when_11 rfl (lv_at hl 3 rfl) ?_
  refine r_callV C w fv_RX12_256 (c_X12_isWorld_4 l D cy a0 a1 a2 a3 a4 a5 a6 a7 a8 a9 a10 a11 a12 a13 a14 a15 a16 a17 x2 k1 k2) (hl.1.trans hml.symm) [2, 3, 0, 1] [] (wr := []) ⟨rfl, rfl, rfl, rfl, by decide⟩ 0 rfl rfl rfl rfl rfl ⟨Nat.le_of_ble_eq_true rfl, Nat.le_of_ble_eq_true rfl, Nat.le_of_ble_eq_true rfl⟩ 0 0 ⟨rfl, rfl, Nat.le_of_ble_eq_true rfl, Nat.le_of_ble_eq_true rfl⟩ dX12_when_12 (fun u H locs hp w => ?_)
  have w : Wd D A s.heap [(a0, .inr (12, [.ref a1, .ref a2, .ref a3, .ref a4, .ref a5, .int 1, .ref a6, .int 0, .int 0, .int 0, .int 0, .int 0, .int 0, .int 0, .int 0, .int 0, .int 0, .int (-1), .ref a7, .ref a8, .int 190, .ref a9, .int 0, .ref a10, .ref a11, .ref a12, .ref a13, .ref a14, .int 0, .ref a15, .ref a16, .ref a17])), (a1, .inl (cy 1, 1868, .inl (upd (upd (upd (fun _ => 0) 1 2) 2 20) 3 120))), (a7, .inl (cy 1, 1830, .inl (lxF (fun _ => 0) 2 20 (PP 20 2 (20 + 1 - 2))))), (a8, .inl (cy 1, 1830, .inl (lyF (fun _ => 0) 2 20 (PP 20 2 (20 + 1 - 2)))))] _ _ := w
  refine r_top (g2 := F0 m 15 ls [.int 1]) rfl ?_
  refine b_if_ne_t C (tgt := 23) dX12_when_15 (by decide) (by decide) ?_
  refine lv_aload_n C.1 C.2.1 dX12_when_23 rfl (lv_at hl 0 rfl) ?_
  refine r_get C w 0 rfl rfl 5 (by decide) fl_RX12_71 (v := .int 1) rfl dX12_when_24 ?_
  refine b_if_le_f C (tgt := 32) dX12_when_27 (by decide) (by decide) ?_
  refine lv_iconst (v := 0) C.1 C.2.1 dX12_when_30 (by decide) ?_
  exact r_iret C w hlocks () hr rfl rfl trivial [0, 1, 2, 3] rfl rfl ⟨Nat.le_of_ble_eq_true rfl, Nat.le_of_ble_eq_true rfl⟩ dX12_when_31
