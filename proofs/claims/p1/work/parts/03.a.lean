theorem dX4_learn_0 : decode cX4_learn 0 = .ok (.aload_n 0, 1) := by decide +kernel
theorem fl_RX4_13 : Cond.fieldLink RX4 13 "TwoSlips$Pairs" "slips" "[[I" ∈ gw := gw_mem (by decide +kernel) (by decide +kernel)
theorem dX4_learn_1 : decode cX4_learn 1 = .ok (.getfield 13, 3) := by decide +kernel
theorem dX4_learn_4 : decode cX4_learn 4 = .ok (.iload_n 1, 1) := by decide +kernel
theorem dX4_learn_5 : decode cX4_learn 5 = .ok (.aaload, 1) := by decide +kernel
theorem dX4_learn_6 : decode cX4_learn 6 = .ok (.arraylength, 1) := by decide +kernel
theorem dX4_learn_7 : decode cX4_learn 7 = .ok (.sipush 1830, 3) := by decide +kernel
theorem dX4_learn_10 : decode cX4_learn 10 = .ok (.if_icmp .ne 4, 3) := by decide +kernel
theorem dX4_learn_14 : decode cX4_learn 14 = .ok (.sipush 1830, 3) := by decide +kernel
theorem dX4_learn_17 : decode cX4_learn 17 = .ok (.newarray .int, 2) := by decide +kernel
theorem ac_int : Cond.arrayClass .int ∈ gw := gw_mem (by decide +kernel) (by decide +kernel)
theorem dX4_learn_19 : decode cX4_learn 19 = .ok (.astore_n 2, 1) := by decide +kernel
theorem dX4_learn_20 : decode cX4_learn 20 = .ok (.aload_n 0, 1) := by decide +kernel
theorem dX4_learn_21 : decode cX4_learn 21 = .ok (.getfield 13, 3) := by decide +kernel
theorem dX4_learn_24 : decode cX4_learn 24 = .ok (.iload_n 1, 1) := by decide +kernel
theorem dX4_learn_25 : decode cX4_learn 25 = .ok (.aload_n 2, 1) := by decide +kernel
theorem dX4_learn_26 : decode cX4_learn 26 = .ok (.aastore, 1) := by decide +kernel
theorem dX4_learn_27 : decode cX4_learn 27 = .ok (.iconst 0, 1) := by decide +kernel
theorem dX4_learn_28 : decode cX4_learn 28 = .ok (.istore_n 3, 1) := by decide +kernel
theorem dX4_learn_29 : decode cX4_learn 29 = .ok (.iconst 1, 1) := by decide +kernel
theorem dX4_learn_30 : decode cX4_learn 30 = .ok (.istore 4, 2) := by decide +kernel
theorem dX4_learn_43 : decode cX4_learn 43 = .ok (.iload 5, 2) := by decide +kernel
theorem dX4_learn_45 : decode cX4_learn 45 = .ok (.bipush 60, 2) := by decide +kernel
theorem dX4_learn_47 : decode cX4_learn 47 = .ok (.if_icmp .gt 30, 3) := by decide +kernel
theorem dX4_learn_50 : decode cX4_learn 50 = .ok (.iload_n 3, 1) := by decide +kernel
theorem dX4_learn_51 : decode cX4_learn 51 = .ok (.sipush 1830, 3) := by decide +kernel
theorem dX4_learn_54 : decode cX4_learn 54 = .ok (.if_icmp .ge 23, 3) := by decide +kernel
theorem dX4_learn_57 : decode cX4_learn 57 = .ok (.aload_n 2, 1) := by decide +kernel
theorem dX4_learn_58 : decode cX4_learn 58 = .ok (.iload_n 3, 1) := by decide +kernel
theorem dX4_learn_59 : decode cX4_learn 59 = .ok (.iinc 3 1, 3) := by decide +kernel
theorem dX4_learn_62 : decode cX4_learn 62 = .ok (.iload_n 1, 1) := by decide +kernel
theorem dX4_learn_63 : decode cX4_learn 63 = .ok (.iload 4, 2) := by decide +kernel
theorem dX4_learn_65 : decode cX4_learn 65 = .ok (.iload 5, 2) := by decide +kernel
theorem dX4_learn_67 : decode cX4_learn 67 = .ok (.invokestatic 54, 3) := by decide +kernel
theorem dX4_slipOf_0 : decode cX4_slipOf 0 = .ok (.iload_n 0, 1) := by decide +kernel
theorem dX4_slipOf_1 : decode cX4_slipOf 1 = .ok (.tableswitch 84 0 7 #[47, 51, 55, 57, 59, 63, 71, 77], 47) := by decide +kernel
theorem dX4_slipOf_48 : decode cX4_slipOf 48 = .ok (.iload_n 1, 1) := by decide +kernel
theorem dX4_slipOf_49 : decode cX4_slipOf 49 = .ok (.iload_n 2, 1) := by decide +kernel
theorem dX4_slipOf_50 : decode cX4_slipOf 50 = .ok (.iadd, 1) := by decide +kernel
theorem dX4_slipOf_51 : decode cX4_slipOf 51 = .ok (.ireturn, 1) := by decide +kernel
set_option maxRecDepth 100000 in
set_option maxHeartbeats 4000000 in
theorem c_X4_slipOf_0 (l : Launch) (D : va_G) (cy : Nat → ClassId) (x0 : Int32) (x1 : Int32) : Ct l D cy yX4_slipOf cX4_slipOf 3 (some .int) 0 0 0 0 [] [.int 0, .int x0, .int x1] (fun u : Unit => some (.int (x0 + x1))) (fun _ => True) (fun u : Unit => []) := by
  refine Ct.of (by decide +kernel) (Nat.le_of_ble_eq_true rfl) ?_
  intro p e s m args below meth c A ls C hr hlocks hml hnm w hl
  have hl : lv_has ls 3 [(0, .int 0), (1, .int x0), (2, .int x1)] := hl
  refine lv_iload_n C.1 C.2.1 dX4_slipOf_0 rfl (lv_at hl 0 rfl) ?_
  refine lv_tableIn (tgt := 48) (off := 47) C.1 C.2.1 dX4_slipOf_1 (by decide) (by decide) (by decide) (by decide) ?_
  refine lv_iload_n C.1 C.2.1 dX4_slipOf_48 rfl (lv_at hl 1 rfl) ?_
  refine lv_iload_n C.1 C.2.1 dX4_slipOf_49 rfl (lv_at hl 2 rfl) ?_
  refine r_iadd C (v := (x0 + x1)) dX4_slipOf_50 rfl ?_
  exact r_iret C w hlocks () hr rfl rfl trivial [] rfl rfl ⟨Nat.le_of_ble_eq_true rfl, Nat.le_of_ble_eq_true rfl⟩ dX4_slipOf_51
theorem fs_RX4_54 : FS RX4 54 yX4_slipOf cX4_slipOf 3 (some .int) 3 := ⟨⟨gw_mem (by decide +kernel) (by decide +kernel), gw_mem (by decide +kernel) (by decide +kernel), gw_mem (by decide +kernel) (by decide +kernel), gw_mem (by decide +kernel) (by decide +kernel)⟩, ⟨by decide +kernel, by decide +kernel, by decide +kernel⟩⟩
theorem dX4_learn_70 : decode cX4_learn 70 = .ok (.iastore, 1) := by decide +kernel
theorem dX4_learn_71 : decode cX4_learn 71 = .ok (.iinc 5 1, 3) := by decide +kernel
theorem dX4_learn_74 : decode cX4_learn 74 = .ok (.goto (-31), 3) := by decide +kernel
theorem dX4_learn_32 : decode cX4_learn 32 = .ok (.iload 4, 2) := by decide +kernel
theorem dX4_learn_34 : decode cX4_learn 34 = .ok (.bipush 60, 2) := by decide +kernel
theorem dX4_learn_36 : decode cX4_learn 36 = .ok (.if_icmp .gt 47, 3) := by decide +kernel
theorem dX4_learn_39 : decode cX4_learn 39 = .ok (.iload 4, 2) := by decide +kernel
theorem dX4_learn_41 : decode cX4_learn 41 = .ok (.istore 5, 2) := by decide +kernel
theorem dX4_learn_77 : decode cX4_learn 77 = .ok (.iinc 4 1, 3) := by decide +kernel
theorem dX4_learn_80 : decode cX4_learn 80 = .ok (.goto (-48), 3) := by decide +kernel
set_option maxRecDepth 100000 in
set_option maxHeartbeats 4000000 in
theorem lp_X4_learn_1 {p : Program} {l : Launch} {e : Env} {R : Room} {s : State} {m : MethodId} {args : Array Value} {below : List Frame} {meth : Method} {c : Code} {cells slots : Nat} {Q : State → Prop} {D : va_G} {cy : Nat → ClassId} {A : Nat → Prop} {H : Heap} {locs : List Loc} {ls : Array Slot} (a0 a1 a2 a3 a4 a5 a6 a7 a8 a9 a10 a11 a12 n1 : Nat) (C : Cx p s m args c cX4_learn RX4 D cy A) (hml : c.maxLocals = 6) (hfr : 1 ≤ R.frames) (hlo : 30 ≤ R.locals) (hcs : cells ≤ R.cells ∧ slots ≤ R.slots) (w : Wd D A s.heap [(a0, .inr (4, [.ref a1, .ref a2, .int 0, .ref a3])), (a1, .inl (cy 5, 9, .inr (.inr (.inr (.inr (va_up (va_up (va_up (va_up (va_up (va_up (va_up (va_up (va_up (va_up (fun _ => none) 0 (some a4)) 1 (some a5)) 2 (some a6)) 3 (some a7)) 4 (some a8)) 5 (some a9)) 6 (some a10)) 7 (some a11)) 8 (some a12)) 0 (some n1))))))), (a4, .inl (cy 1, 0, .inl (fun _ => 0))), (n1, .inl (cy 1, 1830, .inl (fun _ => 0)))] H locs) (hl : lv_has ls 6 [(0, .ref a0), (1, .int 0), (2, .ref n1), (3, .int 0), (4, .int 1)])
    (kk : ∀ (H : Heap) (locs : List Loc) (ls : Array Slot), Wd D A s.heap [(a0, .inr (4, [.ref a1, .ref a2, .int 0, .ref a3])), (a1, .inl (cy 5, 9, .inr (.inr (.inr (.inr (va_up (va_up (va_up (va_up (va_up (va_up (va_up (va_up (va_up (va_up (fun _ => none) 0 (some a4)) 1 (some a5)) 2 (some a6)) 3 (some a7)) 4 (some a8)) 5 (some a9)) 6 (some a10)) 7 (some a11)) 8 (some a12)) 0 (some n1))))))), (a4, .inl (cy 1, 0, .inl (fun _ => 0))), (n1, .inl (cy 1, 1830, .inl (learnF 0 1830)))] H locs → lv_has ls 6 [(0, .ref a0), (1, .int 0), (2, .ref n1)] → W p l e R s m args below meth c H locs cells slots Q (F0 m 83 ls [])) : W p l e R s m args below meth c H locs cells slots Q (F0 m 32 ls []) := by
  have inner : ∀ (k xn yn : Nat) (x y pr : Int32) (H : Heap) (locs : List Loc) (ls : Array Slot), 1 ≤ xn → xn ≤ 60 → xn ≤ yn → yn + k = 61 → x = nI xn → y = nI yn → pr = nI (PP 60 1 (xn - 1) + (yn - xn)) → Wd D A s.heap [(a0, .inr (4, [.ref a1, .ref a2, .int 0, .ref a3])), (a1, .inl (cy 5, 9, .inr (.inr (.inr (.inr (va_up (va_up (va_up (va_up (va_up (va_up (va_up (va_up (va_up (va_up (fun _ => none) 0 (some a4)) 1 (some a5)) 2 (some a6)) 3 (some a7)) 4 (some a8)) 5 (some a9)) 6 (some a10)) 7 (some a11)) 8 (some a12)) 0 (some n1))))))), (a4, .inl (cy 1, 0, .inl (fun _ => 0))), (n1, .inl (cy 1, 1830, .inl (learnF 0 (PP 60 1 (xn - 1) + (yn - xn)))))] H locs → lv_has ls 6 [(0, .ref a0), (1, .int 0), (2, .ref n1), (3, .int pr), (4, .int x), (5, .int y)] →
      (∀ (H : Heap) (locs : List Loc) (ls : Array Slot) (pr1 y1 : Int32), pr1 = nI (PP 60 1 xn) → Wd D A s.heap [(a0, .inr (4, [.ref a1, .ref a2, .int 0, .ref a3])), (a1, .inl (cy 5, 9, .inr (.inr (.inr (.inr (va_up (va_up (va_up (va_up (va_up (va_up (va_up (va_up (va_up (va_up (fun _ => none) 0 (some a4)) 1 (some a5)) 2 (some a6)) 3 (some a7)) 4 (some a8)) 5 (some a9)) 6 (some a10)) 7 (some a11)) 8 (some a12)) 0 (some n1))))))), (a4, .inl (cy 1, 0, .inl (fun _ => 0))), (n1, .inl (cy 1, 1830, .inl (learnF 0 (PP 60 1 xn))))] H locs → lv_has ls 6 [(0, .ref a0), (1, .int 0), (2, .ref n1), (3, .int pr1), (4, .int x), (5, .int y1)] → W p l e R s m args below meth c H locs cells slots Q (F0 m 77 ls [])) → W p l e R s m args below meth c H locs cells slots Q (F0 m 43 ls []) := by
    intro k
    induction k with
    | zero =>
      intro xn yn x y pr H locs ls h1 h2 h3 h4 ex ey ep w hl kk
      have hy : yn = 61 := by omega
      have c1 : (60 : Int32) < y := by rw [ey, hy]; decide
      refine lv_iload C.1 C.2.1 dX4_learn_43 (lv_at hl 5 rfl) ?_
      refine lv_bipush (v := 60) C.1 C.2.1 dX4_learn_45 (by decide) ?_
      refine b_icmp_gt_t C (tgt := 77) dX4_learn_47 (by decide) c1 ?_
      have eN : PP 60 1 (xn - 1) + (yn - xn) = PP 60 1 xn := by
        have := PP_succ 60 (xn - 1) 1
        have e1 : xn - 1 + 1 = xn := by omega
        have e2 : 1 + (xn - 1) = xn := by omega
        rw [e1, e2] at this
        omega
      exact kk _ _ _ pr y (by rw [ep, eN]) (by rw [← eN]; exact w) hl
    | succ k ih =>
      intro xn yn x y pr H locs ls h1 h2 h3 h4 ex ey ep w hl kk
      have hb := PP_lt (a := 1) (b := 60) h1 h3 (by omega)
      rw [show 60 + 1 - 1 = 60 from rfl, PP_tot] at hb
      have c1 : ¬ (60 : Int32) < y := by rw [ey]; exact nI_nlt (a := 60) (by omega) (by omega)
      have c2 : ¬ (1830 : Int32) ≤ pr := by rw [ep]; exact nI_ge hb (by decide)
      have hin : vp_in pr 1830 := by rw [ep]; exact vp_in_nI hb (by decide)
      have hst : upd (learnF 0 (PP 60 1 (xn - 1) + (yn - xn))) pr.toNatClampNeg (x + y) = learnF 0 (PP 60 1 (xn - 1) + (yn - xn) + 1) := by
        rw [ep]
        refine learnF_step (by omega) ?_
        rw [pxy_at h1 h3 (by omega)]
        first | rw [ex, ey] | rw [ey] | rw [ex]
        exact nI_add _ _
      refine lv_iload C.1 C.2.1 dX4_learn_43 (lv_at hl 5 rfl) ?_
      refine lv_bipush (v := 60) C.1 C.2.1 dX4_learn_45 (by decide) ?_
      refine b_icmp_gt_f C (tgt := 77) dX4_learn_47 (by decide) c1 ?_
      refine lv_iload_n C.1 C.2.1 dX4_learn_50 rfl (lv_at hl 3 rfl) ?_
      refine lv_sipush (v := 1830) C.1 C.2.1 dX4_learn_51 (by decide) ?_
      refine b_icmp_ge_f C (tgt := 77) dX4_learn_54 (by decide) c2 ?_
      refine lv_aload_n C.1 C.2.1 dX4_learn_57 rfl (lv_at hl 2 rfl) ?_
      refine lv_iload_n C.1 C.2.1 dX4_learn_58 rfl (lv_at hl 3 rfl) ?_
      refine lv_iinc (v := (pr + 1)) (lv' := [(3, .int (pr + 1)), (0, .ref a0), (1, .int 0), (2, .ref n1), (4, .int x), (5, .int y)]) C.1 C.2.1 dX4_learn_59 hl (k := 3) rfl rfl (by decide) rfl (fun ls hl => ?_)
      refine lv_iload_n C.1 C.2.1 dX4_learn_62 rfl (lv_at hl 2 rfl) ?_
      refine lv_iload C.1 C.2.1 dX4_learn_63 (lv_at hl 4 rfl) ?_
      refine lv_iload C.1 C.2.1 dX4_learn_65 (lv_at hl 5 rfl) ?_
      refine r_callS C w fs_RX4_54 (c_X4_slipOf_0 l D cy x y) (hl.1.trans hml.symm) [] [0, 1, 2, 3] (wr := [(a0, .inr (4, [.ref a1, .ref a2, .int 0, .ref a3])), (a1, .inl (cy 5, 9, .inr (.inr (.inr (.inr (va_up (va_up (va_up (va_up (va_up (va_up (va_up (va_up (va_up (va_up (fun _ => none) 0 (some a4)) 1 (some a5)) 2 (some a6)) 3 (some a7)) 4 (some a8)) 5 (some a9)) 6 (some a10)) 7 (some a11)) 8 (some a12)) 0 (some n1))))))), (a4, .inl (cy 1, 0, .inl (fun _ => 0))), (n1, .inl (cy 1, 1830, .inl (learnF 0 (PP 60 1 (xn - 1) + (yn - xn)))))]) ⟨rfl, rfl, rfl, rfl, by decide⟩ rfl rfl ⟨by omega, by omega, Nat.le_of_ble_eq_true rfl⟩ cells slots ⟨rfl, rfl, hcs.1, hcs.2⟩ dX4_learn_67 (fun u H locs hp w => ?_)
      have w : Wd D A s.heap [(a0, .inr (4, [.ref a1, .ref a2, .int 0, .ref a3])), (a1, .inl (cy 5, 9, .inr (.inr (.inr (.inr (va_up (va_up (va_up (va_up (va_up (va_up (va_up (va_up (va_up (va_up (fun _ => none) 0 (some a4)) 1 (some a5)) 2 (some a6)) 3 (some a7)) 4 (some a8)) 5 (some a9)) 6 (some a10)) 7 (some a11)) 8 (some a12)) 0 (some n1))))))), (a4, .inl (cy 1, 0, .inl (fun _ => 0))), (n1, .inl (cy 1, 1830, .inl (learnF 0 (PP 60 1 (xn - 1) + (yn - xn)))))] _ _ := w
      refine r_top (g2 := F0 m 70 ls [.int (x + y), .int pr, .ref n1]) rfl ?_
      refine r_iast C w 3 rfl hin (learnF 0 (PP 60 1 (xn - 1) + (yn - xn) + 1)) hst [(a0, .inr (4, [.ref a1, .ref a2, .int 0, .ref a3])), (a1, .inl (cy 5, 9, .inr (.inr (.inr (.inr (va_up (va_up (va_up (va_up (va_up (va_up (va_up (va_up (va_up (va_up (fun _ => none) 0 (some a4)) 1 (some a5)) 2 (some a6)) 3 (some a7)) 4 (some a8)) 5 (some a9)) 6 (some a10)) 7 (some a11)) 8 (some a12)) 0 (some n1))))))), (a4, .inl (cy 1, 0, .inl (fun _ => 0))), (n1, .inl (cy 1, 1830, .inl (learnF 0 (PP 60 1 (xn - 1) + (yn - xn) + 1))))] rfl dX4_learn_70 (fun H locs w => ?_)
      refine lv_iinc (v := (y + 1)) (lv' := [(5, .int (y + 1)), (3, .int (pr + 1)), (0, .ref a0), (1, .int 0), (2, .ref n1), (4, .int x)]) C.1 C.2.1 dX4_learn_71 hl (k := 5) rfl rfl (by decide) rfl (fun ls hl => ?_)
      refine lv_goto (tgt := 43) C.1 C.2.1 dX4_learn_74 (by decide) ?_
      have eN : PP 60 1 (xn - 1) + (yn + 1 - xn) = PP 60 1 (xn - 1) + (yn - xn) + 1 := by omega
      exact ih xn (yn + 1) x (y + 1) (pr + 1) _ _ _ h1 h2 (by omega) (by omega) ex (by rw [ey]; exact nI_1 _) (by rw [ep, eN]; exact nI_1 _) (by rw [eN]; exact w) (lv_sub hl [2, 3, 4, 1, 5, 0] rfl) kk
  have outer : ∀ (k xn : Nat) (x pr : Int32) (H : Heap) (locs : List Loc) (ls : Array Slot), 1 ≤ xn → xn + k = 61 → x = nI xn → pr = nI (PP 60 1 (xn - 1)) → Wd D A s.heap [(a0, .inr (4, [.ref a1, .ref a2, .int 0, .ref a3])), (a1, .inl (cy 5, 9, .inr (.inr (.inr (.inr (va_up (va_up (va_up (va_up (va_up (va_up (va_up (va_up (va_up (va_up (fun _ => none) 0 (some a4)) 1 (some a5)) 2 (some a6)) 3 (some a7)) 4 (some a8)) 5 (some a9)) 6 (some a10)) 7 (some a11)) 8 (some a12)) 0 (some n1))))))), (a4, .inl (cy 1, 0, .inl (fun _ => 0))), (n1, .inl (cy 1, 1830, .inl (learnF 0 (PP 60 1 (xn - 1)))))] H locs → lv_has ls 6 [(0, .ref a0), (1, .int 0), (2, .ref n1), (3, .int pr), (4, .int x)] → W p l e R s m args below meth c H locs cells slots Q (F0 m 32 ls []) := by
    intro k
    induction k with
    | zero =>
      intro xn x pr H locs ls h1 h4 ex ep w hl
      have hx : xn = 61 := by omega
      subst hx
      have c1 : (60 : Int32) < x := by rw [ex]; decide
      refine lv_iload C.1 C.2.1 dX4_learn_32 (lv_at hl 4 rfl) ?_
      refine lv_bipush (v := 60) C.1 C.2.1 dX4_learn_34 (by decide) ?_
      refine b_icmp_gt_t C (tgt := 83) dX4_learn_36 (by decide) c1 ?_
      have e6 : PP 60 1 (61 - 1) = 1830 := PP_tot
      rw [e6] at w
      exact kk _ _ _ w (lv_sub hl [0, 1, 2] rfl)
    | succ k ih =>
      intro xn x pr H locs ls h1 h4 ex ep w hl
      have c1 : ¬ (60 : Int32) < x := by rw [ex]; exact nI_nlt (a := 60) (by omega) (by omega)
      refine lv_iload C.1 C.2.1 dX4_learn_32 (lv_at hl 4 rfl) ?_
      refine lv_bipush (v := 60) C.1 C.2.1 dX4_learn_34 (by decide) ?_
      refine b_icmp_gt_f C (tgt := 83) dX4_learn_36 (by decide) c1 ?_
      refine lv_iload C.1 C.2.1 dX4_learn_39 (lv_at hl 4 rfl) ?_
      refine lv_istore (lv' := [(5, .int x), (0, .ref a0), (1, .int 0), (2, .ref n1), (3, .int pr), (4, .int x)]) C.1 C.2.1 dX4_learn_41 hl (by decide) rfl (fun ls hl => ?_)
      have eN : PP 60 1 (xn - 1) + (xn - xn) = PP 60 1 (xn - 1) := by omega
      refine inner (61 - xn) xn xn x x pr _ _ _ h1 (by omega) (Nat.le_refl _) (by omega) ex ex (by rw [ep, eN]) (by rw [eN]; exact w) (lv_sub hl [1, 2, 3, 4, 5, 0] rfl) (fun H locs ls pr1 y1 ep1 w hl => ?_)
      refine lv_iinc (v := (x + 1)) (lv' := [(4, .int (x + 1)), (0, .ref a0), (1, .int 0), (2, .ref n1), (3, .int pr1), (5, .int y1)]) C.1 C.2.1 dX4_learn_77 hl (k := 4) rfl rfl (by decide) rfl (fun ls hl => ?_)
      refine lv_goto (tgt := 32) C.1 C.2.1 dX4_learn_80 (by decide) ?_
      exact ih (xn + 1) (x + 1) pr1 _ _ _ (by omega) (by omega) (by rw [ex]; exact nI_1 _) (by rw [ep1]; rfl) (by exact w) (lv_sub hl [1, 2, 3, 4, 0] rfl)
  refine outer 60 1 1 0 _ _ _ (Nat.le_refl _) rfl rfl rfl ?_ hl
  have e0 : learnF 0 (PP 60 1 (1 - 1)) = fun _ => 0 := learnF_0 0
  rw [e0]
  exact w
theorem dX4_learn_83 : decode cX4_learn 83 = .ok (.return_, 1) := by decide +kernel
set_option maxRecDepth 100000 in
set_option maxHeartbeats 4000000 in
theorem c_X4_learn_0 (l : Launch) (D : va_G) (cy : Nat → ClassId) (a0 a1 a2 a3 a4 a5 a6 a7 a8 a9 a10 a11 a12 : Nat) : Ct l D cy yX4_learn cX4_learn 6 none 1 30 1 1830 [(a0, .inr (4, [.ref a1, .ref a2, .int 0, .ref a3])), (a1, .inl (cy 5, 9, .inr (.inr (.inr (.inr (va_up (va_up (va_up (va_up (va_up (va_up (va_up (va_up (va_up (fun _ => none) 0 (some a4)) 1 (some a5)) 2 (some a6)) 3 (some a7)) 4 (some a8)) 5 (some a9)) 6 (some a10)) 7 (some a11)) 8 (some a12))))))), (a4, .inl (cy 1, 0, .inl (fun _ => 0)))] [.ref a0, .int 0] (fun u : Nat => none) (fun _ => True) (fun u : Nat => [(a0, .inr (4, [.ref a1, .ref a2, .int 0, .ref a3])), (a1, .inl (cy 5, 9, .inr (.inr (.inr (.inr (va_up (va_up (va_up (va_up (va_up (va_up (va_up (va_up (va_up (va_up (fun _ => none) 0 (some a4)) 1 (some a5)) 2 (some a6)) 3 (some a7)) 4 (some a8)) 5 (some a9)) 6 (some a10)) 7 (some a11)) 8 (some a12)) 0 (some u))))))), (a4, .inl (cy 1, 0, .inl (fun _ => 0))), (u, .inl (cy 1, 1830, .inl (learnF 0 1830)))]) := by
  refine Ct.of (by decide +kernel) (Nat.le_of_ble_eq_true rfl) ?_
  intro p e s m args below meth c A ls C hr hlocks hml hnm w hl
  have hl : lv_has ls 6 [(0, .ref a0), (1, .int 0)] := hl
  refine lv_aload_n C.1 C.2.1 dX4_learn_0 rfl (lv_at hl 0 rfl) ?_
  refine r_get C w 0 rfl rfl 0 (by decide) fl_RX4_13 (v := .ref a1) rfl dX4_learn_1 ?_
  refine lv_iload_n C.1 C.2.1 dX4_learn_4 rfl (lv_at hl 1 rfl) ?_
  refine r_aald C w 1 5 rfl rfl rfl (v := .ref a4) (vinD (by decide)) rfl dX4_learn_5 ?_
  refine r_alen C w 2 1 rfl rfl (v := 0) rfl dX4_learn_6 ?_
  refine lv_sipush (v := 1830) C.1 C.2.1 dX4_learn_7 (by decide) ?_
  refine b_icmp_ne_t C (tgt := 14) dX4_learn_10 (by decide) (by decide) ?_
  refine lv_sipush (v := 1830) C.1 C.2.1 dX4_learn_14 (by decide) ?_
  refine r_newa_int C w 1830 ac_int (by decide) (by decide) (by decide) 1 1830 rfl rfl ⟨Nat.le_of_ble_eq_true rfl, Nat.le_of_ble_eq_true rfl⟩ dX4_learn_17 (fun n1 H w => ?_)
  have w : Wd D A s.heap [(a0, .inr (4, [.ref a1, .ref a2, .int 0, .ref a3])), (a1, .inl (cy 5, 9, .inr (.inr (.inr (.inr (va_up (va_up (va_up (va_up (va_up (va_up (va_up (va_up (va_up (fun _ => none) 0 (some a4)) 1 (some a5)) 2 (some a6)) 3 (some a7)) 4 (some a8)) 5 (some a9)) 6 (some a10)) 7 (some a11)) 8 (some a12))))))), (a4, .inl (cy 1, 0, .inl (fun _ => 0))), (n1, .inl (cy 1, 1830, .inl (fun _ => 0)))] _ _ := w
  refine lv_astore_n (lv' := [(2, .ref n1), (0, .ref a0), (1, .int 0)]) C.1 C.2.1 dX4_learn_19 rfl hl (by decide) rfl (fun ls hl => ?_)
  refine lv_aload_n C.1 C.2.1 dX4_learn_20 rfl (lv_at hl 1 rfl) ?_
  refine r_get C w 0 rfl rfl 0 (by decide) fl_RX4_13 (v := .ref a1) rfl dX4_learn_21 ?_
  refine lv_iload_n C.1 C.2.1 dX4_learn_24 rfl (lv_at hl 2 rfl) ?_
  refine lv_aload_n C.1 C.2.1 dX4_learn_25 rfl (lv_at hl 0 rfl) ?_
  refine r_aastI C w 1 3 rfl rfl (vinD (by decide)) (va_up (va_up (va_up (va_up (va_up (va_up (va_up (va_up (va_up (va_up (fun _ => none) 0 (some a4)) 1 (some a5)) 2 (some a6)) 3 (some a7)) 4 (some a8)) 5 (some a9)) 6 (some a10)) 7 (some a11)) 8 (some a12)) 0 (some n1)) rfl [(a0, .inr (4, [.ref a1, .ref a2, .int 0, .ref a3])), (a1, .inl (cy 5, 9, .inr (.inr (.inr (.inr (va_up (va_up (va_up (va_up (va_up (va_up (va_up (va_up (va_up (va_up (fun _ => none) 0 (some a4)) 1 (some a5)) 2 (some a6)) 3 (some a7)) 4 (some a8)) 5 (some a9)) 6 (some a10)) 7 (some a11)) 8 (some a12)) 0 (some n1))))))), (a4, .inl (cy 1, 0, .inl (fun _ => 0))), (n1, .inl (cy 1, 1830, .inl (fun _ => 0)))] rfl dX4_learn_26 (fun H locs w => ?_)
  refine lv_iconst (v := 0) C.1 C.2.1 dX4_learn_27 (by decide) ?_
  refine lv_istore_n (lv' := [(3, .int 0), (2, .ref n1), (0, .ref a0), (1, .int 0)]) C.1 C.2.1 dX4_learn_28 rfl hl (by decide) rfl (fun ls hl => ?_)
  refine lv_iconst (v := 1) C.1 C.2.1 dX4_learn_29 (by decide) ?_
  refine lv_istore (lv' := [(4, .int 1), (3, .int 0), (2, .ref n1), (0, .ref a0), (1, .int 0)]) C.1 C.2.1 dX4_learn_30 hl (by decide) rfl (fun ls hl => ?_)
  refine lp_X4_learn_1 a0 a1 a2 a3 a4 a5 a6 a7 a8 a9 a10 a11 a12 n1 C hml (Nat.le_of_ble_eq_true rfl) (Nat.le_of_ble_eq_true rfl) ⟨Nat.le_of_ble_eq_true rfl, Nat.le_of_ble_eq_true rfl⟩ (w.re rfl) (lv_sub hl [3, 4, 2, 1, 0] rfl) (fun H locs ls w hl => ?_)
  have w : Wd D A s.heap [(a0, .inr (4, [.ref a1, .ref a2, .int 0, .ref a3])), (a1, .inl (cy 5, 9, .inr (.inr (.inr (.inr (va_up (va_up (va_up (va_up (va_up (va_up (va_up (va_up (va_up (va_up (fun _ => none) 0 (some a4)) 1 (some a5)) 2 (some a6)) 3 (some a7)) 4 (some a8)) 5 (some a9)) 6 (some a10)) 7 (some a11)) 8 (some a12)) 0 (some n1))))))), (a4, .inl (cy 1, 0, .inl (fun _ => 0))), (n1, .inl (cy 1, 1830, .inl (learnF 0 1830)))] _ _ := w
  exact r_vret C w hlocks n1 hr rfl trivial [0, 1, 2, 3] rfl rfl ⟨Nat.le_of_ble_eq_true rfl, Nat.le_of_ble_eq_true rfl⟩ dX4_learn_83
theorem dX4_slipOf_56 : decode cX4_slipOf 56 = .ok (.iload_n 2, 1) := by decide +kernel
theorem dX4_slipOf_57 : decode cX4_slipOf 57 = .ok (.ireturn, 1) := by decide +kernel
set_option maxRecDepth 100000 in
set_option maxHeartbeats 4000000 in
theorem c_X4_slipOf_1 (l : Launch) (D : va_G) (cy : Nat → ClassId) (x0 : Int32) (x1 : Int32) : Ct l D cy yX4_slipOf cX4_slipOf 3 (some .int) 0 0 0 0 [] [.int 2, .int x0, .int x1] (fun u : Unit => some (.int x1)) (fun _ => True) (fun u : Unit => []) := by
  refine Ct.of (by decide +kernel) (Nat.le_of_ble_eq_true rfl) ?_
  intro p e s m args below meth c A ls C hr hlocks hml hnm w hl
  have hl : lv_has ls 3 [(0, .int 2), (1, .int x0), (2, .int x1)] := hl
  refine lv_iload_n C.1 C.2.1 dX4_slipOf_0 rfl (lv_at hl 0 rfl) ?_
  refine lv_tableIn (tgt := 56) (off := 55) C.1 C.2.1 dX4_slipOf_1 (by decide) (by decide) (by decide) (by decide) ?_
  refine lv_iload_n C.1 C.2.1 dX4_slipOf_56 rfl (lv_at hl 2 rfl) ?_
  exact r_iret C w hlocks () hr rfl rfl trivial [] rfl rfl ⟨Nat.le_of_ble_eq_true rfl, Nat.le_of_ble_eq_true rfl⟩ dX4_slipOf_57
set_option maxRecDepth 100000 in
set_option maxHeartbeats 4000000 in
theorem lp_X4_learn_2 {p : Program} {l : Launch} {e : Env} {R : Room} {s : State} {m : MethodId} {args : Array Value} {below : List Frame} {meth : Method} {c : Code} {cells slots : Nat} {Q : State → Prop} {D : va_G} {cy : Nat → ClassId} {A : Nat → Prop} {H : Heap} {locs : List Loc} {ls : Array Slot} (a0 a1 a2 a3 a4 a5 a6 a7 a8 a9 a10 a11 a12 n1 : Nat) (C : Cx p s m args c cX4_learn RX4 D cy A) (hml : c.maxLocals = 6) (hfr : 1 ≤ R.frames) (hlo : 30 ≤ R.locals) (hcs : cells ≤ R.cells ∧ slots ≤ R.slots) (w : Wd D A s.heap [(a0, .inr (4, [.ref a1, .ref a2, .int 0, .ref a3])), (a1, .inl (cy 5, 9, .inr (.inr (.inr (.inr (va_up (va_up (va_up (va_up (va_up (va_up (va_up (va_up (va_up (va_up (fun _ => none) 0 (some a4)) 1 (some a5)) 2 (some a6)) 3 (some a7)) 4 (some a8)) 5 (some a9)) 6 (some a10)) 7 (some a11)) 8 (some a12)) 2 (some n1))))))), (a6, .inl (cy 1, 0, .inl (fun _ => 0))), (n1, .inl (cy 1, 1830, .inl (fun _ => 0)))] H locs) (hl : lv_has ls 6 [(0, .ref a0), (1, .int 2), (2, .ref n1), (3, .int 0), (4, .int 1)])
    (kk : ∀ (H : Heap) (locs : List Loc) (ls : Array Slot), Wd D A s.heap [(a0, .inr (4, [.ref a1, .ref a2, .int 0, .ref a3])), (a1, .inl (cy 5, 9, .inr (.inr (.inr (.inr (va_up (va_up (va_up (va_up (va_up (va_up (va_up (va_up (va_up (va_up (fun _ => none) 0 (some a4)) 1 (some a5)) 2 (some a6)) 3 (some a7)) 4 (some a8)) 5 (some a9)) 6 (some a10)) 7 (some a11)) 8 (some a12)) 2 (some n1))))))), (a6, .inl (cy 1, 0, .inl (fun _ => 0))), (n1, .inl (cy 1, 1830, .inl (learnF 2 1830)))] H locs → lv_has ls 6 [(0, .ref a0), (1, .int 2), (2, .ref n1)] → W p l e R s m args below meth c H locs cells slots Q (F0 m 83 ls [])) : W p l e R s m args below meth c H locs cells slots Q (F0 m 32 ls []) := by
  have inner : ∀ (k xn yn : Nat) (x y pr : Int32) (H : Heap) (locs : List Loc) (ls : Array Slot), 1 ≤ xn → xn ≤ 60 → xn ≤ yn → yn + k = 61 → x = nI xn → y = nI yn → pr = nI (PP 60 1 (xn - 1) + (yn - xn)) → Wd D A s.heap [(a0, .inr (4, [.ref a1, .ref a2, .int 0, .ref a3])), (a1, .inl (cy 5, 9, .inr (.inr (.inr (.inr (va_up (va_up (va_up (va_up (va_up (va_up (va_up (va_up (va_up (va_up (fun _ => none) 0 (some a4)) 1 (some a5)) 2 (some a6)) 3 (some a7)) 4 (some a8)) 5 (some a9)) 6 (some a10)) 7 (some a11)) 8 (some a12)) 2 (some n1))))))), (a6, .inl (cy 1, 0, .inl (fun _ => 0))), (n1, .inl (cy 1, 1830, .inl (learnF 2 (PP 60 1 (xn - 1) + (yn - xn)))))] H locs → lv_has ls 6 [(0, .ref a0), (1, .int 2), (2, .ref n1), (3, .int pr), (4, .int x), (5, .int y)] →
      (∀ (H : Heap) (locs : List Loc) (ls : Array Slot) (pr1 y1 : Int32), pr1 = nI (PP 60 1 xn) → Wd D A s.heap [(a0, .inr (4, [.ref a1, .ref a2, .int 0, .ref a3])), (a1, .inl (cy 5, 9, .inr (.inr (.inr (.inr (va_up (va_up (va_up (va_up (va_up (va_up (va_up (va_up (va_up (va_up (fun _ => none) 0 (some a4)) 1 (some a5)) 2 (some a6)) 3 (some a7)) 4 (some a8)) 5 (some a9)) 6 (some a10)) 7 (some a11)) 8 (some a12)) 2 (some n1))))))), (a6, .inl (cy 1, 0, .inl (fun _ => 0))), (n1, .inl (cy 1, 1830, .inl (learnF 2 (PP 60 1 xn))))] H locs → lv_has ls 6 [(0, .ref a0), (1, .int 2), (2, .ref n1), (3, .int pr1), (4, .int x), (5, .int y1)] → W p l e R s m args below meth c H locs cells slots Q (F0 m 77 ls [])) → W p l e R s m args below meth c H locs cells slots Q (F0 m 43 ls []) := by
    intro k
    induction k with
    | zero =>
      intro xn yn x y pr H locs ls h1 h2 h3 h4 ex ey ep w hl kk
      have hy : yn = 61 := by omega
      have c1 : (60 : Int32) < y := by rw [ey, hy]; decide
      refine lv_iload C.1 C.2.1 dX4_learn_43 (lv_at hl 5 rfl) ?_
      refine lv_bipush (v := 60) C.1 C.2.1 dX4_learn_45 (by decide) ?_
      refine b_icmp_gt_t C (tgt := 77) dX4_learn_47 (by decide) c1 ?_
      have eN : PP 60 1 (xn - 1) + (yn - xn) = PP 60 1 xn := by
        have := PP_succ 60 (xn - 1) 1
        have e1 : xn - 1 + 1 = xn := by omega
        have e2 : 1 + (xn - 1) = xn := by omega
        rw [e1, e2] at this
        omega
      exact kk _ _ _ pr y (by rw [ep, eN]) (by rw [← eN]; exact w) hl
    | succ k ih =>
      intro xn yn x y pr H locs ls h1 h2 h3 h4 ex ey ep w hl kk
      have hb := PP_lt (a := 1) (b := 60) h1 h3 (by omega)
      rw [show 60 + 1 - 1 = 60 from rfl, PP_tot] at hb
      have c1 : ¬ (60 : Int32) < y := by rw [ey]; exact nI_nlt (a := 60) (by omega) (by omega)
      have c2 : ¬ (1830 : Int32) ≤ pr := by rw [ep]; exact nI_ge hb (by decide)
      have hin : vp_in pr 1830 := by rw [ep]; exact vp_in_nI hb (by decide)
      have hst : upd (learnF 2 (PP 60 1 (xn - 1) + (yn - xn))) pr.toNatClampNeg y = learnF 2 (PP 60 1 (xn - 1) + (yn - xn) + 1) := by
        rw [ep]
        refine learnF_step (by omega) ?_
        rw [pxy_at h1 h3 (by omega)]
        first | rw [ex, ey] | rw [ey] | rw [ex]
        exact rfl
      refine lv_iload C.1 C.2.1 dX4_learn_43 (lv_at hl 5 rfl) ?_
      refine lv_bipush (v := 60) C.1 C.2.1 dX4_learn_45 (by decide) ?_
      refine b_icmp_gt_f C (tgt := 77) dX4_learn_47 (by decide) c1 ?_
      refine lv_iload_n C.1 C.2.1 dX4_learn_50 rfl (lv_at hl 3 rfl) ?_
      refine lv_sipush (v := 1830) C.1 C.2.1 dX4_learn_51 (by decide) ?_
      refine b_icmp_ge_f C (tgt := 77) dX4_learn_54 (by decide) c2 ?_
      refine lv_aload_n C.1 C.2.1 dX4_learn_57 rfl (lv_at hl 2 rfl) ?_
      refine lv_iload_n C.1 C.2.1 dX4_learn_58 rfl (lv_at hl 3 rfl) ?_
      refine lv_iinc (v := (pr + 1)) (lv' := [(3, .int (pr + 1)), (0, .ref a0), (1, .int 2), (2, .ref n1), (4, .int x), (5, .int y)]) C.1 C.2.1 dX4_learn_59 hl (k := 3) rfl rfl (by decide) rfl (fun ls hl => ?_)
      refine lv_iload_n C.1 C.2.1 dX4_learn_62 rfl (lv_at hl 2 rfl) ?_
      refine lv_iload C.1 C.2.1 dX4_learn_63 (lv_at hl 4 rfl) ?_
      refine lv_iload C.1 C.2.1 dX4_learn_65 (lv_at hl 5 rfl) ?_
      refine r_callS C w fs_RX4_54 (c_X4_slipOf_1 l D cy x y) (hl.1.trans hml.symm) [] [0, 1, 2, 3] (wr := [(a0, .inr (4, [.ref a1, .ref a2, .int 0, .ref a3])), (a1, .inl (cy 5, 9, .inr (.inr (.inr (.inr (va_up (va_up (va_up (va_up (va_up (va_up (va_up (va_up (va_up (va_up (fun _ => none) 0 (some a4)) 1 (some a5)) 2 (some a6)) 3 (some a7)) 4 (some a8)) 5 (some a9)) 6 (some a10)) 7 (some a11)) 8 (some a12)) 2 (some n1))))))), (a6, .inl (cy 1, 0, .inl (fun _ => 0))), (n1, .inl (cy 1, 1830, .inl (learnF 2 (PP 60 1 (xn - 1) + (yn - xn)))))]) ⟨rfl, rfl, rfl, rfl, by decide⟩ rfl rfl ⟨by omega, by omega, Nat.le_of_ble_eq_true rfl⟩ cells slots ⟨rfl, rfl, hcs.1, hcs.2⟩ dX4_learn_67 (fun u H locs hp w => ?_)
      have w : Wd D A s.heap [(a0, .inr (4, [.ref a1, .ref a2, .int 0, .ref a3])), (a1, .inl (cy 5, 9, .inr (.inr (.inr (.inr (va_up (va_up (va_up (va_up (va_up (va_up (va_up (va_up (va_up (va_up (fun _ => none) 0 (some a4)) 1 (some a5)) 2 (some a6)) 3 (some a7)) 4 (some a8)) 5 (some a9)) 6 (some a10)) 7 (some a11)) 8 (some a12)) 2 (some n1))))))), (a6, .inl (cy 1, 0, .inl (fun _ => 0))), (n1, .inl (cy 1, 1830, .inl (learnF 2 (PP 60 1 (xn - 1) + (yn - xn)))))] _ _ := w
      refine r_top (g2 := F0 m 70 ls [.int y, .int pr, .ref n1]) rfl ?_
      refine r_iast C w 3 rfl hin (learnF 2 (PP 60 1 (xn - 1) + (yn - xn) + 1)) hst [(a0, .inr (4, [.ref a1, .ref a2, .int 0, .ref a3])), (a1, .inl (cy 5, 9, .inr (.inr (.inr (.inr (va_up (va_up (va_up (va_up (va_up (va_up (va_up (va_up (va_up (va_up (fun _ => none) 0 (some a4)) 1 (some a5)) 2 (some a6)) 3 (some a7)) 4 (some a8)) 5 (some a9)) 6 (some a10)) 7 (some a11)) 8 (some a12)) 2 (some n1))))))), (a6, .inl (cy 1, 0, .inl (fun _ => 0))), (n1, .inl (cy 1, 1830, .inl (learnF 2 (PP 60 1 (xn - 1) + (yn - xn) + 1))))] rfl dX4_learn_70 (fun H locs w => ?_)
      refine lv_iinc (v := (y + 1)) (lv' := [(5, .int (y + 1)), (3, .int (pr + 1)), (0, .ref a0), (1, .int 2), (2, .ref n1), (4, .int x)]) C.1 C.2.1 dX4_learn_71 hl (k := 5) rfl rfl (by decide) rfl (fun ls hl => ?_)
      refine lv_goto (tgt := 43) C.1 C.2.1 dX4_learn_74 (by decide) ?_
      have eN : PP 60 1 (xn - 1) + (yn + 1 - xn) = PP 60 1 (xn - 1) + (yn - xn) + 1 := by omega
      exact ih xn (yn + 1) x (y + 1) (pr + 1) _ _ _ h1 h2 (by omega) (by omega) ex (by rw [ey]; exact nI_1 _) (by rw [ep, eN]; exact nI_1 _) (by rw [eN]; exact w) (lv_sub hl [2, 3, 4, 1, 5, 0] rfl) kk
  have outer : ∀ (k xn : Nat) (x pr : Int32) (H : Heap) (locs : List Loc) (ls : Array Slot), 1 ≤ xn → xn + k = 61 → x = nI xn → pr = nI (PP 60 1 (xn - 1)) → Wd D A s.heap [(a0, .inr (4, [.ref a1, .ref a2, .int 0, .ref a3])), (a1, .inl (cy 5, 9, .inr (.inr (.inr (.inr (va_up (va_up (va_up (va_up (va_up (va_up (va_up (va_up (va_up (va_up (fun _ => none) 0 (some a4)) 1 (some a5)) 2 (some a6)) 3 (some a7)) 4 (some a8)) 5 (some a9)) 6 (some a10)) 7 (some a11)) 8 (some a12)) 2 (some n1))))))), (a6, .inl (cy 1, 0, .inl (fun _ => 0))), (n1, .inl (cy 1, 1830, .inl (learnF 2 (PP 60 1 (xn - 1)))))] H locs → lv_has ls 6 [(0, .ref a0), (1, .int 2), (2, .ref n1), (3, .int pr), (4, .int x)] → W p l e R s m args below meth c H locs cells slots Q (F0 m 32 ls []) := by
    intro k
    induction k with
    | zero =>
      intro xn x pr H locs ls h1 h4 ex ep w hl
      have hx : xn = 61 := by omega
      subst hx
      have c1 : (60 : Int32) < x := by rw [ex]; decide
      refine lv_iload C.1 C.2.1 dX4_learn_32 (lv_at hl 4 rfl) ?_
      refine lv_bipush (v := 60) C.1 C.2.1 dX4_learn_34 (by decide) ?_
      refine b_icmp_gt_t C (tgt := 83) dX4_learn_36 (by decide) c1 ?_
      have e6 : PP 60 1 (61 - 1) = 1830 := PP_tot
      rw [e6] at w
      exact kk _ _ _ w (lv_sub hl [0, 1, 2] rfl)
    | succ k ih =>
      intro xn x pr H locs ls h1 h4 ex ep w hl
      have c1 : ¬ (60 : Int32) < x := by rw [ex]; exact nI_nlt (a := 60) (by omega) (by omega)
      refine lv_iload C.1 C.2.1 dX4_learn_32 (lv_at hl 4 rfl) ?_
      refine lv_bipush (v := 60) C.1 C.2.1 dX4_learn_34 (by decide) ?_
      refine b_icmp_gt_f C (tgt := 83) dX4_learn_36 (by decide) c1 ?_
      refine lv_iload C.1 C.2.1 dX4_learn_39 (lv_at hl 4 rfl) ?_
      refine lv_istore (lv' := [(5, .int x), (0, .ref a0), (1, .int 2), (2, .ref n1), (3, .int pr), (4, .int x)]) C.1 C.2.1 dX4_learn_41 hl (by decide) rfl (fun ls hl => ?_)
      have eN : PP 60 1 (xn - 1) + (xn - xn) = PP 60 1 (xn - 1) := by omega
      refine inner (61 - xn) xn xn x x pr _ _ _ h1 (by omega) (Nat.le_refl _) (by omega) ex ex (by rw [ep, eN]) (by rw [eN]; exact w) (lv_sub hl [1, 2, 3, 4, 5, 0] rfl) (fun H locs ls pr1 y1 ep1 w hl => ?_)
      refine lv_iinc (v := (x + 1)) (lv' := [(4, .int (x + 1)), (0, .ref a0), (1, .int 2), (2, .ref n1), (3, .int pr1), (5, .int y1)]) C.1 C.2.1 dX4_learn_77 hl (k := 4) rfl rfl (by decide) rfl (fun ls hl => ?_)
      refine lv_goto (tgt := 32) C.1 C.2.1 dX4_learn_80 (by decide) ?_
      exact ih (xn + 1) (x + 1) pr1 _ _ _ (by omega) (by omega) (by rw [ex]; exact nI_1 _) (by rw [ep1]; rfl) (by exact w) (lv_sub hl [1, 2, 3, 4, 0] rfl)
  refine outer 60 1 1 0 _ _ _ (Nat.le_refl _) rfl rfl rfl ?_ hl
  have e0 : learnF 2 (PP 60 1 (1 - 1)) = fun _ => 0 := learnF_0 2
  rw [e0]
  exact w
set_option maxRecDepth 100000 in
set_option maxHeartbeats 4000000 in
theorem c_X4_learn_1 (l : Launch) (D : va_G) (cy : Nat → ClassId) (a0 a1 a2 a3 a4 a5 a6 a7 a8 a9 a10 a11 a12 : Nat) : Ct l D cy yX4_learn cX4_learn 6 none 1 30 1 1830 [(a0, .inr (4, [.ref a1, .ref a2, .int 0, .ref a3])), (a1, .inl (cy 5, 9, .inr (.inr (.inr (.inr (va_up (va_up (va_up (va_up (va_up (va_up (va_up (va_up (va_up (fun _ => none) 0 (some a4)) 1 (some a5)) 2 (some a6)) 3 (some a7)) 4 (some a8)) 5 (some a9)) 6 (some a10)) 7 (some a11)) 8 (some a12))))))), (a6, .inl (cy 1, 0, .inl (fun _ => 0)))] [.ref a0, .int 2] (fun u : Nat => none) (fun _ => True) (fun u : Nat => [(a0, .inr (4, [.ref a1, .ref a2, .int 0, .ref a3])), (a1, .inl (cy 5, 9, .inr (.inr (.inr (.inr (va_up (va_up (va_up (va_up (va_up (va_up (va_up (va_up (va_up (va_up (fun _ => none) 0 (some a4)) 1 (some a5)) 2 (some a6)) 3 (some a7)) 4 (some a8)) 5 (some a9)) 6 (some a10)) 7 (some a11)) 8 (some a12)) 2 (some u))))))), (a6, .inl (cy 1, 0, .inl (fun _ => 0))), (u, .inl (cy 1, 1830, .inl (learnF 2 1830)))]) := by
  refine Ct.of (by decide +kernel) (Nat.le_of_ble_eq_true rfl) ?_
  intro p e s m args below meth c A ls C hr hlocks hml hnm w hl
  have hl : lv_has ls 6 [(0, .ref a0), (1, .int 2)] := hl
  refine lv_aload_n C.1 C.2.1 dX4_learn_0 rfl (lv_at hl 0 rfl) ?_
  refine r_get C w 0 rfl rfl 0 (by decide) fl_RX4_13 (v := .ref a1) rfl dX4_learn_1 ?_
  refine lv_iload_n C.1 C.2.1 dX4_learn_4 rfl (lv_at hl 1 rfl) ?_
  refine r_aald C w 1 5 rfl rfl rfl (v := .ref a6) (vinD (by decide)) rfl dX4_learn_5 ?_
  refine r_alen C w 2 1 rfl rfl (v := 0) rfl dX4_learn_6 ?_
  refine lv_sipush (v := 1830) C.1 C.2.1 dX4_learn_7 (by decide) ?_
  refine b_icmp_ne_t C (tgt := 14) dX4_learn_10 (by decide) (by decide) ?_
  refine lv_sipush (v := 1830) C.1 C.2.1 dX4_learn_14 (by decide) ?_
  refine r_newa_int C w 1830 ac_int (by decide) (by decide) (by decide) 1 1830 rfl rfl ⟨Nat.le_of_ble_eq_true rfl, Nat.le_of_ble_eq_true rfl⟩ dX4_learn_17 (fun n1 H w => ?_)
  have w : Wd D A s.heap [(a0, .inr (4, [.ref a1, .ref a2, .int 0, .ref a3])), (a1, .inl (cy 5, 9, .inr (.inr (.inr (.inr (va_up (va_up (va_up (va_up (va_up (va_up (va_up (va_up (va_up (fun _ => none) 0 (some a4)) 1 (some a5)) 2 (some a6)) 3 (some a7)) 4 (some a8)) 5 (some a9)) 6 (some a10)) 7 (some a11)) 8 (some a12))))))), (a6, .inl (cy 1, 0, .inl (fun _ => 0))), (n1, .inl (cy 1, 1830, .inl (fun _ => 0)))] _ _ := w
  refine lv_astore_n (lv' := [(2, .ref n1), (0, .ref a0), (1, .int 2)]) C.1 C.2.1 dX4_learn_19 rfl hl (by decide) rfl (fun ls hl => ?_)
  refine lv_aload_n C.1 C.2.1 dX4_learn_20 rfl (lv_at hl 1 rfl) ?_
  refine r_get C w 0 rfl rfl 0 (by decide) fl_RX4_13 (v := .ref a1) rfl dX4_learn_21 ?_
  refine lv_iload_n C.1 C.2.1 dX4_learn_24 rfl (lv_at hl 2 rfl) ?_
  refine lv_aload_n C.1 C.2.1 dX4_learn_25 rfl (lv_at hl 0 rfl) ?_
  refine r_aastI C w 1 3 rfl rfl (vinD (by decide)) (va_up (va_up (va_up (va_up (va_up (va_up (va_up (va_up (va_up (va_up (fun _ => none) 0 (some a4)) 1 (some a5)) 2 (some a6)) 3 (some a7)) 4 (some a8)) 5 (some a9)) 6 (some a10)) 7 (some a11)) 8 (some a12)) 2 (some n1)) rfl [(a0, .inr (4, [.ref a1, .ref a2, .int 0, .ref a3])), (a1, .inl (cy 5, 9, .inr (.inr (.inr (.inr (va_up (va_up (va_up (va_up (va_up (va_up (va_up (va_up (va_up (va_up (fun _ => none) 0 (some a4)) 1 (some a5)) 2 (some a6)) 3 (some a7)) 4 (some a8)) 5 (some a9)) 6 (some a10)) 7 (some a11)) 8 (some a12)) 2 (some n1))))))), (a6, .inl (cy 1, 0, .inl (fun _ => 0))), (n1, .inl (cy 1, 1830, .inl (fun _ => 0)))] rfl dX4_learn_26 (fun H locs w => ?_)
  refine lv_iconst (v := 0) C.1 C.2.1 dX4_learn_27 (by decide) ?_
  refine lv_istore_n (lv' := [(3, .int 0), (2, .ref n1), (0, .ref a0), (1, .int 2)]) C.1 C.2.1 dX4_learn_28 rfl hl (by decide) rfl (fun ls hl => ?_)
  refine lv_iconst (v := 1) C.1 C.2.1 dX4_learn_29 (by decide) ?_
  refine lv_istore (lv' := [(4, .int 1), (3, .int 0), (2, .ref n1), (0, .ref a0), (1, .int 2)]) C.1 C.2.1 dX4_learn_30 hl (by decide) rfl (fun ls hl => ?_)
  refine lp_X4_learn_2 a0 a1 a2 a3 a4 a5 a6 a7 a8 a9 a10 a11 a12 n1 C hml (Nat.le_of_ble_eq_true rfl) (Nat.le_of_ble_eq_true rfl) ⟨Nat.le_of_ble_eq_true rfl, Nat.le_of_ble_eq_true rfl⟩ (w.re rfl) (lv_sub hl [3, 4, 2, 1, 0] rfl) (fun H locs ls w hl => ?_)
  have w : Wd D A s.heap [(a0, .inr (4, [.ref a1, .ref a2, .int 0, .ref a3])), (a1, .inl (cy 5, 9, .inr (.inr (.inr (.inr (va_up (va_up (va_up (va_up (va_up (va_up (va_up (va_up (va_up (va_up (fun _ => none) 0 (some a4)) 1 (some a5)) 2 (some a6)) 3 (some a7)) 4 (some a8)) 5 (some a9)) 6 (some a10)) 7 (some a11)) 8 (some a12)) 2 (some n1))))))), (a6, .inl (cy 1, 0, .inl (fun _ => 0))), (n1, .inl (cy 1, 1830, .inl (learnF 2 1830)))] _ _ := w
  exact r_vret C w hlocks n1 hr rfl trivial [0, 1, 2, 3] rfl rfl ⟨Nat.le_of_ble_eq_true rfl, Nat.le_of_ble_eq_true rfl⟩ dX4_learn_83
theorem dX4_slipOf_58 : decode cX4_slipOf 58 = .ok (.iload_n 1, 1) := by decide +kernel
theorem dX4_slipOf_59 : decode cX4_slipOf 59 = .ok (.ireturn, 1) := by decide +kernel
set_option maxRecDepth 100000 in
set_option maxHeartbeats 4000000 in
theorem c_X4_slipOf_2 (l : Launch) (D : va_G) (cy : Nat → ClassId) (x0 : Int32) (x1 : Int32) : Ct l D cy yX4_slipOf cX4_slipOf 3 (some .int) 0 0 0 0 [] [.int 3, .int x0, .int x1] (fun u : Unit => some (.int x0)) (fun _ => True) (fun u : Unit => []) := by
  refine Ct.of (by decide +kernel) (Nat.le_of_ble_eq_true rfl) ?_
  intro p e s m args below meth c A ls C hr hlocks hml hnm w hl
  have hl : lv_has ls 3 [(0, .int 3), (1, .int x0), (2, .int x1)] := hl
  refine lv_iload_n C.1 C.2.1 dX4_slipOf_0 rfl (lv_at hl 0 rfl) ?_
  refine lv_tableIn (tgt := 58) (off := 57) C.1 C.2.1 dX4_slipOf_1 (by decide) (by decide) (by decide) (by decide) ?_
  refine lv_iload_n C.1 C.2.1 dX4_slipOf_58 rfl (lv_at hl 1 rfl) ?_
  exact r_iret C w hlocks () hr rfl rfl trivial [] rfl rfl ⟨Nat.le_of_ble_eq_true rfl, Nat.le_of_ble_eq_true rfl⟩ dX4_slipOf_59
set_option maxRecDepth 100000 in
set_option maxHeartbeats 4000000 in
theorem lp_X4_learn_3 {p : Program} {l : Launch} {e : Env} {R : Room} {s : State} {m : MethodId} {args : Array Value} {below : List Frame} {meth : Method} {c : Code} {cells slots : Nat} {Q : State → Prop} {D : va_G} {cy : Nat → ClassId} {A : Nat → Prop} {H : Heap} {locs : List Loc} {ls : Array Slot} (a0 a1 a2 a3 a4 a5 a6 a7 a8 a9 a10 a11 a12 n1 : Nat) (C : Cx p s m args c cX4_learn RX4 D cy A) (hml : c.maxLocals = 6) (hfr : 1 ≤ R.frames) (hlo : 30 ≤ R.locals) (hcs : cells ≤ R.cells ∧ slots ≤ R.slots) (w : Wd D A s.heap [(a0, .inr (4, [.ref a1, .ref a2, .int 0, .ref a3])), (a1, .inl (cy 5, 9, .inr (.inr (.inr (.inr (va_up (va_up (va_up (va_up (va_up (va_up (va_up (va_up (va_up (va_up (fun _ => none) 0 (some a4)) 1 (some a5)) 2 (some a6)) 3 (some a7)) 4 (some a8)) 5 (some a9)) 6 (some a10)) 7 (some a11)) 8 (some a12)) 3 (some n1))))))), (a7, .inl (cy 1, 0, .inl (fun _ => 0))), (n1, .inl (cy 1, 1830, .inl (fun _ => 0)))] H locs) (hl : lv_has ls 6 [(0, .ref a0), (1, .int 3), (2, .ref n1), (3, .int 0), (4, .int 1)])
    (kk : ∀ (H : Heap) (locs : List Loc) (ls : Array Slot), Wd D A s.heap [(a0, .inr (4, [.ref a1, .ref a2, .int 0, .ref a3])), (a1, .inl (cy 5, 9, .inr (.inr (.inr (.inr (va_up (va_up (va_up (va_up (va_up (va_up (va_up (va_up (va_up (va_up (fun _ => none) 0 (some a4)) 1 (some a5)) 2 (some a6)) 3 (some a7)) 4 (some a8)) 5 (some a9)) 6 (some a10)) 7 (some a11)) 8 (some a12)) 3 (some n1))))))), (a7, .inl (cy 1, 0, .inl (fun _ => 0))), (n1, .inl (cy 1, 1830, .inl (learnF 3 1830)))] H locs → lv_has ls 6 [(0, .ref a0), (1, .int 3), (2, .ref n1)] → W p l e R s m args below meth c H locs cells slots Q (F0 m 83 ls [])) : W p l e R s m args below meth c H locs cells slots Q (F0 m 32 ls []) := by
  have inner : ∀ (k xn yn : Nat) (x y pr : Int32) (H : Heap) (locs : List Loc) (ls : Array Slot), 1 ≤ xn → xn ≤ 60 → xn ≤ yn → yn + k = 61 → x = nI xn → y = nI yn → pr = nI (PP 60 1 (xn - 1) + (yn - xn)) → Wd D A s.heap [(a0, .inr (4, [.ref a1, .ref a2, .int 0, .ref a3])), (a1, .inl (cy 5, 9, .inr (.inr (.inr (.inr (va_up (va_up (va_up (va_up (va_up (va_up (va_up (va_up (va_up (va_up (fun _ => none) 0 (some a4)) 1 (some a5)) 2 (some a6)) 3 (some a7)) 4 (some a8)) 5 (some a9)) 6 (some a10)) 7 (some a11)) 8 (some a12)) 3 (some n1))))))), (a7, .inl (cy 1, 0, .inl (fun _ => 0))), (n1, .inl (cy 1, 1830, .inl (learnF 3 (PP 60 1 (xn - 1) + (yn - xn)))))] H locs → lv_has ls 6 [(0, .ref a0), (1, .int 3), (2, .ref n1), (3, .int pr), (4, .int x), (5, .int y)] →
      (∀ (H : Heap) (locs : List Loc) (ls : Array Slot) (pr1 y1 : Int32), pr1 = nI (PP 60 1 xn) → Wd D A s.heap [(a0, .inr (4, [.ref a1, .ref a2, .int 0, .ref a3])), (a1, .inl (cy 5, 9, .inr (.inr (.inr (.inr (va_up (va_up (va_up (va_up (va_up (va_up (va_up (va_up (va_up (va_up (fun _ => none) 0 (some a4)) 1 (some a5)) 2 (some a6)) 3 (some a7)) 4 (some a8)) 5 (some a9)) 6 (some a10)) 7 (some a11)) 8 (some a12)) 3 (some n1))))))), (a7, .inl (cy 1, 0, .inl (fun _ => 0))), (n1, .inl (cy 1, 1830, .inl (learnF 3 (PP 60 1 xn))))] H locs → lv_has ls 6 [(0, .ref a0), (1, .int 3), (2, .ref n1), (3, .int pr1), (4, .int x), (5, .int y1)] → W p l e R s m args below meth c H locs cells slots Q (F0 m 77 ls [])) → W p l e R s m args below meth c H locs cells slots Q (F0 m 43 ls []) := by
    intro k
    induction k with
    | zero =>
      intro xn yn x y pr H locs ls h1 h2 h3 h4 ex ey ep w hl kk
      have hy : yn = 61 := by omega
      have c1 : (60 : Int32) < y := by rw [ey, hy]; decide
      refine lv_iload C.1 C.2.1 dX4_learn_43 (lv_at hl 5 rfl) ?_
      refine lv_bipush (v := 60) C.1 C.2.1 dX4_learn_45 (by decide) ?_
      refine b_icmp_gt_t C (tgt := 77) dX4_learn_47 (by decide) c1 ?_
      have eN : PP 60 1 (xn - 1) + (yn - xn) = PP 60 1 xn := by
        have := PP_succ 60 (xn - 1) 1
        have e1 : xn - 1 + 1 = xn := by omega
        have e2 : 1 + (xn - 1) = xn := by omega
        rw [e1, e2] at this
        omega
      exact kk _ _ _ pr y (by rw [ep, eN]) (by rw [← eN]; exact w) hl
    | succ k ih =>
      intro xn yn x y pr H locs ls h1 h2 h3 h4 ex ey ep w hl kk
      have hb := PP_lt (a := 1) (b := 60) h1 h3 (by omega)
      rw [show 60 + 1 - 1 = 60 from rfl, PP_tot] at hb
      have c1 : ¬ (60 : Int32) < y := by rw [ey]; exact nI_nlt (a := 60) (by omega) (by omega)
      have c2 : ¬ (1830 : Int32) ≤ pr := by rw [ep]; exact nI_ge hb (by decide)
      have hin : vp_in pr 1830 := by rw [ep]; exact vp_in_nI hb (by decide)
      have hst : upd (learnF 3 (PP 60 1 (xn - 1) + (yn - xn))) pr.toNatClampNeg x = learnF 3 (PP 60 1 (xn - 1) + (yn - xn) + 1) := by
        rw [ep]
        refine learnF_step (by omega) ?_
        rw [pxy_at h1 h3 (by omega)]
        first | rw [ex, ey] | rw [ey] | rw [ex]
        exact rfl
      refine lv_iload C.1 C.2.1 dX4_learn_43 (lv_at hl 5 rfl) ?_
      refine lv_bipush (v := 60) C.1 C.2.1 dX4_learn_45 (by decide) ?_
      refine b_icmp_gt_f C (tgt := 77) dX4_learn_47 (by decide) c1 ?_
      refine lv_iload_n C.1 C.2.1 dX4_learn_50 rfl (lv_at hl 3 rfl) ?_
      refine lv_sipush (v := 1830) C.1 C.2.1 dX4_learn_51 (by decide) ?_
      refine b_icmp_ge_f C (tgt := 77) dX4_learn_54 (by decide) c2 ?_
      refine lv_aload_n C.1 C.2.1 dX4_learn_57 rfl (lv_at hl 2 rfl) ?_
      refine lv_iload_n C.1 C.2.1 dX4_learn_58 rfl (lv_at hl 3 rfl) ?_
      refine lv_iinc (v := (pr + 1)) (lv' := [(3, .int (pr + 1)), (0, .ref a0), (1, .int 3), (2, .ref n1), (4, .int x), (5, .int y)]) C.1 C.2.1 dX4_learn_59 hl (k := 3) rfl rfl (by decide) rfl (fun ls hl => ?_)
      refine lv_iload_n C.1 C.2.1 dX4_learn_62 rfl (lv_at hl 2 rfl) ?_
      refine lv_iload C.1 C.2.1 dX4_learn_63 (lv_at hl 4 rfl) ?_
      refine lv_iload C.1 C.2.1 dX4_learn_65 (lv_at hl 5 rfl) ?_
      refine r_callS C w fs_RX4_54 (c_X4_slipOf_2 l D cy x y) (hl.1.trans hml.symm) [] [0, 1, 2, 3] (wr := [(a0, .inr (4, [.ref a1, .ref a2, .int 0, .ref a3])), (a1, .inl (cy 5, 9, .inr (.inr (.inr (.inr (va_up (va_up (va_up (va_up (va_up (va_up (va_up (va_up (va_up (va_up (fun _ => none) 0 (some a4)) 1 (some a5)) 2 (some a6)) 3 (some a7)) 4 (some a8)) 5 (some a9)) 6 (some a10)) 7 (some a11)) 8 (some a12)) 3 (some n1))))))), (a7, .inl (cy 1, 0, .inl (fun _ => 0))), (n1, .inl (cy 1, 1830, .inl (learnF 3 (PP 60 1 (xn - 1) + (yn - xn)))))]) ⟨rfl, rfl, rfl, rfl, by decide⟩ rfl rfl ⟨by omega, by omega, Nat.le_of_ble_eq_true rfl⟩ cells slots ⟨rfl, rfl, hcs.1, hcs.2⟩ dX4_learn_67 (fun u H locs hp w => ?_)
      have w : Wd D A s.heap [(a0, .inr (4, [.ref a1, .ref a2, .int 0, .ref a3])), (a1, .inl (cy 5, 9, .inr (.inr (.inr (.inr (va_up (va_up (va_up (va_up (va_up (va_up (va_up (va_up (va_up (va_up (fun _ => none) 0 (some a4)) 1 (some a5)) 2 (some a6)) 3 (some a7)) 4 (some a8)) 5 (some a9)) 6 (some a10)) 7 (some a11)) 8 (some a12)) 3 (some n1))))))), (a7, .inl (cy 1, 0, .inl (fun _ => 0))), (n1, .inl (cy 1, 1830, .inl (learnF 3 (PP 60 1 (xn - 1) + (yn - xn)))))] _ _ := w
      refine r_top (g2 := F0 m 70 ls [.int x, .int pr, .ref n1]) rfl ?_
      refine r_iast C w 3 rfl hin (learnF 3 (PP 60 1 (xn - 1) + (yn - xn) + 1)) hst [(a0, .inr (4, [.ref a1, .ref a2, .int 0, .ref a3])), (a1, .inl (cy 5, 9, .inr (.inr (.inr (.inr (va_up (va_up (va_up (va_up (va_up (va_up (va_up (va_up (va_up (va_up (fun _ => none) 0 (some a4)) 1 (some a5)) 2 (some a6)) 3 (some a7)) 4 (some a8)) 5 (some a9)) 6 (some a10)) 7 (some a11)) 8 (some a12)) 3 (some n1))))))), (a7, .inl (cy 1, 0, .inl (fun _ => 0))), (n1, .inl (cy 1, 1830, .inl (learnF 3 (PP 60 1 (xn - 1) + (yn - xn) + 1))))] rfl dX4_learn_70 (fun H locs w => ?_)
      refine lv_iinc (v := (y + 1)) (lv' := [(5, .int (y + 1)), (3, .int (pr + 1)), (0, .ref a0), (1, .int 3), (2, .ref n1), (4, .int x)]) C.1 C.2.1 dX4_learn_71 hl (k := 5) rfl rfl (by decide) rfl (fun ls hl => ?_)
      refine lv_goto (tgt := 43) C.1 C.2.1 dX4_learn_74 (by decide) ?_
      have eN : PP 60 1 (xn - 1) + (yn + 1 - xn) = PP 60 1 (xn - 1) + (yn - xn) + 1 := by omega
      exact ih xn (yn + 1) x (y + 1) (pr + 1) _ _ _ h1 h2 (by omega) (by omega) ex (by rw [ey]; exact nI_1 _) (by rw [ep, eN]; exact nI_1 _) (by rw [eN]; exact w) (lv_sub hl [2, 3, 4, 1, 5, 0] rfl) kk
  have outer : ∀ (k xn : Nat) (x pr : Int32) (H : Heap) (locs : List Loc) (ls : Array Slot), 1 ≤ xn → xn + k = 61 → x = nI xn → pr = nI (PP 60 1 (xn - 1)) → Wd D A s.heap [(a0, .inr (4, [.ref a1, .ref a2, .int 0, .ref a3])), (a1, .inl (cy 5, 9, .inr (.inr (.inr (.inr (va_up (va_up (va_up (va_up (va_up (va_up (va_up (va_up (va_up (va_up (fun _ => none) 0 (some a4)) 1 (some a5)) 2 (some a6)) 3 (some a7)) 4 (some a8)) 5 (some a9)) 6 (some a10)) 7 (some a11)) 8 (some a12)) 3 (some n1))))))), (a7, .inl (cy 1, 0, .inl (fun _ => 0))), (n1, .inl (cy 1, 1830, .inl (learnF 3 (PP 60 1 (xn - 1)))))] H locs → lv_has ls 6 [(0, .ref a0), (1, .int 3), (2, .ref n1), (3, .int pr), (4, .int x)] → W p l e R s m args below meth c H locs cells slots Q (F0 m 32 ls []) := by
    intro k
    induction k with
    | zero =>
      intro xn x pr H locs ls h1 h4 ex ep w hl
      have hx : xn = 61 := by omega
      subst hx
      have c1 : (60 : Int32) < x := by rw [ex]; decide
      refine lv_iload C.1 C.2.1 dX4_learn_32 (lv_at hl 4 rfl) ?_
      refine lv_bipush (v := 60) C.1 C.2.1 dX4_learn_34 (by decide) ?_
      refine b_icmp_gt_t C (tgt := 83) dX4_learn_36 (by decide) c1 ?_
      have e6 : PP 60 1 (61 - 1) = 1830 := PP_tot
      rw [e6] at w
      exact kk _ _ _ w (lv_sub hl [0, 1, 2] rfl)
    | succ k ih =>
      intro xn x pr H locs ls h1 h4 ex ep w hl
      have c1 : ¬ (60 : Int32) < x := by rw [ex]; exact nI_nlt (a := 60) (by omega) (by omega)
      refine lv_iload C.1 C.2.1 dX4_learn_32 (lv_at hl 4 rfl) ?_
      refine lv_bipush (v := 60) C.1 C.2.1 dX4_learn_34 (by decide) ?_
      refine b_icmp_gt_f C (tgt := 83) dX4_learn_36 (by decide) c1 ?_
      refine lv_iload C.1 C.2.1 dX4_learn_39 (lv_at hl 4 rfl) ?_
      refine lv_istore (lv' := [(5, .int x), (0, .ref a0), (1, .int 3), (2, .ref n1), (3, .int pr), (4, .int x)]) C.1 C.2.1 dX4_learn_41 hl (by decide) rfl (fun ls hl => ?_)
      have eN : PP 60 1 (xn - 1) + (xn - xn) = PP 60 1 (xn - 1) := by omega
      refine inner (61 - xn) xn xn x x pr _ _ _ h1 (by omega) (Nat.le_refl _) (by omega) ex ex (by rw [ep, eN]) (by rw [eN]; exact w) (lv_sub hl [1, 2, 3, 4, 5, 0] rfl) (fun H locs ls pr1 y1 ep1 w hl => ?_)
      refine lv_iinc (v := (x + 1)) (lv' := [(4, .int (x + 1)), (0, .ref a0), (1, .int 3), (2, .ref n1), (3, .int pr1), (5, .int y1)]) C.1 C.2.1 dX4_learn_77 hl (k := 4) rfl rfl (by decide) rfl (fun ls hl => ?_)
      refine lv_goto (tgt := 32) C.1 C.2.1 dX4_learn_80 (by decide) ?_
      exact ih (xn + 1) (x + 1) pr1 _ _ _ (by omega) (by omega) (by rw [ex]; exact nI_1 _) (by rw [ep1]; rfl) (by exact w) (lv_sub hl [1, 2, 3, 4, 0] rfl)
  refine outer 60 1 1 0 _ _ _ (Nat.le_refl _) rfl rfl rfl ?_ hl
  have e0 : learnF 3 (PP 60 1 (1 - 1)) = fun _ => 0 := learnF_0 3
  rw [e0]
  exact w
set_option maxRecDepth 100000 in
set_option maxHeartbeats 4000000 in
theorem c_X4_learn_2 (l : Launch) (D : va_G) (cy : Nat → ClassId) (a0 a1 a2 a3 a4 a5 a6 a7 a8 a9 a10 a11 a12 : Nat) : Ct l D cy yX4_learn cX4_learn 6 none 1 30 1 1830 [(a0, .inr (4, [.ref a1, .ref a2, .int 0, .ref a3])), (a1, .inl (cy 5, 9, .inr (.inr (.inr (.inr (va_up (va_up (va_up (va_up (va_up (va_up (va_up (va_up (va_up (fun _ => none) 0 (some a4)) 1 (some a5)) 2 (some a6)) 3 (some a7)) 4 (some a8)) 5 (some a9)) 6 (some a10)) 7 (some a11)) 8 (some a12))))))), (a7, .inl (cy 1, 0, .inl (fun _ => 0)))] [.ref a0, .int 3] (fun u : Nat => none) (fun _ => True) (fun u : Nat => [(a0, .inr (4, [.ref a1, .ref a2, .int 0, .ref a3])), (a1, .inl (cy 5, 9, .inr (.inr (.inr (.inr (va_up (va_up (va_up (va_up (va_up (va_up (va_up (va_up (va_up (va_up (fun _ => none) 0 (some a4)) 1 (some a5)) 2 (some a6)) 3 (some a7)) 4 (some a8)) 5 (some a9)) 6 (some a10)) 7 (some a11)) 8 (some a12)) 3 (some u))))))), (a7, .inl (cy 1, 0, .inl (fun _ => 0))), (u, .inl (cy 1, 1830, .inl (learnF 3 1830)))]) := by
  refine Ct.of (by decide +kernel) (Nat.le_of_ble_eq_true rfl) ?_
  intro p e s m args below meth c A ls C hr hlocks hml hnm w hl
  have hl : lv_has ls 6 [(0, .ref a0), (1, .int 3)] := hl
  refine lv_aload_n C.1 C.2.1 dX4_learn_0 rfl (lv_at hl 0 rfl) ?_
  refine r_get C w 0 rfl rfl 0 (by decide) fl_RX4_13 (v := .ref a1) rfl dX4_learn_1 ?_
  refine lv_iload_n C.1 C.2.1 dX4_learn_4 rfl (lv_at hl 1 rfl) ?_
  refine r_aald C w 1 5 rfl rfl rfl (v := .ref a7) (vinD (by decide)) rfl dX4_learn_5 ?_
  refine r_alen C w 2 1 rfl rfl (v := 0) rfl dX4_learn_6 ?_
  refine lv_sipush (v := 1830) C.1 C.2.1 dX4_learn_7 (by decide) ?_
  refine b_icmp_ne_t C (tgt := 14) dX4_learn_10 (by decide) (by decide) ?_
  refine lv_sipush (v := 1830) C.1 C.2.1 dX4_learn_14 (by decide) ?_
  refine r_newa_int C w 1830 ac_int (by decide) (by decide) (by decide) 1 1830 rfl rfl ⟨Nat.le_of_ble_eq_true rfl, Nat.le_of_ble_eq_true rfl⟩ dX4_learn_17 (fun n1 H w => ?_)
  have w : Wd D A s.heap [(a0, .inr (4, [.ref a1, .ref a2, .int 0, .ref a3])), (a1, .inl (cy 5, 9, .inr (.inr (.inr (.inr (va_up (va_up (va_up (va_up (va_up (va_up (va_up (va_up (va_up (fun _ => none) 0 (some a4)) 1 (some a5)) 2 (some a6)) 3 (some a7)) 4 (some a8)) 5 (some a9)) 6 (some a10)) 7 (some a11)) 8 (some a12))))))), (a7, .inl (cy 1, 0, .inl (fun _ => 0))), (n1, .inl (cy 1, 1830, .inl (fun _ => 0)))] _ _ := w
  refine lv_astore_n (lv' := [(2, .ref n1), (0, .ref a0), (1, .int 3)]) C.1 C.2.1 dX4_learn_19 rfl hl (by decide) rfl (fun ls hl => ?_)
  refine lv_aload_n C.1 C.2.1 dX4_learn_20 rfl (lv_at hl 1 rfl) ?_
  refine r_get C w 0 rfl rfl 0 (by decide) fl_RX4_13 (v := .ref a1) rfl dX4_learn_21 ?_
  refine lv_iload_n C.1 C.2.1 dX4_learn_24 rfl (lv_at hl 2 rfl) ?_
  refine lv_aload_n C.1 C.2.1 dX4_learn_25 rfl (lv_at hl 0 rfl) ?_
  refine r_aastI C w 1 3 rfl rfl (vinD (by decide)) (va_up (va_up (va_up (va_up (va_up (va_up (va_up (va_up (va_up (va_up (fun _ => none) 0 (some a4)) 1 (some a5)) 2 (some a6)) 3 (some a7)) 4 (some a8)) 5 (some a9)) 6 (some a10)) 7 (some a11)) 8 (some a12)) 3 (some n1)) rfl [(a0, .inr (4, [.ref a1, .ref a2, .int 0, .ref a3])), (a1, .inl (cy 5, 9, .inr (.inr (.inr (.inr (va_up (va_up (va_up (va_up (va_up (va_up (va_up (va_up (va_up (va_up (fun _ => none) 0 (some a4)) 1 (some a5)) 2 (some a6)) 3 (some a7)) 4 (some a8)) 5 (some a9)) 6 (some a10)) 7 (some a11)) 8 (some a12)) 3 (some n1))))))), (a7, .inl (cy 1, 0, .inl (fun _ => 0))), (n1, .inl (cy 1, 1830, .inl (fun _ => 0)))] rfl dX4_learn_26 (fun H locs w => ?_)
  refine lv_iconst (v := 0) C.1 C.2.1 dX4_learn_27 (by decide) ?_
  refine lv_istore_n (lv' := [(3, .int 0), (2, .ref n1), (0, .ref a0), (1, .int 3)]) C.1 C.2.1 dX4_learn_28 rfl hl (by decide) rfl (fun ls hl => ?_)
  refine lv_iconst (v := 1) C.1 C.2.1 dX4_learn_29 (by decide) ?_
  refine lv_istore (lv' := [(4, .int 1), (3, .int 0), (2, .ref n1), (0, .ref a0), (1, .int 3)]) C.1 C.2.1 dX4_learn_30 hl (by decide) rfl (fun ls hl => ?_)
  refine lp_X4_learn_3 a0 a1 a2 a3 a4 a5 a6 a7 a8 a9 a10 a11 a12 n1 C hml (Nat.le_of_ble_eq_true rfl) (Nat.le_of_ble_eq_true rfl) ⟨Nat.le_of_ble_eq_true rfl, Nat.le_of_ble_eq_true rfl⟩ (w.re rfl) (lv_sub hl [3, 4, 2, 1, 0] rfl) (fun H locs ls w hl => ?_)
  have w : Wd D A s.heap [(a0, .inr (4, [.ref a1, .ref a2, .int 0, .ref a3])), (a1, .inl (cy 5, 9, .inr (.inr (.inr (.inr (va_up (va_up (va_up (va_up (va_up (va_up (va_up (va_up (va_up (va_up (fun _ => none) 0 (some a4)) 1 (some a5)) 2 (some a6)) 3 (some a7)) 4 (some a8)) 5 (some a9)) 6 (some a10)) 7 (some a11)) 8 (some a12)) 3 (some n1))))))), (a7, .inl (cy 1, 0, .inl (fun _ => 0))), (n1, .inl (cy 1, 1830, .inl (learnF 3 1830)))] _ _ := w
  exact r_vret C w hlocks n1 hr rfl trivial [0, 1, 2, 3] rfl rfl ⟨Nat.le_of_ble_eq_true rfl, Nat.le_of_ble_eq_true rfl⟩ dX4_learn_83
theorem dX4_fill_0 : decode cX4_fill 0 = .ok (.iconst 0, 1) := by decide +kernel
theorem dX4_fill_1 : decode cX4_fill 1 = .ok (.istore 4, 2) := by decide +kernel
theorem dX4_fill_3 : decode cX4_fill 3 = .ok (.iload_n 2, 1) := by decide +kernel
theorem dX4_fill_4 : decode cX4_fill 4 = .ok (.istore 5, 2) := by decide +kernel
theorem dX4_fill_88 : decode cX4_fill 88 = .ok (.iload 4, 2) := by decide +kernel
theorem dX4_fill_50 : decode cX4_fill 50 = .ok (.iload 8, 2) := by decide +kernel
theorem dX4_fill_52 : decode cX4_fill 52 = .ok (.iload 7, 2) := by decide +kernel
theorem dX4_fill_54 : decode cX4_fill 54 = .ok (.if_icmp .gt 28, 3) := by decide +kernel
theorem dX4_fill_57 : decode cX4_fill 57 = .ok (.iload 4, 2) := by decide +kernel
theorem dX4_fill_59 : decode cX4_fill 59 = .ok (.aload_n 0, 1) := by decide +kernel
theorem dX4_fill_60 : decode cX4_fill 60 = .ok (.arraylength, 1) := by decide +kernel
theorem dX4_fill_61 : decode cX4_fill 61 = .ok (.if_icmp .ge 21, 3) := by decide +kernel
theorem dX4_fill_64 : decode cX4_fill 64 = .ok (.aload_n 0, 1) := by decide +kernel
theorem dX4_fill_65 : decode cX4_fill 65 = .ok (.iload 4, 2) := by decide +kernel
theorem dX4_fill_67 : decode cX4_fill 67 = .ok (.iinc 4 1, 3) := by decide +kernel
theorem dX4_fill_70 : decode cX4_fill 70 = .ok (.iload 6, 2) := by decide +kernel
theorem dX4_fill_72 : decode cX4_fill 72 = .ok (.iload 8, 2) := by decide +kernel
theorem dX4_fill_74 : decode cX4_fill 74 = .ok (.iadd, 1) := by decide +kernel
theorem dX4_fill_75 : decode cX4_fill 75 = .ok (.iastore, 1) := by decide +kernel
theorem dX4_fill_76 : decode cX4_fill 76 = .ok (.iinc 8 1, 3) := by decide +kernel
theorem dX4_fill_79 : decode cX4_fill 79 = .ok (.goto (-29), 3) := by decide +kernel
theorem dX4_fill_6 : decode cX4_fill 6 = .ok (.iload 5, 2) := by decide +kernel
theorem dX4_fill_8 : decode cX4_fill 8 = .ok (.iload_n 3, 1) := by decide +kernel
theorem dX4_fill_9 : decode cX4_fill 9 = .ok (.if_icmp .gt 79, 3) := by decide +kernel
theorem dX4_fill_12 : decode cX4_fill 12 = .ok (.iload 5, 2) := by decide +kernel
theorem dX4_fill_14 : decode cX4_fill 14 = .ok (.iconst 1, 1) := by decide +kernel
theorem dX4_fill_15 : decode cX4_fill 15 = .ok (.isub, 1) := by decide +kernel
theorem dX4_fill_16 : decode cX4_fill 16 = .ok (.bipush 122, 2) := by decide +kernel
theorem dX4_fill_18 : decode cX4_fill 18 = .ok (.iload 5, 2) := by decide +kernel
theorem dX4_fill_20 : decode cX4_fill 20 = .ok (.isub, 1) := by decide +kernel
theorem dX4_fill_21 : decode cX4_fill 21 = .ok (.imul, 1) := by decide +kernel
theorem dX4_fill_22 : decode cX4_fill 22 = .ok (.iconst 2, 1) := by decide +kernel
theorem dX4_fill_23 : decode cX4_fill 23 = .ok (.idiv, 1) := by decide +kernel
theorem dX4_fill_24 : decode cX4_fill 24 = .ok (.iload 5, 2) := by decide +kernel
theorem dX4_fill_26 : decode cX4_fill 26 = .ok (.isub, 1) := by decide +kernel
theorem dX4_fill_27 : decode cX4_fill 27 = .ok (.istore 6, 2) := by decide +kernel
theorem dX4_fill_29 : decode cX4_fill 29 = .ok (.iload_n 3, 1) := by decide +kernel
theorem dX4_fill_30 : decode cX4_fill 30 = .ok (.aload_n 1, 1) := by decide +kernel
theorem fl_RX4_58 : Cond.fieldLink RX4 58 "TwoSlips$Talk" "most" "I" ∈ gw := gw_mem (by decide +kernel) (by decide +kernel)
theorem dX4_fill_31 : decode cX4_fill 31 = .ok (.getfield 58, 3) := by decide +kernel
theorem dX4_fill_34 : decode cX4_fill 34 = .ok (.iload 5, 2) := by decide +kernel
theorem dX4_fill_36 : decode cX4_fill 36 = .ok (.isub, 1) := by decide +kernel
theorem ml_RX4_61 : Cond.methodLink RX4 61 Lib.Math.min.name ∈ gw := gw_mem (by decide +kernel) (by decide +kernel)
theorem st_min : Cond.static Lib.Math.min.name ∈ gw := gw_mem (by decide +kernel) (by decide +kernel)
theorem it_math : Cond.initialized "java/lang/Math" ∈ gw := gw_mem (by decide +kernel) (by decide +kernel)
theorem cd_min : Cond.code Lib.Math.min.name Lib.Math.min.code 2 (some .int) ∈ gw := gw_mem (by decide +kernel) (by decide +kernel)
theorem dX4_fill_37 : decode cX4_fill 37 = .ok (.invokestatic 61, 3) := by decide +kernel
theorem dX4_fill_40 : decode cX4_fill 40 = .ok (.istore 7, 2) := by decide +kernel
theorem dX4_fill_42 : decode cX4_fill 42 = .ok (.aload_n 1, 1) := by decide +kernel
theorem dX4_fill_43 : decode cX4_fill 43 = .ok (.iload 5, 2) := by decide +kernel
theorem dX4_fill_45 : decode cX4_fill 45 = .ok (.invokevirtual 67, 3) := by decide +kernel
theorem dX9_lowestPartner_0 : decode cX9_lowestPartner 0 = .ok (.aload_n 0, 1) := by decide +kernel
theorem fl_RX9_46 : Cond.fieldLink RX9 46 "TwoSlips$Talk" "unlike" "Z" ∈ gw := gw_mem (by decide +kernel) (by decide +kernel)
theorem dX9_lowestPartner_1 : decode cX9_lowestPartner 1 = .ok (.getfield 46, 3) := by decide +kernel
theorem dX9_lowestPartner_4 : decode cX9_lowestPartner 4 = .ok (.ifCond .eq 9, 3) := by decide +kernel
theorem dX9_lowestPartner_13 : decode cX9_lowestPartner 13 = .ok (.iload_n 1, 1) := by decide +kernel
theorem dX9_lowestPartner_14 : decode cX9_lowestPartner 14 = .ok (.ireturn, 1) := by decide +kernel
set_option maxRecDepth 100000 in
set_option maxHeartbeats 4000000 in
theorem c_X9_lowestPartner_0 (l : Launch) (D : va_G) (cy : Nat → ClassId) (a0 a1 a2 a3 a4 a5 a6 a7 : Nat) (x0 : Int32) : Ct l D cy yX9_lowestPartner cX9_lowestPartner 2 (some .int) 0 0 0 0 [(a0, .inr (9, [.int 0, .int 2, .int 20, .int 120, .int 0, .int 0, .int 0, .int 0, .ref a1, .int 0, .ref a2, .ref a3, .int 0, .ref a4, .ref a5, .ref a6, .ref a7]))] [.ref a0, .int x0] (fun u : Unit => some (.int x0)) (fun _ => True) (fun u : Unit => [(a0, .inr (9, [.int 0, .int 2, .int 20, .int 120, .int 0, .int 0, .int 0, .int 0, .ref a1, .int 0, .ref a2, .ref a3, .int 0, .ref a4, .ref a5, .ref a6, .ref a7]))]) := by
  refine Ct.of (by decide +kernel) (Nat.le_of_ble_eq_true rfl) ?_
  intro p e s m args below meth c A ls C hr hlocks hml hnm w hl
  have hl : lv_has ls 2 [(0, .ref a0), (1, .int x0)] := hl
  refine lv_aload_n C.1 C.2.1 dX9_lowestPartner_0 rfl (lv_at hl 0 rfl) ?_
  refine r_get C w 0 rfl rfl 4 (by decide) fl_RX9_46 (v := .int 0) rfl dX9_lowestPartner_1 ?_
  refine b_if_eq_t C (tgt := 13) dX9_lowestPartner_4 (by decide) (by decide) ?_
  refine lv_iload_n C.1 C.2.1 dX9_lowestPartner_13 rfl (lv_at hl 1 rfl) ?_
  exact r_iret C w hlocks () hr rfl rfl trivial [0] rfl rfl ⟨Nat.le_of_ble_eq_true rfl, Nat.le_of_ble_eq_true rfl⟩ dX9_lowestPartner_14
theorem fv_RX4_67 : FV RX4 67 yX9_lowestPartner cX9_lowestPartner 2 (some .int) 1 := ⟨⟨gw_mem (by decide +kernel) (by decide +kernel), gw_mem (by decide +kernel) (by decide +kernel), gw_mem (by decide +kernel) (by decide +kernel), gw_mem (by decide +kernel) (by decide +kernel), gw_mem (by decide +kernel) (by decide +kernel)⟩, ⟨by decide +kernel, by decide +kernel, by decide +kernel⟩⟩
theorem dX4_fill_48 : decode cX4_fill 48 = .ok (.istore 8, 2) := by decide +kernel
theorem dX4_fill_82 : decode cX4_fill 82 = .ok (.iinc 5 1, 3) := by decide +kernel
theorem dX4_fill_85 : decode cX4_fill 85 = .ok (.goto (-79), 3) := by decide +kernel
set_option maxRecDepth 100000 in
set_option maxHeartbeats 4000000 in
theorem lp_X4_fill_1 {p : Program} {l : Launch} {e : Env} {R : Room} {s : State} {m : MethodId} {args : Array Value} {below : List Frame} {meth : Method} {c : Code} {cells slots : Nat} {Q : State → Prop} {D : va_G} {cy : Nat → ClassId} {A : Nat → Prop} {H : Heap} {locs : List Loc} {ls : Array Slot} (a0 a1 a2 a3 a4 a5 a6 a7 a8 : Nat) (f : Nat → Int32) (a b : Nat) (x2 x3 : Int32) (hab : 1 ≤ a ∧ a ≤ b ∧ b ≤ 60) (e2 : x2 = nI a) (e3 : x3 = nI b) (C : Cx p s m args c cX4_fill RX4 D cy A) (hml : c.maxLocals = 9) (hfr : 1 ≤ R.frames) (hlo : 30 ≤ R.locals) (hcs : cells ≤ R.cells ∧ slots ≤ R.slots) (w : Wd D A s.heap [(a0, .inl (cy 1, 1830, .inl (f))), (a1, .inr (9, [.int 0, .int 2, .int 20, .int 120, .int 0, .int 0, .int 0, .int 0, .ref a2, .int 0, .ref a3, .ref a4, .int 0, .ref a5, .ref a6, .ref a7, .ref a8]))] H locs) (hl : lv_has ls 9 [(0, .ref a0), (1, .ref a1), (3, .int x3), (4, .int 0), (5, .int x2)])
    (kk : ∀ (H : Heap) (locs : List Loc) (ls : Array Slot) (mn : Int32), mn = nI (PP b a (b + 1 - a)) → Wd D A s.heap [(a0, .inl (cy 1, 1830, .inl (fillF f a b (PP b a (b + 1 - a))))), (a1, .inr (9, [.int 0, .int 2, .int 20, .int 120, .int 0, .int 0, .int 0, .int 0, .ref a2, .int 0, .ref a3, .ref a4, .int 0, .ref a5, .ref a6, .ref a7, .ref a8]))] H locs → lv_has ls 9 [(0, .ref a0), (1, .ref a1), (4, .int mn)] → W p l e R s m args below meth c H locs cells slots Q (F0 m 88 ls [])) : W p l e R s m args below meth c H locs cells slots Q (F0 m 6 ls []) := by
  obtain ⟨ha1, hab1, hb60⟩ := hab
  have inner : ∀ (k xn yn : Nat) (x y mn : Int32) (H : Heap) (locs : List Loc) (ls : Array Slot), a ≤ xn → xn ≤ b → xn ≤ yn → yn + k = b + 1 → x = nI xn → y = nI yn → mn = nI (PP b a (xn - a) + (yn - xn)) → Wd D A s.heap [(a0, .inl (cy 1, 1830, .inl (fillF f a b (PP b a (xn - a) + (yn - xn))))), (a1, .inr (9, [.int 0, .int 2, .int 20, .int 120, .int 0, .int 0, .int 0, .int 0, .ref a2, .int 0, .ref a3, .ref a4, .int 0, .ref a5, .ref a6, .ref a7, .ref a8]))] H locs → lv_has ls 9 [(0, .ref a0), (1, .ref a1), (3, .int x3), (4, .int mn), (5, .int x), (6, .int ((((x - 1) * (122 - x)) / 2) - x)), (7, .int x3), (8, .int y)] →
      (∀ (H : Heap) (locs : List Loc) (ls : Array Slot) (mn1 y1 : Int32), mn1 = nI (PP b a (xn + 1 - a)) → Wd D A s.heap [(a0, .inl (cy 1, 1830, .inl (fillF f a b (PP b a (xn + 1 - a))))), (a1, .inr (9, [.int 0, .int 2, .int 20, .int 120, .int 0, .int 0, .int 0, .int 0, .ref a2, .int 0, .ref a3, .ref a4, .int 0, .ref a5, .ref a6, .ref a7, .ref a8]))] H locs → lv_has ls 9 [(0, .ref a0), (1, .ref a1), (3, .int x3), (4, .int mn1), (5, .int x), (8, .int y1)] → W p l e R s m args below meth c H locs cells slots Q (F0 m 82 ls [])) → W p l e R s m args below meth c H locs cells slots Q (F0 m 50 ls []) := by
    intro k
    induction k with
    | zero =>
      intro xn yn x y mn H locs ls h1 h2 h3 h4 ex ey em w hl kk
      have hy : yn = b + 1 := by omega
      have c1 : x3 < y := by rw [e3, ey, hy]; exact nI_lt (by omega) (by omega)
      refine lv_iload C.1 C.2.1 dX4_fill_50 (lv_at hl 7 rfl) ?_
      refine lv_iload C.1 C.2.1 dX4_fill_52 (lv_at hl 6 rfl) ?_
      refine b_icmp_gt_t C (tgt := 82) dX4_fill_54 (by decide) c1 ?_
      have eN : PP b a (xn - a) + (yn - xn) = PP b a (xn + 1 - a) := by
        have := PP_succ b (xn - a) a
        have e1 : xn - a + 1 = xn + 1 - a := by omega
        have e2 : a + (xn - a) = xn := by omega
        rw [e1, e2] at this
        omega
      exact kk _ _ _ mn y (by rw [em, eN]) (by rw [← eN]; exact w) (lv_sub hl [0, 1, 2, 3, 4, 7] rfl)
    | succ k ih =>
      intro xn yn x y mn H locs ls h1 h2 h3 h4 ex ey em w hl kk
      have hb1 := PP_lt (b := b) h1 h3 (by omega)
      have hb2 := PP_le b hb60 a (by omega) ha1 hab1
      have hb : PP b a (xn - a) + (yn - xn) < 1830 := by omega
      have c1 : ¬ x3 < y := by rw [e3, ey]; exact nI_nlt (by omega) (by omega)
      have c2 : ¬ (1830 : Int32) ≤ mn := by rw [em]; exact nI_ge hb (by decide)
      have hin : vp_in mn 1830 := by rw [em]; exact vp_in_nI hb (by decide)
      have hst : upd (fillF f a b (PP b a (xn - a) + (yn - xn))) mn.toNatClampNeg (((((x - 1) * (122 - x)) / 2) - x) + y) = fillF f a b (PP b a (xn - a) + (yn - xn) + 1) := by
        rw [em]
        refine fillF_step (by omega) ?_
        rw [pxy_at h1 h3 (by omega), ex, ey]
        exact pix_val (by omega) h3 (by omega)
      refine lv_iload C.1 C.2.1 dX4_fill_50 (lv_at hl 7 rfl) ?_
      refine lv_iload C.1 C.2.1 dX4_fill_52 (lv_at hl 6 rfl) ?_
      refine b_icmp_gt_f C (tgt := 82) dX4_fill_54 (by decide) c1 ?_
      refine lv_iload C.1 C.2.1 dX4_fill_57 (lv_at hl 3 rfl) ?_
      refine lv_aload_n C.1 C.2.1 dX4_fill_59 rfl (lv_at hl 0 rfl) ?_
      refine r_alen C w 0 1 rfl rfl (v := 1830) rfl dX4_fill_60 ?_
      refine b_icmp_ge_f C (tgt := 82) dX4_fill_61 (by decide) c2 ?_
      refine lv_aload_n C.1 C.2.1 dX4_fill_64 rfl (lv_at hl 0 rfl) ?_
      refine lv_iload C.1 C.2.1 dX4_fill_65 (lv_at hl 3 rfl) ?_
      refine lv_iinc (v := (mn + 1)) (lv' := [(4, .int (mn + 1)), (0, .ref a0), (1, .ref a1), (3, .int x3), (5, .int x), (6, .int ((((x - 1) * (122 - x)) / 2) - x)), (7, .int x3), (8, .int y)]) C.1 C.2.1 dX4_fill_67 hl (k := 3) rfl rfl (by decide) rfl (fun ls hl => ?_)
      refine lv_iload C.1 C.2.1 dX4_fill_70 (lv_at hl 5 rfl) ?_
      refine lv_iload C.1 C.2.1 dX4_fill_72 (lv_at hl 7 rfl) ?_
      refine r_iadd C (v := (((((x - 1) * (122 - x)) / 2) - x) + y)) dX4_fill_74 rfl ?_
      refine r_iast C w 0 rfl hin (fillF f a b (PP b a (xn - a) + (yn - xn) + 1)) hst [(a0, .inl (cy 1, 1830, .inl (fillF f a b (PP b a (xn - a) + (yn - xn) + 1)))), (a1, .inr (9, [.int 0, .int 2, .int 20, .int 120, .int 0, .int 0, .int 0, .int 0, .ref a2, .int 0, .ref a3, .ref a4, .int 0, .ref a5, .ref a6, .ref a7, .ref a8]))] rfl dX4_fill_75 (fun H locs w => ?_)
      refine lv_iinc (v := (y + 1)) (lv' := [(8, .int (y + 1)), (4, .int (mn + 1)), (0, .ref a0), (1, .ref a1), (3, .int x3), (5, .int x), (6, .int ((((x - 1) * (122 - x)) / 2) - x)), (7, .int x3)]) C.1 C.2.1 dX4_fill_76 hl (k := 7) rfl rfl (by decide) rfl (fun ls hl => ?_)
      refine lv_goto (tgt := 50) C.1 C.2.1 dX4_fill_79 (by decide) ?_
      have eN : PP b a (xn - a) + (yn + 1 - xn) = PP b a (xn - a) + (yn - xn) + 1 := by omega
      exact ih xn (yn + 1) x (y + 1) (mn + 1) _ _ _ h1 h2 (by omega) (by omega) ex (by rw [ey]; exact nI_1 _) (by rw [em, eN]; exact nI_1 _) (by rw [eN]; exact w) (lv_sub hl [2, 3, 4, 1, 5, 6, 7, 0] rfl) kk
  have outer : ∀ (k xn : Nat) (x mn : Int32) (H : Heap) (locs : List Loc) (ls : Array Slot), a ≤ xn → xn + k = b + 1 → x = nI xn → mn = nI (PP b a (xn - a)) → Wd D A s.heap [(a0, .inl (cy 1, 1830, .inl (fillF f a b (PP b a (xn - a))))), (a1, .inr (9, [.int 0, .int 2, .int 20, .int 120, .int 0, .int 0, .int 0, .int 0, .ref a2, .int 0, .ref a3, .ref a4, .int 0, .ref a5, .ref a6, .ref a7, .ref a8]))] H locs → lv_has ls 9 [(0, .ref a0), (1, .ref a1), (3, .int x3), (4, .int mn), (5, .int x)] → W p l e R s m args below meth c H locs cells slots Q (F0 m 6 ls []) := by
    intro k
    induction k with
    | zero =>
      intro xn x mn H locs ls h1 h4 ex em w hl
      have hx : xn = b + 1 := by omega
      subst hx
      have c1 : x3 < x := by rw [e3, ex]; exact nI_lt (by omega) (by omega)
      refine lv_iload C.1 C.2.1 dX4_fill_6 (lv_at hl 4 rfl) ?_
      refine lv_iload_n C.1 C.2.1 dX4_fill_8 rfl (lv_at hl 2 rfl) ?_
      refine b_icmp_gt_t C (tgt := 88) dX4_fill_9 (by decide) c1 ?_
      exact kk _ _ _ mn em w (lv_sub hl [0, 1, 3] rfl)
    | succ k ih =>
      intro xn x mn H locs ls h1 h4 ex em w hl
      have c1 : ¬ x3 < x := by rw [e3, ex]; exact nI_nlt (by omega) (by omega)
      have hmin : (if (120 : Int32) - x < x3 then (120 : Int32) - x else x3) = x3 := by
        refine if_neg ?_
        rw [ex, e3, show (120 : Int32) = nI 120 from rfl, pk_sub (by omega)]
        exact nI_nlt (by omega) (by omega)
      refine lv_iload C.1 C.2.1 dX4_fill_6 (lv_at hl 4 rfl) ?_
      refine lv_iload_n C.1 C.2.1 dX4_fill_8 rfl (lv_at hl 2 rfl) ?_
      refine b_icmp_gt_f C (tgt := 88) dX4_fill_9 (by decide) c1 ?_
      refine lv_iload C.1 C.2.1 dX4_fill_12 (lv_at hl 4 rfl) ?_
      refine lv_iconst (v := 1) C.1 C.2.1 dX4_fill_14 (by decide) ?_
      refine r_isub C (v := (x - 1)) dX4_fill_15 rfl ?_
      refine lv_bipush (v := 122) C.1 C.2.1 dX4_fill_16 (by decide) ?_
      refine lv_iload C.1 C.2.1 dX4_fill_18 (lv_at hl 4 rfl) ?_
      refine r_isub C (v := (122 - x)) dX4_fill_20 rfl ?_
      refine r_imul C (v := ((x - 1) * (122 - x))) dX4_fill_21 rfl ?_
      refine lv_iconst (v := 2) C.1 C.2.1 dX4_fill_22 (by decide) ?_
      refine r_idiv C (v := (((x - 1) * (122 - x)) / 2)) dX4_fill_23 (by decide) rfl ?_
      refine lv_iload C.1 C.2.1 dX4_fill_24 (lv_at hl 4 rfl) ?_
      refine r_isub C (v := ((((x - 1) * (122 - x)) / 2) - x)) dX4_fill_26 rfl ?_
      refine lv_istore (lv' := [(6, .int ((((x - 1) * (122 - x)) / 2) - x)), (0, .ref a0), (1, .ref a1), (3, .int x3), (4, .int mn), (5, .int x)]) C.1 C.2.1 dX4_fill_27 hl (by decide) rfl (fun ls hl => ?_)
      refine lv_iload_n C.1 C.2.1 dX4_fill_29 rfl (lv_at hl 3 rfl) ?_
      refine lv_aload_n C.1 C.2.1 dX4_fill_30 rfl (lv_at hl 2 rfl) ?_
      refine r_get C w 1 rfl rfl 3 (by decide) fl_RX4_58 (v := .int 120) rfl dX4_fill_31 ?_
      refine lv_iload C.1 C.2.1 dX4_fill_34 (lv_at hl 5 rfl) ?_
      refine r_isub C (v := (120 - x)) dX4_fill_36 rfl ?_
      refine r_mmin C (hl.1.trans hml.symm) ml_RX4_61 st_min it_math cd_min (v := x3) hmin ⟨by omega, by (simp [Value.category]; omega), hcs.1, hcs.2⟩ dX4_fill_37 ?_
      refine lv_istore (lv' := [(7, .int x3), (6, .int ((((x - 1) * (122 - x)) / 2) - x)), (0, .ref a0), (1, .ref a1), (3, .int x3), (4, .int mn), (5, .int x)]) C.1 C.2.1 dX4_fill_40 hl (by decide) rfl (fun ls hl => ?_)
      refine lv_aload_n C.1 C.2.1 dX4_fill_42 rfl (lv_at hl 3 rfl) ?_
      refine lv_iload C.1 C.2.1 dX4_fill_43 (lv_at hl 6 rfl) ?_
      refine r_callV C w fv_RX4_67 (c_X9_lowestPartner_0 l D cy a1 a2 a3 a4 a5 a6 a7 a8 x) (hl.1.trans hml.symm) [1] [0] (wr := [(a0, .inl (cy 1, 1830, .inl (fillF f a b (PP b a (xn - a)))))]) ⟨rfl, rfl, rfl, rfl, by decide⟩ 0 rfl rfl rfl rfl rfl ⟨by omega, by omega, Nat.le_of_ble_eq_true rfl⟩ cells slots ⟨rfl, rfl, hcs.1, hcs.2⟩ dX4_fill_45 (fun u H locs hp w => ?_)
      have w : Wd D A s.heap [(a0, .inl (cy 1, 1830, .inl (fillF f a b (PP b a (xn - a))))), (a1, .inr (9, [.int 0, .int 2, .int 20, .int 120, .int 0, .int 0, .int 0, .int 0, .ref a2, .int 0, .ref a3, .ref a4, .int 0, .ref a5, .ref a6, .ref a7, .ref a8]))] _ _ := w
      refine r_top (g2 := F0 m 48 ls [.int x]) rfl ?_
      refine lv_istore (lv' := [(8, .int x), (7, .int x3), (6, .int ((((x - 1) * (122 - x)) / 2) - x)), (0, .ref a0), (1, .ref a1), (3, .int x3), (4, .int mn), (5, .int x)]) C.1 C.2.1 dX4_fill_48 hl (by decide) rfl (fun ls hl => ?_)
      have eN : PP b a (xn - a) + (xn - xn) = PP b a (xn - a) := by omega
      refine inner (b + 1 - xn) xn xn x x mn _ _ _ h1 (by omega) (Nat.le_refl _) (by omega) ex ex (by rw [em, eN]) (by rw [eN]; exact w) (lv_sub hl [3, 4, 5, 6, 7, 2, 1, 0] rfl) (fun H locs ls mn1 y1 em1 w hl => ?_)
      refine lv_iinc (v := (x + 1)) (lv' := [(5, .int (x + 1)), (0, .ref a0), (1, .ref a1), (3, .int x3), (4, .int mn1), (8, .int y1)]) C.1 C.2.1 dX4_fill_82 hl (k := 4) rfl rfl (by decide) rfl (fun ls hl => ?_)
      refine lv_goto (tgt := 6) C.1 C.2.1 dX4_fill_85 (by decide) ?_
      exact ih (xn + 1) (x + 1) mn1 _ _ _ (by omega) (by omega) (by rw [ex]; exact nI_1 _) em1 w (lv_sub hl [1, 2, 3, 4, 0] rfl)
  refine outer (b + 1 - a) a x2 0 _ _ _ (Nat.le_refl _) (by omega) e2 (by rw [Nat.sub_self]; rfl) ?_ hl
  have e0 : fillF f a b (PP b a (a - a)) = f := by rw [Nat.sub_self]; exact fillF_0 f a b
  rw [e0]
  exact w
theorem dX4_fill_90 : decode cX4_fill 90 = .ok (.ireturn, 1) := by decide +kernel
set_option maxRecDepth 100000 in
set_option maxHeartbeats 4000000 in
theorem c_X4_fill_0 (l : Launch) (D : va_G) (cy : Nat → ClassId) (a0 a1 a2 a3 a4 a5 a6 a7 a8 : Nat) : Ct l D cy yX4_fill cX4_fill 9 (some .int) 1 30 0 0 [(a0, .inl (cy 1, 1830, .inl (fun _ => 0))), (a1, .inr (9, [.int 0, .int 2, .int 20, .int 120, .int 0, .int 0, .int 0, .int 0, .ref a2, .int 0, .ref a3, .ref a4, .int 0, .ref a5, .ref a6, .ref a7, .ref a8]))] [.ref a0, .ref a1, .int 2, .int 20] (fun u : Unit => some (.int 190)) (fun _ => True) (fun u : Unit => [(a0, .inl (cy 1, 1830, .inl (fillF (fun _ => 0) 2 20 (PP 20 2 (20 + 1 - 2))))), (a1, .inr (9, [.int 0, .int 2, .int 20, .int 120, .int 0, .int 0, .int 0, .int 0, .ref a2, .int 0, .ref a3, .ref a4, .int 0, .ref a5, .ref a6, .ref a7, .ref a8]))]) := by
  refine Ct.of (by decide +kernel) (Nat.le_of_ble_eq_true rfl) ?_
  intro p e s m args below meth c A ls C hr hlocks hml hnm w hl
  have hl : lv_has ls 9 [(0, .ref a0), (1, .ref a1), (2, .int 2), (3, .int 20)] := hl
  refine lv_iconst (v := 0) C.1 C.2.1 dX4_fill_0 (by decide) ?_
  refine lv_istore (lv' := [(4, .int 0), (0, .ref a0), (1, .ref a1), (2, .int 2), (3, .int 20)]) C.1 C.2.1 dX4_fill_1 hl (by decide) rfl (fun ls hl => ?_)
  refine lv_iload_n C.1 C.2.1 dX4_fill_3 rfl (lv_at hl 3 rfl) ?_
  refine lv_istore (lv' := [(5, .int 2), (4, .int 0), (0, .ref a0), (1, .ref a1), (2, .int 2), (3, .int 20)]) C.1 C.2.1 dX4_fill_4 hl (by decide) rfl (fun ls hl => ?_)
  refine lp_X4_fill_1 a0 a1 a2 a3 a4 a5 a6 a7 a8 (fun _ => 0) 2 20 2 20 (by decide) rfl rfl C hml (Nat.le_of_ble_eq_true rfl) (Nat.le_of_ble_eq_true rfl) ⟨Nat.le_of_ble_eq_true rfl, Nat.le_of_ble_eq_true rfl⟩ (w.re rfl) (lv_sub hl [2, 3, 5, 1, 0] rfl) (fun H locs ls mn em w hl => ?_)
  have em : mn = 190 := by rw [em]; decide +kernel
  subst em
  have w : Wd D A s.heap [(a0, .inl (cy 1, 1830, .inl (fillF (fun _ => 0) 2 20 (PP 20 2 (20 + 1 - 2))))), (a1, .inr (9, [.int 0, .int 2, .int 20, .int 120, .int 0, .int 0, .int 0, .int 0, .ref a2, .int 0, .ref a3, .ref a4, .int 0, .ref a5, .ref a6, .ref a7, .ref a8]))] _ _ := w
  have hl : lv_has ls 9 [(0, .ref a0), (1, .ref a1), (4, .int 190)] := hl
  refine lv_iload C.1 C.2.1 dX4_fill_88 (lv_at hl 2 rfl) ?_
  exact r_iret C w hlocks () hr rfl rfl trivial [0, 1] rfl rfl ⟨Nat.le_of_ble_eq_true rfl, Nat.le_of_ble_eq_true rfl⟩ dX4_fill_90
set_option maxRecDepth 100000 in
set_option maxHeartbeats 4000000 in
theorem c_X4_fill_1 (l : Launch) (D : va_G) (cy : Nat → ClassId) (a0 a1 a2 a3 a4 a5 a6 a7 a8 : Nat) (x0 : Int32) (x1 : Int32) (k0 : ¬ x0 < 1) (k1 : ¬ 60 < x0) (k2 : ¬ x1 < x0) (k3 : ¬ 60 < x1) : Ct l D cy yX4_fill cX4_fill 9 (some .int) 1 30 0 0 [(a0, .inl (cy 1, 1830, .inl (fun _ => 0))), (a1, .inr (9, [.int 0, .int 2, .int 20, .int 120, .int 0, .int 0, .int 0, .int 0, .ref a2, .int 0, .ref a3, .ref a4, .int 0, .ref a5, .ref a6, .ref a7, .ref a8]))] [.ref a0, .ref a1, .int x0, .int x1] (fun u : Unit => some (.int (nI (PP (x1).toNatClampNeg (x0).toNatClampNeg ((x1).toNatClampNeg + 1 - (x0).toNatClampNeg))))) (fun _ => True) (fun u : Unit => [(a0, .inl (cy 1, 1830, .inl (fillF (fun _ => 0) (x0).toNatClampNeg (x1).toNatClampNeg (PP (x1).toNatClampNeg (x0).toNatClampNeg ((x1).toNatClampNeg + 1 - (x0).toNatClampNeg))))), (a1, .inr (9, [.int 0, .int 2, .int 20, .int 120, .int 0, .int 0, .int 0, .int 0, .ref a2, .int 0, .ref a3, .ref a4, .int 0, .ref a5, .ref a6, .ref a7, .ref a8]))]) := by
  refine Ct.of (by decide +kernel) (Nat.le_of_ble_eq_true rfl) ?_
  intro p e s m args below meth c A ls C hr hlocks hml hnm w hl
  have hl : lv_has ls 9 [(0, .ref a0), (1, .ref a1), (2, .int x0), (3, .int x1)] := hl
  refine lv_iconst (v := 0) C.1 C.2.1 dX4_fill_0 (by decide) ?_
  refine lv_istore (lv' := [(4, .int 0), (0, .ref a0), (1, .ref a1), (2, .int x0), (3, .int x1)]) C.1 C.2.1 dX4_fill_1 hl (by decide) rfl (fun ls hl => ?_)
  refine lv_iload_n C.1 C.2.1 dX4_fill_3 rfl (lv_at hl 3 rfl) ?_
  refine lv_istore (lv' := [(5, .int x0), (4, .int 0), (0, .ref a0), (1, .ref a1), (2, .int x0), (3, .int x1)]) C.1 C.2.1 dX4_fill_4 hl (by decide) rfl (fun ls hl => ?_)
  refine lp_X4_fill_1 a0 a1 a2 a3 a4 a5 a6 a7 a8 (fun _ => 0) (x0).toNatClampNeg (x1).toNatClampNeg x0 x1 (fill_rng k0 k1 k2 k3).1 (fill_rng k0 k1 k2 k3).2.1 (fill_rng k0 k1 k2 k3).2.2 C hml (Nat.le_of_ble_eq_true rfl) (Nat.le_of_ble_eq_true rfl) ⟨Nat.le_of_ble_eq_true rfl, Nat.le_of_ble_eq_true rfl⟩ (w.re rfl) (lv_sub hl [2, 3, 5, 1, 0] rfl) (fun H locs ls mn em w hl => ?_)
  subst em
  have w : Wd D A s.heap [(a0, .inl (cy 1, 1830, .inl (fillF (fun _ => 0) (x0).toNatClampNeg (x1).toNatClampNeg (PP (x1).toNatClampNeg (x0).toNatClampNeg ((x1).toNatClampNeg + 1 - (x0).toNatClampNeg))))), (a1, .inr (9, [.int 0, .int 2, .int 20, .int 120, .int 0, .int 0, .int 0, .int 0, .ref a2, .int 0, .ref a3, .ref a4, .int 0, .ref a5, .ref a6, .ref a7, .ref a8]))] _ _ := w
  have hl : lv_has ls 9 [(0, .ref a0), (1, .ref a1), (4, .int (nI (PP (x1).toNatClampNeg (x0).toNatClampNeg ((x1).toNatClampNeg + 1 - (x0).toNatClampNeg))))] := hl
  refine lv_iload C.1 C.2.1 dX4_fill_88 (lv_at hl 2 rfl) ?_
  exact r_iret C w hlocks () hr rfl rfl trivial [0, 1] rfl rfl ⟨Nat.le_of_ble_eq_true rfl, Nat.le_of_ble_eq_true rfl⟩ dX4_fill_90
