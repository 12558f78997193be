theorem sub10 {x : Int32} (h : ¬ x < 10) : (x - 10).toInt = x.toInt - 10 := by
  have h0 := i_nlt h
  have e : (10 : Int32).toInt = 10 := by decide
  have h1 := Int32.toInt_lt x
  rw [Int32.toInt_sub, e]
  refine Int.bmod_eq_of_le ?_ ?_ <;> omega
theorem dL_law_1808 : decode cL_law 1808 = .ok (.aload_n 1, 1) := by decide +kernel
theorem dL_law_1809 : decode cL_law 1809 = .ok (.aload_n 0, 1) := by decide +kernel
theorem dL_law_1810 : decode cL_law 1810 = .ok (.iload 4, 2) := by decide +kernel
theorem dL_law_1812 : decode cL_law 1812 = .ok (.iconst 1, 1) := by decide +kernel
theorem dL_law_1813 : decode cL_law 1813 = .ok (.iadd, 1) := by decide +kernel
theorem dL_law_1814 : decode cL_law 1814 = .ok (.iaload, 1) := by decide +kernel
theorem dL_law_1815 : decode cL_law 1815 = .ok (.aload_n 0, 1) := by decide +kernel
theorem dL_law_1816 : decode cL_law 1816 = .ok (.iload 4, 2) := by decide +kernel
theorem dL_law_1818 : decode cL_law 1818 = .ok (.iconst 2, 1) := by decide +kernel
theorem dL_law_1819 : decode cL_law 1819 = .ok (.iadd, 1) := by decide +kernel
theorem dL_law_1820 : decode cL_law 1820 = .ok (.iaload, 1) := by decide +kernel
theorem dL_law_1821 : decode cL_law 1821 = .ok (.aload_n 3, 1) := by decide +kernel
theorem dL_law_1822 : decode cL_law 1822 = .ok (.invokestatic 213, 3) := by decide +kernel
theorem fh_RL_213 : FH RL 213 yL_shortest cL_shortest 5 (some .int) [(0, 10, 13, 13)] 4 := ⟨⟨gw_mem (by decide +kernel) (by decide +kernel), gw_mem (by decide +kernel) (by decide +kernel), gw_mem (by decide +kernel) (by decide +kernel), gw_mem (by decide +kernel) (by decide +kernel)⟩, ⟨by decide +kernel, by decide +kernel, by decide +kernel⟩⟩
theorem dL_law_1825 : decode cL_law 1825 = .ok (.istore 5, 2) := by decide +kernel
theorem dL_law_1827 : decode cL_law 1827 = .ok (.aload_n 2, 1) := by decide +kernel
theorem dL_law_1828 : decode cL_law 1828 = .ok (.aload_n 0, 1) := by decide +kernel
theorem dL_law_1829 : decode cL_law 1829 = .ok (.iload 4, 2) := by decide +kernel
theorem dL_law_1831 : decode cL_law 1831 = .ok (.iconst 1, 1) := by decide +kernel
theorem dL_law_1832 : decode cL_law 1832 = .ok (.iadd, 1) := by decide +kernel
theorem dL_law_1833 : decode cL_law 1833 = .ok (.iaload, 1) := by decide +kernel
theorem dL_law_1834 : decode cL_law 1834 = .ok (.aload_n 0, 1) := by decide +kernel
theorem dL_law_1835 : decode cL_law 1835 = .ok (.iload 4, 2) := by decide +kernel
theorem dL_law_1837 : decode cL_law 1837 = .ok (.iconst 2, 1) := by decide +kernel
theorem dL_law_1838 : decode cL_law 1838 = .ok (.iadd, 1) := by decide +kernel
theorem dL_law_1839 : decode cL_law 1839 = .ok (.iaload, 1) := by decide +kernel
theorem dL_law_1840 : decode cL_law 1840 = .ok (.invokevirtual 215, 3) := by decide +kernel
theorem fv_RL_215 : FV RL 215 yX12_shortest cX12_shortest 4 (some .int) 2 := ⟨⟨gw_mem (by decide +kernel) (by decide +kernel), gw_mem (by decide +kernel) (by decide +kernel), gw_mem (by decide +kernel) (by decide +kernel), gw_mem (by decide +kernel) (by decide +kernel), gw_mem (by decide +kernel) (by decide +kernel)⟩, ⟨by decide +kernel, by decide +kernel, by decide +kernel⟩⟩
theorem dL_law_1843 : decode cL_law 1843 = .ok (.istore 6, 2) := by decide +kernel
theorem dL_law_1845 : decode cL_law 1845 = .ok (.aload_n 2, 1) := by decide +kernel
theorem dL_law_1846 : decode cL_law 1846 = .ok (.invokevirtual 134, 3) := by decide +kernel
theorem dL_law_1849 : decode cL_law 1849 = .ok (.iload 5, 2) := by decide +kernel
theorem dL_law_1851 : decode cL_law 1851 = .ok (.if_icmp .eq 5, 3) := by decide +kernel
theorem dL_law_1856 : decode cL_law 1856 = .ok (.iload 5, 2) := by decide +kernel
theorem dL_law_1858 : decode cL_law 1858 = .ok (.ifCond .ne 15, 3) := by decide +kernel
theorem dL_law_1873 : decode cL_law 1873 = .ok (.goto 588, 3) := by decide +kernel
set_option maxRecDepth 100000 in
set_option maxHeartbeats 4000000 in
theorem s_L_25_0 {p : Program} {l : Launch} {e : Env} {s : State} {m : MethodId} {args : Array Value} {below : List Frame} {meth : Method} {c : Code} {Q : State → Prop} {D : va_G} {cy : Nat → ClassId} {A : Nat → Prop} {H : Heap} {locs : List Loc} {ls : Array Slot} {xs : Nat → Int32} (b q0 q1 q2 q4 q5 q6 q10 m0 m1 m2 m3 m4 m5 m6 m7 m8 m9 m10 m11 m12 m13 m14 m15 m16 m17 o0 : Nat) (y1 : Int32) (y2 : Int32) (k0 : y2 < 10) (k1 : y1 < 1) (sx1 : xs 1 = y1) (sx2 : xs 2 = y2) (hst : l.stackTraces = false) (C : Cx p s m args c cL_law RL D cy A) (hml : c.maxLocals = 8) (hX : va_X b 6 xs s s.heap) (hbl : b < s.heap.size) (hbA : ¬ A b) (w : Wd D A s.heap [(q0, .inr (11, [.ref q1, .int 0, .int 0, .int (-1), .ref q2, .ref q4, .ref q5, .ref q6, .ref q10, .null])), (m0, .inr (12, [.ref m1, .ref m2, .ref m3, .ref m4, .ref m5, .int 0, .ref m6, .int 0, .int 0, .int 0, .int 0, .int 0, .int 0, .int 0, .int 0, .int 0, .int 0, .int (-1), .ref m7, .ref m8, .int 0, .ref m9, .int 0, .ref m10, .ref m11, .ref m12, .ref m13, .ref m14, .int 0, .ref m15, .ref m16, .ref m17]))] H locs) (hl : lv_has ls 8 [(0, .ref b), (1, .ref q0), (2, .ref m0), (3, .ref o0), (4, .int 0)]) (kk : ∀ (H : Heap) (locs : List Loc) (ls : Array Slot), va_S A s.heap H locs → lv_has ls 8 [(0, .ref b), (4, .int 0)] → W p l e room_1 s m args below meth c H locs 600002 7302232 Q (F0 m 2461 ls [])) : W p l e room_1 s m args below meth c H locs 37 29845 Q (F0 m 1808 ls []) := by
  refine lv_aload_n C.1 C.2.1 dL_law_1808 rfl (lv_at hl 1 rfl) ?_
  refine lv_aload_n C.1 C.2.1 dL_law_1809 rfl (lv_at hl 0 rfl) ?_
  refine lv_iload C.1 C.2.1 dL_law_1810 (lv_at hl 4 rfl) ?_
  refine lv_iconst (v := 1) C.1 C.2.1 dL_law_1812 (by decide) ?_
  refine r_iadd C (v := 1) dL_law_1813 (by decide) ?_
  refine r_sld C w hX hbl hbA (v := y1) (vinD (by decide)) sx1 dL_law_1814 ?_
  refine lv_aload_n C.1 C.2.1 dL_law_1815 rfl (lv_at hl 0 rfl) ?_
  refine lv_iload C.1 C.2.1 dL_law_1816 (lv_at hl 4 rfl) ?_
  refine lv_iconst (v := 2) C.1 C.2.1 dL_law_1818 (by decide) ?_
  refine r_iadd C (v := 2) dL_law_1819 (by decide) ?_
  refine r_sld C w hX hbl hbA (v := y2) (vinD (by decide)) sx2 dL_law_1820 ?_
  refine lv_aload_n C.1 C.2.1 dL_law_1821 rfl (lv_at hl 3 rfl) ?_
  refine r_callH C w fh_RL_213 (c_L_shortest_0 l D cy q0 o0 q1 q2 q4 q5 q6 q10 y1 y2 k0 k1 hst) (hl.1.trans hml.symm) [0] [1] (wr := [(m0, .inr (12, [.ref m1, .ref m2, .ref m3, .ref m4, .ref m5, .int 0, .ref m6, .int 0, .int 0, .int 0, .int 0, .int 0, .int 0, .int 0, .int 0, .int 0, .int 0, .int (-1), .ref m7, .ref m8, .int 0, .ref m9, .int 0, .ref m10, .ref m11, .ref m12, .ref m13, .ref m14, .int 0, .ref m15, .ref m16, .ref m17]))]) ⟨rfl, rfl, rfl, rfl, by decide⟩ rfl rfl ⟨Nat.le_of_ble_eq_true rfl, Nat.le_of_ble_eq_true rfl, Nat.le_of_ble_eq_true rfl⟩ 38 29851 ⟨rfl, rfl, Nat.le_of_ble_eq_true rfl, Nat.le_of_ble_eq_true rfl⟩ dL_law_1822 (fun u H locs hp w => ?_)
  have w : Wd D A s.heap [(m0, .inr (12, [.ref m1, .ref m2, .ref m3, .ref m4, .ref m5, .int 0, .ref m6, .int 0, .int 0, .int 0, .int 0, .int 0, .int 0, .int 0, .int 0, .int 0, .int 0, .int (-1), .ref m7, .ref m8, .int 0, .ref m9, .int 0, .ref m10, .ref m11, .ref m12, .ref m13, .ref m14, .int 0, .ref m15, .ref m16, .ref m17]))] _ _ := w.pick [0] rfl rfl
  refine r_top (g2 := F0 m 1825 ls [.int 1]) rfl ?_
  refine lv_istore (lv' := [(5, .int 1), (0, .ref b), (1, .ref q0), (2, .ref m0), (3, .ref o0), (4, .int 0)]) C.1 C.2.1 dL_law_1825 hl (by decide) rfl (fun ls hl => ?_)
  refine lv_aload_n C.1 C.2.1 dL_law_1827 rfl (lv_at hl 3 rfl) ?_
  refine lv_aload_n C.1 C.2.1 dL_law_1828 rfl (lv_at hl 1 rfl) ?_
  refine lv_iload C.1 C.2.1 dL_law_1829 (lv_at hl 5 rfl) ?_
  refine lv_iconst (v := 1) C.1 C.2.1 dL_law_1831 (by decide) ?_
  refine r_iadd C (v := 1) dL_law_1832 (by decide) ?_
  refine r_sld C w hX hbl hbA (v := y1) (vinD (by decide)) sx1 dL_law_1833 ?_
  refine lv_aload_n C.1 C.2.1 dL_law_1834 rfl (lv_at hl 1 rfl) ?_
  refine lv_iload C.1 C.2.1 dL_law_1835 (lv_at hl 5 rfl) ?_
  refine lv_iconst (v := 2) C.1 C.2.1 dL_law_1837 (by decide) ?_
  refine r_iadd C (v := 2) dL_law_1838 (by decide) ?_
  refine r_sld C w hX hbl hbA (v := y2) (vinD (by decide)) sx2 dL_law_1839 ?_
  refine r_callV C w fv_RL_215 (c_X12_shortest_0 l D cy m0 m1 m2 m3 m4 m5 m6 m7 m8 m9 m10 m11 m12 m13 m14 m15 m16 m17 y1 y2 k1) (hl.1.trans hml.symm) [0] [] (wr := []) ⟨rfl, rfl, rfl, rfl, by decide⟩ 0 rfl rfl rfl rfl rfl ⟨Nat.le_of_ble_eq_true rfl, Nat.le_of_ble_eq_true rfl, Nat.le_of_ble_eq_true rfl⟩ 38 29851 ⟨rfl, rfl, Nat.le_of_ble_eq_true rfl, Nat.le_of_ble_eq_true rfl⟩ dL_law_1840 (fun u H locs hp w => ?_)
  have w : Wd D A s.heap [(m0, .inr (12, [.ref m1, .ref m2, .ref m3, .ref m4, .ref m5, .int 1, .ref m6, .int 0, .int 0, .int 0, .int 0, .int 0, .int 0, .int 0, .int 0, .int 0, .int 0, .int (-1), .ref m7, .ref m8, .int 0, .ref m9, .int 0, .ref m10, .ref m11, .ref m12, .ref m13, .ref m14, .int 0, .ref m15, .ref m16, .ref m17]))] _ _ := w.pick [0] rfl rfl
  refine r_top (g2 := F0 m 1843 ls [.int 0]) rfl ?_
  refine lv_istore (lv' := [(6, .int 0), (5, .int 1), (0, .ref b), (1, .ref q0), (2, .ref m0), (3, .ref o0), (4, .int 0)]) C.1 C.2.1 dL_law_1843 hl (by decide) rfl (fun ls hl => ?_)
  refine lv_aload_n C.1 C.2.1 dL_law_1845 rfl (lv_at hl 4 rfl) ?_
  refine r_callV C w fv_RL_134 (c_X12_thrown_0 l D cy m0 m1 m2 m3 m4 m5 m6 m7 m8 m9 m10 m11 m12 m13 m14 m15 m16 m17) (hl.1.trans hml.symm) [0] [] (wr := []) ⟨rfl, rfl, rfl, rfl, by decide⟩ 0 rfl rfl rfl rfl rfl ⟨Nat.le_of_ble_eq_true rfl, Nat.le_of_ble_eq_true rfl, Nat.le_of_ble_eq_true rfl⟩ 38 29851 ⟨rfl, rfl, Nat.le_of_ble_eq_true rfl, Nat.le_of_ble_eq_true rfl⟩ dL_law_1846 (fun u H locs hp w => ?_)
  have w : Wd D A s.heap [(m0, .inr (12, [.ref m1, .ref m2, .ref m3, .ref m4, .ref m5, .int 1, .ref m6, .int 0, .int 0, .int 0, .int 0, .int 0, .int 0, .int 0, .int 0, .int 0, .int 0, .int (-1), .ref m7, .ref m8, .int 0, .ref m9, .int 0, .ref m10, .ref m11, .ref m12, .ref m13, .ref m14, .int 0, .ref m15, .ref m16, .ref m17]))] _ _ := w.pick [0] rfl rfl
  refine r_top (g2 := F0 m 1849 ls [.int 1]) rfl ?_
  refine lv_iload C.1 C.2.1 dL_law_1849 (lv_at hl 1 rfl) ?_
  refine b_icmp_eq_t C (tgt := 1856) dL_law_1851 (by decide) (by decide) ?_
  refine lv_iload C.1 C.2.1 dL_law_1856 (lv_at hl 1 rfl) ?_
  refine b_if_ne_t C (tgt := 1873) dL_law_1858 (by decide) (by decide) ?_
  refine lv_goto (tgt := 2461) C.1 C.2.1 dL_law_1873 (by decide) ?_
  refine W.widen (k := 600002) (n := 7302232) (Nat.le_of_ble_eq_true rfl) (Nat.le_of_ble_eq_true rfl) ?_
  exact kk _ _ _ w.2.2 (lv_sub hl [2, 6] rfl)
set_option maxRecDepth 100000 in
set_option maxHeartbeats 4000000 in
theorem s_L_25_1 {p : Program} {l : Launch} {e : Env} {s : State} {m : MethodId} {args : Array Value} {below : List Frame} {meth : Method} {c : Code} {Q : State → Prop} {D : va_G} {cy : Nat → ClassId} {A : Nat → Prop} {H : Heap} {locs : List Loc} {ls : Array Slot} {xs : Nat → Int32} (b q0 q1 q2 q4 q5 q6 q10 m0 m1 m2 m3 m4 m5 m6 m7 m8 m9 m10 m11 m12 m13 m14 m15 m16 m17 o0 : Nat) (y1 : Int32) (y2 : Int32) (k0 : y2 < 10) (k1 : ¬ y1 < 1) (k2 : 4 < y1) (sx1 : xs 1 = y1) (sx2 : xs 2 = y2) (hst : l.stackTraces = false) (C : Cx p s m args c cL_law RL D cy A) (hml : c.maxLocals = 8) (hX : va_X b 6 xs s s.heap) (hbl : b < s.heap.size) (hbA : ¬ A b) (w : Wd D A s.heap [(q0, .inr (11, [.ref q1, .int 0, .int 0, .int (-1), .ref q2, .ref q4, .ref q5, .ref q6, .ref q10, .null])), (m0, .inr (12, [.ref m1, .ref m2, .ref m3, .ref m4, .ref m5, .int 0, .ref m6, .int 0, .int 0, .int 0, .int 0, .int 0, .int 0, .int 0, .int 0, .int 0, .int 0, .int (-1), .ref m7, .ref m8, .int 0, .ref m9, .int 0, .ref m10, .ref m11, .ref m12, .ref m13, .ref m14, .int 0, .ref m15, .ref m16, .ref m17]))] H locs) (hl : lv_has ls 8 [(0, .ref b), (1, .ref q0), (2, .ref m0), (3, .ref o0), (4, .int 0)]) (kk : ∀ (H : Heap) (locs : List Loc) (ls : Array Slot), va_S A s.heap H locs → lv_has ls 8 [(0, .ref b), (4, .int 0)] → W p l e room_1 s m args below meth c H locs 600002 7302232 Q (F0 m 2461 ls [])) : W p l e room_1 s m args below meth c H locs 37 29845 Q (F0 m 1808 ls []) := by
  refine lv_aload_n C.1 C.2.1 dL_law_1808 rfl (lv_at hl 1 rfl) ?_
  refine lv_aload_n C.1 C.2.1 dL_law_1809 rfl (lv_at hl 0 rfl) ?_
  refine lv_iload C.1 C.2.1 dL_law_1810 (lv_at hl 4 rfl) ?_
  refine lv_iconst (v := 1) C.1 C.2.1 dL_law_1812 (by decide) ?_
  refine r_iadd C (v := 1) dL_law_1813 (by decide) ?_
  refine r_sld C w hX hbl hbA (v := y1) (vinD (by decide)) sx1 dL_law_1814 ?_
  refine lv_aload_n C.1 C.2.1 dL_law_1815 rfl (lv_at hl 0 rfl) ?_
  refine lv_iload C.1 C.2.1 dL_law_1816 (lv_at hl 4 rfl) ?_
  refine lv_iconst (v := 2) C.1 C.2.1 dL_law_1818 (by decide) ?_
  refine r_iadd C (v := 2) dL_law_1819 (by decide) ?_
  refine r_sld C w hX hbl hbA (v := y2) (vinD (by decide)) sx2 dL_law_1820 ?_
  refine lv_aload_n C.1 C.2.1 dL_law_1821 rfl (lv_at hl 3 rfl) ?_
  refine r_callH C w fh_RL_213 (c_L_shortest_1 l D cy q0 o0 q1 q2 q4 q5 q6 q10 y1 y2 k0 k1 k2 hst) (hl.1.trans hml.symm) [0] [1] (wr := [(m0, .inr (12, [.ref m1, .ref m2, .ref m3, .ref m4, .ref m5, .int 0, .ref m6, .int 0, .int 0, .int 0, .int 0, .int 0, .int 0, .int 0, .int 0, .int 0, .int 0, .int (-1), .ref m7, .ref m8, .int 0, .ref m9, .int 0, .ref m10, .ref m11, .ref m12, .ref m13, .ref m14, .int 0, .ref m15, .ref m16, .ref m17]))]) ⟨rfl, rfl, rfl, rfl, by decide⟩ rfl rfl ⟨Nat.le_of_ble_eq_true rfl, Nat.le_of_ble_eq_true rfl, Nat.le_of_ble_eq_true rfl⟩ 38 29851 ⟨rfl, rfl, Nat.le_of_ble_eq_true rfl, Nat.le_of_ble_eq_true rfl⟩ dL_law_1822 (fun u H locs hp w => ?_)
  have w : Wd D A s.heap [(m0, .inr (12, [.ref m1, .ref m2, .ref m3, .ref m4, .ref m5, .int 0, .ref m6, .int 0, .int 0, .int 0, .int 0, .int 0, .int 0, .int 0, .int 0, .int 0, .int 0, .int (-1), .ref m7, .ref m8, .int 0, .ref m9, .int 0, .ref m10, .ref m11, .ref m12, .ref m13, .ref m14, .int 0, .ref m15, .ref m16, .ref m17]))] _ _ := w.pick [0] rfl rfl
  refine r_top (g2 := F0 m 1825 ls [.int 1]) rfl ?_
  refine lv_istore (lv' := [(5, .int 1), (0, .ref b), (1, .ref q0), (2, .ref m0), (3, .ref o0), (4, .int 0)]) C.1 C.2.1 dL_law_1825 hl (by decide) rfl (fun ls hl => ?_)
  refine lv_aload_n C.1 C.2.1 dL_law_1827 rfl (lv_at hl 3 rfl) ?_
  refine lv_aload_n C.1 C.2.1 dL_law_1828 rfl (lv_at hl 1 rfl) ?_
  refine lv_iload C.1 C.2.1 dL_law_1829 (lv_at hl 5 rfl) ?_
  refine lv_iconst (v := 1) C.1 C.2.1 dL_law_1831 (by decide) ?_
  refine r_iadd C (v := 1) dL_law_1832 (by decide) ?_
  refine r_sld C w hX hbl hbA (v := y1) (vinD (by decide)) sx1 dL_law_1833 ?_
  refine lv_aload_n C.1 C.2.1 dL_law_1834 rfl (lv_at hl 1 rfl) ?_
  refine lv_iload C.1 C.2.1 dL_law_1835 (lv_at hl 5 rfl) ?_
  refine lv_iconst (v := 2) C.1 C.2.1 dL_law_1837 (by decide) ?_
  refine r_iadd C (v := 2) dL_law_1838 (by decide) ?_
  refine r_sld C w hX hbl hbA (v := y2) (vinD (by decide)) sx2 dL_law_1839 ?_
  refine r_callV C w fv_RL_215 (c_X12_shortest_12 l D cy m0 m1 m2 m3 m4 m5 m6 m7 m8 m9 m10 m11 m12 m13 m14 m15 m16 m17 y1 y2 k1 k2) (hl.1.trans hml.symm) [0] [] (wr := []) ⟨rfl, rfl, rfl, rfl, by decide⟩ 0 rfl rfl rfl rfl rfl ⟨Nat.le_of_ble_eq_true rfl, Nat.le_of_ble_eq_true rfl, Nat.le_of_ble_eq_true rfl⟩ 38 29851 ⟨rfl, rfl, Nat.le_of_ble_eq_true rfl, Nat.le_of_ble_eq_true rfl⟩ dL_law_1840 (fun u H locs hp w => ?_)
  have w : Wd D A s.heap [(m0, .inr (12, [.ref m1, .ref m2, .ref m3, .ref m4, .ref m5, .int 1, .ref m6, .int 0, .int 0, .int 0, .int 0, .int 0, .int 0, .int 0, .int 0, .int 0, .int 0, .int (-1), .ref m7, .ref m8, .int 0, .ref m9, .int 0, .ref m10, .ref m11, .ref m12, .ref m13, .ref m14, .int 0, .ref m15, .ref m16, .ref m17]))] _ _ := w.pick [0] rfl rfl
  refine r_top (g2 := F0 m 1843 ls [.int 0]) rfl ?_
  refine lv_istore (lv' := [(6, .int 0), (5, .int 1), (0, .ref b), (1, .ref q0), (2, .ref m0), (3, .ref o0), (4, .int 0)]) C.1 C.2.1 dL_law_1843 hl (by decide) rfl (fun ls hl => ?_)
  refine lv_aload_n C.1 C.2.1 dL_law_1845 rfl (lv_at hl 4 rfl) ?_
  refine r_callV C w fv_RL_134 (c_X12_thrown_0 l D cy m0 m1 m2 m3 m4 m5 m6 m7 m8 m9 m10 m11 m12 m13 m14 m15 m16 m17) (hl.1.trans hml.symm) [0] [] (wr := []) ⟨rfl, rfl, rfl, rfl, by decide⟩ 0 rfl rfl rfl rfl rfl ⟨Nat.le_of_ble_eq_true rfl, Nat.le_of_ble_eq_true rfl, Nat.le_of_ble_eq_true rfl⟩ 38 29851 ⟨rfl, rfl, Nat.le_of_ble_eq_true rfl, Nat.le_of_ble_eq_true rfl⟩ dL_law_1846 (fun u H locs hp w => ?_)
  have w : Wd D A s.heap [(m0, .inr (12, [.ref m1, .ref m2, .ref m3, .ref m4, .ref m5, .int 1, .ref m6, .int 0, .int 0, .int 0, .int 0, .int 0, .int 0, .int 0, .int 0, .int 0, .int 0, .int (-1), .ref m7, .ref m8, .int 0, .ref m9, .int 0, .ref m10, .ref m11, .ref m12, .ref m13, .ref m14, .int 0, .ref m15, .ref m16, .ref m17]))] _ _ := w.pick [0] rfl rfl
  refine r_top (g2 := F0 m 1849 ls [.int 1]) rfl ?_
  refine lv_iload C.1 C.2.1 dL_law_1849 (lv_at hl 1 rfl) ?_
  refine b_icmp_eq_t C (tgt := 1856) dL_law_1851 (by decide) (by decide) ?_
  refine lv_iload C.1 C.2.1 dL_law_1856 (lv_at hl 1 rfl) ?_
  refine b_if_ne_t C (tgt := 1873) dL_law_1858 (by decide) (by decide) ?_
  refine lv_goto (tgt := 2461) C.1 C.2.1 dL_law_1873 (by decide) ?_
  refine W.widen (k := 600002) (n := 7302232) (Nat.le_of_ble_eq_true rfl) (Nat.le_of_ble_eq_true rfl) ?_
  exact kk _ _ _ w.2.2 (lv_sub hl [2, 6] rfl)
theorem dL_law_1861 : decode cL_law 1861 = .ok (.aload_n 3, 1) := by decide +kernel
theorem dL_law_1862 : decode cL_law 1862 = .ok (.iconst 0, 1) := by decide +kernel
theorem dL_law_1863 : decode cL_law 1863 = .ok (.laload, 1) := by decide +kernel
theorem dL_law_1864 : decode cL_law 1864 = .ok (.iload 6, 2) := by decide +kernel
theorem dL_law_1866 : decode cL_law 1866 = .ok (.i2l, 1) := by decide +kernel
theorem dL_law_1867 : decode cL_law 1867 = .ok (.lcmp, 1) := by decide +kernel
theorem dL_law_1868 : decode cL_law 1868 = .ok (.ifCond .eq 5, 3) := by decide +kernel
set_option maxRecDepth 100000 in
set_option maxHeartbeats 4000000 in
theorem s_L_25_2 {p : Program} {l : Launch} {e : Env} {s : State} {m : MethodId} {args : Array Value} {below : List Frame} {meth : Method} {c : Code} {Q : State → Prop} {D : va_G} {cy : Nat → ClassId} {A : Nat → Prop} {H : Heap} {locs : List Loc} {ls : Array Slot} {xs : Nat → Int32} (b q0 q1 q2 q4 q5 q6 q10 q11 q12 q13 q14 q15 q16 q17 m0 m1 m2 m3 m4 m5 m6 m7 m8 m9 m10 m11 m12 m13 m14 m15 m16 m17 o0 : Nat) (sx1 : xs 1 = 1) (sx2 : xs 2 = 0) (C : Cx p s m args c cL_law RL D cy A) (hml : c.maxLocals = 8) (hX : va_X b 6 xs s s.heap) (hbl : b < s.heap.size) (hbA : ¬ A b) (w : Wd D A s.heap [(q0, .inr (11, [.ref q1, .int 0, .int 0, .int (-1), .ref q2, .ref q4, .ref q5, .ref q6, .ref q10, .null])), (q10, .inr (9, [.int 0, .int 2, .int 20, .int 120, .int 0, .int 0, .int 0, .int 0, .ref q11, .int 0, .ref q12, .ref q13, .int 0, .ref q14, .ref q15, .ref q16, .ref q17])), (m0, .inr (12, [.ref m1, .ref m2, .ref m3, .ref m4, .ref m5, .int 0, .ref m6, .int 0, .int 0, .int 0, .int 0, .int 0, .int 0, .int 0, .int 0, .int 0, .int 0, .int (-1), .ref m7, .ref m8, .int 0, .ref m9, .int 0, .ref m10, .ref m11, .ref m12, .ref m13, .ref m14, .int 0, .ref m15, .ref m16, .ref m17])), (m7, .inl (cy 1, 1830, .inl (fun _ => 0))), (m8, .inl (cy 1, 1830, .inl (fun _ => 0))), (m9, .inl (cy 2, 2465, .inr (.inl (fun _ => 0)))), (m1, .inl (cy 1, 1868, .inl (upd (upd (upd (fun _ => 0) 1 2) 2 20) 3 120))), (o0, .inl (cy 2, 1, .inr (.inl (fun _ => 0))))] H locs) (hl : lv_has ls 8 [(0, .ref b), (1, .ref q0), (2, .ref m0), (3, .ref o0), (4, .int 0)]) (kk : ∀ (H : Heap) (locs : List Loc) (ls : Array Slot), va_S A s.heap H locs → lv_has ls 8 [(0, .ref b), (4, .int 0)] → W p l e room_1 s m args below meth c H locs 600002 7302232 Q (F0 m 2461 ls [])) : W p l e room_1 s m args below meth c H locs 37 29845 Q (F0 m 1808 ls []) := by
  refine lv_aload_n C.1 C.2.1 dL_law_1808 rfl (lv_at hl 1 rfl) ?_
  refine lv_aload_n C.1 C.2.1 dL_law_1809 rfl (lv_at hl 0 rfl) ?_
  refine lv_iload C.1 C.2.1 dL_law_1810 (lv_at hl 4 rfl) ?_
  refine lv_iconst (v := 1) C.1 C.2.1 dL_law_1812 (by decide) ?_
  refine r_iadd C (v := 1) dL_law_1813 (by decide) ?_
  refine r_sld C w hX hbl hbA (v := 1) (vinD (by decide)) sx1 dL_law_1814 ?_
  refine lv_aload_n C.1 C.2.1 dL_law_1815 rfl (lv_at hl 0 rfl) ?_
  refine lv_iload C.1 C.2.1 dL_law_1816 (lv_at hl 4 rfl) ?_
  refine lv_iconst (v := 2) C.1 C.2.1 dL_law_1818 (by decide) ?_
  refine r_iadd C (v := 2) dL_law_1819 (by decide) ?_
  refine r_sld C w hX hbl hbA (v := 0) (vinD (by decide)) sx2 dL_law_1820 ?_
  refine lv_aload_n C.1 C.2.1 dL_law_1821 rfl (lv_at hl 3 rfl) ?_
  refine r_callH C w fh_RL_213 (c_L_shortest_2 l D cy q0 o0 q1 q2 q4 q5 q6 q10 q11 q12 q13 q14 q15 q16 q17) (hl.1.trans hml.symm) [0, 1, 7] [2, 3, 4, 5, 6] (wr := [(m0, .inr (12, [.ref m1, .ref m2, .ref m3, .ref m4, .ref m5, .int 0, .ref m6, .int 0, .int 0, .int 0, .int 0, .int 0, .int 0, .int 0, .int 0, .int 0, .int 0, .int (-1), .ref m7, .ref m8, .int 0, .ref m9, .int 0, .ref m10, .ref m11, .ref m12, .ref m13, .ref m14, .int 0, .ref m15, .ref m16, .ref m17])), (m7, .inl (cy 1, 1830, .inl (fun _ => 0))), (m8, .inl (cy 1, 1830, .inl (fun _ => 0))), (m9, .inl (cy 2, 2465, .inr (.inl (fun _ => 0)))), (m1, .inl (cy 1, 1868, .inl (upd (upd (upd (fun _ => 0) 1 2) 2 20) 3 120)))]) ⟨rfl, rfl, rfl, rfl, by decide⟩ rfl rfl ⟨Nat.le_of_ble_eq_true rfl, Nat.le_of_ble_eq_true rfl, Nat.le_of_ble_eq_true rfl⟩ 73 53662 ⟨rfl, rfl, Nat.le_of_ble_eq_true rfl, Nat.le_of_ble_eq_true rfl⟩ dL_law_1822 (fun u H locs hp w => ?_)
  obtain ⟨n1, n2, n3, n4, n5, n6, n7, n8, n9, n10, n11, n12, n13, n14, n15, n16, n17, n18, n19, n20, n21, n22, n23, n24, n25, n26, n27, n28, n29, n30, n31, n32, n33, n34, n35, n36⟩ := u
  have w : Wd D A s.heap [(m0, .inr (12, [.ref m1, .ref m2, .ref m3, .ref m4, .ref m5, .int 0, .ref m6, .int 0, .int 0, .int 0, .int 0, .int 0, .int 0, .int 0, .int 0, .int 0, .int 0, .int (-1), .ref m7, .ref m8, .int 0, .ref m9, .int 0, .ref m10, .ref m11, .ref m12, .ref m13, .ref m14, .int 0, .ref m15, .ref m16, .ref m17])), (m7, .inl (cy 1, 1830, .inl (fun _ => 0))), (m8, .inl (cy 1, 1830, .inl (fun _ => 0))), (m9, .inl (cy 2, 2465, .inr (.inl (fun _ => 0)))), (m1, .inl (cy 1, 1868, .inl (upd (upd (upd (fun _ => 0) 1 2) 2 20) 3 120))), (o0, .inl (cy 2, 1, .inr (.inl (vp_updL (fun _ => 0) 0 (-1)))))] _ _ := w.pick [0, 1, 2, 3, 4, 5] rfl rfl
  refine r_top (g2 := F0 m 1825 ls [.int 0]) rfl ?_
  refine lv_istore (lv' := [(5, .int 0), (0, .ref b), (1, .ref q0), (2, .ref m0), (3, .ref o0), (4, .int 0)]) C.1 C.2.1 dL_law_1825 hl (by decide) rfl (fun ls hl => ?_)
  refine lv_aload_n C.1 C.2.1 dL_law_1827 rfl (lv_at hl 3 rfl) ?_
  refine lv_aload_n C.1 C.2.1 dL_law_1828 rfl (lv_at hl 1 rfl) ?_
  refine lv_iload C.1 C.2.1 dL_law_1829 (lv_at hl 5 rfl) ?_
  refine lv_iconst (v := 1) C.1 C.2.1 dL_law_1831 (by decide) ?_
  refine r_iadd C (v := 1) dL_law_1832 (by decide) ?_
  refine r_sld C w hX hbl hbA (v := 1) (vinD (by decide)) sx1 dL_law_1833 ?_
  refine lv_aload_n C.1 C.2.1 dL_law_1834 rfl (lv_at hl 1 rfl) ?_
  refine lv_iload C.1 C.2.1 dL_law_1835 (lv_at hl 5 rfl) ?_
  refine lv_iconst (v := 2) C.1 C.2.1 dL_law_1837 (by decide) ?_
  refine r_iadd C (v := 2) dL_law_1838 (by decide) ?_
  refine r_sld C w hX hbl hbA (v := 0) (vinD (by decide)) sx2 dL_law_1839 ?_
  refine r_callV C w fv_RL_215 (c_X12_shortest_2 l D cy m0 m1 m2 m3 m4 m5 m6 m7 m8 m9 m10 m11 m12 m13 m14 m15 m16 m17 0 (by decide) (by decide)) (hl.1.trans hml.symm) [0, 4, 1, 2, 3] [5] (wr := [(o0, .inl (cy 2, 1, .inr (.inl (vp_updL (fun _ => 0) 0 (-1)))))]) ⟨rfl, rfl, rfl, rfl, by decide⟩ 0 rfl rfl rfl rfl rfl ⟨Nat.le_of_ble_eq_true rfl, Nat.le_of_ble_eq_true rfl, Nat.le_of_ble_eq_true rfl⟩ 73 53662 ⟨rfl, rfl, Nat.le_of_ble_eq_true rfl, Nat.le_of_ble_eq_true rfl⟩ dL_law_1840 (fun u H locs hp w => ?_)
  have w : Wd D A s.heap [(o0, .inl (cy 2, 1, .inr (.inl (vp_updL (fun _ => 0) 0 (-1))))), (m0, .inr (12, [.ref m1, .ref m2, .ref m3, .ref m4, .ref m5, .int 0, .ref m6, .int 0, .int 0, .int 0, .int 0, .int 0, .int 0, .int 0, .int 0, .int 0, .int 0, .int (-1), .ref m7, .ref m8, .int 190, .ref m9, .int 0, .ref m10, .ref m11, .ref m12, .ref m13, .ref m14, .int 0, .ref m15, .ref m16, .ref m17]))] _ _ := w.pick [0, 4] rfl rfl
  refine r_top (g2 := F0 m 1843 ls [.int (-1)]) rfl ?_
  refine lv_istore (lv' := [(6, .int (-1)), (5, .int 0), (0, .ref b), (1, .ref q0), (2, .ref m0), (3, .ref o0), (4, .int 0)]) C.1 C.2.1 dL_law_1843 hl (by decide) rfl (fun ls hl => ?_)
  refine lv_aload_n C.1 C.2.1 dL_law_1845 rfl (lv_at hl 4 rfl) ?_
  refine r_callV C w fv_RL_134 (c_X12_thrown_3 l D cy m0 m1 m2 m3 m4 m5 m6 m7 m8 m9 m10 m11 m12 m13 m14 m15 m16 m17) (hl.1.trans hml.symm) [1] [0] (wr := [(o0, .inl (cy 2, 1, .inr (.inl (vp_updL (fun _ => 0) 0 (-1)))))]) ⟨rfl, rfl, rfl, rfl, by decide⟩ 0 rfl rfl rfl rfl rfl ⟨Nat.le_of_ble_eq_true rfl, Nat.le_of_ble_eq_true rfl, Nat.le_of_ble_eq_true rfl⟩ 73 53662 ⟨rfl, rfl, Nat.le_of_ble_eq_true rfl, Nat.le_of_ble_eq_true rfl⟩ dL_law_1846 (fun u H locs hp w => ?_)
  have w : Wd D A s.heap [(o0, .inl (cy 2, 1, .inr (.inl (vp_updL (fun _ => 0) 0 (-1))))), (m0, .inr (12, [.ref m1, .ref m2, .ref m3, .ref m4, .ref m5, .int 0, .ref m6, .int 0, .int 0, .int 0, .int 0, .int 0, .int 0, .int 0, .int 0, .int 0, .int 0, .int (-1), .ref m7, .ref m8, .int 190, .ref m9, .int 0, .ref m10, .ref m11, .ref m12, .ref m13, .ref m14, .int 0, .ref m15, .ref m16, .ref m17]))] _ _ := w.pick [0, 1] rfl rfl
  refine r_top (g2 := F0 m 1849 ls [.int 0]) rfl ?_
  refine lv_iload C.1 C.2.1 dL_law_1849 (lv_at hl 1 rfl) ?_
  refine b_icmp_eq_t C (tgt := 1856) dL_law_1851 (by decide) (by decide) ?_
  refine lv_iload C.1 C.2.1 dL_law_1856 (lv_at hl 1 rfl) ?_
  refine b_if_ne_f C (tgt := 1873) dL_law_1858 (by decide) (by decide) ?_
  refine lv_aload_n C.1 C.2.1 dL_law_1861 rfl (lv_at hl 5 rfl) ?_
  refine lv_iconst (v := 0) C.1 C.2.1 dL_law_1862 (by decide) ?_
  refine r_lald C w 0 rfl (v := (-1)) (vinD (by decide)) rfl dL_law_1863 ?_
  refine lv_iload C.1 C.2.1 dL_law_1864 (lv_at hl 0 rfl) ?_
  refine lv_i2l (v := (-1)) C.1 C.2.1 dL_law_1866 (by decide) ?_
  refine r_lcmp C (v := 0) dL_law_1867 (by decide) ?_
  refine b_if_eq_t C (tgt := 1873) dL_law_1868 (by decide) (by decide) ?_
  refine lv_goto (tgt := 2461) C.1 C.2.1 dL_law_1873 (by decide) ?_
  refine W.widen (k := 600002) (n := 7302232) (Nat.le_of_ble_eq_true rfl) (Nat.le_of_ble_eq_true rfl) ?_
  exact kk _ _ _ w.2.2 (lv_sub hl [2, 6] rfl)
set_option maxRecDepth 100000 in
set_option maxHeartbeats 4000000 in
theorem s_L_25_3 {p : Program} {l : Launch} {e : Env} {s : State} {m : MethodId} {args : Array Value} {below : List Frame} {meth : Method} {c : Code} {Q : State → Prop} {D : va_G} {cy : Nat → ClassId} {A : Nat → Prop} {H : Heap} {locs : List Loc} {ls : Array Slot} {xs : Nat → Int32} (b q0 q1 q2 q4 q5 q6 q10 q11 q12 q13 q14 q15 q16 q17 m0 m1 m2 m3 m4 m5 m6 m7 m8 m9 m10 m11 m12 m13 m14 m15 m16 m17 o0 : Nat) (sx1 : xs 1 = 4) (sx2 : xs 2 = 0) (C : Cx p s m args c cL_law RL D cy A) (hml : c.maxLocals = 8) (hX : va_X b 6 xs s s.heap) (hbl : b < s.heap.size) (hbA : ¬ A b) (w : Wd D A s.heap [(q0, .inr (11, [.ref q1, .int 0, .int 0, .int (-1), .ref q2, .ref q4, .ref q5, .ref q6, .ref q10, .null])), (q10, .inr (9, [.int 0, .int 2, .int 20, .int 120, .int 0, .int 0, .int 0, .int 0, .ref q11, .int 0, .ref q12, .ref q13, .int 0, .ref q14, .ref q15, .ref q16, .ref q17])), (m0, .inr (12, [.ref m1, .ref m2, .ref m3, .ref m4, .ref m5, .int 0, .ref m6, .int 0, .int 0, .int 0, .int 0, .int 0, .int 0, .int 0, .int 0, .int 0, .int 0, .int (-1), .ref m7, .ref m8, .int 0, .ref m9, .int 0, .ref m10, .ref m11, .ref m12, .ref m13, .ref m14, .int 0, .ref m15, .ref m16, .ref m17])), (m7, .inl (cy 1, 1830, .inl (fun _ => 0))), (m8, .inl (cy 1, 1830, .inl (fun _ => 0))), (m9, .inl (cy 2, 2465, .inr (.inl (fun _ => 0)))), (m1, .inl (cy 1, 1868, .inl (upd (upd (upd (fun _ => 0) 1 2) 2 20) 3 120))), (o0, .inl (cy 2, 1, .inr (.inl (fun _ => 0))))] H locs) (hl : lv_has ls 8 [(0, .ref b), (1, .ref q0), (2, .ref m0), (3, .ref o0), (4, .int 0)]) (kk : ∀ (H : Heap) (locs : List Loc) (ls : Array Slot), va_S A s.heap H locs → lv_has ls 8 [(0, .ref b), (4, .int 0)] → W p l e room_1 s m args below meth c H locs 600002 7302232 Q (F0 m 2461 ls [])) : W p l e room_1 s m args below meth c H locs 37 29845 Q (F0 m 1808 ls []) := by
  refine lv_aload_n C.1 C.2.1 dL_law_1808 rfl (lv_at hl 1 rfl) ?_
  refine lv_aload_n C.1 C.2.1 dL_law_1809 rfl (lv_at hl 0 rfl) ?_
  refine lv_iload C.1 C.2.1 dL_law_1810 (lv_at hl 4 rfl) ?_
  refine lv_iconst (v := 1) C.1 C.2.1 dL_law_1812 (by decide) ?_
  refine r_iadd C (v := 1) dL_law_1813 (by decide) ?_
  refine r_sld C w hX hbl hbA (v := 4) (vinD (by decide)) sx1 dL_law_1814 ?_
  refine lv_aload_n C.1 C.2.1 dL_law_1815 rfl (lv_at hl 0 rfl) ?_
  refine lv_iload C.1 C.2.1 dL_law_1816 (lv_at hl 4 rfl) ?_
  refine lv_iconst (v := 2) C.1 C.2.1 dL_law_1818 (by decide) ?_
  refine r_iadd C (v := 2) dL_law_1819 (by decide) ?_
  refine r_sld C w hX hbl hbA (v := 0) (vinD (by decide)) sx2 dL_law_1820 ?_
  refine lv_aload_n C.1 C.2.1 dL_law_1821 rfl (lv_at hl 3 rfl) ?_
  refine r_callH C w fh_RL_213 (c_L_shortest_3 l D cy q0 o0 q1 q2 q4 q5 q6 q10 q11 q12 q13 q14 q15 q16 q17) (hl.1.trans hml.symm) [0, 1, 7] [2, 3, 4, 5, 6] (wr := [(m0, .inr (12, [.ref m1, .ref m2, .ref m3, .ref m4, .ref m5, .int 0, .ref m6, .int 0, .int 0, .int 0, .int 0, .int 0, .int 0, .int 0, .int 0, .int 0, .int 0, .int (-1), .ref m7, .ref m8, .int 0, .ref m9, .int 0, .ref m10, .ref m11, .ref m12, .ref m13, .ref m14, .int 0, .ref m15, .ref m16, .ref m17])), (m7, .inl (cy 1, 1830, .inl (fun _ => 0))), (m8, .inl (cy 1, 1830, .inl (fun _ => 0))), (m9, .inl (cy 2, 2465, .inr (.inl (fun _ => 0)))), (m1, .inl (cy 1, 1868, .inl (upd (upd (upd (fun _ => 0) 1 2) 2 20) 3 120)))]) ⟨rfl, rfl, rfl, rfl, by decide⟩ rfl rfl ⟨Nat.le_of_ble_eq_true rfl, Nat.le_of_ble_eq_true rfl, Nat.le_of_ble_eq_true rfl⟩ 73 53662 ⟨rfl, rfl, Nat.le_of_ble_eq_true rfl, Nat.le_of_ble_eq_true rfl⟩ dL_law_1822 (fun u H locs hp w => ?_)
  obtain ⟨n1, n2, n3, n4, n5, n6, n7, n8, n9, n10, n11, n12, n13, n14, n15, n16, n17, n18, n19, n20, n21, n22, n23, n24, n25, n26, n27, n28, n29, n30, n31, n32, n33, n34, n35, n36⟩ := u
  have w : Wd D A s.heap [(m0, .inr (12, [.ref m1, .ref m2, .ref m3, .ref m4, .ref m5, .int 0, .ref m6, .int 0, .int 0, .int 0, .int 0, .int 0, .int 0, .int 0, .int 0, .int 0, .int 0, .int (-1), .ref m7, .ref m8, .int 0, .ref m9, .int 0, .ref m10, .ref m11, .ref m12, .ref m13, .ref m14, .int 0, .ref m15, .ref m16, .ref m17])), (m7, .inl (cy 1, 1830, .inl (fun _ => 0))), (m8, .inl (cy 1, 1830, .inl (fun _ => 0))), (m9, .inl (cy 2, 2465, .inr (.inl (fun _ => 0)))), (m1, .inl (cy 1, 1868, .inl (upd (upd (upd (fun _ => 0) 1 2) 2 20) 3 120))), (o0, .inl (cy 2, 1, .inr (.inl (vp_updL (fun _ => 0) 0 (-1)))))] _ _ := w.pick [0, 1, 2, 3, 4, 5] rfl rfl
  refine r_top (g2 := F0 m 1825 ls [.int 0]) rfl ?_
  refine lv_istore (lv' := [(5, .int 0), (0, .ref b), (1, .ref q0), (2, .ref m0), (3, .ref o0), (4, .int 0)]) C.1 C.2.1 dL_law_1825 hl (by decide) rfl (fun ls hl => ?_)
  refine lv_aload_n C.1 C.2.1 dL_law_1827 rfl (lv_at hl 3 rfl) ?_
  refine lv_aload_n C.1 C.2.1 dL_law_1828 rfl (lv_at hl 1 rfl) ?_
  refine lv_iload C.1 C.2.1 dL_law_1829 (lv_at hl 5 rfl) ?_
  refine lv_iconst (v := 1) C.1 C.2.1 dL_law_1831 (by decide) ?_
  refine r_iadd C (v := 1) dL_law_1832 (by decide) ?_
  refine r_sld C w hX hbl hbA (v := 4) (vinD (by decide)) sx1 dL_law_1833 ?_
  refine lv_aload_n C.1 C.2.1 dL_law_1834 rfl (lv_at hl 1 rfl) ?_
  refine lv_iload C.1 C.2.1 dL_law_1835 (lv_at hl 5 rfl) ?_
  refine lv_iconst (v := 2) C.1 C.2.1 dL_law_1837 (by decide) ?_
  refine r_iadd C (v := 2) dL_law_1838 (by decide) ?_
  refine r_sld C w hX hbl hbA (v := 0) (vinD (by decide)) sx2 dL_law_1839 ?_
  refine r_callV C w fv_RL_215 (c_X12_shortest_5 l D cy m0 m1 m2 m3 m4 m5 m6 m7 m8 m9 m10 m11 m12 m13 m14 m15 m16 m17 0 (by decide) (by decide)) (hl.1.trans hml.symm) [0, 4, 1, 2, 3] [5] (wr := [(o0, .inl (cy 2, 1, .inr (.inl (vp_updL (fun _ => 0) 0 (-1)))))]) ⟨rfl, rfl, rfl, rfl, by decide⟩ 0 rfl rfl rfl rfl rfl ⟨Nat.le_of_ble_eq_true rfl, Nat.le_of_ble_eq_true rfl, Nat.le_of_ble_eq_true rfl⟩ 73 53662 ⟨rfl, rfl, Nat.le_of_ble_eq_true rfl, Nat.le_of_ble_eq_true rfl⟩ dL_law_1840 (fun u H locs hp w => ?_)
  have w : Wd D A s.heap [(o0, .inl (cy 2, 1, .inr (.inl (vp_updL (fun _ => 0) 0 (-1))))), (m0, .inr (12, [.ref m1, .ref m2, .ref m3, .ref m4, .ref m5, .int 0, .ref m6, .int 0, .int 0, .int 0, .int 0, .int 0, .int 0, .int 0, .int 0, .int 0, .int 0, .int (-1), .ref m7, .ref m8, .int 190, .ref m9, .int 0, .ref m10, .ref m11, .ref m12, .ref m13, .ref m14, .int 0, .ref m15, .ref m16, .ref m17]))] _ _ := w.pick [0, 4] rfl rfl
  refine r_top (g2 := F0 m 1843 ls [.int (-1)]) rfl ?_
  refine lv_istore (lv' := [(6, .int (-1)), (5, .int 0), (0, .ref b), (1, .ref q0), (2, .ref m0), (3, .ref o0), (4, .int 0)]) C.1 C.2.1 dL_law_1843 hl (by decide) rfl (fun ls hl => ?_)
  refine lv_aload_n C.1 C.2.1 dL_law_1845 rfl (lv_at hl 4 rfl) ?_
  refine r_callV C w fv_RL_134 (c_X12_thrown_3 l D cy m0 m1 m2 m3 m4 m5 m6 m7 m8 m9 m10 m11 m12 m13 m14 m15 m16 m17) (hl.1.trans hml.symm) [1] [0] (wr := [(o0, .inl (cy 2, 1, .inr (.inl (vp_updL (fun _ => 0) 0 (-1)))))]) ⟨rfl, rfl, rfl, rfl, by decide⟩ 0 rfl rfl rfl rfl rfl ⟨Nat.le_of_ble_eq_true rfl, Nat.le_of_ble_eq_true rfl, Nat.le_of_ble_eq_true rfl⟩ 73 53662 ⟨rfl, rfl, Nat.le_of_ble_eq_true rfl, Nat.le_of_ble_eq_true rfl⟩ dL_law_1846 (fun u H locs hp w => ?_)
  have w : Wd D A s.heap [(o0, .inl (cy 2, 1, .inr (.inl (vp_updL (fun _ => 0) 0 (-1))))), (m0, .inr (12, [.ref m1, .ref m2, .ref m3, .ref m4, .ref m5, .int 0, .ref m6, .int 0, .int 0, .int 0, .int 0, .int 0, .int 0, .int 0, .int 0, .int 0, .int 0, .int (-1), .ref m7, .ref m8, .int 190, .ref m9, .int 0, .ref m10, .ref m11, .ref m12, .ref m13, .ref m14, .int 0, .ref m15, .ref m16, .ref m17]))] _ _ := w.pick [0, 1] rfl rfl
  refine r_top (g2 := F0 m 1849 ls [.int 0]) rfl ?_
  refine lv_iload C.1 C.2.1 dL_law_1849 (lv_at hl 1 rfl) ?_
  refine b_icmp_eq_t C (tgt := 1856) dL_law_1851 (by decide) (by decide) ?_
  refine lv_iload C.1 C.2.1 dL_law_1856 (lv_at hl 1 rfl) ?_
  refine b_if_ne_f C (tgt := 1873) dL_law_1858 (by decide) (by decide) ?_
  refine lv_aload_n C.1 C.2.1 dL_law_1861 rfl (lv_at hl 5 rfl) ?_
  refine lv_iconst (v := 0) C.1 C.2.1 dL_law_1862 (by decide) ?_
  refine r_lald C w 0 rfl (v := (-1)) (vinD (by decide)) rfl dL_law_1863 ?_
  refine lv_iload C.1 C.2.1 dL_law_1864 (lv_at hl 0 rfl) ?_
  refine lv_i2l (v := (-1)) C.1 C.2.1 dL_law_1866 (by decide) ?_
  refine r_lcmp C (v := 0) dL_law_1867 (by decide) ?_
  refine b_if_eq_t C (tgt := 1873) dL_law_1868 (by decide) (by decide) ?_
  refine lv_goto (tgt := 2461) C.1 C.2.1 dL_law_1873 (by decide) ?_
  refine W.widen (k := 600002) (n := 7302232) (Nat.le_of_ble_eq_true rfl) (Nat.le_of_ble_eq_true rfl) ?_
  exact kk _ _ _ w.2.2 (lv_sub hl [2, 6] rfl)
set_option maxRecDepth 100000 in
set_option maxHeartbeats 4000000 in
theorem s_L_25_4 {p : Program} {l : Launch} {e : Env} {s : State} {m : MethodId} {args : Array Value} {below : List Frame} {meth : Method} {c : Code} {Q : State → Prop} {D : va_G} {cy : Nat → ClassId} {A : Nat → Prop} {H : Heap} {locs : List Loc} {ls : Array Slot} {xs : Nat → Int32} (b q0 q1 q2 q4 q5 q6 q10 q11 q12 q13 q14 q15 q16 q17 m0 m1 m2 m3 m4 m5 m6 m7 m8 m9 m10 m11 m12 m13 m14 m15 m16 m17 o0 : Nat) (sx1 : xs 1 = 3) (sx2 : xs 2 = 0) (C : Cx p s m args c cL_law RL D cy A) (hml : c.maxLocals = 8) (hX : va_X b 6 xs s s.heap) (hbl : b < s.heap.size) (hbA : ¬ A b) (w : Wd D A s.heap [(q0, .inr (11, [.ref q1, .int 0, .int 0, .int (-1), .ref q2, .ref q4, .ref q5, .ref q6, .ref q10, .null])), (q10, .inr (9, [.int 0, .int 2, .int 20, .int 120, .int 0, .int 0, .int 0, .int 0, .ref q11, .int 0, .ref q12, .ref q13, .int 0, .ref q14, .ref q15, .ref q16, .ref q17])), (m0, .inr (12, [.ref m1, .ref m2, .ref m3, .ref m4, .ref m5, .int 0, .ref m6, .int 0, .int 0, .int 0, .int 0, .int 0, .int 0, .int 0, .int 0, .int 0, .int 0, .int (-1), .ref m7, .ref m8, .int 0, .ref m9, .int 0, .ref m10, .ref m11, .ref m12, .ref m13, .ref m14, .int 0, .ref m15, .ref m16, .ref m17])), (m7, .inl (cy 1, 1830, .inl (fun _ => 0))), (m8, .inl (cy 1, 1830, .inl (fun _ => 0))), (m9, .inl (cy 2, 2465, .inr (.inl (fun _ => 0)))), (m1, .inl (cy 1, 1868, .inl (upd (upd (upd (fun _ => 0) 1 2) 2 20) 3 120))), (o0, .inl (cy 2, 1, .inr (.inl (fun _ => 0))))] H locs) (hl : lv_has ls 8 [(0, .ref b), (1, .ref q0), (2, .ref m0), (3, .ref o0), (4, .int 0)]) (kk : ∀ (H : Heap) (locs : List Loc) (ls : Array Slot), va_S A s.heap H locs → lv_has ls 8 [(0, .ref b), (4, .int 0)] → W p l e room_1 s m args below meth c H locs 600002 7302232 Q (F0 m 2461 ls [])) : W p l e room_1 s m args below meth c H locs 37 29845 Q (F0 m 1808 ls []) := by
  refine lv_aload_n C.1 C.2.1 dL_law_1808 rfl (lv_at hl 1 rfl) ?_
  refine lv_aload_n C.1 C.2.1 dL_law_1809 rfl (lv_at hl 0 rfl) ?_
  refine lv_iload C.1 C.2.1 dL_law_1810 (lv_at hl 4 rfl) ?_
  refine lv_iconst (v := 1) C.1 C.2.1 dL_law_1812 (by decide) ?_
  refine r_iadd C (v := 1) dL_law_1813 (by decide) ?_
  refine r_sld C w hX hbl hbA (v := 3) (vinD (by decide)) sx1 dL_law_1814 ?_
  refine lv_aload_n C.1 C.2.1 dL_law_1815 rfl (lv_at hl 0 rfl) ?_
  refine lv_iload C.1 C.2.1 dL_law_1816 (lv_at hl 4 rfl) ?_
  refine lv_iconst (v := 2) C.1 C.2.1 dL_law_1818 (by decide) ?_
  refine r_iadd C (v := 2) dL_law_1819 (by decide) ?_
  refine r_sld C w hX hbl hbA (v := 0) (vinD (by decide)) sx2 dL_law_1820 ?_
  refine lv_aload_n C.1 C.2.1 dL_law_1821 rfl (lv_at hl 3 rfl) ?_
  refine r_callH C w fh_RL_213 (c_L_shortest_4 l D cy q0 o0 q1 q2 q4 q5 q6 q10 q11 q12 q13 q14 q15 q16 q17) (hl.1.trans hml.symm) [0, 1, 7] [2, 3, 4, 5, 6] (wr := [(m0, .inr (12, [.ref m1, .ref m2, .ref m3, .ref m4, .ref m5, .int 0, .ref m6, .int 0, .int 0, .int 0, .int 0, .int 0, .int 0, .int 0, .int 0, .int 0, .int 0, .int (-1), .ref m7, .ref m8, .int 0, .ref m9, .int 0, .ref m10, .ref m11, .ref m12, .ref m13, .ref m14, .int 0, .ref m15, .ref m16, .ref m17])), (m7, .inl (cy 1, 1830, .inl (fun _ => 0))), (m8, .inl (cy 1, 1830, .inl (fun _ => 0))), (m9, .inl (cy 2, 2465, .inr (.inl (fun _ => 0)))), (m1, .inl (cy 1, 1868, .inl (upd (upd (upd (fun _ => 0) 1 2) 2 20) 3 120)))]) ⟨rfl, rfl, rfl, rfl, by decide⟩ rfl rfl ⟨Nat.le_of_ble_eq_true rfl, Nat.le_of_ble_eq_true rfl, Nat.le_of_ble_eq_true rfl⟩ 73 53662 ⟨rfl, rfl, Nat.le_of_ble_eq_true rfl, Nat.le_of_ble_eq_true rfl⟩ dL_law_1822 (fun u H locs hp w => ?_)
  obtain ⟨n1, n2, n3, n4, n5, n6, n7, n8, n9, n10, n11, n12, n13, n14, n15, n16, n17, n18, n19, n20, n21, n22, n23, n24, n25, n26, n27, n28, n29, n30, n31, n32, n33, n34, n35, n36⟩ := u
  have w : Wd D A s.heap [(m0, .inr (12, [.ref m1, .ref m2, .ref m3, .ref m4, .ref m5, .int 0, .ref m6, .int 0, .int 0, .int 0, .int 0, .int 0, .int 0, .int 0, .int 0, .int 0, .int 0, .int (-1), .ref m7, .ref m8, .int 0, .ref m9, .int 0, .ref m10, .ref m11, .ref m12, .ref m13, .ref m14, .int 0, .ref m15, .ref m16, .ref m17])), (m7, .inl (cy 1, 1830, .inl (fun _ => 0))), (m8, .inl (cy 1, 1830, .inl (fun _ => 0))), (m9, .inl (cy 2, 2465, .inr (.inl (fun _ => 0)))), (m1, .inl (cy 1, 1868, .inl (upd (upd (upd (fun _ => 0) 1 2) 2 20) 3 120))), (o0, .inl (cy 2, 1, .inr (.inl (vp_updL (fun _ => 0) 0 (-1)))))] _ _ := w.pick [0, 1, 2, 3, 4, 5] rfl rfl
  refine r_top (g2 := F0 m 1825 ls [.int 0]) rfl ?_
  refine lv_istore (lv' := [(5, .int 0), (0, .ref b), (1, .ref q0), (2, .ref m0), (3, .ref o0), (4, .int 0)]) C.1 C.2.1 dL_law_1825 hl (by decide) rfl (fun ls hl => ?_)
  refine lv_aload_n C.1 C.2.1 dL_law_1827 rfl (lv_at hl 3 rfl) ?_
  refine lv_aload_n C.1 C.2.1 dL_law_1828 rfl (lv_at hl 1 rfl) ?_
  refine lv_iload C.1 C.2.1 dL_law_1829 (lv_at hl 5 rfl) ?_
  refine lv_iconst (v := 1) C.1 C.2.1 dL_law_1831 (by decide) ?_
  refine r_iadd C (v := 1) dL_law_1832 (by decide) ?_
  refine r_sld C w hX hbl hbA (v := 3) (vinD (by decide)) sx1 dL_law_1833 ?_
  refine lv_aload_n C.1 C.2.1 dL_law_1834 rfl (lv_at hl 1 rfl) ?_
  refine lv_iload C.1 C.2.1 dL_law_1835 (lv_at hl 5 rfl) ?_
  refine lv_iconst (v := 2) C.1 C.2.1 dL_law_1837 (by decide) ?_
  refine r_iadd C (v := 2) dL_law_1838 (by decide) ?_
  refine r_sld C w hX hbl hbA (v := 0) (vinD (by decide)) sx2 dL_law_1839 ?_
  refine r_callV C w fv_RL_215 (c_X12_shortest_4 l D cy m0 m1 m2 m3 m4 m5 m6 m7 m8 m9 m10 m11 m12 m13 m14 m15 m16 m17 0 (by decide) (by decide)) (hl.1.trans hml.symm) [0, 4, 1, 2, 3] [5] (wr := [(o0, .inl (cy 2, 1, .inr (.inl (vp_updL (fun _ => 0) 0 (-1)))))]) ⟨rfl, rfl, rfl, rfl, by decide⟩ 0 rfl rfl rfl rfl rfl ⟨Nat.le_of_ble_eq_true rfl, Nat.le_of_ble_eq_true rfl, Nat.le_of_ble_eq_true rfl⟩ 73 53662 ⟨rfl, rfl, Nat.le_of_ble_eq_true rfl, Nat.le_of_ble_eq_true rfl⟩ dL_law_1840 (fun u H locs hp w => ?_)
  have w : Wd D A s.heap [(o0, .inl (cy 2, 1, .inr (.inl (vp_updL (fun _ => 0) 0 (-1))))), (m0, .inr (12, [.ref m1, .ref m2, .ref m3, .ref m4, .ref m5, .int 0, .ref m6, .int 0, .int 0, .int 0, .int 0, .int 0, .int 0, .int 0, .int 0, .int 0, .int 0, .int (-1), .ref m7, .ref m8, .int 190, .ref m9, .int 0, .ref m10, .ref m11, .ref m12, .ref m13, .ref m14, .int 0, .ref m15, .ref m16, .ref m17]))] _ _ := w.pick [0, 4] rfl rfl
  refine r_top (g2 := F0 m 1843 ls [.int (-1)]) rfl ?_
  refine lv_istore (lv' := [(6, .int (-1)), (5, .int 0), (0, .ref b), (1, .ref q0), (2, .ref m0), (3, .ref o0), (4, .int 0)]) C.1 C.2.1 dL_law_1843 hl (by decide) rfl (fun ls hl => ?_)
  refine lv_aload_n C.1 C.2.1 dL_law_1845 rfl (lv_at hl 4 rfl) ?_
  refine r_callV C w fv_RL_134 (c_X12_thrown_3 l D cy m0 m1 m2 m3 m4 m5 m6 m7 m8 m9 m10 m11 m12 m13 m14 m15 m16 m17) (hl.1.trans hml.symm) [1] [0] (wr := [(o0, .inl (cy 2, 1, .inr (.inl (vp_updL (fun _ => 0) 0 (-1)))))]) ⟨rfl, rfl, rfl, rfl, by decide⟩ 0 rfl rfl rfl rfl rfl ⟨Nat.le_of_ble_eq_true rfl, Nat.le_of_ble_eq_true rfl, Nat.le_of_ble_eq_true rfl⟩ 73 53662 ⟨rfl, rfl, Nat.le_of_ble_eq_true rfl, Nat.le_of_ble_eq_true rfl⟩ dL_law_1846 (fun u H locs hp w => ?_)
  have w : Wd D A s.heap [(o0, .inl (cy 2, 1, .inr (.inl (vp_updL (fun _ => 0) 0 (-1))))), (m0, .inr (12, [.ref m1, .ref m2, .ref m3, .ref m4, .ref m5, .int 0, .ref m6, .int 0, .int 0, .int 0, .int 0, .int 0, .int 0, .int 0, .int 0, .int 0, .int 0, .int (-1), .ref m7, .ref m8, .int 190, .ref m9, .int 0, .ref m10, .ref m11, .ref m12, .ref m13, .ref m14, .int 0, .ref m15, .ref m16, .ref m17]))] _ _ := w.pick [0, 1] rfl rfl
  refine r_top (g2 := F0 m 1849 ls [.int 0]) rfl ?_
  refine lv_iload C.1 C.2.1 dL_law_1849 (lv_at hl 1 rfl) ?_
  refine b_icmp_eq_t C (tgt := 1856) dL_law_1851 (by decide) (by decide) ?_
  refine lv_iload C.1 C.2.1 dL_law_1856 (lv_at hl 1 rfl) ?_
  refine b_if_ne_f C (tgt := 1873) dL_law_1858 (by decide) (by decide) ?_
  refine lv_aload_n C.1 C.2.1 dL_law_1861 rfl (lv_at hl 5 rfl) ?_
  refine lv_iconst (v := 0) C.1 C.2.1 dL_law_1862 (by decide) ?_
  refine r_lald C w 0 rfl (v := (-1)) (vinD (by decide)) rfl dL_law_1863 ?_
  refine lv_iload C.1 C.2.1 dL_law_1864 (lv_at hl 0 rfl) ?_
  refine lv_i2l (v := (-1)) C.1 C.2.1 dL_law_1866 (by decide) ?_
  refine r_lcmp C (v := 0) dL_law_1867 (by decide) ?_
  refine b_if_eq_t C (tgt := 1873) dL_law_1868 (by decide) (by decide) ?_
  refine lv_goto (tgt := 2461) C.1 C.2.1 dL_law_1873 (by decide) ?_
  refine W.widen (k := 600002) (n := 7302232) (Nat.le_of_ble_eq_true rfl) (Nat.le_of_ble_eq_true rfl) ?_
  exact kk _ _ _ w.2.2 (lv_sub hl [2, 6] rfl)
set_option maxRecDepth 100000 in
set_option maxHeartbeats 4000000 in
theorem s_L_25_5 {p : Program} {l : Launch} {e : Env} {s : State} {m : MethodId} {args : Array Value} {below : List Frame} {meth : Method} {c : Code} {Q : State → Prop} {D : va_G} {cy : Nat → ClassId} {A : Nat → Prop} {H : Heap} {locs : List Loc} {ls : Array Slot} {xs : Nat → Int32} (b q0 q1 q2 q4 q5 q6 q10 q11 q12 q13 q14 q15 q16 q17 m0 m1 m2 m3 m4 m5 m6 m7 m8 m9 m10 m11 m12 m13 m14 m15 m16 m17 o0 : Nat) (sx1 : xs 1 = 2) (sx2 : xs 2 = 0) (C : Cx p s m args c cL_law RL D cy A) (hml : c.maxLocals = 8) (hX : va_X b 6 xs s s.heap) (hbl : b < s.heap.size) (hbA : ¬ A b) (w : Wd D A s.heap [(q0, .inr (11, [.ref q1, .int 0, .int 0, .int (-1), .ref q2, .ref q4, .ref q5, .ref q6, .ref q10, .null])), (q10, .inr (9, [.int 0, .int 2, .int 20, .int 120, .int 0, .int 0, .int 0, .int 0, .ref q11, .int 0, .ref q12, .ref q13, .int 0, .ref q14, .ref q15, .ref q16, .ref q17])), (m0, .inr (12, [.ref m1, .ref m2, .ref m3, .ref m4, .ref m5, .int 0, .ref m6, .int 0, .int 0, .int 0, .int 0, .int 0, .int 0, .int 0, .int 0, .int 0, .int 0, .int (-1), .ref m7, .ref m8, .int 0, .ref m9, .int 0, .ref m10, .ref m11, .ref m12, .ref m13, .ref m14, .int 0, .ref m15, .ref m16, .ref m17])), (m7, .inl (cy 1, 1830, .inl (fun _ => 0))), (m8, .inl (cy 1, 1830, .inl (fun _ => 0))), (m9, .inl (cy 2, 2465, .inr (.inl (fun _ => 0)))), (m1, .inl (cy 1, 1868, .inl (upd (upd (upd (fun _ => 0) 1 2) 2 20) 3 120))), (o0, .inl (cy 2, 1, .inr (.inl (fun _ => 0))))] H locs) (hl : lv_has ls 8 [(0, .ref b), (1, .ref q0), (2, .ref m0), (3, .ref o0), (4, .int 0)]) (kk : ∀ (H : Heap) (locs : List Loc) (ls : Array Slot), va_S A s.heap H locs → lv_has ls 8 [(0, .ref b), (4, .int 0)] → W p l e room_1 s m args below meth c H locs 600002 7302232 Q (F0 m 2461 ls [])) : W p l e room_1 s m args below meth c H locs 37 29845 Q (F0 m 1808 ls []) := by
  refine lv_aload_n C.1 C.2.1 dL_law_1808 rfl (lv_at hl 1 rfl) ?_
  refine lv_aload_n C.1 C.2.1 dL_law_1809 rfl (lv_at hl 0 rfl) ?_
  refine lv_iload C.1 C.2.1 dL_law_1810 (lv_at hl 4 rfl) ?_
  refine lv_iconst (v := 1) C.1 C.2.1 dL_law_1812 (by decide) ?_
  refine r_iadd C (v := 1) dL_law_1813 (by decide) ?_
  refine r_sld C w hX hbl hbA (v := 2) (vinD (by decide)) sx1 dL_law_1814 ?_
  refine lv_aload_n C.1 C.2.1 dL_law_1815 rfl (lv_at hl 0 rfl) ?_
  refine lv_iload C.1 C.2.1 dL_law_1816 (lv_at hl 4 rfl) ?_
  refine lv_iconst (v := 2) C.1 C.2.1 dL_law_1818 (by decide) ?_
  refine r_iadd C (v := 2) dL_law_1819 (by decide) ?_
  refine r_sld C w hX hbl hbA (v := 0) (vinD (by decide)) sx2 dL_law_1820 ?_
  refine lv_aload_n C.1 C.2.1 dL_law_1821 rfl (lv_at hl 3 rfl) ?_
  refine r_callH C w fh_RL_213 (c_L_shortest_5 l D cy q0 o0 q1 q2 q4 q5 q6 q10 q11 q12 q13 q14 q15 q16 q17) (hl.1.trans hml.symm) [0, 1, 7] [2, 3, 4, 5, 6] (wr := [(m0, .inr (12, [.ref m1, .ref m2, .ref m3, .ref m4, .ref m5, .int 0, .ref m6, .int 0, .int 0, .int 0, .int 0, .int 0, .int 0, .int 0, .int 0, .int 0, .int 0, .int (-1), .ref m7, .ref m8, .int 0, .ref m9, .int 0, .ref m10, .ref m11, .ref m12, .ref m13, .ref m14, .int 0, .ref m15, .ref m16, .ref m17])), (m7, .inl (cy 1, 1830, .inl (fun _ => 0))), (m8, .inl (cy 1, 1830, .inl (fun _ => 0))), (m9, .inl (cy 2, 2465, .inr (.inl (fun _ => 0)))), (m1, .inl (cy 1, 1868, .inl (upd (upd (upd (fun _ => 0) 1 2) 2 20) 3 120)))]) ⟨rfl, rfl, rfl, rfl, by decide⟩ rfl rfl ⟨Nat.le_of_ble_eq_true rfl, Nat.le_of_ble_eq_true rfl, Nat.le_of_ble_eq_true rfl⟩ 73 53662 ⟨rfl, rfl, Nat.le_of_ble_eq_true rfl, Nat.le_of_ble_eq_true rfl⟩ dL_law_1822 (fun u H locs hp w => ?_)
  obtain ⟨n1, n2, n3, n4, n5, n6, n7, n8, n9, n10, n11, n12, n13, n14, n15, n16, n17, n18, n19, n20, n21, n22, n23, n24, n25, n26, n27, n28, n29, n30, n31, n32, n33, n34, n35, n36⟩ := u
  have w : Wd D A s.heap [(m0, .inr (12, [.ref m1, .ref m2, .ref m3, .ref m4, .ref m5, .int 0, .ref m6, .int 0, .int 0, .int 0, .int 0, .int 0, .int 0, .int 0, .int 0, .int 0, .int 0, .int (-1), .ref m7, .ref m8, .int 0, .ref m9, .int 0, .ref m10, .ref m11, .ref m12, .ref m13, .ref m14, .int 0, .ref m15, .ref m16, .ref m17])), (m7, .inl (cy 1, 1830, .inl (fun _ => 0))), (m8, .inl (cy 1, 1830, .inl (fun _ => 0))), (m9, .inl (cy 2, 2465, .inr (.inl (fun _ => 0)))), (m1, .inl (cy 1, 1868, .inl (upd (upd (upd (fun _ => 0) 1 2) 2 20) 3 120))), (o0, .inl (cy 2, 1, .inr (.inl (vp_updL (fun _ => 0) 0 (-1)))))] _ _ := w.pick [0, 1, 2, 3, 4, 5] rfl rfl
  refine r_top (g2 := F0 m 1825 ls [.int 0]) rfl ?_
  refine lv_istore (lv' := [(5, .int 0), (0, .ref b), (1, .ref q0), (2, .ref m0), (3, .ref o0), (4, .int 0)]) C.1 C.2.1 dL_law_1825 hl (by decide) rfl (fun ls hl => ?_)
  refine lv_aload_n C.1 C.2.1 dL_law_1827 rfl (lv_at hl 3 rfl) ?_
  refine lv_aload_n C.1 C.2.1 dL_law_1828 rfl (lv_at hl 1 rfl) ?_
  refine lv_iload C.1 C.2.1 dL_law_1829 (lv_at hl 5 rfl) ?_
  refine lv_iconst (v := 1) C.1 C.2.1 dL_law_1831 (by decide) ?_
  refine r_iadd C (v := 1) dL_law_1832 (by decide) ?_
  refine r_sld C w hX hbl hbA (v := 2) (vinD (by decide)) sx1 dL_law_1833 ?_
  refine lv_aload_n C.1 C.2.1 dL_law_1834 rfl (lv_at hl 1 rfl) ?_
  refine lv_iload C.1 C.2.1 dL_law_1835 (lv_at hl 5 rfl) ?_
  refine lv_iconst (v := 2) C.1 C.2.1 dL_law_1837 (by decide) ?_
  refine r_iadd C (v := 2) dL_law_1838 (by decide) ?_
  refine r_sld C w hX hbl hbA (v := 0) (vinD (by decide)) sx2 dL_law_1839 ?_
  refine r_callV C w fv_RL_215 (c_X12_shortest_3 l D cy m0 m1 m2 m3 m4 m5 m6 m7 m8 m9 m10 m11 m12 m13 m14 m15 m16 m17 0 (by decide) (by decide)) (hl.1.trans hml.symm) [0, 4, 1, 2, 3] [5] (wr := [(o0, .inl (cy 2, 1, .inr (.inl (vp_updL (fun _ => 0) 0 (-1)))))]) ⟨rfl, rfl, rfl, rfl, by decide⟩ 0 rfl rfl rfl rfl rfl ⟨Nat.le_of_ble_eq_true rfl, Nat.le_of_ble_eq_true rfl, Nat.le_of_ble_eq_true rfl⟩ 73 53662 ⟨rfl, rfl, Nat.le_of_ble_eq_true rfl, Nat.le_of_ble_eq_true rfl⟩ dL_law_1840 (fun u H locs hp w => ?_)
  have w : Wd D A s.heap [(o0, .inl (cy 2, 1, .inr (.inl (vp_updL (fun _ => 0) 0 (-1))))), (m0, .inr (12, [.ref m1, .ref m2, .ref m3, .ref m4, .ref m5, .int 0, .ref m6, .int 0, .int 0, .int 0, .int 0, .int 0, .int 0, .int 0, .int 0, .int 0, .int 0, .int (-1), .ref m7, .ref m8, .int 190, .ref m9, .int 0, .ref m10, .ref m11, .ref m12, .ref m13, .ref m14, .int 0, .ref m15, .ref m16, .ref m17]))] _ _ := w.pick [0, 4] rfl rfl
  refine r_top (g2 := F0 m 1843 ls [.int (-1)]) rfl ?_
  refine lv_istore (lv' := [(6, .int (-1)), (5, .int 0), (0, .ref b), (1, .ref q0), (2, .ref m0), (3, .ref o0), (4, .int 0)]) C.1 C.2.1 dL_law_1843 hl (by decide) rfl (fun ls hl => ?_)
  refine lv_aload_n C.1 C.2.1 dL_law_1845 rfl (lv_at hl 4 rfl) ?_
  refine r_callV C w fv_RL_134 (c_X12_thrown_3 l D cy m0 m1 m2 m3 m4 m5 m6 m7 m8 m9 m10 m11 m12 m13 m14 m15 m16 m17) (hl.1.trans hml.symm) [1] [0] (wr := [(o0, .inl (cy 2, 1, .inr (.inl (vp_updL (fun _ => 0) 0 (-1)))))]) ⟨rfl, rfl, rfl, rfl, by decide⟩ 0 rfl rfl rfl rfl rfl ⟨Nat.le_of_ble_eq_true rfl, Nat.le_of_ble_eq_true rfl, Nat.le_of_ble_eq_true rfl⟩ 73 53662 ⟨rfl, rfl, Nat.le_of_ble_eq_true rfl, Nat.le_of_ble_eq_true rfl⟩ dL_law_1846 (fun u H locs hp w => ?_)
  have w : Wd D A s.heap [(o0, .inl (cy 2, 1, .inr (.inl (vp_updL (fun _ => 0) 0 (-1))))), (m0, .inr (12, [.ref m1, .ref m2, .ref m3, .ref m4, .ref m5, .int 0, .ref m6, .int 0, .int 0, .int 0, .int 0, .int 0, .int 0, .int 0, .int 0, .int 0, .int 0, .int (-1), .ref m7, .ref m8, .int 190, .ref m9, .int 0, .ref m10, .ref m11, .ref m12, .ref m13, .ref m14, .int 0, .ref m15, .ref m16, .ref m17]))] _ _ := w.pick [0, 1] rfl rfl
  refine r_top (g2 := F0 m 1849 ls [.int 0]) rfl ?_
  refine lv_iload C.1 C.2.1 dL_law_1849 (lv_at hl 1 rfl) ?_
  refine b_icmp_eq_t C (tgt := 1856) dL_law_1851 (by decide) (by decide) ?_
  refine lv_iload C.1 C.2.1 dL_law_1856 (lv_at hl 1 rfl) ?_
  refine b_if_ne_f C (tgt := 1873) dL_law_1858 (by decide) (by decide) ?_
  refine lv_aload_n C.1 C.2.1 dL_law_1861 rfl (lv_at hl 5 rfl) ?_
  refine lv_iconst (v := 0) C.1 C.2.1 dL_law_1862 (by decide) ?_
  refine r_lald C w 0 rfl (v := (-1)) (vinD (by decide)) rfl dL_law_1863 ?_
  refine lv_iload C.1 C.2.1 dL_law_1864 (lv_at hl 0 rfl) ?_
  refine lv_i2l (v := (-1)) C.1 C.2.1 dL_law_1866 (by decide) ?_
  refine r_lcmp C (v := 0) dL_law_1867 (by decide) ?_
  refine b_if_eq_t C (tgt := 1873) dL_law_1868 (by decide) (by decide) ?_
  refine lv_goto (tgt := 2461) C.1 C.2.1 dL_law_1873 (by decide) ?_
  refine W.widen (k := 600002) (n := 7302232) (Nat.le_of_ble_eq_true rfl) (Nat.le_of_ble_eq_true rfl) ?_
  exact kk _ _ _ w.2.2 (lv_sub hl [2, 6] rfl)
set_option maxRecDepth 100000 in
set_option maxHeartbeats 4000000 in
theorem s_L_25_6 {p : Program} {l : Launch} {e : Env} {s : State} {m : MethodId} {args : Array Value} {below : List Frame} {meth : Method} {c : Code} {Q : State → Prop} {D : va_G} {cy : Nat → ClassId} {A : Nat → Prop} {H : Heap} {locs : List Loc} {ls : Array Slot} {xs : Nat → Int32} (b q0 q1 q2 q4 q5 q6 q10 q11 q12 q13 q14 q15 q16 q17 m0 m1 m2 m3 m4 m5 m6 m7 m8 m9 m10 m11 m12 m13 m14 m15 m16 m17 o0 : Nat) (sx1 : xs 1 = 1) (sx2 : xs 2 = 1) (C : Cx p s m args c cL_law RL D cy A) (hml : c.maxLocals = 8) (hX : va_X b 6 xs s s.heap) (hbl : b < s.heap.size) (hbA : ¬ A b) (w : Wd D A s.heap [(q0, .inr (11, [.ref q1, .int 0, .int 0, .int (-1), .ref q2, .ref q4, .ref q5, .ref q6, .ref q10, .null])), (q10, .inr (9, [.int 0, .int 2, .int 20, .int 120, .int 0, .int 0, .int 0, .int 0, .ref q11, .int 0, .ref q12, .ref q13, .int 0, .ref q14, .ref q15, .ref q16, .ref q17])), (m0, .inr (12, [.ref m1, .ref m2, .ref m3, .ref m4, .ref m5, .int 0, .ref m6, .int 0, .int 0, .int 0, .int 0, .int 0, .int 0, .int 0, .int 0, .int 0, .int 0, .int (-1), .ref m7, .ref m8, .int 0, .ref m9, .int 0, .ref m10, .ref m11, .ref m12, .ref m13, .ref m14, .int 0, .ref m15, .ref m16, .ref m17])), (m7, .inl (cy 1, 1830, .inl (fun _ => 0))), (m8, .inl (cy 1, 1830, .inl (fun _ => 0))), (m9, .inl (cy 2, 2465, .inr (.inl (fun _ => 0)))), (m1, .inl (cy 1, 1868, .inl (upd (upd (upd (fun _ => 0) 1 2) 2 20) 3 120))), (o0, .inl (cy 2, 1, .inr (.inl (fun _ => 0))))] H locs) (hl : lv_has ls 8 [(0, .ref b), (1, .ref q0), (2, .ref m0), (3, .ref o0), (4, .int 0)]) (kk : ∀ (H : Heap) (locs : List Loc) (ls : Array Slot), va_S A s.heap H locs → lv_has ls 8 [(0, .ref b), (4, .int 0)] → W p l e room_1 s m args below meth c H locs 600002 7302232 Q (F0 m 2461 ls [])) : W p l e room_1 s m args below meth c H locs 37 29845 Q (F0 m 1808 ls []) := by
  refine lv_aload_n C.1 C.2.1 dL_law_1808 rfl (lv_at hl 1 rfl) ?_
  refine lv_aload_n C.1 C.2.1 dL_law_1809 rfl (lv_at hl 0 rfl) ?_
  refine lv_iload C.1 C.2.1 dL_law_1810 (lv_at hl 4 rfl) ?_
  refine lv_iconst (v := 1) C.1 C.2.1 dL_law_1812 (by decide) ?_
  refine r_iadd C (v := 1) dL_law_1813 (by decide) ?_
  refine r_sld C w hX hbl hbA (v := 1) (vinD (by decide)) sx1 dL_law_1814 ?_
  refine lv_aload_n C.1 C.2.1 dL_law_1815 rfl (lv_at hl 0 rfl) ?_
  refine lv_iload C.1 C.2.1 dL_law_1816 (lv_at hl 4 rfl) ?_
  refine lv_iconst (v := 2) C.1 C.2.1 dL_law_1818 (by decide) ?_
  refine r_iadd C (v := 2) dL_law_1819 (by decide) ?_
  refine r_sld C w hX hbl hbA (v := 1) (vinD (by decide)) sx2 dL_law_1820 ?_
  refine lv_aload_n C.1 C.2.1 dL_law_1821 rfl (lv_at hl 3 rfl) ?_
  refine r_callH C w fh_RL_213 (c_L_shortest_6 l D cy q0 o0 q1 q2 q4 q5 q6 q10 q11 q12 q13 q14 q15 q16 q17) (hl.1.trans hml.symm) [0, 1, 7] [2, 3, 4, 5, 6] (wr := [(m0, .inr (12, [.ref m1, .ref m2, .ref m3, .ref m4, .ref m5, .int 0, .ref m6, .int 0, .int 0, .int 0, .int 0, .int 0, .int 0, .int 0, .int 0, .int 0, .int 0, .int (-1), .ref m7, .ref m8, .int 0, .ref m9, .int 0, .ref m10, .ref m11, .ref m12, .ref m13, .ref m14, .int 0, .ref m15, .ref m16, .ref m17])), (m7, .inl (cy 1, 1830, .inl (fun _ => 0))), (m8, .inl (cy 1, 1830, .inl (fun _ => 0))), (m9, .inl (cy 2, 2465, .inr (.inl (fun _ => 0)))), (m1, .inl (cy 1, 1868, .inl (upd (upd (upd (fun _ => 0) 1 2) 2 20) 3 120)))]) ⟨rfl, rfl, rfl, rfl, by decide⟩ rfl rfl ⟨Nat.le_of_ble_eq_true rfl, Nat.le_of_ble_eq_true rfl, Nat.le_of_ble_eq_true rfl⟩ 73 53662 ⟨rfl, rfl, Nat.le_of_ble_eq_true rfl, Nat.le_of_ble_eq_true rfl⟩ dL_law_1822 (fun u H locs hp w => ?_)
  obtain ⟨n1, n2, n3, n4, n5, n6, n7, n8, n9, n10, n11, n12, n13, n14, n15, n16, n17, n18, n19, n20, n21, n22, n23, n24, n25, n26, n27, n28, n29, n30, n31, n32, n33, n34, n35, n36⟩ := u
  have w : Wd D A s.heap [(m0, .inr (12, [.ref m1, .ref m2, .ref m3, .ref m4, .ref m5, .int 0, .ref m6, .int 0, .int 0, .int 0, .int 0, .int 0, .int 0, .int 0, .int 0, .int 0, .int 0, .int (-1), .ref m7, .ref m8, .int 0, .ref m9, .int 0, .ref m10, .ref m11, .ref m12, .ref m13, .ref m14, .int 0, .ref m15, .ref m16, .ref m17])), (m7, .inl (cy 1, 1830, .inl (fun _ => 0))), (m8, .inl (cy 1, 1830, .inl (fun _ => 0))), (m9, .inl (cy 2, 2465, .inr (.inl (fun _ => 0)))), (m1, .inl (cy 1, 1868, .inl (upd (upd (upd (fun _ => 0) 1 2) 2 20) 3 120))), (o0, .inl (cy 2, 1, .inr (.inl (vp_updL (fun _ => 0) 0 (-1)))))] _ _ := w.pick [0, 1, 2, 3, 4, 5] rfl rfl
  refine r_top (g2 := F0 m 1825 ls [.int 0]) rfl ?_
  refine lv_istore (lv' := [(5, .int 0), (0, .ref b), (1, .ref q0), (2, .ref m0), (3, .ref o0), (4, .int 0)]) C.1 C.2.1 dL_law_1825 hl (by decide) rfl (fun ls hl => ?_)
  refine lv_aload_n C.1 C.2.1 dL_law_1827 rfl (lv_at hl 3 rfl) ?_
  refine lv_aload_n C.1 C.2.1 dL_law_1828 rfl (lv_at hl 1 rfl) ?_
  refine lv_iload C.1 C.2.1 dL_law_1829 (lv_at hl 5 rfl) ?_
  refine lv_iconst (v := 1) C.1 C.2.1 dL_law_1831 (by decide) ?_
  refine r_iadd C (v := 1) dL_law_1832 (by decide) ?_
  refine r_sld C w hX hbl hbA (v := 1) (vinD (by decide)) sx1 dL_law_1833 ?_
  refine lv_aload_n C.1 C.2.1 dL_law_1834 rfl (lv_at hl 1 rfl) ?_
  refine lv_iload C.1 C.2.1 dL_law_1835 (lv_at hl 5 rfl) ?_
  refine lv_iconst (v := 2) C.1 C.2.1 dL_law_1837 (by decide) ?_
  refine r_iadd C (v := 2) dL_law_1838 (by decide) ?_
  refine r_sld C w hX hbl hbA (v := 1) (vinD (by decide)) sx2 dL_law_1839 ?_
  refine r_callV C w fv_RL_215 (c_X12_shortest_2 l D cy m0 m1 m2 m3 m4 m5 m6 m7 m8 m9 m10 m11 m12 m13 m14 m15 m16 m17 1 (by decide) (by decide)) (hl.1.trans hml.symm) [0, 4, 1, 2, 3] [5] (wr := [(o0, .inl (cy 2, 1, .inr (.inl (vp_updL (fun _ => 0) 0 (-1)))))]) ⟨rfl, rfl, rfl, rfl, by decide⟩ 0 rfl rfl rfl rfl rfl ⟨Nat.le_of_ble_eq_true rfl, Nat.le_of_ble_eq_true rfl, Nat.le_of_ble_eq_true rfl⟩ 73 53662 ⟨rfl, rfl, Nat.le_of_ble_eq_true rfl, Nat.le_of_ble_eq_true rfl⟩ dL_law_1840 (fun u H locs hp w => ?_)
  have w : Wd D A s.heap [(o0, .inl (cy 2, 1, .inr (.inl (vp_updL (fun _ => 0) 0 (-1))))), (m0, .inr (12, [.ref m1, .ref m2, .ref m3, .ref m4, .ref m5, .int 0, .ref m6, .int 0, .int 0, .int 0, .int 0, .int 0, .int 0, .int 0, .int 0, .int 0, .int 0, .int (-1), .ref m7, .ref m8, .int 190, .ref m9, .int 0, .ref m10, .ref m11, .ref m12, .ref m13, .ref m14, .int 0, .ref m15, .ref m16, .ref m17]))] _ _ := w.pick [0, 4] rfl rfl
  refine r_top (g2 := F0 m 1843 ls [.int (-1)]) rfl ?_
  refine lv_istore (lv' := [(6, .int (-1)), (5, .int 0), (0, .ref b), (1, .ref q0), (2, .ref m0), (3, .ref o0), (4, .int 0)]) C.1 C.2.1 dL_law_1843 hl (by decide) rfl (fun ls hl => ?_)
  refine lv_aload_n C.1 C.2.1 dL_law_1845 rfl (lv_at hl 4 rfl) ?_
  refine r_callV C w fv_RL_134 (c_X12_thrown_3 l D cy m0 m1 m2 m3 m4 m5 m6 m7 m8 m9 m10 m11 m12 m13 m14 m15 m16 m17) (hl.1.trans hml.symm) [1] [0] (wr := [(o0, .inl (cy 2, 1, .inr (.inl (vp_updL (fun _ => 0) 0 (-1)))))]) ⟨rfl, rfl, rfl, rfl, by decide⟩ 0 rfl rfl rfl rfl rfl ⟨Nat.le_of_ble_eq_true rfl, Nat.le_of_ble_eq_true rfl, Nat.le_of_ble_eq_true rfl⟩ 73 53662 ⟨rfl, rfl, Nat.le_of_ble_eq_true rfl, Nat.le_of_ble_eq_true rfl⟩ dL_law_1846 (fun u H locs hp w => ?_)
  have w : Wd D A s.heap [(o0, .inl (cy 2, 1, .inr (.inl (vp_updL (fun _ => 0) 0 (-1))))), (m0, .inr (12, [.ref m1, .ref m2, .ref m3, .ref m4, .ref m5, .int 0, .ref m6, .int 0, .int 0, .int 0, .int 0, .int 0, .int 0, .int 0, .int 0, .int 0, .int 0, .int (-1), .ref m7, .ref m8, .int 190, .ref m9, .int 0, .ref m10, .ref m11, .ref m12, .ref m13, .ref m14, .int 0, .ref m15, .ref m16, .ref m17]))] _ _ := w.pick [0, 1] rfl rfl
  refine r_top (g2 := F0 m 1849 ls [.int 0]) rfl ?_
  refine lv_iload C.1 C.2.1 dL_law_1849 (lv_at hl 1 rfl) ?_
  refine b_icmp_eq_t C (tgt := 1856) dL_law_1851 (by decide) (by decide) ?_
  refine lv_iload C.1 C.2.1 dL_law_1856 (lv_at hl 1 rfl) ?_
  refine b_if_ne_f C (tgt := 1873) dL_law_1858 (by decide) (by decide) ?_
  refine lv_aload_n C.1 C.2.1 dL_law_1861 rfl (lv_at hl 5 rfl) ?_
  refine lv_iconst (v := 0) C.1 C.2.1 dL_law_1862 (by decide) ?_
  refine r_lald C w 0 rfl (v := (-1)) (vinD (by decide)) rfl dL_law_1863 ?_
  refine lv_iload C.1 C.2.1 dL_law_1864 (lv_at hl 0 rfl) ?_
  refine lv_i2l (v := (-1)) C.1 C.2.1 dL_law_1866 (by decide) ?_
  refine r_lcmp C (v := 0) dL_law_1867 (by decide) ?_
  refine b_if_eq_t C (tgt := 1873) dL_law_1868 (by decide) (by decide) ?_
  refine lv_goto (tgt := 2461) C.1 C.2.1 dL_law_1873 (by decide) ?_
  refine W.widen (k := 600002) (n := 7302232) (Nat.le_of_ble_eq_true rfl) (Nat.le_of_ble_eq_true rfl) ?_
  exact kk _ _ _ w.2.2 (lv_sub hl [2, 6] rfl)
set_option maxRecDepth 100000 in
set_option maxHeartbeats 4000000 in
theorem s_L_25_7 {p : Program} {l : Launch} {e : Env} {s : State} {m : MethodId} {args : Array Value} {below : List Frame} {meth : Method} {c : Code} {Q : State → Prop} {D : va_G} {cy : Nat → ClassId} {A : Nat → Prop} {H : Heap} {locs : List Loc} {ls : Array Slot} {xs : Nat → Int32} (b q0 q1 q2 q4 q5 q6 q10 q11 q12 q13 q14 q15 q16 q17 m0 m1 m2 m3 m4 m5 m6 m7 m8 m9 m10 m11 m12 m13 m14 m15 m16 m17 o0 : Nat) (sx1 : xs 1 = 4) (sx2 : xs 2 = 1) (C : Cx p s m args c cL_law RL D cy A) (hml : c.maxLocals = 8) (hX : va_X b 6 xs s s.heap) (hbl : b < s.heap.size) (hbA : ¬ A b) (w : Wd D A s.heap [(q0, .inr (11, [.ref q1, .int 0, .int 0, .int (-1), .ref q2, .ref q4, .ref q5, .ref q6, .ref q10, .null])), (q10, .inr (9, [.int 0, .int 2, .int 20, .int 120, .int 0, .int 0, .int 0, .int 0, .ref q11, .int 0, .ref q12, .ref q13, .int 0, .ref q14, .ref q15, .ref q16, .ref q17])), (m0, .inr (12, [.ref m1, .ref m2, .ref m3, .ref m4, .ref m5, .int 0, .ref m6, .int 0, .int 0, .int 0, .int 0, .int 0, .int 0, .int 0, .int 0, .int 0, .int 0, .int (-1), .ref m7, .ref m8, .int 0, .ref m9, .int 0, .ref m10, .ref m11, .ref m12, .ref m13, .ref m14, .int 0, .ref m15, .ref m16, .ref m17])), (m7, .inl (cy 1, 1830, .inl (fun _ => 0))), (m8, .inl (cy 1, 1830, .inl (fun _ => 0))), (m9, .inl (cy 2, 2465, .inr (.inl (fun _ => 0)))), (m1, .inl (cy 1, 1868, .inl (upd (upd (upd (fun _ => 0) 1 2) 2 20) 3 120))), (o0, .inl (cy 2, 1, .inr (.inl (fun _ => 0))))] H locs) (hl : lv_has ls 8 [(0, .ref b), (1, .ref q0), (2, .ref m0), (3, .ref o0), (4, .int 0)]) (kk : ∀ (H : Heap) (locs : List Loc) (ls : Array Slot), va_S A s.heap H locs → lv_has ls 8 [(0, .ref b), (4, .int 0)] → W p l e room_1 s m args below meth c H locs 600002 7302232 Q (F0 m 2461 ls [])) : W p l e room_1 s m args below meth c H locs 37 29845 Q (F0 m 1808 ls []) := by
  refine lv_aload_n C.1 C.2.1 dL_law_1808 rfl (lv_at hl 1 rfl) ?_
  refine lv_aload_n C.1 C.2.1 dL_law_1809 rfl (lv_at hl 0 rfl) ?_
  refine lv_iload C.1 C.2.1 dL_law_1810 (lv_at hl 4 rfl) ?_
  refine lv_iconst (v := 1) C.1 C.2.1 dL_law_1812 (by decide) ?_
  refine r_iadd C (v := 1) dL_law_1813 (by decide) ?_
  refine r_sld C w hX hbl hbA (v := 4) (vinD (by decide)) sx1 dL_law_1814 ?_
  refine lv_aload_n C.1 C.2.1 dL_law_1815 rfl (lv_at hl 0 rfl) ?_
  refine lv_iload C.1 C.2.1 dL_law_1816 (lv_at hl 4 rfl) ?_
  refine lv_iconst (v := 2) C.1 C.2.1 dL_law_1818 (by decide) ?_
  refine r_iadd C (v := 2) dL_law_1819 (by decide) ?_
  refine r_sld C w hX hbl hbA (v := 1) (vinD (by decide)) sx2 dL_law_1820 ?_
  refine lv_aload_n C.1 C.2.1 dL_law_1821 rfl (lv_at hl 3 rfl) ?_
  refine r_callH C w fh_RL_213 (c_L_shortest_7 l D cy q0 o0 q1 q2 q4 q5 q6 q10 q11 q12 q13 q14 q15 q16 q17) (hl.1.trans hml.symm) [0, 1, 7] [2, 3, 4, 5, 6] (wr := [(m0, .inr (12, [.ref m1, .ref m2, .ref m3, .ref m4, .ref m5, .int 0, .ref m6, .int 0, .int 0, .int 0, .int 0, .int 0, .int 0, .int 0, .int 0, .int 0, .int 0, .int (-1), .ref m7, .ref m8, .int 0, .ref m9, .int 0, .ref m10, .ref m11, .ref m12, .ref m13, .ref m14, .int 0, .ref m15, .ref m16, .ref m17])), (m7, .inl (cy 1, 1830, .inl (fun _ => 0))), (m8, .inl (cy 1, 1830, .inl (fun _ => 0))), (m9, .inl (cy 2, 2465, .inr (.inl (fun _ => 0)))), (m1, .inl (cy 1, 1868, .inl (upd (upd (upd (fun _ => 0) 1 2) 2 20) 3 120)))]) ⟨rfl, rfl, rfl, rfl, by decide⟩ rfl rfl ⟨Nat.le_of_ble_eq_true rfl, Nat.le_of_ble_eq_true rfl, Nat.le_of_ble_eq_true rfl⟩ 73 53662 ⟨rfl, rfl, Nat.le_of_ble_eq_true rfl, Nat.le_of_ble_eq_true rfl⟩ dL_law_1822 (fun u H locs hp w => ?_)
  obtain ⟨n1, n2, n3, n4, n5, n6, n7, n8, n9, n10, n11, n12, n13, n14, n15, n16, n17, n18, n19, n20, n21, n22, n23, n24, n25, n26, n27, n28, n29, n30, n31, n32, n33, n34, n35, n36⟩ := u
  have w : Wd D A s.heap [(m0, .inr (12, [.ref m1, .ref m2, .ref m3, .ref m4, .ref m5, .int 0, .ref m6, .int 0, .int 0, .int 0, .int 0, .int 0, .int 0, .int 0, .int 0, .int 0, .int 0, .int (-1), .ref m7, .ref m8, .int 0, .ref m9, .int 0, .ref m10, .ref m11, .ref m12, .ref m13, .ref m14, .int 0, .ref m15, .ref m16, .ref m17])), (m7, .inl (cy 1, 1830, .inl (fun _ => 0))), (m8, .inl (cy 1, 1830, .inl (fun _ => 0))), (m9, .inl (cy 2, 2465, .inr (.inl (fun _ => 0)))), (m1, .inl (cy 1, 1868, .inl (upd (upd (upd (fun _ => 0) 1 2) 2 20) 3 120))), (o0, .inl (cy 2, 1, .inr (.inl (vp_updL (fun _ => 0) 0 (-1)))))] _ _ := w.pick [0, 1, 2, 3, 4, 5] rfl rfl
  refine r_top (g2 := F0 m 1825 ls [.int 0]) rfl ?_
  refine lv_istore (lv' := [(5, .int 0), (0, .ref b), (1, .ref q0), (2, .ref m0), (3, .ref o0), (4, .int 0)]) C.1 C.2.1 dL_law_1825 hl (by decide) rfl (fun ls hl => ?_)
  refine lv_aload_n C.1 C.2.1 dL_law_1827 rfl (lv_at hl 3 rfl) ?_
  refine lv_aload_n C.1 C.2.1 dL_law_1828 rfl (lv_at hl 1 rfl) ?_
  refine lv_iload C.1 C.2.1 dL_law_1829 (lv_at hl 5 rfl) ?_
  refine lv_iconst (v := 1) C.1 C.2.1 dL_law_1831 (by decide) ?_
  refine r_iadd C (v := 1) dL_law_1832 (by decide) ?_
  refine r_sld C w hX hbl hbA (v := 4) (vinD (by decide)) sx1 dL_law_1833 ?_
  refine lv_aload_n C.1 C.2.1 dL_law_1834 rfl (lv_at hl 1 rfl) ?_
  refine lv_iload C.1 C.2.1 dL_law_1835 (lv_at hl 5 rfl) ?_
  refine lv_iconst (v := 2) C.1 C.2.1 dL_law_1837 (by decide) ?_
  refine r_iadd C (v := 2) dL_law_1838 (by decide) ?_
  refine r_sld C w hX hbl hbA (v := 1) (vinD (by decide)) sx2 dL_law_1839 ?_
  refine r_callV C w fv_RL_215 (c_X12_shortest_5 l D cy m0 m1 m2 m3 m4 m5 m6 m7 m8 m9 m10 m11 m12 m13 m14 m15 m16 m17 1 (by decide) (by decide)) (hl.1.trans hml.symm) [0, 4, 1, 2, 3] [5] (wr := [(o0, .inl (cy 2, 1, .inr (.inl (vp_updL (fun _ => 0) 0 (-1)))))]) ⟨rfl, rfl, rfl, rfl, by decide⟩ 0 rfl rfl rfl rfl rfl ⟨Nat.le_of_ble_eq_true rfl, Nat.le_of_ble_eq_true rfl, Nat.le_of_ble_eq_true rfl⟩ 73 53662 ⟨rfl, rfl, Nat.le_of_ble_eq_true rfl, Nat.le_of_ble_eq_true rfl⟩ dL_law_1840 (fun u H locs hp w => ?_)
  have w : Wd D A s.heap [(o0, .inl (cy 2, 1, .inr (.inl (vp_updL (fun _ => 0) 0 (-1))))), (m0, .inr (12, [.ref m1, .ref m2, .ref m3, .ref m4, .ref m5, .int 0, .ref m6, .int 0, .int 0, .int 0, .int 0, .int 0, .int 0, .int 0, .int 0, .int 0, .int 0, .int (-1), .ref m7, .ref m8, .int 190, .ref m9, .int 0, .ref m10, .ref m11, .ref m12, .ref m13, .ref m14, .int 0, .ref m15, .ref m16, .ref m17]))] _ _ := w.pick [0, 4] rfl rfl
  refine r_top (g2 := F0 m 1843 ls [.int (-1)]) rfl ?_
  refine lv_istore (lv' := [(6, .int (-1)), (5, .int 0), (0, .ref b), (1, .ref q0), (2, .ref m0), (3, .ref o0), (4, .int 0)]) C.1 C.2.1 dL_law_1843 hl (by decide) rfl (fun ls hl => ?_)
  refine lv_aload_n C.1 C.2.1 dL_law_1845 rfl (lv_at hl 4 rfl) ?_
  refine r_callV C w fv_RL_134 (c_X12_thrown_3 l D cy m0 m1 m2 m3 m4 m5 m6 m7 m8 m9 m10 m11 m12 m13 m14 m15 m16 m17) (hl.1.trans hml.symm) [1] [0] (wr := [(o0, .inl (cy 2, 1, .inr (.inl (vp_updL (fun _ => 0) 0 (-1)))))]) ⟨rfl, rfl, rfl, rfl, by decide⟩ 0 rfl rfl rfl rfl rfl ⟨Nat.le_of_ble_eq_true rfl, Nat.le_of_ble_eq_true rfl, Nat.le_of_ble_eq_true rfl⟩ 73 53662 ⟨rfl, rfl, Nat.le_of_ble_eq_true rfl, Nat.le_of_ble_eq_true rfl⟩ dL_law_1846 (fun u H locs hp w => ?_)
  have w : Wd D A s.heap [(o0, .inl (cy 2, 1, .inr (.inl (vp_updL (fun _ => 0) 0 (-1))))), (m0, .inr (12, [.ref m1, .ref m2, .ref m3, .ref m4, .ref m5, .int 0, .ref m6, .int 0, .int 0, .int 0, .int 0, .int 0, .int 0, .int 0, .int 0, .int 0, .int 0, .int (-1), .ref m7, .ref m8, .int 190, .ref m9, .int 0, .ref m10, .ref m11, .ref m12, .ref m13, .ref m14, .int 0, .ref m15, .ref m16, .ref m17]))] _ _ := w.pick [0, 1] rfl rfl
  refine r_top (g2 := F0 m 1849 ls [.int 0]) rfl ?_
  refine lv_iload C.1 C.2.1 dL_law_1849 (lv_at hl 1 rfl) ?_
  refine b_icmp_eq_t C (tgt := 1856) dL_law_1851 (by decide) (by decide) ?_
  refine lv_iload C.1 C.2.1 dL_law_1856 (lv_at hl 1 rfl) ?_
  refine b_if_ne_f C (tgt := 1873) dL_law_1858 (by decide) (by decide) ?_
  refine lv_aload_n C.1 C.2.1 dL_law_1861 rfl (lv_at hl 5 rfl) ?_
  refine lv_iconst (v := 0) C.1 C.2.1 dL_law_1862 (by decide) ?_
  refine r_lald C w 0 rfl (v := (-1)) (vinD (by decide)) rfl dL_law_1863 ?_
  refine lv_iload C.1 C.2.1 dL_law_1864 (lv_at hl 0 rfl) ?_
  refine lv_i2l (v := (-1)) C.1 C.2.1 dL_law_1866 (by decide) ?_
  refine r_lcmp C (v := 0) dL_law_1867 (by decide) ?_
  refine b_if_eq_t C (tgt := 1873) dL_law_1868 (by decide) (by decide) ?_
  refine lv_goto (tgt := 2461) C.1 C.2.1 dL_law_1873 (by decide) ?_
  refine W.widen (k := 600002) (n := 7302232) (Nat.le_of_ble_eq_true rfl) (Nat.le_of_ble_eq_true rfl) ?_
  exact kk _ _ _ w.2.2 (lv_sub hl [2, 6] rfl)
set_option maxRecDepth 100000 in
set_option maxHeartbeats 4000000 in
theorem s_L_25_8 {p : Program} {l : Launch} {e : Env} {s : State} {m : MethodId} {args : Array Value} {below : List Frame} {meth : Method} {c : Code} {Q : State → Prop} {D : va_G} {cy : Nat → ClassId} {A : Nat → Prop} {H : Heap} {locs : List Loc} {ls : Array Slot} {xs : Nat → Int32} (b q0 q1 q2 q4 q5 q6 q10 q11 q12 q13 q14 q15 q16 q17 m0 m1 m2 m3 m4 m5 m6 m7 m8 m9 m10 m11 m12 m13 m14 m15 m16 m17 o0 : Nat) (sx1 : xs 1 = 3) (sx2 : xs 2 = 1) (C : Cx p s m args c cL_law RL D cy A) (hml : c.maxLocals = 8) (hX : va_X b 6 xs s s.heap) (hbl : b < s.heap.size) (hbA : ¬ A b) (w : Wd D A s.heap [(q0, .inr (11, [.ref q1, .int 0, .int 0, .int (-1), .ref q2, .ref q4, .ref q5, .ref q6, .ref q10, .null])), (q10, .inr (9, [.int 0, .int 2, .int 20, .int 120, .int 0, .int 0, .int 0, .int 0, .ref q11, .int 0, .ref q12, .ref q13, .int 0, .ref q14, .ref q15, .ref q16, .ref q17])), (m0, .inr (12, [.ref m1, .ref m2, .ref m3, .ref m4, .ref m5, .int 0, .ref m6, .int 0, .int 0, .int 0, .int 0, .int 0, .int 0, .int 0, .int 0, .int 0, .int 0, .int (-1), .ref m7, .ref m8, .int 0, .ref m9, .int 0, .ref m10, .ref m11, .ref m12, .ref m13, .ref m14, .int 0, .ref m15, .ref m16, .ref m17])), (m7, .inl (cy 1, 1830, .inl (fun _ => 0))), (m8, .inl (cy 1, 1830, .inl (fun _ => 0))), (m9, .inl (cy 2, 2465, .inr (.inl (fun _ => 0)))), (m1, .inl (cy 1, 1868, .inl (upd (upd (upd (fun _ => 0) 1 2) 2 20) 3 120))), (o0, .inl (cy 2, 1, .inr (.inl (fun _ => 0))))] H locs) (hl : lv_has ls 8 [(0, .ref b), (1, .ref q0), (2, .ref m0), (3, .ref o0), (4, .int 0)]) (kk : ∀ (H : Heap) (locs : List Loc) (ls : Array Slot), va_S A s.heap H locs → lv_has ls 8 [(0, .ref b), (4, .int 0)] → W p l e room_1 s m args below meth c H locs 600002 7302232 Q (F0 m 2461 ls [])) : W p l e room_1 s m args below meth c H locs 37 29845 Q (F0 m 1808 ls []) := by
  refine lv_aload_n C.1 C.2.1 dL_law_1808 rfl (lv_at hl 1 rfl) ?_
  refine lv_aload_n C.1 C.2.1 dL_law_1809 rfl (lv_at hl 0 rfl) ?_
  refine lv_iload C.1 C.2.1 dL_law_1810 (lv_at hl 4 rfl) ?_
  refine lv_iconst (v := 1) C.1 C.2.1 dL_law_1812 (by decide) ?_
  refine r_iadd C (v := 1) dL_law_1813 (by decide) ?_
  refine r_sld C w hX hbl hbA (v := 3) (vinD (by decide)) sx1 dL_law_1814 ?_
  refine lv_aload_n C.1 C.2.1 dL_law_1815 rfl (lv_at hl 0 rfl) ?_
  refine lv_iload C.1 C.2.1 dL_law_1816 (lv_at hl 4 rfl) ?_
  refine lv_iconst (v := 2) C.1 C.2.1 dL_law_1818 (by decide) ?_
  refine r_iadd C (v := 2) dL_law_1819 (by decide) ?_
  refine r_sld C w hX hbl hbA (v := 1) (vinD (by decide)) sx2 dL_law_1820 ?_
  refine lv_aload_n C.1 C.2.1 dL_law_1821 rfl (lv_at hl 3 rfl) ?_
  refine r_callH C w fh_RL_213 (c_L_shortest_8 l D cy q0 o0 q1 q2 q4 q5 q6 q10 q11 q12 q13 q14 q15 q16 q17) (hl.1.trans hml.symm) [0, 1, 7] [2, 3, 4, 5, 6] (wr := [(m0, .inr (12, [.ref m1, .ref m2, .ref m3, .ref m4, .ref m5, .int 0, .ref m6, .int 0, .int 0, .int 0, .int 0, .int 0, .int 0, .int 0, .int 0, .int 0, .int 0, .int (-1), .ref m7, .ref m8, .int 0, .ref m9, .int 0, .ref m10, .ref m11, .ref m12, .ref m13, .ref m14, .int 0, .ref m15, .ref m16, .ref m17])), (m7, .inl (cy 1, 1830, .inl (fun _ => 0))), (m8, .inl (cy 1, 1830, .inl (fun _ => 0))), (m9, .inl (cy 2, 2465, .inr (.inl (fun _ => 0)))), (m1, .inl (cy 1, 1868, .inl (upd (upd (upd (fun _ => 0) 1 2) 2 20) 3 120)))]) ⟨rfl, rfl, rfl, rfl, by decide⟩ rfl rfl ⟨Nat.le_of_ble_eq_true rfl, Nat.le_of_ble_eq_true rfl, Nat.le_of_ble_eq_true rfl⟩ 73 53662 ⟨rfl, rfl, Nat.le_of_ble_eq_true rfl, Nat.le_of_ble_eq_true rfl⟩ dL_law_1822 (fun u H locs hp w => ?_)
  obtain ⟨n1, n2, n3, n4, n5, n6, n7, n8, n9, n10, n11, n12, n13, n14, n15, n16, n17, n18, n19, n20, n21, n22, n23, n24, n25, n26, n27, n28, n29, n30, n31, n32, n33, n34, n35, n36⟩ := u
  have w : Wd D A s.heap [(m0, .inr (12, [.ref m1, .ref m2, .ref m3, .ref m4, .ref m5, .int 0, .ref m6, .int 0, .int 0, .int 0, .int 0, .int 0, .int 0, .int 0, .int 0, .int 0, .int 0, .int (-1), .ref m7, .ref m8, .int 0, .ref m9, .int 0, .ref m10, .ref m11, .ref m12, .ref m13, .ref m14, .int 0, .ref m15, .ref m16, .ref m17])), (m7, .inl (cy 1, 1830, .inl (fun _ => 0))), (m8, .inl (cy 1, 1830, .inl (fun _ => 0))), (m9, .inl (cy 2, 2465, .inr (.inl (fun _ => 0)))), (m1, .inl (cy 1, 1868, .inl (upd (upd (upd (fun _ => 0) 1 2) 2 20) 3 120))), (o0, .inl (cy 2, 1, .inr (.inl (vp_updL (fun _ => 0) 0 (-1)))))] _ _ := w.pick [0, 1, 2, 3, 4, 5] rfl rfl
  refine r_top (g2 := F0 m 1825 ls [.int 0]) rfl ?_
  refine lv_istore (lv' := [(5, .int 0), (0, .ref b), (1, .ref q0), (2, .ref m0), (3, .ref o0), (4, .int 0)]) C.1 C.2.1 dL_law_1825 hl (by decide) rfl (fun ls hl => ?_)
  refine lv_aload_n C.1 C.2.1 dL_law_1827 rfl (lv_at hl 3 rfl) ?_
  refine lv_aload_n C.1 C.2.1 dL_law_1828 rfl (lv_at hl 1 rfl) ?_
  refine lv_iload C.1 C.2.1 dL_law_1829 (lv_at hl 5 rfl) ?_
  refine lv_iconst (v := 1) C.1 C.2.1 dL_law_1831 (by decide) ?_
  refine r_iadd C (v := 1) dL_law_1832 (by decide) ?_
  refine r_sld C w hX hbl hbA (v := 3) (vinD (by decide)) sx1 dL_law_1833 ?_
  refine lv_aload_n C.1 C.2.1 dL_law_1834 rfl (lv_at hl 1 rfl) ?_
  refine lv_iload C.1 C.2.1 dL_law_1835 (lv_at hl 5 rfl) ?_
  refine lv_iconst (v := 2) C.1 C.2.1 dL_law_1837 (by decide) ?_
  refine r_iadd C (v := 2) dL_law_1838 (by decide) ?_
  refine r_sld C w hX hbl hbA (v := 1) (vinD (by decide)) sx2 dL_law_1839 ?_
  refine r_callV C w fv_RL_215 (c_X12_shortest_4 l D cy m0 m1 m2 m3 m4 m5 m6 m7 m8 m9 m10 m11 m12 m13 m14 m15 m16 m17 1 (by decide) (by decide)) (hl.1.trans hml.symm) [0, 4, 1, 2, 3] [5] (wr := [(o0, .inl (cy 2, 1, .inr (.inl (vp_updL (fun _ => 0) 0 (-1)))))]) ⟨rfl, rfl, rfl, rfl, by decide⟩ 0 rfl rfl rfl rfl rfl ⟨Nat.le_of_ble_eq_true rfl, Nat.le_of_ble_eq_true rfl, Nat.le_of_ble_eq_true rfl⟩ 73 53662 ⟨rfl, rfl, Nat.le_of_ble_eq_true rfl, Nat.le_of_ble_eq_true rfl⟩ dL_law_1840 (fun u H locs hp w => ?_)
  have w : Wd D A s.heap [(o0, .inl (cy 2, 1, .inr (.inl (vp_updL (fun _ => 0) 0 (-1))))), (m0, .inr (12, [.ref m1, .ref m2, .ref m3, .ref m4, .ref m5, .int 0, .ref m6, .int 0, .int 0, .int 0, .int 0, .int 0, .int 0, .int 0, .int 0, .int 0, .int 0, .int (-1), .ref m7, .ref m8, .int 190, .ref m9, .int 0, .ref m10, .ref m11, .ref m12, .ref m13, .ref m14, .int 0, .ref m15, .ref m16, .ref m17]))] _ _ := w.pick [0, 4] rfl rfl
  refine r_top (g2 := F0 m 1843 ls [.int (-1)]) rfl ?_
  refine lv_istore (lv' := [(6, .int (-1)), (5, .int 0), (0, .ref b), (1, .ref q0), (2, .ref m0), (3, .ref o0), (4, .int 0)]) C.1 C.2.1 dL_law_1843 hl (by decide) rfl (fun ls hl => ?_)
  refine lv_aload_n C.1 C.2.1 dL_law_1845 rfl (lv_at hl 4 rfl) ?_
  refine r_callV C w fv_RL_134 (c_X12_thrown_3 l D cy m0 m1 m2 m3 m4 m5 m6 m7 m8 m9 m10 m11 m12 m13 m14 m15 m16 m17) (hl.1.trans hml.symm) [1] [0] (wr := [(o0, .inl (cy 2, 1, .inr (.inl (vp_updL (fun _ => 0) 0 (-1)))))]) ⟨rfl, rfl, rfl, rfl, by decide⟩ 0 rfl rfl rfl rfl rfl ⟨Nat.le_of_ble_eq_true rfl, Nat.le_of_ble_eq_true rfl, Nat.le_of_ble_eq_true rfl⟩ 73 53662 ⟨rfl, rfl, Nat.le_of_ble_eq_true rfl, Nat.le_of_ble_eq_true rfl⟩ dL_law_1846 (fun u H locs hp w => ?_)
  have w : Wd D A s.heap [(o0, .inl (cy 2, 1, .inr (.inl (vp_updL (fun _ => 0) 0 (-1))))), (m0, .inr (12, [.ref m1, .ref m2, .ref m3, .ref m4, .ref m5, .int 0, .ref m6, .int 0, .int 0, .int 0, .int 0, .int 0, .int 0, .int 0, .int 0, .int 0, .int 0, .int (-1), .ref m7, .ref m8, .int 190, .ref m9, .int 0, .ref m10, .ref m11, .ref m12, .ref m13, .ref m14, .int 0, .ref m15, .ref m16, .ref m17]))] _ _ := w.pick [0, 1] rfl rfl
  refine r_top (g2 := F0 m 1849 ls [.int 0]) rfl ?_
  refine lv_iload C.1 C.2.1 dL_law_1849 (lv_at hl 1 rfl) ?_
  refine b_icmp_eq_t C (tgt := 1856) dL_law_1851 (by decide) (by decide) ?_
  refine lv_iload C.1 C.2.1 dL_law_1856 (lv_at hl 1 rfl) ?_
  refine b_if_ne_f C (tgt := 1873) dL_law_1858 (by decide) (by decide) ?_
  refine lv_aload_n C.1 C.2.1 dL_law_1861 rfl (lv_at hl 5 rfl) ?_
  refine lv_iconst (v := 0) C.1 C.2.1 dL_law_1862 (by decide) ?_
  refine r_lald C w 0 rfl (v := (-1)) (vinD (by decide)) rfl dL_law_1863 ?_
  refine lv_iload C.1 C.2.1 dL_law_1864 (lv_at hl 0 rfl) ?_
  refine lv_i2l (v := (-1)) C.1 C.2.1 dL_law_1866 (by decide) ?_
  refine r_lcmp C (v := 0) dL_law_1867 (by decide) ?_
  refine b_if_eq_t C (tgt := 1873) dL_law_1868 (by decide) (by decide) ?_
  refine lv_goto (tgt := 2461) C.1 C.2.1 dL_law_1873 (by decide) ?_
  refine W.widen (k := 600002) (n := 7302232) (Nat.le_of_ble_eq_true rfl) (Nat.le_of_ble_eq_true rfl) ?_
  exact kk _ _ _ w.2.2 (lv_sub hl [2, 6] rfl)
set_option maxRecDepth 100000 in
set_option maxHeartbeats 4000000 in
theorem s_L_25_9 {p : Program} {l : Launch} {e : Env} {s : State} {m : MethodId} {args : Array Value} {below : List Frame} {meth : Method} {c : Code} {Q : State → Prop} {D : va_G} {cy : Nat → ClassId} {A : Nat → Prop} {H : Heap} {locs : List Loc} {ls : Array Slot} {xs : Nat → Int32} (b q0 q1 q2 q4 q5 q6 q10 q11 q12 q13 q14 q15 q16 q17 m0 m1 m2 m3 m4 m5 m6 m7 m8 m9 m10 m11 m12 m13 m14 m15 m16 m17 o0 : Nat) (sx1 : xs 1 = 2) (sx2 : xs 2 = 1) (C : Cx p s m args c cL_law RL D cy A) (hml : c.maxLocals = 8) (hX : va_X b 6 xs s s.heap) (hbl : b < s.heap.size) (hbA : ¬ A b) (w : Wd D A s.heap [(q0, .inr (11, [.ref q1, .int 0, .int 0, .int (-1), .ref q2, .ref q4, .ref q5, .ref q6, .ref q10, .null])), (q10, .inr (9, [.int 0, .int 2, .int 20, .int 120, .int 0, .int 0, .int 0, .int 0, .ref q11, .int 0, .ref q12, .ref q13, .int 0, .ref q14, .ref q15, .ref q16, .ref q17])), (m0, .inr (12, [.ref m1, .ref m2, .ref m3, .ref m4, .ref m5, .int 0, .ref m6, .int 0, .int 0, .int 0, .int 0, .int 0, .int 0, .int 0, .int 0, .int 0, .int 0, .int (-1), .ref m7, .ref m8, .int 0, .ref m9, .int 0, .ref m10, .ref m11, .ref m12, .ref m13, .ref m14, .int 0, .ref m15, .ref m16, .ref m17])), (m7, .inl (cy 1, 1830, .inl (fun _ => 0))), (m8, .inl (cy 1, 1830, .inl (fun _ => 0))), (m9, .inl (cy 2, 2465, .inr (.inl (fun _ => 0)))), (m1, .inl (cy 1, 1868, .inl (upd (upd (upd (fun _ => 0) 1 2) 2 20) 3 120))), (o0, .inl (cy 2, 1, .inr (.inl (fun _ => 0))))] H locs) (hl : lv_has ls 8 [(0, .ref b), (1, .ref q0), (2, .ref m0), (3, .ref o0), (4, .int 0)]) (kk : ∀ (H : Heap) (locs : List Loc) (ls : Array Slot), va_S A s.heap H locs → lv_has ls 8 [(0, .ref b), (4, .int 0)] → W p l e room_1 s m args below meth c H locs 600002 7302232 Q (F0 m 2461 ls [])) : W p l e room_1 s m args below meth c H locs 37 29845 Q (F0 m 1808 ls []) := by
  refine lv_aload_n C.1 C.2.1 dL_law_1808 rfl (lv_at hl 1 rfl) ?_
  refine lv_aload_n C.1 C.2.1 dL_law_1809 rfl (lv_at hl 0 rfl) ?_
  refine lv_iload C.1 C.2.1 dL_law_1810 (lv_at hl 4 rfl) ?_
  refine lv_iconst (v := 1) C.1 C.2.1 dL_law_1812 (by decide) ?_
  refine r_iadd C (v := 1) dL_law_1813 (by decide) ?_
  refine r_sld C w hX hbl hbA (v := 2) (vinD (by decide)) sx1 dL_law_1814 ?_
  refine lv_aload_n C.1 C.2.1 dL_law_1815 rfl (lv_at hl 0 rfl) ?_
  refine lv_iload C.1 C.2.1 dL_law_1816 (lv_at hl 4 rfl) ?_
  refine lv_iconst (v := 2) C.1 C.2.1 dL_law_1818 (by decide) ?_
  refine r_iadd C (v := 2) dL_law_1819 (by decide) ?_
  refine r_sld C w hX hbl hbA (v := 1) (vinD (by decide)) sx2 dL_law_1820 ?_
  refine lv_aload_n C.1 C.2.1 dL_law_1821 rfl (lv_at hl 3 rfl) ?_
  refine r_callH C w fh_RL_213 (c_L_shortest_9 l D cy q0 o0 q1 q2 q4 q5 q6 q10 q11 q12 q13 q14 q15 q16 q17) (hl.1.trans hml.symm) [0, 1, 7] [2, 3, 4, 5, 6] (wr := [(m0, .inr (12, [.ref m1, .ref m2, .ref m3, .ref m4, .ref m5, .int 0, .ref m6, .int 0, .int 0, .int 0, .int 0, .int 0, .int 0, .int 0, .int 0, .int 0, .int 0, .int (-1), .ref m7, .ref m8, .int 0, .ref m9, .int 0, .ref m10, .ref m11, .ref m12, .ref m13, .ref m14, .int 0, .ref m15, .ref m16, .ref m17])), (m7, .inl (cy 1, 1830, .inl (fun _ => 0))), (m8, .inl (cy 1, 1830, .inl (fun _ => 0))), (m9, .inl (cy 2, 2465, .inr (.inl (fun _ => 0)))), (m1, .inl (cy 1, 1868, .inl (upd (upd (upd (fun _ => 0) 1 2) 2 20) 3 120)))]) ⟨rfl, rfl, rfl, rfl, by decide⟩ rfl rfl ⟨Nat.le_of_ble_eq_true rfl, Nat.le_of_ble_eq_true rfl, Nat.le_of_ble_eq_true rfl⟩ 73 53662 ⟨rfl, rfl, Nat.le_of_ble_eq_true rfl, Nat.le_of_ble_eq_true rfl⟩ dL_law_1822 (fun u H locs hp w => ?_)
  obtain ⟨n1, n2, n3, n4, n5, n6, n7, n8, n9, n10, n11, n12, n13, n14, n15, n16, n17, n18, n19, n20, n21, n22, n23, n24, n25, n26, n27, n28, n29, n30, n31, n32, n33, n34, n35, n36⟩ := u
  have w : Wd D A s.heap [(m0, .inr (12, [.ref m1, .ref m2, .ref m3, .ref m4, .ref m5, .int 0, .ref m6, .int 0, .int 0, .int 0, .int 0, .int 0, .int 0, .int 0, .int 0, .int 0, .int 0, .int (-1), .ref m7, .ref m8, .int 0, .ref m9, .int 0, .ref m10, .ref m11, .ref m12, .ref m13, .ref m14, .int 0, .ref m15, .ref m16, .ref m17])), (m7, .inl (cy 1, 1830, .inl (fun _ => 0))), (m8, .inl (cy 1, 1830, .inl (fun _ => 0))), (m9, .inl (cy 2, 2465, .inr (.inl (fun _ => 0)))), (m1, .inl (cy 1, 1868, .inl (upd (upd (upd (fun _ => 0) 1 2) 2 20) 3 120))), (o0, .inl (cy 2, 1, .inr (.inl (vp_updL (fun _ => 0) 0 (-1)))))] _ _ := w.pick [0, 1, 2, 3, 4, 5] rfl rfl
  refine r_top (g2 := F0 m 1825 ls [.int 0]) rfl ?_
  refine lv_istore (lv' := [(5, .int 0), (0, .ref b), (1, .ref q0), (2, .ref m0), (3, .ref o0), (4, .int 0)]) C.1 C.2.1 dL_law_1825 hl (by decide) rfl (fun ls hl => ?_)
  refine lv_aload_n C.1 C.2.1 dL_law_1827 rfl (lv_at hl 3 rfl) ?_
  refine lv_aload_n C.1 C.2.1 dL_law_1828 rfl (lv_at hl 1 rfl) ?_
  refine lv_iload C.1 C.2.1 dL_law_1829 (lv_at hl 5 rfl) ?_
  refine lv_iconst (v := 1) C.1 C.2.1 dL_law_1831 (by decide) ?_
  refine r_iadd C (v := 1) dL_law_1832 (by decide) ?_
  refine r_sld C w hX hbl hbA (v := 2) (vinD (by decide)) sx1 dL_law_1833 ?_
  refine lv_aload_n C.1 C.2.1 dL_law_1834 rfl (lv_at hl 1 rfl) ?_
  refine lv_iload C.1 C.2.1 dL_law_1835 (lv_at hl 5 rfl) ?_
  refine lv_iconst (v := 2) C.1 C.2.1 dL_law_1837 (by decide) ?_
  refine r_iadd C (v := 2) dL_law_1838 (by decide) ?_
  refine r_sld C w hX hbl hbA (v := 1) (vinD (by decide)) sx2 dL_law_1839 ?_
  refine r_callV C w fv_RL_215 (c_X12_shortest_3 l D cy m0 m1 m2 m3 m4 m5 m6 m7 m8 m9 m10 m11 m12 m13 m14 m15 m16 m17 1 (by decide) (by decide)) (hl.1.trans hml.symm) [0, 4, 1, 2, 3] [5] (wr := [(o0, .inl (cy 2, 1, .inr (.inl (vp_updL (fun _ => 0) 0 (-1)))))]) ⟨rfl, rfl, rfl, rfl, by decide⟩ 0 rfl rfl rfl rfl rfl ⟨Nat.le_of_ble_eq_true rfl, Nat.le_of_ble_eq_true rfl, Nat.le_of_ble_eq_true rfl⟩ 73 53662 ⟨rfl, rfl, Nat.le_of_ble_eq_true rfl, Nat.le_of_ble_eq_true rfl⟩ dL_law_1840 (fun u H locs hp w => ?_)
  have w : Wd D A s.heap [(o0, .inl (cy 2, 1, .inr (.inl (vp_updL (fun _ => 0) 0 (-1))))), (m0, .inr (12, [.ref m1, .ref m2, .ref m3, .ref m4, .ref m5, .int 0, .ref m6, .int 0, .int 0, .int 0, .int 0, .int 0, .int 0, .int 0, .int 0, .int 0, .int 0, .int (-1), .ref m7, .ref m8, .int 190, .ref m9, .int 0, .ref m10, .ref m11, .ref m12, .ref m13, .ref m14, .int 0, .ref m15, .ref m16, .ref m17]))] _ _ := w.pick [0, 4] rfl rfl
  refine r_top (g2 := F0 m 1843 ls [.int (-1)]) rfl ?_
  refine lv_istore (lv' := [(6, .int (-1)), (5, .int 0), (0, .ref b), (1, .ref q0), (2, .ref m0), (3, .ref o0), (4, .int 0)]) C.1 C.2.1 dL_law_1843 hl (by decide) rfl (fun ls hl => ?_)
  refine lv_aload_n C.1 C.2.1 dL_law_1845 rfl (lv_at hl 4 rfl) ?_
  refine r_callV C w fv_RL_134 (c_X12_thrown_3 l D cy m0 m1 m2 m3 m4 m5 m6 m7 m8 m9 m10 m11 m12 m13 m14 m15 m16 m17) (hl.1.trans hml.symm) [1] [0] (wr := [(o0, .inl (cy 2, 1, .inr (.inl (vp_updL (fun _ => 0) 0 (-1)))))]) ⟨rfl, rfl, rfl, rfl, by decide⟩ 0 rfl rfl rfl rfl rfl ⟨Nat.le_of_ble_eq_true rfl, Nat.le_of_ble_eq_true rfl, Nat.le_of_ble_eq_true rfl⟩ 73 53662 ⟨rfl, rfl, Nat.le_of_ble_eq_true rfl, Nat.le_of_ble_eq_true rfl⟩ dL_law_1846 (fun u H locs hp w => ?_)
  have w : Wd D A s.heap [(o0, .inl (cy 2, 1, .inr (.inl (vp_updL (fun _ => 0) 0 (-1))))), (m0, .inr (12, [.ref m1, .ref m2, .ref m3, .ref m4, .ref m5, .int 0, .ref m6, .int 0, .int 0, .int 0, .int 0, .int 0, .int 0, .int 0, .int 0, .int 0, .int 0, .int (-1), .ref m7, .ref m8, .int 190, .ref m9, .int 0, .ref m10, .ref m11, .ref m12, .ref m13, .ref m14, .int 0, .ref m15, .ref m16, .ref m17]))] _ _ := w.pick [0, 1] rfl rfl
  refine r_top (g2 := F0 m 1849 ls [.int 0]) rfl ?_
  refine lv_iload C.1 C.2.1 dL_law_1849 (lv_at hl 1 rfl) ?_
  refine b_icmp_eq_t C (tgt := 1856) dL_law_1851 (by decide) (by decide) ?_
  refine lv_iload C.1 C.2.1 dL_law_1856 (lv_at hl 1 rfl) ?_
  refine b_if_ne_f C (tgt := 1873) dL_law_1858 (by decide) (by decide) ?_
  refine lv_aload_n C.1 C.2.1 dL_law_1861 rfl (lv_at hl 5 rfl) ?_
  refine lv_iconst (v := 0) C.1 C.2.1 dL_law_1862 (by decide) ?_
  refine r_lald C w 0 rfl (v := (-1)) (vinD (by decide)) rfl dL_law_1863 ?_
  refine lv_iload C.1 C.2.1 dL_law_1864 (lv_at hl 0 rfl) ?_
  refine lv_i2l (v := (-1)) C.1 C.2.1 dL_law_1866 (by decide) ?_
  refine r_lcmp C (v := 0) dL_law_1867 (by decide) ?_
  refine b_if_eq_t C (tgt := 1873) dL_law_1868 (by decide) (by decide) ?_
  refine lv_goto (tgt := 2461) C.1 C.2.1 dL_law_1873 (by decide) ?_
  refine W.widen (k := 600002) (n := 7302232) (Nat.le_of_ble_eq_true rfl) (Nat.le_of_ble_eq_true rfl) ?_
  exact kk _ _ _ w.2.2 (lv_sub hl [2, 6] rfl)
set_option maxRecDepth 100000 in
set_option maxHeartbeats 4000000 in
theorem s_L_25_10 {p : Program} {l : Launch} {e : Env} {s : State} {m : MethodId} {args : Array Value} {below : List Frame} {meth : Method} {c : Code} {Q : State → Prop} {D : va_G} {cy : Nat → ClassId} {A : Nat → Prop} {H : Heap} {locs : List Loc} {ls : Array Slot} {xs : Nat → Int32} (b q0 q1 q2 q4 q5 q6 q10 m0 m1 m2 m3 m4 m5 m6 m7 m8 m9 m10 m11 m12 m13 m14 m15 m16 m17 o0 : Nat) (y1 : Int32) (y2 : Int32) (k0 : y2 < 10) (k1 : ¬ y1 < 1) (k2 : ¬ 4 < y1) (k3 : ¬ y2 = 0) (k4 : ¬ y2 = 1) (k5 : y2 < 0) (sx1 : xs 1 = y1) (sx2 : xs 2 = y2) (hst : l.stackTraces = false) (C : Cx p s m args c cL_law RL D cy A) (hml : c.maxLocals = 8) (hX : va_X b 6 xs s s.heap) (hbl : b < s.heap.size) (hbA : ¬ A b) (w : Wd D A s.heap [(q0, .inr (11, [.ref q1, .int 0, .int 0, .int (-1), .ref q2, .ref q4, .ref q5, .ref q6, .ref q10, .null])), (m0, .inr (12, [.ref m1, .ref m2, .ref m3, .ref m4, .ref m5, .int 0, .ref m6, .int 0, .int 0, .int 0, .int 0, .int 0, .int 0, .int 0, .int 0, .int 0, .int 0, .int (-1), .ref m7, .ref m8, .int 0, .ref m9, .int 0, .ref m10, .ref m11, .ref m12, .ref m13, .ref m14, .int 0, .ref m15, .ref m16, .ref m17]))] H locs) (hl : lv_has ls 8 [(0, .ref b), (1, .ref q0), (2, .ref m0), (3, .ref o0), (4, .int 0)]) (kk : ∀ (H : Heap) (locs : List Loc) (ls : Array Slot), va_S A s.heap H locs → lv_has ls 8 [(0, .ref b), (4, .int 0)] → W p l e room_1 s m args below meth c H locs 600002 7302232 Q (F0 m 2461 ls [])) : W p l e room_1 s m args below meth c H locs 37 29845 Q (F0 m 1808 ls []) := by
  refine lv_aload_n C.1 C.2.1 dL_law_1808 rfl (lv_at hl 1 rfl) ?_
  refine lv_aload_n C.1 C.2.1 dL_law_1809 rfl (lv_at hl 0 rfl) ?_
  refine lv_iload C.1 C.2.1 dL_law_1810 (lv_at hl 4 rfl) ?_
  refine lv_iconst (v := 1) C.1 C.2.1 dL_law_1812 (by decide) ?_
  refine r_iadd C (v := 1) dL_law_1813 (by decide) ?_
  refine r_sld C w hX hbl hbA (v := y1) (vinD (by decide)) sx1 dL_law_1814 ?_
  refine lv_aload_n C.1 C.2.1 dL_law_1815 rfl (lv_at hl 0 rfl) ?_
  refine lv_iload C.1 C.2.1 dL_law_1816 (lv_at hl 4 rfl) ?_
  refine lv_iconst (v := 2) C.1 C.2.1 dL_law_1818 (by decide) ?_
  refine r_iadd C (v := 2) dL_law_1819 (by decide) ?_
  refine r_sld C w hX hbl hbA (v := y2) (vinD (by decide)) sx2 dL_law_1820 ?_
  refine lv_aload_n C.1 C.2.1 dL_law_1821 rfl (lv_at hl 3 rfl) ?_
  refine r_callH C w fh_RL_213 (c_L_shortest_10 l D cy q0 o0 q1 q2 q4 q5 q6 q10 y1 y2 k0 k1 k2 k3 k4 hst) (hl.1.trans hml.symm) [0] [1] (wr := [(m0, .inr (12, [.ref m1, .ref m2, .ref m3, .ref m4, .ref m5, .int 0, .ref m6, .int 0, .int 0, .int 0, .int 0, .int 0, .int 0, .int 0, .int 0, .int 0, .int 0, .int (-1), .ref m7, .ref m8, .int 0, .ref m9, .int 0, .ref m10, .ref m11, .ref m12, .ref m13, .ref m14, .int 0, .ref m15, .ref m16, .ref m17]))]) ⟨rfl, rfl, rfl, rfl, by decide⟩ rfl rfl ⟨Nat.le_of_ble_eq_true rfl, Nat.le_of_ble_eq_true rfl, Nat.le_of_ble_eq_true rfl⟩ 38 29851 ⟨rfl, rfl, Nat.le_of_ble_eq_true rfl, Nat.le_of_ble_eq_true rfl⟩ dL_law_1822 (fun u H locs hp w => ?_)
  have w : Wd D A s.heap [(m0, .inr (12, [.ref m1, .ref m2, .ref m3, .ref m4, .ref m5, .int 0, .ref m6, .int 0, .int 0, .int 0, .int 0, .int 0, .int 0, .int 0, .int 0, .int 0, .int 0, .int (-1), .ref m7, .ref m8, .int 0, .ref m9, .int 0, .ref m10, .ref m11, .ref m12, .ref m13, .ref m14, .int 0, .ref m15, .ref m16, .ref m17]))] _ _ := w.pick [0] rfl rfl
  refine r_top (g2 := F0 m 1825 ls [.int 1]) rfl ?_
  refine lv_istore (lv' := [(5, .int 1), (0, .ref b), (1, .ref q0), (2, .ref m0), (3, .ref o0), (4, .int 0)]) C.1 C.2.1 dL_law_1825 hl (by decide) rfl (fun ls hl => ?_)
  refine lv_aload_n C.1 C.2.1 dL_law_1827 rfl (lv_at hl 3 rfl) ?_
  refine lv_aload_n C.1 C.2.1 dL_law_1828 rfl (lv_at hl 1 rfl) ?_
  refine lv_iload C.1 C.2.1 dL_law_1829 (lv_at hl 5 rfl) ?_
  refine lv_iconst (v := 1) C.1 C.2.1 dL_law_1831 (by decide) ?_
  refine r_iadd C (v := 1) dL_law_1832 (by decide) ?_
  refine r_sld C w hX hbl hbA (v := y1) (vinD (by decide)) sx1 dL_law_1833 ?_
  refine lv_aload_n C.1 C.2.1 dL_law_1834 rfl (lv_at hl 1 rfl) ?_
  refine lv_iload C.1 C.2.1 dL_law_1835 (lv_at hl 5 rfl) ?_
  refine lv_iconst (v := 2) C.1 C.2.1 dL_law_1837 (by decide) ?_
  refine r_iadd C (v := 2) dL_law_1838 (by decide) ?_
  refine r_sld C w hX hbl hbA (v := y2) (vinD (by decide)) sx2 dL_law_1839 ?_
  refine r_callV C w fv_RL_215 (c_X12_shortest_1 l D cy m0 m1 m2 m3 m4 m5 m6 m7 m8 m9 m10 m11 m12 m13 m14 m15 m16 m17 y1 y2 k1 k2 k5) (hl.1.trans hml.symm) [0] [] (wr := []) ⟨rfl, rfl, rfl, rfl, by decide⟩ 0 rfl rfl rfl rfl rfl ⟨Nat.le_of_ble_eq_true rfl, Nat.le_of_ble_eq_true rfl, Nat.le_of_ble_eq_true rfl⟩ 38 29851 ⟨rfl, rfl, Nat.le_of_ble_eq_true rfl, Nat.le_of_ble_eq_true rfl⟩ dL_law_1840 (fun u H locs hp w => ?_)
  have w : Wd D A s.heap [(m0, .inr (12, [.ref m1, .ref m2, .ref m3, .ref m4, .ref m5, .int 1, .ref m6, .int 0, .int 0, .int 0, .int 0, .int 0, .int 0, .int 0, .int 0, .int 0, .int 0, .int (-1), .ref m7, .ref m8, .int 0, .ref m9, .int 0, .ref m10, .ref m11, .ref m12, .ref m13, .ref m14, .int 0, .ref m15, .ref m16, .ref m17]))] _ _ := w.pick [0] rfl rfl
  refine r_top (g2 := F0 m 1843 ls [.int 0]) rfl ?_
  refine lv_istore (lv' := [(6, .int 0), (5, .int 1), (0, .ref b), (1, .ref q0), (2, .ref m0), (3, .ref o0), (4, .int 0)]) C.1 C.2.1 dL_law_1843 hl (by decide) rfl (fun ls hl => ?_)
  refine lv_aload_n C.1 C.2.1 dL_law_1845 rfl (lv_at hl 4 rfl) ?_
  refine r_callV C w fv_RL_134 (c_X12_thrown_0 l D cy m0 m1 m2 m3 m4 m5 m6 m7 m8 m9 m10 m11 m12 m13 m14 m15 m16 m17) (hl.1.trans hml.symm) [0] [] (wr := []) ⟨rfl, rfl, rfl, rfl, by decide⟩ 0 rfl rfl rfl rfl rfl ⟨Nat.le_of_ble_eq_true rfl, Nat.le_of_ble_eq_true rfl, Nat.le_of_ble_eq_true rfl⟩ 38 29851 ⟨rfl, rfl, Nat.le_of_ble_eq_true rfl, Nat.le_of_ble_eq_true rfl⟩ dL_law_1846 (fun u H locs hp w => ?_)
  have w : Wd D A s.heap [(m0, .inr (12, [.ref m1, .ref m2, .ref m3, .ref m4, .ref m5, .int 1, .ref m6, .int 0, .int 0, .int 0, .int 0, .int 0, .int 0, .int 0, .int 0, .int 0, .int 0, .int (-1), .ref m7, .ref m8, .int 0, .ref m9, .int 0, .ref m10, .ref m11, .ref m12, .ref m13, .ref m14, .int 0, .ref m15, .ref m16, .ref m17]))] _ _ := w.pick [0] rfl rfl
  refine r_top (g2 := F0 m 1849 ls [.int 1]) rfl ?_
  refine lv_iload C.1 C.2.1 dL_law_1849 (lv_at hl 1 rfl) ?_
  refine b_icmp_eq_t C (tgt := 1856) dL_law_1851 (by decide) (by decide) ?_
  refine lv_iload C.1 C.2.1 dL_law_1856 (lv_at hl 1 rfl) ?_
  refine b_if_ne_t C (tgt := 1873) dL_law_1858 (by decide) (by decide) ?_
  refine lv_goto (tgt := 2461) C.1 C.2.1 dL_law_1873 (by decide) ?_
  refine W.widen (k := 600002) (n := 7302232) (Nat.le_of_ble_eq_true rfl) (Nat.le_of_ble_eq_true rfl) ?_
  exact kk _ _ _ w.2.2 (lv_sub hl [2, 6] rfl)
set_option maxRecDepth 100000 in
set_option maxHeartbeats 4000000 in
theorem s_L_25_11 {p : Program} {l : Launch} {e : Env} {s : State} {m : MethodId} {args : Array Value} {below : List Frame} {meth : Method} {c : Code} {Q : State → Prop} {D : va_G} {cy : Nat → ClassId} {A : Nat → Prop} {H : Heap} {locs : List Loc} {ls : Array Slot} {xs : Nat → Int32} (b q0 q1 q2 q4 q5 q6 q10 m0 m1 m2 m3 m4 m5 m6 m7 m8 m9 m10 m11 m12 m13 m14 m15 m16 m17 o0 : Nat) (y1 : Int32) (y2 : Int32) (k0 : y2 < 10) (k1 : ¬ y1 < 1) (k2 : ¬ 4 < y1) (k3 : ¬ y2 = 0) (k4 : ¬ y2 = 1) (k5 : ¬ y2 < 0) (k6 : 1 < y2) (sx1 : xs 1 = y1) (sx2 : xs 2 = y2) (hst : l.stackTraces = false) (C : Cx p s m args c cL_law RL D cy A) (hml : c.maxLocals = 8) (hX : va_X b 6 xs s s.heap) (hbl : b < s.heap.size) (hbA : ¬ A b) (w : Wd D A s.heap [(q0, .inr (11, [.ref q1, .int 0, .int 0, .int (-1), .ref q2, .ref q4, .ref q5, .ref q6, .ref q10, .null])), (m0, .inr (12, [.ref m1, .ref m2, .ref m3, .ref m4, .ref m5, .int 0, .ref m6, .int 0, .int 0, .int 0, .int 0, .int 0, .int 0, .int 0, .int 0, .int 0, .int 0, .int (-1), .ref m7, .ref m8, .int 0, .ref m9, .int 0, .ref m10, .ref m11, .ref m12, .ref m13, .ref m14, .int 0, .ref m15, .ref m16, .ref m17]))] H locs) (hl : lv_has ls 8 [(0, .ref b), (1, .ref q0), (2, .ref m0), (3, .ref o0), (4, .int 0)]) (kk : ∀ (H : Heap) (locs : List Loc) (ls : Array Slot), va_S A s.heap H locs → lv_has ls 8 [(0, .ref b), (4, .int 0)] → W p l e room_1 s m args below meth c H locs 600002 7302232 Q (F0 m 2461 ls [])) : W p l e room_1 s m args below meth c H locs 37 29845 Q (F0 m 1808 ls []) := by
  refine lv_aload_n C.1 C.2.1 dL_law_1808 rfl (lv_at hl 1 rfl) ?_
  refine lv_aload_n C.1 C.2.1 dL_law_1809 rfl (lv_at hl 0 rfl) ?_
  refine lv_iload C.1 C.2.1 dL_law_1810 (lv_at hl 4 rfl) ?_
  refine lv_iconst (v := 1) C.1 C.2.1 dL_law_1812 (by decide) ?_
  refine r_iadd C (v := 1) dL_law_1813 (by decide) ?_
  refine r_sld C w hX hbl hbA (v := y1) (vinD (by decide)) sx1 dL_law_1814 ?_
  refine lv_aload_n C.1 C.2.1 dL_law_1815 rfl (lv_at hl 0 rfl) ?_
  refine lv_iload C.1 C.2.1 dL_law_1816 (lv_at hl 4 rfl) ?_
  refine lv_iconst (v := 2) C.1 C.2.1 dL_law_1818 (by decide) ?_
  refine r_iadd C (v := 2) dL_law_1819 (by decide) ?_
  refine r_sld C w hX hbl hbA (v := y2) (vinD (by decide)) sx2 dL_law_1820 ?_
  refine lv_aload_n C.1 C.2.1 dL_law_1821 rfl (lv_at hl 3 rfl) ?_
  refine r_callH C w fh_RL_213 (c_L_shortest_10 l D cy q0 o0 q1 q2 q4 q5 q6 q10 y1 y2 k0 k1 k2 k3 k4 hst) (hl.1.trans hml.symm) [0] [1] (wr := [(m0, .inr (12, [.ref m1, .ref m2, .ref m3, .ref m4, .ref m5, .int 0, .ref m6, .int 0, .int 0, .int 0, .int 0, .int 0, .int 0, .int 0, .int 0, .int 0, .int 0, .int (-1), .ref m7, .ref m8, .int 0, .ref m9, .int 0, .ref m10, .ref m11, .ref m12, .ref m13, .ref m14, .int 0, .ref m15, .ref m16, .ref m17]))]) ⟨rfl, rfl, rfl, rfl, by decide⟩ rfl rfl ⟨Nat.le_of_ble_eq_true rfl, Nat.le_of_ble_eq_true rfl, Nat.le_of_ble_eq_true rfl⟩ 38 29851 ⟨rfl, rfl, Nat.le_of_ble_eq_true rfl, Nat.le_of_ble_eq_true rfl⟩ dL_law_1822 (fun u H locs hp w => ?_)
  have w : Wd D A s.heap [(m0, .inr (12, [.ref m1, .ref m2, .ref m3, .ref m4, .ref m5, .int 0, .ref m6, .int 0, .int 0, .int 0, .int 0, .int 0, .int 0, .int 0, .int 0, .int 0, .int 0, .int (-1), .ref m7, .ref m8, .int 0, .ref m9, .int 0, .ref m10, .ref m11, .ref m12, .ref m13, .ref m14, .int 0, .ref m15, .ref m16, .ref m17]))] _ _ := w.pick [0] rfl rfl
  refine r_top (g2 := F0 m 1825 ls [.int 1]) rfl ?_
  refine lv_istore (lv' := [(5, .int 1), (0, .ref b), (1, .ref q0), (2, .ref m0), (3, .ref o0), (4, .int 0)]) C.1 C.2.1 dL_law_1825 hl (by decide) rfl (fun ls hl => ?_)
  refine lv_aload_n C.1 C.2.1 dL_law_1827 rfl (lv_at hl 3 rfl) ?_
  refine lv_aload_n C.1 C.2.1 dL_law_1828 rfl (lv_at hl 1 rfl) ?_
  refine lv_iload C.1 C.2.1 dL_law_1829 (lv_at hl 5 rfl) ?_
  refine lv_iconst (v := 1) C.1 C.2.1 dL_law_1831 (by decide) ?_
  refine r_iadd C (v := 1) dL_law_1832 (by decide) ?_
  refine r_sld C w hX hbl hbA (v := y1) (vinD (by decide)) sx1 dL_law_1833 ?_
  refine lv_aload_n C.1 C.2.1 dL_law_1834 rfl (lv_at hl 1 rfl) ?_
  refine lv_iload C.1 C.2.1 dL_law_1835 (lv_at hl 5 rfl) ?_
  refine lv_iconst (v := 2) C.1 C.2.1 dL_law_1837 (by decide) ?_
  refine r_iadd C (v := 2) dL_law_1838 (by decide) ?_
  refine r_sld C w hX hbl hbA (v := y2) (vinD (by decide)) sx2 dL_law_1839 ?_
  refine r_callV C w fv_RL_215 (c_X12_shortest_6 l D cy m0 m1 m2 m3 m4 m5 m6 m7 m8 m9 m10 m11 m12 m13 m14 m15 m16 m17 y1 y2 k1 k2 k5 k6 k0) (hl.1.trans hml.symm) [0] [] (wr := []) ⟨rfl, rfl, rfl, rfl, by decide⟩ 0 rfl rfl rfl rfl rfl ⟨Nat.le_of_ble_eq_true rfl, Nat.le_of_ble_eq_true rfl, Nat.le_of_ble_eq_true rfl⟩ 38 29851 ⟨rfl, rfl, Nat.le_of_ble_eq_true rfl, Nat.le_of_ble_eq_true rfl⟩ dL_law_1840 (fun u H locs hp w => ?_)
  have w : Wd D A s.heap [(m0, .inr (12, [.ref m1, .ref m2, .ref m3, .ref m4, .ref m5, .int 1, .ref m6, .int 0, .int 0, .int 0, .int 0, .int 0, .int 0, .int 0, .int 0, .int 0, .int 0, .int (-1), .ref m7, .ref m8, .int 0, .ref m9, .int 0, .ref m10, .ref m11, .ref m12, .ref m13, .ref m14, .int 0, .ref m15, .ref m16, .ref m17]))] _ _ := w.pick [0] rfl rfl
  refine r_top (g2 := F0 m 1843 ls [.int 0]) rfl ?_
  refine lv_istore (lv' := [(6, .int 0), (5, .int 1), (0, .ref b), (1, .ref q0), (2, .ref m0), (3, .ref o0), (4, .int 0)]) C.1 C.2.1 dL_law_1843 hl (by decide) rfl (fun ls hl => ?_)
  refine lv_aload_n C.1 C.2.1 dL_law_1845 rfl (lv_at hl 4 rfl) ?_
  refine r_callV C w fv_RL_134 (c_X12_thrown_0 l D cy m0 m1 m2 m3 m4 m5 m6 m7 m8 m9 m10 m11 m12 m13 m14 m15 m16 m17) (hl.1.trans hml.symm) [0] [] (wr := []) ⟨rfl, rfl, rfl, rfl, by decide⟩ 0 rfl rfl rfl rfl rfl ⟨Nat.le_of_ble_eq_true rfl, Nat.le_of_ble_eq_true rfl, Nat.le_of_ble_eq_true rfl⟩ 38 29851 ⟨rfl, rfl, Nat.le_of_ble_eq_true rfl, Nat.le_of_ble_eq_true rfl⟩ dL_law_1846 (fun u H locs hp w => ?_)
  have w : Wd D A s.heap [(m0, .inr (12, [.ref m1, .ref m2, .ref m3, .ref m4, .ref m5, .int 1, .ref m6, .int 0, .int 0, .int 0, .int 0, .int 0, .int 0, .int 0, .int 0, .int 0, .int 0, .int (-1), .ref m7, .ref m8, .int 0, .ref m9, .int 0, .ref m10, .ref m11, .ref m12, .ref m13, .ref m14, .int 0, .ref m15, .ref m16, .ref m17]))] _ _ := w.pick [0] rfl rfl
  refine r_top (g2 := F0 m 1849 ls [.int 1]) rfl ?_
  refine lv_iload C.1 C.2.1 dL_law_1849 (lv_at hl 1 rfl) ?_
  refine b_icmp_eq_t C (tgt := 1856) dL_law_1851 (by decide) (by decide) ?_
  refine lv_iload C.1 C.2.1 dL_law_1856 (lv_at hl 1 rfl) ?_
  refine b_if_ne_t C (tgt := 1873) dL_law_1858 (by decide) (by decide) ?_
  refine lv_goto (tgt := 2461) C.1 C.2.1 dL_law_1873 (by decide) ?_
  refine W.widen (k := 600002) (n := 7302232) (Nat.le_of_ble_eq_true rfl) (Nat.le_of_ble_eq_true rfl) ?_
  exact kk _ _ _ w.2.2 (lv_sub hl [2, 6] rfl)
set_option maxRecDepth 100000 in
set_option maxHeartbeats 4000000 in
theorem s_L_25_12 {p : Program} {l : Launch} {e : Env} {s : State} {m : MethodId} {args : Array Value} {below : List Frame} {meth : Method} {c : Code} {Q : State → Prop} {D : va_G} {cy : Nat → ClassId} {A : Nat → Prop} {H : Heap} {locs : List Loc} {ls : Array Slot} {xs : Nat → Int32} (b q0 q1 q2 q4 q5 q6 q10 m0 m1 m2 m3 m4 m5 m6 m7 m8 m9 m10 m11 m12 m13 m14 m15 m16 m17 o0 : Nat) (y1 : Int32) (y2 : Int32) (k0 : ¬ y2 < 10) (k1 : 4 ≤ (y2 - 10)) (k2 : y1 < 1) (sx1 : xs 1 = y1) (sx2 : xs 2 = y2) (hst : l.stackTraces = false) (C : Cx p s m args c cL_law RL D cy A) (hml : c.maxLocals = 8) (hX : va_X b 6 xs s s.heap) (hbl : b < s.heap.size) (hbA : ¬ A b) (w : Wd D A s.heap [(q0, .inr (11, [.ref q1, .int 0, .int 0, .int (-1), .ref q2, .ref q4, .ref q5, .ref q6, .ref q10, .null])), (m0, .inr (12, [.ref m1, .ref m2, .ref m3, .ref m4, .ref m5, .int 0, .ref m6, .int 0, .int 0, .int 0, .int 0, .int 0, .int 0, .int 0, .int 0, .int 0, .int 0, .int (-1), .ref m7, .ref m8, .int 0, .ref m9, .int 0, .ref m10, .ref m11, .ref m12, .ref m13, .ref m14, .int 0, .ref m15, .ref m16, .ref m17]))] H locs) (hl : lv_has ls 8 [(0, .ref b), (1, .ref q0), (2, .ref m0), (3, .ref o0), (4, .int 0)]) (kk : ∀ (H : Heap) (locs : List Loc) (ls : Array Slot), va_S A s.heap H locs → lv_has ls 8 [(0, .ref b), (4, .int 0)] → W p l e room_1 s m args below meth c H locs 600002 7302232 Q (F0 m 2461 ls [])) : W p l e room_1 s m args below meth c H locs 37 29845 Q (F0 m 1808 ls []) := by
  refine lv_aload_n C.1 C.2.1 dL_law_1808 rfl (lv_at hl 1 rfl) ?_
  refine lv_aload_n C.1 C.2.1 dL_law_1809 rfl (lv_at hl 0 rfl) ?_
  refine lv_iload C.1 C.2.1 dL_law_1810 (lv_at hl 4 rfl) ?_
  refine lv_iconst (v := 1) C.1 C.2.1 dL_law_1812 (by decide) ?_
  refine r_iadd C (v := 1) dL_law_1813 (by decide) ?_
  refine r_sld C w hX hbl hbA (v := y1) (vinD (by decide)) sx1 dL_law_1814 ?_
  refine lv_aload_n C.1 C.2.1 dL_law_1815 rfl (lv_at hl 0 rfl) ?_
  refine lv_iload C.1 C.2.1 dL_law_1816 (lv_at hl 4 rfl) ?_
  refine lv_iconst (v := 2) C.1 C.2.1 dL_law_1818 (by decide) ?_
  refine r_iadd C (v := 2) dL_law_1819 (by decide) ?_
  refine r_sld C w hX hbl hbA (v := y2) (vinD (by decide)) sx2 dL_law_1820 ?_
  refine lv_aload_n C.1 C.2.1 dL_law_1821 rfl (lv_at hl 3 rfl) ?_
  refine r_callH C w fh_RL_213 (c_L_shortest_11 l D cy q0 o0 q1 q2 q4 q5 q6 q10 y1 y2 k0 k1 k2 hst) (hl.1.trans hml.symm) [0] [1] (wr := [(m0, .inr (12, [.ref m1, .ref m2, .ref m3, .ref m4, .ref m5, .int 0, .ref m6, .int 0, .int 0, .int 0, .int 0, .int 0, .int 0, .int 0, .int 0, .int 0, .int 0, .int (-1), .ref m7, .ref m8, .int 0, .ref m9, .int 0, .ref m10, .ref m11, .ref m12, .ref m13, .ref m14, .int 0, .ref m15, .ref m16, .ref m17]))]) ⟨rfl, rfl, rfl, rfl, by decide⟩ rfl rfl ⟨Nat.le_of_ble_eq_true rfl, Nat.le_of_ble_eq_true rfl, Nat.le_of_ble_eq_true rfl⟩ 38 29851 ⟨rfl, rfl, Nat.le_of_ble_eq_true rfl, Nat.le_of_ble_eq_true rfl⟩ dL_law_1822 (fun u H locs hp w => ?_)
  have w : Wd D A s.heap [(m0, .inr (12, [.ref m1, .ref m2, .ref m3, .ref m4, .ref m5, .int 0, .ref m6, .int 0, .int 0, .int 0, .int 0, .int 0, .int 0, .int 0, .int 0, .int 0, .int 0, .int (-1), .ref m7, .ref m8, .int 0, .ref m9, .int 0, .ref m10, .ref m11, .ref m12, .ref m13, .ref m14, .int 0, .ref m15, .ref m16, .ref m17]))] _ _ := w.pick [0] rfl rfl
  refine r_top (g2 := F0 m 1825 ls [.int 1]) rfl ?_
  refine lv_istore (lv' := [(5, .int 1), (0, .ref b), (1, .ref q0), (2, .ref m0), (3, .ref o0), (4, .int 0)]) C.1 C.2.1 dL_law_1825 hl (by decide) rfl (fun ls hl => ?_)
  refine lv_aload_n C.1 C.2.1 dL_law_1827 rfl (lv_at hl 3 rfl) ?_
  refine lv_aload_n C.1 C.2.1 dL_law_1828 rfl (lv_at hl 1 rfl) ?_
  refine lv_iload C.1 C.2.1 dL_law_1829 (lv_at hl 5 rfl) ?_
  refine lv_iconst (v := 1) C.1 C.2.1 dL_law_1831 (by decide) ?_
  refine r_iadd C (v := 1) dL_law_1832 (by decide) ?_
  refine r_sld C w hX hbl hbA (v := y1) (vinD (by decide)) sx1 dL_law_1833 ?_
  refine lv_aload_n C.1 C.2.1 dL_law_1834 rfl (lv_at hl 1 rfl) ?_
  refine lv_iload C.1 C.2.1 dL_law_1835 (lv_at hl 5 rfl) ?_
  refine lv_iconst (v := 2) C.1 C.2.1 dL_law_1837 (by decide) ?_
  refine r_iadd C (v := 2) dL_law_1838 (by decide) ?_
  refine r_sld C w hX hbl hbA (v := y2) (vinD (by decide)) sx2 dL_law_1839 ?_
  refine r_callV C w fv_RL_215 (c_X12_shortest_0 l D cy m0 m1 m2 m3 m4 m5 m6 m7 m8 m9 m10 m11 m12 m13 m14 m15 m16 m17 y1 y2 k2) (hl.1.trans hml.symm) [0] [] (wr := []) ⟨rfl, rfl, rfl, rfl, by decide⟩ 0 rfl rfl rfl rfl rfl ⟨Nat.le_of_ble_eq_true rfl, Nat.le_of_ble_eq_true rfl, Nat.le_of_ble_eq_true rfl⟩ 38 29851 ⟨rfl, rfl, Nat.le_of_ble_eq_true rfl, Nat.le_of_ble_eq_true rfl⟩ dL_law_1840 (fun u H locs hp w => ?_)
  have w : Wd D A s.heap [(m0, .inr (12, [.ref m1, .ref m2, .ref m3, .ref m4, .ref m5, .int 1, .ref m6, .int 0, .int 0, .int 0, .int 0, .int 0, .int 0, .int 0, .int 0, .int 0, .int 0, .int (-1), .ref m7, .ref m8, .int 0, .ref m9, .int 0, .ref m10, .ref m11, .ref m12, .ref m13, .ref m14, .int 0, .ref m15, .ref m16, .ref m17]))] _ _ := w.pick [0] rfl rfl
  refine r_top (g2 := F0 m 1843 ls [.int 0]) rfl ?_
  refine lv_istore (lv' := [(6, .int 0), (5, .int 1), (0, .ref b), (1, .ref q0), (2, .ref m0), (3, .ref o0), (4, .int 0)]) C.1 C.2.1 dL_law_1843 hl (by decide) rfl (fun ls hl => ?_)
  refine lv_aload_n C.1 C.2.1 dL_law_1845 rfl (lv_at hl 4 rfl) ?_
  refine r_callV C w fv_RL_134 (c_X12_thrown_0 l D cy m0 m1 m2 m3 m4 m5 m6 m7 m8 m9 m10 m11 m12 m13 m14 m15 m16 m17) (hl.1.trans hml.symm) [0] [] (wr := []) ⟨rfl, rfl, rfl, rfl, by decide⟩ 0 rfl rfl rfl rfl rfl ⟨Nat.le_of_ble_eq_true rfl, Nat.le_of_ble_eq_true rfl, Nat.le_of_ble_eq_true rfl⟩ 38 29851 ⟨rfl, rfl, Nat.le_of_ble_eq_true rfl, Nat.le_of_ble_eq_true rfl⟩ dL_law_1846 (fun u H locs hp w => ?_)
  have w : Wd D A s.heap [(m0, .inr (12, [.ref m1, .ref m2, .ref m3, .ref m4, .ref m5, .int 1, .ref m6, .int 0, .int 0, .int 0, .int 0, .int 0, .int 0, .int 0, .int 0, .int 0, .int 0, .int (-1), .ref m7, .ref m8, .int 0, .ref m9, .int 0, .ref m10, .ref m11, .ref m12, .ref m13, .ref m14, .int 0, .ref m15, .ref m16, .ref m17]))] _ _ := w.pick [0] rfl rfl
  refine r_top (g2 := F0 m 1849 ls [.int 1]) rfl ?_
  refine lv_iload C.1 C.2.1 dL_law_1849 (lv_at hl 1 rfl) ?_
  refine b_icmp_eq_t C (tgt := 1856) dL_law_1851 (by decide) (by decide) ?_
  refine lv_iload C.1 C.2.1 dL_law_1856 (lv_at hl 1 rfl) ?_
  refine b_if_ne_t C (tgt := 1873) dL_law_1858 (by decide) (by decide) ?_
  refine lv_goto (tgt := 2461) C.1 C.2.1 dL_law_1873 (by decide) ?_
  refine W.widen (k := 600002) (n := 7302232) (Nat.le_of_ble_eq_true rfl) (Nat.le_of_ble_eq_true rfl) ?_
  exact kk _ _ _ w.2.2 (lv_sub hl [2, 6] rfl)
set_option maxRecDepth 100000 in
set_option maxHeartbeats 4000000 in
theorem s_L_25_13 {p : Program} {l : Launch} {e : Env} {s : State} {m : MethodId} {args : Array Value} {below : List Frame} {meth : Method} {c : Code} {Q : State → Prop} {D : va_G} {cy : Nat → ClassId} {A : Nat → Prop} {H : Heap} {locs : List Loc} {ls : Array Slot} {xs : Nat → Int32} (b q0 q1 q2 q4 q5 q6 q10 m0 m1 m2 m3 m4 m5 m6 m7 m8 m9 m10 m11 m12 m13 m14 m15 m16 m17 o0 : Nat) (y1 : Int32) (y2 : Int32) (k0 : ¬ y2 < 10) (k1 : 4 ≤ (y2 - 10)) (k2 : ¬ y1 < 1) (k3 : 4 < y1) (sx1 : xs 1 = y1) (sx2 : xs 2 = y2) (hst : l.stackTraces = false) (C : Cx p s m args c cL_law RL D cy A) (hml : c.maxLocals = 8) (hX : va_X b 6 xs s s.heap) (hbl : b < s.heap.size) (hbA : ¬ A b) (w : Wd D A s.heap [(q0, .inr (11, [.ref q1, .int 0, .int 0, .int (-1), .ref q2, .ref q4, .ref q5, .ref q6, .ref q10, .null])), (m0, .inr (12, [.ref m1, .ref m2, .ref m3, .ref m4, .ref m5, .int 0, .ref m6, .int 0, .int 0, .int 0, .int 0, .int 0, .int 0, .int 0, .int 0, .int 0, .int 0, .int (-1), .ref m7, .ref m8, .int 0, .ref m9, .int 0, .ref m10, .ref m11, .ref m12, .ref m13, .ref m14, .int 0, .ref m15, .ref m16, .ref m17]))] H locs) (hl : lv_has ls 8 [(0, .ref b), (1, .ref q0), (2, .ref m0), (3, .ref o0), (4, .int 0)]) (kk : ∀ (H : Heap) (locs : List Loc) (ls : Array Slot), va_S A s.heap H locs → lv_has ls 8 [(0, .ref b), (4, .int 0)] → W p l e room_1 s m args below meth c H locs 600002 7302232 Q (F0 m 2461 ls [])) : W p l e room_1 s m args below meth c H locs 37 29845 Q (F0 m 1808 ls []) := by
  refine lv_aload_n C.1 C.2.1 dL_law_1808 rfl (lv_at hl 1 rfl) ?_
  refine lv_aload_n C.1 C.2.1 dL_law_1809 rfl (lv_at hl 0 rfl) ?_
  refine lv_iload C.1 C.2.1 dL_law_1810 (lv_at hl 4 rfl) ?_
  refine lv_iconst (v := 1) C.1 C.2.1 dL_law_1812 (by decide) ?_
  refine r_iadd C (v := 1) dL_law_1813 (by decide) ?_
  refine r_sld C w hX hbl hbA (v := y1) (vinD (by decide)) sx1 dL_law_1814 ?_
  refine lv_aload_n C.1 C.2.1 dL_law_1815 rfl (lv_at hl 0 rfl) ?_
  refine lv_iload C.1 C.2.1 dL_law_1816 (lv_at hl 4 rfl) ?_
  refine lv_iconst (v := 2) C.1 C.2.1 dL_law_1818 (by decide) ?_
  refine r_iadd C (v := 2) dL_law_1819 (by decide) ?_
  refine r_sld C w hX hbl hbA (v := y2) (vinD (by decide)) sx2 dL_law_1820 ?_
  refine lv_aload_n C.1 C.2.1 dL_law_1821 rfl (lv_at hl 3 rfl) ?_
  refine r_callH C w fh_RL_213 (c_L_shortest_12 l D cy q0 o0 q1 q2 q4 q5 q6 q10 y1 y2 k0 k1 k2 k3 hst) (hl.1.trans hml.symm) [0] [1] (wr := [(m0, .inr (12, [.ref m1, .ref m2, .ref m3, .ref m4, .ref m5, .int 0, .ref m6, .int 0, .int 0, .int 0, .int 0, .int 0, .int 0, .int 0, .int 0, .int 0, .int 0, .int (-1), .ref m7, .ref m8, .int 0, .ref m9, .int 0, .ref m10, .ref m11, .ref m12, .ref m13, .ref m14, .int 0, .ref m15, .ref m16, .ref m17]))]) ⟨rfl, rfl, rfl, rfl, by decide⟩ rfl rfl ⟨Nat.le_of_ble_eq_true rfl, Nat.le_of_ble_eq_true rfl, Nat.le_of_ble_eq_true rfl⟩ 38 29851 ⟨rfl, rfl, Nat.le_of_ble_eq_true rfl, Nat.le_of_ble_eq_true rfl⟩ dL_law_1822 (fun u H locs hp w => ?_)
  have w : Wd D A s.heap [(m0, .inr (12, [.ref m1, .ref m2, .ref m3, .ref m4, .ref m5, .int 0, .ref m6, .int 0, .int 0, .int 0, .int 0, .int 0, .int 0, .int 0, .int 0, .int 0, .int 0, .int (-1), .ref m7, .ref m8, .int 0, .ref m9, .int 0, .ref m10, .ref m11, .ref m12, .ref m13, .ref m14, .int 0, .ref m15, .ref m16, .ref m17]))] _ _ := w.pick [0] rfl rfl
  refine r_top (g2 := F0 m 1825 ls [.int 1]) rfl ?_
  refine lv_istore (lv' := [(5, .int 1), (0, .ref b), (1, .ref q0), (2, .ref m0), (3, .ref o0), (4, .int 0)]) C.1 C.2.1 dL_law_1825 hl (by decide) rfl (fun ls hl => ?_)
  refine lv_aload_n C.1 C.2.1 dL_law_1827 rfl (lv_at hl 3 rfl) ?_
  refine lv_aload_n C.1 C.2.1 dL_law_1828 rfl (lv_at hl 1 rfl) ?_
  refine lv_iload C.1 C.2.1 dL_law_1829 (lv_at hl 5 rfl) ?_
  refine lv_iconst (v := 1) C.1 C.2.1 dL_law_1831 (by decide) ?_
  refine r_iadd C (v := 1) dL_law_1832 (by decide) ?_
  refine r_sld C w hX hbl hbA (v := y1) (vinD (by decide)) sx1 dL_law_1833 ?_
  refine lv_aload_n C.1 C.2.1 dL_law_1834 rfl (lv_at hl 1 rfl) ?_
  refine lv_iload C.1 C.2.1 dL_law_1835 (lv_at hl 5 rfl) ?_
  refine lv_iconst (v := 2) C.1 C.2.1 dL_law_1837 (by decide) ?_
  refine r_iadd C (v := 2) dL_law_1838 (by decide) ?_
  refine r_sld C w hX hbl hbA (v := y2) (vinD (by decide)) sx2 dL_law_1839 ?_
  refine r_callV C w fv_RL_215 (c_X12_shortest_12 l D cy m0 m1 m2 m3 m4 m5 m6 m7 m8 m9 m10 m11 m12 m13 m14 m15 m16 m17 y1 y2 k2 k3) (hl.1.trans hml.symm) [0] [] (wr := []) ⟨rfl, rfl, rfl, rfl, by decide⟩ 0 rfl rfl rfl rfl rfl ⟨Nat.le_of_ble_eq_true rfl, Nat.le_of_ble_eq_true rfl, Nat.le_of_ble_eq_true rfl⟩ 38 29851 ⟨rfl, rfl, Nat.le_of_ble_eq_true rfl, Nat.le_of_ble_eq_true rfl⟩ dL_law_1840 (fun u H locs hp w => ?_)
  have w : Wd D A s.heap [(m0, .inr (12, [.ref m1, .ref m2, .ref m3, .ref m4, .ref m5, .int 1, .ref m6, .int 0, .int 0, .int 0, .int 0, .int 0, .int 0, .int 0, .int 0, .int 0, .int 0, .int (-1), .ref m7, .ref m8, .int 0, .ref m9, .int 0, .ref m10, .ref m11, .ref m12, .ref m13, .ref m14, .int 0, .ref m15, .ref m16, .ref m17]))] _ _ := w.pick [0] rfl rfl
  refine r_top (g2 := F0 m 1843 ls [.int 0]) rfl ?_
  refine lv_istore (lv' := [(6, .int 0), (5, .int 1), (0, .ref b), (1, .ref q0), (2, .ref m0), (3, .ref o0), (4, .int 0)]) C.1 C.2.1 dL_law_1843 hl (by decide) rfl (fun ls hl => ?_)
  refine lv_aload_n C.1 C.2.1 dL_law_1845 rfl (lv_at hl 4 rfl) ?_
  refine r_callV C w fv_RL_134 (c_X12_thrown_0 l D cy m0 m1 m2 m3 m4 m5 m6 m7 m8 m9 m10 m11 m12 m13 m14 m15 m16 m17) (hl.1.trans hml.symm) [0] [] (wr := []) ⟨rfl, rfl, rfl, rfl, by decide⟩ 0 rfl rfl rfl rfl rfl ⟨Nat.le_of_ble_eq_true rfl, Nat.le_of_ble_eq_true rfl, Nat.le_of_ble_eq_true rfl⟩ 38 29851 ⟨rfl, rfl, Nat.le_of_ble_eq_true rfl, Nat.le_of_ble_eq_true rfl⟩ dL_law_1846 (fun u H locs hp w => ?_)
  have w : Wd D A s.heap [(m0, .inr (12, [.ref m1, .ref m2, .ref m3, .ref m4, .ref m5, .int 1, .ref m6, .int 0, .int 0, .int 0, .int 0, .int 0, .int 0, .int 0, .int 0, .int 0, .int 0, .int (-1), .ref m7, .ref m8, .int 0, .ref m9, .int 0, .ref m10, .ref m11, .ref m12, .ref m13, .ref m14, .int 0, .ref m15, .ref m16, .ref m17]))] _ _ := w.pick [0] rfl rfl
  refine r_top (g2 := F0 m 1849 ls [.int 1]) rfl ?_
  refine lv_iload C.1 C.2.1 dL_law_1849 (lv_at hl 1 rfl) ?_
  refine b_icmp_eq_t C (tgt := 1856) dL_law_1851 (by decide) (by decide) ?_
  refine lv_iload C.1 C.2.1 dL_law_1856 (lv_at hl 1 rfl) ?_
  refine b_if_ne_t C (tgt := 1873) dL_law_1858 (by decide) (by decide) ?_
  refine lv_goto (tgt := 2461) C.1 C.2.1 dL_law_1873 (by decide) ?_
  refine W.widen (k := 600002) (n := 7302232) (Nat.le_of_ble_eq_true rfl) (Nat.le_of_ble_eq_true rfl) ?_
  exact kk _ _ _ w.2.2 (lv_sub hl [2, 6] rfl)
set_option maxRecDepth 100000 in
set_option maxHeartbeats 4000000 in
theorem s_L_25_14 {p : Program} {l : Launch} {e : Env} {s : State} {m : MethodId} {args : Array Value} {below : List Frame} {meth : Method} {c : Code} {Q : State → Prop} {D : va_G} {cy : Nat → ClassId} {A : Nat → Prop} {H : Heap} {locs : List Loc} {ls : Array Slot} {xs : Nat → Int32} (b q0 q1 q2 q4 q5 q6 q10 m0 m1 m2 m3 m4 m5 m6 m7 m8 m9 m10 m11 m12 m13 m14 m15 m16 m17 o0 : Nat) (y1 : Int32) (y2 : Int32) (k0 : ¬ y2 < 10) (k1 : 4 ≤ (y2 - 10)) (k2 : ¬ y1 < 1) (k3 : ¬ 4 < y1) (k4 : 13 < y2) (sx1 : xs 1 = y1) (sx2 : xs 2 = y2) (hst : l.stackTraces = false) (C : Cx p s m args c cL_law RL D cy A) (hml : c.maxLocals = 8) (hX : va_X b 6 xs s s.heap) (hbl : b < s.heap.size) (hbA : ¬ A b) (w : Wd D A s.heap [(q0, .inr (11, [.ref q1, .int 0, .int 0, .int (-1), .ref q2, .ref q4, .ref q5, .ref q6, .ref q10, .null])), (m0, .inr (12, [.ref m1, .ref m2, .ref m3, .ref m4, .ref m5, .int 0, .ref m6, .int 0, .int 0, .int 0, .int 0, .int 0, .int 0, .int 0, .int 0, .int 0, .int 0, .int (-1), .ref m7, .ref m8, .int 0, .ref m9, .int 0, .ref m10, .ref m11, .ref m12, .ref m13, .ref m14, .int 0, .ref m15, .ref m16, .ref m17]))] H locs) (hl : lv_has ls 8 [(0, .ref b), (1, .ref q0), (2, .ref m0), (3, .ref o0), (4, .int 0)]) (kk : ∀ (H : Heap) (locs : List Loc) (ls : Array Slot), va_S A s.heap H locs → lv_has ls 8 [(0, .ref b), (4, .int 0)] → W p l e room_1 s m args below meth c H locs 600002 7302232 Q (F0 m 2461 ls [])) : W p l e room_1 s m args below meth c H locs 37 29845 Q (F0 m 1808 ls []) := by
  refine lv_aload_n C.1 C.2.1 dL_law_1808 rfl (lv_at hl 1 rfl) ?_
  refine lv_aload_n C.1 C.2.1 dL_law_1809 rfl (lv_at hl 0 rfl) ?_
  refine lv_iload C.1 C.2.1 dL_law_1810 (lv_at hl 4 rfl) ?_
  refine lv_iconst (v := 1) C.1 C.2.1 dL_law_1812 (by decide) ?_
  refine r_iadd C (v := 1) dL_law_1813 (by decide) ?_
  refine r_sld C w hX hbl hbA (v := y1) (vinD (by decide)) sx1 dL_law_1814 ?_
  refine lv_aload_n C.1 C.2.1 dL_law_1815 rfl (lv_at hl 0 rfl) ?_
  refine lv_iload C.1 C.2.1 dL_law_1816 (lv_at hl 4 rfl) ?_
  refine lv_iconst (v := 2) C.1 C.2.1 dL_law_1818 (by decide) ?_
  refine r_iadd C (v := 2) dL_law_1819 (by decide) ?_
  refine r_sld C w hX hbl hbA (v := y2) (vinD (by decide)) sx2 dL_law_1820 ?_
  refine lv_aload_n C.1 C.2.1 dL_law_1821 rfl (lv_at hl 3 rfl) ?_
  refine r_callH C w fh_RL_213 (c_L_shortest_13 l D cy q0 o0 q1 q2 q4 q5 q6 q10 y1 y2 k0 k1 k2 k3 hst) (hl.1.trans hml.symm) [0] [1] (wr := [(m0, .inr (12, [.ref m1, .ref m2, .ref m3, .ref m4, .ref m5, .int 0, .ref m6, .int 0, .int 0, .int 0, .int 0, .int 0, .int 0, .int 0, .int 0, .int 0, .int 0, .int (-1), .ref m7, .ref m8, .int 0, .ref m9, .int 0, .ref m10, .ref m11, .ref m12, .ref m13, .ref m14, .int 0, .ref m15, .ref m16, .ref m17]))]) ⟨rfl, rfl, rfl, rfl, by decide⟩ rfl rfl ⟨Nat.le_of_ble_eq_true rfl, Nat.le_of_ble_eq_true rfl, Nat.le_of_ble_eq_true rfl⟩ 38 29851 ⟨rfl, rfl, Nat.le_of_ble_eq_true rfl, Nat.le_of_ble_eq_true rfl⟩ dL_law_1822 (fun u H locs hp w => ?_)
  have w : Wd D A s.heap [(m0, .inr (12, [.ref m1, .ref m2, .ref m3, .ref m4, .ref m5, .int 0, .ref m6, .int 0, .int 0, .int 0, .int 0, .int 0, .int 0, .int 0, .int 0, .int 0, .int 0, .int (-1), .ref m7, .ref m8, .int 0, .ref m9, .int 0, .ref m10, .ref m11, .ref m12, .ref m13, .ref m14, .int 0, .ref m15, .ref m16, .ref m17]))] _ _ := w.pick [0] rfl rfl
  refine r_top (g2 := F0 m 1825 ls [.int 1]) rfl ?_
  refine lv_istore (lv' := [(5, .int 1), (0, .ref b), (1, .ref q0), (2, .ref m0), (3, .ref o0), (4, .int 0)]) C.1 C.2.1 dL_law_1825 hl (by decide) rfl (fun ls hl => ?_)
  refine lv_aload_n C.1 C.2.1 dL_law_1827 rfl (lv_at hl 3 rfl) ?_
  refine lv_aload_n C.1 C.2.1 dL_law_1828 rfl (lv_at hl 1 rfl) ?_
  refine lv_iload C.1 C.2.1 dL_law_1829 (lv_at hl 5 rfl) ?_
  refine lv_iconst (v := 1) C.1 C.2.1 dL_law_1831 (by decide) ?_
  refine r_iadd C (v := 1) dL_law_1832 (by decide) ?_
  refine r_sld C w hX hbl hbA (v := y1) (vinD (by decide)) sx1 dL_law_1833 ?_
  refine lv_aload_n C.1 C.2.1 dL_law_1834 rfl (lv_at hl 1 rfl) ?_
  refine lv_iload C.1 C.2.1 dL_law_1835 (lv_at hl 5 rfl) ?_
  refine lv_iconst (v := 2) C.1 C.2.1 dL_law_1837 (by decide) ?_
  refine r_iadd C (v := 2) dL_law_1838 (by decide) ?_
  refine r_sld C w hX hbl hbA (v := y2) (vinD (by decide)) sx2 dL_law_1839 ?_
  refine r_callV C w fv_RL_215 (c_X12_shortest_11 l D cy m0 m1 m2 m3 m4 m5 m6 m7 m8 m9 m10 m11 m12 m13 m14 m15 m16 m17 y1 y2 k2 k3 (by have h0 := (i_nlt k0); have e0 : (0 : Int32).toInt = 0 := (by decide); have e1 : (10 : Int32).toInt = 10 := (by decide); rw [fa_lt]; omega) (by have h0 := (i_nlt k0); have e0 : (1 : Int32).toInt = 1 := (by decide); have e1 : (10 : Int32).toInt = 10 := (by decide); rw [fa_lt]; omega) k0 k4) (hl.1.trans hml.symm) [0] [] (wr := []) ⟨rfl, rfl, rfl, rfl, by decide⟩ 0 rfl rfl rfl rfl rfl ⟨Nat.le_of_ble_eq_true rfl, Nat.le_of_ble_eq_true rfl, Nat.le_of_ble_eq_true rfl⟩ 38 29851 ⟨rfl, rfl, Nat.le_of_ble_eq_true rfl, Nat.le_of_ble_eq_true rfl⟩ dL_law_1840 (fun u H locs hp w => ?_)
  have w : Wd D A s.heap [(m0, .inr (12, [.ref m1, .ref m2, .ref m3, .ref m4, .ref m5, .int 1, .ref m6, .int 0, .int 0, .int 0, .int 0, .int 0, .int 0, .int 0, .int 0, .int 0, .int 0, .int (-1), .ref m7, .ref m8, .int 0, .ref m9, .int 0, .ref m10, .ref m11, .ref m12, .ref m13, .ref m14, .int 0, .ref m15, .ref m16, .ref m17]))] _ _ := w.pick [0] rfl rfl
  refine r_top (g2 := F0 m 1843 ls [.int 0]) rfl ?_
  refine lv_istore (lv' := [(6, .int 0), (5, .int 1), (0, .ref b), (1, .ref q0), (2, .ref m0), (3, .ref o0), (4, .int 0)]) C.1 C.2.1 dL_law_1843 hl (by decide) rfl (fun ls hl => ?_)
  refine lv_aload_n C.1 C.2.1 dL_law_1845 rfl (lv_at hl 4 rfl) ?_
  refine r_callV C w fv_RL_134 (c_X12_thrown_0 l D cy m0 m1 m2 m3 m4 m5 m6 m7 m8 m9 m10 m11 m12 m13 m14 m15 m16 m17) (hl.1.trans hml.symm) [0] [] (wr := []) ⟨rfl, rfl, rfl, rfl, by decide⟩ 0 rfl rfl rfl rfl rfl ⟨Nat.le_of_ble_eq_true rfl, Nat.le_of_ble_eq_true rfl, Nat.le_of_ble_eq_true rfl⟩ 38 29851 ⟨rfl, rfl, Nat.le_of_ble_eq_true rfl, Nat.le_of_ble_eq_true rfl⟩ dL_law_1846 (fun u H locs hp w => ?_)
  have w : Wd D A s.heap [(m0, .inr (12, [.ref m1, .ref m2, .ref m3, .ref m4, .ref m5, .int 1, .ref m6, .int 0, .int 0, .int 0, .int 0, .int 0, .int 0, .int 0, .int 0, .int 0, .int 0, .int (-1), .ref m7, .ref m8, .int 0, .ref m9, .int 0, .ref m10, .ref m11, .ref m12, .ref m13, .ref m14, .int 0, .ref m15, .ref m16, .ref m17]))] _ _ := w.pick [0] rfl rfl
  refine r_top (g2 := F0 m 1849 ls [.int 1]) rfl ?_
  refine lv_iload C.1 C.2.1 dL_law_1849 (lv_at hl 1 rfl) ?_
  refine b_icmp_eq_t C (tgt := 1856) dL_law_1851 (by decide) (by decide) ?_
  refine lv_iload C.1 C.2.1 dL_law_1856 (lv_at hl 1 rfl) ?_
  refine b_if_ne_t C (tgt := 1873) dL_law_1858 (by decide) (by decide) ?_
  refine lv_goto (tgt := 2461) C.1 C.2.1 dL_law_1873 (by decide) ?_
  refine W.widen (k := 600002) (n := 7302232) (Nat.le_of_ble_eq_true rfl) (Nat.le_of_ble_eq_true rfl) ?_
  exact kk _ _ _ w.2.2 (lv_sub hl [2, 6] rfl)
set_option maxRecDepth 100000 in
set_option maxHeartbeats 4000000 in
theorem s_L_25_15 {p : Program} {l : Launch} {e : Env} {s : State} {m : MethodId} {args : Array Value} {below : List Frame} {meth : Method} {c : Code} {Q : State → Prop} {D : va_G} {cy : Nat → ClassId} {A : Nat → Prop} {H : Heap} {locs : List Loc} {ls : Array Slot} {xs : Nat → Int32} (b q0 q1 q2 q4 q5 q6 q10 m0 m1 m2 m3 m4 m5 m6 m7 m8 m9 m10 m11 m12 m13 m14 m15 m16 m17 o0 : Nat) (y1 : Int32) (y2 : Int32) (k0 : ¬ y2 < 10) (k1 : ¬ 4 ≤ (y2 - 10)) (k2 : y1 < 1) (sx1 : xs 1 = y1) (sx2 : xs 2 = y2) (hst : l.stackTraces = false) (C : Cx p s m args c cL_law RL D cy A) (hml : c.maxLocals = 8) (hX : va_X b 6 xs s s.heap) (hbl : b < s.heap.size) (hbA : ¬ A b) (w : Wd D A s.heap [(q0, .inr (11, [.ref q1, .int 0, .int 0, .int (-1), .ref q2, .ref q4, .ref q5, .ref q6, .ref q10, .null])), (m0, .inr (12, [.ref m1, .ref m2, .ref m3, .ref m4, .ref m5, .int 0, .ref m6, .int 0, .int 0, .int 0, .int 0, .int 0, .int 0, .int 0, .int 0, .int 0, .int 0, .int (-1), .ref m7, .ref m8, .int 0, .ref m9, .int 0, .ref m10, .ref m11, .ref m12, .ref m13, .ref m14, .int 0, .ref m15, .ref m16, .ref m17]))] H locs) (hl : lv_has ls 8 [(0, .ref b), (1, .ref q0), (2, .ref m0), (3, .ref o0), (4, .int 0)]) (kk : ∀ (H : Heap) (locs : List Loc) (ls : Array Slot), va_S A s.heap H locs → lv_has ls 8 [(0, .ref b), (4, .int 0)] → W p l e room_1 s m args below meth c H locs 600002 7302232 Q (F0 m 2461 ls [])) : W p l e room_1 s m args below meth c H locs 37 29845 Q (F0 m 1808 ls []) := by
  refine lv_aload_n C.1 C.2.1 dL_law_1808 rfl (lv_at hl 1 rfl) ?_
  refine lv_aload_n C.1 C.2.1 dL_law_1809 rfl (lv_at hl 0 rfl) ?_
  refine lv_iload C.1 C.2.1 dL_law_1810 (lv_at hl 4 rfl) ?_
  refine lv_iconst (v := 1) C.1 C.2.1 dL_law_1812 (by decide) ?_
  refine r_iadd C (v := 1) dL_law_1813 (by decide) ?_
  refine r_sld C w hX hbl hbA (v := y1) (vinD (by decide)) sx1 dL_law_1814 ?_
  refine lv_aload_n C.1 C.2.1 dL_law_1815 rfl (lv_at hl 0 rfl) ?_
  refine lv_iload C.1 C.2.1 dL_law_1816 (lv_at hl 4 rfl) ?_
  refine lv_iconst (v := 2) C.1 C.2.1 dL_law_1818 (by decide) ?_
  refine r_iadd C (v := 2) dL_law_1819 (by decide) ?_
  refine r_sld C w hX hbl hbA (v := y2) (vinD (by decide)) sx2 dL_law_1820 ?_
  refine lv_aload_n C.1 C.2.1 dL_law_1821 rfl (lv_at hl 3 rfl) ?_
  refine r_callH C w fh_RL_213 (c_L_shortest_14 l D cy q0 o0 q1 q2 q4 q5 q6 q10 y1 y2 k0 k1 k2 hst) (hl.1.trans hml.symm) [0] [1] (wr := [(m0, .inr (12, [.ref m1, .ref m2, .ref m3, .ref m4, .ref m5, .int 0, .ref m6, .int 0, .int 0, .int 0, .int 0, .int 0, .int 0, .int 0, .int 0, .int 0, .int 0, .int (-1), .ref m7, .ref m8, .int 0, .ref m9, .int 0, .ref m10, .ref m11, .ref m12, .ref m13, .ref m14, .int 0, .ref m15, .ref m16, .ref m17]))]) ⟨rfl, rfl, rfl, rfl, by decide⟩ rfl rfl ⟨Nat.le_of_ble_eq_true rfl, Nat.le_of_ble_eq_true rfl, Nat.le_of_ble_eq_true rfl⟩ 38 29851 ⟨rfl, rfl, Nat.le_of_ble_eq_true rfl, Nat.le_of_ble_eq_true rfl⟩ dL_law_1822 (fun u H locs hp w => ?_)
  have w : Wd D A s.heap [(m0, .inr (12, [.ref m1, .ref m2, .ref m3, .ref m4, .ref m5, .int 0, .ref m6, .int 0, .int 0, .int 0, .int 0, .int 0, .int 0, .int 0, .int 0, .int 0, .int 0, .int (-1), .ref m7, .ref m8, .int 0, .ref m9, .int 0, .ref m10, .ref m11, .ref m12, .ref m13, .ref m14, .int 0, .ref m15, .ref m16, .ref m17]))] _ _ := w.pick [0] rfl rfl
  refine r_top (g2 := F0 m 1825 ls [.int 1]) rfl ?_
  refine lv_istore (lv' := [(5, .int 1), (0, .ref b), (1, .ref q0), (2, .ref m0), (3, .ref o0), (4, .int 0)]) C.1 C.2.1 dL_law_1825 hl (by decide) rfl (fun ls hl => ?_)
  refine lv_aload_n C.1 C.2.1 dL_law_1827 rfl (lv_at hl 3 rfl) ?_
  refine lv_aload_n C.1 C.2.1 dL_law_1828 rfl (lv_at hl 1 rfl) ?_
  refine lv_iload C.1 C.2.1 dL_law_1829 (lv_at hl 5 rfl) ?_
  refine lv_iconst (v := 1) C.1 C.2.1 dL_law_1831 (by decide) ?_
  refine r_iadd C (v := 1) dL_law_1832 (by decide) ?_
  refine r_sld C w hX hbl hbA (v := y1) (vinD (by decide)) sx1 dL_law_1833 ?_
  refine lv_aload_n C.1 C.2.1 dL_law_1834 rfl (lv_at hl 1 rfl) ?_
  refine lv_iload C.1 C.2.1 dL_law_1835 (lv_at hl 5 rfl) ?_
  refine lv_iconst (v := 2) C.1 C.2.1 dL_law_1837 (by decide) ?_
  refine r_iadd C (v := 2) dL_law_1838 (by decide) ?_
  refine r_sld C w hX hbl hbA (v := y2) (vinD (by decide)) sx2 dL_law_1839 ?_
  refine r_callV C w fv_RL_215 (c_X12_shortest_0 l D cy m0 m1 m2 m3 m4 m5 m6 m7 m8 m9 m10 m11 m12 m13 m14 m15 m16 m17 y1 y2 k2) (hl.1.trans hml.symm) [0] [] (wr := []) ⟨rfl, rfl, rfl, rfl, by decide⟩ 0 rfl rfl rfl rfl rfl ⟨Nat.le_of_ble_eq_true rfl, Nat.le_of_ble_eq_true rfl, Nat.le_of_ble_eq_true rfl⟩ 38 29851 ⟨rfl, rfl, Nat.le_of_ble_eq_true rfl, Nat.le_of_ble_eq_true rfl⟩ dL_law_1840 (fun u H locs hp w => ?_)
  have w : Wd D A s.heap [(m0, .inr (12, [.ref m1, .ref m2, .ref m3, .ref m4, .ref m5, .int 1, .ref m6, .int 0, .int 0, .int 0, .int 0, .int 0, .int 0, .int 0, .int 0, .int 0, .int 0, .int (-1), .ref m7, .ref m8, .int 0, .ref m9, .int 0, .ref m10, .ref m11, .ref m12, .ref m13, .ref m14, .int 0, .ref m15, .ref m16, .ref m17]))] _ _ := w.pick [0] rfl rfl
  refine r_top (g2 := F0 m 1843 ls [.int 0]) rfl ?_
  refine lv_istore (lv' := [(6, .int 0), (5, .int 1), (0, .ref b), (1, .ref q0), (2, .ref m0), (3, .ref o0), (4, .int 0)]) C.1 C.2.1 dL_law_1843 hl (by decide) rfl (fun ls hl => ?_)
  refine lv_aload_n C.1 C.2.1 dL_law_1845 rfl (lv_at hl 4 rfl) ?_
  refine r_callV C w fv_RL_134 (c_X12_thrown_0 l D cy m0 m1 m2 m3 m4 m5 m6 m7 m8 m9 m10 m11 m12 m13 m14 m15 m16 m17) (hl.1.trans hml.symm) [0] [] (wr := []) ⟨rfl, rfl, rfl, rfl, by decide⟩ 0 rfl rfl rfl rfl rfl ⟨Nat.le_of_ble_eq_true rfl, Nat.le_of_ble_eq_true rfl, Nat.le_of_ble_eq_true rfl⟩ 38 29851 ⟨rfl, rfl, Nat.le_of_ble_eq_true rfl, Nat.le_of_ble_eq_true rfl⟩ dL_law_1846 (fun u H locs hp w => ?_)
  have w : Wd D A s.heap [(m0, .inr (12, [.ref m1, .ref m2, .ref m3, .ref m4, .ref m5, .int 1, .ref m6, .int 0, .int 0, .int 0, .int 0, .int 0, .int 0, .int 0, .int 0, .int 0, .int 0, .int (-1), .ref m7, .ref m8, .int 0, .ref m9, .int 0, .ref m10, .ref m11, .ref m12, .ref m13, .ref m14, .int 0, .ref m15, .ref m16, .ref m17]))] _ _ := w.pick [0] rfl rfl
  refine r_top (g2 := F0 m 1849 ls [.int 1]) rfl ?_
  refine lv_iload C.1 C.2.1 dL_law_1849 (lv_at hl 1 rfl) ?_
  refine b_icmp_eq_t C (tgt := 1856) dL_law_1851 (by decide) (by decide) ?_
  refine lv_iload C.1 C.2.1 dL_law_1856 (lv_at hl 1 rfl) ?_
  refine b_if_ne_t C (tgt := 1873) dL_law_1858 (by decide) (by decide) ?_
  refine lv_goto (tgt := 2461) C.1 C.2.1 dL_law_1873 (by decide) ?_
  refine W.widen (k := 600002) (n := 7302232) (Nat.le_of_ble_eq_true rfl) (Nat.le_of_ble_eq_true rfl) ?_
  exact kk _ _ _ w.2.2 (lv_sub hl [2, 6] rfl)
set_option maxRecDepth 100000 in
set_option maxHeartbeats 4000000 in
theorem s_L_25_16 {p : Program} {l : Launch} {e : Env} {s : State} {m : MethodId} {args : Array Value} {below : List Frame} {meth : Method} {c : Code} {Q : State → Prop} {D : va_G} {cy : Nat → ClassId} {A : Nat → Prop} {H : Heap} {locs : List Loc} {ls : Array Slot} {xs : Nat → Int32} (b q0 q1 q2 q4 q5 q6 q10 m0 m1 m2 m3 m4 m5 m6 m7 m8 m9 m10 m11 m12 m13 m14 m15 m16 m17 o0 : Nat) (y1 : Int32) (y2 : Int32) (k0 : ¬ y2 < 10) (k1 : ¬ 4 ≤ (y2 - 10)) (k2 : ¬ y1 < 1) (k3 : 4 < y1) (sx1 : xs 1 = y1) (sx2 : xs 2 = y2) (hst : l.stackTraces = false) (C : Cx p s m args c cL_law RL D cy A) (hml : c.maxLocals = 8) (hX : va_X b 6 xs s s.heap) (hbl : b < s.heap.size) (hbA : ¬ A b) (w : Wd D A s.heap [(q0, .inr (11, [.ref q1, .int 0, .int 0, .int (-1), .ref q2, .ref q4, .ref q5, .ref q6, .ref q10, .null])), (m0, .inr (12, [.ref m1, .ref m2, .ref m3, .ref m4, .ref m5, .int 0, .ref m6, .int 0, .int 0, .int 0, .int 0, .int 0, .int 0, .int 0, .int 0, .int 0, .int 0, .int (-1), .ref m7, .ref m8, .int 0, .ref m9, .int 0, .ref m10, .ref m11, .ref m12, .ref m13, .ref m14, .int 0, .ref m15, .ref m16, .ref m17]))] H locs) (hl : lv_has ls 8 [(0, .ref b), (1, .ref q0), (2, .ref m0), (3, .ref o0), (4, .int 0)]) (kk : ∀ (H : Heap) (locs : List Loc) (ls : Array Slot), va_S A s.heap H locs → lv_has ls 8 [(0, .ref b), (4, .int 0)] → W p l e room_1 s m args below meth c H locs 600002 7302232 Q (F0 m 2461 ls [])) : W p l e room_1 s m args below meth c H locs 37 29845 Q (F0 m 1808 ls []) := by
  refine lv_aload_n C.1 C.2.1 dL_law_1808 rfl (lv_at hl 1 rfl) ?_
  refine lv_aload_n C.1 C.2.1 dL_law_1809 rfl (lv_at hl 0 rfl) ?_
  refine lv_iload C.1 C.2.1 dL_law_1810 (lv_at hl 4 rfl) ?_
  refine lv_iconst (v := 1) C.1 C.2.1 dL_law_1812 (by decide) ?_
  refine r_iadd C (v := 1) dL_law_1813 (by decide) ?_
  refine r_sld C w hX hbl hbA (v := y1) (vinD (by decide)) sx1 dL_law_1814 ?_
  refine lv_aload_n C.1 C.2.1 dL_law_1815 rfl (lv_at hl 0 rfl) ?_
  refine lv_iload C.1 C.2.1 dL_law_1816 (lv_at hl 4 rfl) ?_
  refine lv_iconst (v := 2) C.1 C.2.1 dL_law_1818 (by decide) ?_
  refine r_iadd C (v := 2) dL_law_1819 (by decide) ?_
  refine r_sld C w hX hbl hbA (v := y2) (vinD (by decide)) sx2 dL_law_1820 ?_
  refine lv_aload_n C.1 C.2.1 dL_law_1821 rfl (lv_at hl 3 rfl) ?_
  refine r_callH C w fh_RL_213 (c_L_shortest_15 l D cy q0 o0 q1 q2 q4 q5 q6 q10 y1 y2 k0 k1 k2 k3 hst) (hl.1.trans hml.symm) [0] [1] (wr := [(m0, .inr (12, [.ref m1, .ref m2, .ref m3, .ref m4, .ref m5, .int 0, .ref m6, .int 0, .int 0, .int 0, .int 0, .int 0, .int 0, .int 0, .int 0, .int 0, .int 0, .int (-1), .ref m7, .ref m8, .int 0, .ref m9, .int 0, .ref m10, .ref m11, .ref m12, .ref m13, .ref m14, .int 0, .ref m15, .ref m16, .ref m17]))]) ⟨rfl, rfl, rfl, rfl, by decide⟩ rfl rfl ⟨Nat.le_of_ble_eq_true rfl, Nat.le_of_ble_eq_true rfl, Nat.le_of_ble_eq_true rfl⟩ 38 29851 ⟨rfl, rfl, Nat.le_of_ble_eq_true rfl, Nat.le_of_ble_eq_true rfl⟩ dL_law_1822 (fun u H locs hp w => ?_)
  have w : Wd D A s.heap [(m0, .inr (12, [.ref m1, .ref m2, .ref m3, .ref m4, .ref m5, .int 0, .ref m6, .int 0, .int 0, .int 0, .int 0, .int 0, .int 0, .int 0, .int 0, .int 0, .int 0, .int (-1), .ref m7, .ref m8, .int 0, .ref m9, .int 0, .ref m10, .ref m11, .ref m12, .ref m13, .ref m14, .int 0, .ref m15, .ref m16, .ref m17]))] _ _ := w.pick [0] rfl rfl
  refine r_top (g2 := F0 m 1825 ls [.int 1]) rfl ?_
  refine lv_istore (lv' := [(5, .int 1), (0, .ref b), (1, .ref q0), (2, .ref m0), (3, .ref o0), (4, .int 0)]) C.1 C.2.1 dL_law_1825 hl (by decide) rfl (fun ls hl => ?_)
  refine lv_aload_n C.1 C.2.1 dL_law_1827 rfl (lv_at hl 3 rfl) ?_
  refine lv_aload_n C.1 C.2.1 dL_law_1828 rfl (lv_at hl 1 rfl) ?_
  refine lv_iload C.1 C.2.1 dL_law_1829 (lv_at hl 5 rfl) ?_
  refine lv_iconst (v := 1) C.1 C.2.1 dL_law_1831 (by decide) ?_
  refine r_iadd C (v := 1) dL_law_1832 (by decide) ?_
  refine r_sld C w hX hbl hbA (v := y1) (vinD (by decide)) sx1 dL_law_1833 ?_
  refine lv_aload_n C.1 C.2.1 dL_law_1834 rfl (lv_at hl 1 rfl) ?_
  refine lv_iload C.1 C.2.1 dL_law_1835 (lv_at hl 5 rfl) ?_
  refine lv_iconst (v := 2) C.1 C.2.1 dL_law_1837 (by decide) ?_
  refine r_iadd C (v := 2) dL_law_1838 (by decide) ?_
  refine r_sld C w hX hbl hbA (v := y2) (vinD (by decide)) sx2 dL_law_1839 ?_
  refine r_callV C w fv_RL_215 (c_X12_shortest_12 l D cy m0 m1 m2 m3 m4 m5 m6 m7 m8 m9 m10 m11 m12 m13 m14 m15 m16 m17 y1 y2 k2 k3) (hl.1.trans hml.symm) [0] [] (wr := []) ⟨rfl, rfl, rfl, rfl, by decide⟩ 0 rfl rfl rfl rfl rfl ⟨Nat.le_of_ble_eq_true rfl, Nat.le_of_ble_eq_true rfl, Nat.le_of_ble_eq_true rfl⟩ 38 29851 ⟨rfl, rfl, Nat.le_of_ble_eq_true rfl, Nat.le_of_ble_eq_true rfl⟩ dL_law_1840 (fun u H locs hp w => ?_)
  have w : Wd D A s.heap [(m0, .inr (12, [.ref m1, .ref m2, .ref m3, .ref m4, .ref m5, .int 1, .ref m6, .int 0, .int 0, .int 0, .int 0, .int 0, .int 0, .int 0, .int 0, .int 0, .int 0, .int (-1), .ref m7, .ref m8, .int 0, .ref m9, .int 0, .ref m10, .ref m11, .ref m12, .ref m13, .ref m14, .int 0, .ref m15, .ref m16, .ref m17]))] _ _ := w.pick [0] rfl rfl
  refine r_top (g2 := F0 m 1843 ls [.int 0]) rfl ?_
  refine lv_istore (lv' := [(6, .int 0), (5, .int 1), (0, .ref b), (1, .ref q0), (2, .ref m0), (3, .ref o0), (4, .int 0)]) C.1 C.2.1 dL_law_1843 hl (by decide) rfl (fun ls hl => ?_)
  refine lv_aload_n C.1 C.2.1 dL_law_1845 rfl (lv_at hl 4 rfl) ?_
  refine r_callV C w fv_RL_134 (c_X12_thrown_0 l D cy m0 m1 m2 m3 m4 m5 m6 m7 m8 m9 m10 m11 m12 m13 m14 m15 m16 m17) (hl.1.trans hml.symm) [0] [] (wr := []) ⟨rfl, rfl, rfl, rfl, by decide⟩ 0 rfl rfl rfl rfl rfl ⟨Nat.le_of_ble_eq_true rfl, Nat.le_of_ble_eq_true rfl, Nat.le_of_ble_eq_true rfl⟩ 38 29851 ⟨rfl, rfl, Nat.le_of_ble_eq_true rfl, Nat.le_of_ble_eq_true rfl⟩ dL_law_1846 (fun u H locs hp w => ?_)
  have w : Wd D A s.heap [(m0, .inr (12, [.ref m1, .ref m2, .ref m3, .ref m4, .ref m5, .int 1, .ref m6, .int 0, .int 0, .int 0, .int 0, .int 0, .int 0, .int 0, .int 0, .int 0, .int 0, .int (-1), .ref m7, .ref m8, .int 0, .ref m9, .int 0, .ref m10, .ref m11, .ref m12, .ref m13, .ref m14, .int 0, .ref m15, .ref m16, .ref m17]))] _ _ := w.pick [0] rfl rfl
  refine r_top (g2 := F0 m 1849 ls [.int 1]) rfl ?_
  refine lv_iload C.1 C.2.1 dL_law_1849 (lv_at hl 1 rfl) ?_
  refine b_icmp_eq_t C (tgt := 1856) dL_law_1851 (by decide) (by decide) ?_
  refine lv_iload C.1 C.2.1 dL_law_1856 (lv_at hl 1 rfl) ?_
  refine b_if_ne_t C (tgt := 1873) dL_law_1858 (by decide) (by decide) ?_
  refine lv_goto (tgt := 2461) C.1 C.2.1 dL_law_1873 (by decide) ?_
  refine W.widen (k := 600002) (n := 7302232) (Nat.le_of_ble_eq_true rfl) (Nat.le_of_ble_eq_true rfl) ?_
  exact kk _ _ _ w.2.2 (lv_sub hl [2, 6] rfl)
set_option maxRecDepth 100000 in
set_option maxHeartbeats 4000000 in
theorem s_L_25_17 {p : Program} {l : Launch} {e : Env} {s : State} {m : MethodId} {args : Array Value} {below : List Frame} {meth : Method} {c : Code} {Q : State → Prop} {D : va_G} {cy : Nat → ClassId} {A : Nat → Prop} {H : Heap} {locs : List Loc} {ls : Array Slot} {xs : Nat → Int32} (b q0 q1 q2 q4 q5 q6 q10 q11 q12 q13 q14 q15 q16 q17 m0 m1 m2 m3 m4 m5 m6 m7 m8 m9 m10 m11 m12 m13 m14 m15 m16 m17 o0 : Nat) (y2 : Int32) (k0 : ¬ y2 < 10) (k1 : ¬ 4 ≤ (y2 - 10)) (k2 : ¬ 13 < y2) (sx1 : xs 1 = 1) (sx2 : xs 2 = y2) (C : Cx p s m args c cL_law RL D cy A) (hml : c.maxLocals = 8) (hX : va_X b 6 xs s s.heap) (hbl : b < s.heap.size) (hbA : ¬ A b) (w : Wd D A s.heap [(q0, .inr (11, [.ref q1, .int 0, .int 0, .int (-1), .ref q2, .ref q4, .ref q5, .ref q6, .ref q10, .null])), (q10, .inr (9, [.int 0, .int 2, .int 20, .int 120, .int 0, .int 0, .int 0, .int 0, .ref q11, .int 0, .ref q12, .ref q13, .int 0, .ref q14, .ref q15, .ref q16, .ref q17])), (m0, .inr (12, [.ref m1, .ref m2, .ref m3, .ref m4, .ref m5, .int 0, .ref m6, .int 0, .int 0, .int 0, .int 0, .int 0, .int 0, .int 0, .int 0, .int 0, .int 0, .int (-1), .ref m7, .ref m8, .int 0, .ref m9, .int 0, .ref m10, .ref m11, .ref m12, .ref m13, .ref m14, .int 0, .ref m15, .ref m16, .ref m17])), (m7, .inl (cy 1, 1830, .inl (fun _ => 0))), (m8, .inl (cy 1, 1830, .inl (fun _ => 0))), (m9, .inl (cy 2, 2465, .inr (.inl (fun _ => 0)))), (m1, .inl (cy 1, 1868, .inl (upd (upd (upd (fun _ => 0) 1 2) 2 20) 3 120))), (o0, .inl (cy 2, 1, .inr (.inl (fun _ => 0))))] H locs) (hl : lv_has ls 8 [(0, .ref b), (1, .ref q0), (2, .ref m0), (3, .ref o0), (4, .int 0)]) (kk : ∀ (H : Heap) (locs : List Loc) (ls : Array Slot), va_S A s.heap H locs → lv_has ls 8 [(0, .ref b), (4, .int 0)] → W p l e room_1 s m args below meth c H locs 600002 7302232 Q (F0 m 2461 ls [])) : W p l e room_1 s m args below meth c H locs 37 29845 Q (F0 m 1808 ls []) := by
  refine lv_aload_n C.1 C.2.1 dL_law_1808 rfl (lv_at hl 1 rfl) ?_
  refine lv_aload_n C.1 C.2.1 dL_law_1809 rfl (lv_at hl 0 rfl) ?_
  refine lv_iload C.1 C.2.1 dL_law_1810 (lv_at hl 4 rfl) ?_
  refine lv_iconst (v := 1) C.1 C.2.1 dL_law_1812 (by decide) ?_
  refine r_iadd C (v := 1) dL_law_1813 (by decide) ?_
  refine r_sld C w hX hbl hbA (v := 1) (vinD (by decide)) sx1 dL_law_1814 ?_
  refine lv_aload_n C.1 C.2.1 dL_law_1815 rfl (lv_at hl 0 rfl) ?_
  refine lv_iload C.1 C.2.1 dL_law_1816 (lv_at hl 4 rfl) ?_
  refine lv_iconst (v := 2) C.1 C.2.1 dL_law_1818 (by decide) ?_
  refine r_iadd C (v := 2) dL_law_1819 (by decide) ?_
  refine r_sld C w hX hbl hbA (v := y2) (vinD (by decide)) sx2 dL_law_1820 ?_
  refine lv_aload_n C.1 C.2.1 dL_law_1821 rfl (lv_at hl 3 rfl) ?_
  refine r_callH C w fh_RL_213 (c_L_shortest_16 l D cy q0 o0 q1 q2 q4 q5 q6 q10 q11 q12 q13 q14 q15 q16 q17 y2 k0 k1) (hl.1.trans hml.symm) [0, 1, 7] [2, 3, 4, 5, 6] (wr := [(m0, .inr (12, [.ref m1, .ref m2, .ref m3, .ref m4, .ref m5, .int 0, .ref m6, .int 0, .int 0, .int 0, .int 0, .int 0, .int 0, .int 0, .int 0, .int 0, .int 0, .int (-1), .ref m7, .ref m8, .int 0, .ref m9, .int 0, .ref m10, .ref m11, .ref m12, .ref m13, .ref m14, .int 0, .ref m15, .ref m16, .ref m17])), (m7, .inl (cy 1, 1830, .inl (fun _ => 0))), (m8, .inl (cy 1, 1830, .inl (fun _ => 0))), (m9, .inl (cy 2, 2465, .inr (.inl (fun _ => 0)))), (m1, .inl (cy 1, 1868, .inl (upd (upd (upd (fun _ => 0) 1 2) 2 20) 3 120)))]) ⟨rfl, rfl, rfl, rfl, by decide⟩ rfl rfl ⟨Nat.le_of_ble_eq_true rfl, Nat.le_of_ble_eq_true rfl, Nat.le_of_ble_eq_true rfl⟩ 73 53662 ⟨rfl, rfl, Nat.le_of_ble_eq_true rfl, Nat.le_of_ble_eq_true rfl⟩ dL_law_1822 (fun u H locs hp w => ?_)
  obtain ⟨n1, n2, n3, n4, n5, n6, n7, n8, n9, n10, n11, n12, n13, n14, n15, n16, n17, n18, n19, n20, n21, n22, n23, n24, n25, n26, n27, n28, n29, n30, n31, n32, n33, n34, n35, n36⟩ := u
  have w : Wd D A s.heap [(m0, .inr (12, [.ref m1, .ref m2, .ref m3, .ref m4, .ref m5, .int 0, .ref m6, .int 0, .int 0, .int 0, .int 0, .int 0, .int 0, .int 0, .int 0, .int 0, .int 0, .int (-1), .ref m7, .ref m8, .int 0, .ref m9, .int 0, .ref m10, .ref m11, .ref m12, .ref m13, .ref m14, .int 0, .ref m15, .ref m16, .ref m17])), (m7, .inl (cy 1, 1830, .inl (fun _ => 0))), (m8, .inl (cy 1, 1830, .inl (fun _ => 0))), (m9, .inl (cy 2, 2465, .inr (.inl (fun _ => 0)))), (m1, .inl (cy 1, 1868, .inl (upd (upd (upd (fun _ => 0) 1 2) 2 20) 3 120))), (o0, .inl (cy 2, 1, .inr (.inl (vp_updL (fun _ => 0) 0 (-1)))))] _ _ := w.pick [0, 1, 2, 3, 4, 5] rfl rfl
  refine r_top (g2 := F0 m 1825 ls [.int 0]) rfl ?_
  refine lv_istore (lv' := [(5, .int 0), (0, .ref b), (1, .ref q0), (2, .ref m0), (3, .ref o0), (4, .int 0)]) C.1 C.2.1 dL_law_1825 hl (by decide) rfl (fun ls hl => ?_)
  refine lv_aload_n C.1 C.2.1 dL_law_1827 rfl (lv_at hl 3 rfl) ?_
  refine lv_aload_n C.1 C.2.1 dL_law_1828 rfl (lv_at hl 1 rfl) ?_
  refine lv_iload C.1 C.2.1 dL_law_1829 (lv_at hl 5 rfl) ?_
  refine lv_iconst (v := 1) C.1 C.2.1 dL_law_1831 (by decide) ?_
  refine r_iadd C (v := 1) dL_law_1832 (by decide) ?_
  refine r_sld C w hX hbl hbA (v := 1) (vinD (by decide)) sx1 dL_law_1833 ?_
  refine lv_aload_n C.1 C.2.1 dL_law_1834 rfl (lv_at hl 1 rfl) ?_
  refine lv_iload C.1 C.2.1 dL_law_1835 (lv_at hl 5 rfl) ?_
  refine lv_iconst (v := 2) C.1 C.2.1 dL_law_1837 (by decide) ?_
  refine r_iadd C (v := 2) dL_law_1838 (by decide) ?_
  refine r_sld C w hX hbl hbA (v := y2) (vinD (by decide)) sx2 dL_law_1839 ?_
  refine r_callV C w fv_RL_215 (c_X12_shortest_7 l D cy m0 m1 m2 m3 m4 m5 m6 m7 m8 m9 m10 m11 m12 m13 m14 m15 m16 m17 y2 (by have h0 := (i_nlt k0); have e0 : (0 : Int32).toInt = 0 := (by decide); have e1 : (10 : Int32).toInt = 10 := (by decide); rw [fa_lt]; omega) (by have h0 := (i_nlt k0); have e0 : (1 : Int32).toInt = 1 := (by decide); have e1 : (10 : Int32).toInt = 10 := (by decide); rw [fa_lt]; omega) k0 k2) (hl.1.trans hml.symm) [0, 4, 1, 2, 3] [5] (wr := [(o0, .inl (cy 2, 1, .inr (.inl (vp_updL (fun _ => 0) 0 (-1)))))]) ⟨rfl, rfl, rfl, rfl, by decide⟩ 0 rfl rfl rfl rfl rfl ⟨Nat.le_of_ble_eq_true rfl, Nat.le_of_ble_eq_true rfl, Nat.le_of_ble_eq_true rfl⟩ 73 53662 ⟨rfl, rfl, Nat.le_of_ble_eq_true rfl, Nat.le_of_ble_eq_true rfl⟩ dL_law_1840 (fun u H locs hp w => ?_)
  have w : Wd D A s.heap [(o0, .inl (cy 2, 1, .inr (.inl (vp_updL (fun _ => 0) 0 (-1))))), (m0, .inr (12, [.ref m1, .ref m2, .ref m3, .ref m4, .ref m5, .int 0, .ref m6, .int 0, .int 0, .int 0, .int 0, .int 0, .int 0, .int 0, .int 0, .int 0, .int 0, .int (-1), .ref m7, .ref m8, .int 190, .ref m9, .int 0, .ref m10, .ref m11, .ref m12, .ref m13, .ref m14, .int 0, .ref m15, .ref m16, .ref m17]))] _ _ := w.pick [0, 4] rfl rfl
  refine r_top (g2 := F0 m 1843 ls [.int (-1)]) rfl ?_
  refine lv_istore (lv' := [(6, .int (-1)), (5, .int 0), (0, .ref b), (1, .ref q0), (2, .ref m0), (3, .ref o0), (4, .int 0)]) C.1 C.2.1 dL_law_1843 hl (by decide) rfl (fun ls hl => ?_)
  refine lv_aload_n C.1 C.2.1 dL_law_1845 rfl (lv_at hl 4 rfl) ?_
  refine r_callV C w fv_RL_134 (c_X12_thrown_3 l D cy m0 m1 m2 m3 m4 m5 m6 m7 m8 m9 m10 m11 m12 m13 m14 m15 m16 m17) (hl.1.trans hml.symm) [1] [0] (wr := [(o0, .inl (cy 2, 1, .inr (.inl (vp_updL (fun _ => 0) 0 (-1)))))]) ⟨rfl, rfl, rfl, rfl, by decide⟩ 0 rfl rfl rfl rfl rfl ⟨Nat.le_of_ble_eq_true rfl, Nat.le_of_ble_eq_true rfl, Nat.le_of_ble_eq_true rfl⟩ 73 53662 ⟨rfl, rfl, Nat.le_of_ble_eq_true rfl, Nat.le_of_ble_eq_true rfl⟩ dL_law_1846 (fun u H locs hp w => ?_)
  have w : Wd D A s.heap [(o0, .inl (cy 2, 1, .inr (.inl (vp_updL (fun _ => 0) 0 (-1))))), (m0, .inr (12, [.ref m1, .ref m2, .ref m3, .ref m4, .ref m5, .int 0, .ref m6, .int 0, .int 0, .int 0, .int 0, .int 0, .int 0, .int 0, .int 0, .int 0, .int 0, .int (-1), .ref m7, .ref m8, .int 190, .ref m9, .int 0, .ref m10, .ref m11, .ref m12, .ref m13, .ref m14, .int 0, .ref m15, .ref m16, .ref m17]))] _ _ := w.pick [0, 1] rfl rfl
  refine r_top (g2 := F0 m 1849 ls [.int 0]) rfl ?_
  refine lv_iload C.1 C.2.1 dL_law_1849 (lv_at hl 1 rfl) ?_
  refine b_icmp_eq_t C (tgt := 1856) dL_law_1851 (by decide) (by decide) ?_
  refine lv_iload C.1 C.2.1 dL_law_1856 (lv_at hl 1 rfl) ?_
  refine b_if_ne_f C (tgt := 1873) dL_law_1858 (by decide) (by decide) ?_
  refine lv_aload_n C.1 C.2.1 dL_law_1861 rfl (lv_at hl 5 rfl) ?_
  refine lv_iconst (v := 0) C.1 C.2.1 dL_law_1862 (by decide) ?_
  refine r_lald C w 0 rfl (v := (-1)) (vinD (by decide)) rfl dL_law_1863 ?_
  refine lv_iload C.1 C.2.1 dL_law_1864 (lv_at hl 0 rfl) ?_
  refine lv_i2l (v := (-1)) C.1 C.2.1 dL_law_1866 (by decide) ?_
  refine r_lcmp C (v := 0) dL_law_1867 (by decide) ?_
  refine b_if_eq_t C (tgt := 1873) dL_law_1868 (by decide) (by decide) ?_
  refine lv_goto (tgt := 2461) C.1 C.2.1 dL_law_1873 (by decide) ?_
  refine W.widen (k := 600002) (n := 7302232) (Nat.le_of_ble_eq_true rfl) (Nat.le_of_ble_eq_true rfl) ?_
  exact kk _ _ _ w.2.2 (lv_sub hl [2, 6] rfl)
set_option maxRecDepth 100000 in
set_option maxHeartbeats 4000000 in
theorem s_L_25_18 {p : Program} {l : Launch} {e : Env} {s : State} {m : MethodId} {args : Array Value} {below : List Frame} {meth : Method} {c : Code} {Q : State → Prop} {D : va_G} {cy : Nat → ClassId} {A : Nat → Prop} {H : Heap} {locs : List Loc} {ls : Array Slot} {xs : Nat → Int32} (b q0 q1 q2 q4 q5 q6 q10 q11 q12 q13 q14 q15 q16 q17 m0 m1 m2 m3 m4 m5 m6 m7 m8 m9 m10 m11 m12 m13 m14 m15 m16 m17 o0 : Nat) (y2 : Int32) (k0 : ¬ y2 < 10) (k1 : ¬ 4 ≤ (y2 - 10)) (k2 : ¬ 13 < y2) (sx1 : xs 1 = 4) (sx2 : xs 2 = y2) (C : Cx p s m args c cL_law RL D cy A) (hml : c.maxLocals = 8) (hX : va_X b 6 xs s s.heap) (hbl : b < s.heap.size) (hbA : ¬ A b) (w : Wd D A s.heap [(q0, .inr (11, [.ref q1, .int 0, .int 0, .int (-1), .ref q2, .ref q4, .ref q5, .ref q6, .ref q10, .null])), (q10, .inr (9, [.int 0, .int 2, .int 20, .int 120, .int 0, .int 0, .int 0, .int 0, .ref q11, .int 0, .ref q12, .ref q13, .int 0, .ref q14, .ref q15, .ref q16, .ref q17])), (m0, .inr (12, [.ref m1, .ref m2, .ref m3, .ref m4, .ref m5, .int 0, .ref m6, .int 0, .int 0, .int 0, .int 0, .int 0, .int 0, .int 0, .int 0, .int 0, .int 0, .int (-1), .ref m7, .ref m8, .int 0, .ref m9, .int 0, .ref m10, .ref m11, .ref m12, .ref m13, .ref m14, .int 0, .ref m15, .ref m16, .ref m17])), (m7, .inl (cy 1, 1830, .inl (fun _ => 0))), (m8, .inl (cy 1, 1830, .inl (fun _ => 0))), (m9, .inl (cy 2, 2465, .inr (.inl (fun _ => 0)))), (m1, .inl (cy 1, 1868, .inl (upd (upd (upd (fun _ => 0) 1 2) 2 20) 3 120))), (o0, .inl (cy 2, 1, .inr (.inl (fun _ => 0))))] H locs) (hl : lv_has ls 8 [(0, .ref b), (1, .ref q0), (2, .ref m0), (3, .ref o0), (4, .int 0)]) (kk : ∀ (H : Heap) (locs : List Loc) (ls : Array Slot), va_S A s.heap H locs → lv_has ls 8 [(0, .ref b), (4, .int 0)] → W p l e room_1 s m args below meth c H locs 600002 7302232 Q (F0 m 2461 ls [])) : W p l e room_1 s m args below meth c H locs 37 29845 Q (F0 m 1808 ls []) := by
  refine lv_aload_n C.1 C.2.1 dL_law_1808 rfl (lv_at hl 1 rfl) ?_
  refine lv_aload_n C.1 C.2.1 dL_law_1809 rfl (lv_at hl 0 rfl) ?_
  refine lv_iload C.1 C.2.1 dL_law_1810 (lv_at hl 4 rfl) ?_
  refine lv_iconst (v := 1) C.1 C.2.1 dL_law_1812 (by decide) ?_
  refine r_iadd C (v := 1) dL_law_1813 (by decide) ?_
  refine r_sld C w hX hbl hbA (v := 4) (vinD (by decide)) sx1 dL_law_1814 ?_
  refine lv_aload_n C.1 C.2.1 dL_law_1815 rfl (lv_at hl 0 rfl) ?_
  refine lv_iload C.1 C.2.1 dL_law_1816 (lv_at hl 4 rfl) ?_
  refine lv_iconst (v := 2) C.1 C.2.1 dL_law_1818 (by decide) ?_
  refine r_iadd C (v := 2) dL_law_1819 (by decide) ?_
  refine r_sld C w hX hbl hbA (v := y2) (vinD (by decide)) sx2 dL_law_1820 ?_
  refine lv_aload_n C.1 C.2.1 dL_law_1821 rfl (lv_at hl 3 rfl) ?_
  refine r_callH C w fh_RL_213 (c_L_shortest_17 l D cy q0 o0 q1 q2 q4 q5 q6 q10 q11 q12 q13 q14 q15 q16 q17 y2 k0 k1) (hl.1.trans hml.symm) [0, 1, 7] [2, 3, 4, 5, 6] (wr := [(m0, .inr (12, [.ref m1, .ref m2, .ref m3, .ref m4, .ref m5, .int 0, .ref m6, .int 0, .int 0, .int 0, .int 0, .int 0, .int 0, .int 0, .int 0, .int 0, .int 0, .int (-1), .ref m7, .ref m8, .int 0, .ref m9, .int 0, .ref m10, .ref m11, .ref m12, .ref m13, .ref m14, .int 0, .ref m15, .ref m16, .ref m17])), (m7, .inl (cy 1, 1830, .inl (fun _ => 0))), (m8, .inl (cy 1, 1830, .inl (fun _ => 0))), (m9, .inl (cy 2, 2465, .inr (.inl (fun _ => 0)))), (m1, .inl (cy 1, 1868, .inl (upd (upd (upd (fun _ => 0) 1 2) 2 20) 3 120)))]) ⟨rfl, rfl, rfl, rfl, by decide⟩ rfl rfl ⟨Nat.le_of_ble_eq_true rfl, Nat.le_of_ble_eq_true rfl, Nat.le_of_ble_eq_true rfl⟩ 73 53662 ⟨rfl, rfl, Nat.le_of_ble_eq_true rfl, Nat.le_of_ble_eq_true rfl⟩ dL_law_1822 (fun u H locs hp w => ?_)
  obtain ⟨n1, n2, n3, n4, n5, n6, n7, n8, n9, n10, n11, n12, n13, n14, n15, n16, n17, n18, n19, n20, n21, n22, n23, n24, n25, n26, n27, n28, n29, n30, n31, n32, n33, n34, n35, n36⟩ := u
  have w : Wd D A s.heap [(m0, .inr (12, [.ref m1, .ref m2, .ref m3, .ref m4, .ref m5, .int 0, .ref m6, .int 0, .int 0, .int 0, .int 0, .int 0, .int 0, .int 0, .int 0, .int 0, .int 0, .int (-1), .ref m7, .ref m8, .int 0, .ref m9, .int 0, .ref m10, .ref m11, .ref m12, .ref m13, .ref m14, .int 0, .ref m15, .ref m16, .ref m17])), (m7, .inl (cy 1, 1830, .inl (fun _ => 0))), (m8, .inl (cy 1, 1830, .inl (fun _ => 0))), (m9, .inl (cy 2, 2465, .inr (.inl (fun _ => 0)))), (m1, .inl (cy 1, 1868, .inl (upd (upd (upd (fun _ => 0) 1 2) 2 20) 3 120))), (o0, .inl (cy 2, 1, .inr (.inl (vp_updL (fun _ => 0) 0 (-1)))))] _ _ := w.pick [0, 1, 2, 3, 4, 5] rfl rfl
  refine r_top (g2 := F0 m 1825 ls [.int 0]) rfl ?_
  refine lv_istore (lv' := [(5, .int 0), (0, .ref b), (1, .ref q0), (2, .ref m0), (3, .ref o0), (4, .int 0)]) C.1 C.2.1 dL_law_1825 hl (by decide) rfl (fun ls hl => ?_)
  refine lv_aload_n C.1 C.2.1 dL_law_1827 rfl (lv_at hl 3 rfl) ?_
  refine lv_aload_n C.1 C.2.1 dL_law_1828 rfl (lv_at hl 1 rfl) ?_
  refine lv_iload C.1 C.2.1 dL_law_1829 (lv_at hl 5 rfl) ?_
  refine lv_iconst (v := 1) C.1 C.2.1 dL_law_1831 (by decide) ?_
  refine r_iadd C (v := 1) dL_law_1832 (by decide) ?_
  refine r_sld C w hX hbl hbA (v := 4) (vinD (by decide)) sx1 dL_law_1833 ?_
  refine lv_aload_n C.1 C.2.1 dL_law_1834 rfl (lv_at hl 1 rfl) ?_
  refine lv_iload C.1 C.2.1 dL_law_1835 (lv_at hl 5 rfl) ?_
  refine lv_iconst (v := 2) C.1 C.2.1 dL_law_1837 (by decide) ?_
  refine r_iadd C (v := 2) dL_law_1838 (by decide) ?_
  refine r_sld C w hX hbl hbA (v := y2) (vinD (by decide)) sx2 dL_law_1839 ?_
  refine r_callV C w fv_RL_215 (c_X12_shortest_10 l D cy m0 m1 m2 m3 m4 m5 m6 m7 m8 m9 m10 m11 m12 m13 m14 m15 m16 m17 y2 (by have h0 := (i_nlt k0); have e0 : (0 : Int32).toInt = 0 := (by decide); have e1 : (10 : Int32).toInt = 10 := (by decide); rw [fa_lt]; omega) (by have h0 := (i_nlt k0); have e0 : (1 : Int32).toInt = 1 := (by decide); have e1 : (10 : Int32).toInt = 10 := (by decide); rw [fa_lt]; omega) k0 k2) (hl.1.trans hml.symm) [0, 4, 1, 2, 3] [5] (wr := [(o0, .inl (cy 2, 1, .inr (.inl (vp_updL (fun _ => 0) 0 (-1)))))]) ⟨rfl, rfl, rfl, rfl, by decide⟩ 0 rfl rfl rfl rfl rfl ⟨Nat.le_of_ble_eq_true rfl, Nat.le_of_ble_eq_true rfl, Nat.le_of_ble_eq_true rfl⟩ 73 53662 ⟨rfl, rfl, Nat.le_of_ble_eq_true rfl, Nat.le_of_ble_eq_true rfl⟩ dL_law_1840 (fun u H locs hp w => ?_)
  have w : Wd D A s.heap [(o0, .inl (cy 2, 1, .inr (.inl (vp_updL (fun _ => 0) 0 (-1))))), (m0, .inr (12, [.ref m1, .ref m2, .ref m3, .ref m4, .ref m5, .int 0, .ref m6, .int 0, .int 0, .int 0, .int 0, .int 0, .int 0, .int 0, .int 0, .int 0, .int 0, .int (-1), .ref m7, .ref m8, .int 190, .ref m9, .int 0, .ref m10, .ref m11, .ref m12, .ref m13, .ref m14, .int 0, .ref m15, .ref m16, .ref m17]))] _ _ := w.pick [0, 4] rfl rfl
  refine r_top (g2 := F0 m 1843 ls [.int (-1)]) rfl ?_
  refine lv_istore (lv' := [(6, .int (-1)), (5, .int 0), (0, .ref b), (1, .ref q0), (2, .ref m0), (3, .ref o0), (4, .int 0)]) C.1 C.2.1 dL_law_1843 hl (by decide) rfl (fun ls hl => ?_)
  refine lv_aload_n C.1 C.2.1 dL_law_1845 rfl (lv_at hl 4 rfl) ?_
  refine r_callV C w fv_RL_134 (c_X12_thrown_3 l D cy m0 m1 m2 m3 m4 m5 m6 m7 m8 m9 m10 m11 m12 m13 m14 m15 m16 m17) (hl.1.trans hml.symm) [1] [0] (wr := [(o0, .inl (cy 2, 1, .inr (.inl (vp_updL (fun _ => 0) 0 (-1)))))]) ⟨rfl, rfl, rfl, rfl, by decide⟩ 0 rfl rfl rfl rfl rfl ⟨Nat.le_of_ble_eq_true rfl, Nat.le_of_ble_eq_true rfl, Nat.le_of_ble_eq_true rfl⟩ 73 53662 ⟨rfl, rfl, Nat.le_of_ble_eq_true rfl, Nat.le_of_ble_eq_true rfl⟩ dL_law_1846 (fun u H locs hp w => ?_)
  have w : Wd D A s.heap [(o0, .inl (cy 2, 1, .inr (.inl (vp_updL (fun _ => 0) 0 (-1))))), (m0, .inr (12, [.ref m1, .ref m2, .ref m3, .ref m4, .ref m5, .int 0, .ref m6, .int 0, .int 0, .int 0, .int 0, .int 0, .int 0, .int 0, .int 0, .int 0, .int 0, .int (-1), .ref m7, .ref m8, .int 190, .ref m9, .int 0, .ref m10, .ref m11, .ref m12, .ref m13, .ref m14, .int 0, .ref m15, .ref m16, .ref m17]))] _ _ := w.pick [0, 1] rfl rfl
  refine r_top (g2 := F0 m 1849 ls [.int 0]) rfl ?_
  refine lv_iload C.1 C.2.1 dL_law_1849 (lv_at hl 1 rfl) ?_
  refine b_icmp_eq_t C (tgt := 1856) dL_law_1851 (by decide) (by decide) ?_
  refine lv_iload C.1 C.2.1 dL_law_1856 (lv_at hl 1 rfl) ?_
  refine b_if_ne_f C (tgt := 1873) dL_law_1858 (by decide) (by decide) ?_
  refine lv_aload_n C.1 C.2.1 dL_law_1861 rfl (lv_at hl 5 rfl) ?_
  refine lv_iconst (v := 0) C.1 C.2.1 dL_law_1862 (by decide) ?_
  refine r_lald C w 0 rfl (v := (-1)) (vinD (by decide)) rfl dL_law_1863 ?_
  refine lv_iload C.1 C.2.1 dL_law_1864 (lv_at hl 0 rfl) ?_
  refine lv_i2l (v := (-1)) C.1 C.2.1 dL_law_1866 (by decide) ?_
  refine r_lcmp C (v := 0) dL_law_1867 (by decide) ?_
  refine b_if_eq_t C (tgt := 1873) dL_law_1868 (by decide) (by decide) ?_
  refine lv_goto (tgt := 2461) C.1 C.2.1 dL_law_1873 (by decide) ?_
  refine W.widen (k := 600002) (n := 7302232) (Nat.le_of_ble_eq_true rfl) (Nat.le_of_ble_eq_true rfl) ?_
  exact kk _ _ _ w.2.2 (lv_sub hl [2, 6] rfl)
set_option maxRecDepth 100000 in
set_option maxHeartbeats 4000000 in
theorem s_L_25_19 {p : Program} {l : Launch} {e : Env} {s : State} {m : MethodId} {args : Array Value} {below : List Frame} {meth : Method} {c : Code} {Q : State → Prop} {D : va_G} {cy : Nat → ClassId} {A : Nat → Prop} {H : Heap} {locs : List Loc} {ls : Array Slot} {xs : Nat → Int32} (b q0 q1 q2 q4 q5 q6 q10 q11 q12 q13 q14 q15 q16 q17 m0 m1 m2 m3 m4 m5 m6 m7 m8 m9 m10 m11 m12 m13 m14 m15 m16 m17 o0 : Nat) (y2 : Int32) (k0 : ¬ y2 < 10) (k1 : ¬ 4 ≤ (y2 - 10)) (k2 : ¬ 13 < y2) (sx1 : xs 1 = 3) (sx2 : xs 2 = y2) (C : Cx p s m args c cL_law RL D cy A) (hml : c.maxLocals = 8) (hX : va_X b 6 xs s s.heap) (hbl : b < s.heap.size) (hbA : ¬ A b) (w : Wd D A s.heap [(q0, .inr (11, [.ref q1, .int 0, .int 0, .int (-1), .ref q2, .ref q4, .ref q5, .ref q6, .ref q10, .null])), (q10, .inr (9, [.int 0, .int 2, .int 20, .int 120, .int 0, .int 0, .int 0, .int 0, .ref q11, .int 0, .ref q12, .ref q13, .int 0, .ref q14, .ref q15, .ref q16, .ref q17])), (m0, .inr (12, [.ref m1, .ref m2, .ref m3, .ref m4, .ref m5, .int 0, .ref m6, .int 0, .int 0, .int 0, .int 0, .int 0, .int 0, .int 0, .int 0, .int 0, .int 0, .int (-1), .ref m7, .ref m8, .int 0, .ref m9, .int 0, .ref m10, .ref m11, .ref m12, .ref m13, .ref m14, .int 0, .ref m15, .ref m16, .ref m17])), (m7, .inl (cy 1, 1830, .inl (fun _ => 0))), (m8, .inl (cy 1, 1830, .inl (fun _ => 0))), (m9, .inl (cy 2, 2465, .inr (.inl (fun _ => 0)))), (m1, .inl (cy 1, 1868, .inl (upd (upd (upd (fun _ => 0) 1 2) 2 20) 3 120))), (o0, .inl (cy 2, 1, .inr (.inl (fun _ => 0))))] H locs) (hl : lv_has ls 8 [(0, .ref b), (1, .ref q0), (2, .ref m0), (3, .ref o0), (4, .int 0)]) (kk : ∀ (H : Heap) (locs : List Loc) (ls : Array Slot), va_S A s.heap H locs → lv_has ls 8 [(0, .ref b), (4, .int 0)] → W p l e room_1 s m args below meth c H locs 600002 7302232 Q (F0 m 2461 ls [])) : W p l e room_1 s m args below meth c H locs 37 29845 Q (F0 m 1808 ls []) := by
  refine lv_aload_n C.1 C.2.1 dL_law_1808 rfl (lv_at hl 1 rfl) ?_
  refine lv_aload_n C.1 C.2.1 dL_law_1809 rfl (lv_at hl 0 rfl) ?_
  refine lv_iload C.1 C.2.1 dL_law_1810 (lv_at hl 4 rfl) ?_
  refine lv_iconst (v := 1) C.1 C.2.1 dL_law_1812 (by decide) ?_
  refine r_iadd C (v := 1) dL_law_1813 (by decide) ?_
  refine r_sld C w hX hbl hbA (v := 3) (vinD (by decide)) sx1 dL_law_1814 ?_
  refine lv_aload_n C.1 C.2.1 dL_law_1815 rfl (lv_at hl 0 rfl) ?_
  refine lv_iload C.1 C.2.1 dL_law_1816 (lv_at hl 4 rfl) ?_
  refine lv_iconst (v := 2) C.1 C.2.1 dL_law_1818 (by decide) ?_
  refine r_iadd C (v := 2) dL_law_1819 (by decide) ?_
  refine r_sld C w hX hbl hbA (v := y2) (vinD (by decide)) sx2 dL_law_1820 ?_
  refine lv_aload_n C.1 C.2.1 dL_law_1821 rfl (lv_at hl 3 rfl) ?_
  refine r_callH C w fh_RL_213 (c_L_shortest_18 l D cy q0 o0 q1 q2 q4 q5 q6 q10 q11 q12 q13 q14 q15 q16 q17 y2 k0 k1) (hl.1.trans hml.symm) [0, 1, 7] [2, 3, 4, 5, 6] (wr := [(m0, .inr (12, [.ref m1, .ref m2, .ref m3, .ref m4, .ref m5, .int 0, .ref m6, .int 0, .int 0, .int 0, .int 0, .int 0, .int 0, .int 0, .int 0, .int 0, .int 0, .int (-1), .ref m7, .ref m8, .int 0, .ref m9, .int 0, .ref m10, .ref m11, .ref m12, .ref m13, .ref m14, .int 0, .ref m15, .ref m16, .ref m17])), (m7, .inl (cy 1, 1830, .inl (fun _ => 0))), (m8, .inl (cy 1, 1830, .inl (fun _ => 0))), (m9, .inl (cy 2, 2465, .inr (.inl (fun _ => 0)))), (m1, .inl (cy 1, 1868, .inl (upd (upd (upd (fun _ => 0) 1 2) 2 20) 3 120)))]) ⟨rfl, rfl, rfl, rfl, by decide⟩ rfl rfl ⟨Nat.le_of_ble_eq_true rfl, Nat.le_of_ble_eq_true rfl, Nat.le_of_ble_eq_true rfl⟩ 73 53662 ⟨rfl, rfl, Nat.le_of_ble_eq_true rfl, Nat.le_of_ble_eq_true rfl⟩ dL_law_1822 (fun u H locs hp w => ?_)
  obtain ⟨n1, n2, n3, n4, n5, n6, n7, n8, n9, n10, n11, n12, n13, n14, n15, n16, n17, n18, n19, n20, n21, n22, n23, n24, n25, n26, n27, n28, n29, n30, n31, n32, n33, n34, n35, n36⟩ := u
  have w : Wd D A s.heap [(m0, .inr (12, [.ref m1, .ref m2, .ref m3, .ref m4, .ref m5, .int 0, .ref m6, .int 0, .int 0, .int 0, .int 0, .int 0, .int 0, .int 0, .int 0, .int 0, .int 0, .int (-1), .ref m7, .ref m8, .int 0, .ref m9, .int 0, .ref m10, .ref m11, .ref m12, .ref m13, .ref m14, .int 0, .ref m15, .ref m16, .ref m17])), (m7, .inl (cy 1, 1830, .inl (fun _ => 0))), (m8, .inl (cy 1, 1830, .inl (fun _ => 0))), (m9, .inl (cy 2, 2465, .inr (.inl (fun _ => 0)))), (m1, .inl (cy 1, 1868, .inl (upd (upd (upd (fun _ => 0) 1 2) 2 20) 3 120))), (o0, .inl (cy 2, 1, .inr (.inl (vp_updL (fun _ => 0) 0 (-1)))))] _ _ := w.pick [0, 1, 2, 3, 4, 5] rfl rfl
  refine r_top (g2 := F0 m 1825 ls [.int 0]) rfl ?_
  refine lv_istore (lv' := [(5, .int 0), (0, .ref b), (1, .ref q0), (2, .ref m0), (3, .ref o0), (4, .int 0)]) C.1 C.2.1 dL_law_1825 hl (by decide) rfl (fun ls hl => ?_)
  refine lv_aload_n C.1 C.2.1 dL_law_1827 rfl (lv_at hl 3 rfl) ?_
  refine lv_aload_n C.1 C.2.1 dL_law_1828 rfl (lv_at hl 1 rfl) ?_
  refine lv_iload C.1 C.2.1 dL_law_1829 (lv_at hl 5 rfl) ?_
  refine lv_iconst (v := 1) C.1 C.2.1 dL_law_1831 (by decide) ?_
  refine r_iadd C (v := 1) dL_law_1832 (by decide) ?_
  refine r_sld C w hX hbl hbA (v := 3) (vinD (by decide)) sx1 dL_law_1833 ?_
  refine lv_aload_n C.1 C.2.1 dL_law_1834 rfl (lv_at hl 1 rfl) ?_
  refine lv_iload C.1 C.2.1 dL_law_1835 (lv_at hl 5 rfl) ?_
  refine lv_iconst (v := 2) C.1 C.2.1 dL_law_1837 (by decide) ?_
  refine r_iadd C (v := 2) dL_law_1838 (by decide) ?_
  refine r_sld C w hX hbl hbA (v := y2) (vinD (by decide)) sx2 dL_law_1839 ?_
  refine r_callV C w fv_RL_215 (c_X12_shortest_9 l D cy m0 m1 m2 m3 m4 m5 m6 m7 m8 m9 m10 m11 m12 m13 m14 m15 m16 m17 y2 (by have h0 := (i_nlt k0); have e0 : (0 : Int32).toInt = 0 := (by decide); have e1 : (10 : Int32).toInt = 10 := (by decide); rw [fa_lt]; omega) (by have h0 := (i_nlt k0); have e0 : (1 : Int32).toInt = 1 := (by decide); have e1 : (10 : Int32).toInt = 10 := (by decide); rw [fa_lt]; omega) k0 k2) (hl.1.trans hml.symm) [0, 4, 1, 2, 3] [5] (wr := [(o0, .inl (cy 2, 1, .inr (.inl (vp_updL (fun _ => 0) 0 (-1)))))]) ⟨rfl, rfl, rfl, rfl, by decide⟩ 0 rfl rfl rfl rfl rfl ⟨Nat.le_of_ble_eq_true rfl, Nat.le_of_ble_eq_true rfl, Nat.le_of_ble_eq_true rfl⟩ 73 53662 ⟨rfl, rfl, Nat.le_of_ble_eq_true rfl, Nat.le_of_ble_eq_true rfl⟩ dL_law_1840 (fun u H locs hp w => ?_)
  have w : Wd D A s.heap [(o0, .inl (cy 2, 1, .inr (.inl (vp_updL (fun _ => 0) 0 (-1))))), (m0, .inr (12, [.ref m1, .ref m2, .ref m3, .ref m4, .ref m5, .int 0, .ref m6, .int 0, .int 0, .int 0, .int 0, .int 0, .int 0, .int 0, .int 0, .int 0, .int 0, .int (-1), .ref m7, .ref m8, .int 190, .ref m9, .int 0, .ref m10, .ref m11, .ref m12, .ref m13, .ref m14, .int 0, .ref m15, .ref m16, .ref m17]))] _ _ := w.pick [0, 4] rfl rfl
  refine r_top (g2 := F0 m 1843 ls [.int (-1)]) rfl ?_
  refine lv_istore (lv' := [(6, .int (-1)), (5, .int 0), (0, .ref b), (1, .ref q0), (2, .ref m0), (3, .ref o0), (4, .int 0)]) C.1 C.2.1 dL_law_1843 hl (by decide) rfl (fun ls hl => ?_)
  refine lv_aload_n C.1 C.2.1 dL_law_1845 rfl (lv_at hl 4 rfl) ?_
  refine r_callV C w fv_RL_134 (c_X12_thrown_3 l D cy m0 m1 m2 m3 m4 m5 m6 m7 m8 m9 m10 m11 m12 m13 m14 m15 m16 m17) (hl.1.trans hml.symm) [1] [0] (wr := [(o0, .inl (cy 2, 1, .inr (.inl (vp_updL (fun _ => 0) 0 (-1)))))]) ⟨rfl, rfl, rfl, rfl, by decide⟩ 0 rfl rfl rfl rfl rfl ⟨Nat.le_of_ble_eq_true rfl, Nat.le_of_ble_eq_true rfl, Nat.le_of_ble_eq_true rfl⟩ 73 53662 ⟨rfl, rfl, Nat.le_of_ble_eq_true rfl, Nat.le_of_ble_eq_true rfl⟩ dL_law_1846 (fun u H locs hp w => ?_)
  have w : Wd D A s.heap [(o0, .inl (cy 2, 1, .inr (.inl (vp_updL (fun _ => 0) 0 (-1))))), (m0, .inr (12, [.ref m1, .ref m2, .ref m3, .ref m4, .ref m5, .int 0, .ref m6, .int 0, .int 0, .int 0, .int 0, .int 0, .int 0, .int 0, .int 0, .int 0, .int 0, .int (-1), .ref m7, .ref m8, .int 190, .ref m9, .int 0, .ref m10, .ref m11, .ref m12, .ref m13, .ref m14, .int 0, .ref m15, .ref m16, .ref m17]))] _ _ := w.pick [0, 1] rfl rfl
  refine r_top (g2 := F0 m 1849 ls [.int 0]) rfl ?_
  refine lv_iload C.1 C.2.1 dL_law_1849 (lv_at hl 1 rfl) ?_
  refine b_icmp_eq_t C (tgt := 1856) dL_law_1851 (by decide) (by decide) ?_
  refine lv_iload C.1 C.2.1 dL_law_1856 (lv_at hl 1 rfl) ?_
  refine b_if_ne_f C (tgt := 1873) dL_law_1858 (by decide) (by decide) ?_
  refine lv_aload_n C.1 C.2.1 dL_law_1861 rfl (lv_at hl 5 rfl) ?_
  refine lv_iconst (v := 0) C.1 C.2.1 dL_law_1862 (by decide) ?_
  refine r_lald C w 0 rfl (v := (-1)) (vinD (by decide)) rfl dL_law_1863 ?_
  refine lv_iload C.1 C.2.1 dL_law_1864 (lv_at hl 0 rfl) ?_
  refine lv_i2l (v := (-1)) C.1 C.2.1 dL_law_1866 (by decide) ?_
  refine r_lcmp C (v := 0) dL_law_1867 (by decide) ?_
  refine b_if_eq_t C (tgt := 1873) dL_law_1868 (by decide) (by decide) ?_
  refine lv_goto (tgt := 2461) C.1 C.2.1 dL_law_1873 (by decide) ?_
  refine W.widen (k := 600002) (n := 7302232) (Nat.le_of_ble_eq_true rfl) (Nat.le_of_ble_eq_true rfl) ?_
  exact kk _ _ _ w.2.2 (lv_sub hl [2, 6] rfl)
set_option maxRecDepth 100000 in
set_option maxHeartbeats 4000000 in
theorem s_L_25_20 {p : Program} {l : Launch} {e : Env} {s : State} {m : MethodId} {args : Array Value} {below : List Frame} {meth : Method} {c : Code} {Q : State → Prop} {D : va_G} {cy : Nat → ClassId} {A : Nat → Prop} {H : Heap} {locs : List Loc} {ls : Array Slot} {xs : Nat → Int32} (b q0 q1 q2 q4 q5 q6 q10 q11 q12 q13 q14 q15 q16 q17 m0 m1 m2 m3 m4 m5 m6 m7 m8 m9 m10 m11 m12 m13 m14 m15 m16 m17 o0 : Nat) (y2 : Int32) (k0 : ¬ y2 < 10) (k1 : ¬ 4 ≤ (y2 - 10)) (k2 : ¬ 13 < y2) (sx1 : xs 1 = 2) (sx2 : xs 2 = y2) (C : Cx p s m args c cL_law RL D cy A) (hml : c.maxLocals = 8) (hX : va_X b 6 xs s s.heap) (hbl : b < s.heap.size) (hbA : ¬ A b) (w : Wd D A s.heap [(q0, .inr (11, [.ref q1, .int 0, .int 0, .int (-1), .ref q2, .ref q4, .ref q5, .ref q6, .ref q10, .null])), (q10, .inr (9, [.int 0, .int 2, .int 20, .int 120, .int 0, .int 0, .int 0, .int 0, .ref q11, .int 0, .ref q12, .ref q13, .int 0, .ref q14, .ref q15, .ref q16, .ref q17])), (m0, .inr (12, [.ref m1, .ref m2, .ref m3, .ref m4, .ref m5, .int 0, .ref m6, .int 0, .int 0, .int 0, .int 0, .int 0, .int 0, .int 0, .int 0, .int 0, .int 0, .int (-1), .ref m7, .ref m8, .int 0, .ref m9, .int 0, .ref m10, .ref m11, .ref m12, .ref m13, .ref m14, .int 0, .ref m15, .ref m16, .ref m17])), (m7, .inl (cy 1, 1830, .inl (fun _ => 0))), (m8, .inl (cy 1, 1830, .inl (fun _ => 0))), (m9, .inl (cy 2, 2465, .inr (.inl (fun _ => 0)))), (m1, .inl (cy 1, 1868, .inl (upd (upd (upd (fun _ => 0) 1 2) 2 20) 3 120))), (o0, .inl (cy 2, 1, .inr (.inl (fun _ => 0))))] H locs) (hl : lv_has ls 8 [(0, .ref b), (1, .ref q0), (2, .ref m0), (3, .ref o0), (4, .int 0)]) (kk : ∀ (H : Heap) (locs : List Loc) (ls : Array Slot), va_S A s.heap H locs → lv_has ls 8 [(0, .ref b), (4, .int 0)] → W p l e room_1 s m args below meth c H locs 600002 7302232 Q (F0 m 2461 ls [])) : W p l e room_1 s m args below meth c H locs 37 29845 Q (F0 m 1808 ls []) := by
  refine lv_aload_n C.1 C.2.1 dL_law_1808 rfl (lv_at hl 1 rfl) ?_
  refine lv_aload_n C.1 C.2.1 dL_law_1809 rfl (lv_at hl 0 rfl) ?_
  refine lv_iload C.1 C.2.1 dL_law_1810 (lv_at hl 4 rfl) ?_
  refine lv_iconst (v := 1) C.1 C.2.1 dL_law_1812 (by decide) ?_
  refine r_iadd C (v := 1) dL_law_1813 (by decide) ?_
  refine r_sld C w hX hbl hbA (v := 2) (vinD (by decide)) sx1 dL_law_1814 ?_
  refine lv_aload_n C.1 C.2.1 dL_law_1815 rfl (lv_at hl 0 rfl) ?_
  refine lv_iload C.1 C.2.1 dL_law_1816 (lv_at hl 4 rfl) ?_
  refine lv_iconst (v := 2) C.1 C.2.1 dL_law_1818 (by decide) ?_
  refine r_iadd C (v := 2) dL_law_1819 (by decide) ?_
  refine r_sld C w hX hbl hbA (v := y2) (vinD (by decide)) sx2 dL_law_1820 ?_
  refine lv_aload_n C.1 C.2.1 dL_law_1821 rfl (lv_at hl 3 rfl) ?_
  refine r_callH C w fh_RL_213 (c_L_shortest_19 l D cy q0 o0 q1 q2 q4 q5 q6 q10 q11 q12 q13 q14 q15 q16 q17 y2 k0 k1) (hl.1.trans hml.symm) [0, 1, 7] [2, 3, 4, 5, 6] (wr := [(m0, .inr (12, [.ref m1, .ref m2, .ref m3, .ref m4, .ref m5, .int 0, .ref m6, .int 0, .int 0, .int 0, .int 0, .int 0, .int 0, .int 0, .int 0, .int 0, .int 0, .int (-1), .ref m7, .ref m8, .int 0, .ref m9, .int 0, .ref m10, .ref m11, .ref m12, .ref m13, .ref m14, .int 0, .ref m15, .ref m16, .ref m17])), (m7, .inl (cy 1, 1830, .inl (fun _ => 0))), (m8, .inl (cy 1, 1830, .inl (fun _ => 0))), (m9, .inl (cy 2, 2465, .inr (.inl (fun _ => 0)))), (m1, .inl (cy 1, 1868, .inl (upd (upd (upd (fun _ => 0) 1 2) 2 20) 3 120)))]) ⟨rfl, rfl, rfl, rfl, by decide⟩ rfl rfl ⟨Nat.le_of_ble_eq_true rfl, Nat.le_of_ble_eq_true rfl, Nat.le_of_ble_eq_true rfl⟩ 73 53662 ⟨rfl, rfl, Nat.le_of_ble_eq_true rfl, Nat.le_of_ble_eq_true rfl⟩ dL_law_1822 (fun u H locs hp w => ?_)
  obtain ⟨n1, n2, n3, n4, n5, n6, n7, n8, n9, n10, n11, n12, n13, n14, n15, n16, n17, n18, n19, n20, n21, n22, n23, n24, n25, n26, n27, n28, n29, n30, n31, n32, n33, n34, n35, n36⟩ := u
  have w : Wd D A s.heap [(m0, .inr (12, [.ref m1, .ref m2, .ref m3, .ref m4, .ref m5, .int 0, .ref m6, .int 0, .int 0, .int 0, .int 0, .int 0, .int 0, .int 0, .int 0, .int 0, .int 0, .int (-1), .ref m7, .ref m8, .int 0, .ref m9, .int 0, .ref m10, .ref m11, .ref m12, .ref m13, .ref m14, .int 0, .ref m15, .ref m16, .ref m17])), (m7, .inl (cy 1, 1830, .inl (fun _ => 0))), (m8, .inl (cy 1, 1830, .inl (fun _ => 0))), (m9, .inl (cy 2, 2465, .inr (.inl (fun _ => 0)))), (m1, .inl (cy 1, 1868, .inl (upd (upd (upd (fun _ => 0) 1 2) 2 20) 3 120))), (o0, .inl (cy 2, 1, .inr (.inl (vp_updL (fun _ => 0) 0 (-1)))))] _ _ := w.pick [0, 1, 2, 3, 4, 5] rfl rfl
  refine r_top (g2 := F0 m 1825 ls [.int 0]) rfl ?_
  refine lv_istore (lv' := [(5, .int 0), (0, .ref b), (1, .ref q0), (2, .ref m0), (3, .ref o0), (4, .int 0)]) C.1 C.2.1 dL_law_1825 hl (by decide) rfl (fun ls hl => ?_)
  refine lv_aload_n C.1 C.2.1 dL_law_1827 rfl (lv_at hl 3 rfl) ?_
  refine lv_aload_n C.1 C.2.1 dL_law_1828 rfl (lv_at hl 1 rfl) ?_
  refine lv_iload C.1 C.2.1 dL_law_1829 (lv_at hl 5 rfl) ?_
  refine lv_iconst (v := 1) C.1 C.2.1 dL_law_1831 (by decide) ?_
  refine r_iadd C (v := 1) dL_law_1832 (by decide) ?_
  refine r_sld C w hX hbl hbA (v := 2) (vinD (by decide)) sx1 dL_law_1833 ?_
  refine lv_aload_n C.1 C.2.1 dL_law_1834 rfl (lv_at hl 1 rfl) ?_
  refine lv_iload C.1 C.2.1 dL_law_1835 (lv_at hl 5 rfl) ?_
  refine lv_iconst (v := 2) C.1 C.2.1 dL_law_1837 (by decide) ?_
  refine r_iadd C (v := 2) dL_law_1838 (by decide) ?_
  refine r_sld C w hX hbl hbA (v := y2) (vinD (by decide)) sx2 dL_law_1839 ?_
  refine r_callV C w fv_RL_215 (c_X12_shortest_8 l D cy m0 m1 m2 m3 m4 m5 m6 m7 m8 m9 m10 m11 m12 m13 m14 m15 m16 m17 y2 (by have h0 := (i_nlt k0); have e0 : (0 : Int32).toInt = 0 := (by decide); have e1 : (10 : Int32).toInt = 10 := (by decide); rw [fa_lt]; omega) (by have h0 := (i_nlt k0); have e0 : (1 : Int32).toInt = 1 := (by decide); have e1 : (10 : Int32).toInt = 10 := (by decide); rw [fa_lt]; omega) k0 k2) (hl.1.trans hml.symm) [0, 4, 1, 2, 3] [5] (wr := [(o0, .inl (cy 2, 1, .inr (.inl (vp_updL (fun _ => 0) 0 (-1)))))]) ⟨rfl, rfl, rfl, rfl, by decide⟩ 0 rfl rfl rfl rfl rfl ⟨Nat.le_of_ble_eq_true rfl, Nat.le_of_ble_eq_true rfl, Nat.le_of_ble_eq_true rfl⟩ 73 53662 ⟨rfl, rfl, Nat.le_of_ble_eq_true rfl, Nat.le_of_ble_eq_true rfl⟩ dL_law_1840 (fun u H locs hp w => ?_)
  have w : Wd D A s.heap [(o0, .inl (cy 2, 1, .inr (.inl (vp_updL (fun _ => 0) 0 (-1))))), (m0, .inr (12, [.ref m1, .ref m2, .ref m3, .ref m4, .ref m5, .int 0, .ref m6, .int 0, .int 0, .int 0, .int 0, .int 0, .int 0, .int 0, .int 0, .int 0, .int 0, .int (-1), .ref m7, .ref m8, .int 190, .ref m9, .int 0, .ref m10, .ref m11, .ref m12, .ref m13, .ref m14, .int 0, .ref m15, .ref m16, .ref m17]))] _ _ := w.pick [0, 4] rfl rfl
  refine r_top (g2 := F0 m 1843 ls [.int (-1)]) rfl ?_
  refine lv_istore (lv' := [(6, .int (-1)), (5, .int 0), (0, .ref b), (1, .ref q0), (2, .ref m0), (3, .ref o0), (4, .int 0)]) C.1 C.2.1 dL_law_1843 hl (by decide) rfl (fun ls hl => ?_)
  refine lv_aload_n C.1 C.2.1 dL_law_1845 rfl (lv_at hl 4 rfl) ?_
  refine r_callV C w fv_RL_134 (c_X12_thrown_3 l D cy m0 m1 m2 m3 m4 m5 m6 m7 m8 m9 m10 m11 m12 m13 m14 m15 m16 m17) (hl.1.trans hml.symm) [1] [0] (wr := [(o0, .inl (cy 2, 1, .inr (.inl (vp_updL (fun _ => 0) 0 (-1)))))]) ⟨rfl, rfl, rfl, rfl, by decide⟩ 0 rfl rfl rfl rfl rfl ⟨Nat.le_of_ble_eq_true rfl, Nat.le_of_ble_eq_true rfl, Nat.le_of_ble_eq_true rfl⟩ 73 53662 ⟨rfl, rfl, Nat.le_of_ble_eq_true rfl, Nat.le_of_ble_eq_true rfl⟩ dL_law_1846 (fun u H locs hp w => ?_)
  have w : Wd D A s.heap [(o0, .inl (cy 2, 1, .inr (.inl (vp_updL (fun _ => 0) 0 (-1))))), (m0, .inr (12, [.ref m1, .ref m2, .ref m3, .ref m4, .ref m5, .int 0, .ref m6, .int 0, .int 0, .int 0, .int 0, .int 0, .int 0, .int 0, .int 0, .int 0, .int 0, .int (-1), .ref m7, .ref m8, .int 190, .ref m9, .int 0, .ref m10, .ref m11, .ref m12, .ref m13, .ref m14, .int 0, .ref m15, .ref m16, .ref m17]))] _ _ := w.pick [0, 1] rfl rfl
  refine r_top (g2 := F0 m 1849 ls [.int 0]) rfl ?_
  refine lv_iload C.1 C.2.1 dL_law_1849 (lv_at hl 1 rfl) ?_
  refine b_icmp_eq_t C (tgt := 1856) dL_law_1851 (by decide) (by decide) ?_
  refine lv_iload C.1 C.2.1 dL_law_1856 (lv_at hl 1 rfl) ?_
  refine b_if_ne_f C (tgt := 1873) dL_law_1858 (by decide) (by decide) ?_
  refine lv_aload_n C.1 C.2.1 dL_law_1861 rfl (lv_at hl 5 rfl) ?_
  refine lv_iconst (v := 0) C.1 C.2.1 dL_law_1862 (by decide) ?_
  refine r_lald C w 0 rfl (v := (-1)) (vinD (by decide)) rfl dL_law_1863 ?_
  refine lv_iload C.1 C.2.1 dL_law_1864 (lv_at hl 0 rfl) ?_
  refine lv_i2l (v := (-1)) C.1 C.2.1 dL_law_1866 (by decide) ?_
  refine r_lcmp C (v := 0) dL_law_1867 (by decide) ?_
  refine b_if_eq_t C (tgt := 1873) dL_law_1868 (by decide) (by decide) ?_
  refine lv_goto (tgt := 2461) C.1 C.2.1 dL_law_1873 (by decide) ?_
  refine W.widen (k := 600002) (n := 7302232) (Nat.le_of_ble_eq_true rfl) (Nat.le_of_ble_eq_true rfl) ?_
  exact kk _ _ _ w.2.2 (lv_sub hl [2, 6] rfl)
set_option maxRecDepth 100000 in
set_option maxHeartbeats 4000000 in
theorem t_L_25 {p : Program} {l : Launch} {e : Env} {s : State} {m : MethodId} {args : Array Value} {below : List Frame} {meth : Method} {c : Code} {Q : State → Prop} {D : va_G} {cy : Nat → ClassId} {A : Nat → Prop} {H : Heap} {locs : List Loc} {ls : Array Slot} {xs : Nat → Int32} (b q0 q1 q2 q4 q5 q6 q10 q3 q7 q8 q9 q11 q12 q13 q14 q15 q16 q17 m0 m1 m2 m3 m4 m5 m6 m7 m8 m9 m10 m11 m12 m13 m14 m15 m16 m17 o0 : Nat) (hst : l.stackTraces = false) (C : Cx p s m args c cL_law RL D cy A) (hml : c.maxLocals = 8) (hX : va_X b 6 xs s s.heap) (hbl : b < s.heap.size) (hbA : ¬ A b) (w : Wd D A s.heap [(q0, .inr (11, [.ref q1, .int 0, .int 0, .int (-1), .ref q2, .ref q4, .ref q5, .ref q6, .ref q10, .null])), (q1, .inl (cy 0, 900, .inl (fun _ => 0))), (q2, .inr (5, [.ref q3, .int 0, .int 0, .int 0, .int 0, .int 0, .int 0, .null])), (q3, .inl (cy 0, 0, .inl (fun _ => 0))), (q4, .inl (cy 4, 5, .inr (.inr (.inr (.inr (va_up (fun _ => none) 0 (some q10))))))), (q5, .inl (cy 4, 3, .inr (.inr (.inr (.inr (fun _ => none)))))), (q6, .inr (10, [.ref q7, .ref q8, .ref q9])), (q7, .inl (cy 1, 4, .inl (upd (upd (upd (upd (fun _ => 0) 0 (-1)) 1 (-1)) 2 (-1)) 3 (-1)))), (q8, .inl (cy 1, 4, .inl (fun _ => 0))), (q9, .inl (cy 2, 160, .inr (.inl (fun _ => 0)))), (q10, .inr (9, [.int 0, .int 2, .int 20, .int 120, .int 0, .int 0, .int 0, .int 0, .ref q11, .int 0, .ref q12, .ref q13, .int 0, .ref q14, .ref q15, .ref q16, .ref q17])), (q11, .inl (cy 1, 6, .inl (fun _ => 0))), (q12, .inl (cy 1, 20, .inl (fun _ => 0))), (q13, .inl (cy 1, 20, .inl (fun _ => 0))), (q14, .inl (cy 1, 300, .inl (fun _ => 0))), (q15, .inl (cy 1, 300, .inl (fun _ => 0))), (q16, .inl (cy 1, 300, .inl (fun _ => 0))), (q17, .inl (cy 1, 300, .inl (fun _ => 0))), (m0, .inr (12, [.ref m1, .ref m2, .ref m3, .ref m4, .ref m5, .int 0, .ref m6, .int 0, .int 0, .int 0, .int 0, .int 0, .int 0, .int 0, .int 0, .int 0, .int 0, .int (-1), .ref m7, .ref m8, .int 0, .ref m9, .int 0, .ref m10, .ref m11, .ref m12, .ref m13, .ref m14, .int 0, .ref m15, .ref m16, .ref m17])), (m2, .inl (cy 1, 1868, .inl (fun _ => 0))), (m3, .inl (cy 1, 1868, .inl (fun _ => 0))), (m4, .inl (cy 1, 5604, .inl (fun _ => 0))), (m5, .inl (cy 3, 3, .inl (fun _ => 0))), (m6, .inl (cy 1, 900, .inl (fun _ => 0))), (m7, .inl (cy 1, 1830, .inl (fun _ => 0))), (m8, .inl (cy 1, 1830, .inl (fun _ => 0))), (m9, .inl (cy 2, 2465, .inr (.inl (fun _ => 0)))), (m10, .inl (cy 1, 7201, .inl (fun _ => 0))), (m11, .inl (cy 1, 1830, .inl (fun _ => 0))), (m12, .inl (cy 1, 5, .inl (fun _ => 0))), (m13, .inl (cy 1, 6, .inl (fun _ => 0))), (m14, .inl (cy 1, 6, .inl (fun _ => 0))), (m15, .inl (cy 1, 4, .inl (upd (upd (upd (upd (fun _ => 0) 0 (-1)) 1 (-1)) 2 (-1)) 3 (-1)))), (m16, .inl (cy 1, 4, .inl (fun _ => 0))), (m17, .inl (cy 2, 160, .inr (.inl (fun _ => 0)))), (m1, .inl (cy 1, 1868, .inl (upd (upd (upd (fun _ => 0) 1 2) 2 20) 3 120))), (o0, .inl (cy 2, 1, .inr (.inl (fun _ => 0))))] H locs) (hl : lv_has ls 8 [(0, .ref b), (1, .ref q0), (2, .ref m0), (3, .ref o0), (4, .int 0)]) (kk : ∀ (H : Heap) (locs : List Loc) (ls : Array Slot), va_S A s.heap H locs → lv_has ls 8 [(0, .ref b), (4, .int 0)] → W p l e room_1 s m args below meth c H locs 600002 7302232 Q (F0 m 2461 ls [])) : W p l e room_1 s m args below meth c H locs 37 29845 Q (F0 m 1808 ls []) := by
  obtain ⟨y1, sx1⟩ : ∃ y, xs 1 = y := ⟨_, rfl⟩
  obtain ⟨y2, sx2⟩ : ∃ y, xs 2 = y := ⟨_, rfl⟩
  obtain ⟨y3, sx3⟩ : ∃ y, xs 3 = y := ⟨_, rfl⟩
  obtain ⟨y4, sx4⟩ : ∃ y, xs 4 = y := ⟨_, rfl⟩
  obtain ⟨y5, sx5⟩ : ∃ y, xs 5 = y := ⟨_, rfl⟩
  by_cases g1 : y2 < 10
  · by_cases g2 : y1 < 1
    · exact s_L_25_0 b q0 q1 q2 q4 q5 q6 q10 m0 m1 m2 m3 m4 m5 m6 m7 m8 m9 m10 m11 m12 m13 m14 m15 m16 m17 o0 y1 y2 g1 g2 sx1 sx2 hst C hml hX hbl hbA (w.pick [0, 18] rfl rfl) hl kk
    · by_cases g3 : 4 < y1
      · exact s_L_25_1 b q0 q1 q2 q4 q5 q6 q10 m0 m1 m2 m3 m4 m5 m6 m7 m8 m9 m10 m11 m12 m13 m14 m15 m16 m17 o0 y1 y2 g1 g2 g3 sx1 sx2 hst C hml hX hbl hbA (w.pick [0, 18] rfl rfl) hl kk
      · by_cases g4 : y2 = 0
        · subst g4
          by_cases g5 : y1 = 1
          · subst g5
            exact s_L_25_2 b q0 q1 q2 q4 q5 q6 q10 q11 q12 q13 q14 q15 q16 q17 m0 m1 m2 m3 m4 m5 m6 m7 m8 m9 m10 m11 m12 m13 m14 m15 m16 m17 o0 sx1 sx2 C hml hX hbl hbA (w.pick [0, 10, 18, 24, 25, 26, 35, 36] rfl rfl) hl kk
          · by_cases g6 : y1 = 4
            · subst g6
              exact s_L_25_3 b q0 q1 q2 q4 q5 q6 q10 q11 q12 q13 q14 q15 q16 q17 m0 m1 m2 m3 m4 m5 m6 m7 m8 m9 m10 m11 m12 m13 m14 m15 m16 m17 o0 sx1 sx2 C hml hX hbl hbA (w.pick [0, 10, 18, 24, 25, 26, 35, 36] rfl rfl) hl kk
            · by_cases g7 : y1 = 3
              · subst g7
                exact s_L_25_4 b q0 q1 q2 q4 q5 q6 q10 q11 q12 q13 q14 q15 q16 q17 m0 m1 m2 m3 m4 m5 m6 m7 m8 m9 m10 m11 m12 m13 m14 m15 m16 m17 o0 sx1 sx2 C hml hX hbl hbA (w.pick [0, 10, 18, 24, 25, 26, 35, 36] rfl rfl) hl kk
              · by_cases g8 : y1 = 2
                · subst g8
                  exact s_L_25_5 b q0 q1 q2 q4 q5 q6 q10 q11 q12 q13 q14 q15 q16 q17 m0 m1 m2 m3 m4 m5 m6 m7 m8 m9 m10 m11 m12 m13 m14 m15 m16 m17 o0 sx1 sx2 C hml hX hbl hbA (w.pick [0, 10, 18, 24, 25, 26, 35, 36] rfl rfl) hl kk
                · exfalso
                  have h0 := i_nlt g2
                  have h1 := i_nlt g3
                  have h2 := (not_congr (fa_eq _ _)).mp g5
                  have h3 := (not_congr (fa_eq _ _)).mp g6
                  have h4 := (not_congr (fa_eq _ _)).mp g7
                  have h5 := (not_congr (fa_eq _ _)).mp g8
                  have e0 : (1 : Int32).toInt = 1 := (by decide)
                  have e1 : (2 : Int32).toInt = 2 := (by decide)
                  have e2 : (3 : Int32).toInt = 3 := (by decide)
                  have e3 : (4 : Int32).toInt = 4 := (by decide)
                  omega
        · by_cases g9 : y2 = 1
          · subst g9
            by_cases g10 : y1 = 1
            · subst g10
              exact s_L_25_6 b q0 q1 q2 q4 q5 q6 q10 q11 q12 q13 q14 q15 q16 q17 m0 m1 m2 m3 m4 m5 m6 m7 m8 m9 m10 m11 m12 m13 m14 m15 m16 m17 o0 sx1 sx2 C hml hX hbl hbA (w.pick [0, 10, 18, 24, 25, 26, 35, 36] rfl rfl) hl kk
            · by_cases g11 : y1 = 4
              · subst g11
                exact s_L_25_7 b q0 q1 q2 q4 q5 q6 q10 q11 q12 q13 q14 q15 q16 q17 m0 m1 m2 m3 m4 m5 m6 m7 m8 m9 m10 m11 m12 m13 m14 m15 m16 m17 o0 sx1 sx2 C hml hX hbl hbA (w.pick [0, 10, 18, 24, 25, 26, 35, 36] rfl rfl) hl kk
              · by_cases g12 : y1 = 3
                · subst g12
                  exact s_L_25_8 b q0 q1 q2 q4 q5 q6 q10 q11 q12 q13 q14 q15 q16 q17 m0 m1 m2 m3 m4 m5 m6 m7 m8 m9 m10 m11 m12 m13 m14 m15 m16 m17 o0 sx1 sx2 C hml hX hbl hbA (w.pick [0, 10, 18, 24, 25, 26, 35, 36] rfl rfl) hl kk
                · by_cases g13 : y1 = 2
                  · subst g13
                    exact s_L_25_9 b q0 q1 q2 q4 q5 q6 q10 q11 q12 q13 q14 q15 q16 q17 m0 m1 m2 m3 m4 m5 m6 m7 m8 m9 m10 m11 m12 m13 m14 m15 m16 m17 o0 sx1 sx2 C hml hX hbl hbA (w.pick [0, 10, 18, 24, 25, 26, 35, 36] rfl rfl) hl kk
                  · exfalso
                    have h0 := i_nlt g2
                    have h1 := i_nlt g3
                    have h2 := (not_congr (fa_eq _ _)).mp g10
                    have h3 := (not_congr (fa_eq _ _)).mp g11
                    have h4 := (not_congr (fa_eq _ _)).mp g12
                    have h5 := (not_congr (fa_eq _ _)).mp g13
                    have e0 : (1 : Int32).toInt = 1 := (by decide)
                    have e1 : (2 : Int32).toInt = 2 := (by decide)
                    have e2 : (3 : Int32).toInt = 3 := (by decide)
                    have e3 : (4 : Int32).toInt = 4 := (by decide)
                    omega
          · by_cases g14 : y2 < 0
            · exact s_L_25_10 b q0 q1 q2 q4 q5 q6 q10 m0 m1 m2 m3 m4 m5 m6 m7 m8 m9 m10 m11 m12 m13 m14 m15 m16 m17 o0 y1 y2 g1 g2 g3 g4 g9 g14 sx1 sx2 hst C hml hX hbl hbA (w.pick [0, 18] rfl rfl) hl kk
            · by_cases g15 : 1 < y2
              · exact s_L_25_11 b q0 q1 q2 q4 q5 q6 q10 m0 m1 m2 m3 m4 m5 m6 m7 m8 m9 m10 m11 m12 m13 m14 m15 m16 m17 o0 y1 y2 g1 g2 g3 g4 g9 g14 g15 sx1 sx2 hst C hml hX hbl hbA (w.pick [0, 18] rfl rfl) hl kk
              · exfalso
                have h0 := i_lt g1
                have h1 := i_nlt g2
                have h2 := i_nlt g3
                have h3 := (not_congr (fa_eq _ _)).mp g4
                have h4 := (not_congr (fa_eq _ _)).mp g9
                have h5 := i_nlt g14
                have h6 := i_nlt g15
                have e0 : (0 : Int32).toInt = 0 := (by decide)
                have e1 : (1 : Int32).toInt = 1 := (by decide)
                have e2 : (4 : Int32).toInt = 4 := (by decide)
                have e3 : (10 : Int32).toInt = 10 := (by decide)
                omega
  · by_cases g16 : 4 ≤ (y2 - 10)
    · by_cases g17 : y1 < 1
      · exact s_L_25_12 b q0 q1 q2 q4 q5 q6 q10 m0 m1 m2 m3 m4 m5 m6 m7 m8 m9 m10 m11 m12 m13 m14 m15 m16 m17 o0 y1 y2 g1 g16 g17 sx1 sx2 hst C hml hX hbl hbA (w.pick [0, 18] rfl rfl) hl kk
      · by_cases g18 : 4 < y1
        · exact s_L_25_13 b q0 q1 q2 q4 q5 q6 q10 m0 m1 m2 m3 m4 m5 m6 m7 m8 m9 m10 m11 m12 m13 m14 m15 m16 m17 o0 y1 y2 g1 g16 g17 g18 sx1 sx2 hst C hml hX hbl hbA (w.pick [0, 18] rfl rfl) hl kk
        · by_cases g19 : 13 < y2
          · exact s_L_25_14 b q0 q1 q2 q4 q5 q6 q10 m0 m1 m2 m3 m4 m5 m6 m7 m8 m9 m10 m11 m12 m13 m14 m15 m16 m17 o0 y1 y2 g1 g16 g17 g18 g19 sx1 sx2 hst C hml hX hbl hbA (w.pick [0, 18] rfl rfl) hl kk
          · exfalso
            have h0 := i_nlt g1
            have h1 := i_le g16
            have h2 := i_nlt g17
            have h3 := i_nlt g18
            have h4 := i_nlt g19
            have hs := sub10 g1
            have e0 : (1 : Int32).toInt = 1 := (by decide)
            have e1 : (4 : Int32).toInt = 4 := (by decide)
            have e2 : (10 : Int32).toInt = 10 := (by decide)
            have e3 : (13 : Int32).toInt = 13 := (by decide)
            omega
    · by_cases g20 : y1 < 1
      · exact s_L_25_15 b q0 q1 q2 q4 q5 q6 q10 m0 m1 m2 m3 m4 m5 m6 m7 m8 m9 m10 m11 m12 m13 m14 m15 m16 m17 o0 y1 y2 g1 g16 g20 sx1 sx2 hst C hml hX hbl hbA (w.pick [0, 18] rfl rfl) hl kk
      · by_cases g21 : 4 < y1
        · exact s_L_25_16 b q0 q1 q2 q4 q5 q6 q10 m0 m1 m2 m3 m4 m5 m6 m7 m8 m9 m10 m11 m12 m13 m14 m15 m16 m17 o0 y1 y2 g1 g16 g20 g21 sx1 sx2 hst C hml hX hbl hbA (w.pick [0, 18] rfl rfl) hl kk
        · by_cases g22 : y1 = 1
          · subst g22
            by_cases g23 : 13 < y2
            · exfalso
              have h0 := i_nlt g1
              have h1 := i_nle g16
              have h2 := i_lt g23
              have hs := sub10 g1
              have e0 : (4 : Int32).toInt = 4 := (by decide)
              have e1 : (10 : Int32).toInt = 10 := (by decide)
              have e2 : (13 : Int32).toInt = 13 := (by decide)
              omega
            · exact s_L_25_17 b q0 q1 q2 q4 q5 q6 q10 q11 q12 q13 q14 q15 q16 q17 m0 m1 m2 m3 m4 m5 m6 m7 m8 m9 m10 m11 m12 m13 m14 m15 m16 m17 o0 y2 g1 g16 g23 sx1 sx2 C hml hX hbl hbA (w.pick [0, 10, 18, 24, 25, 26, 35, 36] rfl rfl) hl kk
          · by_cases g24 : y1 = 4
            · subst g24
              by_cases g25 : 13 < y2
              · exfalso
                have h0 := i_nlt g1
                have h1 := i_nle g16
                have h2 := i_lt g25
                have hs := sub10 g1
                have e0 : (4 : Int32).toInt = 4 := (by decide)
                have e1 : (10 : Int32).toInt = 10 := (by decide)
                have e2 : (13 : Int32).toInt = 13 := (by decide)
                omega
              · exact s_L_25_18 b q0 q1 q2 q4 q5 q6 q10 q11 q12 q13 q14 q15 q16 q17 m0 m1 m2 m3 m4 m5 m6 m7 m8 m9 m10 m11 m12 m13 m14 m15 m16 m17 o0 y2 g1 g16 g25 sx1 sx2 C hml hX hbl hbA (w.pick [0, 10, 18, 24, 25, 26, 35, 36] rfl rfl) hl kk
            · by_cases g26 : y1 = 3
              · subst g26
                by_cases g27 : 13 < y2
                · exfalso
                  have h0 := i_nlt g1
                  have h1 := i_nle g16
                  have h2 := i_lt g27
                  have hs := sub10 g1
                  have e0 : (4 : Int32).toInt = 4 := (by decide)
                  have e1 : (10 : Int32).toInt = 10 := (by decide)
                  have e2 : (13 : Int32).toInt = 13 := (by decide)
                  omega
                · exact s_L_25_19 b q0 q1 q2 q4 q5 q6 q10 q11 q12 q13 q14 q15 q16 q17 m0 m1 m2 m3 m4 m5 m6 m7 m8 m9 m10 m11 m12 m13 m14 m15 m16 m17 o0 y2 g1 g16 g27 sx1 sx2 C hml hX hbl hbA (w.pick [0, 10, 18, 24, 25, 26, 35, 36] rfl rfl) hl kk
              · by_cases g28 : y1 = 2
                · subst g28
                  by_cases g29 : 13 < y2
                  · exfalso
                    have h0 := i_nlt g1
                    have h1 := i_nle g16
                    have h2 := i_lt g29
                    have hs := sub10 g1
                    have e0 : (4 : Int32).toInt = 4 := (by decide)
                    have e1 : (10 : Int32).toInt = 10 := (by decide)
                    have e2 : (13 : Int32).toInt = 13 := (by decide)
                    omega
                  · exact s_L_25_20 b q0 q1 q2 q4 q5 q6 q10 q11 q12 q13 q14 q15 q16 q17 m0 m1 m2 m3 m4 m5 m6 m7 m8 m9 m10 m11 m12 m13 m14 m15 m16 m17 o0 y2 g1 g16 g29 sx1 sx2 C hml hX hbl hbA (w.pick [0, 10, 18, 24, 25, 26, 35, 36] rfl rfl) hl kk
                · exfalso
                  have h0 := i_nlt g1
                  have h1 := i_nle g16
                  have h2 := i_nlt g20
                  have h3 := i_nlt g21
                  have h4 := (not_congr (fa_eq _ _)).mp g22
                  have h5 := (not_congr (fa_eq _ _)).mp g24
                  have h6 := (not_congr (fa_eq _ _)).mp g26
                  have h7 := (not_congr (fa_eq _ _)).mp g28
                  have hs := sub10 g1
                  have e0 : (1 : Int32).toInt = 1 := (by decide)
                  have e1 : (2 : Int32).toInt = 2 := (by decide)
                  have e2 : (3 : Int32).toInt = 3 := (by decide)
                  have e3 : (4 : Int32).toInt = 4 := (by decide)
                  have e4 : (10 : Int32).toInt = 10 := (by decide)
                  omega
theorem dL_law_1876 : decode cL_law 1876 = .ok (.aload_n 1, 1) := by decide +kernel
theorem dL_law_1877 : decode cL_law 1877 = .ok (.aload_n 0, 1) := by decide +kernel
theorem dL_law_1878 : decode cL_law 1878 = .ok (.iload 4, 2) := by decide +kernel
theorem dL_law_1880 : decode cL_law 1880 = .ok (.iconst 1, 1) := by decide +kernel
theorem dL_law_1881 : decode cL_law 1881 = .ok (.iadd, 1) := by decide +kernel
theorem dL_law_1882 : decode cL_law 1882 = .ok (.iaload, 1) := by decide +kernel
theorem dL_law_1883 : decode cL_law 1883 = .ok (.aload_n 3, 1) := by decide +kernel
theorem dL_law_1884 : decode cL_law 1884 = .ok (.invokestatic 216, 3) := by decide +kernel
theorem fh_RL_216 : FH RL 216 yL_liar cL_liar 4 (some .int) [(0, 9, 12, 19)] 3 := ⟨⟨gw_mem (by decide +kernel) (by decide +kernel), gw_mem (by decide +kernel) (by decide +kernel), gw_mem (by decide +kernel) (by decide +kernel), gw_mem (by decide +kernel) (by decide +kernel)⟩, ⟨by decide +kernel, by decide +kernel, by decide +kernel⟩⟩
theorem dL_law_1887 : decode cL_law 1887 = .ok (.istore 5, 2) := by decide +kernel
theorem dL_law_1889 : decode cL_law 1889 = .ok (.aload_n 2, 1) := by decide +kernel
theorem dL_law_1890 : decode cL_law 1890 = .ok (.aload_n 0, 1) := by decide +kernel
theorem dL_law_1891 : decode cL_law 1891 = .ok (.iload 4, 2) := by decide +kernel
theorem dL_law_1893 : decode cL_law 1893 = .ok (.iconst 1, 1) := by decide +kernel
theorem dL_law_1894 : decode cL_law 1894 = .ok (.iadd, 1) := by decide +kernel
theorem dL_law_1895 : decode cL_law 1895 = .ok (.iaload, 1) := by decide +kernel
theorem dL_law_1896 : decode cL_law 1896 = .ok (.invokevirtual 218, 3) := by decide +kernel
theorem fv_RL_218 : FV RL 218 yX12_liar cX12_liar 2 (some .int) 1 := ⟨⟨gw_mem (by decide +kernel) (by decide +kernel), gw_mem (by decide +kernel) (by decide +kernel), gw_mem (by decide +kernel) (by decide +kernel), gw_mem (by decide +kernel) (by decide +kernel), gw_mem (by decide +kernel) (by decide +kernel)⟩, ⟨by decide +kernel, by decide +kernel, by decide +kernel⟩⟩
theorem dL_law_1899 : decode cL_law 1899 = .ok (.istore 6, 2) := by decide +kernel
theorem dL_law_1901 : decode cL_law 1901 = .ok (.aload_n 2, 1) := by decide +kernel
theorem dL_law_1902 : decode cL_law 1902 = .ok (.invokevirtual 134, 3) := by decide +kernel
theorem dL_law_1905 : decode cL_law 1905 = .ok (.iload 5, 2) := by decide +kernel
theorem dL_law_1907 : decode cL_law 1907 = .ok (.if_icmp .eq 5, 3) := by decide +kernel
theorem dL_law_1912 : decode cL_law 1912 = .ok (.iload 5, 2) := by decide +kernel
theorem dL_law_1914 : decode cL_law 1914 = .ok (.ifCond .ne 15, 3) := by decide +kernel
theorem dL_law_1929 : decode cL_law 1929 = .ok (.goto 532, 3) := by decide +kernel
set_option maxRecDepth 100000 in
set_option maxHeartbeats 4000000 in
theorem s_L_26_0 {p : Program} {l : Launch} {e : Env} {s : State} {m : MethodId} {args : Array Value} {below : List Frame} {meth : Method} {c : Code} {Q : State → Prop} {D : va_G} {cy : Nat → ClassId} {A : Nat → Prop} {H : Heap} {locs : List Loc} {ls : Array Slot} {xs : Nat → Int32} (b q0 q1 q2 q4 q5 q6 q10 m0 m1 m2 m3 m4 m5 m6 m7 m8 m9 m10 m11 m12 m13 m14 m15 m16 m17 o0 : Nat) (y1 : Int32) (k0 : y1 < 0) (sx1 : xs 1 = y1) (hst : l.stackTraces = false) (C : Cx p s m args c cL_law RL D cy A) (hml : c.maxLocals = 8) (hX : va_X b 6 xs s s.heap) (hbl : b < s.heap.size) (hbA : ¬ A b) (w : Wd D A s.heap [(q0, .inr (11, [.ref q1, .int 0, .int 0, .int (-1), .ref q2, .ref q4, .ref q5, .ref q6, .ref q10, .null])), (m0, .inr (12, [.ref m1, .ref m2, .ref m3, .ref m4, .ref m5, .int 0, .ref m6, .int 0, .int 0, .int 0, .int 0, .int 0, .int 0, .int 0, .int 0, .int 0, .int 0, .int (-1), .ref m7, .ref m8, .int 0, .ref m9, .int 0, .ref m10, .ref m11, .ref m12, .ref m13, .ref m14, .int 0, .ref m15, .ref m16, .ref m17])), (m1, .inl (cy 1, 1868, .inl (upd (upd (upd (fun _ => 0) 1 2) 2 20) 3 120)))] H locs) (hl : lv_has ls 8 [(0, .ref b), (1, .ref q0), (2, .ref m0), (3, .ref o0), (4, .int 0)]) (kk : ∀ (H : Heap) (locs : List Loc) (ls : Array Slot), va_S A s.heap H locs → lv_has ls 8 [(0, .ref b), (4, .int 0)] → W p l e room_1 s m args below meth c H locs 600002 7302232 Q (F0 m 2461 ls [])) : W p l e room_1 s m args below meth c H locs 37 29845 Q (F0 m 1876 ls []) := by
  refine lv_aload_n C.1 C.2.1 dL_law_1876 rfl (lv_at hl 1 rfl) ?_
  refine lv_aload_n C.1 C.2.1 dL_law_1877 rfl (lv_at hl 0 rfl) ?_
  refine lv_iload C.1 C.2.1 dL_law_1878 (lv_at hl 4 rfl) ?_
  refine lv_iconst (v := 1) C.1 C.2.1 dL_law_1880 (by decide) ?_
  refine r_iadd C (v := 1) dL_law_1881 (by decide) ?_
  refine r_sld C w hX hbl hbA (v := y1) (vinD (by decide)) sx1 dL_law_1882 ?_
  refine lv_aload_n C.1 C.2.1 dL_law_1883 rfl (lv_at hl 3 rfl) ?_
  refine r_callH C w fh_RL_216 (c_L_liar_0 l D cy q0 o0 q1 q2 q4 q5 q6 q10 y1 k0 hst) (hl.1.trans hml.symm) [0] [1, 2] (wr := [(m0, .inr (12, [.ref m1, .ref m2, .ref m3, .ref m4, .ref m5, .int 0, .ref m6, .int 0, .int 0, .int 0, .int 0, .int 0, .int 0, .int 0, .int 0, .int 0, .int 0, .int (-1), .ref m7, .ref m8, .int 0, .ref m9, .int 0, .ref m10, .ref m11, .ref m12, .ref m13, .ref m14, .int 0, .ref m15, .ref m16, .ref m17])), (m1, .inl (cy 1, 1868, .inl (upd (upd (upd (fun _ => 0) 1 2) 2 20) 3 120)))]) ⟨rfl, rfl, rfl, rfl, by decide⟩ rfl rfl ⟨Nat.le_of_ble_eq_true rfl, Nat.le_of_ble_eq_true rfl, Nat.le_of_ble_eq_true rfl⟩ 38 29851 ⟨rfl, rfl, Nat.le_of_ble_eq_true rfl, Nat.le_of_ble_eq_true rfl⟩ dL_law_1884 (fun u H locs hp w => ?_)
  have w : Wd D A s.heap [(m0, .inr (12, [.ref m1, .ref m2, .ref m3, .ref m4, .ref m5, .int 0, .ref m6, .int 0, .int 0, .int 0, .int 0, .int 0, .int 0, .int 0, .int 0, .int 0, .int 0, .int (-1), .ref m7, .ref m8, .int 0, .ref m9, .int 0, .ref m10, .ref m11, .ref m12, .ref m13, .ref m14, .int 0, .ref m15, .ref m16, .ref m17])), (m1, .inl (cy 1, 1868, .inl (upd (upd (upd (fun _ => 0) 1 2) 2 20) 3 120)))] _ _ := w.pick [0, 1] rfl rfl
  refine r_top (g2 := F0 m 1887 ls [.int 1]) rfl ?_
  refine lv_istore (lv' := [(5, .int 1), (0, .ref b), (1, .ref q0), (2, .ref m0), (3, .ref o0), (4, .int 0)]) C.1 C.2.1 dL_law_1887 hl (by decide) rfl (fun ls hl => ?_)
  refine lv_aload_n C.1 C.2.1 dL_law_1889 rfl (lv_at hl 3 rfl) ?_
  refine lv_aload_n C.1 C.2.1 dL_law_1890 rfl (lv_at hl 1 rfl) ?_
  refine lv_iload C.1 C.2.1 dL_law_1891 (lv_at hl 5 rfl) ?_
  refine lv_iconst (v := 1) C.1 C.2.1 dL_law_1893 (by decide) ?_
  refine r_iadd C (v := 1) dL_law_1894 (by decide) ?_
  refine r_sld C w hX hbl hbA (v := y1) (vinD (by decide)) sx1 dL_law_1895 ?_
  refine r_callV C w fv_RL_218 (c_X12_liar_0 l D cy m0 m1 m2 m3 m4 m5 m6 m7 m8 m9 m10 m11 m12 m13 m14 m15 m16 m17 y1 k0) (hl.1.trans hml.symm) [0, 1] [] (wr := []) ⟨rfl, rfl, rfl, rfl, by decide⟩ 0 rfl rfl rfl rfl rfl ⟨Nat.le_of_ble_eq_true rfl, Nat.le_of_ble_eq_true rfl, Nat.le_of_ble_eq_true rfl⟩ 38 29851 ⟨rfl, rfl, Nat.le_of_ble_eq_true rfl, Nat.le_of_ble_eq_true rfl⟩ dL_law_1896 (fun u H locs hp w => ?_)
  have w : Wd D A s.heap [(m0, .inr (12, [.ref m1, .ref m2, .ref m3, .ref m4, .ref m5, .int 1, .ref m6, .int 0, .int 0, .int 0, .int 0, .int 0, .int 0, .int 0, .int 0, .int 0, .int 0, .int (-1), .ref m7, .ref m8, .int 0, .ref m9, .int 0, .ref m10, .ref m11, .ref m12, .ref m13, .ref m14, .int 0, .ref m15, .ref m16, .ref m17]))] _ _ := w.pick [0] rfl rfl
  refine r_top (g2 := F0 m 1899 ls [.int 0]) rfl ?_
  refine lv_istore (lv' := [(6, .int 0), (5, .int 1), (0, .ref b), (1, .ref q0), (2, .ref m0), (3, .ref o0), (4, .int 0)]) C.1 C.2.1 dL_law_1899 hl (by decide) rfl (fun ls hl => ?_)
  refine lv_aload_n C.1 C.2.1 dL_law_1901 rfl (lv_at hl 4 rfl) ?_
  refine r_callV C w fv_RL_134 (c_X12_thrown_0 l D cy m0 m1 m2 m3 m4 m5 m6 m7 m8 m9 m10 m11 m12 m13 m14 m15 m16 m17) (hl.1.trans hml.symm) [0] [] (wr := []) ⟨rfl, rfl, rfl, rfl, by decide⟩ 0 rfl rfl rfl rfl rfl ⟨Nat.le_of_ble_eq_true rfl, Nat.le_of_ble_eq_true rfl, Nat.le_of_ble_eq_true rfl⟩ 38 29851 ⟨rfl, rfl, Nat.le_of_ble_eq_true rfl, Nat.le_of_ble_eq_true rfl⟩ dL_law_1902 (fun u H locs hp w => ?_)
  have w : Wd D A s.heap [(m0, .inr (12, [.ref m1, .ref m2, .ref m3, .ref m4, .ref m5, .int 1, .ref m6, .int 0, .int 0, .int 0, .int 0, .int 0, .int 0, .int 0, .int 0, .int 0, .int 0, .int (-1), .ref m7, .ref m8, .int 0, .ref m9, .int 0, .ref m10, .ref m11, .ref m12, .ref m13, .ref m14, .int 0, .ref m15, .ref m16, .ref m17]))] _ _ := w.pick [0] rfl rfl
  refine r_top (g2 := F0 m 1905 ls [.int 1]) rfl ?_
  refine lv_iload C.1 C.2.1 dL_law_1905 (lv_at hl 1 rfl) ?_
  refine b_icmp_eq_t C (tgt := 1912) dL_law_1907 (by decide) (by decide) ?_
  refine lv_iload C.1 C.2.1 dL_law_1912 (lv_at hl 1 rfl) ?_
  refine b_if_ne_t C (tgt := 1929) dL_law_1914 (by decide) (by decide) ?_
  refine lv_goto (tgt := 2461) C.1 C.2.1 dL_law_1929 (by decide) ?_
  refine W.widen (k := 600002) (n := 7302232) (Nat.le_of_ble_eq_true rfl) (Nat.le_of_ble_eq_true rfl) ?_
  exact kk _ _ _ w.2.2 (lv_sub hl [2, 6] rfl)
set_option maxRecDepth 100000 in
set_option maxHeartbeats 4000000 in
theorem s_L_26_1 {p : Program} {l : Launch} {e : Env} {s : State} {m : MethodId} {args : Array Value} {below : List Frame} {meth : Method} {c : Code} {Q : State → Prop} {D : va_G} {cy : Nat → ClassId} {A : Nat → Prop} {H : Heap} {locs : List Loc} {ls : Array Slot} {xs : Nat → Int32} (b q0 q1 q2 q4 q5 q6 q10 q11 q12 q13 q14 q15 q16 q17 m0 m1 m2 m3 m4 m5 m6 m7 m8 m9 m10 m11 m12 m13 m14 m15 m16 m17 o0 : Nat) (y1 : Int32) (k0 : ¬ y1 < 0) (sx1 : xs 1 = y1) (hst : l.stackTraces = false) (C : Cx p s m args c cL_law RL D cy A) (hml : c.maxLocals = 8) (hX : va_X b 6 xs s s.heap) (hbl : b < s.heap.size) (hbA : ¬ A b) (w : Wd D A s.heap [(q0, .inr (11, [.ref q1, .int 0, .int 0, .int (-1), .ref q2, .ref q4, .ref q5, .ref q6, .ref q10, .null])), (q10, .inr (9, [.int 0, .int 2, .int 20, .int 120, .int 0, .int 0, .int 0, .int 0, .ref q11, .int 0, .ref q12, .ref q13, .int 0, .ref q14, .ref q15, .ref q16, .ref q17])), (m0, .inr (12, [.ref m1, .ref m2, .ref m3, .ref m4, .ref m5, .int 0, .ref m6, .int 0, .int 0, .int 0, .int 0, .int 0, .int 0, .int 0, .int 0, .int 0, .int 0, .int (-1), .ref m7, .ref m8, .int 0, .ref m9, .int 0, .ref m10, .ref m11, .ref m12, .ref m13, .ref m14, .int 0, .ref m15, .ref m16, .ref m17])), (m1, .inl (cy 1, 1868, .inl (upd (upd (upd (fun _ => 0) 1 2) 2 20) 3 120)))] H locs) (hl : lv_has ls 8 [(0, .ref b), (1, .ref q0), (2, .ref m0), (3, .ref o0), (4, .int 0)]) (kk : ∀ (H : Heap) (locs : List Loc) (ls : Array Slot), va_S A s.heap H locs → lv_has ls 8 [(0, .ref b), (4, .int 0)] → W p l e room_1 s m args below meth c H locs 600002 7302232 Q (F0 m 2461 ls [])) : W p l e room_1 s m args below meth c H locs 37 29845 Q (F0 m 1876 ls []) := by
  refine lv_aload_n C.1 C.2.1 dL_law_1876 rfl (lv_at hl 1 rfl) ?_
  refine lv_aload_n C.1 C.2.1 dL_law_1877 rfl (lv_at hl 0 rfl) ?_
  refine lv_iload C.1 C.2.1 dL_law_1878 (lv_at hl 4 rfl) ?_
  refine lv_iconst (v := 1) C.1 C.2.1 dL_law_1880 (by decide) ?_
  refine r_iadd C (v := 1) dL_law_1881 (by decide) ?_
  refine r_sld C w hX hbl hbA (v := y1) (vinD (by decide)) sx1 dL_law_1882 ?_
  refine lv_aload_n C.1 C.2.1 dL_law_1883 rfl (lv_at hl 3 rfl) ?_
  refine r_callH C w fh_RL_216 (c_L_liar_1 l D cy q0 o0 q1 q2 q4 q5 q6 q10 q11 q12 q13 q14 q15 q16 q17 y1 k0 hst) (hl.1.trans hml.symm) [0, 1] [2, 3] (wr := [(m0, .inr (12, [.ref m1, .ref m2, .ref m3, .ref m4, .ref m5, .int 0, .ref m6, .int 0, .int 0, .int 0, .int 0, .int 0, .int 0, .int 0, .int 0, .int 0, .int 0, .int (-1), .ref m7, .ref m8, .int 0, .ref m9, .int 0, .ref m10, .ref m11, .ref m12, .ref m13, .ref m14, .int 0, .ref m15, .ref m16, .ref m17])), (m1, .inl (cy 1, 1868, .inl (upd (upd (upd (fun _ => 0) 1 2) 2 20) 3 120)))]) ⟨rfl, rfl, rfl, rfl, by decide⟩ rfl rfl ⟨Nat.le_of_ble_eq_true rfl, Nat.le_of_ble_eq_true rfl, Nat.le_of_ble_eq_true rfl⟩ 38 29851 ⟨rfl, rfl, Nat.le_of_ble_eq_true rfl, Nat.le_of_ble_eq_true rfl⟩ dL_law_1884 (fun u H locs hp w => ?_)
  have w : Wd D A s.heap [(m0, .inr (12, [.ref m1, .ref m2, .ref m3, .ref m4, .ref m5, .int 0, .ref m6, .int 0, .int 0, .int 0, .int 0, .int 0, .int 0, .int 0, .int 0, .int 0, .int 0, .int (-1), .ref m7, .ref m8, .int 0, .ref m9, .int 0, .ref m10, .ref m11, .ref m12, .ref m13, .ref m14, .int 0, .ref m15, .ref m16, .ref m17])), (m1, .inl (cy 1, 1868, .inl (upd (upd (upd (fun _ => 0) 1 2) 2 20) 3 120)))] _ _ := w.pick [0, 1] rfl rfl
  refine r_top (g2 := F0 m 1887 ls [.int 1]) rfl ?_
  refine lv_istore (lv' := [(5, .int 1), (0, .ref b), (1, .ref q0), (2, .ref m0), (3, .ref o0), (4, .int 0)]) C.1 C.2.1 dL_law_1887 hl (by decide) rfl (fun ls hl => ?_)
  refine lv_aload_n C.1 C.2.1 dL_law_1889 rfl (lv_at hl 3 rfl) ?_
  refine lv_aload_n C.1 C.2.1 dL_law_1890 rfl (lv_at hl 1 rfl) ?_
  refine lv_iload C.1 C.2.1 dL_law_1891 (lv_at hl 5 rfl) ?_
  refine lv_iconst (v := 1) C.1 C.2.1 dL_law_1893 (by decide) ?_
  refine r_iadd C (v := 1) dL_law_1894 (by decide) ?_
  refine r_sld C w hX hbl hbA (v := y1) (vinD (by decide)) sx1 dL_law_1895 ?_
  refine r_callV C w fv_RL_218 (c_X12_liar_1 l D cy m0 m1 m2 m3 m4 m5 m6 m7 m8 m9 m10 m11 m12 m13 m14 m15 m16 m17 y1 k0) (hl.1.trans hml.symm) [0, 1] [] (wr := []) ⟨rfl, rfl, rfl, rfl, by decide⟩ 0 rfl rfl rfl rfl rfl ⟨Nat.le_of_ble_eq_true rfl, Nat.le_of_ble_eq_true rfl, Nat.le_of_ble_eq_true rfl⟩ 38 29851 ⟨rfl, rfl, Nat.le_of_ble_eq_true rfl, Nat.le_of_ble_eq_true rfl⟩ dL_law_1896 (fun u H locs hp w => ?_)
  have w : Wd D A s.heap [(m0, .inr (12, [.ref m1, .ref m2, .ref m3, .ref m4, .ref m5, .int 1, .ref m6, .int 0, .int 0, .int 0, .int 0, .int 0, .int 0, .int 0, .int 0, .int 0, .int 0, .int (-1), .ref m7, .ref m8, .int 0, .ref m9, .int 0, .ref m10, .ref m11, .ref m12, .ref m13, .ref m14, .int 0, .ref m15, .ref m16, .ref m17]))] _ _ := w.pick [0] rfl rfl
  refine r_top (g2 := F0 m 1899 ls [.int 0]) rfl ?_
  refine lv_istore (lv' := [(6, .int 0), (5, .int 1), (0, .ref b), (1, .ref q0), (2, .ref m0), (3, .ref o0), (4, .int 0)]) C.1 C.2.1 dL_law_1899 hl (by decide) rfl (fun ls hl => ?_)
  refine lv_aload_n C.1 C.2.1 dL_law_1901 rfl (lv_at hl 4 rfl) ?_
  refine r_callV C w fv_RL_134 (c_X12_thrown_0 l D cy m0 m1 m2 m3 m4 m5 m6 m7 m8 m9 m10 m11 m12 m13 m14 m15 m16 m17) (hl.1.trans hml.symm) [0] [] (wr := []) ⟨rfl, rfl, rfl, rfl, by decide⟩ 0 rfl rfl rfl rfl rfl ⟨Nat.le_of_ble_eq_true rfl, Nat.le_of_ble_eq_true rfl, Nat.le_of_ble_eq_true rfl⟩ 38 29851 ⟨rfl, rfl, Nat.le_of_ble_eq_true rfl, Nat.le_of_ble_eq_true rfl⟩ dL_law_1902 (fun u H locs hp w => ?_)
  have w : Wd D A s.heap [(m0, .inr (12, [.ref m1, .ref m2, .ref m3, .ref m4, .ref m5, .int 1, .ref m6, .int 0, .int 0, .int 0, .int 0, .int 0, .int 0, .int 0, .int 0, .int 0, .int 0, .int (-1), .ref m7, .ref m8, .int 0, .ref m9, .int 0, .ref m10, .ref m11, .ref m12, .ref m13, .ref m14, .int 0, .ref m15, .ref m16, .ref m17]))] _ _ := w.pick [0] rfl rfl
  refine r_top (g2 := F0 m 1905 ls [.int 1]) rfl ?_
  refine lv_iload C.1 C.2.1 dL_law_1905 (lv_at hl 1 rfl) ?_
  refine b_icmp_eq_t C (tgt := 1912) dL_law_1907 (by decide) (by decide) ?_
  refine lv_iload C.1 C.2.1 dL_law_1912 (lv_at hl 1 rfl) ?_
  refine b_if_ne_t C (tgt := 1929) dL_law_1914 (by decide) (by decide) ?_
  refine lv_goto (tgt := 2461) C.1 C.2.1 dL_law_1929 (by decide) ?_
  refine W.widen (k := 600002) (n := 7302232) (Nat.le_of_ble_eq_true rfl) (Nat.le_of_ble_eq_true rfl) ?_
  exact kk _ _ _ w.2.2 (lv_sub hl [2, 6] rfl)
set_option maxRecDepth 100000 in
set_option maxHeartbeats 4000000 in
theorem t_L_26 {p : Program} {l : Launch} {e : Env} {s : State} {m : MethodId} {args : Array Value} {below : List Frame} {meth : Method} {c : Code} {Q : State → Prop} {D : va_G} {cy : Nat → ClassId} {A : Nat → Prop} {H : Heap} {locs : List Loc} {ls : Array Slot} {xs : Nat → Int32} (b q0 q1 q2 q4 q5 q6 q10 q3 q7 q8 q9 q11 q12 q13 q14 q15 q16 q17 m0 m1 m2 m3 m4 m5 m6 m7 m8 m9 m10 m11 m12 m13 m14 m15 m16 m17 o0 : Nat) (hst : l.stackTraces = false) (C : Cx p s m args c cL_law RL D cy A) (hml : c.maxLocals = 8) (hX : va_X b 6 xs s s.heap) (hbl : b < s.heap.size) (hbA : ¬ A b) (w : Wd D A s.heap [(q0, .inr (11, [.ref q1, .int 0, .int 0, .int (-1), .ref q2, .ref q4, .ref q5, .ref q6, .ref q10, .null])), (q1, .inl (cy 0, 900, .inl (fun _ => 0))), (q2, .inr (5, [.ref q3, .int 0, .int 0, .int 0, .int 0, .int 0, .int 0, .null])), (q3, .inl (cy 0, 0, .inl (fun _ => 0))), (q4, .inl (cy 4, 5, .inr (.inr (.inr (.inr (va_up (fun _ => none) 0 (some q10))))))), (q5, .inl (cy 4, 3, .inr (.inr (.inr (.inr (fun _ => none)))))), (q6, .inr (10, [.ref q7, .ref q8, .ref q9])), (q7, .inl (cy 1, 4, .inl (upd (upd (upd (upd (fun _ => 0) 0 (-1)) 1 (-1)) 2 (-1)) 3 (-1)))), (q8, .inl (cy 1, 4, .inl (fun _ => 0))), (q9, .inl (cy 2, 160, .inr (.inl (fun _ => 0)))), (q10, .inr (9, [.int 0, .int 2, .int 20, .int 120, .int 0, .int 0, .int 0, .int 0, .ref q11, .int 0, .ref q12, .ref q13, .int 0, .ref q14, .ref q15, .ref q16, .ref q17])), (q11, .inl (cy 1, 6, .inl (fun _ => 0))), (q12, .inl (cy 1, 20, .inl (fun _ => 0))), (q13, .inl (cy 1, 20, .inl (fun _ => 0))), (q14, .inl (cy 1, 300, .inl (fun _ => 0))), (q15, .inl (cy 1, 300, .inl (fun _ => 0))), (q16, .inl (cy 1, 300, .inl (fun _ => 0))), (q17, .inl (cy 1, 300, .inl (fun _ => 0))), (m0, .inr (12, [.ref m1, .ref m2, .ref m3, .ref m4, .ref m5, .int 0, .ref m6, .int 0, .int 0, .int 0, .int 0, .int 0, .int 0, .int 0, .int 0, .int 0, .int 0, .int (-1), .ref m7, .ref m8, .int 0, .ref m9, .int 0, .ref m10, .ref m11, .ref m12, .ref m13, .ref m14, .int 0, .ref m15, .ref m16, .ref m17])), (m2, .inl (cy 1, 1868, .inl (fun _ => 0))), (m3, .inl (cy 1, 1868, .inl (fun _ => 0))), (m4, .inl (cy 1, 5604, .inl (fun _ => 0))), (m5, .inl (cy 3, 3, .inl (fun _ => 0))), (m6, .inl (cy 1, 900, .inl (fun _ => 0))), (m7, .inl (cy 1, 1830, .inl (fun _ => 0))), (m8, .inl (cy 1, 1830, .inl (fun _ => 0))), (m9, .inl (cy 2, 2465, .inr (.inl (fun _ => 0)))), (m10, .inl (cy 1, 7201, .inl (fun _ => 0))), (m11, .inl (cy 1, 1830, .inl (fun _ => 0))), (m12, .inl (cy 1, 5, .inl (fun _ => 0))), (m13, .inl (cy 1, 6, .inl (fun _ => 0))), (m14, .inl (cy 1, 6, .inl (fun _ => 0))), (m15, .inl (cy 1, 4, .inl (upd (upd (upd (upd (fun _ => 0) 0 (-1)) 1 (-1)) 2 (-1)) 3 (-1)))), (m16, .inl (cy 1, 4, .inl (fun _ => 0))), (m17, .inl (cy 2, 160, .inr (.inl (fun _ => 0)))), (m1, .inl (cy 1, 1868, .inl (upd (upd (upd (fun _ => 0) 1 2) 2 20) 3 120))), (o0, .inl (cy 2, 1, .inr (.inl (fun _ => 0))))] H locs) (hl : lv_has ls 8 [(0, .ref b), (1, .ref q0), (2, .ref m0), (3, .ref o0), (4, .int 0)]) (kk : ∀ (H : Heap) (locs : List Loc) (ls : Array Slot), va_S A s.heap H locs → lv_has ls 8 [(0, .ref b), (4, .int 0)] → W p l e room_1 s m args below meth c H locs 600002 7302232 Q (F0 m 2461 ls [])) : W p l e room_1 s m args below meth c H locs 37 29845 Q (F0 m 1876 ls []) := by
  obtain ⟨y1, sx1⟩ : ∃ y, xs 1 = y := ⟨_, rfl⟩
  obtain ⟨y2, sx2⟩ : ∃ y, xs 2 = y := ⟨_, rfl⟩
  obtain ⟨y3, sx3⟩ : ∃ y, xs 3 = y := ⟨_, rfl⟩
  obtain ⟨y4, sx4⟩ : ∃ y, xs 4 = y := ⟨_, rfl⟩
  obtain ⟨y5, sx5⟩ : ∃ y, xs 5 = y := ⟨_, rfl⟩
  by_cases g1 : y1 < 0
  · exact s_L_26_0 b q0 q1 q2 q4 q5 q6 q10 m0 m1 m2 m3 m4 m5 m6 m7 m8 m9 m10 m11 m12 m13 m14 m15 m16 m17 o0 y1 g1 sx1 hst C hml hX hbl hbA (w.pick [0, 18, 35] rfl rfl) hl kk
  · exact s_L_26_1 b q0 q1 q2 q4 q5 q6 q10 q11 q12 q13 q14 q15 q16 q17 m0 m1 m2 m3 m4 m5 m6 m7 m8 m9 m10 m11 m12 m13 m14 m15 m16 m17 o0 y1 g1 sx1 hst C hml hX hbl hbA (w.pick [0, 10, 18, 35] rfl rfl) hl kk
theorem dL_law_1932 : decode cL_law 1932 = .ok (.aload_n 1, 1) := by decide +kernel
theorem dL_law_1933 : decode cL_law 1933 = .ok (.invokevirtual 219, 3) := by decide +kernel
theorem fv_RL_219 : FV RL 219 yX11_which cX11_which 3 (some .int) 0 := ⟨⟨gw_mem (by decide +kernel) (by decide +kernel), gw_mem (by decide +kernel) (by decide +kernel), gw_mem (by decide +kernel) (by decide +kernel), gw_mem (by decide +kernel) (by decide +kernel), gw_mem (by decide +kernel) (by decide +kernel)⟩, ⟨by decide +kernel, by decide +kernel, by decide +kernel⟩⟩
theorem dL_law_1936 : decode cL_law 1936 = .ok (.aload_n 2, 1) := by decide +kernel
theorem dL_law_1937 : decode cL_law 1937 = .ok (.invokevirtual 222, 3) := by decide +kernel
theorem fv_RL_222 : FV RL 222 yX12_which cX12_which 3 (some .int) 0 := ⟨⟨gw_mem (by decide +kernel) (by decide +kernel), gw_mem (by decide +kernel) (by decide +kernel), gw_mem (by decide +kernel) (by decide +kernel), gw_mem (by decide +kernel) (by decide +kernel), gw_mem (by decide +kernel) (by decide +kernel)⟩, ⟨by decide +kernel, by decide +kernel, by decide +kernel⟩⟩
theorem dL_law_1940 : decode cL_law 1940 = .ok (.if_icmp .eq 521, 3) := by decide +kernel
set_option maxRecDepth 100000 in
set_option maxHeartbeats 4000000 in
theorem s_L_27_0 {p : Program} {l : Launch} {e : Env} {s : State} {m : MethodId} {args : Array Value} {below : List Frame} {meth : Method} {c : Code} {Q : State → Prop} {D : va_G} {cy : Nat → ClassId} {A : Nat → Prop} {H : Heap} {locs : List Loc} {ls : Array Slot} {xs : Nat → Int32} (b q0 q1 q2 q4 q5 q6 q10 q11 q12 q13 q14 q15 q16 q17 m0 m1 m2 m3 m4 m5 m6 m7 m8 m9 m10 m11 m12 m13 m14 m15 m16 m17 o0 : Nat) (C : Cx p s m args c cL_law RL D cy A) (hml : c.maxLocals = 8) (hX : va_X b 6 xs s s.heap) (hbl : b < s.heap.size) (hbA : ¬ A b) (w : Wd D A s.heap [(q0, .inr (11, [.ref q1, .int 0, .int 0, .int (-1), .ref q2, .ref q4, .ref q5, .ref q6, .ref q10, .null])), (q10, .inr (9, [.int 0, .int 2, .int 20, .int 120, .int 0, .int 0, .int 0, .int 0, .ref q11, .int 0, .ref q12, .ref q13, .int 0, .ref q14, .ref q15, .ref q16, .ref q17])), (m0, .inr (12, [.ref m1, .ref m2, .ref m3, .ref m4, .ref m5, .int 0, .ref m6, .int 0, .int 0, .int 0, .int 0, .int 0, .int 0, .int 0, .int 0, .int 0, .int 0, .int (-1), .ref m7, .ref m8, .int 0, .ref m9, .int 0, .ref m10, .ref m11, .ref m12, .ref m13, .ref m14, .int 0, .ref m15, .ref m16, .ref m17])), (m1, .inl (cy 1, 1868, .inl (upd (upd (upd (fun _ => 0) 1 2) 2 20) 3 120)))] H locs) (hl : lv_has ls 8 [(0, .ref b), (1, .ref q0), (2, .ref m0), (3, .ref o0), (4, .int 0)]) (kk : ∀ (H : Heap) (locs : List Loc) (ls : Array Slot), va_S A s.heap H locs → lv_has ls 8 [(0, .ref b), (4, .int 0)] → W p l e room_1 s m args below meth c H locs 600002 7302232 Q (F0 m 2461 ls [])) : W p l e room_1 s m args below meth c H locs 37 29845 Q (F0 m 1932 ls []) := by
  refine lv_aload_n C.1 C.2.1 dL_law_1932 rfl (lv_at hl 1 rfl) ?_
  refine r_callV C w fv_RL_219 (c_X11_which_0 l D cy q0 q1 q2 q4 q5 q6 q10 q11 q12 q13 q14 q15 q16 q17) (hl.1.trans hml.symm) [0, 1] [2, 3] (wr := [(m0, .inr (12, [.ref m1, .ref m2, .ref m3, .ref m4, .ref m5, .int 0, .ref m6, .int 0, .int 0, .int 0, .int 0, .int 0, .int 0, .int 0, .int 0, .int 0, .int 0, .int (-1), .ref m7, .ref m8, .int 0, .ref m9, .int 0, .ref m10, .ref m11, .ref m12, .ref m13, .ref m14, .int 0, .ref m15, .ref m16, .ref m17])), (m1, .inl (cy 1, 1868, .inl (upd (upd (upd (fun _ => 0) 1 2) 2 20) 3 120)))]) ⟨rfl, rfl, rfl, rfl, by decide⟩ 0 rfl rfl rfl rfl rfl ⟨Nat.le_of_ble_eq_true rfl, Nat.le_of_ble_eq_true rfl, Nat.le_of_ble_eq_true rfl⟩ 37 29845 ⟨rfl, rfl, Nat.le_of_ble_eq_true rfl, Nat.le_of_ble_eq_true rfl⟩ dL_law_1933 (fun u H locs hp w => ?_)
  have w : Wd D A s.heap [(m0, .inr (12, [.ref m1, .ref m2, .ref m3, .ref m4, .ref m5, .int 0, .ref m6, .int 0, .int 0, .int 0, .int 0, .int 0, .int 0, .int 0, .int 0, .int 0, .int 0, .int (-1), .ref m7, .ref m8, .int 0, .ref m9, .int 0, .ref m10, .ref m11, .ref m12, .ref m13, .ref m14, .int 0, .ref m15, .ref m16, .ref m17])), (m1, .inl (cy 1, 1868, .inl (upd (upd (upd (fun _ => 0) 1 2) 2 20) 3 120)))] _ _ := w.pick [0, 1] rfl rfl
  refine r_top (g2 := F0 m 1936 ls [.int 0]) rfl ?_
  refine lv_aload_n C.1 C.2.1 dL_law_1936 rfl (lv_at hl 2 rfl) ?_
  refine r_callV C w fv_RL_222 (c_X12_which_0 l D cy m0 m1 m2 m3 m4 m5 m6 m7 m8 m9 m10 m11 m12 m13 m14 m15 m16 m17) (hl.1.trans hml.symm) [0, 1] [] (wr := []) ⟨rfl, rfl, rfl, rfl, by decide⟩ 0 rfl rfl rfl rfl rfl ⟨Nat.le_of_ble_eq_true rfl, Nat.le_of_ble_eq_true rfl, Nat.le_of_ble_eq_true rfl⟩ 37 29845 ⟨rfl, rfl, Nat.le_of_ble_eq_true rfl, Nat.le_of_ble_eq_true rfl⟩ dL_law_1937 (fun u H locs hp w => ?_)
  have w : Wd D A s.heap [(m0, .inr (12, [.ref m1, .ref m2, .ref m3, .ref m4, .ref m5, .int 0, .ref m6, .int 0, .int 0, .int 0, .int 0, .int 0, .int 0, .int 0, .int 0, .int 0, .int 0, .int (-1), .ref m7, .ref m8, .int 0, .ref m9, .int 0, .ref m10, .ref m11, .ref m12, .ref m13, .ref m14, .int 0, .ref m15, .ref m16, .ref m17]))] _ _ := w.pick [0] rfl rfl
  refine r_top (g2 := F0 m 1940 ls [.int 0, .int 0]) rfl ?_
  refine b_icmp_eq_t C (tgt := 2461) dL_law_1940 (by decide) (by decide) ?_
  refine W.widen (k := 600002) (n := 7302232) (Nat.le_of_ble_eq_true rfl) (Nat.le_of_ble_eq_true rfl) ?_
  exact kk _ _ _ w.2.2 (lv_sub hl [0, 4] rfl)
set_option maxRecDepth 100000 in
set_option maxHeartbeats 4000000 in
theorem t_L_27 {p : Program} {l : Launch} {e : Env} {s : State} {m : MethodId} {args : Array Value} {below : List Frame} {meth : Method} {c : Code} {Q : State → Prop} {D : va_G} {cy : Nat → ClassId} {A : Nat → Prop} {H : Heap} {locs : List Loc} {ls : Array Slot} {xs : Nat → Int32} (b q0 q1 q2 q4 q5 q6 q10 q3 q7 q8 q9 q11 q12 q13 q14 q15 q16 q17 m0 m1 m2 m3 m4 m5 m6 m7 m8 m9 m10 m11 m12 m13 m14 m15 m16 m17 o0 : Nat) (hst : l.stackTraces = false) (C : Cx p s m args c cL_law RL D cy A) (hml : c.maxLocals = 8) (hX : va_X b 6 xs s s.heap) (hbl : b < s.heap.size) (hbA : ¬ A b) (w : Wd D A s.heap [(q0, .inr (11, [.ref q1, .int 0, .int 0, .int (-1), .ref q2, .ref q4, .ref q5, .ref q6, .ref q10, .null])), (q1, .inl (cy 0, 900, .inl (fun _ => 0))), (q2, .inr (5, [.ref q3, .int 0, .int 0, .int 0, .int 0, .int 0, .int 0, .null])), (q3, .inl (cy 0, 0, .inl (fun _ => 0))), (q4, .inl (cy 4, 5, .inr (.inr (.inr (.inr (va_up (fun _ => none) 0 (some q10))))))), (q5, .inl (cy 4, 3, .inr (.inr (.inr (.inr (fun _ => none)))))), (q6, .inr (10, [.ref q7, .ref q8, .ref q9])), (q7, .inl (cy 1, 4, .inl (upd (upd (upd (upd (fun _ => 0) 0 (-1)) 1 (-1)) 2 (-1)) 3 (-1)))), (q8, .inl (cy 1, 4, .inl (fun _ => 0))), (q9, .inl (cy 2, 160, .inr (.inl (fun _ => 0)))), (q10, .inr (9, [.int 0, .int 2, .int 20, .int 120, .int 0, .int 0, .int 0, .int 0, .ref q11, .int 0, .ref q12, .ref q13, .int 0, .ref q14, .ref q15, .ref q16, .ref q17])), (q11, .inl (cy 1, 6, .inl (fun _ => 0))), (q12, .inl (cy 1, 20, .inl (fun _ => 0))), (q13, .inl (cy 1, 20, .inl (fun _ => 0))), (q14, .inl (cy 1, 300, .inl (fun _ => 0))), (q15, .inl (cy 1, 300, .inl (fun _ => 0))), (q16, .inl (cy 1, 300, .inl (fun _ => 0))), (q17, .inl (cy 1, 300, .inl (fun _ => 0))), (m0, .inr (12, [.ref m1, .ref m2, .ref m3, .ref m4, .ref m5, .int 0, .ref m6, .int 0, .int 0, .int 0, .int 0, .int 0, .int 0, .int 0, .int 0, .int 0, .int 0, .int (-1), .ref m7, .ref m8, .int 0, .ref m9, .int 0, .ref m10, .ref m11, .ref m12, .ref m13, .ref m14, .int 0, .ref m15, .ref m16, .ref m17])), (m2, .inl (cy 1, 1868, .inl (fun _ => 0))), (m3, .inl (cy 1, 1868, .inl (fun _ => 0))), (m4, .inl (cy 1, 5604, .inl (fun _ => 0))), (m5, .inl (cy 3, 3, .inl (fun _ => 0))), (m6, .inl (cy 1, 900, .inl (fun _ => 0))), (m7, .inl (cy 1, 1830, .inl (fun _ => 0))), (m8, .inl (cy 1, 1830, .inl (fun _ => 0))), (m9, .inl (cy 2, 2465, .inr (.inl (fun _ => 0)))), (m10, .inl (cy 1, 7201, .inl (fun _ => 0))), (m11, .inl (cy 1, 1830, .inl (fun _ => 0))), (m12, .inl (cy 1, 5, .inl (fun _ => 0))), (m13, .inl (cy 1, 6, .inl (fun _ => 0))), (m14, .inl (cy 1, 6, .inl (fun _ => 0))), (m15, .inl (cy 1, 4, .inl (upd (upd (upd (upd (fun _ => 0) 0 (-1)) 1 (-1)) 2 (-1)) 3 (-1)))), (m16, .inl (cy 1, 4, .inl (fun _ => 0))), (m17, .inl (cy 2, 160, .inr (.inl (fun _ => 0)))), (m1, .inl (cy 1, 1868, .inl (upd (upd (upd (fun _ => 0) 1 2) 2 20) 3 120))), (o0, .inl (cy 2, 1, .inr (.inl (fun _ => 0))))] H locs) (hl : lv_has ls 8 [(0, .ref b), (1, .ref q0), (2, .ref m0), (3, .ref o0), (4, .int 0)]) (kk : ∀ (H : Heap) (locs : List Loc) (ls : Array Slot), va_S A s.heap H locs → lv_has ls 8 [(0, .ref b), (4, .int 0)] → W p l e room_1 s m args below meth c H locs 600002 7302232 Q (F0 m 2461 ls [])) : W p l e room_1 s m args below meth c H locs 37 29845 Q (F0 m 1932 ls []) := by
  obtain ⟨y1, sx1⟩ : ∃ y, xs 1 = y := ⟨_, rfl⟩
  obtain ⟨y2, sx2⟩ : ∃ y, xs 2 = y := ⟨_, rfl⟩
  obtain ⟨y3, sx3⟩ : ∃ y, xs 3 = y := ⟨_, rfl⟩
  obtain ⟨y4, sx4⟩ : ∃ y, xs 4 = y := ⟨_, rfl⟩
  obtain ⟨y5, sx5⟩ : ∃ y, xs 5 = y := ⟨_, rfl⟩
  exact s_L_27_0 b q0 q1 q2 q4 q5 q6 q10 q11 q12 q13 q14 q15 q16 q17 m0 m1 m2 m3 m4 m5 m6 m7 m8 m9 m10 m11 m12 m13 m14 m15 m16 m17 o0 C hml hX hbl hbA (w.pick [0, 10, 18, 35] rfl rfl) hl kk
theorem dL_law_1945 : decode cL_law 1945 = .ok (.aload_n 1, 1) := by decide +kernel
theorem dL_law_1946 : decode cL_law 1946 = .ok (.aload_n 0, 1) := by decide +kernel
theorem dL_law_1947 : decode cL_law 1947 = .ok (.iload 4, 2) := by decide +kernel
theorem dL_law_1949 : decode cL_law 1949 = .ok (.iconst 1, 1) := by decide +kernel
theorem dL_law_1950 : decode cL_law 1950 = .ok (.iadd, 1) := by decide +kernel
theorem dL_law_1951 : decode cL_law 1951 = .ok (.iaload, 1) := by decide +kernel
theorem dL_law_1952 : decode cL_law 1952 = .ok (.aload_n 0, 1) := by decide +kernel
theorem dL_law_1953 : decode cL_law 1953 = .ok (.iload 4, 2) := by decide +kernel
theorem dL_law_1955 : decode cL_law 1955 = .ok (.iconst 2, 1) := by decide +kernel
theorem dL_law_1956 : decode cL_law 1956 = .ok (.iadd, 1) := by decide +kernel
theorem dL_law_1957 : decode cL_law 1957 = .ok (.iaload, 1) := by decide +kernel
theorem dL_law_1958 : decode cL_law 1958 = .ok (.aload_n 3, 1) := by decide +kernel
theorem dL_law_1959 : decode cL_law 1959 = .ok (.invokestatic 223, 3) := by decide +kernel
theorem fh_RL_223 : FH RL 223 yL_orders cL_orders 5 (some .int) [(0, 10, 13, 19)] 4 := ⟨⟨gw_mem (by decide +kernel) (by decide +kernel), gw_mem (by decide +kernel) (by decide +kernel), gw_mem (by decide +kernel) (by decide +kernel), gw_mem (by decide +kernel) (by decide +kernel)⟩, ⟨by decide +kernel, by decide +kernel, by decide +kernel⟩⟩
theorem dL_law_1962 : decode cL_law 1962 = .ok (.istore 5, 2) := by decide +kernel
theorem dL_law_1964 : decode cL_law 1964 = .ok (.aload_n 2, 1) := by decide +kernel
theorem dL_law_1965 : decode cL_law 1965 = .ok (.aload_n 0, 1) := by decide +kernel
theorem dL_law_1966 : decode cL_law 1966 = .ok (.iload 4, 2) := by decide +kernel
theorem dL_law_1968 : decode cL_law 1968 = .ok (.iconst 1, 1) := by decide +kernel
theorem dL_law_1969 : decode cL_law 1969 = .ok (.iadd, 1) := by decide +kernel
theorem dL_law_1970 : decode cL_law 1970 = .ok (.iaload, 1) := by decide +kernel
theorem dL_law_1971 : decode cL_law 1971 = .ok (.aload_n 0, 1) := by decide +kernel
theorem dL_law_1972 : decode cL_law 1972 = .ok (.iload 4, 2) := by decide +kernel
theorem dL_law_1974 : decode cL_law 1974 = .ok (.iconst 2, 1) := by decide +kernel
theorem dL_law_1975 : decode cL_law 1975 = .ok (.iadd, 1) := by decide +kernel
theorem dL_law_1976 : decode cL_law 1976 = .ok (.iaload, 1) := by decide +kernel
theorem dL_law_1977 : decode cL_law 1977 = .ok (.invokevirtual 225, 3) := by decide +kernel
theorem fv_RL_225 : FV RL 225 yX12_orders cX12_orders 3 (some .int) 2 := ⟨⟨gw_mem (by decide +kernel) (by decide +kernel), gw_mem (by decide +kernel) (by decide +kernel), gw_mem (by decide +kernel) (by decide +kernel), gw_mem (by decide +kernel) (by decide +kernel), gw_mem (by decide +kernel) (by decide +kernel)⟩, ⟨by decide +kernel, by decide +kernel, by decide +kernel⟩⟩
theorem dL_law_1980 : decode cL_law 1980 = .ok (.istore 6, 2) := by decide +kernel
theorem dL_law_1982 : decode cL_law 1982 = .ok (.aload_n 2, 1) := by decide +kernel
theorem dL_law_1983 : decode cL_law 1983 = .ok (.invokevirtual 134, 3) := by decide +kernel
theorem dL_law_1986 : decode cL_law 1986 = .ok (.iload 5, 2) := by decide +kernel
theorem dL_law_1988 : decode cL_law 1988 = .ok (.if_icmp .eq 5, 3) := by decide +kernel
theorem dL_law_1993 : decode cL_law 1993 = .ok (.iload 5, 2) := by decide +kernel
theorem dL_law_1995 : decode cL_law 1995 = .ok (.ifCond .ne 15, 3) := by decide +kernel
theorem dL_law_2010 : decode cL_law 2010 = .ok (.goto 451, 3) := by decide +kernel
set_option maxRecDepth 100000 in
set_option maxHeartbeats 4000000 in
theorem s_L_28_0 {p : Program} {l : Launch} {e : Env} {s : State} {m : MethodId} {args : Array Value} {below : List Frame} {meth : Method} {c : Code} {Q : State → Prop} {D : va_G} {cy : Nat → ClassId} {A : Nat → Prop} {H : Heap} {locs : List Loc} {ls : Array Slot} {xs : Nat → Int32} (b q0 q1 q2 q4 q5 q6 q10 m0 m1 m2 m3 m4 m5 m6 m7 m8 m9 m10 m11 m12 m13 m14 m15 m16 m17 o0 : Nat) (y1 : Int32) (y2 : Int32) (k0 : y1 < 0) (sx1 : xs 1 = y1) (sx2 : xs 2 = y2) (hst : l.stackTraces = false) (C : Cx p s m args c cL_law RL D cy A) (hml : c.maxLocals = 8) (hX : va_X b 6 xs s s.heap) (hbl : b < s.heap.size) (hbA : ¬ A b) (w : Wd D A s.heap [(q0, .inr (11, [.ref q1, .int 0, .int 0, .int (-1), .ref q2, .ref q4, .ref q5, .ref q6, .ref q10, .null])), (m0, .inr (12, [.ref m1, .ref m2, .ref m3, .ref m4, .ref m5, .int 0, .ref m6, .int 0, .int 0, .int 0, .int 0, .int 0, .int 0, .int 0, .int 0, .int 0, .int 0, .int (-1), .ref m7, .ref m8, .int 0, .ref m9, .int 0, .ref m10, .ref m11, .ref m12, .ref m13, .ref m14, .int 0, .ref m15, .ref m16, .ref m17])), (m7, .inl (cy 1, 1830, .inl (fun _ => 0))), (m8, .inl (cy 1, 1830, .inl (fun _ => 0))), (m1, .inl (cy 1, 1868, .inl (upd (upd (upd (fun _ => 0) 1 2) 2 20) 3 120)))] H locs) (hl : lv_has ls 8 [(0, .ref b), (1, .ref q0), (2, .ref m0), (3, .ref o0), (4, .int 0)]) (kk : ∀ (H : Heap) (locs : List Loc) (ls : Array Slot), va_S A s.heap H locs → lv_has ls 8 [(0, .ref b), (4, .int 0)] → W p l e room_1 s m args below meth c H locs 600002 7302232 Q (F0 m 2461 ls [])) : W p l e room_1 s m args below meth c H locs 37 29845 Q (F0 m 1945 ls []) := by
  refine lv_aload_n C.1 C.2.1 dL_law_1945 rfl (lv_at hl 1 rfl) ?_
  refine lv_aload_n C.1 C.2.1 dL_law_1946 rfl (lv_at hl 0 rfl) ?_
  refine lv_iload C.1 C.2.1 dL_law_1947 (lv_at hl 4 rfl) ?_
  refine lv_iconst (v := 1) C.1 C.2.1 dL_law_1949 (by decide) ?_
  refine r_iadd C (v := 1) dL_law_1950 (by decide) ?_
  refine r_sld C w hX hbl hbA (v := y1) (vinD (by decide)) sx1 dL_law_1951 ?_
  refine lv_aload_n C.1 C.2.1 dL_law_1952 rfl (lv_at hl 0 rfl) ?_
  refine lv_iload C.1 C.2.1 dL_law_1953 (lv_at hl 4 rfl) ?_
  refine lv_iconst (v := 2) C.1 C.2.1 dL_law_1955 (by decide) ?_
  refine r_iadd C (v := 2) dL_law_1956 (by decide) ?_
  refine r_sld C w hX hbl hbA (v := y2) (vinD (by decide)) sx2 dL_law_1957 ?_
  refine lv_aload_n C.1 C.2.1 dL_law_1958 rfl (lv_at hl 3 rfl) ?_
  refine r_callH C w fh_RL_223 (c_L_orders_0 l D cy q0 o0 q1 q2 q4 q5 q6 q10 y1 y2 k0 hst) (hl.1.trans hml.symm) [0] [1, 2, 3, 4] (wr := [(m0, .inr (12, [.ref m1, .ref m2, .ref m3, .ref m4, .ref m5, .int 0, .ref m6, .int 0, .int 0, .int 0, .int 0, .int 0, .int 0, .int 0, .int 0, .int 0, .int 0, .int (-1), .ref m7, .ref m8, .int 0, .ref m9, .int 0, .ref m10, .ref m11, .ref m12, .ref m13, .ref m14, .int 0, .ref m15, .ref m16, .ref m17])), (m7, .inl (cy 1, 1830, .inl (fun _ => 0))), (m8, .inl (cy 1, 1830, .inl (fun _ => 0))), (m1, .inl (cy 1, 1868, .inl (upd (upd (upd (fun _ => 0) 1 2) 2 20) 3 120)))]) ⟨rfl, rfl, rfl, rfl, by decide⟩ rfl rfl ⟨Nat.le_of_ble_eq_true rfl, Nat.le_of_ble_eq_true rfl, Nat.le_of_ble_eq_true rfl⟩ 38 29851 ⟨rfl, rfl, Nat.le_of_ble_eq_true rfl, Nat.le_of_ble_eq_true rfl⟩ dL_law_1959 (fun u H locs hp w => ?_)
  have w : Wd D A s.heap [(m0, .inr (12, [.ref m1, .ref m2, .ref m3, .ref m4, .ref m5, .int 0, .ref m6, .int 0, .int 0, .int 0, .int 0, .int 0, .int 0, .int 0, .int 0, .int 0, .int 0, .int (-1), .ref m7, .ref m8, .int 0, .ref m9, .int 0, .ref m10, .ref m11, .ref m12, .ref m13, .ref m14, .int 0, .ref m15, .ref m16, .ref m17])), (m7, .inl (cy 1, 1830, .inl (fun _ => 0))), (m8, .inl (cy 1, 1830, .inl (fun _ => 0))), (m1, .inl (cy 1, 1868, .inl (upd (upd (upd (fun _ => 0) 1 2) 2 20) 3 120)))] _ _ := w.pick [0, 1, 2, 3] rfl rfl
  refine r_top (g2 := F0 m 1962 ls [.int 1]) rfl ?_
  refine lv_istore (lv' := [(5, .int 1), (0, .ref b), (1, .ref q0), (2, .ref m0), (3, .ref o0), (4, .int 0)]) C.1 C.2.1 dL_law_1962 hl (by decide) rfl (fun ls hl => ?_)
  refine lv_aload_n C.1 C.2.1 dL_law_1964 rfl (lv_at hl 3 rfl) ?_
  refine lv_aload_n C.1 C.2.1 dL_law_1965 rfl (lv_at hl 1 rfl) ?_
  refine lv_iload C.1 C.2.1 dL_law_1966 (lv_at hl 5 rfl) ?_
  refine lv_iconst (v := 1) C.1 C.2.1 dL_law_1968 (by decide) ?_
  refine r_iadd C (v := 1) dL_law_1969 (by decide) ?_
  refine r_sld C w hX hbl hbA (v := y1) (vinD (by decide)) sx1 dL_law_1970 ?_
  refine lv_aload_n C.1 C.2.1 dL_law_1971 rfl (lv_at hl 1 rfl) ?_
  refine lv_iload C.1 C.2.1 dL_law_1972 (lv_at hl 5 rfl) ?_
  refine lv_iconst (v := 2) C.1 C.2.1 dL_law_1974 (by decide) ?_
  refine r_iadd C (v := 2) dL_law_1975 (by decide) ?_
  refine r_sld C w hX hbl hbA (v := y2) (vinD (by decide)) sx2 dL_law_1976 ?_
  refine r_callV C w fv_RL_225 (c_X12_orders_0 l D cy m0 m1 m2 m3 m4 m5 m6 m7 m8 m9 m10 m11 m12 m13 m14 m15 m16 m17 y1 y2 k0) (hl.1.trans hml.symm) [0, 3, 1, 2] [] (wr := []) ⟨rfl, rfl, rfl, rfl, by decide⟩ 0 rfl rfl rfl rfl rfl ⟨Nat.le_of_ble_eq_true rfl, Nat.le_of_ble_eq_true rfl, Nat.le_of_ble_eq_true rfl⟩ 38 29851 ⟨rfl, rfl, Nat.le_of_ble_eq_true rfl, Nat.le_of_ble_eq_true rfl⟩ dL_law_1977 (fun u H locs hp w => ?_)
  have w : Wd D A s.heap [(m0, .inr (12, [.ref m1, .ref m2, .ref m3, .ref m4, .ref m5, .int 1, .ref m6, .int 0, .int 0, .int 0, .int 0, .int 0, .int 0, .int 0, .int 0, .int 0, .int 0, .int (-1), .ref m7, .ref m8, .int 190, .ref m9, .int 0, .ref m10, .ref m11, .ref m12, .ref m13, .ref m14, .int 0, .ref m15, .ref m16, .ref m17]))] _ _ := w.pick [3] rfl rfl
  refine r_top (g2 := F0 m 1980 ls [.int 0]) rfl ?_
  refine lv_istore (lv' := [(6, .int 0), (5, .int 1), (0, .ref b), (1, .ref q0), (2, .ref m0), (3, .ref o0), (4, .int 0)]) C.1 C.2.1 dL_law_1980 hl (by decide) rfl (fun ls hl => ?_)
  refine lv_aload_n C.1 C.2.1 dL_law_1982 rfl (lv_at hl 4 rfl) ?_
  refine r_callV C w fv_RL_134 (c_X12_thrown_2 l D cy m0 m1 m2 m3 m4 m5 m6 m7 m8 m9 m10 m11 m12 m13 m14 m15 m16 m17) (hl.1.trans hml.symm) [0] [] (wr := []) ⟨rfl, rfl, rfl, rfl, by decide⟩ 0 rfl rfl rfl rfl rfl ⟨Nat.le_of_ble_eq_true rfl, Nat.le_of_ble_eq_true rfl, Nat.le_of_ble_eq_true rfl⟩ 38 29851 ⟨rfl, rfl, Nat.le_of_ble_eq_true rfl, Nat.le_of_ble_eq_true rfl⟩ dL_law_1983 (fun u H locs hp w => ?_)
  have w : Wd D A s.heap [(m0, .inr (12, [.ref m1, .ref m2, .ref m3, .ref m4, .ref m5, .int 1, .ref m6, .int 0, .int 0, .int 0, .int 0, .int 0, .int 0, .int 0, .int 0, .int 0, .int 0, .int (-1), .ref m7, .ref m8, .int 190, .ref m9, .int 0, .ref m10, .ref m11, .ref m12, .ref m13, .ref m14, .int 0, .ref m15, .ref m16, .ref m17]))] _ _ := w.pick [0] rfl rfl
  refine r_top (g2 := F0 m 1986 ls [.int 1]) rfl ?_
  refine lv_iload C.1 C.2.1 dL_law_1986 (lv_at hl 1 rfl) ?_
  refine b_icmp_eq_t C (tgt := 1993) dL_law_1988 (by decide) (by decide) ?_
  refine lv_iload C.1 C.2.1 dL_law_1993 (lv_at hl 1 rfl) ?_
  refine b_if_ne_t C (tgt := 2010) dL_law_1995 (by decide) (by decide) ?_
  refine lv_goto (tgt := 2461) C.1 C.2.1 dL_law_2010 (by decide) ?_
  refine W.widen (k := 600002) (n := 7302232) (Nat.le_of_ble_eq_true rfl) (Nat.le_of_ble_eq_true rfl) ?_
  exact kk _ _ _ w.2.2 (lv_sub hl [2, 6] rfl)
set_option maxRecDepth 100000 in
set_option maxHeartbeats 4000000 in
theorem s_L_28_1 {p : Program} {l : Launch} {e : Env} {s : State} {m : MethodId} {args : Array Value} {below : List Frame} {meth : Method} {c : Code} {Q : State → Prop} {D : va_G} {cy : Nat → ClassId} {A : Nat → Prop} {H : Heap} {locs : List Loc} {ls : Array Slot} {xs : Nat → Int32} (b q0 q1 q2 q4 q5 q6 q10 q11 q12 q13 q14 q15 q16 q17 m0 m1 m2 m3 m4 m5 m6 m7 m8 m9 m10 m11 m12 m13 m14 m15 m16 m17 o0 : Nat) (y1 : Int32) (y2 : Int32) (k0 : ¬ y1 < 0) (k1 : ¬ y1 < 190) (sx1 : xs 1 = y1) (sx2 : xs 2 = y2) (hst : l.stackTraces = false) (C : Cx p s m args c cL_law RL D cy A) (hml : c.maxLocals = 8) (hX : va_X b 6 xs s s.heap) (hbl : b < s.heap.size) (hbA : ¬ A b) (w : Wd D A s.heap [(q0, .inr (11, [.ref q1, .int 0, .int 0, .int (-1), .ref q2, .ref q4, .ref q5, .ref q6, .ref q10, .null])), (q10, .inr (9, [.int 0, .int 2, .int 20, .int 120, .int 0, .int 0, .int 0, .int 0, .ref q11, .int 0, .ref q12, .ref q13, .int 0, .ref q14, .ref q15, .ref q16, .ref q17])), (m0, .inr (12, [.ref m1, .ref m2, .ref m3, .ref m4, .ref m5, .int 0, .ref m6, .int 0, .int 0, .int 0, .int 0, .int 0, .int 0, .int 0, .int 0, .int 0, .int 0, .int (-1), .ref m7, .ref m8, .int 0, .ref m9, .int 0, .ref m10, .ref m11, .ref m12, .ref m13, .ref m14, .int 0, .ref m15, .ref m16, .ref m17])), (m7, .inl (cy 1, 1830, .inl (fun _ => 0))), (m8, .inl (cy 1, 1830, .inl (fun _ => 0))), (m1, .inl (cy 1, 1868, .inl (upd (upd (upd (fun _ => 0) 1 2) 2 20) 3 120)))] H locs) (hl : lv_has ls 8 [(0, .ref b), (1, .ref q0), (2, .ref m0), (3, .ref o0), (4, .int 0)]) (kk : ∀ (H : Heap) (locs : List Loc) (ls : Array Slot), va_S A s.heap H locs → lv_has ls 8 [(0, .ref b), (4, .int 0)] → W p l e room_1 s m args below meth c H locs 600002 7302232 Q (F0 m 2461 ls [])) : W p l e room_1 s m args below meth c H locs 37 29845 Q (F0 m 1945 ls []) := by
  refine lv_aload_n C.1 C.2.1 dL_law_1945 rfl (lv_at hl 1 rfl) ?_
  refine lv_aload_n C.1 C.2.1 dL_law_1946 rfl (lv_at hl 0 rfl) ?_
  refine lv_iload C.1 C.2.1 dL_law_1947 (lv_at hl 4 rfl) ?_
  refine lv_iconst (v := 1) C.1 C.2.1 dL_law_1949 (by decide) ?_
  refine r_iadd C (v := 1) dL_law_1950 (by decide) ?_
  refine r_sld C w hX hbl hbA (v := y1) (vinD (by decide)) sx1 dL_law_1951 ?_
  refine lv_aload_n C.1 C.2.1 dL_law_1952 rfl (lv_at hl 0 rfl) ?_
  refine lv_iload C.1 C.2.1 dL_law_1953 (lv_at hl 4 rfl) ?_
  refine lv_iconst (v := 2) C.1 C.2.1 dL_law_1955 (by decide) ?_
  refine r_iadd C (v := 2) dL_law_1956 (by decide) ?_
  refine r_sld C w hX hbl hbA (v := y2) (vinD (by decide)) sx2 dL_law_1957 ?_
  refine lv_aload_n C.1 C.2.1 dL_law_1958 rfl (lv_at hl 3 rfl) ?_
  refine r_callH C w fh_RL_223 (c_L_orders_1 l D cy q0 o0 q1 q2 q4 q5 q6 q10 q11 q12 q13 q14 q15 q16 q17 y1 y2 k0 k1 hst) (hl.1.trans hml.symm) [0, 1] [2, 3, 4, 5] (wr := [(m0, .inr (12, [.ref m1, .ref m2, .ref m3, .ref m4, .ref m5, .int 0, .ref m6, .int 0, .int 0, .int 0, .int 0, .int 0, .int 0, .int 0, .int 0, .int 0, .int 0, .int (-1), .ref m7, .ref m8, .int 0, .ref m9, .int 0, .ref m10, .ref m11, .ref m12, .ref m13, .ref m14, .int 0, .ref m15, .ref m16, .ref m17])), (m7, .inl (cy 1, 1830, .inl (fun _ => 0))), (m8, .inl (cy 1, 1830, .inl (fun _ => 0))), (m1, .inl (cy 1, 1868, .inl (upd (upd (upd (fun _ => 0) 1 2) 2 20) 3 120)))]) ⟨rfl, rfl, rfl, rfl, by decide⟩ rfl rfl ⟨Nat.le_of_ble_eq_true rfl, Nat.le_of_ble_eq_true rfl, Nat.le_of_ble_eq_true rfl⟩ 74 53668 ⟨rfl, rfl, Nat.le_of_ble_eq_true rfl, Nat.le_of_ble_eq_true rfl⟩ dL_law_1959 (fun u H locs hp w => ?_)
  have w : Wd D A s.heap [(m0, .inr (12, [.ref m1, .ref m2, .ref m3, .ref m4, .ref m5, .int 0, .ref m6, .int 0, .int 0, .int 0, .int 0, .int 0, .int 0, .int 0, .int 0, .int 0, .int 0, .int (-1), .ref m7, .ref m8, .int 0, .ref m9, .int 0, .ref m10, .ref m11, .ref m12, .ref m13, .ref m14, .int 0, .ref m15, .ref m16, .ref m17])), (m7, .inl (cy 1, 1830, .inl (fun _ => 0))), (m8, .inl (cy 1, 1830, .inl (fun _ => 0))), (m1, .inl (cy 1, 1868, .inl (upd (upd (upd (fun _ => 0) 1 2) 2 20) 3 120)))] _ _ := w.pick [0, 1, 2, 3] rfl rfl
  refine r_top (g2 := F0 m 1962 ls [.int 1]) rfl ?_
  refine lv_istore (lv' := [(5, .int 1), (0, .ref b), (1, .ref q0), (2, .ref m0), (3, .ref o0), (4, .int 0)]) C.1 C.2.1 dL_law_1962 hl (by decide) rfl (fun ls hl => ?_)
  refine lv_aload_n C.1 C.2.1 dL_law_1964 rfl (lv_at hl 3 rfl) ?_
  refine lv_aload_n C.1 C.2.1 dL_law_1965 rfl (lv_at hl 1 rfl) ?_
  refine lv_iload C.1 C.2.1 dL_law_1966 (lv_at hl 5 rfl) ?_
  refine lv_iconst (v := 1) C.1 C.2.1 dL_law_1968 (by decide) ?_
  refine r_iadd C (v := 1) dL_law_1969 (by decide) ?_
  refine r_sld C w hX hbl hbA (v := y1) (vinD (by decide)) sx1 dL_law_1970 ?_
  refine lv_aload_n C.1 C.2.1 dL_law_1971 rfl (lv_at hl 1 rfl) ?_
  refine lv_iload C.1 C.2.1 dL_law_1972 (lv_at hl 5 rfl) ?_
  refine lv_iconst (v := 2) C.1 C.2.1 dL_law_1974 (by decide) ?_
  refine r_iadd C (v := 2) dL_law_1975 (by decide) ?_
  refine r_sld C w hX hbl hbA (v := y2) (vinD (by decide)) sx2 dL_law_1976 ?_
  refine r_callV C w fv_RL_225 (c_X12_orders_1 l D cy m0 m1 m2 m3 m4 m5 m6 m7 m8 m9 m10 m11 m12 m13 m14 m15 m16 m17 y1 y2 k0 (by have h0 := (i_nlt k0); have h1 := (i_nlt k1); have e0 : (0 : Int32).toInt = 0 := (by decide); have e1 : (189 : Int32).toInt = 189 := (by decide); have e2 : (190 : Int32).toInt = 190 := (by decide); rw [fa_lt]; omega)) (hl.1.trans hml.symm) [0, 3, 1, 2] [] (wr := []) ⟨rfl, rfl, rfl, rfl, by decide⟩ 0 rfl rfl rfl rfl rfl ⟨Nat.le_of_ble_eq_true rfl, Nat.le_of_ble_eq_true rfl, Nat.le_of_ble_eq_true rfl⟩ 74 53668 ⟨rfl, rfl, Nat.le_of_ble_eq_true rfl, Nat.le_of_ble_eq_true rfl⟩ dL_law_1977 (fun u H locs hp w => ?_)
  have w : Wd D A s.heap [(m0, .inr (12, [.ref m1, .ref m2, .ref m3, .ref m4, .ref m5, .int 1, .ref m6, .int 0, .int 0, .int 0, .int 0, .int 0, .int 0, .int 0, .int 0, .int 0, .int 0, .int (-1), .ref m7, .ref m8, .int 190, .ref m9, .int 0, .ref m10, .ref m11, .ref m12, .ref m13, .ref m14, .int 0, .ref m15, .ref m16, .ref m17]))] _ _ := w.pick [3] rfl rfl
  refine r_top (g2 := F0 m 1980 ls [.int 0]) rfl ?_
  refine lv_istore (lv' := [(6, .int 0), (5, .int 1), (0, .ref b), (1, .ref q0), (2, .ref m0), (3, .ref o0), (4, .int 0)]) C.1 C.2.1 dL_law_1980 hl (by decide) rfl (fun ls hl => ?_)
  refine lv_aload_n C.1 C.2.1 dL_law_1982 rfl (lv_at hl 4 rfl) ?_
  refine r_callV C w fv_RL_134 (c_X12_thrown_2 l D cy m0 m1 m2 m3 m4 m5 m6 m7 m8 m9 m10 m11 m12 m13 m14 m15 m16 m17) (hl.1.trans hml.symm) [0] [] (wr := []) ⟨rfl, rfl, rfl, rfl, by decide⟩ 0 rfl rfl rfl rfl rfl ⟨Nat.le_of_ble_eq_true rfl, Nat.le_of_ble_eq_true rfl, Nat.le_of_ble_eq_true rfl⟩ 74 53668 ⟨rfl, rfl, Nat.le_of_ble_eq_true rfl, Nat.le_of_ble_eq_true rfl⟩ dL_law_1983 (fun u H locs hp w => ?_)
  have w : Wd D A s.heap [(m0, .inr (12, [.ref m1, .ref m2, .ref m3, .ref m4, .ref m5, .int 1, .ref m6, .int 0, .int 0, .int 0, .int 0, .int 0, .int 0, .int 0, .int 0, .int 0, .int 0, .int (-1), .ref m7, .ref m8, .int 190, .ref m9, .int 0, .ref m10, .ref m11, .ref m12, .ref m13, .ref m14, .int 0, .ref m15, .ref m16, .ref m17]))] _ _ := w.pick [0] rfl rfl
  refine r_top (g2 := F0 m 1986 ls [.int 1]) rfl ?_
  refine lv_iload C.1 C.2.1 dL_law_1986 (lv_at hl 1 rfl) ?_
  refine b_icmp_eq_t C (tgt := 1993) dL_law_1988 (by decide) (by decide) ?_
  refine lv_iload C.1 C.2.1 dL_law_1993 (lv_at hl 1 rfl) ?_
  refine b_if_ne_t C (tgt := 2010) dL_law_1995 (by decide) (by decide) ?_
  refine lv_goto (tgt := 2461) C.1 C.2.1 dL_law_2010 (by decide) ?_
  refine W.widen (k := 600002) (n := 7302232) (Nat.le_of_ble_eq_true rfl) (Nat.le_of_ble_eq_true rfl) ?_
  exact kk _ _ _ w.2.2 (lv_sub hl [2, 6] rfl)
set_option maxRecDepth 100000 in
set_option maxHeartbeats 4000000 in
theorem c_X12_thrown_9 (l : Launch) (D : va_G) (cy : Nat → ClassId) (a0 a1 a2 a3 a4 a5 a6 a7 a8 a9 a10 a11 a12 a13 a14 a15 a16 a17 : Nat) : Ct l D cy yX12_thrown cX12_thrown 1 (some .int) 0 0 0 0 [(a0, .inr (12, [.ref a1, .ref a2, .ref a3, .ref a4, .ref a5, .int 0, .ref a6, .int 0, .int 0, .int 0, .int 0, .int 0, .int 0, .int 0, .int 0, .int 0, .int 0, .int (-1), .ref a7, .ref a8, .int 190, .ref a9, .int 21, .ref a10, .ref a11, .ref a12, .ref a13, .ref a14, .int 1, .ref a15, .ref a16, .ref a17]))] [.ref a0] (fun u : Unit => some (.int 0)) (fun _ => True) (fun u : Unit => [(a0, .inr (12, [.ref a1, .ref a2, .ref a3, .ref a4, .ref a5, .int 0, .ref a6, .int 0, .int 0, .int 0, .int 0, .int 0, .int 0, .int 0, .int 0, .int 0, .int 0, .int (-1), .ref a7, .ref a8, .int 190, .ref a9, .int 21, .ref a10, .ref a11, .ref a12, .ref a13, .ref a14, .int 1, .ref a15, .ref a16, .ref a17]))]) := by
  refine Ct.of (by decide +kernel) (Nat.le_of_ble_eq_true rfl) ?_
  intro p e s m args below meth c A ls C hr hlocks hml hnm w hl
  have hl : lv_has ls 1 [(0, .ref a0)] := hl
  refine lv_aload_n C.1 C.2.1 dX12_thrown_0 rfl (lv_at hl 0 rfl) ?_
  refine r_get C w 0 rfl rfl 5 (by decide) fl_RX12_71 (v := .int 0) rfl dX12_thrown_1 ?_
  exact r_iret C w hlocks () hr rfl rfl trivial [0] rfl rfl ⟨Nat.le_of_ble_eq_true rfl, Nat.le_of_ble_eq_true rfl⟩ dX12_thrown_4
theorem dL_law_1998 : decode cL_law 1998 = .ok (.aload_n 3, 1) := by decide +kernel
theorem dL_law_1999 : decode cL_law 1999 = .ok (.iconst 0, 1) := by decide +kernel
theorem dL_law_2000 : decode cL_law 2000 = .ok (.laload, 1) := by decide +kernel
theorem dL_law_2001 : decode cL_law 2001 = .ok (.iload 6, 2) := by decide +kernel
theorem dL_law_2003 : decode cL_law 2003 = .ok (.i2l, 1) := by decide +kernel
theorem dL_law_2004 : decode cL_law 2004 = .ok (.lcmp, 1) := by decide +kernel
theorem dL_law_2005 : decode cL_law 2005 = .ok (.ifCond .eq 5, 3) := by decide +kernel
set_option maxRecDepth 100000 in
set_option maxHeartbeats 4000000 in
theorem s_L_28_2 {p : Program} {l : Launch} {e : Env} {s : State} {m : MethodId} {args : Array Value} {below : List Frame} {meth : Method} {c : Code} {Q : State → Prop} {D : va_G} {cy : Nat → ClassId} {A : Nat → Prop} {H : Heap} {locs : List Loc} {ls : Array Slot} {xs : Nat → Int32} (b q0 q1 q2 q4 q5 q6 q10 q11 q12 q13 q14 q15 q16 q17 m0 m1 m2 m3 m4 m5 m6 m7 m8 m9 m10 m11 m12 m13 m14 m15 m16 m17 o0 : Nat) (y1 : Int32) (y2 : Int32) (k0 : ¬ y1 < 0) (k1 : y1 < 190) (k2 : ¬ y2 = (-1)) (k3 : y2 < 0) (sx1 : xs 1 = y1) (sx2 : xs 2 = y2) (C : Cx p s m args c cL_law RL D cy A) (hml : c.maxLocals = 8) (hX : va_X b 6 xs s s.heap) (hbl : b < s.heap.size) (hbA : ¬ A b) (w : Wd D A s.heap [(q0, .inr (11, [.ref q1, .int 0, .int 0, .int (-1), .ref q2, .ref q4, .ref q5, .ref q6, .ref q10, .null])), (q10, .inr (9, [.int 0, .int 2, .int 20, .int 120, .int 0, .int 0, .int 0, .int 0, .ref q11, .int 0, .ref q12, .ref q13, .int 0, .ref q14, .ref q15, .ref q16, .ref q17])), (m0, .inr (12, [.ref m1, .ref m2, .ref m3, .ref m4, .ref m5, .int 0, .ref m6, .int 0, .int 0, .int 0, .int 0, .int 0, .int 0, .int 0, .int 0, .int 0, .int 0, .int (-1), .ref m7, .ref m8, .int 0, .ref m9, .int 0, .ref m10, .ref m11, .ref m12, .ref m13, .ref m14, .int 0, .ref m15, .ref m16, .ref m17])), (m3, .inl (cy 1, 1868, .inl (fun _ => 0))), (m7, .inl (cy 1, 1830, .inl (fun _ => 0))), (m8, .inl (cy 1, 1830, .inl (fun _ => 0))), (m9, .inl (cy 2, 2465, .inr (.inl (fun _ => 0)))), (m1, .inl (cy 1, 1868, .inl (upd (upd (upd (fun _ => 0) 1 2) 2 20) 3 120))), (o0, .inl (cy 2, 1, .inr (.inl (fun _ => 0))))] H locs) (hl : lv_has ls 8 [(0, .ref b), (1, .ref q0), (2, .ref m0), (3, .ref o0), (4, .int 0)]) (kk : ∀ (H : Heap) (locs : List Loc) (ls : Array Slot), va_S A s.heap H locs → lv_has ls 8 [(0, .ref b), (4, .int 0)] → W p l e room_1 s m args below meth c H locs 600002 7302232 Q (F0 m 2461 ls [])) : W p l e room_1 s m args below meth c H locs 37 29845 Q (F0 m 1945 ls []) := by
  refine lv_aload_n C.1 C.2.1 dL_law_1945 rfl (lv_at hl 1 rfl) ?_
  refine lv_aload_n C.1 C.2.1 dL_law_1946 rfl (lv_at hl 0 rfl) ?_
  refine lv_iload C.1 C.2.1 dL_law_1947 (lv_at hl 4 rfl) ?_
  refine lv_iconst (v := 1) C.1 C.2.1 dL_law_1949 (by decide) ?_
  refine r_iadd C (v := 1) dL_law_1950 (by decide) ?_
  refine r_sld C w hX hbl hbA (v := y1) (vinD (by decide)) sx1 dL_law_1951 ?_
  refine lv_aload_n C.1 C.2.1 dL_law_1952 rfl (lv_at hl 0 rfl) ?_
  refine lv_iload C.1 C.2.1 dL_law_1953 (lv_at hl 4 rfl) ?_
  refine lv_iconst (v := 2) C.1 C.2.1 dL_law_1955 (by decide) ?_
  refine r_iadd C (v := 2) dL_law_1956 (by decide) ?_
  refine r_sld C w hX hbl hbA (v := y2) (vinD (by decide)) sx2 dL_law_1957 ?_
  refine lv_aload_n C.1 C.2.1 dL_law_1958 rfl (lv_at hl 3 rfl) ?_
  refine r_callH C w fh_RL_223 (c_L_orders_2 l D cy q0 o0 q1 q2 q4 q5 q6 q10 q11 q12 q13 q14 q15 q16 q17 y1 y2 k0 k1 k2 k3) (hl.1.trans hml.symm) [0, 1, 8] [2, 3, 4, 5, 6, 7] (wr := [(m0, .inr (12, [.ref m1, .ref m2, .ref m3, .ref m4, .ref m5, .int 0, .ref m6, .int 0, .int 0, .int 0, .int 0, .int 0, .int 0, .int 0, .int 0, .int 0, .int 0, .int (-1), .ref m7, .ref m8, .int 0, .ref m9, .int 0, .ref m10, .ref m11, .ref m12, .ref m13, .ref m14, .int 0, .ref m15, .ref m16, .ref m17])), (m3, .inl (cy 1, 1868, .inl (fun _ => 0))), (m7, .inl (cy 1, 1830, .inl (fun _ => 0))), (m8, .inl (cy 1, 1830, .inl (fun _ => 0))), (m9, .inl (cy 2, 2465, .inr (.inl (fun _ => 0)))), (m1, .inl (cy 1, 1868, .inl (upd (upd (upd (fun _ => 0) 1 2) 2 20) 3 120)))]) ⟨rfl, rfl, rfl, rfl, by decide⟩ rfl rfl ⟨Nat.le_of_ble_eq_true rfl, Nat.le_of_ble_eq_true rfl, Nat.le_of_ble_eq_true rfl⟩ 73 53662 ⟨rfl, rfl, Nat.le_of_ble_eq_true rfl, Nat.le_of_ble_eq_true rfl⟩ dL_law_1959 (fun u H locs hp w => ?_)
  obtain ⟨n1, n2, n3, n4, n5, n6, n7, n8, n9, n10, n11, n12, n13, n14, n15, n16, n17, n18, n19, n20, n21, n22, n23, n24, n25, n26, n27, n28, n29, n30, n31, n32, n33, n34, n35, n36⟩ := u
  have w : Wd D A s.heap [(m0, .inr (12, [.ref m1, .ref m2, .ref m3, .ref m4, .ref m5, .int 0, .ref m6, .int 0, .int 0, .int 0, .int 0, .int 0, .int 0, .int 0, .int 0, .int 0, .int 0, .int (-1), .ref m7, .ref m8, .int 0, .ref m9, .int 0, .ref m10, .ref m11, .ref m12, .ref m13, .ref m14, .int 0, .ref m15, .ref m16, .ref m17])), (m3, .inl (cy 1, 1868, .inl (fun _ => 0))), (m7, .inl (cy 1, 1830, .inl (fun _ => 0))), (m8, .inl (cy 1, 1830, .inl (fun _ => 0))), (m9, .inl (cy 2, 2465, .inr (.inl (fun _ => 0)))), (m1, .inl (cy 1, 1868, .inl (upd (upd (upd (fun _ => 0) 1 2) 2 20) 3 120))), (o0, .inl (cy 2, 1, .inr (.inl (vp_updL (fun _ => 0) 0 (-1)))))] _ _ := w.pick [0, 1, 2, 3, 4, 5, 6] rfl rfl
  refine r_top (g2 := F0 m 1962 ls [.int 0]) rfl ?_
  refine lv_istore (lv' := [(5, .int 0), (0, .ref b), (1, .ref q0), (2, .ref m0), (3, .ref o0), (4, .int 0)]) C.1 C.2.1 dL_law_1962 hl (by decide) rfl (fun ls hl => ?_)
  refine lv_aload_n C.1 C.2.1 dL_law_1964 rfl (lv_at hl 3 rfl) ?_
  refine lv_aload_n C.1 C.2.1 dL_law_1965 rfl (lv_at hl 1 rfl) ?_
  refine lv_iload C.1 C.2.1 dL_law_1966 (lv_at hl 5 rfl) ?_
  refine lv_iconst (v := 1) C.1 C.2.1 dL_law_1968 (by decide) ?_
  refine r_iadd C (v := 1) dL_law_1969 (by decide) ?_
  refine r_sld C w hX hbl hbA (v := y1) (vinD (by decide)) sx1 dL_law_1970 ?_
  refine lv_aload_n C.1 C.2.1 dL_law_1971 rfl (lv_at hl 1 rfl) ?_
  refine lv_iload C.1 C.2.1 dL_law_1972 (lv_at hl 5 rfl) ?_
  refine lv_iconst (v := 2) C.1 C.2.1 dL_law_1974 (by decide) ?_
  refine r_iadd C (v := 2) dL_law_1975 (by decide) ?_
  refine r_sld C w hX hbl hbA (v := y2) (vinD (by decide)) sx2 dL_law_1976 ?_
  refine r_callV C w fv_RL_225 (c_X12_orders_2 l D cy m0 m1 m2 m3 m4 m5 m6 m7 m8 m9 m10 m11 m12 m13 m14 m15 m16 m17 y1 y2 k0 (by have h0 := (i_nlt k0); have h1 := (i_lt k1); have e0 : (0 : Int32).toInt = 0 := (by decide); have e1 : (189 : Int32).toInt = 189 := (by decide); have e2 : (190 : Int32).toInt = 190 := (by decide); rw [fa_lt]; omega) k2 k3) (hl.1.trans hml.symm) [0, 5, 1, 2, 3, 4] [6] (wr := [(o0, .inl (cy 2, 1, .inr (.inl (vp_updL (fun _ => 0) 0 (-1)))))]) ⟨rfl, rfl, rfl, rfl, by decide⟩ 0 rfl rfl rfl rfl rfl ⟨Nat.le_of_ble_eq_true rfl, Nat.le_of_ble_eq_true rfl, Nat.le_of_ble_eq_true rfl⟩ 73 53662 ⟨rfl, rfl, Nat.le_of_ble_eq_true rfl, Nat.le_of_ble_eq_true rfl⟩ dL_law_1977 (fun u H locs hp w => ?_)
  have w : Wd D A s.heap [(o0, .inl (cy 2, 1, .inr (.inl (vp_updL (fun _ => 0) 0 (-1))))), (m0, .inr (12, [.ref m1, .ref m2, .ref m3, .ref m4, .ref m5, .int 0, .ref m6, .int 0, .int 0, .int 0, .int 0, .int 0, .int 0, .int 0, .int 0, .int 0, .int 0, .int (-1), .ref m7, .ref m8, .int 190, .ref m9, .int 21, .ref m10, .ref m11, .ref m12, .ref m13, .ref m14, .int 1, .ref m15, .ref m16, .ref m17]))] _ _ := w.pick [0, 3] rfl rfl
  refine r_top (g2 := F0 m 1980 ls [.int (-1)]) rfl ?_
  refine lv_istore (lv' := [(6, .int (-1)), (5, .int 0), (0, .ref b), (1, .ref q0), (2, .ref m0), (3, .ref o0), (4, .int 0)]) C.1 C.2.1 dL_law_1980 hl (by decide) rfl (fun ls hl => ?_)
  refine lv_aload_n C.1 C.2.1 dL_law_1982 rfl (lv_at hl 4 rfl) ?_
  refine r_callV C w fv_RL_134 (c_X12_thrown_9 l D cy m0 m1 m2 m3 m4 m5 m6 m7 m8 m9 m10 m11 m12 m13 m14 m15 m16 m17) (hl.1.trans hml.symm) [1] [0] (wr := [(o0, .inl (cy 2, 1, .inr (.inl (vp_updL (fun _ => 0) 0 (-1)))))]) ⟨rfl, rfl, rfl, rfl, by decide⟩ 0 rfl rfl rfl rfl rfl ⟨Nat.le_of_ble_eq_true rfl, Nat.le_of_ble_eq_true rfl, Nat.le_of_ble_eq_true rfl⟩ 73 53662 ⟨rfl, rfl, Nat.le_of_ble_eq_true rfl, Nat.le_of_ble_eq_true rfl⟩ dL_law_1983 (fun u H locs hp w => ?_)
  have w : Wd D A s.heap [(o0, .inl (cy 2, 1, .inr (.inl (vp_updL (fun _ => 0) 0 (-1))))), (m0, .inr (12, [.ref m1, .ref m2, .ref m3, .ref m4, .ref m5, .int 0, .ref m6, .int 0, .int 0, .int 0, .int 0, .int 0, .int 0, .int 0, .int 0, .int 0, .int 0, .int (-1), .ref m7, .ref m8, .int 190, .ref m9, .int 21, .ref m10, .ref m11, .ref m12, .ref m13, .ref m14, .int 1, .ref m15, .ref m16, .ref m17]))] _ _ := w.pick [0, 1] rfl rfl
  refine r_top (g2 := F0 m 1986 ls [.int 0]) rfl ?_
  refine lv_iload C.1 C.2.1 dL_law_1986 (lv_at hl 1 rfl) ?_
  refine b_icmp_eq_t C (tgt := 1993) dL_law_1988 (by decide) (by decide) ?_
  refine lv_iload C.1 C.2.1 dL_law_1993 (lv_at hl 1 rfl) ?_
  refine b_if_ne_f C (tgt := 2010) dL_law_1995 (by decide) (by decide) ?_
  refine lv_aload_n C.1 C.2.1 dL_law_1998 rfl (lv_at hl 5 rfl) ?_
  refine lv_iconst (v := 0) C.1 C.2.1 dL_law_1999 (by decide) ?_
  refine r_lald C w 0 rfl (v := (-1)) (vinD (by decide)) rfl dL_law_2000 ?_
  refine lv_iload C.1 C.2.1 dL_law_2001 (lv_at hl 0 rfl) ?_
  refine lv_i2l (v := (-1)) C.1 C.2.1 dL_law_2003 (by decide) ?_
  refine r_lcmp C (v := 0) dL_law_2004 (by decide) ?_
  refine b_if_eq_t C (tgt := 2010) dL_law_2005 (by decide) (by decide) ?_
  refine lv_goto (tgt := 2461) C.1 C.2.1 dL_law_2010 (by decide) ?_
  refine W.widen (k := 600002) (n := 7302232) (Nat.le_of_ble_eq_true rfl) (Nat.le_of_ble_eq_true rfl) ?_
  exact kk _ _ _ w.2.2 (lv_sub hl [2, 6] rfl)
set_option maxRecDepth 100000 in
set_option maxHeartbeats 4000000 in
theorem s_L_28_3 {p : Program} {l : Launch} {e : Env} {s : State} {m : MethodId} {args : Array Value} {below : List Frame} {meth : Method} {c : Code} {Q : State → Prop} {D : va_G} {cy : Nat → ClassId} {A : Nat → Prop} {H : Heap} {locs : List Loc} {ls : Array Slot} {xs : Nat → Int32} (b q0 q1 q2 q4 q5 q6 q10 q11 q12 q13 q14 q15 q16 q17 m0 m1 m2 m3 m4 m5 m6 m7 m8 m9 m10 m11 m12 m13 m14 m15 m16 m17 o0 : Nat) (y1 : Int32) (y2 : Int32) (k0 : ¬ y1 < 0) (k1 : y1 < 190) (k2 : ¬ y2 = (-1)) (k3 : ¬ y2 < 0) (sx1 : xs 1 = y1) (sx2 : xs 2 = y2) (C : Cx p s m args c cL_law RL D cy A) (hml : c.maxLocals = 8) (hX : va_X b 6 xs s s.heap) (hbl : b < s.heap.size) (hbA : ¬ A b) (w : Wd D A s.heap [(q0, .inr (11, [.ref q1, .int 0, .int 0, .int (-1), .ref q2, .ref q4, .ref q5, .ref q6, .ref q10, .null])), (q10, .inr (9, [.int 0, .int 2, .int 20, .int 120, .int 0, .int 0, .int 0, .int 0, .ref q11, .int 0, .ref q12, .ref q13, .int 0, .ref q14, .ref q15, .ref q16, .ref q17])), (m0, .inr (12, [.ref m1, .ref m2, .ref m3, .ref m4, .ref m5, .int 0, .ref m6, .int 0, .int 0, .int 0, .int 0, .int 0, .int 0, .int 0, .int 0, .int 0, .int 0, .int (-1), .ref m7, .ref m8, .int 0, .ref m9, .int 0, .ref m10, .ref m11, .ref m12, .ref m13, .ref m14, .int 0, .ref m15, .ref m16, .ref m17])), (m3, .inl (cy 1, 1868, .inl (fun _ => 0))), (m7, .inl (cy 1, 1830, .inl (fun _ => 0))), (m8, .inl (cy 1, 1830, .inl (fun _ => 0))), (m9, .inl (cy 2, 2465, .inr (.inl (fun _ => 0)))), (m1, .inl (cy 1, 1868, .inl (upd (upd (upd (fun _ => 0) 1 2) 2 20) 3 120))), (o0, .inl (cy 2, 1, .inr (.inl (fun _ => 0))))] H locs) (hl : lv_has ls 8 [(0, .ref b), (1, .ref q0), (2, .ref m0), (3, .ref o0), (4, .int 0)]) (kk : ∀ (H : Heap) (locs : List Loc) (ls : Array Slot), va_S A s.heap H locs → lv_has ls 8 [(0, .ref b), (4, .int 0)] → W p l e room_1 s m args below meth c H locs 600002 7302232 Q (F0 m 2461 ls [])) : W p l e room_1 s m args below meth c H locs 37 29845 Q (F0 m 1945 ls []) := by
  refine lv_aload_n C.1 C.2.1 dL_law_1945 rfl (lv_at hl 1 rfl) ?_
  refine lv_aload_n C.1 C.2.1 dL_law_1946 rfl (lv_at hl 0 rfl) ?_
  refine lv_iload C.1 C.2.1 dL_law_1947 (lv_at hl 4 rfl) ?_
  refine lv_iconst (v := 1) C.1 C.2.1 dL_law_1949 (by decide) ?_
  refine r_iadd C (v := 1) dL_law_1950 (by decide) ?_
  refine r_sld C w hX hbl hbA (v := y1) (vinD (by decide)) sx1 dL_law_1951 ?_
  refine lv_aload_n C.1 C.2.1 dL_law_1952 rfl (lv_at hl 0 rfl) ?_
  refine lv_iload C.1 C.2.1 dL_law_1953 (lv_at hl 4 rfl) ?_
  refine lv_iconst (v := 2) C.1 C.2.1 dL_law_1955 (by decide) ?_
  refine r_iadd C (v := 2) dL_law_1956 (by decide) ?_
  refine r_sld C w hX hbl hbA (v := y2) (vinD (by decide)) sx2 dL_law_1957 ?_
  refine lv_aload_n C.1 C.2.1 dL_law_1958 rfl (lv_at hl 3 rfl) ?_
  refine r_callH C w fh_RL_223 (c_L_orders_3 l D cy q0 o0 q1 q2 q4 q5 q6 q10 q11 q12 q13 q14 q15 q16 q17 y1 y2 k0 k1 k2 k3) (hl.1.trans hml.symm) [0, 1, 8] [2, 3, 4, 5, 6, 7] (wr := [(m0, .inr (12, [.ref m1, .ref m2, .ref m3, .ref m4, .ref m5, .int 0, .ref m6, .int 0, .int 0, .int 0, .int 0, .int 0, .int 0, .int 0, .int 0, .int 0, .int 0, .int (-1), .ref m7, .ref m8, .int 0, .ref m9, .int 0, .ref m10, .ref m11, .ref m12, .ref m13, .ref m14, .int 0, .ref m15, .ref m16, .ref m17])), (m3, .inl (cy 1, 1868, .inl (fun _ => 0))), (m7, .inl (cy 1, 1830, .inl (fun _ => 0))), (m8, .inl (cy 1, 1830, .inl (fun _ => 0))), (m9, .inl (cy 2, 2465, .inr (.inl (fun _ => 0)))), (m1, .inl (cy 1, 1868, .inl (upd (upd (upd (fun _ => 0) 1 2) 2 20) 3 120)))]) ⟨rfl, rfl, rfl, rfl, by decide⟩ rfl rfl ⟨Nat.le_of_ble_eq_true rfl, Nat.le_of_ble_eq_true rfl, Nat.le_of_ble_eq_true rfl⟩ 73 53662 ⟨rfl, rfl, Nat.le_of_ble_eq_true rfl, Nat.le_of_ble_eq_true rfl⟩ dL_law_1959 (fun u H locs hp w => ?_)
  obtain ⟨n1, n2, n3, n4, n5, n6, n7, n8, n9, n10, n11, n12, n13, n14, n15, n16, n17, n18, n19, n20, n21, n22, n23, n24, n25, n26, n27, n28, n29, n30, n31, n32, n33, n34, n35, n36⟩ := u
  have w : Wd D A s.heap [(m0, .inr (12, [.ref m1, .ref m2, .ref m3, .ref m4, .ref m5, .int 0, .ref m6, .int 0, .int 0, .int 0, .int 0, .int 0, .int 0, .int 0, .int 0, .int 0, .int 0, .int (-1), .ref m7, .ref m8, .int 0, .ref m9, .int 0, .ref m10, .ref m11, .ref m12, .ref m13, .ref m14, .int 0, .ref m15, .ref m16, .ref m17])), (m3, .inl (cy 1, 1868, .inl (fun _ => 0))), (m7, .inl (cy 1, 1830, .inl (fun _ => 0))), (m8, .inl (cy 1, 1830, .inl (fun _ => 0))), (m9, .inl (cy 2, 2465, .inr (.inl (fun _ => 0)))), (m1, .inl (cy 1, 1868, .inl (upd (upd (upd (fun _ => 0) 1 2) 2 20) 3 120))), (o0, .inl (cy 2, 1, .inr (.inl (vp_updL (fun _ => 0) 0 (-1)))))] _ _ := w.pick [0, 1, 2, 3, 4, 5, 6] rfl rfl
  refine r_top (g2 := F0 m 1962 ls [.int 0]) rfl ?_
  refine lv_istore (lv' := [(5, .int 0), (0, .ref b), (1, .ref q0), (2, .ref m0), (3, .ref o0), (4, .int 0)]) C.1 C.2.1 dL_law_1962 hl (by decide) rfl (fun ls hl => ?_)
  refine lv_aload_n C.1 C.2.1 dL_law_1964 rfl (lv_at hl 3 rfl) ?_
  refine lv_aload_n C.1 C.2.1 dL_law_1965 rfl (lv_at hl 1 rfl) ?_
  refine lv_iload C.1 C.2.1 dL_law_1966 (lv_at hl 5 rfl) ?_
  refine lv_iconst (v := 1) C.1 C.2.1 dL_law_1968 (by decide) ?_
  refine r_iadd C (v := 1) dL_law_1969 (by decide) ?_
  refine r_sld C w hX hbl hbA (v := y1) (vinD (by decide)) sx1 dL_law_1970 ?_
  refine lv_aload_n C.1 C.2.1 dL_law_1971 rfl (lv_at hl 1 rfl) ?_
  refine lv_iload C.1 C.2.1 dL_law_1972 (lv_at hl 5 rfl) ?_
  refine lv_iconst (v := 2) C.1 C.2.1 dL_law_1974 (by decide) ?_
  refine r_iadd C (v := 2) dL_law_1975 (by decide) ?_
  refine r_sld C w hX hbl hbA (v := y2) (vinD (by decide)) sx2 dL_law_1976 ?_
  refine r_callV C w fv_RL_225 (c_X12_orders_3 l D cy m0 m1 m2 m3 m4 m5 m6 m7 m8 m9 m10 m11 m12 m13 m14 m15 m16 m17 y1 y2 k0 (by have h0 := (i_nlt k0); have h1 := (i_lt k1); have e0 : (0 : Int32).toInt = 0 := (by decide); have e1 : (189 : Int32).toInt = 189 := (by decide); have e2 : (190 : Int32).toInt = 190 := (by decide); rw [fa_lt]; omega) k2 k3) (hl.1.trans hml.symm) [0, 5, 1, 2, 3, 4] [6] (wr := [(o0, .inl (cy 2, 1, .inr (.inl (vp_updL (fun _ => 0) 0 (-1)))))]) ⟨rfl, rfl, rfl, rfl, by decide⟩ 0 rfl rfl rfl rfl rfl ⟨Nat.le_of_ble_eq_true rfl, Nat.le_of_ble_eq_true rfl, Nat.le_of_ble_eq_true rfl⟩ 73 53662 ⟨rfl, rfl, Nat.le_of_ble_eq_true rfl, Nat.le_of_ble_eq_true rfl⟩ dL_law_1977 (fun u H locs hp w => ?_)
  have w : Wd D A s.heap [(o0, .inl (cy 2, 1, .inr (.inl (vp_updL (fun _ => 0) 0 (-1))))), (m0, .inr (12, [.ref m1, .ref m2, .ref m3, .ref m4, .ref m5, .int 0, .ref m6, .int 0, .int 0, .int 0, .int 0, .int 0, .int 0, .int 0, .int 0, .int 0, .int 0, .int (-1), .ref m7, .ref m8, .int 190, .ref m9, .int 21, .ref m10, .ref m11, .ref m12, .ref m13, .ref m14, .int 1, .ref m15, .ref m16, .ref m17]))] _ _ := w.pick [0, 3] rfl rfl
  refine r_top (g2 := F0 m 1980 ls [.int (-1)]) rfl ?_
  refine lv_istore (lv' := [(6, .int (-1)), (5, .int 0), (0, .ref b), (1, .ref q0), (2, .ref m0), (3, .ref o0), (4, .int 0)]) C.1 C.2.1 dL_law_1980 hl (by decide) rfl (fun ls hl => ?_)
  refine lv_aload_n C.1 C.2.1 dL_law_1982 rfl (lv_at hl 4 rfl) ?_
  refine r_callV C w fv_RL_134 (c_X12_thrown_9 l D cy m0 m1 m2 m3 m4 m5 m6 m7 m8 m9 m10 m11 m12 m13 m14 m15 m16 m17) (hl.1.trans hml.symm) [1] [0] (wr := [(o0, .inl (cy 2, 1, .inr (.inl (vp_updL (fun _ => 0) 0 (-1)))))]) ⟨rfl, rfl, rfl, rfl, by decide⟩ 0 rfl rfl rfl rfl rfl ⟨Nat.le_of_ble_eq_true rfl, Nat.le_of_ble_eq_true rfl, Nat.le_of_ble_eq_true rfl⟩ 73 53662 ⟨rfl, rfl, Nat.le_of_ble_eq_true rfl, Nat.le_of_ble_eq_true rfl⟩ dL_law_1983 (fun u H locs hp w => ?_)
  have w : Wd D A s.heap [(o0, .inl (cy 2, 1, .inr (.inl (vp_updL (fun _ => 0) 0 (-1))))), (m0, .inr (12, [.ref m1, .ref m2, .ref m3, .ref m4, .ref m5, .int 0, .ref m6, .int 0, .int 0, .int 0, .int 0, .int 0, .int 0, .int 0, .int 0, .int 0, .int 0, .int (-1), .ref m7, .ref m8, .int 190, .ref m9, .int 21, .ref m10, .ref m11, .ref m12, .ref m13, .ref m14, .int 1, .ref m15, .ref m16, .ref m17]))] _ _ := w.pick [0, 1] rfl rfl
  refine r_top (g2 := F0 m 1986 ls [.int 0]) rfl ?_
  refine lv_iload C.1 C.2.1 dL_law_1986 (lv_at hl 1 rfl) ?_
  refine b_icmp_eq_t C (tgt := 1993) dL_law_1988 (by decide) (by decide) ?_
  refine lv_iload C.1 C.2.1 dL_law_1993 (lv_at hl 1 rfl) ?_
  refine b_if_ne_f C (tgt := 2010) dL_law_1995 (by decide) (by decide) ?_
  refine lv_aload_n C.1 C.2.1 dL_law_1998 rfl (lv_at hl 5 rfl) ?_
  refine lv_iconst (v := 0) C.1 C.2.1 dL_law_1999 (by decide) ?_
  refine r_lald C w 0 rfl (v := (-1)) (vinD (by decide)) rfl dL_law_2000 ?_
  refine lv_iload C.1 C.2.1 dL_law_2001 (lv_at hl 0 rfl) ?_
  refine lv_i2l (v := (-1)) C.1 C.2.1 dL_law_2003 (by decide) ?_
  refine r_lcmp C (v := 0) dL_law_2004 (by decide) ?_
  refine b_if_eq_t C (tgt := 2010) dL_law_2005 (by decide) (by decide) ?_
  refine lv_goto (tgt := 2461) C.1 C.2.1 dL_law_2010 (by decide) ?_
  refine W.widen (k := 600002) (n := 7302232) (Nat.le_of_ble_eq_true rfl) (Nat.le_of_ble_eq_true rfl) ?_
  exact kk _ _ _ w.2.2 (lv_sub hl [2, 6] rfl)
set_option maxRecDepth 100000 in
set_option maxHeartbeats 4000000 in
theorem s_L_28_4 {p : Program} {l : Launch} {e : Env} {s : State} {m : MethodId} {args : Array Value} {below : List Frame} {meth : Method} {c : Code} {Q : State → Prop} {D : va_G} {cy : Nat → ClassId} {A : Nat → Prop} {H : Heap} {locs : List Loc} {ls : Array Slot} {xs : Nat → Int32} (b q0 q1 q2 q4 q5 q6 q10 q11 q12 q13 q14 q15 q16 q17 m0 m1 m2 m3 m4 m5 m6 m7 m8 m9 m10 m11 m12 m13 m14 m15 m16 m17 o0 : Nat) (y1 : Int32) (k0 : ¬ y1 < 0) (k1 : y1 < 190) (sx1 : xs 1 = y1) (sx2 : xs 2 = (-1)) (C : Cx p s m args c cL_law RL D cy A) (hml : c.maxLocals = 8) (hX : va_X b 6 xs s s.heap) (hbl : b < s.heap.size) (hbA : ¬ A b) (w : Wd D A s.heap [(q0, .inr (11, [.ref q1, .int 0, .int 0, .int (-1), .ref q2, .ref q4, .ref q5, .ref q6, .ref q10, .null])), (q10, .inr (9, [.int 0, .int 2, .int 20, .int 120, .int 0, .int 0, .int 0, .int 0, .ref q11, .int 0, .ref q12, .ref q13, .int 0, .ref q14, .ref q15, .ref q16, .ref q17])), (m0, .inr (12, [.ref m1, .ref m2, .ref m3, .ref m4, .ref m5, .int 0, .ref m6, .int 0, .int 0, .int 0, .int 0, .int 0, .int 0, .int 0, .int 0, .int 0, .int 0, .int (-1), .ref m7, .ref m8, .int 0, .ref m9, .int 0, .ref m10, .ref m11, .ref m12, .ref m13, .ref m14, .int 0, .ref m15, .ref m16, .ref m17])), (m3, .inl (cy 1, 1868, .inl (fun _ => 0))), (m7, .inl (cy 1, 1830, .inl (fun _ => 0))), (m8, .inl (cy 1, 1830, .inl (fun _ => 0))), (m9, .inl (cy 2, 2465, .inr (.inl (fun _ => 0)))), (m1, .inl (cy 1, 1868, .inl (upd (upd (upd (fun _ => 0) 1 2) 2 20) 3 120))), (o0, .inl (cy 2, 1, .inr (.inl (fun _ => 0))))] H locs) (hl : lv_has ls 8 [(0, .ref b), (1, .ref q0), (2, .ref m0), (3, .ref o0), (4, .int 0)]) (kk : ∀ (H : Heap) (locs : List Loc) (ls : Array Slot), va_S A s.heap H locs → lv_has ls 8 [(0, .ref b), (4, .int 0)] → W p l e room_1 s m args below meth c H locs 600002 7302232 Q (F0 m 2461 ls [])) : W p l e room_1 s m args below meth c H locs 37 29845 Q (F0 m 1945 ls []) := by
  refine lv_aload_n C.1 C.2.1 dL_law_1945 rfl (lv_at hl 1 rfl) ?_
  refine lv_aload_n C.1 C.2.1 dL_law_1946 rfl (lv_at hl 0 rfl) ?_
  refine lv_iload C.1 C.2.1 dL_law_1947 (lv_at hl 4 rfl) ?_
  refine lv_iconst (v := 1) C.1 C.2.1 dL_law_1949 (by decide) ?_
  refine r_iadd C (v := 1) dL_law_1950 (by decide) ?_
  refine r_sld C w hX hbl hbA (v := y1) (vinD (by decide)) sx1 dL_law_1951 ?_
  refine lv_aload_n C.1 C.2.1 dL_law_1952 rfl (lv_at hl 0 rfl) ?_
  refine lv_iload C.1 C.2.1 dL_law_1953 (lv_at hl 4 rfl) ?_
  refine lv_iconst (v := 2) C.1 C.2.1 dL_law_1955 (by decide) ?_
  refine r_iadd C (v := 2) dL_law_1956 (by decide) ?_
  refine r_sld C w hX hbl hbA (v := (-1)) (vinD (by decide)) sx2 dL_law_1957 ?_
  refine lv_aload_n C.1 C.2.1 dL_law_1958 rfl (lv_at hl 3 rfl) ?_
  refine r_callH C w fh_RL_223 (c_L_orders_4 l D cy q0 o0 q1 q2 q4 q5 q6 q10 q11 q12 q13 q14 q15 q16 q17 y1 k0 k1) (hl.1.trans hml.symm) [0, 1, 8] [2, 3, 4, 5, 6, 7] (wr := [(m0, .inr (12, [.ref m1, .ref m2, .ref m3, .ref m4, .ref m5, .int 0, .ref m6, .int 0, .int 0, .int 0, .int 0, .int 0, .int 0, .int 0, .int 0, .int 0, .int 0, .int (-1), .ref m7, .ref m8, .int 0, .ref m9, .int 0, .ref m10, .ref m11, .ref m12, .ref m13, .ref m14, .int 0, .ref m15, .ref m16, .ref m17])), (m3, .inl (cy 1, 1868, .inl (fun _ => 0))), (m7, .inl (cy 1, 1830, .inl (fun _ => 0))), (m8, .inl (cy 1, 1830, .inl (fun _ => 0))), (m9, .inl (cy 2, 2465, .inr (.inl (fun _ => 0)))), (m1, .inl (cy 1, 1868, .inl (upd (upd (upd (fun _ => 0) 1 2) 2 20) 3 120)))]) ⟨rfl, rfl, rfl, rfl, by decide⟩ rfl rfl ⟨Nat.le_of_ble_eq_true rfl, Nat.le_of_ble_eq_true rfl, Nat.le_of_ble_eq_true rfl⟩ 73 53662 ⟨rfl, rfl, Nat.le_of_ble_eq_true rfl, Nat.le_of_ble_eq_true rfl⟩ dL_law_1959 (fun u H locs hp w => ?_)
  obtain ⟨n1, n2, n3, n4, n5, n6, n7, n8, n9, n10, n11, n12, n13, n14, n15, n16, n17, n18, n19, n20, n21, n22, n23, n24, n25, n26, n27, n28, n29, n30, n31, n32, n33, n34, n35, n36⟩ := u
  have w : Wd D A s.heap [(m0, .inr (12, [.ref m1, .ref m2, .ref m3, .ref m4, .ref m5, .int 0, .ref m6, .int 0, .int 0, .int 0, .int 0, .int 0, .int 0, .int 0, .int 0, .int 0, .int 0, .int (-1), .ref m7, .ref m8, .int 0, .ref m9, .int 0, .ref m10, .ref m11, .ref m12, .ref m13, .ref m14, .int 0, .ref m15, .ref m16, .ref m17])), (m3, .inl (cy 1, 1868, .inl (fun _ => 0))), (m7, .inl (cy 1, 1830, .inl (fun _ => 0))), (m8, .inl (cy 1, 1830, .inl (fun _ => 0))), (m9, .inl (cy 2, 2465, .inr (.inl (fun _ => 0)))), (m1, .inl (cy 1, 1868, .inl (upd (upd (upd (fun _ => 0) 1 2) 2 20) 3 120))), (o0, .inl (cy 2, 1, .inr (.inl (vp_updL (fun _ => 0) 0 1))))] _ _ := w.pick [0, 1, 2, 3, 4, 5, 6] rfl rfl
  refine r_top (g2 := F0 m 1962 ls [.int 0]) rfl ?_
  refine lv_istore (lv' := [(5, .int 0), (0, .ref b), (1, .ref q0), (2, .ref m0), (3, .ref o0), (4, .int 0)]) C.1 C.2.1 dL_law_1962 hl (by decide) rfl (fun ls hl => ?_)
  refine lv_aload_n C.1 C.2.1 dL_law_1964 rfl (lv_at hl 3 rfl) ?_
  refine lv_aload_n C.1 C.2.1 dL_law_1965 rfl (lv_at hl 1 rfl) ?_
  refine lv_iload C.1 C.2.1 dL_law_1966 (lv_at hl 5 rfl) ?_
  refine lv_iconst (v := 1) C.1 C.2.1 dL_law_1968 (by decide) ?_
  refine r_iadd C (v := 1) dL_law_1969 (by decide) ?_
  refine r_sld C w hX hbl hbA (v := y1) (vinD (by decide)) sx1 dL_law_1970 ?_
  refine lv_aload_n C.1 C.2.1 dL_law_1971 rfl (lv_at hl 1 rfl) ?_
  refine lv_iload C.1 C.2.1 dL_law_1972 (lv_at hl 5 rfl) ?_
  refine lv_iconst (v := 2) C.1 C.2.1 dL_law_1974 (by decide) ?_
  refine r_iadd C (v := 2) dL_law_1975 (by decide) ?_
  refine r_sld C w hX hbl hbA (v := (-1)) (vinD (by decide)) sx2 dL_law_1976 ?_
  refine r_callV C w fv_RL_225 (c_X12_orders_4 l D cy m0 m1 m2 m3 m4 m5 m6 m7 m8 m9 m10 m11 m12 m13 m14 m15 m16 m17 y1 k0 (by have h0 := (i_nlt k0); have h1 := (i_lt k1); have e0 : (0 : Int32).toInt = 0 := (by decide); have e1 : (189 : Int32).toInt = 189 := (by decide); have e2 : (190 : Int32).toInt = 190 := (by decide); rw [fa_lt]; omega)) (hl.1.trans hml.symm) [0, 5, 1, 2, 3, 4] [6] (wr := [(o0, .inl (cy 2, 1, .inr (.inl (vp_updL (fun _ => 0) 0 1))))]) ⟨rfl, rfl, rfl, rfl, by decide⟩ 0 rfl rfl rfl rfl rfl ⟨Nat.le_of_ble_eq_true rfl, Nat.le_of_ble_eq_true rfl, Nat.le_of_ble_eq_true rfl⟩ 73 53662 ⟨rfl, rfl, Nat.le_of_ble_eq_true rfl, Nat.le_of_ble_eq_true rfl⟩ dL_law_1977 (fun u H locs hp w => ?_)
  have w : Wd D A s.heap [(o0, .inl (cy 2, 1, .inr (.inl (vp_updL (fun _ => 0) 0 1)))), (m0, .inr (12, [.ref m1, .ref m2, .ref m3, .ref m4, .ref m5, .int 0, .ref m6, .int 0, .int 0, .int 0, .int 0, .int 0, .int 0, .int 0, .int 0, .int 0, .int 0, .int (-1), .ref m7, .ref m8, .int 190, .ref m9, .int 21, .ref m10, .ref m11, .ref m12, .ref m13, .ref m14, .int 1, .ref m15, .ref m16, .ref m17]))] _ _ := w.pick [0, 3] rfl rfl
  refine r_top (g2 := F0 m 1980 ls [.int 1]) rfl ?_
  refine lv_istore (lv' := [(6, .int 1), (5, .int 0), (0, .ref b), (1, .ref q0), (2, .ref m0), (3, .ref o0), (4, .int 0)]) C.1 C.2.1 dL_law_1980 hl (by decide) rfl (fun ls hl => ?_)
  refine lv_aload_n C.1 C.2.1 dL_law_1982 rfl (lv_at hl 4 rfl) ?_
  refine r_callV C w fv_RL_134 (c_X12_thrown_9 l D cy m0 m1 m2 m3 m4 m5 m6 m7 m8 m9 m10 m11 m12 m13 m14 m15 m16 m17) (hl.1.trans hml.symm) [1] [0] (wr := [(o0, .inl (cy 2, 1, .inr (.inl (vp_updL (fun _ => 0) 0 1))))]) ⟨rfl, rfl, rfl, rfl, by decide⟩ 0 rfl rfl rfl rfl rfl ⟨Nat.le_of_ble_eq_true rfl, Nat.le_of_ble_eq_true rfl, Nat.le_of_ble_eq_true rfl⟩ 73 53662 ⟨rfl, rfl, Nat.le_of_ble_eq_true rfl, Nat.le_of_ble_eq_true rfl⟩ dL_law_1983 (fun u H locs hp w => ?_)
  have w : Wd D A s.heap [(o0, .inl (cy 2, 1, .inr (.inl (vp_updL (fun _ => 0) 0 1)))), (m0, .inr (12, [.ref m1, .ref m2, .ref m3, .ref m4, .ref m5, .int 0, .ref m6, .int 0, .int 0, .int 0, .int 0, .int 0, .int 0, .int 0, .int 0, .int 0, .int 0, .int (-1), .ref m7, .ref m8, .int 190, .ref m9, .int 21, .ref m10, .ref m11, .ref m12, .ref m13, .ref m14, .int 1, .ref m15, .ref m16, .ref m17]))] _ _ := w.pick [0, 1] rfl rfl
  refine r_top (g2 := F0 m 1986 ls [.int 0]) rfl ?_
  refine lv_iload C.1 C.2.1 dL_law_1986 (lv_at hl 1 rfl) ?_
  refine b_icmp_eq_t C (tgt := 1993) dL_law_1988 (by decide) (by decide) ?_
  refine lv_iload C.1 C.2.1 dL_law_1993 (lv_at hl 1 rfl) ?_
  refine b_if_ne_f C (tgt := 2010) dL_law_1995 (by decide) (by decide) ?_
  refine lv_aload_n C.1 C.2.1 dL_law_1998 rfl (lv_at hl 5 rfl) ?_
  refine lv_iconst (v := 0) C.1 C.2.1 dL_law_1999 (by decide) ?_
  refine r_lald C w 0 rfl (v := 1) (vinD (by decide)) rfl dL_law_2000 ?_
  refine lv_iload C.1 C.2.1 dL_law_2001 (lv_at hl 0 rfl) ?_
  refine lv_i2l (v := 1) C.1 C.2.1 dL_law_2003 (by decide) ?_
  refine r_lcmp C (v := 0) dL_law_2004 (by decide) ?_
  refine b_if_eq_t C (tgt := 2010) dL_law_2005 (by decide) (by decide) ?_
  refine lv_goto (tgt := 2461) C.1 C.2.1 dL_law_2010 (by decide) ?_
  refine W.widen (k := 600002) (n := 7302232) (Nat.le_of_ble_eq_true rfl) (Nat.le_of_ble_eq_true rfl) ?_
  exact kk _ _ _ w.2.2 (lv_sub hl [2, 6] rfl)
set_option maxRecDepth 100000 in
set_option maxHeartbeats 4000000 in
theorem t_L_28 {p : Program} {l : Launch} {e : Env} {s : State} {m : MethodId} {args : Array Value} {below : List Frame} {meth : Method} {c : Code} {Q : State → Prop} {D : va_G} {cy : Nat → ClassId} {A : Nat → Prop} {H : Heap} {locs : List Loc} {ls : Array Slot} {xs : Nat → Int32} (b q0 q1 q2 q4 q5 q6 q10 q3 q7 q8 q9 q11 q12 q13 q14 q15 q16 q17 m0 m1 m2 m3 m4 m5 m6 m7 m8 m9 m10 m11 m12 m13 m14 m15 m16 m17 o0 : Nat) (hst : l.stackTraces = false) (C : Cx p s m args c cL_law RL D cy A) (hml : c.maxLocals = 8) (hX : va_X b 6 xs s s.heap) (hbl : b < s.heap.size) (hbA : ¬ A b) (w : Wd D A s.heap [(q0, .inr (11, [.ref q1, .int 0, .int 0, .int (-1), .ref q2, .ref q4, .ref q5, .ref q6, .ref q10, .null])), (q1, .inl (cy 0, 900, .inl (fun _ => 0))), (q2, .inr (5, [.ref q3, .int 0, .int 0, .int 0, .int 0, .int 0, .int 0, .null])), (q3, .inl (cy 0, 0, .inl (fun _ => 0))), (q4, .inl (cy 4, 5, .inr (.inr (.inr (.inr (va_up (fun _ => none) 0 (some q10))))))), (q5, .inl (cy 4, 3, .inr (.inr (.inr (.inr (fun _ => none)))))), (q6, .inr (10, [.ref q7, .ref q8, .ref q9])), (q7, .inl (cy 1, 4, .inl (upd (upd (upd (upd (fun _ => 0) 0 (-1)) 1 (-1)) 2 (-1)) 3 (-1)))), (q8, .inl (cy 1, 4, .inl (fun _ => 0))), (q9, .inl (cy 2, 160, .inr (.inl (fun _ => 0)))), (q10, .inr (9, [.int 0, .int 2, .int 20, .int 120, .int 0, .int 0, .int 0, .int 0, .ref q11, .int 0, .ref q12, .ref q13, .int 0, .ref q14, .ref q15, .ref q16, .ref q17])), (q11, .inl (cy 1, 6, .inl (fun _ => 0))), (q12, .inl (cy 1, 20, .inl (fun _ => 0))), (q13, .inl (cy 1, 20, .inl (fun _ => 0))), (q14, .inl (cy 1, 300, .inl (fun _ => 0))), (q15, .inl (cy 1, 300, .inl (fun _ => 0))), (q16, .inl (cy 1, 300, .inl (fun _ => 0))), (q17, .inl (cy 1, 300, .inl (fun _ => 0))), (m0, .inr (12, [.ref m1, .ref m2, .ref m3, .ref m4, .ref m5, .int 0, .ref m6, .int 0, .int 0, .int 0, .int 0, .int 0, .int 0, .int 0, .int 0, .int 0, .int 0, .int (-1), .ref m7, .ref m8, .int 0, .ref m9, .int 0, .ref m10, .ref m11, .ref m12, .ref m13, .ref m14, .int 0, .ref m15, .ref m16, .ref m17])), (m2, .inl (cy 1, 1868, .inl (fun _ => 0))), (m3, .inl (cy 1, 1868, .inl (fun _ => 0))), (m4, .inl (cy 1, 5604, .inl (fun _ => 0))), (m5, .inl (cy 3, 3, .inl (fun _ => 0))), (m6, .inl (cy 1, 900, .inl (fun _ => 0))), (m7, .inl (cy 1, 1830, .inl (fun _ => 0))), (m8, .inl (cy 1, 1830, .inl (fun _ => 0))), (m9, .inl (cy 2, 2465, .inr (.inl (fun _ => 0)))), (m10, .inl (cy 1, 7201, .inl (fun _ => 0))), (m11, .inl (cy 1, 1830, .inl (fun _ => 0))), (m12, .inl (cy 1, 5, .inl (fun _ => 0))), (m13, .inl (cy 1, 6, .inl (fun _ => 0))), (m14, .inl (cy 1, 6, .inl (fun _ => 0))), (m15, .inl (cy 1, 4, .inl (upd (upd (upd (upd (fun _ => 0) 0 (-1)) 1 (-1)) 2 (-1)) 3 (-1)))), (m16, .inl (cy 1, 4, .inl (fun _ => 0))), (m17, .inl (cy 2, 160, .inr (.inl (fun _ => 0)))), (m1, .inl (cy 1, 1868, .inl (upd (upd (upd (fun _ => 0) 1 2) 2 20) 3 120))), (o0, .inl (cy 2, 1, .inr (.inl (fun _ => 0))))] H locs) (hl : lv_has ls 8 [(0, .ref b), (1, .ref q0), (2, .ref m0), (3, .ref o0), (4, .int 0)]) (kk : ∀ (H : Heap) (locs : List Loc) (ls : Array Slot), va_S A s.heap H locs → lv_has ls 8 [(0, .ref b), (4, .int 0)] → W p l e room_1 s m args below meth c H locs 600002 7302232 Q (F0 m 2461 ls [])) : W p l e room_1 s m args below meth c H locs 37 29845 Q (F0 m 1945 ls []) := by
  obtain ⟨y1, sx1⟩ : ∃ y, xs 1 = y := ⟨_, rfl⟩
  obtain ⟨y2, sx2⟩ : ∃ y, xs 2 = y := ⟨_, rfl⟩
  obtain ⟨y3, sx3⟩ : ∃ y, xs 3 = y := ⟨_, rfl⟩
  obtain ⟨y4, sx4⟩ : ∃ y, xs 4 = y := ⟨_, rfl⟩
  obtain ⟨y5, sx5⟩ : ∃ y, xs 5 = y := ⟨_, rfl⟩
  by_cases g1 : y1 < 0
  · exact s_L_28_0 b q0 q1 q2 q4 q5 q6 q10 m0 m1 m2 m3 m4 m5 m6 m7 m8 m9 m10 m11 m12 m13 m14 m15 m16 m17 o0 y1 y2 g1 sx1 sx2 hst C hml hX hbl hbA (w.pick [0, 18, 24, 25, 35] rfl rfl) hl kk
  · by_cases g2 : y1 < 190
    · by_cases g3 : y2 = (-1)
      · subst g3
        exact s_L_28_4 b q0 q1 q2 q4 q5 q6 q10 q11 q12 q13 q14 q15 q16 q17 m0 m1 m2 m3 m4 m5 m6 m7 m8 m9 m10 m11 m12 m13 m14 m15 m16 m17 o0 y1 g1 g2 sx1 sx2 C hml hX hbl hbA (w.pick [0, 10, 18, 20, 24, 25, 26, 35, 36] rfl rfl) hl kk
      · by_cases g4 : y2 < 0
        · exact s_L_28_2 b q0 q1 q2 q4 q5 q6 q10 q11 q12 q13 q14 q15 q16 q17 m0 m1 m2 m3 m4 m5 m6 m7 m8 m9 m10 m11 m12 m13 m14 m15 m16 m17 o0 y1 y2 g1 g2 g3 g4 sx1 sx2 C hml hX hbl hbA (w.pick [0, 10, 18, 20, 24, 25, 26, 35, 36] rfl rfl) hl kk
        · exact s_L_28_3 b q0 q1 q2 q4 q5 q6 q10 q11 q12 q13 q14 q15 q16 q17 m0 m1 m2 m3 m4 m5 m6 m7 m8 m9 m10 m11 m12 m13 m14 m15 m16 m17 o0 y1 y2 g1 g2 g3 g4 sx1 sx2 C hml hX hbl hbA (w.pick [0, 10, 18, 20, 24, 25, 26, 35, 36] rfl rfl) hl kk
    · exact s_L_28_1 b q0 q1 q2 q4 q5 q6 q10 q11 q12 q13 q14 q15 q16 q17 m0 m1 m2 m3 m4 m5 m6 m7 m8 m9 m10 m11 m12 m13 m14 m15 m16 m17 o0 y1 y2 g1 g2 sx1 sx2 hst C hml hX hbl hbA (w.pick [0, 10, 18, 24, 25, 35] rfl rfl) hl kk
theorem dL_law_2013 : decode cL_law 2013 = .ok (.aload_n 1, 1) := by decide +kernel
theorem dL_law_2014 : decode cL_law 2014 = .ok (.aload_n 0, 1) := by decide +kernel
theorem dL_law_2015 : decode cL_law 2015 = .ok (.iload 4, 2) := by decide +kernel
theorem dL_law_2017 : decode cL_law 2017 = .ok (.iconst 1, 1) := by decide +kernel
theorem dL_law_2018 : decode cL_law 2018 = .ok (.iadd, 1) := by decide +kernel
theorem dL_law_2019 : decode cL_law 2019 = .ok (.iaload, 1) := by decide +kernel
theorem dL_law_2020 : decode cL_law 2020 = .ok (.aload_n 3, 1) := by decide +kernel
theorem dL_law_2021 : decode cL_law 2021 = .ok (.invokestatic 226, 3) := by decide +kernel
theorem fh_RL_226 : FH RL 226 yL_mended cL_mended 4 (some .int) [(0, 9, 12, 13)] 3 := ⟨⟨gw_mem (by decide +kernel) (by decide +kernel), gw_mem (by decide +kernel) (by decide +kernel), gw_mem (by decide +kernel) (by decide +kernel), gw_mem (by decide +kernel) (by decide +kernel)⟩, ⟨by decide +kernel, by decide +kernel, by decide +kernel⟩⟩
theorem dL_law_2024 : decode cL_law 2024 = .ok (.istore 5, 2) := by decide +kernel
theorem dL_law_2026 : decode cL_law 2026 = .ok (.aload_n 2, 1) := by decide +kernel
theorem dL_law_2027 : decode cL_law 2027 = .ok (.aload_n 0, 1) := by decide +kernel
theorem dL_law_2028 : decode cL_law 2028 = .ok (.iload 4, 2) := by decide +kernel
theorem dL_law_2030 : decode cL_law 2030 = .ok (.iconst 1, 1) := by decide +kernel
theorem dL_law_2031 : decode cL_law 2031 = .ok (.iadd, 1) := by decide +kernel
theorem dL_law_2032 : decode cL_law 2032 = .ok (.iaload, 1) := by decide +kernel
theorem dL_law_2033 : decode cL_law 2033 = .ok (.invokevirtual 228, 3) := by decide +kernel
theorem fv_RL_228 : FV RL 228 yX12_mended cX12_mended 6 (some .int) 1 := ⟨⟨gw_mem (by decide +kernel) (by decide +kernel), gw_mem (by decide +kernel) (by decide +kernel), gw_mem (by decide +kernel) (by decide +kernel), gw_mem (by decide +kernel) (by decide +kernel), gw_mem (by decide +kernel) (by decide +kernel)⟩, ⟨by decide +kernel, by decide +kernel, by decide +kernel⟩⟩
theorem dL_law_2036 : decode cL_law 2036 = .ok (.istore 6, 2) := by decide +kernel
theorem dL_law_2038 : decode cL_law 2038 = .ok (.aload_n 2, 1) := by decide +kernel
theorem dL_law_2039 : decode cL_law 2039 = .ok (.invokevirtual 134, 3) := by decide +kernel
theorem dL_law_2042 : decode cL_law 2042 = .ok (.iload 5, 2) := by decide +kernel
theorem dL_law_2044 : decode cL_law 2044 = .ok (.if_icmp .eq 5, 3) := by decide +kernel
theorem dL_law_2049 : decode cL_law 2049 = .ok (.iload 5, 2) := by decide +kernel
theorem dL_law_2051 : decode cL_law 2051 = .ok (.ifCond .ne 15, 3) := by decide +kernel
theorem dL_law_2066 : decode cL_law 2066 = .ok (.goto 395, 3) := by decide +kernel
set_option maxRecDepth 100000 in
set_option maxHeartbeats 4000000 in
theorem s_L_29_0 {p : Program} {l : Launch} {e : Env} {s : State} {m : MethodId} {args : Array Value} {below : List Frame} {meth : Method} {c : Code} {Q : State → Prop} {D : va_G} {cy : Nat → ClassId} {A : Nat → Prop} {H : Heap} {locs : List Loc} {ls : Array Slot} {xs : Nat → Int32} (b q0 q1 q2 q4 q5 q6 q10 m0 m1 m2 m3 m4 m5 m6 m7 m8 m9 m10 m11 m12 m13 m14 m15 m16 m17 o0 : Nat) (y1 : Int32) (k0 : y1 < 0) (sx1 : xs 1 = y1) (hst : l.stackTraces = false) (C : Cx p s m args c cL_law RL D cy A) (hml : c.maxLocals = 8) (hX : va_X b 6 xs s s.heap) (hbl : b < s.heap.size) (hbA : ¬ A b) (w : Wd D A s.heap [(q0, .inr (11, [.ref q1, .int 0, .int 0, .int (-1), .ref q2, .ref q4, .ref q5, .ref q6, .ref q10, .null])), (m0, .inr (12, [.ref m1, .ref m2, .ref m3, .ref m4, .ref m5, .int 0, .ref m6, .int 0, .int 0, .int 0, .int 0, .int 0, .int 0, .int 0, .int 0, .int 0, .int 0, .int (-1), .ref m7, .ref m8, .int 0, .ref m9, .int 0, .ref m10, .ref m11, .ref m12, .ref m13, .ref m14, .int 0, .ref m15, .ref m16, .ref m17]))] H locs) (hl : lv_has ls 8 [(0, .ref b), (1, .ref q0), (2, .ref m0), (3, .ref o0), (4, .int 0)]) (kk : ∀ (H : Heap) (locs : List Loc) (ls : Array Slot), va_S A s.heap H locs → lv_has ls 8 [(0, .ref b), (4, .int 0)] → W p l e room_1 s m args below meth c H locs 600002 7302232 Q (F0 m 2461 ls [])) : W p l e room_1 s m args below meth c H locs 37 29845 Q (F0 m 2013 ls []) := by
  refine lv_aload_n C.1 C.2.1 dL_law_2013 rfl (lv_at hl 1 rfl) ?_
  refine lv_aload_n C.1 C.2.1 dL_law_2014 rfl (lv_at hl 0 rfl) ?_
  refine lv_iload C.1 C.2.1 dL_law_2015 (lv_at hl 4 rfl) ?_
  refine lv_iconst (v := 1) C.1 C.2.1 dL_law_2017 (by decide) ?_
  refine r_iadd C (v := 1) dL_law_2018 (by decide) ?_
  refine r_sld C w hX hbl hbA (v := y1) (vinD (by decide)) sx1 dL_law_2019 ?_
  refine lv_aload_n C.1 C.2.1 dL_law_2020 rfl (lv_at hl 3 rfl) ?_
  refine r_callH C w fh_RL_226 (c_L_mended_0 l D cy q0 o0 q1 q2 q4 q5 q6 q10 y1 k0 hst) (hl.1.trans hml.symm) [0] [1] (wr := [(m0, .inr (12, [.ref m1, .ref m2, .ref m3, .ref m4, .ref m5, .int 0, .ref m6, .int 0, .int 0, .int 0, .int 0, .int 0, .int 0, .int 0, .int 0, .int 0, .int 0, .int (-1), .ref m7, .ref m8, .int 0, .ref m9, .int 0, .ref m10, .ref m11, .ref m12, .ref m13, .ref m14, .int 0, .ref m15, .ref m16, .ref m17]))]) ⟨rfl, rfl, rfl, rfl, by decide⟩ rfl rfl ⟨Nat.le_of_ble_eq_true rfl, Nat.le_of_ble_eq_true rfl, Nat.le_of_ble_eq_true rfl⟩ 38 29851 ⟨rfl, rfl, Nat.le_of_ble_eq_true rfl, Nat.le_of_ble_eq_true rfl⟩ dL_law_2021 (fun u H locs hp w => ?_)
  have w : Wd D A s.heap [(m0, .inr (12, [.ref m1, .ref m2, .ref m3, .ref m4, .ref m5, .int 0, .ref m6, .int 0, .int 0, .int 0, .int 0, .int 0, .int 0, .int 0, .int 0, .int 0, .int 0, .int (-1), .ref m7, .ref m8, .int 0, .ref m9, .int 0, .ref m10, .ref m11, .ref m12, .ref m13, .ref m14, .int 0, .ref m15, .ref m16, .ref m17]))] _ _ := w.pick [0] rfl rfl
  refine r_top (g2 := F0 m 2024 ls [.int 1]) rfl ?_
  refine lv_istore (lv' := [(5, .int 1), (0, .ref b), (1, .ref q0), (2, .ref m0), (3, .ref o0), (4, .int 0)]) C.1 C.2.1 dL_law_2024 hl (by decide) rfl (fun ls hl => ?_)
  refine lv_aload_n C.1 C.2.1 dL_law_2026 rfl (lv_at hl 3 rfl) ?_
  refine lv_aload_n C.1 C.2.1 dL_law_2027 rfl (lv_at hl 1 rfl) ?_
  refine lv_iload C.1 C.2.1 dL_law_2028 (lv_at hl 5 rfl) ?_
  refine lv_iconst (v := 1) C.1 C.2.1 dL_law_2030 (by decide) ?_
  refine r_iadd C (v := 1) dL_law_2031 (by decide) ?_
  refine r_sld C w hX hbl hbA (v := y1) (vinD (by decide)) sx1 dL_law_2032 ?_
  refine r_callV C w fv_RL_228 (c_X12_mended_0 l D cy m0 m1 m2 m3 m4 m5 m6 m7 m8 m9 m10 m11 m12 m13 m14 m15 m16 m17 y1 k0) (hl.1.trans hml.symm) [0] [] (wr := []) ⟨rfl, rfl, rfl, rfl, by decide⟩ 0 rfl rfl rfl rfl rfl ⟨Nat.le_of_ble_eq_true rfl, Nat.le_of_ble_eq_true rfl, Nat.le_of_ble_eq_true rfl⟩ 38 29851 ⟨rfl, rfl, Nat.le_of_ble_eq_true rfl, Nat.le_of_ble_eq_true rfl⟩ dL_law_2033 (fun u H locs hp w => ?_)
  have w : Wd D A s.heap [(m0, .inr (12, [.ref m1, .ref m2, .ref m3, .ref m4, .ref m5, .int 1, .ref m6, .int 0, .int 0, .int 0, .int 0, .int 0, .int 0, .int 0, .int 0, .int 0, .int 0, .int (-1), .ref m7, .ref m8, .int 0, .ref m9, .int 0, .ref m10, .ref m11, .ref m12, .ref m13, .ref m14, .int 0, .ref m15, .ref m16, .ref m17]))] _ _ := w.pick [0] rfl rfl
  refine r_top (g2 := F0 m 2036 ls [.int 0]) rfl ?_
  refine lv_istore (lv' := [(6, .int 0), (5, .int 1), (0, .ref b), (1, .ref q0), (2, .ref m0), (3, .ref o0), (4, .int 0)]) C.1 C.2.1 dL_law_2036 hl (by decide) rfl (fun ls hl => ?_)
  refine lv_aload_n C.1 C.2.1 dL_law_2038 rfl (lv_at hl 4 rfl) ?_
  refine r_callV C w fv_RL_134 (c_X12_thrown_0 l D cy m0 m1 m2 m3 m4 m5 m6 m7 m8 m9 m10 m11 m12 m13 m14 m15 m16 m17) (hl.1.trans hml.symm) [0] [] (wr := []) ⟨rfl, rfl, rfl, rfl, by decide⟩ 0 rfl rfl rfl rfl rfl ⟨Nat.le_of_ble_eq_true rfl, Nat.le_of_ble_eq_true rfl, Nat.le_of_ble_eq_true rfl⟩ 38 29851 ⟨rfl, rfl, Nat.le_of_ble_eq_true rfl, Nat.le_of_ble_eq_true rfl⟩ dL_law_2039 (fun u H locs hp w => ?_)
  have w : Wd D A s.heap [(m0, .inr (12, [.ref m1, .ref m2, .ref m3, .ref m4, .ref m5, .int 1, .ref m6, .int 0, .int 0, .int 0, .int 0, .int 0, .int 0, .int 0, .int 0, .int 0, .int 0, .int (-1), .ref m7, .ref m8, .int 0, .ref m9, .int 0, .ref m10, .ref m11, .ref m12, .ref m13, .ref m14, .int 0, .ref m15, .ref m16, .ref m17]))] _ _ := w.pick [0] rfl rfl
  refine r_top (g2 := F0 m 2042 ls [.int 1]) rfl ?_
  refine lv_iload C.1 C.2.1 dL_law_2042 (lv_at hl 1 rfl) ?_
  refine b_icmp_eq_t C (tgt := 2049) dL_law_2044 (by decide) (by decide) ?_
  refine lv_iload C.1 C.2.1 dL_law_2049 (lv_at hl 1 rfl) ?_
  refine b_if_ne_t C (tgt := 2066) dL_law_2051 (by decide) (by decide) ?_
  refine lv_goto (tgt := 2461) C.1 C.2.1 dL_law_2066 (by decide) ?_
  refine W.widen (k := 600002) (n := 7302232) (Nat.le_of_ble_eq_true rfl) (Nat.le_of_ble_eq_true rfl) ?_
  exact kk _ _ _ w.2.2 (lv_sub hl [2, 6] rfl)
theorem dL_law_2054 : decode cL_law 2054 = .ok (.aload_n 3, 1) := by decide +kernel
theorem dL_law_2055 : decode cL_law 2055 = .ok (.iconst 0, 1) := by decide +kernel
theorem dL_law_2056 : decode cL_law 2056 = .ok (.laload, 1) := by decide +kernel
theorem dL_law_2057 : decode cL_law 2057 = .ok (.iload 6, 2) := by decide +kernel
theorem dL_law_2059 : decode cL_law 2059 = .ok (.i2l, 1) := by decide +kernel
theorem dL_law_2060 : decode cL_law 2060 = .ok (.lcmp, 1) := by decide +kernel
theorem dL_law_2061 : decode cL_law 2061 = .ok (.ifCond .eq 5, 3) := by decide +kernel
set_option maxRecDepth 100000 in
set_option maxHeartbeats 4000000 in
theorem s_L_29_1 {p : Program} {l : Launch} {e : Env} {s : State} {m : MethodId} {args : Array Value} {below : List Frame} {meth : Method} {c : Code} {Q : State → Prop} {D : va_G} {cy : Nat → ClassId} {A : Nat → Prop} {H : Heap} {locs : List Loc} {ls : Array Slot} {xs : Nat → Int32} (b q0 q1 q2 q4 q5 q6 q10 q11 q12 q13 q14 q15 q16 q17 m0 m1 m2 m3 m4 m5 m6 m7 m8 m9 m10 m11 m12 m13 m14 m15 m16 m17 o0 : Nat) (y1 : Int32) (k0 : ¬ y1 < 0) (k1 : y1 ≤ 2) (k2 : ¬ y1 = 0) (k3 : ¬ y1 = 1) (sx1 : xs 1 = y1) (C : Cx p s m args c cL_law RL D cy A) (hml : c.maxLocals = 8) (hX : va_X b 6 xs s s.heap) (hbl : b < s.heap.size) (hbA : ¬ A b) (w : Wd D A s.heap [(q0, .inr (11, [.ref q1, .int 0, .int 0, .int (-1), .ref q2, .ref q4, .ref q5, .ref q6, .ref q10, .null])), (q10, .inr (9, [.int 0, .int 2, .int 20, .int 120, .int 0, .int 0, .int 0, .int 0, .ref q11, .int 0, .ref q12, .ref q13, .int 0, .ref q14, .ref q15, .ref q16, .ref q17])), (m0, .inr (12, [.ref m1, .ref m2, .ref m3, .ref m4, .ref m5, .int 0, .ref m6, .int 0, .int 0, .int 0, .int 0, .int 0, .int 0, .int 0, .int 0, .int 0, .int 0, .int (-1), .ref m7, .ref m8, .int 0, .ref m9, .int 0, .ref m10, .ref m11, .ref m12, .ref m13, .ref m14, .int 0, .ref m15, .ref m16, .ref m17])), (m1, .inl (cy 1, 1868, .inl (upd (upd (upd (fun _ => 0) 1 2) 2 20) 3 120))), (o0, .inl (cy 2, 1, .inr (.inl (fun _ => 0))))] H locs) (hl : lv_has ls 8 [(0, .ref b), (1, .ref q0), (2, .ref m0), (3, .ref o0), (4, .int 0)]) (kk : ∀ (H : Heap) (locs : List Loc) (ls : Array Slot), va_S A s.heap H locs → lv_has ls 8 [(0, .ref b), (4, .int 0)] → W p l e room_1 s m args below meth c H locs 600002 7302232 Q (F0 m 2461 ls [])) : W p l e room_1 s m args below meth c H locs 37 29845 Q (F0 m 2013 ls []) := by
  refine lv_aload_n C.1 C.2.1 dL_law_2013 rfl (lv_at hl 1 rfl) ?_
  refine lv_aload_n C.1 C.2.1 dL_law_2014 rfl (lv_at hl 0 rfl) ?_
  refine lv_iload C.1 C.2.1 dL_law_2015 (lv_at hl 4 rfl) ?_
  refine lv_iconst (v := 1) C.1 C.2.1 dL_law_2017 (by decide) ?_
  refine r_iadd C (v := 1) dL_law_2018 (by decide) ?_
  refine r_sld C w hX hbl hbA (v := y1) (vinD (by decide)) sx1 dL_law_2019 ?_
  refine lv_aload_n C.1 C.2.1 dL_law_2020 rfl (lv_at hl 3 rfl) ?_
  refine r_callH C w fh_RL_226 (c_L_mended_1 l D cy q0 o0 q1 q2 q4 q5 q6 q10 q11 q12 q13 q14 q15 q16 q17 y1 k0 k1 k2 k3) (hl.1.trans hml.symm) [0, 1, 4] [2, 3] (wr := [(m0, .inr (12, [.ref m1, .ref m2, .ref m3, .ref m4, .ref m5, .int 0, .ref m6, .int 0, .int 0, .int 0, .int 0, .int 0, .int 0, .int 0, .int 0, .int 0, .int 0, .int (-1), .ref m7, .ref m8, .int 0, .ref m9, .int 0, .ref m10, .ref m11, .ref m12, .ref m13, .ref m14, .int 0, .ref m15, .ref m16, .ref m17])), (m1, .inl (cy 1, 1868, .inl (upd (upd (upd (fun _ => 0) 1 2) 2 20) 3 120)))]) ⟨rfl, rfl, rfl, rfl, by decide⟩ rfl rfl ⟨Nat.le_of_ble_eq_true rfl, Nat.le_of_ble_eq_true rfl, Nat.le_of_ble_eq_true rfl⟩ 73 53662 ⟨rfl, rfl, Nat.le_of_ble_eq_true rfl, Nat.le_of_ble_eq_true rfl⟩ dL_law_2021 (fun u H locs hp w => ?_)
  obtain ⟨n1, n2, n3, n4, n5, n6, n7, n8, n9, n10, n11, n12, n13, n14, n15, n16, n17, n18, n19, n20, n21, n22, n23, n24, n25, n26, n27, n28, n29, n30, n31, n32, n33, n34, n35, n36⟩ := u
  have w : Wd D A s.heap [(m0, .inr (12, [.ref m1, .ref m2, .ref m3, .ref m4, .ref m5, .int 0, .ref m6, .int 0, .int 0, .int 0, .int 0, .int 0, .int 0, .int 0, .int 0, .int 0, .int 0, .int (-1), .ref m7, .ref m8, .int 0, .ref m9, .int 0, .ref m10, .ref m11, .ref m12, .ref m13, .ref m14, .int 0, .ref m15, .ref m16, .ref m17])), (m1, .inl (cy 1, 1868, .inl (upd (upd (upd (fun _ => 0) 1 2) 2 20) 3 120))), (o0, .inl (cy 2, 1, .inr (.inl (vp_updL (fun _ => 0) 0 (-1)))))] _ _ := w.pick [0, 1, 2] rfl rfl
  refine r_top (g2 := F0 m 2024 ls [.int 0]) rfl ?_
  refine lv_istore (lv' := [(5, .int 0), (0, .ref b), (1, .ref q0), (2, .ref m0), (3, .ref o0), (4, .int 0)]) C.1 C.2.1 dL_law_2024 hl (by decide) rfl (fun ls hl => ?_)
  refine lv_aload_n C.1 C.2.1 dL_law_2026 rfl (lv_at hl 3 rfl) ?_
  refine lv_aload_n C.1 C.2.1 dL_law_2027 rfl (lv_at hl 1 rfl) ?_
  refine lv_iload C.1 C.2.1 dL_law_2028 (lv_at hl 5 rfl) ?_
  refine lv_iconst (v := 1) C.1 C.2.1 dL_law_2030 (by decide) ?_
  refine r_iadd C (v := 1) dL_law_2031 (by decide) ?_
  refine r_sld C w hX hbl hbA (v := y1) (vinD (by decide)) sx1 dL_law_2032 ?_
  refine r_callV C w fv_RL_228 (c_X12_mended_1 l D cy m0 m1 m2 m3 m4 m5 m6 m7 m8 m9 m10 m11 m12 m13 m14 m15 m16 m17 y1 k0 (by have h0 := (i_nlt k0); have h1 := (i_le k1); have e0 : (0 : Int32).toInt = 0 := (by decide); have e1 : (2 : Int32).toInt = 2 := (by decide); rw [fa_lt]; omega)) (hl.1.trans hml.symm) [0, 1] [2] (wr := [(o0, .inl (cy 2, 1, .inr (.inl (vp_updL (fun _ => 0) 0 (-1)))))]) ⟨rfl, rfl, rfl, rfl, by decide⟩ 0 rfl rfl rfl rfl rfl ⟨Nat.le_of_ble_eq_true rfl, Nat.le_of_ble_eq_true rfl, Nat.le_of_ble_eq_true rfl⟩ 73 53662 ⟨rfl, rfl, Nat.le_of_ble_eq_true rfl, Nat.le_of_ble_eq_true rfl⟩ dL_law_2033 (fun u H locs hp w => ?_)
  have w : Wd D A s.heap [(o0, .inl (cy 2, 1, .inr (.inl (vp_updL (fun _ => 0) 0 (-1))))), (m0, .inr (12, [.ref m1, .ref m2, .ref m3, .ref m4, .ref m5, .int 0, .ref m6, .int 0, .int 0, .int 0, .int 0, .int 0, .int 0, .int 0, .int 0, .int 0, .int 0, .int (-1), .ref m7, .ref m8, .int 0, .ref m9, .int 0, .ref m10, .ref m11, .ref m12, .ref m13, .ref m14, .int 0, .ref m15, .ref m16, .ref m17]))] _ _ := w.pick [0, 1] rfl rfl
  refine r_top (g2 := F0 m 2036 ls [.int (-1)]) rfl ?_
  refine lv_istore (lv' := [(6, .int (-1)), (5, .int 0), (0, .ref b), (1, .ref q0), (2, .ref m0), (3, .ref o0), (4, .int 0)]) C.1 C.2.1 dL_law_2036 hl (by decide) rfl (fun ls hl => ?_)
  refine lv_aload_n C.1 C.2.1 dL_law_2038 rfl (lv_at hl 4 rfl) ?_
  refine r_callV C w fv_RL_134 (c_X12_thrown_1 l D cy m0 m1 m2 m3 m4 m5 m6 m7 m8 m9 m10 m11 m12 m13 m14 m15 m16 m17) (hl.1.trans hml.symm) [1] [0] (wr := [(o0, .inl (cy 2, 1, .inr (.inl (vp_updL (fun _ => 0) 0 (-1)))))]) ⟨rfl, rfl, rfl, rfl, by decide⟩ 0 rfl rfl rfl rfl rfl ⟨Nat.le_of_ble_eq_true rfl, Nat.le_of_ble_eq_true rfl, Nat.le_of_ble_eq_true rfl⟩ 73 53662 ⟨rfl, rfl, Nat.le_of_ble_eq_true rfl, Nat.le_of_ble_eq_true rfl⟩ dL_law_2039 (fun u H locs hp w => ?_)
  have w : Wd D A s.heap [(o0, .inl (cy 2, 1, .inr (.inl (vp_updL (fun _ => 0) 0 (-1))))), (m0, .inr (12, [.ref m1, .ref m2, .ref m3, .ref m4, .ref m5, .int 0, .ref m6, .int 0, .int 0, .int 0, .int 0, .int 0, .int 0, .int 0, .int 0, .int 0, .int 0, .int (-1), .ref m7, .ref m8, .int 0, .ref m9, .int 0, .ref m10, .ref m11, .ref m12, .ref m13, .ref m14, .int 0, .ref m15, .ref m16, .ref m17]))] _ _ := w.pick [0, 1] rfl rfl
  refine r_top (g2 := F0 m 2042 ls [.int 0]) rfl ?_
  refine lv_iload C.1 C.2.1 dL_law_2042 (lv_at hl 1 rfl) ?_
  refine b_icmp_eq_t C (tgt := 2049) dL_law_2044 (by decide) (by decide) ?_
  refine lv_iload C.1 C.2.1 dL_law_2049 (lv_at hl 1 rfl) ?_
  refine b_if_ne_f C (tgt := 2066) dL_law_2051 (by decide) (by decide) ?_
  refine lv_aload_n C.1 C.2.1 dL_law_2054 rfl (lv_at hl 5 rfl) ?_
  refine lv_iconst (v := 0) C.1 C.2.1 dL_law_2055 (by decide) ?_
  refine r_lald C w 0 rfl (v := (-1)) (vinD (by decide)) rfl dL_law_2056 ?_
  refine lv_iload C.1 C.2.1 dL_law_2057 (lv_at hl 0 rfl) ?_
  refine lv_i2l (v := (-1)) C.1 C.2.1 dL_law_2059 (by decide) ?_
  refine r_lcmp C (v := 0) dL_law_2060 (by decide) ?_
  refine b_if_eq_t C (tgt := 2066) dL_law_2061 (by decide) (by decide) ?_
  refine lv_goto (tgt := 2461) C.1 C.2.1 dL_law_2066 (by decide) ?_
  refine W.widen (k := 600002) (n := 7302232) (Nat.le_of_ble_eq_true rfl) (Nat.le_of_ble_eq_true rfl) ?_
  exact kk _ _ _ w.2.2 (lv_sub hl [2, 6] rfl)
set_option maxRecDepth 100000 in
set_option maxHeartbeats 4000000 in
theorem s_L_29_2 {p : Program} {l : Launch} {e : Env} {s : State} {m : MethodId} {args : Array Value} {below : List Frame} {meth : Method} {c : Code} {Q : State → Prop} {D : va_G} {cy : Nat → ClassId} {A : Nat → Prop} {H : Heap} {locs : List Loc} {ls : Array Slot} {xs : Nat → Int32} (b q0 q1 q2 q4 q5 q6 q10 q11 q12 q13 q14 q15 q16 q17 m0 m1 m2 m3 m4 m5 m6 m7 m8 m9 m10 m11 m12 m13 m14 m15 m16 m17 o0 : Nat) (sx1 : xs 1 = 1) (C : Cx p s m args c cL_law RL D cy A) (hml : c.maxLocals = 8) (hX : va_X b 6 xs s s.heap) (hbl : b < s.heap.size) (hbA : ¬ A b) (w : Wd D A s.heap [(q0, .inr (11, [.ref q1, .int 0, .int 0, .int (-1), .ref q2, .ref q4, .ref q5, .ref q6, .ref q10, .null])), (q10, .inr (9, [.int 0, .int 2, .int 20, .int 120, .int 0, .int 0, .int 0, .int 0, .ref q11, .int 0, .ref q12, .ref q13, .int 0, .ref q14, .ref q15, .ref q16, .ref q17])), (m0, .inr (12, [.ref m1, .ref m2, .ref m3, .ref m4, .ref m5, .int 0, .ref m6, .int 0, .int 0, .int 0, .int 0, .int 0, .int 0, .int 0, .int 0, .int 0, .int 0, .int (-1), .ref m7, .ref m8, .int 0, .ref m9, .int 0, .ref m10, .ref m11, .ref m12, .ref m13, .ref m14, .int 0, .ref m15, .ref m16, .ref m17])), (m1, .inl (cy 1, 1868, .inl (upd (upd (upd (fun _ => 0) 1 2) 2 20) 3 120))), (o0, .inl (cy 2, 1, .inr (.inl (fun _ => 0))))] H locs) (hl : lv_has ls 8 [(0, .ref b), (1, .ref q0), (2, .ref m0), (3, .ref o0), (4, .int 0)]) (kk : ∀ (H : Heap) (locs : List Loc) (ls : Array Slot), va_S A s.heap H locs → lv_has ls 8 [(0, .ref b), (4, .int 0)] → W p l e room_1 s m args below meth c H locs 600002 7302232 Q (F0 m 2461 ls [])) : W p l e room_1 s m args below meth c H locs 37 29845 Q (F0 m 2013 ls []) := by
  refine lv_aload_n C.1 C.2.1 dL_law_2013 rfl (lv_at hl 1 rfl) ?_
  refine lv_aload_n C.1 C.2.1 dL_law_2014 rfl (lv_at hl 0 rfl) ?_
  refine lv_iload C.1 C.2.1 dL_law_2015 (lv_at hl 4 rfl) ?_
  refine lv_iconst (v := 1) C.1 C.2.1 dL_law_2017 (by decide) ?_
  refine r_iadd C (v := 1) dL_law_2018 (by decide) ?_
  refine r_sld C w hX hbl hbA (v := 1) (vinD (by decide)) sx1 dL_law_2019 ?_
  refine lv_aload_n C.1 C.2.1 dL_law_2020 rfl (lv_at hl 3 rfl) ?_
  refine r_callH C w fh_RL_226 (c_L_mended_2 l D cy q0 o0 q1 q2 q4 q5 q6 q10 q11 q12 q13 q14 q15 q16 q17) (hl.1.trans hml.symm) [0, 1, 4] [2, 3] (wr := [(m0, .inr (12, [.ref m1, .ref m2, .ref m3, .ref m4, .ref m5, .int 0, .ref m6, .int 0, .int 0, .int 0, .int 0, .int 0, .int 0, .int 0, .int 0, .int 0, .int 0, .int (-1), .ref m7, .ref m8, .int 0, .ref m9, .int 0, .ref m10, .ref m11, .ref m12, .ref m13, .ref m14, .int 0, .ref m15, .ref m16, .ref m17])), (m1, .inl (cy 1, 1868, .inl (upd (upd (upd (fun _ => 0) 1 2) 2 20) 3 120)))]) ⟨rfl, rfl, rfl, rfl, by decide⟩ rfl rfl ⟨Nat.le_of_ble_eq_true rfl, Nat.le_of_ble_eq_true rfl, Nat.le_of_ble_eq_true rfl⟩ 73 53662 ⟨rfl, rfl, Nat.le_of_ble_eq_true rfl, Nat.le_of_ble_eq_true rfl⟩ dL_law_2021 (fun u H locs hp w => ?_)
  obtain ⟨n1, n2, n3, n4, n5, n6, n7, n8, n9, n10, n11, n12, n13, n14, n15, n16, n17, n18, n19, n20, n21, n22, n23, n24, n25, n26, n27, n28, n29, n30, n31, n32, n33, n34, n35, n36⟩ := u
  have w : Wd D A s.heap [(m0, .inr (12, [.ref m1, .ref m2, .ref m3, .ref m4, .ref m5, .int 0, .ref m6, .int 0, .int 0, .int 0, .int 0, .int 0, .int 0, .int 0, .int 0, .int 0, .int 0, .int (-1), .ref m7, .ref m8, .int 0, .ref m9, .int 0, .ref m10, .ref m11, .ref m12, .ref m13, .ref m14, .int 0, .ref m15, .ref m16, .ref m17])), (m1, .inl (cy 1, 1868, .inl (upd (upd (upd (fun _ => 0) 1 2) 2 20) 3 120))), (o0, .inl (cy 2, 1, .inr (.inl (vp_updL (fun _ => 0) 0 (-1)))))] _ _ := w.pick [0, 1, 2] rfl rfl
  refine r_top (g2 := F0 m 2024 ls [.int 0]) rfl ?_
  refine lv_istore (lv' := [(5, .int 0), (0, .ref b), (1, .ref q0), (2, .ref m0), (3, .ref o0), (4, .int 0)]) C.1 C.2.1 dL_law_2024 hl (by decide) rfl (fun ls hl => ?_)
  refine lv_aload_n C.1 C.2.1 dL_law_2026 rfl (lv_at hl 3 rfl) ?_
  refine lv_aload_n C.1 C.2.1 dL_law_2027 rfl (lv_at hl 1 rfl) ?_
  refine lv_iload C.1 C.2.1 dL_law_2028 (lv_at hl 5 rfl) ?_
  refine lv_iconst (v := 1) C.1 C.2.1 dL_law_2030 (by decide) ?_
  refine r_iadd C (v := 1) dL_law_2031 (by decide) ?_
  refine r_sld C w hX hbl hbA (v := 1) (vinD (by decide)) sx1 dL_law_2032 ?_
  refine r_callV C w fv_RL_228 (c_X12_mended_1 l D cy m0 m1 m2 m3 m4 m5 m6 m7 m8 m9 m10 m11 m12 m13 m14 m15 m16 m17 1 (by decide) (by decide)) (hl.1.trans hml.symm) [0, 1] [2] (wr := [(o0, .inl (cy 2, 1, .inr (.inl (vp_updL (fun _ => 0) 0 (-1)))))]) ⟨rfl, rfl, rfl, rfl, by decide⟩ 0 rfl rfl rfl rfl rfl ⟨Nat.le_of_ble_eq_true rfl, Nat.le_of_ble_eq_true rfl, Nat.le_of_ble_eq_true rfl⟩ 73 53662 ⟨rfl, rfl, Nat.le_of_ble_eq_true rfl, Nat.le_of_ble_eq_true rfl⟩ dL_law_2033 (fun u H locs hp w => ?_)
  have w : Wd D A s.heap [(o0, .inl (cy 2, 1, .inr (.inl (vp_updL (fun _ => 0) 0 (-1))))), (m0, .inr (12, [.ref m1, .ref m2, .ref m3, .ref m4, .ref m5, .int 0, .ref m6, .int 0, .int 0, .int 0, .int 0, .int 0, .int 0, .int 0, .int 0, .int 0, .int 0, .int (-1), .ref m7, .ref m8, .int 0, .ref m9, .int 0, .ref m10, .ref m11, .ref m12, .ref m13, .ref m14, .int 0, .ref m15, .ref m16, .ref m17]))] _ _ := w.pick [0, 1] rfl rfl
  refine r_top (g2 := F0 m 2036 ls [.int (-1)]) rfl ?_
  refine lv_istore (lv' := [(6, .int (-1)), (5, .int 0), (0, .ref b), (1, .ref q0), (2, .ref m0), (3, .ref o0), (4, .int 0)]) C.1 C.2.1 dL_law_2036 hl (by decide) rfl (fun ls hl => ?_)
  refine lv_aload_n C.1 C.2.1 dL_law_2038 rfl (lv_at hl 4 rfl) ?_
  refine r_callV C w fv_RL_134 (c_X12_thrown_1 l D cy m0 m1 m2 m3 m4 m5 m6 m7 m8 m9 m10 m11 m12 m13 m14 m15 m16 m17) (hl.1.trans hml.symm) [1] [0] (wr := [(o0, .inl (cy 2, 1, .inr (.inl (vp_updL (fun _ => 0) 0 (-1)))))]) ⟨rfl, rfl, rfl, rfl, by decide⟩ 0 rfl rfl rfl rfl rfl ⟨Nat.le_of_ble_eq_true rfl, Nat.le_of_ble_eq_true rfl, Nat.le_of_ble_eq_true rfl⟩ 73 53662 ⟨rfl, rfl, Nat.le_of_ble_eq_true rfl, Nat.le_of_ble_eq_true rfl⟩ dL_law_2039 (fun u H locs hp w => ?_)
  have w : Wd D A s.heap [(o0, .inl (cy 2, 1, .inr (.inl (vp_updL (fun _ => 0) 0 (-1))))), (m0, .inr (12, [.ref m1, .ref m2, .ref m3, .ref m4, .ref m5, .int 0, .ref m6, .int 0, .int 0, .int 0, .int 0, .int 0, .int 0, .int 0, .int 0, .int 0, .int 0, .int (-1), .ref m7, .ref m8, .int 0, .ref m9, .int 0, .ref m10, .ref m11, .ref m12, .ref m13, .ref m14, .int 0, .ref m15, .ref m16, .ref m17]))] _ _ := w.pick [0, 1] rfl rfl
  refine r_top (g2 := F0 m 2042 ls [.int 0]) rfl ?_
  refine lv_iload C.1 C.2.1 dL_law_2042 (lv_at hl 1 rfl) ?_
  refine b_icmp_eq_t C (tgt := 2049) dL_law_2044 (by decide) (by decide) ?_
  refine lv_iload C.1 C.2.1 dL_law_2049 (lv_at hl 1 rfl) ?_
  refine b_if_ne_f C (tgt := 2066) dL_law_2051 (by decide) (by decide) ?_
  refine lv_aload_n C.1 C.2.1 dL_law_2054 rfl (lv_at hl 5 rfl) ?_
  refine lv_iconst (v := 0) C.1 C.2.1 dL_law_2055 (by decide) ?_
  refine r_lald C w 0 rfl (v := (-1)) (vinD (by decide)) rfl dL_law_2056 ?_
  refine lv_iload C.1 C.2.1 dL_law_2057 (lv_at hl 0 rfl) ?_
  refine lv_i2l (v := (-1)) C.1 C.2.1 dL_law_2059 (by decide) ?_
  refine r_lcmp C (v := 0) dL_law_2060 (by decide) ?_
  refine b_if_eq_t C (tgt := 2066) dL_law_2061 (by decide) (by decide) ?_
  refine lv_goto (tgt := 2461) C.1 C.2.1 dL_law_2066 (by decide) ?_
  refine W.widen (k := 600002) (n := 7302232) (Nat.le_of_ble_eq_true rfl) (Nat.le_of_ble_eq_true rfl) ?_
  exact kk _ _ _ w.2.2 (lv_sub hl [2, 6] rfl)
set_option maxRecDepth 100000 in
set_option maxHeartbeats 4000000 in
theorem s_L_29_3 {p : Program} {l : Launch} {e : Env} {s : State} {m : MethodId} {args : Array Value} {below : List Frame} {meth : Method} {c : Code} {Q : State → Prop} {D : va_G} {cy : Nat → ClassId} {A : Nat → Prop} {H : Heap} {locs : List Loc} {ls : Array Slot} {xs : Nat → Int32} (b q0 q1 q2 q4 q5 q6 q10 q11 q12 q13 q14 q15 q16 q17 m0 m1 m2 m3 m4 m5 m6 m7 m8 m9 m10 m11 m12 m13 m14 m15 m16 m17 o0 : Nat) (sx1 : xs 1 = 0) (C : Cx p s m args c cL_law RL D cy A) (hml : c.maxLocals = 8) (hX : va_X b 6 xs s s.heap) (hbl : b < s.heap.size) (hbA : ¬ A b) (w : Wd D A s.heap [(q0, .inr (11, [.ref q1, .int 0, .int 0, .int (-1), .ref q2, .ref q4, .ref q5, .ref q6, .ref q10, .null])), (q10, .inr (9, [.int 0, .int 2, .int 20, .int 120, .int 0, .int 0, .int 0, .int 0, .ref q11, .int 0, .ref q12, .ref q13, .int 0, .ref q14, .ref q15, .ref q16, .ref q17])), (m0, .inr (12, [.ref m1, .ref m2, .ref m3, .ref m4, .ref m5, .int 0, .ref m6, .int 0, .int 0, .int 0, .int 0, .int 0, .int 0, .int 0, .int 0, .int 0, .int 0, .int (-1), .ref m7, .ref m8, .int 0, .ref m9, .int 0, .ref m10, .ref m11, .ref m12, .ref m13, .ref m14, .int 0, .ref m15, .ref m16, .ref m17])), (m1, .inl (cy 1, 1868, .inl (upd (upd (upd (fun _ => 0) 1 2) 2 20) 3 120))), (o0, .inl (cy 2, 1, .inr (.inl (fun _ => 0))))] H locs) (hl : lv_has ls 8 [(0, .ref b), (1, .ref q0), (2, .ref m0), (3, .ref o0), (4, .int 0)]) (kk : ∀ (H : Heap) (locs : List Loc) (ls : Array Slot), va_S A s.heap H locs → lv_has ls 8 [(0, .ref b), (4, .int 0)] → W p l e room_1 s m args below meth c H locs 600002 7302232 Q (F0 m 2461 ls [])) : W p l e room_1 s m args below meth c H locs 37 29845 Q (F0 m 2013 ls []) := by
  refine lv_aload_n C.1 C.2.1 dL_law_2013 rfl (lv_at hl 1 rfl) ?_
  refine lv_aload_n C.1 C.2.1 dL_law_2014 rfl (lv_at hl 0 rfl) ?_
  refine lv_iload C.1 C.2.1 dL_law_2015 (lv_at hl 4 rfl) ?_
  refine lv_iconst (v := 1) C.1 C.2.1 dL_law_2017 (by decide) ?_
  refine r_iadd C (v := 1) dL_law_2018 (by decide) ?_
  refine r_sld C w hX hbl hbA (v := 0) (vinD (by decide)) sx1 dL_law_2019 ?_
  refine lv_aload_n C.1 C.2.1 dL_law_2020 rfl (lv_at hl 3 rfl) ?_
  refine r_callH C w fh_RL_226 (c_L_mended_3 l D cy q0 o0 q1 q2 q4 q5 q6 q10 q11 q12 q13 q14 q15 q16 q17) (hl.1.trans hml.symm) [0, 1, 4] [2, 3] (wr := [(m0, .inr (12, [.ref m1, .ref m2, .ref m3, .ref m4, .ref m5, .int 0, .ref m6, .int 0, .int 0, .int 0, .int 0, .int 0, .int 0, .int 0, .int 0, .int 0, .int 0, .int (-1), .ref m7, .ref m8, .int 0, .ref m9, .int 0, .ref m10, .ref m11, .ref m12, .ref m13, .ref m14, .int 0, .ref m15, .ref m16, .ref m17])), (m1, .inl (cy 1, 1868, .inl (upd (upd (upd (fun _ => 0) 1 2) 2 20) 3 120)))]) ⟨rfl, rfl, rfl, rfl, by decide⟩ rfl rfl ⟨Nat.le_of_ble_eq_true rfl, Nat.le_of_ble_eq_true rfl, Nat.le_of_ble_eq_true rfl⟩ 73 53662 ⟨rfl, rfl, Nat.le_of_ble_eq_true rfl, Nat.le_of_ble_eq_true rfl⟩ dL_law_2021 (fun u H locs hp w => ?_)
  obtain ⟨n1, n2, n3, n4, n5, n6, n7, n8, n9, n10, n11, n12, n13, n14, n15, n16, n17, n18, n19, n20, n21, n22, n23, n24, n25, n26, n27, n28, n29, n30, n31, n32, n33, n34, n35, n36⟩ := u
  have w : Wd D A s.heap [(m0, .inr (12, [.ref m1, .ref m2, .ref m3, .ref m4, .ref m5, .int 0, .ref m6, .int 0, .int 0, .int 0, .int 0, .int 0, .int 0, .int 0, .int 0, .int 0, .int 0, .int (-1), .ref m7, .ref m8, .int 0, .ref m9, .int 0, .ref m10, .ref m11, .ref m12, .ref m13, .ref m14, .int 0, .ref m15, .ref m16, .ref m17])), (m1, .inl (cy 1, 1868, .inl (upd (upd (upd (fun _ => 0) 1 2) 2 20) 3 120))), (o0, .inl (cy 2, 1, .inr (.inl (vp_updL (fun _ => 0) 0 (-1)))))] _ _ := w.pick [0, 1, 2] rfl rfl
  refine r_top (g2 := F0 m 2024 ls [.int 0]) rfl ?_
  refine lv_istore (lv' := [(5, .int 0), (0, .ref b), (1, .ref q0), (2, .ref m0), (3, .ref o0), (4, .int 0)]) C.1 C.2.1 dL_law_2024 hl (by decide) rfl (fun ls hl => ?_)
  refine lv_aload_n C.1 C.2.1 dL_law_2026 rfl (lv_at hl 3 rfl) ?_
  refine lv_aload_n C.1 C.2.1 dL_law_2027 rfl (lv_at hl 1 rfl) ?_
  refine lv_iload C.1 C.2.1 dL_law_2028 (lv_at hl 5 rfl) ?_
  refine lv_iconst (v := 1) C.1 C.2.1 dL_law_2030 (by decide) ?_
  refine r_iadd C (v := 1) dL_law_2031 (by decide) ?_
  refine r_sld C w hX hbl hbA (v := 0) (vinD (by decide)) sx1 dL_law_2032 ?_
  refine r_callV C w fv_RL_228 (c_X12_mended_1 l D cy m0 m1 m2 m3 m4 m5 m6 m7 m8 m9 m10 m11 m12 m13 m14 m15 m16 m17 0 (by decide) (by decide)) (hl.1.trans hml.symm) [0, 1] [2] (wr := [(o0, .inl (cy 2, 1, .inr (.inl (vp_updL (fun _ => 0) 0 (-1)))))]) ⟨rfl, rfl, rfl, rfl, by decide⟩ 0 rfl rfl rfl rfl rfl ⟨Nat.le_of_ble_eq_true rfl, Nat.le_of_ble_eq_true rfl, Nat.le_of_ble_eq_true rfl⟩ 73 53662 ⟨rfl, rfl, Nat.le_of_ble_eq_true rfl, Nat.le_of_ble_eq_true rfl⟩ dL_law_2033 (fun u H locs hp w => ?_)
  have w : Wd D A s.heap [(o0, .inl (cy 2, 1, .inr (.inl (vp_updL (fun _ => 0) 0 (-1))))), (m0, .inr (12, [.ref m1, .ref m2, .ref m3, .ref m4, .ref m5, .int 0, .ref m6, .int 0, .int 0, .int 0, .int 0, .int 0, .int 0, .int 0, .int 0, .int 0, .int 0, .int (-1), .ref m7, .ref m8, .int 0, .ref m9, .int 0, .ref m10, .ref m11, .ref m12, .ref m13, .ref m14, .int 0, .ref m15, .ref m16, .ref m17]))] _ _ := w.pick [0, 1] rfl rfl
  refine r_top (g2 := F0 m 2036 ls [.int (-1)]) rfl ?_
  refine lv_istore (lv' := [(6, .int (-1)), (5, .int 0), (0, .ref b), (1, .ref q0), (2, .ref m0), (3, .ref o0), (4, .int 0)]) C.1 C.2.1 dL_law_2036 hl (by decide) rfl (fun ls hl => ?_)
  refine lv_aload_n C.1 C.2.1 dL_law_2038 rfl (lv_at hl 4 rfl) ?_
  refine r_callV C w fv_RL_134 (c_X12_thrown_1 l D cy m0 m1 m2 m3 m4 m5 m6 m7 m8 m9 m10 m11 m12 m13 m14 m15 m16 m17) (hl.1.trans hml.symm) [1] [0] (wr := [(o0, .inl (cy 2, 1, .inr (.inl (vp_updL (fun _ => 0) 0 (-1)))))]) ⟨rfl, rfl, rfl, rfl, by decide⟩ 0 rfl rfl rfl rfl rfl ⟨Nat.le_of_ble_eq_true rfl, Nat.le_of_ble_eq_true rfl, Nat.le_of_ble_eq_true rfl⟩ 73 53662 ⟨rfl, rfl, Nat.le_of_ble_eq_true rfl, Nat.le_of_ble_eq_true rfl⟩ dL_law_2039 (fun u H locs hp w => ?_)
  have w : Wd D A s.heap [(o0, .inl (cy 2, 1, .inr (.inl (vp_updL (fun _ => 0) 0 (-1))))), (m0, .inr (12, [.ref m1, .ref m2, .ref m3, .ref m4, .ref m5, .int 0, .ref m6, .int 0, .int 0, .int 0, .int 0, .int 0, .int 0, .int 0, .int 0, .int 0, .int 0, .int (-1), .ref m7, .ref m8, .int 0, .ref m9, .int 0, .ref m10, .ref m11, .ref m12, .ref m13, .ref m14, .int 0, .ref m15, .ref m16, .ref m17]))] _ _ := w.pick [0, 1] rfl rfl
  refine r_top (g2 := F0 m 2042 ls [.int 0]) rfl ?_
  refine lv_iload C.1 C.2.1 dL_law_2042 (lv_at hl 1 rfl) ?_
  refine b_icmp_eq_t C (tgt := 2049) dL_law_2044 (by decide) (by decide) ?_
  refine lv_iload C.1 C.2.1 dL_law_2049 (lv_at hl 1 rfl) ?_
  refine b_if_ne_f C (tgt := 2066) dL_law_2051 (by decide) (by decide) ?_
  refine lv_aload_n C.1 C.2.1 dL_law_2054 rfl (lv_at hl 5 rfl) ?_
  refine lv_iconst (v := 0) C.1 C.2.1 dL_law_2055 (by decide) ?_
  refine r_lald C w 0 rfl (v := (-1)) (vinD (by decide)) rfl dL_law_2056 ?_
  refine lv_iload C.1 C.2.1 dL_law_2057 (lv_at hl 0 rfl) ?_
  refine lv_i2l (v := (-1)) C.1 C.2.1 dL_law_2059 (by decide) ?_
  refine r_lcmp C (v := 0) dL_law_2060 (by decide) ?_
  refine b_if_eq_t C (tgt := 2066) dL_law_2061 (by decide) (by decide) ?_
  refine lv_goto (tgt := 2461) C.1 C.2.1 dL_law_2066 (by decide) ?_
  refine W.widen (k := 600002) (n := 7302232) (Nat.le_of_ble_eq_true rfl) (Nat.le_of_ble_eq_true rfl) ?_
  exact kk _ _ _ w.2.2 (lv_sub hl [2, 6] rfl)
set_option maxRecDepth 100000 in
set_option maxHeartbeats 4000000 in
theorem s_L_29_4 {p : Program} {l : Launch} {e : Env} {s : State} {m : MethodId} {args : Array Value} {below : List Frame} {meth : Method} {c : Code} {Q : State → Prop} {D : va_G} {cy : Nat → ClassId} {A : Nat → Prop} {H : Heap} {locs : List Loc} {ls : Array Slot} {xs : Nat → Int32} (b q0 q1 q2 q4 q5 q6 q10 m0 m1 m2 m3 m4 m5 m6 m7 m8 m9 m10 m11 m12 m13 m14 m15 m16 m17 o0 : Nat) (y1 : Int32) (k0 : ¬ y1 < 0) (k1 : ¬ y1 ≤ 2) (sx1 : xs 1 = y1) (hst : l.stackTraces = false) (C : Cx p s m args c cL_law RL D cy A) (hml : c.maxLocals = 8) (hX : va_X b 6 xs s s.heap) (hbl : b < s.heap.size) (hbA : ¬ A b) (w : Wd D A s.heap [(q0, .inr (11, [.ref q1, .int 0, .int 0, .int (-1), .ref q2, .ref q4, .ref q5, .ref q6, .ref q10, .null])), (m0, .inr (12, [.ref m1, .ref m2, .ref m3, .ref m4, .ref m5, .int 0, .ref m6, .int 0, .int 0, .int 0, .int 0, .int 0, .int 0, .int 0, .int 0, .int 0, .int 0, .int (-1), .ref m7, .ref m8, .int 0, .ref m9, .int 0, .ref m10, .ref m11, .ref m12, .ref m13, .ref m14, .int 0, .ref m15, .ref m16, .ref m17]))] H locs) (hl : lv_has ls 8 [(0, .ref b), (1, .ref q0), (2, .ref m0), (3, .ref o0), (4, .int 0)]) (kk : ∀ (H : Heap) (locs : List Loc) (ls : Array Slot), va_S A s.heap H locs → lv_has ls 8 [(0, .ref b), (4, .int 0)] → W p l e room_1 s m args below meth c H locs 600002 7302232 Q (F0 m 2461 ls [])) : W p l e room_1 s m args below meth c H locs 37 29845 Q (F0 m 2013 ls []) := by
  refine lv_aload_n C.1 C.2.1 dL_law_2013 rfl (lv_at hl 1 rfl) ?_
  refine lv_aload_n C.1 C.2.1 dL_law_2014 rfl (lv_at hl 0 rfl) ?_
  refine lv_iload C.1 C.2.1 dL_law_2015 (lv_at hl 4 rfl) ?_
  refine lv_iconst (v := 1) C.1 C.2.1 dL_law_2017 (by decide) ?_
  refine r_iadd C (v := 1) dL_law_2018 (by decide) ?_
  refine r_sld C w hX hbl hbA (v := y1) (vinD (by decide)) sx1 dL_law_2019 ?_
  refine lv_aload_n C.1 C.2.1 dL_law_2020 rfl (lv_at hl 3 rfl) ?_
  refine r_callH C w fh_RL_226 (c_L_mended_4 l D cy q0 o0 q1 q2 q4 q5 q6 q10 y1 k0 k1 hst) (hl.1.trans hml.symm) [0] [1] (wr := [(m0, .inr (12, [.ref m1, .ref m2, .ref m3, .ref m4, .ref m5, .int 0, .ref m6, .int 0, .int 0, .int 0, .int 0, .int 0, .int 0, .int 0, .int 0, .int 0, .int 0, .int (-1), .ref m7, .ref m8, .int 0, .ref m9, .int 0, .ref m10, .ref m11, .ref m12, .ref m13, .ref m14, .int 0, .ref m15, .ref m16, .ref m17]))]) ⟨rfl, rfl, rfl, rfl, by decide⟩ rfl rfl ⟨Nat.le_of_ble_eq_true rfl, Nat.le_of_ble_eq_true rfl, Nat.le_of_ble_eq_true rfl⟩ 38 29851 ⟨rfl, rfl, Nat.le_of_ble_eq_true rfl, Nat.le_of_ble_eq_true rfl⟩ dL_law_2021 (fun u H locs hp w => ?_)
  have w : Wd D A s.heap [(m0, .inr (12, [.ref m1, .ref m2, .ref m3, .ref m4, .ref m5, .int 0, .ref m6, .int 0, .int 0, .int 0, .int 0, .int 0, .int 0, .int 0, .int 0, .int 0, .int 0, .int (-1), .ref m7, .ref m8, .int 0, .ref m9, .int 0, .ref m10, .ref m11, .ref m12, .ref m13, .ref m14, .int 0, .ref m15, .ref m16, .ref m17]))] _ _ := w.pick [0] rfl rfl
  refine r_top (g2 := F0 m 2024 ls [.int 1]) rfl ?_
  refine lv_istore (lv' := [(5, .int 1), (0, .ref b), (1, .ref q0), (2, .ref m0), (3, .ref o0), (4, .int 0)]) C.1 C.2.1 dL_law_2024 hl (by decide) rfl (fun ls hl => ?_)
  refine lv_aload_n C.1 C.2.1 dL_law_2026 rfl (lv_at hl 3 rfl) ?_
  refine lv_aload_n C.1 C.2.1 dL_law_2027 rfl (lv_at hl 1 rfl) ?_
  refine lv_iload C.1 C.2.1 dL_law_2028 (lv_at hl 5 rfl) ?_
  refine lv_iconst (v := 1) C.1 C.2.1 dL_law_2030 (by decide) ?_
  refine r_iadd C (v := 1) dL_law_2031 (by decide) ?_
  refine r_sld C w hX hbl hbA (v := y1) (vinD (by decide)) sx1 dL_law_2032 ?_
  refine r_callV C w fv_RL_228 (c_X12_mended_2 l D cy m0 m1 m2 m3 m4 m5 m6 m7 m8 m9 m10 m11 m12 m13 m14 m15 m16 m17 y1 k0 (by have h0 := (i_nlt k0); have h1 := (i_nle k1); have e0 : (0 : Int32).toInt = 0 := (by decide); have e1 : (2 : Int32).toInt = 2 := (by decide); rw [fa_lt]; omega)) (hl.1.trans hml.symm) [0] [] (wr := []) ⟨rfl, rfl, rfl, rfl, by decide⟩ 0 rfl rfl rfl rfl rfl ⟨Nat.le_of_ble_eq_true rfl, Nat.le_of_ble_eq_true rfl, Nat.le_of_ble_eq_true rfl⟩ 38 29851 ⟨rfl, rfl, Nat.le_of_ble_eq_true rfl, Nat.le_of_ble_eq_true rfl⟩ dL_law_2033 (fun u H locs hp w => ?_)
  have w : Wd D A s.heap [(m0, .inr (12, [.ref m1, .ref m2, .ref m3, .ref m4, .ref m5, .int 1, .ref m6, .int 0, .int 0, .int 0, .int 0, .int 0, .int 0, .int 0, .int 0, .int 0, .int 0, .int (-1), .ref m7, .ref m8, .int 0, .ref m9, .int 0, .ref m10, .ref m11, .ref m12, .ref m13, .ref m14, .int 0, .ref m15, .ref m16, .ref m17]))] _ _ := w.pick [0] rfl rfl
  refine r_top (g2 := F0 m 2036 ls [.int 0]) rfl ?_
  refine lv_istore (lv' := [(6, .int 0), (5, .int 1), (0, .ref b), (1, .ref q0), (2, .ref m0), (3, .ref o0), (4, .int 0)]) C.1 C.2.1 dL_law_2036 hl (by decide) rfl (fun ls hl => ?_)
  refine lv_aload_n C.1 C.2.1 dL_law_2038 rfl (lv_at hl 4 rfl) ?_
  refine r_callV C w fv_RL_134 (c_X12_thrown_0 l D cy m0 m1 m2 m3 m4 m5 m6 m7 m8 m9 m10 m11 m12 m13 m14 m15 m16 m17) (hl.1.trans hml.symm) [0] [] (wr := []) ⟨rfl, rfl, rfl, rfl, by decide⟩ 0 rfl rfl rfl rfl rfl ⟨Nat.le_of_ble_eq_true rfl, Nat.le_of_ble_eq_true rfl, Nat.le_of_ble_eq_true rfl⟩ 38 29851 ⟨rfl, rfl, Nat.le_of_ble_eq_true rfl, Nat.le_of_ble_eq_true rfl⟩ dL_law_2039 (fun u H locs hp w => ?_)
  have w : Wd D A s.heap [(m0, .inr (12, [.ref m1, .ref m2, .ref m3, .ref m4, .ref m5, .int 1, .ref m6, .int 0, .int 0, .int 0, .int 0, .int 0, .int 0, .int 0, .int 0, .int 0, .int 0, .int (-1), .ref m7, .ref m8, .int 0, .ref m9, .int 0, .ref m10, .ref m11, .ref m12, .ref m13, .ref m14, .int 0, .ref m15, .ref m16, .ref m17]))] _ _ := w.pick [0] rfl rfl
  refine r_top (g2 := F0 m 2042 ls [.int 1]) rfl ?_
  refine lv_iload C.1 C.2.1 dL_law_2042 (lv_at hl 1 rfl) ?_
  refine b_icmp_eq_t C (tgt := 2049) dL_law_2044 (by decide) (by decide) ?_
  refine lv_iload C.1 C.2.1 dL_law_2049 (lv_at hl 1 rfl) ?_
  refine b_if_ne_t C (tgt := 2066) dL_law_2051 (by decide) (by decide) ?_
  refine lv_goto (tgt := 2461) C.1 C.2.1 dL_law_2066 (by decide) ?_
  refine W.widen (k := 600002) (n := 7302232) (Nat.le_of_ble_eq_true rfl) (Nat.le_of_ble_eq_true rfl) ?_
  exact kk _ _ _ w.2.2 (lv_sub hl [2, 6] rfl)
set_option maxRecDepth 100000 in
set_option maxHeartbeats 4000000 in
theorem t_L_29 {p : Program} {l : Launch} {e : Env} {s : State} {m : MethodId} {args : Array Value} {below : List Frame} {meth : Method} {c : Code} {Q : State → Prop} {D : va_G} {cy : Nat → ClassId} {A : Nat → Prop} {H : Heap} {locs : List Loc} {ls : Array Slot} {xs : Nat → Int32} (b q0 q1 q2 q4 q5 q6 q10 q3 q7 q8 q9 q11 q12 q13 q14 q15 q16 q17 m0 m1 m2 m3 m4 m5 m6 m7 m8 m9 m10 m11 m12 m13 m14 m15 m16 m17 o0 : Nat) (hst : l.stackTraces = false) (C : Cx p s m args c cL_law RL D cy A) (hml : c.maxLocals = 8) (hX : va_X b 6 xs s s.heap) (hbl : b < s.heap.size) (hbA : ¬ A b) (w : Wd D A s.heap [(q0, .inr (11, [.ref q1, .int 0, .int 0, .int (-1), .ref q2, .ref q4, .ref q5, .ref q6, .ref q10, .null])), (q1, .inl (cy 0, 900, .inl (fun _ => 0))), (q2, .inr (5, [.ref q3, .int 0, .int 0, .int 0, .int 0, .int 0, .int 0, .null])), (q3, .inl (cy 0, 0, .inl (fun _ => 0))), (q4, .inl (cy 4, 5, .inr (.inr (.inr (.inr (va_up (fun _ => none) 0 (some q10))))))), (q5, .inl (cy 4, 3, .inr (.inr (.inr (.inr (fun _ => none)))))), (q6, .inr (10, [.ref q7, .ref q8, .ref q9])), (q7, .inl (cy 1, 4, .inl (upd (upd (upd (upd (fun _ => 0) 0 (-1)) 1 (-1)) 2 (-1)) 3 (-1)))), (q8, .inl (cy 1, 4, .inl (fun _ => 0))), (q9, .inl (cy 2, 160, .inr (.inl (fun _ => 0)))), (q10, .inr (9, [.int 0, .int 2, .int 20, .int 120, .int 0, .int 0, .int 0, .int 0, .ref q11, .int 0, .ref q12, .ref q13, .int 0, .ref q14, .ref q15, .ref q16, .ref q17])), (q11, .inl (cy 1, 6, .inl (fun _ => 0))), (q12, .inl (cy 1, 20, .inl (fun _ => 0))), (q13, .inl (cy 1, 20, .inl (fun _ => 0))), (q14, .inl (cy 1, 300, .inl (fun _ => 0))), (q15, .inl (cy 1, 300, .inl (fun _ => 0))), (q16, .inl (cy 1, 300, .inl (fun _ => 0))), (q17, .inl (cy 1, 300, .inl (fun _ => 0))), (m0, .inr (12, [.ref m1, .ref m2, .ref m3, .ref m4, .ref m5, .int 0, .ref m6, .int 0, .int 0, .int 0, .int 0, .int 0, .int 0, .int 0, .int 0, .int 0, .int 0, .int (-1), .ref m7, .ref m8, .int 0, .ref m9, .int 0, .ref m10, .ref m11, .ref m12, .ref m13, .ref m14, .int 0, .ref m15, .ref m16, .ref m17])), (m2, .inl (cy 1, 1868, .inl (fun _ => 0))), (m3, .inl (cy 1, 1868, .inl (fun _ => 0))), (m4, .inl (cy 1, 5604, .inl (fun _ => 0))), (m5, .inl (cy 3, 3, .inl (fun _ => 0))), (m6, .inl (cy 1, 900, .inl (fun _ => 0))), (m7, .inl (cy 1, 1830, .inl (fun _ => 0))), (m8, .inl (cy 1, 1830, .inl (fun _ => 0))), (m9, .inl (cy 2, 2465, .inr (.inl (fun _ => 0)))), (m10, .inl (cy 1, 7201, .inl (fun _ => 0))), (m11, .inl (cy 1, 1830, .inl (fun _ => 0))), (m12, .inl (cy 1, 5, .inl (fun _ => 0))), (m13, .inl (cy 1, 6, .inl (fun _ => 0))), (m14, .inl (cy 1, 6, .inl (fun _ => 0))), (m15, .inl (cy 1, 4, .inl (upd (upd (upd (upd (fun _ => 0) 0 (-1)) 1 (-1)) 2 (-1)) 3 (-1)))), (m16, .inl (cy 1, 4, .inl (fun _ => 0))), (m17, .inl (cy 2, 160, .inr (.inl (fun _ => 0)))), (m1, .inl (cy 1, 1868, .inl (upd (upd (upd (fun _ => 0) 1 2) 2 20) 3 120))), (o0, .inl (cy 2, 1, .inr (.inl (fun _ => 0))))] H locs) (hl : lv_has ls 8 [(0, .ref b), (1, .ref q0), (2, .ref m0), (3, .ref o0), (4, .int 0)]) (kk : ∀ (H : Heap) (locs : List Loc) (ls : Array Slot), va_S A s.heap H locs → lv_has ls 8 [(0, .ref b), (4, .int 0)] → W p l e room_1 s m args below meth c H locs 600002 7302232 Q (F0 m 2461 ls [])) : W p l e room_1 s m args below meth c H locs 37 29845 Q (F0 m 2013 ls []) := by
  obtain ⟨y1, sx1⟩ : ∃ y, xs 1 = y := ⟨_, rfl⟩
  obtain ⟨y2, sx2⟩ : ∃ y, xs 2 = y := ⟨_, rfl⟩
  obtain ⟨y3, sx3⟩ : ∃ y, xs 3 = y := ⟨_, rfl⟩
  obtain ⟨y4, sx4⟩ : ∃ y, xs 4 = y := ⟨_, rfl⟩
  obtain ⟨y5, sx5⟩ : ∃ y, xs 5 = y := ⟨_, rfl⟩
  by_cases g1 : y1 < 0
  · exact s_L_29_0 b q0 q1 q2 q4 q5 q6 q10 m0 m1 m2 m3 m4 m5 m6 m7 m8 m9 m10 m11 m12 m13 m14 m15 m16 m17 o0 y1 g1 sx1 hst C hml hX hbl hbA (w.pick [0, 18] rfl rfl) hl kk
  · by_cases g2 : y1 ≤ 2
    · by_cases g3 : y1 = 0
      · subst g3
        exact s_L_29_3 b q0 q1 q2 q4 q5 q6 q10 q11 q12 q13 q14 q15 q16 q17 m0 m1 m2 m3 m4 m5 m6 m7 m8 m9 m10 m11 m12 m13 m14 m15 m16 m17 o0 sx1 C hml hX hbl hbA (w.pick [0, 10, 18, 35, 36] rfl rfl) hl kk
      · by_cases g4 : y1 = 1
        · subst g4
          exact s_L_29_2 b q0 q1 q2 q4 q5 q6 q10 q11 q12 q13 q14 q15 q16 q17 m0 m1 m2 m3 m4 m5 m6 m7 m8 m9 m10 m11 m12 m13 m14 m15 m16 m17 o0 sx1 C hml hX hbl hbA (w.pick [0, 10, 18, 35, 36] rfl rfl) hl kk
        · exact s_L_29_1 b q0 q1 q2 q4 q5 q6 q10 q11 q12 q13 q14 q15 q16 q17 m0 m1 m2 m3 m4 m5 m6 m7 m8 m9 m10 m11 m12 m13 m14 m15 m16 m17 o0 y1 g1 g2 g3 g4 sx1 C hml hX hbl hbA (w.pick [0, 10, 18, 35, 36] rfl rfl) hl kk
    · exact s_L_29_4 b q0 q1 q2 q4 q5 q6 q10 m0 m1 m2 m3 m4 m5 m6 m7 m8 m9 m10 m11 m12 m13 m14 m15 m16 m17 o0 y1 g1 g2 sx1 hst C hml hX hbl hbA (w.pick [0, 18] rfl rfl) hl kk
