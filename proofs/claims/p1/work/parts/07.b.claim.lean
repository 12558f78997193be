/-! ===== what holds at the law's entry: classes, arrays, texts, nest mates, throwables' statics ===== -/
theorem inst_all : ∀ (ci : Nat) (q : vw_C), vwCl[ci]? = some q → Cond.instantiable q.1 q.2.2 ∈ lw_tbl := by
  intro ci q h
  match ci, h with
  | 0, h => cases h; decide +kernel
  | 1, h => cases h; decide +kernel
  | 2, h => cases h; decide +kernel
  | 3, h => cases h; decide +kernel
  | 4, h => cases h; decide +kernel
  | 5, h => cases h; decide +kernel
  | 6, h => cases h; decide +kernel
  | 7, h => cases h; decide +kernel
  | 8, h => cases h; decide +kernel
  | 9, h => cases h; decide +kernel
  | 10, h => cases h; decide +kernel
  | 11, h => cases h; decide +kernel
  | 12, h => cases h; decide +kernel
  | k + 13, h => simp [vwCl] at h
theorem str_ref : ∀ q ∈ strsT, Cond.stringRef RX11 q.1 q.2 ∈ lw_tbl := by decide +kernel
theorem law_facts {s : State} {b : Nat} (hts : ∀ w ∈ lw_tbl, w.before #[Value.ref b] s = true) (hgv : (Jvm.Cond.and given_1 narrow_1).before #[Value.ref b] s = true) : ∃ (D : va_G) (cy : Nat → ClassId), SF D cy s ∧ ZZ (fun q : Nat => s.heap.size ≤ q) s s.heap := by
  have hs := flat_of_before _ hgv
  have hK1 : ∀ ci : Nat, ∃ P : ClassId × (Nat → Nat), ∀ q : vw_C, vwCl[ci]? = some q → u_Kn s q.1 q.2.1 q.2.2 P.1 P.2 := by
    intro ci
    cases h : vwCl[ci]? with
    | none => exact ⟨(0, fun _ => 0), fun q hq => by cases hq⟩
    | some q =>
      obtain ⟨cC, iS, hk⟩ := u_known (C := q.1) (T := q.2.1) (N := q.2.2) (n := q.2.2) (fun w hw => hts w (gw_tbl hw)) (okC_all ci q h).1 (hts _ (inst_all ci q h))
      exact ⟨(cC, iS), fun q' hq => by cases hq; exact hk⟩
  obtain ⟨c0, k0, p0, a0, b0, d0⟩ := Cond.arrayClass_spec (type := .byte) (hts (.arrayClass .byte) (by decide +kernel))
  obtain ⟨c1, k1, p1, a1, b1, d1⟩ := Cond.arrayClass_spec (type := .int) (hts (.arrayClass .int) (by decide +kernel))
  obtain ⟨c2, k2, p2, a2, b2, d2⟩ := Cond.arrayClass_spec (type := .long) (hts (.arrayClass .long) (by decide +kernel))
  obtain ⟨c3, k3, p3, a3, b3, d3⟩ := Cond.arrayClass_spec (type := .boolean) (hts (.arrayClass .boolean) (by decide +kernel))
  have h4 := hts (.arrayOver (.object "TwoSlips$Talk")) (by decide +kernel)
  have h5 := hts (.arrayOver (.array .int)) (by decide +kernel)
  obtain ⟨p4, c4, k4, a4, -, b4, d4, e4⟩ := Cond.arrayOver_spec h4
  have h5' : va_AOA .int s := h5
  obtain ⟨p5, c5, k5, a5, -, b5, d5, e5⟩ := arrayOverA_spec h5'
  refine ⟨(fun ci => (hK1 ci).choose.1, fun ci => (hK1 ci).choose.2), fun k => match k with | 0 => c0 | 1 => c1 | 2 => c2 | 3 => c3 | 4 => c4 | _ => c5, ⟨⟨fun ci q hq => (hK1 ci).choose_spec q hq, ?_⟩, ?_, ?_, h4, h5', ?_, ?_, ?_, ?_⟩, ?_, ?_⟩
  · intro k q hq
    match k, hq with
    | 0, hq => cases hq; exact ⟨fun N z => ⟨(fun k h => by cases h), k0, b0, p0, d0⟩, a0⟩
    | 1, hq => cases hq; exact ⟨fun N z => ⟨(fun k h => by cases h), k1, b1, p1, d1⟩, a1⟩
    | 2, hq => cases hq; exact ⟨fun N z => ⟨(fun k h => by cases h), k2, b2, p2, d2⟩, a2⟩
    | 3, hq => cases hq; exact ⟨fun N z => ⟨(fun k h => by cases h), k3, b3, p3, d3⟩, a3⟩
    | 4, hq => cases hq; exact ⟨fun N z => ⟨(fun k h => by cases h), k4, b4, p4, d4⟩, k4, p4, b4, d4, a4, e4⟩
    | 5, hq => cases hq; exact ⟨fun N z => ⟨(fun k h => by cases h), k5, b5, p5, d5⟩, e5⟩
    | k + 6, hq => simp [tysA] at hq
  · intro q hq
    have he : (Cond.exactly (.string RX11 q.1) "java/lang/String").before #[Value.ref b] s = true := hs _ ((by decide +kernel : ∀ q ∈ strsT, Cond.exactly (.string RX11 q.1) "java/lang/String" ∈ flatC (Jvm.Cond.and given_1 narrow_1)) q hq)
    obtain ⟨a, c, cell, k, g1, -⟩ := Cond.exactly_spec he
    exact ⟨a, vk_R.of (hts _ (str_ref q hq)) g1⟩
  · exact ⟨va_Nw.of rfl (hts (.methodLinkNest RX11 19 yX5_init RX11) (by decide +kernel)), va_Nw.of rfl (hts (.methodLinkNest RX11 35 yX10_init RX11) (by decide +kernel)), va_Nw.of rfl (hts (.methodLinkNest RX11 40 yX9_init RX11) (by decide +kernel)), va_Nw.of rfl (hts (.methodLinkNest RX11 368 yX4_init RX11) (by decide +kernel))⟩
  · exact va_Nc.of (hs (.not (.castable nIAE nNSE)) (by decide +kernel))
  · exact va_Nc.of (hs (.not (.castable nISE nNSE)) (by decide +kernel))
  · exact fun C T h => va_Nw.of rfl (hts _ h)
  · exact fun x h => va_Nw.of rfl (hts _ h)
  · exact vx_Zqof (hts (.laysStatic Bundle.tN "UNASSIGNED_STACK" Bundle.steD) (by decide +kernel)) (hts (.initialized Bundle.tN) (by decide +kernel)) (hs (.isRef (.static Bundle.tN "UNASSIGNED_STACK" Bundle.steD)) (by decide +kernel)) (fun a h => Nat.not_le.mpr h)
  · exact vx_Zqof (hts (.laysStatic Bundle.tN "SUPPRESSED_SENTINEL" Bundle.listD) (by decide +kernel)) (hts (.initialized Bundle.tN) (by decide +kernel)) (hs (.isRef (.static Bundle.tN "SUPPRESSED_SENTINEL" Bundle.listD)) (by decide +kernel)) (fun a h => Nat.not_le.mpr h)
theorem whole_start {p : Program} {e : Env} {s : State} {m : MethodId} {below : List Frame} {meth : Method} {c : Code} (l : Launch) (hst : l.stackTraces = false) {b L : Nat} {xs : Nat → Int32} (hL : L ≤ 6) (C0 : lw_At p s m meth c b L xs) : W p l e room_1 s m #[Value.ref b] below meth c s.heap [] 0 0 (lw_Z below #[Value.ref b] s) (entryFrame m ([Value.ref b] : List Value).toArray 8) := by
  obtain ⟨hx, hb, hr, hml, hown, hts, hX, hbl, hlocks, hgv⟩ := C0
  obtain ⟨D, cy, hSF, hZ⟩ := law_facts hts hgv
  exact law_start (D := D) (cy := cy) hst hL ⟨hx, hb, hown, fun w h => hts w (gw_tbl h), hSF, hZ, fun q h => h⟩ hml hX hbl (Nat.not_le.mpr hbl) hr hlocks
set_option maxHeartbeats 4000000 in
theorem lw_walk (l : Launch) (hst : l.stackTraces = false) (b : Addr) (xs : List Int32) : MetFree l x (headSpec (Jvm.Cond.code x code maxLocals ret :: tables_1) room_1) (lw_P b xs) (fun _ _ _ _ _ => True) lw_Q := by
  refine MetFree.of_bodyS (code := code) (maxLocals := maxLocals) (ret := ret) (by decide) ?_ ?_
  · intro args s m h hn
    obtain ⟨meth, c, h1, h2, h3, h4, h5, h6, -, -⟩ := Cond.code_spec hn (atoms_spec (ws := Jvm.Cond.code x code maxLocals ret :: tables_1) h _ List.mem_cons_self)
    exact ⟨meth, c, h1, h2, h3, h4, h5, h6⟩
  · intro p e s m args below meth c s₁ B hml0 hP _
    obtain ⟨rfl, hx, hbd, hgv⟩ := hP
    obtain ⟨scr, harrAt, hlist, hof, hsmall⟩ := hx
    obtain ⟨hcb, hkn, -, -⟩ := State.arrayAt?_spec harrAt
    have hown : s.vm.findClass R_law = some m.cls := findClass_of_methodNamed B.named
    have hts0 : ∀ c ∈ (Jvm.Cond.code x code maxLocals ret :: tables_1), c.before #[Value.ref b] s = true := atoms_spec (ws := Jvm.Cond.code x code maxLocals ret :: tables_1) B.pre
    have hts : ∀ w ∈ lw_tbl, w.before #[Value.ref b] s = true := k2_hts_sels lw_privs (fun w hw => hts0 w (List.mem_cons_of_mem _ hw)) lw_privs_ok
    have hml : c.maxLocals = 8 := B.maxLocals_eq (hts0 _ List.mem_cons_self)
    have X₀ : Stand p l e room_1 s m #[Value.ref b] below meth c s₁ [] 0 0 := Stand.of_body B
    have hh0 : s₁.heap = s.heap := by rw [B.state]; rfl
    have hsz : scr.slots.size = xs.length := by rw [← Array.length_toList, hlist, List.length_map]
    have hval : ∀ j : Nat, j < xs.length → scr.slots[j]? = some (.int (xs.getD j 0)) := fun j hj => by
      rw [← Array.getElem?_toList, hlist]
      simp [hj]
    have hbl : b < s.heap.size := (Array.getElem?_eq_some_iff.mp hcb).1
    have hX : va_X b xs.length (fun j => xs.getD j 0) s s.heap := ⟨scr, hcb, hof, hkn, hsz, hval⟩
    have K : W p l e room_1 s m #[Value.ref b] below meth c s₁.heap [] 0 0 (lw_Z below #[Value.ref b] s) (entryFrame m ([Value.ref b] : List Value).toArray 8) := by
      rw [hh0]
      exact whole_start l hst hbd ⟨B.exec, B.bytes, B.returns, hml, hown, hts, hX, hbl, B.notSynchronized, hgv⟩
    obtain ⟨t, a1, o, b1, b2, b3⟩ := K s₁ rfl X₀
    exact ⟨t, o, a1, b1, b2, b3⟩
theorem lw_pre_spec {args : Array Value} {s : State} (h : (Jvm.Cond.and given_1 narrow_1).before args s = true) (hr : rest_1_c.before args s = true) : ∃ (b : Addr) (xs : List Int32), lw_P b xs args s := by
  have hs := flat_of_before _ h
  have hq := flat_of_before _ hr
  have hc : (Cond.count 1).before args s = true := hs _ (by decide +kernel)
  have harr : (Cond.arrayOf (.arg 0) .int).before args s = true := hs _ (by decide +kernel)
  have hle : (Cond.le (.length (.arg 0)) (.int 6)).before args s = true := hs _ (by decide +kernel)
  have hlen : (Cond.isInt (.length (.arg 0))).before args s = true := hq _ (by decide +kernel)
  have hall : (Cond.all (.arg 0) (.isInt (.elem (.arg 0) (.index 0)))).before args s = true := hq _ (by decide +kernel)
  obtain ⟨b, xs, hb, hx⟩ := State.ints_of_pre rfl harr hlen hall
  have hsm : xs.length < 2 ^ 31 := hx.choose_spec.2.2.2
  have hev : (Term.length (.arg 0)).eval args s none [] s = some (.int xs.length.toInt32) := hx.length_eval hb
  have hv := Cond.le_ints hev (show (Term.int 6).eval args s none [] s = some (.int 6) from rfl)
  have hd : xs.length.toInt32 ≤ 6 := by
    simpa [Cond.before, Cond.holds, hv] using hle
  have hN : xs.length ≤ 6 := (Int32.ofNat_le_ofNat hsm (by decide)).mp (show Int32.ofNat xs.length ≤ Int32.ofNat 6 from hd)
  exact ⟨b, xs, Cond.one_arg hc (show args[0]? = some (.ref b) from hb), hx, hN, h⟩
theorem lw_comes (l : Launch) (hst : l.stackTraces = false) : Comes l x (Jvm.Cond.code x code maxLocals ret :: tables_1) room_1 (fun tb e args s => Calls_1 tb e args s ∧ rest_1 tb e args s ∧ Pre_1 tb e args s)
    (fun _ _ args s o t => lw_Q args s o t) := by
  intro p e ha hc hk s m args below hf hfit hheap happ hpre
  obtain ⟨b, xs, hP⟩ := lw_pre_spec hpre.2.2 hpre.2.1
  obtain ⟨k, o, h1, h2, h3, hQ⟩ := lw_walk l hst b xs p e ha hc hk s m args below hf ((Spec.applies_iff_loose hf).mp happ).1 hP trivial
  exact ⟨k, o, h1, h2, h3, hQ⟩
theorem lw_frame {s t : State} {o : Outcome} {args : Array Value} (h : Framed s o t [] 600002 7302232) :
    Framed s o t (fieldLocs frame_1_writes args s ++ arrayLocs frame_1_arrays args s ++ staticLocs frame_1_statics s) 600002 7302232 := h
theorem lw_limb (L : Cond) (hL : ∀ (args : Array Value) (s t : State), L.after args s (.returned (some (.int 1))) t = true) :
    ArmFor flags0 classFile x code maxLocals ret World_1 tables_1 room_1 Calls_1 rest_1 Pre_1
      (fun tb e a s o t => postC L tb e a s o t ∧ Framed s o t (fieldLocs frame_1_writes a s ++ arrayLocs frame_1_arrays a s ++ staticLocs frame_1_statics s) 600002 7302232) := by
  intro l hfl _ _ p e ha hc hk s m args below hf hfit hheap happ hpre
  obtain ⟨k, o, h1, h2, h3, rfl, hF⟩ := lw_comes l (by unfold Launch.stackTraces; rw [hfl]; decide +kernel) p e ha hc hk s m args below hf hfit hheap happ hpre
  exact ⟨k, _, h1, h2, h3, hL args s _, lw_frame hF⟩
theorem i_vc : Claimed_1_1 ∧ Claimed_1_2 := ⟨lw_limb limb_1_1 (fun args s t => by simp [limb_1_1, Cond.after, Cond.holds, Cond.value]), lw_limb limb_1_2 (fun args s t => Cond.after_iff.mpr (by
  first | (rw [show limb_1_2 = Cond.eq .result (.int 1) from rfl, Cond.eq_ints (x := 1) (y := 1) rfl rfl]; simp; done) | (simp [limb_1_2, Cond.value, Term.eval]; done)))⟩
