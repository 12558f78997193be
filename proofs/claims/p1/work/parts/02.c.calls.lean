theorem isCas_spec {w : Cond} (h : isCas w = true) : (∃ C T : String, w = .castable C T) ∨ ∃ x : MethodName, w = .declares x := by
  cases w <;> first | exact Or.inl ⟨_, _, rfl⟩ | exact Or.inr ⟨_, rfl⟩ | (simp [isCas] at h; done)
section CallsC
variable {p : Program} {l : Launch} {e : Env} {R : Room} {s : State} {m : MethodId} {args : Array Value} {below : List Frame} {meth : Method} {c : Code} {H : Heap} {locs : List Loc} {cells slots : Nat} {Q : State → Prop}
variable {cc : ByteArray} {own : String} {D : va_G} {cy : Nat → ClassId} {A : Nat → Prop} {ws wc wr : va_W} {pc : Nat} {ls : Array Slot} {rest st0 : List Value}
variable {S : Type} {rv : S → Option Value} {post : S → Prop} {W1 : S → va_W} {mc ms fr lo maxL index n : Nat} {y : MethodName} {bytes : ByteArray} {ret : Option FieldType} {As : List Value} {b : Nat} {E : String} {a : Array Value}
/-- behind a call: the caller's other cells stand beside what came back -/
theorem r_go (hA : ∀ q, s.heap.size ≤ q → A q) (w : Wd D A s.heap ws H locs) (hr : va_Run p l e R s m args below meth c H locs cells slots mc ms (F0 m pc ls st0) rest (QQ rv post (Bw D (va_A wc H.size) W1) (va_A wc H.size) a) (va_A wc H.size))
    (isC isR : List Nat) (hC : isC.map (fun i => ws[i]?) = wc.map some) (hR : isR.map (fun i => ws[i]?) = wr.map some) (hn : va_nd isR = true) (hdis : ∀ i ∈ isR, i ∉ isC) (cells' slots' : Nat) (h1 : cells + mc = cells') (h2 : slots + ms = slots')
    (kk : ∀ (u : S) (H1 : Heap) (locs1 : List Loc), post u → Wd D A s.heap (wr ++ W1 u) H1 locs1 → W p l e R s m args below meth c H1 locs1 cells' slots' Q (F0 m (pc + 3) ls ((rv u).toList ++ rest))) : W p l e R s m args below meth c H locs cells slots Q (F0 m pc ls st0) := by
  subst h1
  subst h2
  intro T hT X
  obtain ⟨v, st₀, t, T', L, h0, X', hL, e1, e2, ⟨⟨u, hv, hp, hB⟩, hF⟩, st⟩ := hr T hT X
  cases hv
  have hFc := va_free (wc := wc) w.2.1 w.2.2 hA isC hC
  obtain ⟨k1, k2, k3⟩ := vx_keep (A0 := A) h0 e1 w.2.2 (fun q _ h => hFc q h) hFc hL hF
  obtain ⟨hP, hD⟩ := va_join w.1 w.2.1 isC isR hC hR hn hdis k2 hFc (by rw [e1]; exact hB.1) hB.2
  obtain ⟨t2, a1, b1⟩ := kk u T'.heap (locs ++ L) hp ⟨hP, hD, k3⟩ T' rfl X'
  exact ⟨t2, st t2 a1, b1⟩
theorem preW_of (C : Cx p s m args c cc own D cy A) (w : Wd D A s.heap ws H locs) (isC : List Nat) (hnd : va_nd isC = true) (hC : isC.map (fun i => ws[i]?) = wc.map some) (av : List Value) : PreS s H (PreW D cy wc av H.size) av :=
  ⟨PreW.blind, fun U hU hW => ⟨rfl, by rw [hU], by rw [hU]; exact (w.pick isC hnd hC).1, (w.pick isC hnd hC).2.1.weaken (fun _ _ _ _ => trivial), SF.warm hW C.2.2.2.2.1, by rw [hU]; exact ZZ.at hW.alike C.2.2.2.2.2.1 w.2.2 (va_free (wc := wc) w.2.1 w.2.2 C.2.2.2.2.2.2 isC hC)⟩⟩
/-- what the tables say of a call: virtual, static, of a constructor -/
def FY (y : MethodName) (n : Nat) : Prop := y.cls ≠ "java/lang/invoke/MethodHandle" ∧ y.cls ≠ "java/lang/invoke/VarHandle" ∧ (parseMethodDescriptor y.desc).map (fun d => d.parameters.length) = some n
def FV (own : String) (index : Nat) (y : MethodName) (bytes : ByteArray) (maxL : Nat) (ret : Option FieldType) (n : Nat) : Prop :=
  (Cond.methodLink own index y ∈ gw ∧ Cond.instanceMethod y ∈ gw ∧ Cond.selects y.cls y y ∈ gw ∧ Cond.initialized y.cls ∈ gw ∧ Cond.code y bytes maxL ret ∈ gw) ∧ FY y n
def FS (own : String) (index : Nat) (y : MethodName) (bytes : ByteArray) (maxL : Nat) (ret : Option FieldType) (n : Nat) : Prop :=
  (Cond.methodLink own index y ∈ gw ∧ Cond.static y ∈ gw ∧ Cond.initialized y.cls ∈ gw ∧ Cond.code y bytes maxL ret ∈ gw) ∧ FY y n
def FI (own : String) (index : Nat) (y : MethodName) (bytes : ByteArray) (maxL : Nat) (n : Nat) : Prop :=
  (Cond.methodLink own index y ∈ gw ∧ Cond.instanceMethod y ∈ gw ∧ Cond.initialized y.cls ∈ gw ∧ Cond.code y bytes maxL none ∈ gw) ∧ FY y n ∧ y.name = "<init>"
def FN (y : MethodName) (bytes : ByteArray) (maxL : Nat) (n : Nat) : Prop :=
  (Cond.instanceMethod y ∈ gw ∧ Cond.initialized y.cls ∈ gw ∧ Cond.code y bytes maxL none ∈ gw) ∧ FY y n ∧ y.name = "<init>"
def FH (own : String) (index : Nat) (y : MethodName) (bytes : ByteArray) (maxL : Nat) (ret : Option FieldType) (hh : List (Nat × Nat × Nat × Nat)) (n : Nat) : Prop :=
  (Cond.methodLink own index y ∈ gw ∧ Cond.static y ∈ gw ∧ Cond.initialized y.cls ∈ gw ∧ Cond.codeWith y bytes maxL ret hh ∈ gw) ∧ FY y n
abbrev Cells (cells slots mc ms cells' slots' : Nat) (R : Room) : Prop := cells + mc = cells' ∧ slots + ms = slots' ∧ cells' ≤ R.cells ∧ slots' ≤ R.slots
abbrev Rooms (fr lo maxL : Nat) (R : Room) (rest : List Value) : Prop := fr + 1 ≤ R.frames ∧ 8 + (maxL + 11) + lo ≤ R.locals ∧ (rest.map fun v => v.category).sum ≤ 8
abbrev Parts (ws wc wr : va_W) (isC isR : List Nat) : Prop := va_nd isC = true ∧ isC.map (fun i => ws[i]?) = wc.map some ∧ isR.map (fun i => ws[i]?) = wr.map some ∧ va_nd isR = true ∧ ∀ i ∈ isR, i ∉ isC
theorem callB_gw (C : Cx p s m args c cc own D cy A) (hcd : Cond.code y bytes maxL ret ∈ gw) (hini : Cond.initialized y.cls ∈ gw) (hl : Cond.methodLink own index y ∈ gw) (hy : FY y n) (hR : fr + 1 ≤ R.frames ∧ 8 + (maxL + 11) + lo ≤ R.locals) :
    CallB R s args own index y bytes maxL ret (Cond.code y bytes maxL ret :: gw) { frames := fr, cells := mc, slots := ms, locals := lo } mc ms n :=
  callB_of n C.2.2.2.1 (gw_cons hcd) rfl rfl rfl (C.2.2.2.1 _ hini) (C.2.2.2.1 _ hl) hy hR
theorem r_callV (C : Cx p s m args c cc own D cy A) (w : Wd D A s.heap ws H locs) (F : FV own index y bytes maxL ret n) (M : Ct l D cy y bytes maxL ret fr lo mc ms wc (.ref b :: As) rv post W1) (hsz : ls.size = c.maxLocals) (isC isR : List Nat) (hpt : Parts ws wc wr isC isR)
    (qb : Nat) {ci : Nat} {fs : List Value} {Cn : String} {T : u_T} {N : Nat} (hb0 : wc[qb]? = some (b, .inr (ci, fs))) (hcl : vwCl[ci]? = some (Cn, T, N)) (hcn : Cn = y.cls) (hlen : As.length = n) (hstk : st0 = As.reverse ++ .ref b :: rest) (hrm : Rooms fr lo maxL R rest) (cells' slots' : Nat) (hcs : Cells cells slots mc ms cells' slots' R)
    (hdg : decode cc pc = .ok (.invokevirtual index, 3))
    (kk : ∀ (u : S) (H1 : Heap) (locs1 : List Loc), post u → Wd D A s.heap (wr ++ W1 u) H1 locs1 → W p l e R s m args below meth c H1 locs1 cells' slots' Q (F0 m (pc + 3) ls ((rv u).toList ++ rest))) : W p l e R s m args below meth c H locs cells slots Q (F0 m pc ls st0) := by
  obtain ⟨⟨hl, hi, hse, hini, hcd⟩, hy⟩ := F
  subst hcn
  obtain ⟨q1, q2, q3, q4, q5⟩ := hpt
  obtain ⟨r1, r2, r3⟩ := hrm
  obtain ⟨s1, s2, s3, s4⟩ := hcs
  have hpre := preW_of C w isC q1 q2 (.ref b :: As)
  refine r_go (wc := wc) C.2.2.2.2.2.2 w (va_runV (As := As) (rest := rest) (b := b) (C := y.cls) ⟨C.1, C.2.1, rfl, C.2.2.1, C.2.2.2.1⟩ (M H.size) ⟨callB_gw C hcd hini hl hy ⟨r1, r2⟩, C.2.2.2.1 _ hi, C.2.2.2.1 _ hse⟩ ⟨hpre.1, va_recv C.2.2.2.2.1.1 (w.pick isC q1 q2).1 hcl hb0, hpre.2⟩ rfl hlen hsz hstk (lv_room r3) hdg ⟨by rw [s1]; exact s3, by rw [s2]; exact s4⟩) isC isR q2 q3 q4 q5 cells' slots' s1 s2 kk
theorem r_callS (C : Cx p s m args c cc own D cy A) (w : Wd D A s.heap ws H locs) (F : FS own index y bytes maxL ret n) (M : Ct l D cy y bytes maxL ret fr lo mc ms wc As rv post W1) (hsz : ls.size = c.maxLocals) (isC isR : List Nat) (hpt : Parts ws wc wr isC isR)
    (hlen : As.length = n) (hstk : st0 = As.reverse ++ rest) (hrm : Rooms fr lo maxL R rest) (cells' slots' : Nat) (hcs : Cells cells slots mc ms cells' slots' R)
    (hdg : decode cc pc = .ok (.invokestatic index, 3))
    (kk : ∀ (u : S) (H1 : Heap) (locs1 : List Loc), post u → Wd D A s.heap (wr ++ W1 u) H1 locs1 → W p l e R s m args below meth c H1 locs1 cells' slots' Q (F0 m (pc + 3) ls ((rv u).toList ++ rest))) : W p l e R s m args below meth c H locs cells slots Q (F0 m pc ls st0) := by
  obtain ⟨⟨hl, hst, hini, hcd⟩, hy⟩ := F
  obtain ⟨q1, q2, q3, q4, q5⟩ := hpt
  obtain ⟨r1, r2, r3⟩ := hrm
  obtain ⟨s1, s2, s3, s4⟩ := hcs
  refine r_go (wc := wc) C.2.2.2.2.2.2 w (va_runS (As := As) (rest := rest) ⟨C.1, C.2.1, rfl, C.2.2.1, C.2.2.2.1⟩ (M H.size) ⟨callB_gw C hcd hini hl hy ⟨r1, r2⟩, C.2.2.2.1 _ hst⟩ (preW_of C w isC q1 q2 As) rfl hlen hsz hstk (lv_room r3) hdg ⟨by rw [s1]; exact s3, by rw [s2]; exact s4⟩) isC isR q2 q3 q4 q5 cells' slots' s1 s2 kk
theorem r_callI (C : Cx p s m args c cc own D cy A) (w : Wd D A s.heap ws H locs) (F : FI own index y bytes maxL n) (M : Ct l D cy y bytes maxL none fr lo mc ms wc (.ref b :: As) rv post W1) (hsz : ls.size = c.maxLocals) (isC isR : List Nat) (hpt : Parts ws wc wr isC isR)
    (hlen : As.length = n) (hstk : st0 = As.reverse ++ .ref b :: rest) (hrm : Rooms fr lo maxL R rest) (cells' slots' : Nat) (hcs : Cells cells slots mc ms cells' slots' R)
    (hdg : decode cc pc = .ok (.invokespecial index, 3))
    (kk : ∀ (u : S) (H1 : Heap) (locs1 : List Loc), post u → Wd D A s.heap (wr ++ W1 u) H1 locs1 → W p l e R s m args below meth c H1 locs1 cells' slots' Q (F0 m (pc + 3) ls ((rv u).toList ++ rest))) : W p l e R s m args below meth c H locs cells slots Q (F0 m pc ls st0) := by
  obtain ⟨⟨hl, hi, hini, hcd⟩, hy, hnm⟩ := F
  obtain ⟨q1, q2, q3, q4, q5⟩ := hpt
  obtain ⟨r1, r2, r3⟩ := hrm
  obtain ⟨s1, s2, s3, s4⟩ := hcs
  refine r_go (wc := wc) C.2.2.2.2.2.2 w (va_runI (As := As) (rest := rest) (b := b) ⟨C.1, C.2.1, rfl, C.2.2.1, C.2.2.2.1⟩ (M H.size) ⟨callB_gw C hcd hini hl hy ⟨r1, r2⟩, hnm, C.2.2.2.1 _ hi⟩ (preW_of C w isC q1 q2 (.ref b :: As)) rfl hlen hsz hstk (lv_room r3) hdg ⟨by rw [s1]; exact s3, by rw [s2]; exact s4⟩) isC isR q2 q3 q4 q5 cells' slots' s1 s2 kk
theorem r_callN {host : String} (C : Cx p s m args c cc own D cy A) (w : Wd D A s.heap ws H locs) (hnst : va_Nw (.methodLinkNest own index y host) s) (F : FN y bytes maxL n) (M : Ct l D cy y bytes maxL none fr lo mc ms wc (.ref b :: As) rv post W1) (hsz : ls.size = c.maxLocals) (isC isR : List Nat) (hpt : Parts ws wc wr isC isR)
    (hlen : As.length = n) (hstk : st0 = As.reverse ++ .ref b :: rest) (hrm : Rooms fr lo maxL R rest) (cells' slots' : Nat) (hcs : Cells cells slots mc ms cells' slots' R)
    (hdg : decode cc pc = .ok (.invokespecial index, 3))
    (kk : ∀ (u : S) (H1 : Heap) (locs1 : List Loc), post u → Wd D A s.heap (wr ++ W1 u) H1 locs1 → W p l e R s m args below meth c H1 locs1 cells' slots' Q (F0 m (pc + 3) ls ((rv u).toList ++ rest))) : W p l e R s m args below meth c H locs cells slots Q (F0 m pc ls st0) := by
  obtain ⟨⟨hi, hini, hcd⟩, hy, hnm⟩ := F
  obtain ⟨q1, q2, q3, q4, q5⟩ := hpt
  obtain ⟨r1, r2, r3⟩ := hrm
  obtain ⟨s1, s2, s3, s4⟩ := hcs
  refine r_go (wc := wc) C.2.2.2.2.2.2 w (va_runIN (As := As) (rest := rest) (b := b) ⟨C.1, C.2.1, rfl, C.2.2.1, C.2.2.2.1⟩ (M H.size) ⟨va_cnB n C.2.2.2.1 (gw_cons hcd) rfl rfl rfl hnst (C.2.2.2.1 _ hini) hy ⟨r1, r2⟩, hnm, C.2.2.2.1 _ hi⟩ (preW_of C w isC q1 q2 (.ref b :: As)) rfl hlen hsz hstk (lv_room r3) hdg ⟨by rw [s1]; exact s3, by rw [s2]; exact s4⟩) isC isR q2 q3 q4 q5 cells' slots' s1 s2 kk
theorem r_callH {hh : List (Nat × Nat × Nat × Nat)} (C : Cx p s m args c cc own D cy A) (w : Wd D A s.heap ws H locs) (F : FH own index y bytes maxL ret hh n) (M : CtH l D cy y bytes maxL ret hh fr lo mc ms wc As rv post W1) (hsz : ls.size = c.maxLocals) (isC isR : List Nat) (hpt : Parts ws wc wr isC isR)
    (hlen : As.length = n) (hstk : st0 = As.reverse ++ rest) (hrm : Rooms fr lo maxL R rest) (cells' slots' : Nat) (hcs : Cells cells slots mc ms cells' slots' R)
    (hdg : decode cc pc = .ok (.invokestatic index, 3))
    (kk : ∀ (u : S) (H1 : Heap) (locs1 : List Loc), post u → Wd D A s.heap (wr ++ W1 u) H1 locs1 → W p l e R s m args below meth c H1 locs1 cells' slots' Q (F0 m (pc + 3) ls ((rv u).toList ++ rest))) : W p l e R s m args below meth c H locs cells slots Q (F0 m pc ls st0) := by
  obtain ⟨⟨hl, hst, hini, hcd⟩, hy⟩ := F
  obtain ⟨q1, q2, q3, q4, q5⟩ := hpt
  obtain ⟨r1, r2, r3⟩ := hrm
  obtain ⟨s1, s2, s3, s4⟩ := hcs
  have hG : GoodIn gw (va_wsS own index y (Cond.codeWith y bytes maxL ret hh :: gw)) := by
    intro x hx
    simp only [va_wsS, List.cons_append, List.nil_append, List.mem_cons] at hx
    rcases hx with rfl | rfl | rfl | rfl | hx
    · exact gw_in _ hl
    · exact gw_in _ hst
    · exact gw_in _ hini
    · exact gw_in _ hcd
    · exact gw_in _ hx
  refine r_go (wc := wc) C.2.2.2.2.2.2 w (vx_runSW (As := As) (rest := rest) ⟨C.1, C.2.1, rfl, C.2.2.1, C.2.2.2.1⟩ (M H.size) (vx_cwSW n C.2.2.2.1 hG rfl rfl rfl hy ⟨r1, r2⟩) (preW_of C w isC q1 q2 As) rfl hlen hsz hstk (lv_room r3) hdg ⟨by rw [s1]; exact s3, by rw [s2]; exact s4⟩) isC isR q2 q3 q4 q5 cells' slots' s1 s2 kk
/-- a callee that throws: what it threw stands over this frame -/
theorem r_thrown (C : Cx p s m args c cc own D cy A) (w : Wd D A s.heap ws H locs) (F : FV own index y bytes maxL ret n) (M : CtX l D cy y bytes maxL ret fr lo mc ms wc (.ref b :: As) E) (hsz : ls.size = c.maxLocals) (isC isR : List Nat) (hpt : Parts ws wc wr isC isR)
    (qb : Nat) {ci : Nat} {fs : List Value} {Cn : String} {T : u_T} {N : Nat} (hb0 : wc[qb]? = some (b, .inr (ci, fs))) (hcl : vwCl[ci]? = some (Cn, T, N)) (hcn : Cn = y.cls) (hlen : As.length = n) (hstk : st0 = As.reverse ++ .ref b :: rest) (hrm : Rooms fr lo maxL R rest) (cells' slots' : Nat) (hcs : Cells cells slots mc ms cells' slots' R)
    (hdg : decode cc pc = .ok (.invokevirtual index, 3))
    (kx : ∀ (ce : Cell) (q : Addr) (H1 : Heap) (locs1 : List Loc), Wd D A s.heap wr H1 locs1 → H1[q]? = some ce → ce.vm = .none → s.vm.findClass E = some ce.cls → vx_W p l e R s m args below meth c H1 locs1 cells' slots' Q (F0 m pc ls rest) q) : W p l e R s m args below meth c H locs cells slots Q (F0 m pc ls st0) := by
  obtain ⟨⟨hl, hi, hse, hini, hcd⟩, hy⟩ := F
  subst hcn
  obtain ⟨q1, q2, q3, q4, q5⟩ := hpt
  obtain ⟨r1, r2, r3⟩ := hrm
  obtain ⟨s1, s2, s3, s4⟩ := hcs
  have hpre := preW_of C w isC q1 q2 (.ref b :: As)
  have hr := vx_runV (As := As) (rest := rest) (b := b) (C := y.cls) (g := F0 m pc ls st0) (H := H) (cells := cells) (slots := slots) (locs := locs) (below := below) (meth := meth) (e := e) (l := l) ⟨C.1, C.2.1, rfl, C.2.2.1, C.2.2.2.1⟩ (M H.size) ⟨callB_gw C hcd hini hl hy ⟨r1, r2⟩, C.2.2.2.1 _ hi, C.2.2.2.1 _ hse⟩ ⟨hpre.1, va_recv C.2.2.2.2.1.1 (w.pick isC q1 q2).1 hcl hb0, hpre.2⟩ rfl hlen hsz hstk (lv_room r3) hdg ⟨by rw [s1]; exact s3, by rw [s2]; exact s4⟩
  subst s1
  subst s2
  intro T hT X
  rcases hr T hT X with ⟨v, st₀, t, T', L, h0, X', hL, e1, e2, hq, st⟩ | ⟨q, st₀, t, T', L, E', ce, h0, X', hL, e1, e2, hx, hce, hcv, hcl, st⟩
  · exact hq.elim
  · obtain ⟨rfl, hF⟩ := hx
    have hFc := va_free (wc := wc) w.2.1 w.2.2 C.2.2.2.2.2.2 isC q2
    obtain ⟨k1, k2, k3⟩ := vx_keep (A0 := A) h0 e1 w.2.2 (fun q _ h => hFc q h) hFc hL hF
    have hj := va_join (w1 := []) w.1 w.2.1 isC isR q2 q3 q4 q5 k2 hFc (fun k q h => by simp at h) ⟨fun i j p q h => by simp at h, fun k q h => by simp at h⟩
    rw [List.append_nil] at hj
    obtain ⟨t2, a1, b1⟩ := kx ce q T'.heap (locs ++ L) ⟨hj.1, hj.2, k3⟩ (by rw [e1]; exact hce) hcv hcl T' rfl X'
    exact ⟨t2, st.trans a1, b1⟩
variable {mc2 ms2 : Nat}
/-- .. and goes on to the caller -/
theorem r_pass (hlocks : meth.locks = false) (htab : ∀ x ∈ c.exceptionTable.toList, False) {ce : Cell} {q : Addr} (w : Wd D A s.heap ws H locs) (hcell : H[q]? = some ce) (hv : ce.vm = .none) (hcl : s.vm.findClass E = some ce.cls) (hc : cells ≤ mc2 ∧ slots ≤ ms2) :
    vx_W p l e R s m args below meth c H locs cells slots (vx_MQ below (fun _ _ _ _ => False) (fun E' st t => E' = E ∧ va_F A st t) args s mc2 ms2 A) (F0 m pc ls rest) q :=
  vx_out (fun x hx => (htab x hx).elim) hlocks hcell hv hcl (fun t ht _ => ⟨rfl, w.2.2.F ht⟩) w.2.2.2.2 hc.1 hc.2
/-- throw new E("text") -/
def FT (own : String) (ik is ic : Nat) (cls text : String) : Prop := Cond.classLink own ik cls ∈ gw ∧ Cond.initialized cls ∈ gw ∧ (is, text) ∈ strsT ∧ Bundle.fit cls = true ∧ (∀ w ∈ vx_atS own ic cls ["java/lang/RuntimeException", "java/lang/Exception"], (isCas w = true ∧ w ∈ lw_tbl) ∨ w ∈ gw) ∧ (∀ w ∈ Cond.classLink own ik cls :: Cond.initialized cls :: vx_atS own ic cls ["java/lang/RuntimeException", "java/lang/Exception"], vx_ot w = true)
theorem r_throwS {ik is ic : Nat} {cls text : String} (C : Cx p s m args c cc RX11 D cy A) (hst : l.stackTraces = false) (w : Wd D A s.heap ws H locs) (F : FT RX11 ik is ic cls text) (hsz : ls.size = c.maxLocals) (hlocks : meth.locks = false) (htab : ∀ x ∈ c.exceptionTable.toList, False)
    (d0 : decode cc pc = .ok (.new ik, 3)) (d3 : decode cc (pc + 3) = .ok (.dup, 1)) (d4 : decode cc (pc + 4) = .ok (.ldc is, 2)) (d6 : decode cc (pc + 6) = .ok (.invokespecial ic, 3)) (d9 : decode cc (pc + 9) = .ok (.athrow, 1))
    (hR : 5 < R.frames ∧ (rest.map fun v => v.category).sum + 82 ≤ R.locals ∧ cells + 1 ≤ R.cells ∧ slots + 6 ≤ R.slots) (hc : cells + 1 ≤ mc2 ∧ slots + 6 ≤ ms2) :
    W p l e R s m args below meth c H locs cells slots (vx_MQ below (fun _ _ _ _ => False) (fun E' st t => E' = cls ∧ va_F A st t) args s mc2 ms2 A) (F0 m pc ls rest) := by
  obtain ⟨f1, f2, f3, f4, f5, f6⟩ := F
  obtain ⟨sa, hsa⟩ := C.2.2.2.2.1.2.1 _ f3
  refine vx_throwS (text := text) (sa := sa) (A := A) (names := ["java/lang/RuntimeException", "java/lang/Exception"]) C.1 C.2.1 hst C.2.2.1 f4 (by decide +kernel) (C.2.2.2.1 _ f1) (C.2.2.2.1 _ f2) hsa (fun x hx => ?_) f6 C.2.2.2.2.2.1.1 C.2.2.2.2.2.1.2 w.2.2 hsz d0 d3 d4 d6 d9 (fun x hx => (htab x hx).elim) hR.1 hR.2.1 hR.2.2.1 hR.2.2.2 hlocks (fun t hvm hz hk => ⟨rfl, ?_⟩) w.2.2.2.2 hc.1 hc.2
  · rcases f5 x hx with h | h
    · obtain ⟨q, h⟩ := h
      rcases isCas_spec q with ⟨C1, T1, rfl⟩ | ⟨x1, rfl⟩
      · exact va_Nw.use rfl (C.2.2.2.2.1.2.2.2.2.2.2.2.1 _ _ h)
      · exact va_Nw.use rfl (C.2.2.2.2.1.2.2.2.2.2.2.2.2 _ h)
    · exact C.2.2.2.1 _ h
  · exact ⟨Nat.le_trans w.2.2.1 hz, fun q h1 h2 => by rw [hk q (Nat.lt_of_lt_of_le h1 w.2.2.1)]; exact w.2.2.2.1 q h1 h2⟩
theorem r_throwSW {ik is ic : Nat} {cls text : String} (C : Cx p s m args c cc RX11 D cy A) (hst : l.stackTraces = false) (w : Wd D A s.heap ws H locs) (F : FT RX11 ik is ic cls text) (hsz : ls.size = c.maxLocals) (hlocks : meth.locks = false) (htab : ∀ x ∈ c.exceptionTable.toList, False)
    (d0 : decode cc pc = .ok (.new ik, 3)) (d3 : decode cc (pc + 3) = .ok (.dup, 1)) (d4 : decode cc (pc + 4) = .ok (.ldc_w is, 3)) (d6 : decode cc (pc + 7) = .ok (.invokespecial ic, 3)) (d9 : decode cc (pc + 10) = .ok (.athrow, 1))
    (hR : 5 < R.frames ∧ (rest.map fun v => v.category).sum + 82 ≤ R.locals ∧ cells + 1 ≤ R.cells ∧ slots + 6 ≤ R.slots) (hc : cells + 1 ≤ mc2 ∧ slots + 6 ≤ ms2) :
    W p l e R s m args below meth c H locs cells slots (vx_MQ below (fun _ _ _ _ => False) (fun E' st t => E' = cls ∧ va_F A st t) args s mc2 ms2 A) (F0 m pc ls rest) := by
  obtain ⟨f1, f2, f3, f4, f5, f6⟩ := F
  obtain ⟨sa, hsa⟩ := C.2.2.2.2.1.2.1 _ f3
  refine vx_throwSW (text := text) (sa := sa) (A := A) (names := ["java/lang/RuntimeException", "java/lang/Exception"]) C.1 C.2.1 hst C.2.2.1 f4 (by decide +kernel) (C.2.2.2.1 _ f1) (C.2.2.2.1 _ f2) hsa (fun x hx => ?_) f6 C.2.2.2.2.2.1.1 C.2.2.2.2.2.1.2 w.2.2 hsz d0 d3 d4 d6 d9 (fun x hx => (htab x hx).elim) hR.1 hR.2.1 hR.2.2.1 hR.2.2.2 hlocks (fun t hvm hz hk => ⟨rfl, ?_⟩) w.2.2.2.2 hc.1 hc.2
  · rcases f5 x hx with h | h
    · obtain ⟨q, h⟩ := h
      rcases isCas_spec q with ⟨C1, T1, rfl⟩ | ⟨x1, rfl⟩
      · exact va_Nw.use rfl (C.2.2.2.2.1.2.2.2.2.2.2.2.1 _ _ h)
      · exact va_Nw.use rfl (C.2.2.2.2.1.2.2.2.2.2.2.2.2 _ h)
    · exact C.2.2.2.1 _ h
  · exact ⟨Nat.le_trans w.2.2.1 hz, fun q h1 h2 => by rw [hk q (Nat.lt_of_lt_of_le h1 w.2.2.1)]; exact w.2.2.2.1 q h1 h2⟩
end CallsC
theorem ft_of {ik is ic : Nat} {cls text : String} (h1 : Cond.classLink RX11 ik cls ∈ lw_tbl ∧ goodWord (Cond.classLink RX11 ik cls) = true) (h2 : Cond.initialized cls ∈ lw_tbl ∧ goodWord (Cond.initialized cls) = true) (h3 : (is, text) ∈ strsT) (h4 : Bundle.fit cls = true) (h5 : ∀ w ∈ vx_atS RX11 ic cls ["java/lang/RuntimeException", "java/lang/Exception"], w ∈ lw_tbl ∧ (isCas w = true ∨ goodWord w = true)) (h6 : ∀ w ∈ Cond.classLink RX11 ik cls :: Cond.initialized cls :: vx_atS RX11 ic cls ["java/lang/RuntimeException", "java/lang/Exception"], vx_ot w = true) : FT RX11 ik is ic cls text :=
  ⟨gw_mem h1.1 h1.2, gw_mem h2.1 h2.2, h3, h4, fun w h => (h5 w h).2.elim (fun q => Or.inl ⟨q, (h5 w h).1⟩) (fun q => Or.inr (gw_mem (h5 w h).1 q)), h6⟩
