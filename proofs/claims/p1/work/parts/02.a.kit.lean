/-! ===== the good words of the tables: every method's words are its code and these ===== -/
def gw : List Cond := lw_tbl.filter goodWord
theorem gw_mem {w : Cond} (h : w ∈ lw_tbl) (hg : goodWord w = true) : w ∈ gw := List.mem_filter.mpr ⟨h, hg⟩
theorem gw_good {w : Cond} (h : w ∈ gw) : goodWord w = true := (List.mem_filter.mp h).2
theorem gw_tbl {w : Cond} (h : w ∈ gw) : w ∈ lw_tbl := (List.mem_filter.mp h).1
theorem gw_in : GoodIn gw gw := fun w h => ⟨h, good_of_word (gw_good h)⟩
theorem gw_cons {w : Cond} (h : w ∈ gw) : GoodIn gw (w :: gw) := fun x hx => (List.mem_cons.mp hx).elim (fun e => by rw [e]; exact gw_in w h) (gw_in x)
abbrev tysA (cy : Nat → ClassId) : List (ClassId × FieldType) := [(cy 0, .byte), (cy 1, .int), (cy 2, .long), (cy 3, .boolean), (cy 4, .object "TwoSlips$Talk"), (cy 5, .array .int)]
theorem inw_0 : ∀ w ∈ u_ws RX0 TX0 5, w ∈ lw_tbl ∧ goodWord w = true := by decide +kernel
theorem inw_1 : ∀ w ∈ u_ws RX1 TX1 13, w ∈ lw_tbl ∧ goodWord w = true := by decide +kernel
theorem inw_2 : ∀ w ∈ u_ws RX2 TX2 5, w ∈ lw_tbl ∧ goodWord w = true := by decide +kernel
theorem inw_3 : ∀ w ∈ u_ws RX3 TX3 9, w ∈ lw_tbl ∧ goodWord w = true := by decide +kernel
theorem inw_4 : ∀ w ∈ u_ws RX4 TX4 4, w ∈ lw_tbl ∧ goodWord w = true := by decide +kernel
theorem inw_5 : ∀ w ∈ u_ws RX5 TX5 8, w ∈ lw_tbl ∧ goodWord w = true := by decide +kernel
theorem inw_6 : ∀ w ∈ u_ws RX6 TX6 13, w ∈ lw_tbl ∧ goodWord w = true := by decide +kernel
theorem inw_7 : ∀ w ∈ u_ws RX7 TX7 6, w ∈ lw_tbl ∧ goodWord w = true := by decide +kernel
theorem inw_8 : ∀ w ∈ u_ws RX8 TX8 8, w ∈ lw_tbl ∧ goodWord w = true := by decide +kernel
theorem inw_9 : ∀ w ∈ u_ws RX9 TX9 17, w ∈ lw_tbl ∧ goodWord w = true := by decide +kernel
theorem inw_10 : ∀ w ∈ u_ws RX10 TX10 3, w ∈ lw_tbl ∧ goodWord w = true := by decide +kernel
theorem inw_11 : ∀ w ∈ u_ws RX11 TX11 10, w ∈ lw_tbl ∧ goodWord w = true := by decide +kernel
theorem inw_12 : ∀ w ∈ u_ws RX12 TX12 32, w ∈ lw_tbl ∧ goodWord w = true := by decide +kernel
theorem inw_g {l : List Cond} (h : ∀ w ∈ l, w ∈ lw_tbl ∧ goodWord w = true) : ∀ w ∈ l, w ∈ gw := fun w hw => gw_mem (h w hw).1 (h w hw).2
/-- a class's fields: its words, its types, its names -/
def okC (q : vw_C) : Prop := (∀ w ∈ u_ws q.1 q.2.1 q.2.2, w ∈ gw) ∧ (∃ ty0 : Nat → FieldType, ∀ k, k < q.2.2 → parseFieldDescriptor (q.2.1 k).2.2.1 = some (ty0 k)) ∧ ∀ a, a < q.2.2 → ∀ b, b < q.2.2 → a ≠ b → (q.2.1 a).2.1 ≠ (q.2.1 b).2.1
theorem okC_all : ∀ (ci : Nat) (q : vw_C), vwCl[ci]? = some q → okC q := by
  intro ci q h
  match ci, h with
  | 0, h => cases h; exact ⟨inw_g inw_0, ⟨_, tyX0_ok⟩, nmX0⟩
  | 1, h => cases h; exact ⟨inw_g inw_1, ⟨_, tyX1_ok⟩, nmX1⟩
  | 2, h => cases h; exact ⟨inw_g inw_2, ⟨_, tyX2_ok⟩, nmX2⟩
  | 3, h => cases h; exact ⟨inw_g inw_3, ⟨_, tyX3_ok⟩, nmX3⟩
  | 4, h => cases h; exact ⟨inw_g inw_4, ⟨_, tyX4_ok⟩, nmX4⟩
  | 5, h => cases h; exact ⟨inw_g inw_5, ⟨_, tyX5_ok⟩, nmX5⟩
  | 6, h => cases h; exact ⟨inw_g inw_6, ⟨_, tyX6_ok⟩, nmX6⟩
  | 7, h => cases h; exact ⟨inw_g inw_7, ⟨_, tyX7_ok⟩, nmX7⟩
  | 8, h => cases h; exact ⟨inw_g inw_8, ⟨_, tyX8_ok⟩, nmX8⟩
  | 9, h => cases h; exact ⟨inw_g inw_9, ⟨_, tyX9_ok⟩, nmX9⟩
  | 10, h => cases h; exact ⟨inw_g inw_10, ⟨_, tyX10_ok⟩, nmX10⟩
  | 11, h => cases h; exact ⟨inw_g inw_11, ⟨_, tyX11_ok⟩, nmX11⟩
  | 12, h => cases h; exact ⟨inw_g inw_12, ⟨_, tyX12_ok⟩, nmX12⟩
  | k + 13, h => simp [vwCl] at h
/-! ===== what stands of the launch in every state: classes, texts, nest mates, throwables' statics ===== -/
def strsT : List (Nat × String) := [(54, "not so many bytes on the tape"), (380, "no such world"), (98, "no such what"), (383, "no such speaker"), (387, "no such turn"), (389, "not so many turns"), (190, "no such numbers"), (385, "both are one"), (239, "others than speakers"), (256, "no such n or what"), (391, "no such tray"), (397, "the tray is missing"), (320, "no such sort, or not so many"), (330, "no such place"), (399, "no such image"), (352, "no image was made")]
def StrOk (U : State) : Prop := ∀ q ∈ strsT, ∃ sa, vk_R RX11 q.1 q.2 sa U
def NstOk (U : State) : Prop := va_Nw (.methodLinkNest RX11 19 yX5_init RX11) U ∧ va_Nw (.methodLinkNest RX11 35 yX10_init RX11) U ∧ va_Nw (.methodLinkNest RX11 40 yX9_init RX11) U ∧ va_Nw (.methodLinkNest RX11 368 yX4_init RX11) U
abbrev nIAE : String := "java/lang/IllegalArgumentException"
abbrev nISE : String := "java/lang/IllegalStateException"
abbrev nNSE : String := "java/util/NoSuchElementException"
def CasOk (U : State) : Prop := (∀ C T : String, Cond.castable C T ∈ lw_tbl → va_Nw (.castable C T) U) ∧ ∀ x : MethodName, Cond.declares x ∈ lw_tbl → va_Nw (.declares x) U
def isCas : Cond → Bool
  | .castable .. => true
  | .declares .. => true
  | _ => false
def SF (D : va_G) (cy : Nat → ClassId) (U : State) : Prop := va_K D vwCl (tysA cy) U ∧ StrOk U ∧ NstOk U ∧ va_AO "TwoSlips$Talk" U ∧ va_AOA .int U ∧ va_Nc nIAE nNSE U ∧ va_Nc nISE nNSE U ∧ CasOk U
theorem va_AOA.moved {ty : FieldType} {u U : State} (hvm : u.vm.Alike U.vm) (h : va_AOA ty u) : va_AOA ty U := by
  obtain ⟨comp, c, k, h1, h2, h3, h4, h5⟩ := arrayOverA_spec h
  obtain ⟨k', hk', he⟩ := hvm.2.2 _ _ h3
  have hi : (U.vm.classes.findIdx? fun (x : Class) => match x.kind with | .array component _ => component == comp | _ => false) = some c := by
    have e1 := va_idx_bare U.vm comp
    have e2 := va_idx_bare u.vm comp
    have e3 : U.vm.bare = u.vm.bare := by first | exact hvm.bare_eq | exact hvm.bare_eq.symm
    rw [e3] at e1
    exact e1.symm.trans (e2.trans h2)
  have hkind : k'.kind = .array comp (.array ty) := by rw [he]; exact h4
  have f1 : U.vm.findClass (FieldType.array ty).toString = some comp := by rw [hvm.findClass]; exact h1
  have f2 : U.vm.findClass ("[" ++ (FieldType.array ty).toString) = some c := by rw [hvm.findClass]; exact h5
  unfold va_AOA Cond.before Cond.holds
  simp only [Cond.value]
  rw [f1, Option.bind_some]
  refine (congrArg (fun o : Option Nat => (o.bind (fun c => (U.vm.classes[c]?).map fun (k : Class) => match k.kind with | .array _ t => decide (t = FieldType.array ty) && decide (U.vm.findClass ("[" ++ (FieldType.array ty).toString) = some c) | _ => false) == some true)) hi).trans ?_
  simp [hk', hkind, f2]
theorem SF.warm {D : va_G} {cy : Nat → ClassId} {s U : State} (hW : s.WarmedH U.vm) (h : SF D cy s) : SF D cy U := by
  obtain ⟨h1, h2, ⟨n1, n2, n3, n4⟩, h4, h5, h6, h7, k1⟩ := h
  refine ⟨va_K.moved hW.alike h1, fun q hq => ?_, ⟨n1.warmM hW, n2.warmM hW, n3.warmM hW, n4.warmM hW⟩, h4.moved hW.alike, h5.moved hW.alike, h6.moved hW.alike, h7.moved hW.alike, fun C T h => (k1.1 C T h).warmC hW, fun x h => (k1.2 x h).warmD hW⟩
  obtain ⟨sa, hs⟩ := h2 q hq
  exact ⟨sa, vk_R.warm hW hs⟩
def ZZ (A : Nat → Prop) (U : State) (H : Heap) : Prop := vx_Zq Bundle.tN "UNASSIGNED_STACK" Bundle.steD A U H ∧ vx_Zq Bundle.tN "SUPPRESSED_SENTINEL" Bundle.listD A U H
theorem ZZ.at {A B : Nat → Prop} {s U : State} {H0 H : Heap} {locs : List Loc} (hW : s.vm.Alike U.vm) (h : ZZ A s H0) (hS : va_S A H0 H locs) (hAB : ∀ q, B q → A q) : ZZ B U H :=
  ⟨((vx_Zq.moved hW (h.1.kept hS.2.1))).narrow hAB, ((vx_Zq.moved hW (h.2.kept hS.2.1))).narrow hAB⟩
/-! ===== a method's frame: what stays, what moves ===== -/
def Cx (p : Program) (s : State) (m : MethodId) (args : Array Value) (c : Code) (cc : ByteArray) (own : String) (D : va_G) (cy : Nat → ClassId) (A : Nat → Prop) : Prop :=
  p.tables.exec = Jvm.exec ∧ c.code = cc ∧ s.vm.findClass own = some m.cls ∧ (∀ w ∈ gw, w.before args s = true) ∧ SF D cy s ∧ ZZ A s s.heap ∧ ∀ q, s.heap.size ≤ q → A q
def Wd (D : va_G) (A : Nat → Prop) (H0 : Heap) (ws : va_W) (H : Heap) (locs : List Loc) : Prop := va_P D vwCl ws H ∧ va_D A ws ∧ va_S A H0 H locs
/-- a method's start -/
def PreW (D : va_G) (cy : Nat → ClassId) (wc : va_W) (av : List Value) (sz : Nat) : Array Value → State → Prop :=
  va_Pc av (fun U => U.heap.size = sz ∧ va_P D vwCl wc U.heap ∧ va_D (fun _ => True) wc ∧ SF D cy U ∧ ZZ (va_A wc sz) U U.heap)
theorem PreW.blind {D : va_G} {cy : Nat → ClassId} {wc : va_W} {av : List Value} {sz : Nat} : FrameBlind (PreW D cy wc av sz) := by
  intro a U g mk q
  obtain ⟨q0, q1, qP, qD, qS, qZ⟩ := q
  have hW : U.WarmedH (U.calling g mk a).vm := State.WarmedH.refl U
  exact ⟨q0, q1, qP, qD, SF.warm hW qS, vx_Zq.moved (Vm.Alike.refl U.vm) qZ.1, vx_Zq.moved (Vm.Alike.refl U.vm) qZ.2⟩
/-- a method's end: what it answers, what it leaves -/
def Bw {S : Type} (D : va_G) (A : Nat → Prop) (W1 : S → va_W) (u : S) (t : State) : Prop := va_P D vwCl (W1 u) t.heap ∧ va_D A (W1 u)
def QQ {S : Type} (rv : S → Option Value) (post : S → Prop) (B : S → State → Prop) (A : Nat → Prop) : Array Value → State → Outcome → State → Prop := fun _ st oc t => (∃ u : S, oc = .returned (rv u) ∧ post u ∧ B u t) ∧ va_F A st t
/-- THE CONTRACT of a method that returns: room (frames, locals, cells, slots), its cells, its arguments, its answer, what holds then, its cells then -/
def Ct {S : Type} (l : Launch) (D : va_G) (cy : Nat → ClassId) (y : MethodName) (bytes : ByteArray) (maxL : Nat) (ret : Option FieldType) (fr lo mc ms : Nat) (wc : va_W) (av : List Value) (rv : S → Option Value) (post : S → Prop) (W1 : S → va_W) : Prop :=
  ∀ sz : Nat, Met l y (Cond.code y bytes maxL ret :: gw) { frames := fr, cells := mc, slots := ms, locals := lo } (PreW D cy wc av sz) (QQ rv post (Bw D (va_A wc sz) W1) (va_A wc sz)) mc ms (va_A wc sz)
/-- .. of one with an exception table of its own -/
def CtH {S : Type} (l : Launch) (D : va_G) (cy : Nat → ClassId) (y : MethodName) (bytes : ByteArray) (maxL : Nat) (ret : Option FieldType) (hh : List (Nat × Nat × Nat × Nat)) (fr lo mc ms : Nat) (wc : va_W) (av : List Value) (rv : S → Option Value) (post : S → Prop) (W1 : S → va_W) : Prop :=
  ∀ sz : Nat, Met l y (Cond.codeWith y bytes maxL ret hh :: gw) { frames := fr, cells := mc, slots := ms, locals := lo } (PreW D cy wc av sz) (QQ rv post (Bw D (va_A wc sz) W1) (va_A wc sz)) mc ms (va_A wc sz)
/-- .. of one that throws E -/
def CtX (l : Launch) (D : va_G) (cy : Nat → ClassId) (y : MethodName) (bytes : ByteArray) (maxL : Nat) (ret : Option FieldType) (fr lo mc ms : Nat) (wc : va_W) (av : List Value) (E : String) : Prop :=
  ∀ sz : Nat, vx_Met l y (Cond.code y bytes maxL ret :: gw) { frames := fr, cells := mc, slots := ms, locals := lo } (PreW D cy wc av sz) (fun _ _ _ _ => False) (fun E' st t => E' = E ∧ va_F (va_A wc sz) st t) mc ms (va_A wc sz)
section Starts
variable {S : Type} {l : Launch} {D : va_G} {cy : Nat → ClassId} {y : MethodName} {bytes : ByteArray} {maxL : Nat} {ret : Option FieldType} {fr lo mc ms : Nat} {wc : va_W} {av : List Value} {rv : S → Option Value} {post : S → Prop} {W1 : S → va_W} {E : String} {hh : List (Nat × Nat × Nat × Nat)}
theorem Ct.of (hy : plainName y.cls = true) (hlen : (lg_sl av).length ≤ maxL)
    (body : ∀ (p : Program) (e : Env) (s : State) (m : MethodId) (args : Array Value) (below : List Frame) (meth : Method) (c : Code) (A : Nat → Prop) (ls : Array Slot), Cx p s m args c bytes y.cls D cy A → meth.sig.returnType = ret → meth.locks = false → c.maxLocals = maxL → meth.name = y.name → Wd D A s.heap wc s.heap [] → lv_has ls maxL (lv_args 0 av) →
      W p l e { frames := fr, cells := mc, slots := ms, locals := lo } s m args below meth c s.heap [] 0 0 (MQ below (QQ rv post (Bw D A W1) A) args s mc ms A) (F0 m 0 ls [])) : Ct l D cy y bytes maxL ret fr lo mc ms wc av rv post W1 := by
  intro sz
  refine Met.ofW (cc := bytes) (maxL := maxL) (ret := ret) hy rfl ?_
  intro p e s m args below meth c s₁ B hml hv
  obtain ⟨rfl, rfl, hP, hD, hSF, hZ⟩ := hv
  have hts := atoms_spec (ws := Cond.code y bytes maxL ret :: gw) B.pre
  have hl := lv_entry av (n := maxL) hlen
  rw [lg_entry_eq]
  exact body p e s m _ below meth c (va_A wc s.heap.size) _ ⟨B.exec, B.bytes, findClass_of_methodNamed B.named, fun w h => hts w (List.mem_cons_of_mem _ h), hSF, hZ, fun q h => Or.inr h⟩ B.returns B.notSynchronized hml (name_of_methodNamed B.named B.method).1 ⟨hP, hD.self, va_S.rf⟩ hl
theorem CtH.of (hy : plainName y.cls = true) (hlen : (lg_sl av).length ≤ maxL)
    (body : ∀ (p : Program) (e : Env) (s : State) (m : MethodId) (args : Array Value) (below : List Frame) (meth : Method) (c : Code) (A : Nat → Prop) (ls : Array Slot), Cx p s m args c bytes y.cls D cy A → meth.sig.returnType = ret → meth.locks = false → c.maxLocals = maxL → c.exceptionTable.toList = tableOf hh → Wd D A s.heap wc s.heap [] → lv_has ls maxL (lv_args 0 av) →
      W p l e { frames := fr, cells := mc, slots := ms, locals := lo } s m args below meth c s.heap [] 0 0 (MQ below (QQ rv post (Bw D A W1) A) args s mc ms A) (F0 m 0 ls [])) : CtH l D cy y bytes maxL ret hh fr lo mc ms wc av rv post W1 := by
  intro sz
  refine va_MetW (cc := bytes) (maxL := maxL) (ret := ret) (hh := hh) hy rfl ?_
  intro p e s m args below meth c s₁ B hml hv
  obtain ⟨rfl, rfl, hP, hD, hSF, hZ⟩ := hv
  have hts := atoms_spec (ws := Cond.codeWith y bytes maxL ret hh :: gw) B.pre
  have hl := lv_entry av (n := maxL) hlen
  rw [lg_entry_eq]
  exact body p e s m _ below meth c (va_A wc s.heap.size) _ ⟨B.exec, B.bytes, findClass_of_methodNamed B.named, fun w h => hts w (List.mem_cons_of_mem _ h), hSF, hZ, fun q h => Or.inr h⟩ B.returns B.notSynchronized hml (vx_table (x := y) B (hts _ List.mem_cons_self)) ⟨hP, hD.self, va_S.rf⟩ hl
theorem CtX.of (hy : plainName y.cls = true) (hlen : (lg_sl av).length ≤ maxL)
    (body : ∀ (p : Program) (e : Env) (s : State) (m : MethodId) (args : Array Value) (below : List Frame) (meth : Method) (c : Code) (A : Nat → Prop) (ls : Array Slot), Cx p s m args c bytes y.cls D cy A → meth.locks = false → c.maxLocals = maxL → (∀ x ∈ c.exceptionTable.toList, False) → Wd D A s.heap wc s.heap [] → lv_has ls maxL (lv_args 0 av) →
      W p l e { frames := fr, cells := mc, slots := ms, locals := lo } s m args below meth c s.heap [] 0 0 (vx_MQ below (fun _ _ _ _ => False) (fun E' st t => E' = E ∧ va_F A st t) args s mc ms A) (F0 m 0 ls [])) : CtX l D cy y bytes maxL ret fr lo mc ms wc av E := by
  intro sz
  refine vx_ofW (cc := bytes) (maxL := maxL) (ret := ret) hy rfl ?_
  intro p e s m args below meth c s₁ B hml htb hv
  obtain ⟨rfl, rfl, hP, hD, hSF, hZ⟩ := hv
  have hts := atoms_spec (ws := Cond.code y bytes maxL ret :: gw) B.pre
  have hl := lv_entry av (n := maxL) hlen
  rw [lg_entry_eq]
  exact body p e s m _ below meth c (va_A wc s.heap.size) _ ⟨B.exec, B.bytes, findClass_of_methodNamed B.named, fun w h => hts w (List.mem_cons_of_mem _ h), hSF, hZ, fun q h => Or.inr h⟩ B.notSynchronized hml htb ⟨hP, hD.self, va_S.rf⟩ hl
end Starts
