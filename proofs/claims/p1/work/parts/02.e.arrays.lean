section RowsE
variable {p : Program} {l : Launch} {e : Env} {R : Room} {s : State} {m : MethodId} {args : Array Value} {below : List Frame} {meth : Method} {c : Code} {H : Heap} {locs : List Loc} {cells slots : Nat} {Q : State → Prop}
variable {cc : ByteArray} {own : String} {D : va_G} {cy : Nat → ClassId} {A : Nat → Prop} {ws : va_W} {pc : Nat} {ls : Array Slot} {rest : List Value}
/-- an int row comes into a place of a row of int rows -/
theorem r_aastI (C : Cx p s m args c cc own D cy A) (w : Wd D A s.heap ws H locs) (q0 qk : Nat) {a n v : Nat} {x : vp_A} {f : Nat → Option Nat} (ha : ws[q0]? = some (a, .inl (cy 5, n, .inr (.inr (.inr (.inr f)))))) (hv : ws[qk]? = some (v, .inl (cy 1, x))) {i : Int32} (hin : vp_in i n) (f' : Nat → Option Nat) (hf : va_up f i.toNatClampNeg (some v) = f') (ws' : va_W) (hws : ws.set q0 (a, .inl (cy 5, n, .inr (.inr (.inr (.inr f'))))) = ws') (hdg : decode cc pc = .ok (.aastore, 1)) (kk : ∀ (H1 : Heap) (locs1 : List Loc), Wd D A s.heap ws' H1 locs1 → W p l e R s m args below meth c H1 locs1 cells slots Q (F0 m (pc + 1) ls rest)) : W p l e R s m args below meth c H locs cells slots Q (F0 m pc ls (.ref v :: .int i :: .ref a :: rest)) := by
  subst hf
  subst hws
  have hlt : i.toNatClampNeg < n := Nat.not_le.mp fun q => hin (Or.inr q)
  have h0 : ¬ i < 0 := fun q => hin (Or.inl q)
  have hSF := C.2.2.2.2.1
  obtain ⟨comp, c5, k5, f1, -, f3, f4, f5⟩ := arrayOverA_spec hSF.2.2.2.2.1
  have e5 : s.vm.findClass ("[" ++ (FieldType.array .int).toString) = some (cy 5) := (hSF.1.2 5 _ rfl).2
  have e1 : s.vm.findClass ("[" ++ (FieldType.int).toString) = some (cy 1) := (hSF.1.2 1 _ rfl).2
  have g5 : c5 = cy 5 := Option.some.inj (f5.symm.trans e5)
  have g1 : comp = cy 1 := Option.some.inj (f1.symm.trans e1)
  subst g5
  subst g1
  obtain ⟨-, k1, hk1, -⟩ := (hSF.1.2 1 _ rfl).1 0 (fun _ => .int 0)
  have hcv : H[v]? = some (vp_cell (cy 1) x) := w.1 qk _ hv
  have hx1 : (vp_cell (cy 1) x).cls = cy 1 := by
    obtain ⟨n1, x1⟩ := x
    rcases x1 with _ | _ | _ | _ | _ <;> rfl
  have hx2 : (vp_cell (cy 1) x).vm = .none := by
    obtain ⟨n1, x1⟩ := x
    rcases x1 with _ | _ | _ | _ | _ <;> rfl
  refine W.aast C.1 C.2.1 (w.1 q0 _ ha) (fun q h => by cases h) (fun h => by cases h) f3 f4 rfl hk1 ⟨h0, by show _ < (arrV _ _ _).slots.size; rw [arrV_size]; exact hlt⟩ hcv (fun q h => by rw [hx2] at h; cases h) (by rw [hx1]; exact hk1) (by rw [hx1]; exact va_asg _ _) rfl rfl hdg fun H1 e z oq => ?_
  refine kk H1 _ ⟨w.1.set w.2.1 ha ?_ oq, w.2.1.set ha, w.2.2.put z oq (w.2.1.2 q0 _ ha)⟩
  show H1[a]? = some (vp_cell _ _)
  rw [e]
  rw [vp_cell_q, vp_cell_q, arrV_store]
  congr 2
  funext q
  by_cases hq : q = i.toNatClampNeg
  · subst hq
    simp [updV, va_up, va_rf]
  · simp [updV, va_up, hq]
theorem r_mna (C : Cx p s m args c cc own D cy A) (w : Wd D A s.heap ws H locs) {index : Nat} (hcl : Cond.classLink own index "[[I" ∈ gw) (harr : Cond.arrayClass .int ∈ gw) (cells' slots' : Nat) (h1 : cells + 10 = cells') (h2 : slots + 9 = slots') (hR : cells' ≤ R.cells ∧ slots' ≤ R.slots) (hdg : decode cc pc = .ok (.multianewarray index 2, 4))
    (kk : ∀ (q r0 r1 r2 r3 r4 r5 r6 r7 r8 : Nat) (H1 : Heap), Wd D A s.heap (ws ++ [(q, .inl (cy 5, 9, .inr (.inr (.inr (.inr (va_up (va_up (va_up (va_up (va_up (va_up (va_up (va_up (va_up (fun _ => none) 0 (some r0)) 1 (some r1)) 2 (some r2)) 3 (some r3)) 4 (some r4)) 5 (some r5)) 6 (some r6)) 7 (some r7)) 8 (some r8))))))), (r0, .inl (cy 1, 0, .inl (fun _ => 0))), (r1, .inl (cy 1, 0, .inl (fun _ => 0))), (r2, .inl (cy 1, 0, .inl (fun _ => 0))), (r3, .inl (cy 1, 0, .inl (fun _ => 0))), (r4, .inl (cy 1, 0, .inl (fun _ => 0))), (r5, .inl (cy 1, 0, .inl (fun _ => 0))), (r6, .inl (cy 1, 0, .inl (fun _ => 0))), (r7, .inl (cy 1, 0, .inl (fun _ => 0))), (r8, .inl (cy 1, 0, .inl (fun _ => 0)))]) H1 locs → W p l e R s m args below meth c H1 locs cells' slots' Q (F0 m (pc + 4) ls (.ref q :: rest))) : W p l e R s m args below meth c H locs cells slots Q (F0 m pc ls (.int 0 :: .int 9 :: rest)) := by
  subst h1
  subst h2
  have hSF := C.2.2.2.2.1
  have e1 : s.vm.findClass ("[" ++ (FieldType.int).toString) = some (cy 1) := (hSF.1.2 1 _ rfl).2
  have hP0 : va_P D vwCl (ws ++ va_pl [] (fun _ => .inl (cy 1, 0, .inl (fun _ => 0)))) H := by
    show va_P D vwCl (ws ++ []) H
    rw [List.append_nil]; exact w.1
  have hD0 : va_D A (ws ++ va_pl [] (fun _ => .inl (cy 1, 0, .inl (fun _ => 0)))) := by
    show va_D A (ws ++ [])
    rw [List.append_nil]; exact w.2.1
  refine va_mna (ty := .int) (cy := cy 1) (N' := 9) (K' := 0) (z := (0, .inl (fun _ => 0))) C.1 C.2.1 C.2.2.1 (C.2.2.2.1 _ hcl) hSF.2.2.2.2.1 (C.2.2.2.1 _ harr) e1 hSF.1 hP0 hD0 w.2.2 C.2.2.2.2.2.2 (by decide) (by decide) (by decide) (by decide) (by decide) (by decide) (by decide) rfl rfl hR.1 hR.2 (fun c => ?_) hdg (fun q r cA H1 hinj hnin hK hP hD hS => ?_)
  · show ({ cls := c, slots := Array.replicate 0 (defaultValue .int), vm := .none } : Cell) = arrV c 0 (fun _ => .int 0)
    rfl
  · have e2 : s.vm.findClass ("[" ++ (FieldType.array .int).toString) = some cA := (hK.2 6 _ rfl).2
    have e3 : s.vm.findClass ("[" ++ (FieldType.array .int).toString) = some (cy 5) := (hSF.1.2 5 _ rfl).2
    have e4 : cA = cy 5 := Option.some.inj (e2.symm.trans e3)
    subst e4
    have hf : (fun i : Nat => if i < 9 then some (r i) else none) = va_up (va_up (va_up (va_up (va_up (va_up (va_up (va_up (va_up (fun _ => none) 0 (some (r 0))) 1 (some (r 1))) 2 (some (r 2))) 3 (some (r 3))) 4 (some (r 4))) 5 (some (r 5))) 6 (some (r 6))) 7 (some (r 7))) 8 (some (r 8)) := by
      funext i
      by_cases h : i < 9
      · rcases (show i = 0 ∨ i = 1 ∨ i = 2 ∨ i = 3 ∨ i = 4 ∨ i = 5 ∨ i = 6 ∨ i = 7 ∨ i = 8 by omega) with rfl | rfl | rfl | rfl | rfl | rfl | rfl | rfl | rfl <;> simp [va_up]
      · have g : ∀ k, k < 9 → i ≠ k := fun k hk e => h (by omega)
        simp [va_up, h, g]
    have hpl : va_pl ([] ++ (List.range 9).map r) (vr_up (fun _ => (.inl (cy 1, 0, .inl (fun _ => 0)) : va_E)) ((List.range 9).map r) (.inl (cy 1, 0, .inl (fun _ => 0)))) = [(r 0, .inl (cy 1, 0, .inl (fun _ => 0))), (r 1, .inl (cy 1, 0, .inl (fun _ => 0))), (r 2, .inl (cy 1, 0, .inl (fun _ => 0))), (r 3, .inl (cy 1, 0, .inl (fun _ => 0))), (r 4, .inl (cy 1, 0, .inl (fun _ => 0))), (r 5, .inl (cy 1, 0, .inl (fun _ => 0))), (r 6, .inl (cy 1, 0, .inl (fun _ => 0))), (r 7, .inl (cy 1, 0, .inl (fun _ => 0))), (r 8, .inl (cy 1, 0, .inl (fun _ => 0)))] := by
      have g : vr_up (fun _ => (.inl (cy 1, 0, .inl (fun _ => 0)) : va_E)) ((List.range 9).map r) (.inl (cy 1, 0, .inl (fun _ => 0))) = fun _ => (.inl (cy 1, 0, .inl (fun _ => 0)) : va_E) := by
        funext a
        unfold vr_up
        split <;> rfl
      rw [g]
      rfl
    rw [hpl, hf, List.append_assoc] at hP hD
    exact kk q (r 0) (r 1) (r 2) (r 3) (r 4) (r 5) (r 6) (r 7) (r 8) H1 ⟨hP, hD, hS⟩
/-- what a call threw is taken by a row of this method's table -/
theorem r_catch {E : String} {ce : Cell} {q : Addr} (C : Cx p s m args c cc own D cy A) (pre : List ExceptionTableEntry) (x : ExceptionTableEntry) (suf : List ExceptionTableEntry) (hsplit : c.exceptionTable.toList = pre ++ x :: suf)
    (hpass : ∀ z ∈ pre, covers z pc = false ∨ (z.catchType ≠ 0 ∧ ∃ nm : String, Cond.classLink own z.catchType nm ∈ gw ∧ va_Nc E nm s)) (hx : covers x pc = true) (h0 : x.catchType ≠ 0) (hlink : Cond.classLink own x.catchType E ∈ gw) (hcast : Cond.castable E E ∈ lw_tbl)
    (hcell : H[q]? = some ce) (hv : ce.vm = .none) (hcl : s.vm.findClass E = some ce.cls)
    (kk : W p l e R s m args below meth c H locs cells slots Q (F0 m x.handlerPc ls [.ref q])) : vx_W p l e R s m args below meth c H locs cells slots Q (F0 m pc ls rest) q :=
  vx_catch C.2.2.1 pre x suf hsplit (fun z hz => (hpass z hz).imp id (fun h => ⟨h.1, h.2.elim (fun nm g => ⟨nm, C.2.2.2.1 _ g.1, g.2⟩)⟩)) hx h0 (C.2.2.2.1 _ hlink) (va_Nw.use rfl (C.2.2.2.2.1.2.2.2.2.2.2.2.1 _ _ hcast)) hcell hv hcl kk
end RowsE
