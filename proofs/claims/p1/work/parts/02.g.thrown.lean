section CallsC
variable {p : Program} {l : Launch} {e : Env} {R : Room} {s : State} {m : MethodId} {args : Array Value} {below : List Frame} {meth : Method} {c : Code} {H : Heap} {locs : List Loc} {cells slots : Nat} {Q : State → Prop}
variable {cc : ByteArray} {own : String} {D : va_G} {cy : Nat → ClassId} {A : Nat → Prop} {ws wc wr : va_W} {pc : Nat} {ls : Array Slot} {rest st0 : List Value}
variable {S : Type} {rv : S → Option Value} {post : S → Prop} {W1 : S → va_W} {mc ms fr lo maxL index n : Nat} {y : MethodName} {bytes : ByteArray} {ret : Option FieldType} {As : List Value} {b : Nat} {E : String} {a : Array Value}
variable {mc2 ms2 : Nat}
/-- throw new E("text") -/
def FTn (own : String) (ik is ic : Nat) (cls text : String) : Prop := Cond.classLink own ik cls ∈ gw ∧ Cond.initialized cls ∈ gw ∧ (is, text) ∈ strsT ∧ Bundle.fit cls = true ∧ (∀ w ∈ (nsAtoms own ic cls).filter vx_no, (isCas w = true ∧ w ∈ lw_tbl) ∨ w ∈ gw) ∧ (∀ w ∈ Cond.classLink own ik cls :: Cond.initialized cls :: (nsAtoms own ic cls).filter vx_no, vx_ot w = true)
theorem r_throwN {ik is ic : Nat} {cls text : String} (C : Cx p s m args c cc RX11 D cy A) (hst : l.stackTraces = false) (w : Wd D A s.heap ws H locs) (F : FTn RX11 ik is ic cls text) (hsz : ls.size = c.maxLocals) (hlocks : meth.locks = false) (htab : ∀ x ∈ c.exceptionTable.toList, False)
    (d0 : decode cc pc = .ok (.new ik, 3)) (d3 : decode cc (pc + 3) = .ok (.dup, 1)) (d4 : decode cc (pc + 4) = .ok (.ldc is, 2)) (d6 : decode cc (pc + 6) = .ok (.invokespecial ic, 3)) (d9 : decode cc (pc + 9) = .ok (.athrow, 1))
    (hR : 5 < R.frames ∧ (rest.map fun v => v.category).sum + 82 ≤ R.locals ∧ cells + 1 ≤ R.cells ∧ slots + 6 ≤ R.slots) (hc : cells + 1 ≤ mc2 ∧ slots + 6 ≤ ms2) :
    W p l e R s m args below meth c H locs cells slots (vx_MQ below (fun _ _ _ _ => False) (fun E' st t => E' = cls ∧ va_F A st t) args s mc2 ms2 A) (F0 m pc ls rest) := by
  obtain ⟨f1, f2, f3, f4, f5, f6⟩ := F
  obtain ⟨sa, hsa⟩ := C.2.2.2.2.1.2.1 _ f3
  refine ns_throwS (text := text) (sa := sa) (A := A) C.1 C.2.1 hst C.2.2.1 f4 (C.2.2.2.1 _ f1) (C.2.2.2.1 _ f2) hsa (fun x hx => ?_) f6 C.2.2.2.2.2.1.1 C.2.2.2.2.2.1.2 w.2.2 hsz d0 d3 d4 d6 d9 (fun x hx => (htab x hx).elim) hR.1 hR.2.1 hR.2.2.1 hR.2.2.2 hlocks (fun t hvm hz hk => ⟨rfl, ?_⟩) w.2.2.2.2 hc.1 hc.2
  · rcases f5 x hx with h | h
    · obtain ⟨q, h⟩ := h
      rcases isCas_spec q with ⟨C1, T1, rfl⟩ | ⟨x1, rfl⟩
      · exact va_Nw.use rfl (C.2.2.2.2.1.2.2.2.2.2.2.2.1 _ _ h)
      · exact va_Nw.use rfl (C.2.2.2.2.1.2.2.2.2.2.2.2.2 _ h)
    · exact C.2.2.2.1 _ h
  · exact ⟨Nat.le_trans w.2.2.1 hz, fun q h1 h2 => by rw [hk q (Nat.lt_of_lt_of_le h1 w.2.2.1)]; exact w.2.2.2.1 q h1 h2⟩
theorem r_throwNW {ik is ic : Nat} {cls text : String} (C : Cx p s m args c cc RX11 D cy A) (hst : l.stackTraces = false) (w : Wd D A s.heap ws H locs) (F : FTn RX11 ik is ic cls text) (hsz : ls.size = c.maxLocals) (hlocks : meth.locks = false) (htab : ∀ x ∈ c.exceptionTable.toList, False)
    (d0 : decode cc pc = .ok (.new ik, 3)) (d3 : decode cc (pc + 3) = .ok (.dup, 1)) (d4 : decode cc (pc + 4) = .ok (.ldc_w is, 3)) (d6 : decode cc (pc + 7) = .ok (.invokespecial ic, 3)) (d9 : decode cc (pc + 10) = .ok (.athrow, 1))
    (hR : 5 < R.frames ∧ (rest.map fun v => v.category).sum + 82 ≤ R.locals ∧ cells + 1 ≤ R.cells ∧ slots + 6 ≤ R.slots) (hc : cells + 1 ≤ mc2 ∧ slots + 6 ≤ ms2) :
    W p l e R s m args below meth c H locs cells slots (vx_MQ below (fun _ _ _ _ => False) (fun E' st t => E' = cls ∧ va_F A st t) args s mc2 ms2 A) (F0 m pc ls rest) := by
  obtain ⟨f1, f2, f3, f4, f5, f6⟩ := F
  obtain ⟨sa, hsa⟩ := C.2.2.2.2.1.2.1 _ f3
  refine ns_throwSW (text := text) (sa := sa) (A := A) C.1 C.2.1 hst C.2.2.1 f4 (C.2.2.2.1 _ f1) (C.2.2.2.1 _ f2) hsa (fun x hx => ?_) f6 C.2.2.2.2.2.1.1 C.2.2.2.2.2.1.2 w.2.2 hsz d0 d3 d4 d6 d9 (fun x hx => (htab x hx).elim) hR.1 hR.2.1 hR.2.2.1 hR.2.2.2 hlocks (fun t hvm hz hk => ⟨rfl, ?_⟩) w.2.2.2.2 hc.1 hc.2
  · rcases f5 x hx with h | h
    · obtain ⟨q, h⟩ := h
      rcases isCas_spec q with ⟨C1, T1, rfl⟩ | ⟨x1, rfl⟩
      · exact va_Nw.use rfl (C.2.2.2.2.1.2.2.2.2.2.2.2.1 _ _ h)
      · exact va_Nw.use rfl (C.2.2.2.2.1.2.2.2.2.2.2.2.2 _ h)
    · exact C.2.2.2.1 _ h
  · exact ⟨Nat.le_trans w.2.2.1 hz, fun q h1 h2 => by rw [hk q (Nat.lt_of_lt_of_le h1 w.2.2.1)]; exact w.2.2.2.1 q h1 h2⟩
end CallsC
theorem ftn_of {ik is ic : Nat} {cls text : String} (h1 : Cond.classLink RX11 ik cls ∈ lw_tbl ∧ goodWord (Cond.classLink RX11 ik cls) = true) (h2 : Cond.initialized cls ∈ lw_tbl ∧ goodWord (Cond.initialized cls) = true) (h3 : (is, text) ∈ strsT) (h4 : Bundle.fit cls = true) (h5 : ∀ w ∈ (nsAtoms RX11 ic cls).filter vx_no, w ∈ lw_tbl ∧ (isCas w = true ∨ goodWord w = true)) (h6 : ∀ w ∈ Cond.classLink RX11 ik cls :: Cond.initialized cls :: (nsAtoms RX11 ic cls).filter vx_no, vx_ot w = true) : FTn RX11 ik is ic cls text :=
  ⟨gw_mem h1.1 h1.2, gw_mem h2.1 h2.2, h3, h4, fun w h => (h5 w h).2.elim (fun q => Or.inl ⟨q, (h5 w h).1⟩) (fun q => Or.inr (gw_mem (h5 w h).1 q)), h6⟩
