theorem Wd.ne {D : va_G} {A : Nat → Prop} {H0 H : Heap} {ws : va_W} {locs : List Loc} (w : Wd D A H0 ws H locs) (i j : Nat) {p q : Nat × va_E} (hi : ws[i]? = some p) (hj : ws[j]? = some q) (hij : i ≠ j) : p.1 ≠ q.1 := fun e => hij (w.2.1.1 i j p q hi hj e)
theorem upd0 (k : Nat) : upd (fun _ => 0) k 0 = (fun _ => 0) := by
  funext j
  simp [upd]
theorem updL0 (k : Nat) : vp_updL (fun _ => 0) k 0 = (fun _ => 0) := by
  funext j
  simp [vp_updL]
theorem lg_cmp_self (x : Int64) : lg_cmp x x = 0 := by simp [lg_cmp]
theorem fa_lt (a b : Int32) : a < b ↔ a.toInt < b.toInt := Int32.lt_iff_toInt_lt
theorem fa_le (a b : Int32) : a ≤ b ↔ a.toInt ≤ b.toInt := Int32.le_iff_toInt_le
theorem fa_eq (a b : Int32) : a = b ↔ a.toInt = b.toInt := Int32.toInt_inj.symm
theorem vinD {i : Int32} {n : Nat} (h : ¬ (i < 0 ∨ n ≤ i.toNatClampNeg)) : vp_in i n := h
