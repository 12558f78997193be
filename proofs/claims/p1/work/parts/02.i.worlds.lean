/-! ===== the worlds of a fresh object: pairs of 2 to 20 ===== -/
theorem and_m1 (x : Int32) : x &&& (-1) = x := by
  apply Int32.toBitVec_inj.mp
  rw [Int32.toBitVec_and]
  have h : (-1 : Int32).toBitVec = BitVec.allOnes 32 := by decide
  rw [h, BitVec.and_allOnes]
def prW (w : Int32) : Int32 := nI (pix (pxy 2 20 w.toNatClampNeg))
def xW (w : Int32) : Int32 := nI (pxy 2 20 w.toNatClampNeg).1
def yW (w : Int32) : Int32 := nI (pxy 2 20 w.toNatClampNeg).2
theorem PP_220 : PP 20 2 (20 + 1 - 2) = 190 := by decide +kernel
theorem w_lt {w : Int32} (h0 : ¬ w < 0) (h1 : w < 190) : w.toNatClampNeg < 190 := by
  have t := toInt_clamp h0
  rw [fa_lt, show (190 : Int32).toInt = 190 from by decide] at h1
  omega
theorem w_in {w : Int32} {n : Nat} (h0 : ¬ w < 0) (h1 : w < 190) (hn : 190 ≤ n) : vp_in w n := by
  have h := w_lt h0 h1
  exact fun q => q.elim h0 (fun q => by omega)
theorem pxy_220 : ∀ j, j < 190 → 2 ≤ (pxy 2 20 j).1 ∧ (pxy 2 20 j).1 ≤ (pxy 2 20 j).2 ∧ (pxy 2 20 j).2 ≤ 20 := by decide +kernel
theorem pix_220 : ∀ j, j < 190 → pix (pxy 2 20 j) < 1830 ∧ pxy 1 60 (pix (pxy 2 20 j)) = pxy 2 20 j := by decide +kernel
theorem prW_cl {w : Int32} (h0 : ¬ w < 0) (h1 : w < 190) : (prW w).toNatClampNeg = pix (pxy 2 20 w.toNatClampNeg) := nI_clamp (Nat.lt_trans (pix_220 _ (w_lt h0 h1)).1 (by decide))
theorem prW_in {w : Int32} (h0 : ¬ w < 0) (h1 : w < 190) : vp_in (prW w) 1830 := vp_in_nI (pix_220 _ (w_lt h0 h1)).1 (by decide)
theorem prW_rd {f : Nat → Int32} {w : Int32} (h0 : ¬ w < 0) (h1 : w < 190) : fillF f 2 20 (PP 20 2 (20 + 1 - 2)) w.toNatClampNeg = prW w := by
  unfold fillF
  rw [PP_220, if_pos (w_lt h0 h1)]
  rfl
theorem prW_lo {w : Int32} (h0 : ¬ w < 0) (h1 : w < 190) : learnF 3 1830 (prW w).toNatClampNeg = xW w := by
  have h := pix_220 _ (w_lt h0 h1)
  unfold learnF
  rw [prW_cl h0 h1, if_pos h.1, h.2]
  rfl
theorem prW_hi {w : Int32} (h0 : ¬ w < 0) (h1 : w < 190) : learnF 2 1830 (prW w).toNatClampNeg = yW w := by
  have h := pix_220 _ (w_lt h0 h1)
  unfold learnF
  rw [prW_cl h0 h1, if_pos h.1, h.2]
  rfl
theorem prW_ne {w : Int32} (h0 : ¬ w < 0) (h1 : w < 190) : ¬ (-1 : Int32) = prW w := by
  intro q
  have h := prW_in h0 h1
  rw [← q] at h
  exact h (Or.inl (by decide))
theorem prW_ne' {w : Int32} (h0 : ¬ w < 0) (h1 : w < 190) : ¬ prW w = (-1 : Int32) := fun q => prW_ne h0 h1 q.symm
theorem sum_le {x y : Int32} (h1 : ¬ x < 2) (h2 : ¬ 20 < y) (h3 : ¬ y < x) : x + y ≤ 120 := by
  rw [fa_lt] at h1 h2 h3
  rw [show (2 : Int32).toInt = 2 from by decide] at h1
  rw [show (20 : Int32).toInt = 20 from by decide] at h2
  have gx : ¬ x < 0 := by rw [fa_lt, show (0 : Int32).toInt = 0 from by decide]; omega
  have gy : ¬ y < 0 := by rw [fa_lt, show (0 : Int32).toInt = 0 from by decide]; omega
  obtain ⟨i, hi, rfl⟩ := nI_of gx
  obtain ⟨j, hj, rfl⟩ := nI_of gy
  rw [nI_toInt hi] at h1 h3
  rw [nI_toInt hj] at h2 h3
  rw [nI_add]
  exact nI_le (b := 120) (by omega) (by decide)
theorem num_rng {x y : Int32} (h1 : ¬ x < 2) (h2 : ¬ 20 < y) (h3 : ¬ y < x) : 2 ≤ x.toNatClampNeg ∧ x.toNatClampNeg ≤ 20 ∧ x = nI x.toNatClampNeg := by
  rw [fa_lt] at h1 h2 h3
  rw [show (2 : Int32).toInt = 2 from by decide] at h1
  rw [show (20 : Int32).toInt = 20 from by decide] at h2
  have gx : ¬ x < 0 := by rw [fa_lt, show (0 : Int32).toInt = 0 from by decide]; omega
  have t := toInt_clamp gx
  exact ⟨by omega, by omega, clamp_nI gx⟩
theorem PP_one : ∀ n, n ≤ 60 → 2 < n → ¬ PP n 2 (n + 1 - 2) = 1 := by decide +kernel
theorem acpy0 {f g : Nat → Int32} {sp dp : Nat} : va_cpy f g sp dp 0 = g := by
  funext k
  unfold va_cpy
  exact if_neg (by omega)
section RowsI
variable {p : Program} {l : Launch} {e : Env} {R : Room} {s : State} {m : MethodId} {args : Array Value} {below : List Frame} {meth : Method} {c : Code} {H : Heap} {locs : List Loc} {cells slots : Nat} {Q : State → Prop}
variable {cc : ByteArray} {own : String} {D : va_G} {cy : Nat → ClassId} {A : Nat → Prop} {ws : va_W} {pc : Nat} {ls : Array Slot} {rest : List Value}
/-- System.arraycopy of no elements -/
theorem r_acopy0 (C : Cx p s m args c cc own D cy A) (w : Wd D A s.heap ws H locs) (hsz : ls.size = c.maxLocals) (q0 q1 : Nat) {a a0 n0 n1 index : Nat} {f g : Nat → Int32} (ha0 : ws[q0]? = some (a0, .inl (cy 1, n0, .inl f))) (ha1 : ws[q1]? = some (a, .inl (cy 1, n1, .inl g))) (hl : Cond.methodLink own index arraycopyName ∈ gw) (hnat : Cond.native arraycopyName ∈ gw) (hst : Cond.static arraycopyName ∈ gw) (hi : Cond.initialized "java/lang/System" ∈ gw) (hws : ws.set q1 (a, .inl (cy 1, n1, .inl g)) = ws)
    (hR : 1 ≤ R.frames ∧ (rest.map fun v => v.category).sum + (nativeFrameWords "java/lang/System" "arraycopy" 5 + 11) ≤ R.locals) (hdg : decode cc pc = .ok (.invokestatic index, 3)) (kk : ∀ (H1 : Heap) (locs1 : List Loc), Wd D A s.heap ws H1 locs1 → W p l e R s m args below meth c H1 locs1 cells slots Q (F0 m (pc + 3) ls rest)) : W p l e R s m args below meth c H locs cells slots Q (F0 m pc ls (.int 0 :: .int 0 :: .ref a :: .int 0 :: .ref a0 :: rest)) := by
  refine va_copyi C.1 C.2.1 hsz.symm C.2.2.1 (C.2.2.2.1 _ hl) (C.2.2.2.1 _ hnat) (C.2.2.2.1 _ hst) (C.2.2.2.1 _ hi) C.2.2.2.2.1.1 w.1 w.2.1 w.2.2 q0 q1 1 1 (ty := .int) ha0 ha1 rfl rfl rfl (by decide) (by decide) (by decide) (Nat.zero_le _) (Nat.zero_le _) (fun i hi => absurd hi (Nat.not_lt_zero i)) hR.1 hR.2 hdg (fun H1 locs1 h1 h2 h3 => ?_)
  have e0 : va_cpy f g (0 : Int32).toNatClampNeg (0 : Int32).toNatClampNeg (0 : Int32).toNatClampNeg = g := acpy0
  rw [e0, hws] at h1 h2
  exact kk H1 locs1 ⟨h1, h2, h3⟩
end RowsI
theorem i_nlt {x y : Int32} (k : ¬ x < y) : y.toInt ≤ x.toInt := by rw [fa_lt] at k; omega
theorem i_lt {x y : Int32} (k : x < y) : x.toInt + 1 ≤ y.toInt := by rw [fa_lt] at k; omega
theorem i_le {x y : Int32} (k : x ≤ y) : x.toInt ≤ y.toInt := by rw [fa_le] at k; exact k
theorem i_nle {x y : Int32} (k : ¬ x ≤ y) : y.toInt + 1 ≤ x.toInt := by rw [fa_le] at k; omega
