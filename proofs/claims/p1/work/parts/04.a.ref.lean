/-! ===== the reference's rows ===== -/
def lxF (f : Nat → Int32) (a b n : Nat) : Nat → Int32 := fun j => if j < n then nI (pxy a b j).1 else f j
def lyF (f : Nat → Int32) (a b n : Nat) : Nat → Int32 := fun j => if j < n then nI (pxy a b j).2 else f j
theorem lxF_0 (f : Nat → Int32) (a b : Nat) : lxF f a b 0 = f := by
  funext j
  simp [lxF]
theorem lyF_0 (f : Nat → Int32) (a b : Nat) : lyF f a b 0 = f := by
  funext j
  simp [lyF]
theorem lxF_step {f : Nat → Int32} {a b n : Nat} {v : Int32} (hn : n < 2 ^ 31) (hv : v = nI (pxy a b n).1) : upd (lxF f a b n) (nI n).toNatClampNeg v = lxF f a b (n + 1) := by
  rw [nI_top hn]
  funext j
  unfold upd lxF
  by_cases h : j = n
  · subst h
    rw [if_pos rfl, if_pos (Nat.lt_succ_self j), hv]
  · rw [if_neg h]
    by_cases h2 : j < n
    · rw [if_pos h2, if_pos (by omega)]
    · rw [if_neg h2, if_neg (by omega)]
theorem lyF_step {f : Nat → Int32} {a b n : Nat} {v : Int32} (hn : n < 2 ^ 31) (hv : v = nI (pxy a b n).2) : upd (lyF f a b n) (nI n).toNatClampNeg v = lyF f a b (n + 1) := by
  rw [nI_top hn]
  funext j
  unfold upd lyF
  by_cases h : j = n
  · subst h
    rw [if_pos rfl, if_pos (Nat.lt_succ_self j), hv]
  · rw [if_neg h]
    by_cases h2 : j < n
    · rw [if_pos h2, if_pos (by omega)]
    · rw [if_neg h2, if_neg (by omega)]
theorem lxF_rd {f : Nat → Int32} {w : Int32} (h0 : ¬ w < 0) (h1 : w < 190) : lxF f 2 20 (PP 20 2 (20 + 1 - 2)) w.toNatClampNeg = xW w := by
  unfold lxF
  rw [PP_220, if_pos (w_lt h0 h1)]
  rfl
theorem lyF_rd {f : Nat → Int32} {w : Int32} (h0 : ¬ w < 0) (h1 : w < 190) : lyF f 2 20 (PP 20 2 (20 + 1 - 2)) w.toNatClampNeg = yW w := by
  unfold lyF
  rw [PP_220, if_pos (w_lt h0 h1)]
  rfl
/-- a world's place among the rows' longs, its bit -/
abbrev plW (w : Int32) : Nat := ((0 : Int32) + (w >>> ((6 : Int32) &&& 31))).toNatClampNeg
abbrev shW (w : Int32) : Int64 := Int32.toInt64 (w &&& 63) &&& 63
def orW (f : Nat → Int64) (w : Int32) : Nat → Int64 := vp_updL f (plW w) (f (plW w) ||| ((1 : Int64) <<< shW w))
def bitW (f : Nat → Int64) (w : Int32) : Int64 := (f (plW w) >>> shW w) &&& 1
def rwF (f : Nat → Int64) : Nat → Nat → Int64
  | 0 => f
  | n + 1 => orW (rwF f n) (nI n)
theorem sh6 : (((6 : Int32) &&& 31).toBitVec.smod 32).toNat = 6 := by decide
theorem plW_nI {n : Nat} (h : n < 2 ^ 31) : plW (nI n) = n / 64 := by
  show ((0 : Int32) + (nI n >>> ((6 : Int32) &&& 31))).toNatClampNeg = n / 64
  rw [pk_shrN h _ 6 sh6, Int32.zero_add, nI_clamp (by omega)]
theorem shW_lt : ∀ n, n < 64 → shW (nI n) = lN n := by decide +kernel
theorem shW_nI (n : Nat) : shW (nI n) = lN (n % 64) := by
  have h : nI n &&& 63 = nI (n % 64) := by
    have h1 := pk_and (nI n) (m := 63) 6 (by decide)
    rw [h1]
    congr 1
    show (BitVec.ofNat 32 n).toNat % 2 ^ 6 = n % 64
    rw [BitVec.toNat_ofNat]
    omega
  have h2 : nI (n % 64) &&& 63 = nI (n % 64) := by
    have h1 := pk_and (nI (n % 64)) (m := 63) 6 (by decide)
    rw [h1]
    congr 1
    show (BitVec.ofNat 32 (n % 64)).toNat % 2 ^ 6 = n % 64
    rw [BitVec.toNat_ofNat]
    omega
  have h3 := shW_lt (n % 64) (Nat.mod_lt _ (by decide))
  unfold shW at h3 ⊢
  rw [h]
  rw [h2] at h3
  exact h3
theorem sm64 : ∀ k, k < 64 → ((lN k).toBitVec.smod 64).toNat = k := by decide +kernel
theorem bit_iff (x : Int64) (k : Nat) (hk : k < 64) : (x >>> lN k) &&& 1 = 1 ↔ x.toBitVec.getLsbD k = true := by
  rw [← Int64.toBitVec_inj]
  rw [Int64.toBitVec_and, Int64.toBitVec_shiftRight]
  have e1 : (1 : Int64).toBitVec = 1#64 := rfl
  rw [e1]
  have e2 : x.toBitVec.sshiftRight' ((lN k).toBitVec.smod 64) = x.toBitVec.sshiftRight k := by
    rw [BitVec.sshiftRight_eq', sm64 k hk]
  rw [e2]
  constructor
  · intro h
    have h1 : ((x.toBitVec.sshiftRight k) &&& 1#64).getLsbD 0 = (1#64).getLsbD 0 := by rw [h]
    rw [BitVec.getLsbD_and, BitVec.getLsbD_sshiftRight] at h1
    have e3 : (1#64).getLsbD 0 = true := rfl
    rw [e3, Bool.and_true] at h1
    simpa [hk] using h1
  · intro h
    apply BitVec.eq_of_getLsbD_eq
    intro i hi
    rw [BitVec.getLsbD_and, BitVec.getLsbD_one]
    by_cases h0 : i = 0
    · subst h0
      simp [BitVec.getLsbD_sshiftRight, hk, h]
    · simp [h0]
theorem shl_bit (k : Nat) (hk : k < 64) : ((1 : Int64) <<< lN k).toBitVec = BitVec.twoPow 64 k := by
  revert k
  decide +kernel
theorem or_bit (x : Int64) (k j : Nat) (hk : k < 64) : (x ||| ((1 : Int64) <<< lN k)).toBitVec.getLsbD j = (x.toBitVec.getLsbD j || decide (j = k)) := by
  rw [Int64.toBitVec_or, shl_bit k hk, BitVec.getLsbD_or, BitVec.getLsbD_twoPow]
  congr 1
  by_cases h : k = j
  · subst h
    simp [hk]
  · have h2 : ¬ j = k := fun q => h q.symm
    simp [h, h2]
theorem rwF_bits (f : Nat → Int64) : ∀ n, n ≤ 2 ^ 20 → ∀ j, j < n → ((rwF f n) (j / 64)).toBitVec.getLsbD (j % 64) = true := by
  intro n
  induction n with
  | zero => intro _ j hj; omega
  | succ n ih =>
    intro hn j hj
    have hp : plW (nI n) = n / 64 := plW_nI (by omega)
    show ((orW (rwF f n) (nI n)) (j / 64)).toBitVec.getLsbD (j % 64) = true
    unfold orW
    rw [hp, shW_nI]
    unfold vp_updL
    by_cases h : j / 64 = n / 64
    · rw [if_pos h, or_bit _ _ _ (Nat.mod_lt _ (by decide))]
      by_cases h2 : j = n
      · subst h2
        simp
      · have h3 := ih (by omega) j (by omega)
        rw [h] at h3
        rw [h3]
        rfl
    · rw [if_neg h]
      exact ih (by omega) j (by
        rcases Nat.lt_or_ge j n with q | q
        · exact q
        · exfalso
          have : j = n := by omega
          subst this
          exact h rfl)
theorem bitW_rwF (f : Nat → Int64) {n j : Nat} (hn : n ≤ 2 ^ 20) (hj : j < n) : bitW (rwF f n) (nI j) = 1 := by
  unfold bitW
  rw [plW_nI (by omega), shW_nI]
  exact (bit_iff _ _ (Nat.mod_lt _ (by decide))).mpr (rwF_bits f n hn j hj)
theorem bitW_w (f : Nat → Int64) {w : Int32} (h0 : ¬ w < 0) (h1 : w < 190) : bitW (rwF f (PP 20 2 (20 + 1 - 2))) w = 1 := by
  rw [clamp_nI h0, PP_220]
  exact bitW_rwF f (by decide) (w_lt h0 h1)
theorem plW_in {w : Int32} (h0 : ¬ w < 0) (h1 : w < 1830) : vp_in ((0 : Int32) + (w >>> ((6 : Int32) &&& 31))) 2465 := by
  obtain ⟨j, hj, rfl⟩ := nI_of h0
  have h : j < 1830 := by
    rw [fa_lt, nI_toInt hj, show (1830 : Int32).toInt = 1830 from by decide] at h1
    omega
  rw [pk_shrN hj _ 6 sh6, Int32.zero_add]
  exact vp_in_nI (by omega) (by decide)
theorem lgc_1 {x : Int64} (h : x = 1) : lg_cmp x 1 = 0 := by rw [h]; decide
theorem toI64_lt (x y : Int32) : x.toInt64 < y.toInt64 ↔ x < y := by
  rw [Int64.lt_iff_toInt_lt, fa_lt, Int32.toInt_toInt64, Int32.toInt_toInt64]
theorem toI64_eq (x y : Int32) : x.toInt64 = y.toInt64 ↔ x = y := by
  rw [← Int64.toInt_inj, Int32.toInt_toInt64, Int32.toInt_toInt64, Int32.toInt_inj]
theorem cmpL (x y : Int32) : lg_cmp x.toInt64 y.toInt64 = if y < x then 1 else if x = y then 0 else -1 := by
  unfold lg_cmp
  simp only [gt_iff_lt, toI64_lt, toI64_eq]
theorem cmp_lt {x y : Int32} (h : x < y) : lg_cmp x.toInt64 y.toInt64 < 0 := by
  rw [cmpL, if_neg (Int32.lt_asymm h), if_neg (fun q => by subst q; exact Int32.lt_irrefl h)]; decide
theorem cmp_nlt {x y : Int32} (h : ¬ x < y) : ¬ lg_cmp x.toInt64 y.toInt64 < 0 := by
  rw [cmpL]
  by_cases h1 : y < x
  · rw [if_pos h1]; decide
  · rw [if_neg h1]
    have h2 : x = y := Int32.le_antisymm (Int32.not_lt.mp h1) (Int32.not_lt.mp h)
    rw [if_pos h2]; decide
theorem cmp_gt {x y : Int32} (h : y < x) : 0 < lg_cmp x.toInt64 y.toInt64 := by
  rw [cmpL, if_pos h]; decide
theorem cmp_ngt {x y : Int32} (h : ¬ y < x) : ¬ 0 < lg_cmp x.toInt64 y.toInt64 := by
  rw [cmpL, if_neg h]
  by_cases h2 : x = y
  · rw [if_pos h2]; decide
  · rw [if_neg h2]; decide
/-- a row of known: lower end a, upper end b -/
theorem cp_all {F G : Nat → Int32} {n : Nat} (h : ∀ j, n ≤ j → F j = G j) : (fun j => if j < n then F j else G j) = F := by
  funext j
  by_cases q : j < n
  · rw [if_pos q]
  · rw [if_neg q]
    exact (h j (by omega)).symm
theorem cp_step {F G : Nat → Int32} {n : Nat} (hn : n < 2 ^ 31) : upd (fun j => if j < n then F j else G j) (nI n).toNatClampNeg (F (nI n).toNatClampNeg) = fun j => if j < n + 1 then F j else G j := by
  rw [nI_top hn]
  funext j
  unfold upd
  by_cases h : j = n
  · subst h
    rw [if_pos rfl, if_pos (Nat.lt_succ_self j)]
  · rw [if_neg h]
    show (if j < n then F j else G j) = _
    by_cases h2 : j < n
    · rw [if_pos h2, if_pos (by omega)]
    · rw [if_neg h2, if_neg (by omega)]
theorem pos220 : ∀ j, j < 190 → PP 20 2 ((pxy 2 20 j).1 - 2) + ((pxy 2 20 j).2 - (pxy 2 20 j).1) = j := by decide +kernel
theorem cnt_le {a b : Int32} (h1 : ¬ a < 1) (h2 : ¬ 60 < a) (h3 : ¬ b < a) (h4 : ¬ 60 < b) : PP b.toNatClampNeg a.toNatClampNeg (b.toNatClampNeg + 1 - a.toNatClampNeg) ≤ 1830 := by
  obtain ⟨⟨g1, g2, g3⟩, -⟩ := fill_rng h1 h2 h3 h4
  exact PP_le _ g3 _ (by omega) g1 g2
theorem pair_at {x y : Int32} (h1 : ¬ x < 2) (h2 : ¬ 20 < y) (h3 : ¬ y < x) : ∃ N : Nat, nI N = nI (PP 20 2 (x.toNatClampNeg - 2) + (y.toNatClampNeg - x.toNatClampNeg)) ∧ N < 190 ∧ xW (nI N) = x ∧ yW (nI N) = y := by
  rw [fa_lt] at h1 h2 h3
  rw [show (2 : Int32).toInt = 2 from by decide] at h1
  rw [show (20 : Int32).toInt = 20 from by decide] at h2
  have gx : ¬ x < 0 := by rw [fa_lt, show (0 : Int32).toInt = 0 from by decide]; omega
  have gy : ¬ y < 0 := by rw [fa_lt, show (0 : Int32).toInt = 0 from by decide]; omega
  obtain ⟨i, hi, rfl⟩ := nI_of gx
  obtain ⟨j, hj, rfl⟩ := nI_of gy
  rw [nI_toInt hi] at h1 h3
  rw [nI_toInt hj] at h2 h3
  have q1 : 2 ≤ i := by omega
  have q2 : i ≤ j := by omega
  have q3 : j ≤ 20 := by omega
  have hb := PP_lt q1 q2 q3
  rw [PP_220] at hb
  have hp := pxy_at q1 q2 q3
  refine ⟨PP 20 2 (i - 2) + (j - i), by rw [nI_clamp hi, nI_clamp hj], hb, ?_, ?_⟩
  · unfold xW
    rw [nI_clamp (by omega), hp]
  · unfold yW
    rw [nI_clamp (by omega), hp]
theorem pair_no {x y : Int32} (h : x < 2 ∨ 20 < y) : ∀ n, n < 190 → xW (nI n) = x → yW (nI n) = y → False := by
  intro n hn hx hy
  have hr := pxy_220 n hn
  unfold xW at hx
  unfold yW at hy
  rw [nI_clamp (by omega)] at hx hy
  rcases h with h | h
  · rw [← hx] at h
    exact nI_nlt (b := 2) hr.1 (by omega) h
  · rw [← hy] at h
    exact nI_nlt (a := 20) hr.2.2 (by omega) h
theorem pair_un {x y : Int32} {N n : Nat} (hN : N < 190) (hxy : xW (nI N) = x ∧ yW (nI N) = y) (hn : n < 190) (hx : xW (nI n) = x) (hy : yW (nI n) = y) : n = N := by
  have a1 := hx.trans hxy.1.symm
  have a2 := hy.trans hxy.2.symm
  unfold xW at a1
  unfold yW at a2
  rw [nI_clamp (by omega), nI_clamp (by omega)] at a1 a2
  have r1 := pxy_220 n hn
  have r2 := pxy_220 N hN
  rw [nI_eq (by omega) (by omega)] at a1 a2
  have p1 := pos220 n hn
  have p2 := pos220 N hN
  rw [a1, a2] at p1
  omega
theorem num_eq {x y : Int32} (h1 : ¬ x < 2) (h2 : ¬ 20 < y) (h3 : ¬ y < x) : nI (PP 20 2 (x.toNatClampNeg - 2)) + y - x = nI (PP 20 2 (x.toNatClampNeg - 2) + (y.toNatClampNeg - x.toNatClampNeg)) := by
  rw [fa_lt] at h1 h2 h3
  rw [show (2 : Int32).toInt = 2 from by decide] at h1
  have gx : ¬ x < 0 := by rw [fa_lt, show (0 : Int32).toInt = 0 from by decide]; omega
  have gy : ¬ y < 0 := by rw [fa_lt, show (0 : Int32).toInt = 0 from by decide]; omega
  obtain ⟨i, hi, rfl⟩ := nI_of gx
  obtain ⟨j, hj, rfl⟩ := nI_of gy
  rw [nI_toInt hi, nI_toInt hj] at h3
  rw [nI_clamp hi, nI_clamp hj, nI_add, pk_sub (by omega)]
  congr 1
  omega
