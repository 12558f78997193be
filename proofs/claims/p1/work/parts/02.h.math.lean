/-! ===== the pairs of numbers a to b, in their order ===== -/
/-- how many pairs have their lower number among the d numbers from x on -/
def PP (b : Nat) : Nat → Nat → Nat
  | _, 0 => 0
  | x, d + 1 => (b + 1 - x) + PP b (x + 1) d
theorem PP_succ (b : Nat) : ∀ d x : Nat, PP b x (d + 1) = PP b x d + (b + 1 - (x + d)) := by
  intro d
  induction d with
  | zero => intro x; simp [PP]
  | succ d ih =>
    intro x
    have h1 : PP b x (d + 1 + 1) = (b + 1 - x) + PP b (x + 1) (d + 1) := rfl
    have h2 : PP b x (d + 1) = (b + 1 - x) + PP b (x + 1) d := rfl
    rw [h1, ih (x + 1), h2]
    have h3 : x + 1 + d = x + (d + 1) := by omega
    rw [h3]
    omega
/-- the j-th pair from the lower number x on -/
def gxy (b : Nat) : Nat → Nat → Nat → Nat × Nat
  | 0, x, j => (x, x + j)
  | f + 1, x, j => if j < b + 1 - x then (x, x + j) else gxy b f (x + 1) (j - (b + 1 - x))
def pxy (a b j : Nat) : Nat × Nat := gxy b (b - a) a j
theorem gxy_at (b : Nat) : ∀ d f x r : Nat, d ≤ f → r < b + 1 - (x + d) → gxy b f x (PP b x d + r) = (x + d, x + d + r) := by
  intro d
  induction d with
  | zero =>
    intro f x r _ hr
    cases f with
    | zero => simp [gxy, PP]
    | succ f =>
      have h : r < b + 1 - x := by simpa using hr
      simp [gxy, PP, h]
  | succ d ih =>
    intro f x r hf hr
    cases f with
    | zero => omega
    | succ f =>
      have h1 : PP b x (d + 1) + r = (b + 1 - x) + (PP b (x + 1) d + r) := by
        have : PP b x (d + 1) = (b + 1 - x) + PP b (x + 1) d := rfl
        omega
      have h2 : ¬ (b + 1 - x) + (PP b (x + 1) d + r) < b + 1 - x := by omega
      have h3 : (b + 1 - x) + (PP b (x + 1) d + r) - (b + 1 - x) = PP b (x + 1) d + r := by omega
      rw [h1, gxy, if_neg h2, h3, ih f (x + 1) r (by omega) (by omega)]
      have h4 : x + 1 + d = x + (d + 1) := by omega
      rw [h4]
theorem pxy_at {a b x y : Nat} (h1 : a ≤ x) (h2 : x ≤ y) (h3 : y ≤ b) : pxy a b (PP b a (x - a) + (y - x)) = (x, y) := by
  unfold pxy
  rw [gxy_at b (x - a) (b - a) a (y - x) (by omega) (by omega)]
  have e1 : a + (x - a) = x := by omega
  have e2 : x + (y - x) = y := by omega
  rw [e1, e2]
/-- a pair's number among all of 1 to 60 -/
def pix (q : Nat × Nat) : Nat := (q.1 - 1) * (122 - q.1) / 2 + (q.2 - q.1)
theorem PP_tot : PP 60 1 60 = 1830 := by decide +kernel
theorem PP_mono (b : Nat) : ∀ k d x : Nat, PP b x d ≤ PP b x (d + k) := by
  intro k
  induction k with
  | zero => intro d x; exact Nat.le_refl _
  | succ k ih =>
    intro d x
    have h := PP_succ b (d + k) x
    have h2 := ih d x
    have h3 : d + (k + 1) = d + k + 1 := by omega
    rw [h3]
    omega
theorem PP_lt {a b x y : Nat} (h1 : a ≤ x) (h2 : x ≤ y) (h3 : y ≤ b) : PP b a (x - a) + (y - x) < PP b a (b + 1 - a) := by
  have e := PP_succ b (x - a) a
  have e1 : a + (x - a) = x := by omega
  rw [e1] at e
  have m := PP_mono b (b + 1 - a - (x - a + 1)) (x - a + 1) a
  have e2 : x - a + 1 + (b + 1 - a - (x - a + 1)) = b + 1 - a := by omega
  rw [e2] at m
  omega
theorem PP_le : ∀ b, b ≤ 60 → ∀ a, a ≤ 60 → 1 ≤ a → a ≤ b → PP b a (b + 1 - a) ≤ 1830 := by decide +kernel
theorem nI_top {n : Nat} (h : n < 2 ^ 31) : (nI n).toNatClampNeg = n := nI_clamp h
/-- what learn lays: the slips of the sights sum, greater, less -/
def slF (sg x y : Nat) : Nat := if sg = 0 then x + y else if sg = 2 then y else x
def learnF (sg n : Nat) : Nat → Int32 := fun j => if j < n then nI (slF sg (pxy 1 60 j).1 (pxy 1 60 j).2) else 0
theorem learnF_0 (sg : Nat) : learnF sg 0 = fun _ => 0 := by
  funext j
  simp [learnF]
theorem learnF_step {sg n : Nat} {v : Int32} (hn : n < 2 ^ 31) (hv : v = nI (slF sg (pxy 1 60 n).1 (pxy 1 60 n).2)) : upd (learnF sg n) (nI n).toNatClampNeg v = learnF sg (n + 1) := by
  rw [nI_top hn]
  funext j
  unfold upd learnF
  by_cases h : j = n
  · subst h
    rw [if_pos rfl, if_pos (Nat.lt_succ_self j), hv]
  · rw [if_neg h]
    by_cases h2 : j < n
    · rw [if_pos h2, if_pos (by omega)]
    · rw [if_neg h2, if_neg (by omega)]
/-- what fill lays -/
def fillF (f : Nat → Int32) (a b n : Nat) : Nat → Int32 := fun j => if j < n then nI (pix (pxy a b j)) else f j
theorem fillF_0 (f : Nat → Int32) (a b : Nat) : fillF f a b 0 = f := by
  funext j
  simp [fillF]
theorem fillF_step {f : Nat → Int32} {a b n : Nat} {v : Int32} (hn : n < 2 ^ 31) (hv : v = nI (pix (pxy a b n))) : upd (fillF f a b n) (nI n).toNatClampNeg v = fillF f a b (n + 1) := by
  rw [nI_top hn]
  funext j
  unfold upd fillF
  by_cases h : j = n
  · subst h
    rw [if_pos rfl, if_pos (Nat.lt_succ_self j), hv]
  · rw [if_neg h]
    by_cases h2 : j < n
    · rw [if_pos h2, if_pos (by omega)]
    · rw [if_neg h2, if_neg (by omega)]
theorem nI_diff (A x y : Nat) (h : x ≤ y) : nI A - nI x + nI y = nI (A + (y - x)) := by
  have h1 : nI y = nI (y - x) + nI x := by rw [nI_add]; congr 1; omega
  rw [h1, ← nI_add]
  have h2 : nI A - nI x + (nI (y - x) + nI x) = nI A + nI (y - x) := by
    rw [Int32.add_comm (nI (y - x)) (nI x), ← Int32.add_assoc, Int32.sub_add_cancel]
  exact h2
theorem pix_val {x y : Nat} (h1 : 1 ≤ x) (h2 : x ≤ y) (h3 : y ≤ 60) : (nI x - 1) * (122 - nI x) / 2 - nI x + nI y = nI (pix (x, y)) := by
  have e1 : nI x - 1 = nI (x - 1) := by rw [show (1 : Int32) = nI 1 from rfl, pk_sub h1]
  have e2 : (122 : Int32) - nI x = nI (122 - x) := by rw [show (122 : Int32) = nI 122 from rfl, pk_sub (by omega)]
  have h4 : (x - 1) * (122 - x) ≤ 60 * 122 := Nat.mul_le_mul (by omega) (by omega)
  rw [e1, e2, pk_mul, show (2 : Int32) = nI 2 from rfl, pk_div (by omega) (by decide) (by decide), nI_diff _ _ _ h2]
  rfl
theorem pix_lt : ∀ x, x ≤ 60 → ∀ y, y ≤ 60 → 1 ≤ x → x ≤ y → pix (x, y) < 1830 := by decide +kernel
theorem clamp_nI {x : Int32} (h : ¬ x < 0) : x = nI x.toNatClampNeg := by
  obtain ⟨j, hj, rfl⟩ := nI_of h
  rw [nI_clamp hj]
theorem toInt_clamp {x : Int32} (h : ¬ x < 0) : x.toInt = (x.toNatClampNeg : Int) := by
  obtain ⟨j, hj, rfl⟩ := nI_of h
  rw [nI_clamp hj, nI_toInt hj]
theorem fill_rng {x2 x3 : Int32} (h1 : ¬ x2 < 1) (h2 : ¬ 60 < x2) (h3 : ¬ x3 < x2) (h4 : ¬ 60 < x3) : (1 ≤ x2.toNatClampNeg ∧ x2.toNatClampNeg ≤ x3.toNatClampNeg ∧ x3.toNatClampNeg ≤ 60) ∧ x2 = nI x2.toNatClampNeg ∧ x3 = nI x3.toNatClampNeg := by
  rw [fa_lt] at h1 h2 h3 h4
  have e1 : (1 : Int32).toInt = 1 := by decide
  have e60 : (60 : Int32).toInt = 60 := by decide
  rw [e1] at h1
  rw [e60] at h2 h4
  have g2 : ¬ x2 < 0 := by rw [fa_lt, show (0 : Int32).toInt = 0 from by decide]; omega
  have g3 : ¬ x3 < 0 := by rw [fa_lt, show (0 : Int32).toInt = 0 from by decide]; omega
  have t2 := toInt_clamp g2
  have t3 := toInt_clamp g3
  exact ⟨⟨by omega, by omega, by omega⟩, clamp_nI g2, clamp_nI g3⟩
