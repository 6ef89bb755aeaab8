/-! Powers modulo a prime, as the class works them out. -/
theorem cg_mul {p a b c d : Int} (h1 : p ∣ a - b) (h2 : p ∣ c - d) : p ∣ a * c - b * d := by
  have e : a * c - b * d = (a - b) * c + b * (c - d) := by grind
  rw [e]
  exact Int.dvd_add (Int.dvd_trans h1 (Int.dvd_mul_right _ _)) (Int.dvd_trans h2 (Int.dvd_mul_left _ _))
theorem cg_pow {p a b : Int} (h : p ∣ a - b) (n : Nat) : p ∣ a ^ n - b ^ n := by
  induction n with
  | zero => simp
  | succ n ih =>
    rw [Int.pow_succ, Int.pow_succ]
    exact cg_mul ih h
theorem cg_mod (x : Int) {p : Int} : p ∣ x % p - x := by
  have := Int.mul_ediv_add_emod x p
  exact ⟨-(x / p), by rw [Int.mul_neg]; omega⟩
theorem cg_tr {p a b c : Int} (h1 : p ∣ a - b) (h2 : p ∣ b - c) : p ∣ a - c := by
  have := Int.dvd_add h1 h2
  have e : a - b + (b - c) = a - c := by omega
  rw [e] at this
  exact this
theorem sq_pow (b : Int) (n : Nat) : (b * b) ^ n = b ^ (2 * n) := by
  induction n with
  | zero => rw [Nat.mul_zero, Int.pow_zero, Int.pow_zero]
  | succ n ih =>
    rw [Int.pow_succ, ih, show 2 * (n + 1) = 2 * n + 1 + 1 by omega, Int.pow_succ, Int.pow_succ, Int.mul_assoc]
theorem ls_step {p r b N : Int} {R : Nat} (h : p ∣ r * b ^ R - N) : (R % 2 = 0 → p ∣ r * (b * b % p) ^ (R / 2) - N) ∧ (R % 2 = 1 → p ∣ (r * b % p) * (b * b % p) ^ (R / 2) - N) := by
  have hR : R = 2 * (R / 2) + R % 2 := (Nat.div_add_mod R 2).symm
  have h1 : p ∣ (b * b % p) ^ (R / 2) - b ^ (2 * (R / 2)) := by rw [← sq_pow]; exact cg_pow (cg_mod _) _
  constructor
  · intro z
    rw [z, Nat.add_zero] at hR
    rw [← hR] at h1
    exact cg_tr (cg_mul (by rw [Int.sub_self]; exact Int.dvd_zero p) h1) h
  · intro z
    rw [z] at hR
    refine cg_tr (cg_mul (cg_mod (r * b)) h1) ?_
    have e : r * b * b ^ (2 * (R / 2)) = r * b ^ R := by
      rw [hR, Int.pow_succ]
      have : (2 * (R / 2) + 1) / 2 = R / 2 := by omega
      rw [this]
      grind
    rw [e]
    exact h
theorem ls_end {p : Nat} (hp : 2 ≤ p) {r N : Int} (h0 : 0 ≤ r) (h1 : r < p) (h : (p : Int) ∣ r * 1 - N) : r = 1 ↔ (p : Int) ∣ N - 1 := by
  rw [Int.mul_one] at h
  constructor
  · intro e
    rw [e] at h
    have := Int.dvd_neg.mpr h
    have e2 : -(1 - N) = N - 1 := by omega
    rw [e2] at this
    exact this
  · intro e
    have := eu_small (cg_tr h e) (by omega) (by omega)
    omega
