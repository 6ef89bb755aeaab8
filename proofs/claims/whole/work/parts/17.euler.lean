/-! Euler's test: v to the power (p - 1) / 2 is 1 modulo an odd prime p just if v is like a square. -/
def eu_pr : List Int → Int
  | [] => 1
  | x :: l => x * eu_pr l
theorem eu_er {y : Int} : ∀ {l : List Int}, y ∈ l → eu_pr l = y * eu_pr (l.erase y) := by
  intro l
  induction l with
  | nil => intro h; simp at h
  | cons x l ih =>
    intro h
    by_cases e : x = y
    · subst e
      rw [List.erase_cons_head]
      rfl
    · have hy : y ∈ l := by
        rcases List.mem_cons.mp h with k | k
        · exact absurd k.symm e
        · exact k
      rw [List.erase_cons_tail (by simpa using e)]
      show x * eu_pr l = y * (x * eu_pr (l.erase y))
      rw [ih hy]
      grind
theorem eu_small {p : Nat} {x : Int} (h : (p : Int) ∣ x) (h1 : -(p : Int) < x) (h2 : x < p) : x = 0 := by
  apply Classical.byContradiction
  intro h0
  exact fr_nd h0 h1 h2 h
theorem eu_pair {p : Nat} (hp : fr_P p) {v : Int} : ∀ (n : Nat) (l : List Int), l.length ≤ n → l.Nodup → (∀ x ∈ l, 1 ≤ x ∧ x < p) → (∀ x ∈ l, ∃ y ∈ l, y ≠ x ∧ (p : Int) ∣ x * y - v) → ∃ m : Nat, l.length = 2 * m ∧ (p : Int) ∣ eu_pr l - v ^ m := by
  intro n
  induction n with
  | zero =>
    intro l hl _ _ _
    have : l = [] := List.length_eq_zero_iff.mp (by omega)
    subst this
    exact ⟨0, rfl, by simp [eu_pr]⟩
  | succ n ih =>
    intro l hl nd hb hc
    match l, hl, nd, hb, hc with
    | [], _, _, _, _ => exact ⟨0, rfl, by simp [eu_pr]⟩
    | x :: t, hl, nd, hb, hc =>
      obtain ⟨y, hy, hyx, hxy⟩ := hc x List.mem_cons_self
      have hyt : y ∈ t := by
        rcases List.mem_cons.mp hy with k | k
        · exact absurd k hyx
        · exact k
      rw [List.nodup_cons] at nd
      have hlen := List.length_erase_of_mem hyt
      have hpos : 0 < t.length := List.length_pos_of_mem hyt
      simp only [List.length_cons] at hl
      have hx1 := hb x List.mem_cons_self
      have hy1 := hb y hy
      have inj : ∀ z u : Int, 1 ≤ z → z < p → 1 ≤ u → u < p → ∀ q : Int, 1 ≤ q → q < p → (p : Int) ∣ q * z - v → (p : Int) ∣ q * u - v → z = u := by
        intro z u z1 z2 u1 u2 q q1 q2 d1 d2
        have d := Int.dvd_sub d1 d2
        have e : q * z - v - (q * u - v) = q * (z - u) := by grind
        rw [e] at d
        rcases fr_euc hp d with k | k
        · have := eu_small k (by omega) (by omega)
          omega
        · have := eu_small k (by omega) (by omega)
          omega
      obtain ⟨m, m1, m2⟩ := ih (t.erase y) (by omega) (nd.2.erase y) (fun z hz => hb z (List.mem_cons_of_mem _ (List.mem_of_mem_erase hz))) (by
        intro z hz
        have hzt := List.mem_of_mem_erase hz
        have hzl : z ∈ x :: t := List.mem_cons_of_mem _ hzt
        have hz1 := hb z hzl
        have hzy : z ≠ y := by
          intro e
          rw [e] at hz
          exact (List.Nodup.not_mem_erase nd.2) hz
        have hzx : z ≠ x := by
          intro e
          rw [e] at hzt
          exact nd.1 hzt
        obtain ⟨u, hu, huz, hd⟩ := hc z hzl
        have hu1 := hb u hu
        have hux : u ≠ x := by
          intro e
          rw [e] at hd
          rw [Int.mul_comm] at hd
          exact hzy (inj z y hz1.1 hz1.2 hy1.1 hy1.2 x hx1.1 hx1.2 hd hxy)
        have huy : u ≠ y := by
          intro e
          rw [e] at hd
          rw [Int.mul_comm] at hd
          rw [Int.mul_comm] at hxy
          exact hzx (inj z x hz1.1 hz1.2 hx1.1 hx1.2 y hy1.1 hy1.2 hd hxy)
        have hut : u ∈ t := by
          rcases List.mem_cons.mp hu with k | k
          · exact absurd k hux
          · exact k
        exact ⟨u, (List.mem_erase_of_ne huy).mpr hut, huz, hd⟩)
      refine ⟨m + 1, by simp only [List.length_cons]; omega, ?_⟩
      show (p : Int) ∣ x * eu_pr t - v ^ (m + 1)
      rw [eu_er hyt, Int.pow_succ]
      have e : x * (y * eu_pr (t.erase y)) - v ^ m * v = (x * y - v) * eu_pr (t.erase y) + v * (eu_pr (t.erase y) - v ^ m) := by grind
      rw [e]
      exact Int.dvd_add (Int.dvd_trans hxy (Int.dvd_mul_right _ _)) (Int.dvd_trans m2 (Int.dvd_mul_left _ _))
def eu_l (p : Nat) : List Int := (List.range (p - 1)).map (fun i : Nat => (i : Int) + 1)
theorem eu_l_len (p : Nat) : (eu_l p).length = p - 1 := by simp [eu_l]
theorem eu_l_mem {p : Nat} {x : Int} : x ∈ eu_l p ↔ 1 ≤ x ∧ x < p := by
  unfold eu_l
  rw [List.mem_map]
  constructor
  · rintro ⟨i, hi, rfl⟩
    have := List.mem_range.mp hi
    omega
  · rintro ⟨h1, h2⟩
    exact ⟨(x - 1).toNat, List.mem_range.mpr (by omega), by omega⟩
theorem eu_l_nd (p : Nat) : (eu_l p).Nodup := by
  unfold eu_l
  unfold List.Nodup
  rw [List.pairwise_map]
  exact (List.nodup_range).imp (fun {a b} h e => h (by omega))
/-- everything from 1 to p - 1 has a partner with the product v -/
theorem eu_part {p : Nat} (hp : fr_P p) {v x : Int} (hv1 : 1 ≤ v) (hv2 : v < p) (h1 : 1 ≤ x) (h2 : x < p) : ∃ y : Int, 1 ≤ y ∧ y < p ∧ (p : Int) ∣ x * y - v := by
  obtain ⟨u, t, g, g0, e, d1, d2⟩ := fm_bez _ x p (Nat.le_refl _) (Or.inl (by omega))
  have hp0 := hp.1
  have hg : g = 1 ∨ g = -1 := by
    have d3 : g.natAbs ∣ p := by
      have := Int.natAbs_dvd_natAbs.mpr d2
      simpa using this
    rcases hp.2 _ d3 with k | k
    · omega
    · exfalso
      have d4 : (p : Int) ∣ x := by
        rw [← Int.natAbs_dvd_natAbs, Int.natAbs_natCast, ← k]
        exact Int.natAbs_dvd_natAbs.mpr d1
      exact fr_nd (by omega) (by omega) h2 d4
  have hgg : g * g = 1 := by rcases hg with h | h <;> rw [h] <;> decide
  obtain ⟨y, hy⟩ : ∃ y, y = (v * g * u) % p := ⟨_, rfl⟩
  have y0 := Int.emod_nonneg (v * g * u) (show (p : Int) ≠ 0 by omega)
  have y1 := Int.emod_lt_of_pos (v * g * u) (show (0 : Int) < p by omega)
  have y2 := Int.mul_ediv_add_emod (v * g * u) p
  rw [← hy] at y0 y1 y2
  have hd : (p : Int) ∣ x * y - v := by
    refine ⟨-(v * g * t) - x * (v * g * u / p), ?_⟩
    have e1 : x * y = x * (v * g * u) - x * (p * (v * g * u / p)) := by
      have hy' : y = v * g * u - p * (v * g * u / p) := by omega
      rw [← Int.mul_sub, ← hy']
    have e2 : v * g * (u * x + t * p) = v := by
      rw [e]
      have : v * g * g = v * (g * g) := by grind
      rw [this, hgg, Int.mul_one]
    grind
  refine ⟨y, ?_, y1, hd⟩
  rcases Int.lt_or_le 0 y with k | k
  · omega
  · exfalso
    have : y = 0 := by omega
    rw [this, Int.mul_zero, Int.zero_sub] at hd
    exact fr_nd (by omega) (by omega) (by omega) hd
/-- v is no square: all numbers from 1 to p - 1 multiplied -/
theorem eu_no {p : Nat} (hp : fr_P p) {v : Int} (hv1 : 1 ≤ v) (hv2 : v < p) (h : ∀ x : Int, 1 ≤ x → x < p → ¬ (p : Int) ∣ x * x - v) : (p : Int) ∣ eu_pr (eu_l p) - v ^ ((p - 1) / 2) := by
  obtain ⟨m, m1, m2⟩ := eu_pair hp (v := v) _ (eu_l p) (Nat.le_refl _) (eu_l_nd p) (fun x hx => eu_l_mem.mp hx) (fun x hx => by
    obtain ⟨x1, x2⟩ := eu_l_mem.mp hx
    obtain ⟨y, y1, y2, y3⟩ := eu_part hp hv1 hv2 x1 x2
    exact ⟨y, eu_l_mem.mpr ⟨y1, y2⟩, fun e => h x x1 x2 (by rw [e] at y3; exact y3), y3⟩)
  rw [eu_l_len] at m1
  have : (p - 1) / 2 = m := by omega
  rw [this]
  exact m2
/-- v is the square of x -/
theorem eu_yes {p : Nat} (hp : fr_P p) (h3 : 3 ≤ p) (hodd : p % 2 = 1) {v x : Int} (hv1 : 1 ≤ v) (hv2 : v < p) (hx1 : 1 ≤ x) (hx2 : x < p) (hd : (p : Int) ∣ x * x - v) : (p : Int) ∣ eu_pr (eu_l p) + v ^ ((p - 1) / 2) := by
  have hxm : x ∈ eu_l p := eu_l_mem.mpr ⟨hx1, hx2⟩
  have hne : (p : Int) - x ≠ x := by omega
  have hym : (p : Int) - x ∈ (eu_l p).erase x := (List.mem_erase_of_ne hne).mpr (eu_l_mem.mpr ⟨by omega, by omega⟩)
  have nd1 := (eu_l_nd p).erase x
  have hin : ∀ z, z ∈ ((eu_l p).erase x).erase ((p : Int) - x) ↔ (1 ≤ z ∧ z < p) ∧ z ≠ x ∧ z ≠ (p : Int) - x := by
    intro z
    rw [nd1.mem_erase_iff, (eu_l_nd p).mem_erase_iff, eu_l_mem]
    constructor
    · rintro ⟨a, b, c⟩
      exact ⟨c, b, a⟩
    · rintro ⟨a, b, c⟩
      exact ⟨c, b, a⟩
  have roots : ∀ z : Int, 1 ≤ z → z < p → (p : Int) ∣ z * z - v → z = x ∨ z = (p : Int) - x := by
    intro z z1 z2 hz
    have d := Int.dvd_sub hz hd
    have e : z * z - v - (x * x - v) = (z - x) * (z + x) := by grind
    rw [e] at d
    rcases fr_euc hp d with k | k
    · left
      have := eu_small k (by omega) (by omega)
      omega
    · right
      have := eu_small (Int.dvd_sub k (Int.dvd_refl (p : Int))) (by omega) (by omega)
      omega
  obtain ⟨m, m1, m2⟩ := eu_pair hp (v := v) _ (((eu_l p).erase x).erase ((p : Int) - x)) (Nat.le_refl _) (nd1.erase _) (fun z hz => ((hin z).mp hz).1) (by
    intro z hz
    obtain ⟨⟨z1, z2⟩, z3, z4⟩ := (hin z).mp hz
    obtain ⟨y, y1, y2, y3⟩ := eu_part hp hv1 hv2 z1 z2
    have yz : y ≠ z := by
      intro e
      rw [e] at y3
      rcases roots z z1 z2 y3 with k | k
      · exact z3 k
      · exact z4 k
    have inj : ∀ q : Int, (p : Int) ∣ q * q - v → 1 ≤ q → q < p → y = q → z = q := by
      intro q hq q1 q2 e
      rw [e] at y3
      have d := Int.dvd_sub y3 hq
      have e2 : z * q - v - (q * q - v) = (z - q) * q := by grind
      rw [e2] at d
      rcases fr_euc hp d with k | k
      · have := eu_small k (by omega) (by omega)
        omega
      · exact absurd k (fr_nd (by omega) (by omega) q2)
    have hd2 : (p : Int) ∣ ((p : Int) - x) * ((p : Int) - x) - v := by
      have e2 : ((p : Int) - x) * ((p : Int) - x) - v = (x * x - v) + p * (p - 2 * x) := by grind
      rw [e2]
      exact Int.dvd_add hd (Int.dvd_mul_right _ _)
    refine ⟨y, (hin y).mpr ⟨⟨y1, y2⟩, fun e => z3 (inj x hd hx1 hx2 e), fun e => z4 (inj _ hd2 (by omega) (by omega) e)⟩, yz, y3⟩)
  rw [List.length_erase_of_mem hym, List.length_erase_of_mem hxm, eu_l_len] at m1
  have hm : (p - 1) / 2 = m + 1 := by omega
  rw [hm, Int.pow_succ, eu_er hxm, eu_er hym]
  generalize eu_pr (((eu_l p).erase x).erase ((p : Int) - x)) = T at m2 ⊢
  have e : x * (((p : Int) - x) * T) + v ^ m * v = p * (x * T) - (x * x - v) * T - v * (T - v ^ m) := by grind
  rw [e]
  exact Int.dvd_sub (Int.dvd_sub (Int.dvd_mul_right _ _) (Int.dvd_trans hd (Int.dvd_mul_right _ _))) (Int.dvd_trans m2 (Int.dvd_mul_left _ _))
theorem eu_test {p : Nat} (hp : fr_P p) (h3 : 3 ≤ p) {v : Int} (hv1 : 1 ≤ v) (hv2 : v < p) : (p : Int) ∣ v ^ ((p - 1) / 2) - 1 ↔ ∃ x : Int, 0 ≤ x ∧ x ≤ p / 2 ∧ (p : Int) ∣ x * x - v := by
  have hodd : p % 2 = 1 := by
    rcases Nat.mod_two_eq_zero_or_one p with k | k
    · rcases hp.2 2 (Nat.dvd_of_mod_eq_zero k) with e | e <;> omega
    · exact k
  have h1 := eu_yes hp h3 hodd (v := 1) (x := 1) (by decide) (by omega) (by decide) (by omega) (by simp)
  rw [Int.one_pow] at h1
  constructor
  · intro h
    apply Classical.byContradiction
    intro hn
    have h2 := eu_no hp hv1 hv2 (fun x x1 x2 hx => by
      by_cases e : x ≤ p / 2
      · exact hn ⟨x, by omega, e, hx⟩
      · refine hn ⟨(p : Int) - x, by omega, by omega, ?_⟩
        have e2 : ((p : Int) - x) * ((p : Int) - x) - v = (x * x - v) + p * (p - 2 * x) := by grind
        rw [e2]
        exact Int.dvd_add hx (Int.dvd_mul_right _ _))
    -- the product is both -1 and 1
    have d := Int.dvd_sub h1 (Int.dvd_add h2 h)
    have e : eu_pr (eu_l p) + 1 - (eu_pr (eu_l p) - v ^ ((p - 1) / 2) + (v ^ ((p - 1) / 2) - 1)) = 2 := by omega
    rw [e] at d
    exact fr_nd (by decide) (by omega) (by omega) d
  · rintro ⟨x, x0, x1, hx⟩
    have xne : x ≠ 0 := by
      intro e
      rw [e, Int.mul_zero, Int.zero_sub] at hx
      exact fr_nd (by omega) (by omega) (by omega) hx
    have h2 := eu_yes hp h3 hodd hv1 hv2 (by omega) (by omega) hx
    have d := Int.dvd_sub h2 h1
    have e : eu_pr (eu_l p) + v ^ ((p - 1) / 2) - (eu_pr (eu_l p) + 1) = v ^ ((p - 1) / 2) - 1 := by omega
    rw [e] at d
    exact d
