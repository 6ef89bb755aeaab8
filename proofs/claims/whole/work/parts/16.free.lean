/-! The search for a number that a form takes and that has only 1 in common with n (at most 1024): it ends at y = 15 at the latest. -/
def fr_P (p : Nat) : Prop := 2 ≤ p ∧ ∀ d, d ∣ p → d = 1 ∨ d = p
theorem fr_euc {p : Nat} (hp : fr_P p) {x y : Int} (h : (p : Int) ∣ x * y) : (p : Int) ∣ x ∨ (p : Int) ∣ y := by
  rw [← Int.natAbs_dvd_natAbs, Int.natAbs_mul, Int.natAbs_natCast] at h
  rcases hp.2 (Nat.gcd p y.natAbs) (Nat.gcd_dvd_left _ _) with k | k
  · left
    rw [← Int.natAbs_dvd_natAbs, Int.natAbs_natCast]
    exact Nat.Coprime.dvd_of_dvd_mul_right k h
  · right
    rw [← Int.natAbs_dvd_natAbs, Int.natAbs_natCast]
    have := Nat.gcd_dvd_right p y.natAbs
    rw [k] at this
    exact this
/-- a polynomial of second degree has at most two roots modulo a prime -/
theorem fr_two {p : Nat} (hp : fr_P p) {A B C x y z : Int} (h0 : ¬ ((p : Int) ∣ A ∧ (p : Int) ∣ B ∧ (p : Int) ∣ C)) (hxy : ¬ (p : Int) ∣ x - y) (hxz : ¬ (p : Int) ∣ x - z) (hyz : ¬ (p : Int) ∣ y - z) (hx : (p : Int) ∣ A * (x * x) + B * x + C) (hy : (p : Int) ∣ A * (y * y) + B * y + C) (hz : (p : Int) ∣ A * (z * z) + B * z + C) : False := by
  have e1 : (x - y) * (A * (x + y) + B) = A * (x * x) + B * x + C - (A * (y * y) + B * y + C) := by grind
  have e2 : (x - z) * (A * (x + z) + B) = A * (x * x) + B * x + C - (A * (z * z) + B * z + C) := by grind
  have d1 := (fr_euc hp (by rw [e1]; exact Int.dvd_sub hx hy)).resolve_left hxy
  have d2 := (fr_euc hp (by rw [e2]; exact Int.dvd_sub hx hz)).resolve_left hxz
  have e3 : (y - z) * A = A * (x + y) + B - (A * (x + z) + B) := by grind
  have d3 := (fr_euc hp (by rw [e3]; exact Int.dvd_sub d1 d2)).resolve_left hyz
  have d4 : (p : Int) ∣ B := by
    have : B = A * (x + y) + B - A * (x + y) := by omega
    rw [this]
    exact Int.dvd_sub d1 (Int.dvd_trans d3 (Int.dvd_mul_right _ _))
  refine h0 ⟨d3, d4, ?_⟩
  have : C = A * (x * x) + B * x + C - A * (x * x) - B * x := by omega
  rw [this]
  exact Int.dvd_sub (Int.dvd_sub hx (Int.dvd_trans d3 (Int.dvd_mul_right _ _))) (Int.dvd_trans d4 (Int.dvd_mul_right _ _))
theorem fr_len {P Q R : Int → Bool} : ∀ (l : List Int), (∀ x ∈ l, P x = true ∨ Q x = true ∨ R x = true) → l.length ≤ (l.filter P).length + (l.filter Q).length + (l.filter R).length := by
  intro l
  induction l with
  | nil => intro _; simp
  | cons a l ih =>
    intro h
    have h1 := ih (fun x hx => h x (List.mem_cons_of_mem _ hx))
    have h2 := h a List.mem_cons_self
    simp only [List.filter_cons, List.length_cons]
    cases hP : P a <;> cases hQ : Q a <;> cases hR : R a <;> simp_all <;> omega
def fr_g (A B C x : Int) : Int := A * (x * x) + B * x + C
def fr_b (p : Nat) (A B C : Int) : Int → Bool := fun x => decide ((p : Int) ∣ fr_g A B C x)
theorem fr_le2 {p : Nat} (hp : fr_P p) {A B C : Int} (h0 : ¬ ((p : Int) ∣ A ∧ (p : Int) ∣ B ∧ (p : Int) ∣ C)) {l : List Int} (hl : l.Pairwise (fun x y => ¬ (p : Int) ∣ x - y)) : (l.filter (fr_b p A B C)).length ≤ 2 := by
  have hf := hl.filter (fr_b p A B C)
  have hm : ∀ x ∈ l.filter (fr_b p A B C), (p : Int) ∣ A * (x * x) + B * x + C := by
    intro x hx
    have := (List.mem_filter.mp hx).2
    unfold fr_b fr_g at this
    exact of_decide_eq_true this
  generalize l.filter (fr_b p A B C) = m at hf hm
  match m, hf, hm with
  | [], _, _ => simp
  | [_], _, _ => simp
  | [_, _], _, _ => simp
  | x :: y :: z :: t, hf, hm =>
    exfalso
    rw [List.pairwise_cons, List.pairwise_cons] at hf
    exact fr_two hp h0 (hf.1 y (by simp)) (hf.1 z (by simp)) (hf.2.1 z (by simp)) (hm x (by simp)) (hm y (by simp)) (hm z (by simp))
/-- a difference that is neither 0 nor as large as p -/
theorem fr_nd {p : Nat} {x : Int} (h0 : x ≠ 0) (h1 : -(p : Int) < x) (h2 : x < p) : ¬ (p : Int) ∣ x := by
  rintro ⟨k, hk⟩
  rcases Int.lt_trichotomy k 0 with q | q | q
  · have := Int.mul_le_mul_of_nonneg_left (show k ≤ -1 by omega) (show (0 : Int) ≤ p by omega)
    omega
  · rw [q, Int.mul_zero] at hk
    exact h0 hk
  · have := Int.mul_le_mul_of_nonneg_left (show 1 ≤ k by omega) (show (0 : Int) ≤ p by omega)
    omega
/-- 3 d, d from 1 to 4, isn't a multiple of a prime above 3 -/
theorem fr_nd3 {p : Nat} (hp : fr_P p) (h5 : 5 ≤ p) {x d : Int} (e : x = 3 * d) (h0 : d ≠ 0) (h1 : -4 ≤ d) (h2 : d ≤ 4) : ¬ (p : Int) ∣ x := by
  intro h
  rw [e] at h
  rcases fr_euc hp h with k | k
  · exact fr_nd (p := p) (x := 3) (by decide) (by omega) (by omega) k
  · exact fr_nd h0 (by omega) (by omega) k
/-- what takes at most two out of places of one class modulo 3; out of places near each other -/
def fr_w3 (P : Int → Bool) : Prop := ∀ l : List Int, l.Pairwise (fun x y => ∃ d, x - y = 3 * d ∧ d ≠ 0 ∧ -4 ≤ d ∧ d ≤ 4) → (l.filter P).length ≤ 2
def fr_w6 (P : Int → Bool) : Prop := ∀ l : List Int, l.Pairwise (fun x y => x - y ≠ 0 ∧ -6 ≤ x - y ∧ x - y ≤ 6) → (l.filter P).length ≤ 2
theorem fr_w3_p {p : Nat} (hp : fr_P p) (h5 : 5 ≤ p) {A B C : Int} (h0 : ¬ ((p : Int) ∣ A ∧ (p : Int) ∣ B ∧ (p : Int) ∣ C)) : fr_w3 (fr_b p A B C) := by
  intro l hl
  refine fr_le2 hp h0 (hl.imp ?_)
  rintro x y ⟨d, e, d0, d1, d2⟩
  exact fr_nd3 hp h5 e d0 d1 d2
theorem fr_w6_p {p : Nat} (hp : fr_P p) (h7 : 7 ≤ p) {A B C : Int} (h0 : ¬ ((p : Int) ∣ A ∧ (p : Int) ∣ B ∧ (p : Int) ∣ C)) : fr_w6 (fr_b p A B C) := by
  intro l hl
  refine fr_le2 hp h0 (hl.imp ?_)
  rintro x y ⟨d0, d1, d2⟩
  exact fr_nd d0 (by omega) (by omega)
theorem fr_f0 : ∀ l : List Int, l.filter (fun _ => false) = []
  | [] => rfl
  | _ :: l => fr_f0 l
theorem fr_w3_0 : fr_w3 (fun _ => false) := fun l _ => by rw [fr_f0]; simp
theorem fr_w6_0 : fr_w6 (fun _ => false) := fun l _ => by rw [fr_f0]; simp
theorem fr_pick {l : List Int} {P Q R : Int → Bool} (h : (l.filter P).length + (l.filter Q).length + (l.filter R).length < l.length) : ∃ x ∈ l, P x = false ∧ Q x = false ∧ R x = false := by
  apply Classical.byContradiction
  intro hn
  have := fr_len (P := P) (Q := Q) (R := R) l (fun x hx => by
    cases hP : P x
    · cases hQ : Q x
      · cases hR : R x
        · exact (hn ⟨x, hx, hP, hQ, hR⟩).elim
        · exact Or.inr (Or.inr rfl)
      · exact Or.inr (Or.inl rfl)
    · exact Or.inl rfl)
  omega
theorem fr_P3 : fr_P 3 := ⟨by decide, fun d hd => by
  have : d ≤ 3 := Nat.le_of_dvd (by decide) hd
  match d, this, hd with
  | 0, _, hd => exact absurd (Nat.eq_zero_of_zero_dvd hd) (by decide)
  | 1, _, _ => exact Or.inl rfl
  | 2, _, hd => exact absurd hd (by decide)
  | 3, _, _ => exact Or.inr rfl⟩
theorem fr_P5 : fr_P 5 := ⟨by decide, fun d hd => by
  have : d ≤ 5 := Nat.le_of_dvd (by decide) hd
  match d, this, hd with
  | 0, _, hd => exact absurd (Nat.eq_zero_of_zero_dvd hd) (by decide)
  | 1, _, _ => exact Or.inl rfl
  | 2, _, hd => exact absurd hd (by decide)
  | 3, _, hd => exact absurd hd (by decide)
  | 4, _, hd => exact absurd hd (by decide)
  | 5, _, _ => exact Or.inr rfl⟩
theorem fr_per {p : Nat} {A B C x : Int} (d : Int) (h : ¬ (p : Int) ∣ fr_g A B C x) : ¬ (p : Int) ∣ fr_g A B C (x + p * d) := by
  intro k
  apply h
  have e : fr_g A B C x = fr_g A B C (x + p * d) - p * (A * (2 * x * d + p * (d * d)) + B * d) := by
    unfold fr_g
    grind
  rw [e]
  exact Int.dvd_sub k (Int.dvd_mul_right _ _)
/-- 3 the least of the primes -/
theorem fr_c3 {Q R : Int → Bool} (hq : fr_w3 Q) (hr : fr_w3 R) {A B C : Int} (n3 : ¬ (((3 : Nat) : Int) ∣ A ∧ ((3 : Nat) : Int) ∣ B ∧ ((3 : Nat) : Int) ∣ C)) : ∃ x : Int, -7 ≤ x ∧ x ≤ 7 ∧ ¬ ((3 : Nat) : Int) ∣ fr_g A B C x ∧ Q x = false ∧ R x = false := by
  have hx : ∃ x0 : Int, -7 ≤ x0 ∧ x0 ≤ -5 ∧ ¬ ((3 : Nat) : Int) ∣ fr_g A B C x0 := by
    by_cases a1 : ((3 : Nat) : Int) ∣ fr_g A B C (-7)
    · by_cases a2 : ((3 : Nat) : Int) ∣ fr_g A B C (-6)
      · by_cases a3 : ((3 : Nat) : Int) ∣ fr_g A B C (-5)
        · exact (fr_two fr_P3 n3 (x := -7) (y := -6) (z := -5) (by decide) (by decide) (by decide) a1 a2 a3).elim
        · exact ⟨-5, by decide, by decide, a3⟩
      · exact ⟨-6, by decide, by decide, a2⟩
    · exact ⟨-7, by decide, by decide, a1⟩
  obtain ⟨x0, b1, b2, b3⟩ := hx
  have hcl : ∀ d : Int, ¬ ((3 : Nat) : Int) ∣ fr_g A B C (x0 + 3 * d) := fun d => fr_per (p := 3) d b3
  have pw : ([x0 + 3 * 0, x0 + 3 * 1, x0 + 3 * 2, x0 + 3 * 3, x0 + 3 * 4] : List Int).Pairwise (fun x y => ∃ d, x - y = 3 * d ∧ d ≠ 0 ∧ -4 ≤ d ∧ d ≤ 4) := by
    refine List.Pairwise.cons ?_ (List.Pairwise.cons ?_ (List.Pairwise.cons ?_ (List.Pairwise.cons ?_ (List.Pairwise.cons ?_ List.Pairwise.nil))))
    · intro y hy
      simp only [List.mem_cons, List.not_mem_nil, or_false] at hy
      rcases hy with rfl | rfl | rfl | rfl
      · exact ⟨-1, by omega, by omega, by omega, by omega⟩
      · exact ⟨-2, by omega, by omega, by omega, by omega⟩
      · exact ⟨-3, by omega, by omega, by omega, by omega⟩
      · exact ⟨-4, by omega, by omega, by omega, by omega⟩
    · intro y hy
      simp only [List.mem_cons, List.not_mem_nil, or_false] at hy
      rcases hy with rfl | rfl | rfl
      · exact ⟨-1, by omega, by omega, by omega, by omega⟩
      · exact ⟨-2, by omega, by omega, by omega, by omega⟩
      · exact ⟨-3, by omega, by omega, by omega, by omega⟩
    · intro y hy
      simp only [List.mem_cons, List.not_mem_nil, or_false] at hy
      rcases hy with rfl | rfl
      · exact ⟨-1, by omega, by omega, by omega, by omega⟩
      · exact ⟨-2, by omega, by omega, by omega, by omega⟩
    · intro y hy
      simp only [List.mem_cons, List.not_mem_nil, or_false] at hy
      subst hy
      exact ⟨-1, by omega, by omega, by omega, by omega⟩
    · intro y hy
      simp at hy
  have k1 := hq _ pw
  have k2 := hr _ pw
  have k3 := fr_w3_0 _ pw
  obtain ⟨x, hx, hQ, hR, -⟩ := fr_pick (P := Q) (Q := R) (R := fun _ => false) (l := [x0 + 3 * 0, x0 + 3 * 1, x0 + 3 * 2, x0 + 3 * 3, x0 + 3 * 4]) (by rw [fr_f0]; simp only [List.length_nil, List.length_cons]; omega)
  have hd : ∃ d : Int, 0 ≤ d ∧ d ≤ 4 ∧ x = x0 + 3 * d := by
    simp only [List.mem_cons, List.not_mem_nil, or_false] at hx
    rcases hx with h | h | h | h | h
    · exact ⟨0, by decide, by decide, h⟩
    · exact ⟨1, by decide, by decide, h⟩
    · exact ⟨2, by decide, by decide, h⟩
    · exact ⟨3, by decide, by decide, h⟩
    · exact ⟨4, by decide, by decide, h⟩
  obtain ⟨d, d1, d2, rfl⟩ := hd
  exact ⟨x0 + 3 * d, by omega, by omega, hcl d, hQ, hR⟩
/-- all primes are 7 or more -/
theorem fr_c7 {P Q R : Int → Bool} (hp : fr_w6 P) (hq : fr_w6 Q) (hr : fr_w6 R) : ∃ x : Int, -7 ≤ x ∧ x ≤ 7 ∧ P x = false ∧ Q x = false ∧ R x = false := by
  have pw : ([-3, -2, -1, 0, 1, 2, 3] : List Int).Pairwise (fun x y => x - y ≠ 0 ∧ -6 ≤ x - y ∧ x - y ≤ 6) := by decide
  have k1 := hp _ pw
  have k2 := hq _ pw
  have k3 := hr _ pw
  obtain ⟨x, hx, h1, h2, h3⟩ := fr_pick (P := P) (Q := Q) (R := R) (l := [-3, -2, -1, 0, 1, 2, 3]) (by simp only [List.length_cons, List.length_nil]; omega)
  simp only [List.mem_cons, List.not_mem_nil, or_false] at hx
  exact ⟨x, by omega, by omega, h1, h2, h3⟩
/-- five places near each other, none of them a root modulo 5 -/
theorem fr_five {Q R : Int → Bool} (hq : fr_w6 Q) (hr : fr_w6 R) {A B C x t : Int} (hx0 : -7 ≤ x) (hx1 : x ≤ 1) (h1 : ¬ ((5 : Nat) : Int) ∣ fr_g A B C x) (h2 : ¬ ((5 : Nat) : Int) ∣ fr_g A B C (x + 1)) (ht1 : x + 2 ≤ t) (ht2 : t ≤ x + 4) (h3 : ¬ ((5 : Nat) : Int) ∣ fr_g A B C t) : ∃ x : Int, -7 ≤ x ∧ x ≤ 7 ∧ ¬ ((5 : Nat) : Int) ∣ fr_g A B C x ∧ Q x = false ∧ R x = false := by
  have h4 : ¬ ((5 : Nat) : Int) ∣ fr_g A B C (x + 5 * 1) := fr_per (p := 5) 1 h1
  have h5 : ¬ ((5 : Nat) : Int) ∣ fr_g A B C (x + 1 + 5 * 1) := fr_per (p := 5) 1 h2
  have pw : ([x, x + 1, t, x + 5 * 1, x + 1 + 5 * 1] : List Int).Pairwise (fun x y => x - y ≠ 0 ∧ -6 ≤ x - y ∧ x - y ≤ 6) := by
    refine List.Pairwise.cons ?_ (List.Pairwise.cons ?_ (List.Pairwise.cons ?_ (List.Pairwise.cons ?_ (List.Pairwise.cons ?_ List.Pairwise.nil))))
    all_goals
      intro y hy
      simp only [List.mem_cons, List.not_mem_nil, or_false] at hy
      try omega
  have k1 := hq _ pw
  have k2 := hr _ pw
  have k3 := fr_w6_0 _ pw
  obtain ⟨z, hz, hQ, hR, -⟩ := fr_pick (P := Q) (Q := R) (R := fun _ => false) (l := [x, x + 1, t, x + 5 * 1, x + 1 + 5 * 1]) (by rw [fr_f0]; simp only [List.length_nil, List.length_cons]; omega)
  simp only [List.mem_cons, List.not_mem_nil, or_false] at hz
  refine ⟨z, by omega, by omega, ?_, hQ, hR⟩
  rcases hz with rfl | rfl | rfl | rfl | rfl
  · exact h1
  · exact h2
  · exact h3
  · exact h4
  · exact h5
theorem fr_c5 {Q R : Int → Bool} (hq : fr_w6 Q) (hr : fr_w6 R) {A B C : Int} (n5 : ¬ (((5 : Nat) : Int) ∣ A ∧ ((5 : Nat) : Int) ∣ B ∧ ((5 : Nat) : Int) ∣ C)) : ∃ x : Int, -7 ≤ x ∧ x ≤ 7 ∧ ¬ ((5 : Nat) : Int) ∣ fr_g A B C x ∧ Q x = false ∧ R x = false := by
  -- at most two of five places are roots
  have tw : ∀ x y z : Int, -7 ≤ x → x < y → y < z → z ≤ -3 → ((5 : Nat) : Int) ∣ fr_g A B C x → ((5 : Nat) : Int) ∣ fr_g A B C y → ((5 : Nat) : Int) ∣ fr_g A B C z → False := fun x y z a b c d hx hy hz =>
    fr_two fr_P5 n5 (x := x) (y := y) (z := z) (fr_nd (by omega) (by omega) (by omega)) (fr_nd (by omega) (by omega) (by omega)) (fr_nd (by omega) (by omega) (by omega)) hx hy hz
  have per : ∀ x : Int, ¬ ((5 : Nat) : Int) ∣ fr_g A B C x → ¬ ((5 : Nat) : Int) ∣ fr_g A B C (x + 5 * 1) := fun x h => fr_per (p := 5) 1 h
  by_cases a : ((5 : Nat) : Int) ∣ fr_g A B C (-7) <;> by_cases b : ((5 : Nat) : Int) ∣ fr_g A B C (-6) <;> by_cases c : ((5 : Nat) : Int) ∣ fr_g A B C (-5) <;> by_cases d : ((5 : Nat) : Int) ∣ fr_g A B C (-4) <;> by_cases e : ((5 : Nat) : Int) ∣ fr_g A B C (-3)
  all_goals first
    | exact (tw (-7) (-6) (-5) (by decide) (by decide) (by decide) (by decide) a b c).elim
    | exact (tw (-7) (-6) (-4) (by decide) (by decide) (by decide) (by decide) a b d).elim
    | exact (tw (-7) (-6) (-3) (by decide) (by decide) (by decide) (by decide) a b e).elim
    | exact (tw (-7) (-5) (-4) (by decide) (by decide) (by decide) (by decide) a c d).elim
    | exact (tw (-7) (-5) (-3) (by decide) (by decide) (by decide) (by decide) a c e).elim
    | exact (tw (-7) (-4) (-3) (by decide) (by decide) (by decide) (by decide) a d e).elim
    | exact (tw (-6) (-5) (-4) (by decide) (by decide) (by decide) (by decide) b c d).elim
    | exact (tw (-6) (-5) (-3) (by decide) (by decide) (by decide) (by decide) b c e).elim
    | exact (tw (-6) (-4) (-3) (by decide) (by decide) (by decide) (by decide) b d e).elim
    | exact (tw (-5) (-4) (-3) (by decide) (by decide) (by decide) (by decide) c d e).elim
    | exact fr_five hq hr (x := -7) (t := -5) (by decide) (by decide) a b (by decide) (by decide) c
    | exact fr_five hq hr (x := -7) (t := -4) (by decide) (by decide) a b (by decide) (by decide) d
    | exact fr_five hq hr (x := -7) (t := -3) (by decide) (by decide) a b (by decide) (by decide) e
    | exact fr_five hq hr (x := -6) (t := -4) (by decide) (by decide) b c (by decide) (by decide) d
    | exact fr_five hq hr (x := -6) (t := -3) (by decide) (by decide) b c (by decide) (by decide) e
    | exact fr_five hq hr (x := -5) (t := -3) (by decide) (by decide) c d (by decide) (by decide) e
    | exact fr_five hq hr (x := -5) (t := -2) (by decide) (by decide) c d (by decide) (by decide) (per (-7) a)
    | exact fr_five hq hr (x := -4) (t := -2) (by decide) (by decide) d e (by decide) (by decide) (per (-7) a)
    | exact fr_five hq hr (x := -4) (t := -1) (by decide) (by decide) d e (by decide) (by decide) (per (-6) b)
    | exact fr_five hq hr (x := -3) (t := -1) (by decide) (by decide) e (per (-7) a) (by decide) (by decide) (per (-6) b)
    | exact fr_five hq hr (x := -3) (t := 0) (by decide) (by decide) e (per (-7) a) (by decide) (by decide) (per (-5) c)
    | exact fr_five hq hr (x := -3) (t := 1) (by decide) (by decide) e (per (-7) a) (by decide) (by decide) (per (-4) d)
def fr_odds : List Nat := [3, 5, 7, 11, 13, 17, 19, 23, 29, 31, 37, 41, 43, 47, 53, 59, 61, 67, 71, 73, 79, 83, 89, 97, 101, 103, 107, 109, 113, 127, 131, 137, 139, 149, 151, 157, 163, 167, 173, 179, 181, 191, 193, 197, 199, 211, 223, 227, 229, 233, 239, 241, 251, 257, 263, 269, 271, 277, 281, 283, 293, 307, 311, 313, 317, 331, 337, 347, 349, 353, 359, 367, 373, 379, 383, 389, 397, 401, 409, 419, 421, 431, 433, 439, 443, 449, 457, 461, 463, 467, 479, 487, 491, 499, 503, 509, 521, 523, 541, 547, 557, 563, 569, 571, 577, 587, 593, 599, 601, 607, 613, 617, 619, 631, 641, 643, 647, 653, 659, 661, 673, 677, 683, 691, 701, 709, 719, 727, 733, 739, 743, 751, 757, 761, 769, 773, 787, 797, 809, 811, 821, 823, 827, 829, 839, 853, 857, 859, 863, 877, 881, 883, 887, 907, 911, 919, 929, 937, 941, 947, 953, 967, 971, 977, 983, 991, 997, 1009, 1013, 1019, 1021]
theorem fr_odds_3 : ((List.range 1025).all fun n => n == 0 || decide ((fr_odds.filter (fun p => n % p == 0)).length ≤ 3)) = true := by decide +kernel
theorem fr_odds_p : (fr_odds.all fun p => Nat.ble 3 p && (List.range p).all fun d => Nat.ble d 1 || p % d != 0) = true := by decide +kernel
theorem fr_odds_all : ((List.range 1025).all fun p => Nat.ble p 2 || fr_odds.contains p || (List.range 33).any fun d => Nat.ble 2 d && Nat.blt d p && p % d == 0) = true := by decide +kernel
theorem fr_odds_s : fr_odds.Pairwise (fun x y => x < y) := by decide +kernel
theorem fr_odds_ok {p : Nat} (h : p ∈ fr_odds) : fr_P p ∧ 3 ≤ p := by
  have h1 := List.all_eq_true.mp fr_odds_p p h
  rw [Bool.and_eq_true] at h1
  have h3 : 3 ≤ p := Nat.le_of_ble_eq_true h1.1
  refine ⟨⟨by omega, fun d hd => ?_⟩, h3⟩
  have hle := Nat.le_of_dvd (by omega) hd
  by_cases e : d = p
  · exact Or.inr e
  · left
    have h4 := List.all_eq_true.mp h1.2 d (List.mem_range.mpr (by omega))
    rw [Bool.or_eq_true] at h4
    rcases h4 with k | k
    · have := Nat.le_of_ble_eq_true k
      have : d ≠ 0 := by
        intro e0
        rw [e0] at hd
        have := Nat.eq_zero_of_zero_dvd hd
        omega
      omega
    · exfalso
      have := Nat.mod_eq_zero_of_dvd hd
      simp [this] at k
theorem fr_odds_in {p : Nat} (hp : fr_P p) (h3 : 3 ≤ p) (hl : p ≤ 1024) : p ∈ fr_odds := by
  have h1 := List.all_eq_true.mp fr_odds_all p (List.mem_range.mpr (by omega))
  rw [Bool.or_eq_true, Bool.or_eq_true] at h1
  rcases h1 with (k | k) | k
  · have := Nat.le_of_ble_eq_true k
    omega
  · exact List.contains_iff_mem.mp k
  · exfalso
    obtain ⟨d, -, hd⟩ := List.any_eq_true.mp k
    rw [Bool.and_eq_true, Bool.and_eq_true] at hd
    have d1 := Nat.le_of_ble_eq_true hd.1.1
    have d2 : d < p := Nat.le_of_ble_eq_true hd.1.2
    have d3 : p % d = 0 := by simpa using hd.2
    rcases hp.2 d (Nat.dvd_of_mod_eq_zero d3) with e | e <;> omega
theorem fr_pd : ∀ (m g : Nat), g ≤ m → 2 ≤ g → ∃ p, fr_P p ∧ p ∣ g := by
  intro m
  induction m with
  | zero => intro g h1 h2; omega
  | succ m ih =>
    intro g h1 h2
    by_cases hp : fr_P g
    · exact ⟨g, hp, Nat.dvd_refl g⟩
    · have : ∃ d, d ∣ g ∧ d ≠ 1 ∧ d ≠ g := by
        apply Classical.byContradiction
        intro hn
        apply hp
        refine ⟨h2, fun d hd => ?_⟩
        by_cases e : d = 1
        · exact Or.inl e
        · right
          apply Classical.byContradiction
          intro e'
          exact hn ⟨d, hd, e, e'⟩
      obtain ⟨d, hd, d1, d2⟩ := this
      have hle := Nat.le_of_dvd (by omega) hd
      have d0 : d ≠ 0 := by
        intro e0
        rw [e0] at hd
        have := Nat.eq_zero_of_zero_dvd hd
        omega
      obtain ⟨p, hp, hpd⟩ := ih d (by omega) (by omega)
      exact ⟨p, hp, Nat.dvd_trans hpd hd⟩
theorem fr_rest3 {A B C : Int} : ∀ (l : List Nat), l.length ≤ 2 → (∀ p ∈ l, fr_P p ∧ 5 ≤ p ∧ ¬ ((p : Int) ∣ A ∧ (p : Int) ∣ B ∧ (p : Int) ∣ C)) → ∃ Q R : Int → Bool, fr_w3 Q ∧ fr_w3 R ∧ ∀ x, Q x = false → R x = false → ∀ p ∈ l, ¬ (p : Int) ∣ fr_g A B C x := by
  have no : ∀ {p : Nat} {x : Int}, fr_b p A B C x = false → ¬ (p : Int) ∣ fr_g A B C x := by
    intro p x h
    unfold fr_b at h
    exact of_decide_eq_false h
  intro l
  match l with
  | [] => intro _ _; exact ⟨_, _, fr_w3_0, fr_w3_0, fun x _ _ p hp => by simp at hp⟩
  | [q] =>
    intro _ h
    obtain ⟨h1, h2, h3⟩ := h q (by simp)
    refine ⟨_, _, fr_w3_p h1 h2 h3, fr_w3_0, fun x hx _ p hp => ?_⟩
    simp only [List.mem_cons, List.not_mem_nil, or_false] at hp
    rw [hp]
    exact no hx
  | [q, r] =>
    intro _ h
    obtain ⟨h1, h2, h3⟩ := h q (by simp)
    obtain ⟨k1, k2, k3⟩ := h r (by simp)
    refine ⟨_, _, fr_w3_p h1 h2 h3, fr_w3_p k1 k2 k3, fun x hx hx' p hp => ?_⟩
    simp only [List.mem_cons, List.not_mem_nil, or_false] at hp
    rcases hp with hp | hp <;> rw [hp]
    · exact no hx
    · exact no hx'
  | _ :: _ :: _ :: _ => intro h; simp at h
theorem fr_rest6 {A B C : Int} : ∀ (l : List Nat), l.length ≤ 2 → (∀ p ∈ l, fr_P p ∧ 7 ≤ p ∧ ¬ ((p : Int) ∣ A ∧ (p : Int) ∣ B ∧ (p : Int) ∣ C)) → ∃ Q R : Int → Bool, fr_w6 Q ∧ fr_w6 R ∧ ∀ x, Q x = false → R x = false → ∀ p ∈ l, ¬ (p : Int) ∣ fr_g A B C x := by
  have no : ∀ {p : Nat} {x : Int}, fr_b p A B C x = false → ¬ (p : Int) ∣ fr_g A B C x := by
    intro p x h
    unfold fr_b at h
    exact of_decide_eq_false h
  intro l
  match l with
  | [] => intro _ _; exact ⟨_, _, fr_w6_0, fr_w6_0, fun x _ _ p hp => by simp at hp⟩
  | [q] =>
    intro _ h
    obtain ⟨h1, h2, h3⟩ := h q (by simp)
    refine ⟨_, _, fr_w6_p h1 h2 h3, fr_w6_0, fun x hx _ p hp => ?_⟩
    simp only [List.mem_cons, List.not_mem_nil, or_false] at hp
    rw [hp]
    exact no hx
  | [q, r] =>
    intro _ h
    obtain ⟨h1, h2, h3⟩ := h q (by simp)
    obtain ⟨k1, k2, k3⟩ := h r (by simp)
    refine ⟨_, _, fr_w6_p h1 h2 h3, fr_w6_p k1 k2 k3, fun x hx hx' p hp => ?_⟩
    simp only [List.mem_cons, List.not_mem_nil, or_false] at hp
    rcases hp with hp | hp <;> rw [hp]
    · exact no hx
    · exact no hx'
  | _ :: _ :: _ :: _ => intro h; simp at h
/-- a place from -7 to 7 where no odd prime of n goes into the polynomial's value -/
theorem fr_main {n : Nat} (h1 : 1 ≤ n) (h2 : n ≤ 1024) {A B C : Int} (h : ∀ p, fr_P p → 3 ≤ p → p ∣ n → ¬ ((p : Int) ∣ A ∧ (p : Int) ∣ B ∧ (p : Int) ∣ C)) : ∃ x : Int, -7 ≤ x ∧ x ≤ 7 ∧ ∀ p, fr_P p → 3 ≤ p → p ∣ n → ¬ (p : Int) ∣ fr_g A B C x := by
  have hm : ∀ p, p ∈ fr_odds.filter (fun p => n % p == 0) ↔ fr_P p ∧ 3 ≤ p ∧ p ∣ n := by
    intro p
    rw [List.mem_filter]
    constructor
    · rintro ⟨a, b⟩
      exact ⟨(fr_odds_ok a).1, (fr_odds_ok a).2, Nat.dvd_of_mod_eq_zero (by simpa using b)⟩
    · rintro ⟨a, b, c⟩
      exact ⟨fr_odds_in a b (Nat.le_trans (Nat.le_of_dvd (by omega) c) h2), by simpa using Nat.mod_eq_zero_of_dvd c⟩
  have hs := fr_odds_s.filter (fun p => n % p == 0)
  have hl : (fr_odds.filter (fun p => n % p == 0)).length ≤ 3 := by
    have := List.all_eq_true.mp fr_odds_3 n (List.mem_range.mpr (by omega))
    rw [Bool.or_eq_true] at this
    rcases this with k | k
    · have : n = 0 := by simpa using k
      omega
    · exact of_decide_eq_true k
  generalize fr_odds.filter (fun p => n % p == 0) = L at hm hs hl
  match L, hm, hs, hl with
  | [], hm, _, _ =>
    refine ⟨0, by decide, by decide, fun p a b c => ?_⟩
    have := (hm p).mpr ⟨a, b, c⟩
    simp at this
  | p :: l, hm, hs, hl =>
    rw [List.pairwise_cons] at hs
    have hp := (hm p).mp (by simp)
    have hl2 : l.length ≤ 2 := by simpa using hl
    have hin : ∀ q ∈ l, fr_P q ∧ p < q ∧ ¬ ((q : Int) ∣ A ∧ (q : Int) ∣ B ∧ (q : Int) ∣ C) := by
      intro q hq
      obtain ⟨a, b, c⟩ := (hm q).mp (List.mem_cons_of_mem _ hq)
      exact ⟨a, hs.1 q hq, h q a b c⟩
    have fin : ∀ x : Int, ¬ (p : Int) ∣ fr_g A B C x → (∀ q ∈ l, ¬ (q : Int) ∣ fr_g A B C x) → ∀ q, fr_P q → 3 ≤ q → q ∣ n → ¬ (q : Int) ∣ fr_g A B C x := by
      intro x a b q c d e
      rcases List.mem_cons.mp ((hm q).mpr ⟨c, d, e⟩) with k | k
      · rw [k]; exact a
      · exact b q k
    have np := h p hp.1 hp.2.1 hp.2.2
    have n4 : ∀ q, fr_P q → q ≠ 4 := by
      intro q hq e
      rw [e] at hq
      exact absurd (hq.2 2 (by decide)) (by decide)
    have n6 : ∀ q, fr_P q → q ≠ 6 := by
      intro q hq e
      rw [e] at hq
      exact absurd (hq.2 2 (by decide)) (by decide)
    by_cases e3 : p = 3
    · subst e3
      obtain ⟨Q, R, hQ, hR, hQR⟩ := fr_rest3 l hl2 (fun q hq => by
        obtain ⟨a, b, c⟩ := hin q hq
        exact ⟨a, by have := n4 q a; omega, c⟩)
      obtain ⟨x, x1, x2, x3, x4, x5⟩ := fr_c3 hQ hR np
      exact ⟨x, x1, x2, fin x x3 (hQR x x4 x5)⟩
    · by_cases e5 : p = 5
      · subst e5
        obtain ⟨Q, R, hQ, hR, hQR⟩ := fr_rest6 l hl2 (fun q hq => by
          obtain ⟨a, b, c⟩ := hin q hq
          exact ⟨a, by have := n6 q a; omega, c⟩)
        obtain ⟨x, x1, x2, x3, x4, x5⟩ := fr_c5 hQ hR np
        exact ⟨x, x1, x2, fin x x3 (hQR x x4 x5)⟩
      · have p7 : 7 ≤ p := by
          have := n4 p hp.1
          have := n6 p hp.1
          omega
        obtain ⟨Q, R, hQ, hR, hQR⟩ := fr_rest6 l hl2 (fun q hq => by
          obtain ⟨a, b, c⟩ := hin q hq
          exact ⟨a, by omega, c⟩)
        obtain ⟨x, x1, x2, x3, x4, x5⟩ := fr_c7 (fr_w6_p hp.1 p7 np) hQ hR
        unfold fr_b at x3
        exact ⟨x, x1, x2, fin x (of_decide_eq_false x3) (hQR x x4 x5)⟩
theorem fr_cop {n : Nat} (h1 : 1 ≤ n) {v : Int} (ho : n % 2 = 1 ∨ v % 2 = 1) (h : ∀ p, fr_P p → 3 ≤ p → p ∣ n → ¬ (p : Int) ∣ v) : Int.gcd v n = 1 := by
  apply Classical.byContradiction
  intro hg
  have d1 : Int.gcd v n ∣ n := by
    have := Int.gcd_dvd_natAbs_right v n
    simpa using this
  have d2 : ((Int.gcd v n : Nat) : Int) ∣ v := Int.gcd_dvd_left v n
  have hg0 : Int.gcd v n ≠ 0 := by
    intro e
    rw [e] at d1
    have := Nat.eq_zero_of_zero_dvd d1
    omega
  obtain ⟨p, hp, hpg⟩ := fr_pd _ (Int.gcd v n) (Nat.le_refl _) (by omega)
  have dn := Nat.dvd_trans hpg d1
  have dv : (p : Int) ∣ v := Int.dvd_trans (Int.natCast_dvd_natCast.mpr hpg) d2
  by_cases e : p = 2
  · subst e
    rcases ho with k | k
    · have := Nat.mod_eq_zero_of_dvd dn
      omega
    · have := Int.emod_eq_zero_of_dvd dv
      omega
  · exact h p hp (by have := hp.1; omega) dn dv
theorem fr_dvd2 {p : Nat} (hp : fr_P p) (h3 : 3 ≤ p) {x : Int} (h : (p : Int) ∣ 2 * x) : (p : Int) ∣ x :=
  (fr_euc hp h).resolve_left (fr_nd (by decide) (by omega) (by omega))
/-- the search in a form whose coefficients have only 1 in common -/
theorem fr_form {a b c n : Int} (hp : fm_pr (a, b, c)) (h0 : n ≠ 0) (hn : fm_ab n ≤ 1024) : ∃ y k : Int, 0 ≤ y ∧ y ≤ 15 ∧ -y ≤ k ∧ k ≤ y ∧ (Int.gcd (a * (k * k) + b * k + c) n = 1 ∨ Int.gcd (a * ((k * y - 1) * (k * y - 1)) + b * ((k * y - 1) * y) + c * (y * y)) n = 1) := by
  obtain ⟨m, hm⟩ : ∃ m : Nat, m = n.natAbs := ⟨_, rfl⟩
  have m1 : 1 ≤ m := by omega
  have m2 : m ≤ 1024 := by rcases fm_ab_cases n with k | k <;> omega
  have hg : ∀ v : Int, Int.gcd v m = 1 → Int.gcd v n = 1 := by
    intro v hv
    rw [hm] at hv
    rw [← hv]
    unfold Int.gcd
    simp
  have one : ∀ p, fr_P p → ¬ ((p : Int) ∣ a ∧ (p : Int) ∣ b ∧ (p : Int) ∣ c) := by
    rintro p hp' ⟨d1, d2, d3⟩
    have := fm_pr_of hp d1 d2 d3
    exact fr_nd (p := p) (x := 1) (by decide) (by have := hp'.1; omega) (by have := hp'.1; omega) this
  by_cases ev : m % 2 = 1
  · obtain ⟨x, x1, x2, x3⟩ := fr_main m1 m2 (A := a) (B := b) (C := c) (fun p hp' _ _ => one p hp')
    exact ⟨7, x, by decide, by decide, by omega, by omega, Or.inl (hg _ (fr_cop m1 (Or.inl ev) x3))⟩
  · by_cases c1 : c % 2 = 1
    · obtain ⟨x, x1, x2, x3⟩ := fr_main m1 m2 (A := 2 * (2 * a)) (B := 2 * b) (C := c) (fun p hp' h3 _ h => one p hp' ⟨fr_dvd2 hp' h3 (fr_dvd2 hp' h3 h.1), fr_dvd2 hp' h3 h.2.1, h.2.2⟩)
      have e : a * ((2 * x) * (2 * x)) + b * (2 * x) + c = fr_g (2 * (2 * a)) (2 * b) c x := by
        unfold fr_g
        grind
      refine ⟨14, 2 * x, by decide, by decide, by omega, by omega, Or.inl (hg _ (fr_cop m1 (Or.inr ?_) (by rw [e]; exact x3)))⟩
      have e2 : a * ((2 * x) * (2 * x)) + b * (2 * x) + c = 2 * (2 * (a * (x * x)) + b * x) + c := by grind
      omega
    · by_cases c2 : (a + b) % 2 = 1
      · obtain ⟨x, x1, x2, x3⟩ := fr_main m1 m2 (A := 2 * (2 * a)) (B := 2 * (2 * a + b)) (C := a + b + c) (fun p hp' h3 _ h => by
          have da := fr_dvd2 hp' h3 (fr_dvd2 hp' h3 h.1)
          have db : (p : Int) ∣ b := by
            have := Int.dvd_sub (fr_dvd2 hp' h3 h.2.1) (Int.dvd_trans da (Int.dvd_mul_left 2 a))
            have e : 2 * a + b - 2 * a = b := by omega
            rw [e] at this
            exact this
          have dc : (p : Int) ∣ c := by
            have := Int.dvd_sub (Int.dvd_sub h.2.2 da) db
            have e : a + b + c - a - b = c := by omega
            rw [e] at this
            exact this
          exact one p hp' ⟨da, db, dc⟩)
        have e : a * ((2 * x + 1) * (2 * x + 1)) + b * (2 * x + 1) + c = fr_g (2 * (2 * a)) (2 * (2 * a + b)) (a + b + c) x := by
          unfold fr_g
          grind
        refine ⟨15, 2 * x + 1, by decide, by decide, by omega, by omega, Or.inl (hg _ (fr_cop m1 (Or.inr ?_) (by rw [e]; exact x3)))⟩
        have e2 : a * ((2 * x + 1) * (2 * x + 1)) + b * (2 * x + 1) + c = 2 * (2 * (a * (x * x)) + 2 * (a * x) + b * x) + (a + b) + c := by grind
        omega
      · have a1 : a % 2 = 1 := by
          apply Classical.byContradiction
          intro a0
          have := fm_pr_of (e := 2) hp (by show (2 : Int) ∣ a; omega) (by show (2 : Int) ∣ b; omega) (by show (2 : Int) ∣ c; omega)
          omega
        obtain ⟨x, x1, x2, x3⟩ := fr_main m1 m2 (A := 2 * (2 * (2 * (2 * (2 * (2 * a)))))) (B := 2 * (2 * (2 * (2 * (4 * b - a))))) (C := a - 8 * b + 64 * c) (fun p hp' h3 _ h => by
          have da := fr_dvd2 hp' h3 (fr_dvd2 hp' h3 (fr_dvd2 hp' h3 (fr_dvd2 hp' h3 (fr_dvd2 hp' h3 (fr_dvd2 hp' h3 h.1)))))
          have db : (p : Int) ∣ b := by
            have t := fr_dvd2 hp' h3 (fr_dvd2 hp' h3 (fr_dvd2 hp' h3 (fr_dvd2 hp' h3 h.2.1)))
            have := Int.dvd_add t da
            have e : 4 * b - a + a = 2 * (2 * b) := by omega
            rw [e] at this
            exact fr_dvd2 hp' h3 (fr_dvd2 hp' h3 this)
          have dc : (p : Int) ∣ c := by
            have := Int.dvd_add (Int.dvd_sub h.2.2 da) (Int.dvd_trans db (Int.dvd_mul_left 8 b))
            have e : a - 8 * b + 64 * c - a + 8 * b = 2 * (2 * (2 * (2 * (2 * (2 * c))))) := by omega
            rw [e] at this
            exact fr_dvd2 hp' h3 (fr_dvd2 hp' h3 (fr_dvd2 hp' h3 (fr_dvd2 hp' h3 (fr_dvd2 hp' h3 (fr_dvd2 hp' h3 this)))))
          exact one p hp' ⟨da, db, dc⟩)
        have e : a * ((x * 8 - 1) * (x * 8 - 1)) + b * ((x * 8 - 1) * 8) + c * (8 * 8) = fr_g (2 * (2 * (2 * (2 * (2 * (2 * a)))))) (2 * (2 * (2 * (2 * (4 * b - a))))) (a - 8 * b + 64 * c) x := by
          unfold fr_g
          grind
        refine ⟨8, x, by decide, by decide, by omega, by omega, Or.inr (hg _ (fr_cop m1 (Or.inr ?_) (by rw [e]; exact x3)))⟩
        have e2 : a * ((x * 8 - 1) * (x * 8 - 1)) + b * ((x * 8 - 1) * 8) + c * (8 * 8) = 2 * (32 * (a * (x * x)) - 8 * (a * x) + 4 * (b * (x * 8 - 1)) + 32 * c) + a := by grind
        omega
