/-! What the reference's inverse, search and product need of numbers. -/
def iv (a m x y u v : Int) : Prop := 0 ≤ u ∧ u ≤ m ∧ 0 ≤ v ∧ v ≤ m ∧ m ∣ x * a - u ∧ m ∣ y * a - v ∧ ((0 ≤ x ∧ y ≤ 0 ∧ x * v - y * u = m) ∨ (x ≤ 0 ∧ 0 ≤ y ∧ y * u - x * v = m)) ∧ (∀ d : Int, d ∣ u → d ∣ v → d ∣ 1) ∧ -m ≤ x ∧ x ≤ m ∧ (u = 0 → y = 0)
theorem iv_0 {a m : Int} (hm : 0 < m) (hc : Int.gcd a m = 1) : iv a m 1 0 (a % m) m := by
  have h1 := Int.emod_nonneg a (show m ≠ 0 by omega)
  have h2 := Int.emod_lt_of_pos a hm
  have h3 := Int.emod_add_mul_ediv a m
  refine ⟨h1, by omega, by omega, Int.le_refl _, ⟨a / m, by omega⟩, ⟨-1, by omega⟩, Or.inl ⟨by decide, by decide, by omega⟩, fun d d1 d2 => ?_, by omega, by omega, fun _ => rfl⟩
  have d3 : d ∣ a := by rw [← h3]; exact Int.dvd_add d1 (Int.dvd_mul_of_dvd_left d2)
  have := Int.dvd_coe_gcd d3 d2
  rw [hc] at this
  exact this
theorem iv_s {a m x y u v : Int} (h : iv a m x y u v) (hv : 0 < v) : iv a m y (x - u.tdiv v * y) v (u - u.tdiv v * v) ∧ 0 ≤ u - u.tdiv v * v ∧ u - u.tdiv v * v < v := by
  obtain ⟨h1, h2, h3, h4, h5, h6, h7, h8, h9, h10, h11⟩ := h
  rw [Int.tdiv_eq_ediv_of_nonneg h1]
  have q0 := Int.ediv_nonneg h1 h3
  have e1 := Int.emod_add_mul_ediv u v
  have e2 := Int.emod_nonneg u (show v ≠ 0 by omega)
  have e3 := Int.emod_lt_of_pos u hv
  generalize u / v = q at *
  have e4 : q * v = v * q := Int.mul_comm _ _
  have t0 : 0 ≤ u - q * v := by omega
  have t1 : u - q * v < v := by omega
  have by' : -m ≤ y ∧ y ≤ m := by
    rcases Int.lt_or_le 0 u with z | z
    · rcases h7 with ⟨k1, k2, k3⟩ | ⟨k1, k2, k3⟩
      · have p1 := Int.mul_nonneg k1 h3
        have p2 := Int.mul_le_mul_of_nonneg_left (show 1 ≤ u by omega) (show 0 ≤ -y by omega)
        have e5 : -y * u = -(y * u) := Int.neg_mul _ _
        omega
      · have p1 := Int.mul_nonneg (show 0 ≤ -x by omega) h3
        have p2 := Int.mul_le_mul_of_nonneg_left (show 1 ≤ u by omega) k2
        have e5 : -x * v = -(x * v) := Int.neg_mul _ _
        omega
    · have := h11 (by omega)
      omega
  refine ⟨⟨h3, h4, t0, by omega, h6, ?_, ?_, fun d d1 d2 => h8 d ?_ d1, by'.1, by'.2, fun z => absurd z (by omega)⟩, t0, t1⟩
  · have e : (x - q * y) * a - (u - q * v) = (x * a - u) - (y * a - v) * q := by grind
    rw [e]
    exact Int.dvd_sub h5 (Int.dvd_mul_of_dvd_left h6)
  · have p3 : ∀ t : Int, 0 ≤ t → 0 ≤ q * t := fun t ht => Int.mul_nonneg q0 ht
    rcases h7 with ⟨k1, k2, k3⟩ | ⟨k1, k2, k3⟩
    · right
      have := p3 (-y) (by omega)
      have e5 : q * -y = -(q * y) := Int.mul_neg _ _
      refine ⟨k2, by omega, ?_⟩
      rw [← k3]
      grind
    · left
      have := p3 y k2
      refine ⟨k2, by omega, ?_⟩
      rw [← k3]
      grind
  · have e : u = (u - q * v) + v * q := by omega
    rw [e]
    exact Int.dvd_add d2 (Int.dvd_mul_of_dvd_left d1)
theorem iv_e {a m x y u v : Int} (hm : 0 < m) (h : iv a m x y u v) (hv : ¬ 0 < v) : 0 ≤ x % m ∧ x % m < m ∧ m ∣ x % m * a - 1 := by
  obtain ⟨h1, h2, h3, h4, h5, h6, h7, h8, h9, h10, h11⟩ := h
  have hv0 : v = 0 := by omega
  have hu := h8 u (Int.dvd_refl u) (by rw [hv0]; exact Int.dvd_zero u)
  have hu1 : u = 1 := by
    have := Int.le_of_dvd (by decide) hu
    have : u ≠ 0 := fun z => by rw [z] at hu; exact absurd (Int.zero_dvd.mp hu) (by decide)
    omega
  rw [hu1] at h5
  refine ⟨Int.emod_nonneg x (by omega), Int.emod_lt_of_pos x hm, ?_⟩
  have e := Int.emod_add_mul_ediv x m
  have e2 : x % m * a - 1 = (x * a - 1) - m * (x / m * a) := by
    generalize x / m = t at *
    generalize x % m = r at *
    subst e
    grind
  rw [e2]
  exact Int.dvd_sub h5 (Int.dvd_mul_right _ _)
theorem gcd_jL (x : Int) {n : Int} (h0 : n ≠ 0) (h1 : jL n) (h2 : n ≠ -9223372036854775808) : jL ((Int.gcd x n : Nat) : Int) := by
  have h3 : Int.gcd x n ≤ n.natAbs := Nat.le_of_dvd (by omega) (Int.gcd_dvd_natAbs_right x n)
  have := h1.1
  have := h1.2
  exact ⟨by omega, by omega⟩
/-! bounds of names and of what the search finds -/
def nB (D a b c : Int) : Prop := fm_ab a ≤ 1023 ∧ fm_ab b ≤ 1023 ∧ ((¬ D < 0 ∧ fm_ab a * fm_ab c ≤ 262144) ∨ (D < 0 ∧ fm_ab a ≤ 591 ∧ fm_ab b ≤ 591 ∧ fm_ab a * fm_ab c ≤ 349464))
theorem ab_nn (x : Int) : 0 ≤ fm_ab x := by rcases fm_ab_cases x with z | z <;> omega
theorem nB_of {D w a b c : Int} (hg : gD D w) (hd : fm_disc D (a, b, c)) (hr : fm_red D w (a, b, c)) : nB D a b c := by
  obtain ⟨h1, h2⟩ := red_1023 hg hd hr
  refine ⟨h1, h2, ?_⟩
  by_cases hD : D < 0
  · right
    obtain ⟨k1, k2, k3⟩ := fm_neg_a hD hg.2.1 hd hr
    have ka : fm_ab a = a := by rcases fm_ab_cases a with z | z <;> omega
    have hac := fm_neg_ac hD hd
    have hm := fm_ab_mul a c
    have hb2 := sq_bd (B := 591) (e := b) (by rcases fm_ab_cases b with z | z <;> omega) (by rcases fm_ab_cases b with z | z <;> omega)
    have hg2 := hg.2.1
    unfold fm_disc at hd
    dsimp only at hd
    refine ⟨hD, by omega, by omega, ?_⟩
    rw [← hm]
    rcases fm_ab_cases (a * c) with z | z <;> omega
  · left
    obtain ⟨k1, k2⟩ := fm_red_opp hg.1 hD hd hr
    have hg3 := hg.2.2.1
    have hb2 := (sq_bd (B := 1023) (e := b) (by rcases fm_ab_cases b with z | z <;> omega) (by rcases fm_ab_cases b with z | z <;> omega)).1
    exact ⟨hD, by omega⟩
theorem nB.c {D a b c : Int} (h : nB D a b c) (ha : a ≠ 0) : fm_ab c ≤ 349464 := by
  have h1 := fm_ab_pos ha
  have h2 := Int.mul_le_mul_of_nonneg_right (show 1 ≤ fm_ab a by omega) (ab_nn c)
  rcases h.2.2 with ⟨k1, k2⟩ | ⟨k1, k2, k3, k4⟩ <;> omega
def vB (D v : Int) : Prop := fm_ab v ≤ 14200000 ∧ (¬ D < 0 → fm_ab v ≤ 11300000)
theorem vB_of {D a b c v : Int} (hn : nB D a b c) (ha : 2 ≤ fm_ab a) (hv : fm_ab v ≤ fm_ab a * 4225 + fm_ab b * 520 + fm_ab c * 64) : vB D v := by
  obtain ⟨h1, h2, h3⟩ := hn
  have hc := ab_nn c
  rcases h3 with ⟨k1, k2⟩ | ⟨k1, k2, k3, k4⟩
  · have h4 : fm_ab v ≤ 11300000 := by
      by_cases e : fm_ab a = 2
      · rw [e] at k2
        omega
      · have := Int.mul_le_mul_of_nonneg_right (show 3 ≤ fm_ab a by omega) hc
        omega
    exact ⟨by omega, fun _ => h4⟩
  · have := Int.mul_le_mul_of_nonneg_right ha hc
    exact ⟨by omega, fun z => absurd k1 z⟩
theorem ab_prod' {x y Y : Int} (hy : fm_ab y ≤ Y) : fm_ab (x * y) ≤ fm_ab x * Y := ab_prod (Int.le_refl _) hy
theorem fv_b1 (a b c : Int) {k : Int} (h1 : -8 ≤ k) (h2 : k ≤ 8) : fm_ab (fv1 a b c k) ≤ fm_ab a * 4225 + fm_ab b * 520 + fm_ab c * 64 := by
  have hk : fm_ab k ≤ 8 := by rcases fm_ab_cases k with z | z <;> omega
  have p1 := ab_prod' (x := a) (ab_prod hk hk)
  have p2 := ab_prod' (x := b) hk
  have s1 := ab_add (ab_add p1 p2) (Int.le_refl (fm_ab c))
  have n1 := ab_nn a
  have n2 := ab_nn b
  have n3 := ab_nn c
  unfold fv1
  omega
theorem fv_b2 (a b c : Int) {k y : Int} (h0 : 0 ≤ y) (h8 : y ≤ 8) (h1 : -y ≤ k) (h2 : k ≤ y) : fm_ab (fv2 a b c k y) ≤ fm_ab a * 4225 + fm_ab b * 520 + fm_ab c * 64 := by
  have hk : fm_ab k ≤ 8 := by rcases fm_ab_cases k with z | z <;> omega
  have hy : fm_ab y ≤ 8 := by rcases fm_ab_cases y with z | z <;> omega
  have hx : fm_ab (k * y - 1) ≤ 65 := by
    have := ab_range (ab_prod hk hy)
    rcases fm_ab_cases (k * y - 1) with z | z <;> omega
  have p1 := ab_prod' (x := a) (ab_prod hx hx)
  have p2 := ab_prod' (x := b) (ab_prod hx hy)
  have p3 := ab_prod' (x := c) (ab_prod hy hy)
  have s1 := ab_add (ab_add p1 p2) p3
  unfold fv2
  omega
/-- the search, as far as it has come -/
def fJ (D w p q r n y k xa xb xc : Int) : Prop := fm_disc D (xa, xb, xc) ∧ fm_mg D w (xa, xb, xc) (p, q, r) ∧ (D < 0 → 0 < xa) ∧ vB D xa ∧ fm_ab xb ≤ 1000000000 ∧ (Int.gcd xa n = 1 ∨ (2 ≤ fm_ab p ∧ ∀ y' k' : Int, 0 ≤ y' → -y' ≤ k' → k' ≤ y' → (y' < y ∨ (y' = y ∧ k' < k)) → ¬ fgd p q r n y' k'))
theorem gcd_pm {a : Int} (n : Int) (h : fm_ab a = 1) : Int.gcd a n = 1 := by
  have : a.natAbs = 1 := by have := ab_nat a; omega
  unfold Int.gcd
  rw [this]
  exact Nat.gcd_one_left _
theorem fJ_0 {D w p q r n : Int} (hg : gD D w) (hd : fm_disc D (p, q, r)) (hp : D < 0 → 0 < p) (hn : nB D p q r) : fJ D w p q r n 0 0 p q r := by
  have ha := hn.1
  have hb := hn.2.1
  refine ⟨hd, fm_mg.rf _, hp, ⟨by omega, fun _ => by omega⟩, by omega, ?_⟩
  by_cases h1 : fm_ab p = 1
  · exact Or.inl (gcd_pm n h1)
  · right
    have := fm_ab_pos (fm_ne hg.1 hd).1
    exact ⟨by omega, fun y' k' a1 a2 a3 a4 => by omega⟩
theorem fJ_y {D w p q r n y k xa xb xc : Int} (h : fJ D w p q r n y k xa xb xc) (hk : y < k ∨ Int.gcd xa n = 1) : fJ D w p q r n (y + 1) (-(y + 1)) xa xb xc := by
  obtain ⟨h1, h2, h3, h4, h5, h6⟩ := h
  refine ⟨h1, h2, h3, h4, h5, ?_⟩
  rcases h6 with z | ⟨z1, z2⟩
  · exact Or.inl z
  · rcases hk with k1 | k1
    · exact Or.inr ⟨z1, fun y' k' a1 a2 a3 a4 => z2 y' k' a1 a2 a3 (by omega)⟩
    · exact Or.inl k1
theorem fJ_k {D w p q r n y xa xb xc : Int} (h : fJ D w p q r n y (-y) xa xb xc) : True := trivial
theorem fJ_1 {D w p q r n y k : Int} (hg : gD D w) (hd : fm_disc D (p, q, r)) (hp : D < 0 → 0 < p) (hn : nB D p q r) (h2 : 2 ≤ fm_ab p) (y0 : 0 ≤ y) (y8 : y ≤ 8) (k0 : -y ≤ k) (k1 : k ≤ y) : fm_disc D (p * k * k + q * k + r, -(q + 2 * p * k), p) ∧ fm_mg D w (p * k * k + q * k + r, -(q + 2 * p * k), p) (p, q, r) ∧ (D < 0 → 0 < p * k * k + q * k + r) ∧ vB D (p * k * k + q * k + r) ∧ fm_ab (-(q + 2 * p * k)) ≤ 20000 ∧ p * k * k + q * k + r = fv1 p q r k := by
  have e : p * k * k + q * k + r = p * (k * k) + q * k + r := by rw [Int.mul_assoc p k k]
  have t1 := fm_T_disc k hd
  have m1 := fm_mg_T k hg.1 hd
  rw [e]
  refine ⟨fm_S_disc t1, (fm_mg_S hg.1 t1).sy.tr m1.sy, fun hD => fm_pp (hp hD) (fm_neg_ac hD t1), vB_of hn h2 (fv_b1 p q r (by omega) (by omega)), ?_, rfl⟩
  rw [fm_ab_neg]
  have hk : fm_ab k ≤ 8 := by rcases fm_ab_cases k with z | z <;> omega
  have ha := hn.1
  have hb := hn.2.1
  have p2 := ab_prod (ab_prod (x := 2) (X := 2) (by decide) ha) hk
  have := ab_add hb p2
  omega
theorem fJ_f {D w p q r n y k : Int} (hg : gD D w) (hd : fm_disc D (p, q, r)) (hp : D < 0 → 0 < p) (hn : nB D p q r) (h2 : 2 ≤ fm_ab p) (y0 : 0 ≤ y) (y8 : y ≤ 8) (k0 : -y ≤ k) (k1 : k ≤ y) (hc : Int.gcd (p * k * k + q * k + r) n = 1) : fJ D w p q r n y (k + 1) (p * k * k + q * k + r) (-(q + 2 * p * k)) p := by
  obtain ⟨a1, a2, a3, a4, a5, a6⟩ := fJ_1 (n := n) hg hd hp hn h2 y0 y8 k0 k1
  exact ⟨a1, a2, a3, a4, by omega, Or.inl hc⟩
theorem fJ_g {D w p q r n y k xa xb xc : Int} (hg : gD D w) (hd : fm_disc D (p, q, r)) (hp : D < 0 → 0 < p) (hn : nB D p q r) (y0 : 0 ≤ y) (y8 : y ≤ 8) (k0 : -y ≤ k) (k1 : k ≤ y) (h : fJ D w p q r n y k xa xb xc) (hx : ¬ Int.gcd xa n = 1) (hc : ¬ Int.gcd (p * k * k + q * k + r) n = 1) : fJ D w p q r n y (k + 1) ((p * k * k + q * k + r) * y * y + (-(q + 2 * p * k)) * y + p) (-((-(q + 2 * p * k)) + 2 * (p * k * k + q * k + r) * y)) (p * k * k + q * k + r) := by
  obtain ⟨-, -, -, -, -, h6⟩ := h
  obtain ⟨h2, h7⟩ := h6.resolve_left hx
  obtain ⟨a1, a2, a3, a4, a5, a6⟩ := fJ_1 (n := n) hg hd hp hn h2 y0 y8 k0 k1
  have e2 : (p * k * k + q * k + r) * y * y + (-(q + 2 * p * k)) * y + p = fv2 p q r k y := by
    unfold fv2
    clear h7 a1 a2 a3 a4 a5 a6 hc hn hd
    grind
  rw [a6] at hc
  generalize hX : p * k * k + q * k + r = X at *
  generalize hY : -(q + 2 * p * k) = Y at *
  have t1 := fm_T_disc y a1
  have m1 := fm_mg_T y hg.1 a1
  have e1 : X * y * y + Y * y + p = X * (y * y) + Y * y + p := by rw [Int.mul_assoc X y y]
  rw [← e1] at t1 m1
  refine ⟨fm_S_disc t1, (fm_mg_S hg.1 t1).sy.tr (m1.sy.tr a2), fun hD => fm_pp (a3 hD) (fm_neg_ac hD t1), ?_, ?_, ?_⟩
  · rw [e2]
    exact vB_of hn h2 (fv_b2 p q r y0 y8 k0 k1)
  · rw [fm_ab_neg]
    have hy : fm_ab y ≤ 8 := by rcases fm_ab_cases y with z | z <;> omega
    have p2 := ab_prod (ab_prod (x := 2) (X := 2) (by decide) a4.1) hy
    have := ab_add a5 p2
    omega
  · by_cases hz : Int.gcd (X * y * y + Y * y + p) n = 1
    · exact Or.inl hz
    · right
      refine ⟨h2, fun y' k' b1 b2 b3 b4 => ?_⟩
      by_cases hq : y' < y ∨ (y' = y ∧ k' < k)
      · exact h7 y' k' b1 b2 b3 hq
      · have ey : y' = y := by omega
        have ek : k' = k := by omega
        rw [ey, ek]
        rintro (z | z)
        · exact hc z
        · rw [← e2] at z
          exact hz z
theorem fJ_8 {D w p q r n y k xa xb xc : Int} (h : fJ D w p q r n y k xa xb xc) (hx : ¬ Int.gcd xa n = 1) (hex : ∃ y k : Int, 0 ≤ y ∧ y ≤ 8 ∧ -y ≤ k ∧ k ≤ y ∧ fgd p q r n y k) : y ≤ 8 := by
  obtain ⟨y', k', b1, b2, b3, b4, b5⟩ := hex
  obtain ⟨-, h7⟩ := h.2.2.2.2.2.resolve_left hx
  apply Classical.byContradiction
  intro z
  exact h7 y' k' b1 b3 b4 (Or.inl (by omega)) b5
/-! the product -/
theorem tm_k {A k : Int} {m : Int} (hm : m = fm_ab A) (h : m ∣ k) : ∃ t : Int, k = A * t := by
  obtain ⟨t, ht⟩ := h
  rcases fm_ab_cases A with ⟨-, z⟩ | ⟨-, z⟩
  · exact ⟨t, by rw [ht, hm, z]⟩
  · exact ⟨-t, by rw [ht, hm, z, Int.neg_mul, Int.mul_neg]⟩
theorem tm_low {a1 b1 lo : Int} (ha : a1 ≠ 0) (hlo : (2 * (b1 % (2 * fm_ab a1)) ≤ 2 * fm_ab a1 ∧ lo = b1 % (2 * fm_ab a1)) ∨ (2 * fm_ab a1 < 2 * (b1 % (2 * fm_ab a1)) ∧ lo = b1 % (2 * fm_ab a1) - 2 * fm_ab a1)) : fm_ab lo ≤ fm_ab a1 ∧ ∃ t : Int, lo - b1 = 2 * a1 * t := by
  have hp := fm_ab_pos ha
  have h1 := Int.emod_nonneg b1 (show 2 * fm_ab a1 ≠ 0 by omega)
  have h2 := Int.emod_lt_of_pos b1 (show 0 < 2 * fm_ab a1 by omega)
  have h3 := Int.emod_add_mul_ediv b1 (2 * fm_ab a1)
  generalize b1 / (2 * fm_ab a1) = e at *
  generalize b1 % (2 * fm_ab a1) = f at *
  refine ⟨by rcases fm_ab_cases lo with z | z <;> omega, ?_⟩
  obtain ⟨t, ht⟩ : ∃ t : Int, lo - b1 = 2 * fm_ab a1 * t := by
    rcases hlo with ⟨k1, k2⟩ | ⟨k1, k2⟩
    · exact ⟨-e, by rw [Int.mul_neg]; omega⟩
    · refine ⟨-(e + 1), ?_⟩
      have : 2 * fm_ab a1 * -(e + 1) = -(2 * fm_ab a1 * e) - 2 * fm_ab a1 := by grind
      omega
  rcases fm_ab_cases a1 with ⟨-, z⟩ | ⟨-, z⟩
  · exact ⟨t, by rw [ht, z]⟩
  · refine ⟨-t, ?_⟩
    rw [ht, z]
    grind
theorem tm_core {D w s n p q r a b c A B C z k b1 c0 a1 lo k2 : Int} (hg : gD D w) (hs : fm_sn D s n) (hf : fm_v D (p, q, r)) (nb : nB D p q r) (hG : fm_v D (a, b, c)) (dA : fm_disc D (A, B, C)) (mA : fm_mg D w (A, B, C) (a, b, c)) (pA : D < 0 → 0 < A) (vA : vB D A) (hz : fm_ab A ∣ z * p - 1) (hk : ((B - q).tdiv 2 % fm_ab A * z) % fm_ab A = k) (hb1 : q + 2 * p * k = b1) (hc0 : (r + q * k + p * k * k).tdiv A = c0) (ha1 : p * A = a1) (hlo : (2 * (b1 % (2 * fm_ab a1)) ≤ 2 * fm_ab a1 ∧ lo = b1 % (2 * fm_ab a1)) ∨ (2 * fm_ab a1 < 2 * (b1 % (2 * fm_ab a1)) ∧ lo = b1 % (2 * fm_ab a1) - 2 * fm_ab a1)) (hk2 : (lo - b1).tdiv (2 * a1) = k2) : (fm_v D (a1, b1 + 2 * a1 * k2, a1 * k2 * k2 + b1 * k2 + c0) ∧ fm_cp s n (p, q, r) (a, b, c) (a1, b1 + 2 * a1 * k2, a1 * k2 * k2 + b1 * k2 + c0)) ∧ sOK w a1 (b1 + 2 * a1 * k2) (a1 * k2 * k2 + b1 * k2 + c0) := by
  have hp0 := (fm_ne hg.1 hf.1).1
  have hA0 := (fm_ne hg.1 dA).1
  have hAp := fm_ab_pos hA0
  have vAf : fm_v D (A, B, C) := ⟨dA, (pr_mg hg.1 dA hG.1 mA).mpr hG.2.1, pA⟩
  obtain ⟨S, T, hS, hT⟩ := halves hs hf.1 dA
  obtain ⟨h, hh⟩ : ∃ h : Int, 2 * h = B - q := ⟨S - q, by omega⟩
  rw [td_2 hh] at hk
  -- k = h z + A t
  obtain ⟨t, ht⟩ : ∃ t : Int, k - h * z = A * t := by
    refine tm_k rfl ?_
    have d1 : fm_ab A ∣ k - h % fm_ab A * z := by rw [← hk]; exact cg_mod _
    have d2 : fm_ab A ∣ h % fm_ab A * z - h * z := by
      have e : h % fm_ab A * z - h * z = (h % fm_ab A - h) * z := (Int.sub_mul _ _ _).symm
      rw [e]
      exact Int.dvd_mul_of_dvd_left (cg_mod h)
    exact cg_tr d1 d2
  obtain ⟨y, hy⟩ : ∃ y : Int, z * p - 1 = A * y := tm_k rfl hz
  have he : z * p + -y * A + 0 * S = 1 := by
    have : A * y = y * A := Int.mul_comm _ _
    have e2 : -y * A = -(y * A) := Int.neg_mul _ _
    omega
  obtain ⟨x1, x2, T', M, -, e1, e2, e3, e4, e5⟩ := fm_formula_ex hg.1 hs hf vAf hS (by decide) ⟨p, (Int.one_mul p).symm⟩ ⟨A, (Int.one_mul A).symm⟩ ⟨S, (Int.one_mul S).symm⟩ he
  rw [Int.one_mul] at e1 e2
  subst e1
  subst e2
  have hM : M = q + 2 * p * (h * z) := by
    have eB : B = q + 2 * h := by omega
    rw [Int.one_mul] at e4
    rw [← e4, eB]
    have eyA : y * A = z * p - 1 := by rw [hy]; exact Int.mul_comm _ _
    have : z * p * (q + 2 * h) + -y * A * q + 0 * T' = z * p * (q + 2 * h) - (y * A) * q := by grind
    rw [this, eyA]
    grind
  have hbM : b1 = M + 2 * (p * A) * t := by
    have ek : k = h * z + A * t := by omega
    rw [← hb1, hM, ek]
    grind
  obtain ⟨C1, hC1⟩ := e5 t
  rw [← hbM] at hC1
  have hcc : c0 = C1 := by
    rw [← hc0]
    refine td_e ?_ hA0
    have hd1 := hf.1
    unfold fm_disc at hC1 hd1
    dsimp only at hC1 hd1
    have e9 : 4 * p * (r + q * k + p * k * k) = 4 * p * (A * C1) := by
      have e10 : b1 * b1 - D = 4 * p * (A * C1) := by
        have : 4 * p * (A * C1) = 4 * (p * A * C1) := by grind
        omega
      have e11 : b1 * b1 - D = 4 * p * (r + q * k + p * k * k) := by
        rw [← hb1, ← hd1]
        grind
      omega
    exact fm_cancel (show 4 * p ≠ 0 by omega) e9
  subst hcc
  have ha0 : a1 ≠ 0 := by rw [← ha1]; exact Int.mul_ne_zero hp0 hA0
  obtain ⟨l1, t2, l2⟩ := tm_low ha0 hlo
  have hk2' : k2 = t2 := by rw [← hk2]; exact td_e l2 (by omega)
  subst hk2'
  have elo : b1 + 2 * a1 * k2 = lo := by omega
  rw [ha1] at hC1
  have hT1 := fm_T_disc k2 hC1
  rw [← Int.mul_assoc a1 k2 k2] at hT1
  have ebM : b1 + 2 * a1 * k2 = M + 2 * (p * A) * (t + k2) := by
    rw [hbM, ← ha1]
    grind
  have hT2 := hT1
  rw [ebM, ← ha1] at hT2
  have hfin := fm_formula hg.1 hs hf vAf hS (show (1 : Int) ≠ 0 by decide) (Int.one_mul p).symm (Int.one_mul A).symm (Int.one_mul S).symm he e3 e4 hT2
  rw [← ebM, ha1] at hfin
  refine ⟨⟨hfin.1, hfin.2.m (fm_eq_mg hg.1 hs dA hG.1 mA)⟩, ?_⟩
  rw [elo] at hT1 ⊢
  generalize a1 * k2 * k2 + b1 * k2 + c0 = c1 at *
  -- bounds
  have ea : fm_ab a1 ≤ 12000000000 ∧ fm_ab a1 ≤ 12000000000 := by
    have e12 : fm_ab a1 = fm_ab p * fm_ab A := by rw [← ha1]; exact fm_ab_mul p A
    have n1 := ab_nn p
    have n2 := ab_nn A
    rcases nb.2.2 with ⟨g1, g2⟩ | ⟨g1, g2, g3, g4⟩
    · have := Int.mul_le_mul nb.1 (vA.2 g1) n2 (by decide)
      omega
    · have := Int.mul_le_mul g2 vA.1 n2 (by decide)
      omega
  have hpa := fm_ab_pos ha0
  have hc1 : fm_ab c1 ≤ 3000000000 := by
    have hlb := sq_bd (B := fm_ab a1) (e := lo) (by rcases fm_ab_cases lo with z | z <;> omega) (by rcases fm_ab_cases lo with z | z <;> omega)
    have e12 : fm_ab a1 = fm_ab p * fm_ab A := by rw [← ha1]; exact fm_ab_mul p A
    have ea2 : fm_ab a1 ≤ 11560000000 := by
      have n1 := ab_nn p
      have n2 := ab_nn A
      rcases nb.2.2 with ⟨g1, g2⟩ | ⟨g1, g2, g3, g4⟩
      · have := Int.mul_le_mul nb.1 (vA.2 g1) n2 (by decide)
        omega
      · have := Int.mul_le_mul g2 vA.1 n2 (by decide)
        omega
    unfold fm_disc at hT1
    dsimp only at hT1
    have hm := fm_ab_mul a1 c1
    have g1 := hg.2.1
    have g2 := hg.2.2.1
    have h3 : fm_ab a1 * (4 * fm_ab c1) ≤ fm_ab a1 * (fm_ab a1 + 1048576) := by
      have e2 : fm_ab a1 * (fm_ab a1 + 1048576) = fm_ab a1 * fm_ab a1 + fm_ab a1 * 1048576 := Int.mul_add _ _ _
      have e3 : fm_ab a1 * (4 * fm_ab c1) = 4 * (fm_ab a1 * fm_ab c1) := by grind
      rcases fm_ab_cases (a1 * c1) with z | z <;> omega
    have h4 := Int.le_of_mul_le_mul_left h3 hpa
    omega
  have r1 := ab_range ea.1
  have r2 := ab_range hc1
  have r3 := ab_range (Int.le_trans l1 ea.1)
  have g3 := hg.2.2.2
  refine ⟨⟨by omega, by omega⟩, ⟨by omega, by omega⟩, r2, ?_⟩
  by_cases hw : w < fm_ab a1
  · exact Or.inr ⟨l1, hw⟩
  · left
    have r4 := ab_range (Int.le_trans l1 (show fm_ab a1 ≤ 1023 by omega))
    exact ⟨by omega, by omega⟩
theorem tm_r {D p q r A k : Int} (hp0 : p ≠ 0) (nb : nB D p q r) (vA : vB D A) (hk0 : 0 ≤ k) (hk1 : k < fm_ab A) : fm_ab (q + 2 * p * k) ≤ 30000000000 ∧ jL (r + q * k + p * k * k) ∧ fm_ab (p * A) ≤ 15000000000 := by
  have hk : fm_ab k ≤ 14200000 := by have := vA.1; rcases fm_ab_cases k with z | z <;> omega
  have p1 := ab_add nb.2.1 (ab_prod (ab_prod (x := 2) (X := 2) (by decide) nb.1) hk)
  have p2 := ab_add (ab_add (nb.c hp0) (ab_prod nb.2.1 hk)) (ab_prod (ab_prod nb.1 hk) hk)
  have p3 := ab_prod nb.1 vA.1
  have := ab_range p2
  exact ⟨by omega, ⟨by omega, by omega⟩, by omega⟩
