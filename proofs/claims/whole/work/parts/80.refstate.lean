/-! The state that class and reference share, and what the reference's calls need of numbers. -/
def rN (D w : Int) (F1 F2 F3 : Nat → Int) : Prop := ∀ i : Nat, i < 8 → fm_v D (F1 i, F2 i, F3 i) ∧ fm_nm D w (F1 i, F2 i, F3 i) (F1 i, F2 i, F3 i)
def rP (D np : Int) (PF : Nat → Int) : Prop := ∃ ol : List Nat, oL D.natAbs ol ∧ np = (ol.length : Int) ∧ ol.length ≤ 6 ∧ lH PF ol
theorem rN.put {D w : Int} {F1 F2 F3 : Nat → Int} (h : rN D w F1 F2 F3) (k : Nat) {z : fm_F} (hv : fm_v D z) (hn : fm_nm D w z z) : rN D w (fU F1 k z.1) (fU F2 k z.2.1) (fU F3 k z.2.2) := by
  intro i hi
  by_cases e : i = k
  · subst e
    rw [fU_self, fU_self, fU_self]
    exact ⟨hv, hn⟩
  · rw [fU_ne _ _ e, fU_ne _ _ e, fU_ne _ _ e]
    exact h i hi
theorem rP.u {D n1 n2 : Int} {F G : Nat → Int} (h1 : rP D n1 F) (h2 : rP D n2 G) : n1 = n2 ∧ ∀ i : Nat, (i : Int) < n1 → F i = G i := by
  obtain ⟨l1, a1, a2, a3, a4⟩ := h1
  obtain ⟨l2, b1, b2, b3, b4⟩ := h2
  have e := a1.uniq b1
  subst e
  exact ⟨by omega, fun i hi => by rw [a4 i (by omega), b4 i (by omega)]⟩
theorem pr_gcd2 {a b c : Int} : fm_pr (a, b, c) ↔ Int.gcd (Int.gcd a b : Nat) c = 1 := by
  constructor
  · intro h
    have d1 : ((Int.gcd (Int.gcd a b : Nat) c : Nat) : Int) ∣ ((Int.gcd a b : Nat) : Int) := Int.gcd_dvd_left _ _
    have d2 : ((Int.gcd (Int.gcd a b : Nat) c : Nat) : Int) ∣ c := Int.gcd_dvd_right _ _
    have d3 := fm_pr_of h (Int.dvd_trans d1 (Int.gcd_dvd_left a b)) (Int.dvd_trans d1 (Int.gcd_dvd_right a b)) d2
    have := Int.natCast_dvd_natCast.mp (show ((Int.gcd (Int.gcd a b : Nat) c : Nat) : Int) ∣ ((1 : Nat) : Int) from d3)
    exact Nat.dvd_one.mp this
  · intro h
    have fin : ∀ g : Int, g ∣ a → g ∣ b → g ∣ c → g ∣ 1 := by
      intro g g1 g2 g3
      have := Int.dvd_coe_gcd (Int.dvd_coe_gcd g1 g2) g3
      rw [h] at this
      exact this
    have pm : ∀ g : Int, g ∣ 1 → g = 1 ∨ g = -1 := by
      intro g hg
      have h1 := Int.le_of_dvd (by decide) hg
      have h2 := Int.le_of_dvd (by decide) (Int.neg_dvd.mpr hg)
      have h3 : g ≠ 0 := fun z => by rw [z] at hg; exact absurd (Int.zero_dvd.mp hg) (by decide)
      omega
    by_cases h0 : a = 0 ∧ b = 0
    · have hc := fin c (by rw [h0.1]; exact Int.dvd_zero c) (by rw [h0.2]; exact Int.dvd_zero c) (Int.dvd_refl c)
      refine ⟨0, 0, c, ?_⟩
      dsimp only
      rcases pm c hc with e | e <;> rw [e] <;> omega
    · obtain ⟨x, y, g1, g0, e1, d1, d2⟩ := fm_bez _ a b (Nat.le_refl _) (by omega)
      obtain ⟨x', z, e, he0, e2, d3, d4⟩ := fm_bez _ g1 c (Nat.le_refl _) (Or.inl g0)
      have he := fin e (Int.dvd_trans d3 d1) (Int.dvd_trans d3 d2) d4
      refine ⟨e * (x' * x), e * (x' * y), e * z, ?_⟩
      dsimp only
      have : e * (x' * x) * a + e * (x' * y) * b + e * z * c = e * e := by
        have e3 : x' * (x * a + y * b) + z * c = e := by rw [e1]; exact e2
        have e4 : e * (x' * x) * a + e * (x' * y) * b + e * z * c = e * (x' * (x * a + y * b) + z * c) := by grind
        rw [e4, e3]
      rw [this]
      rcases pm e he with q | q <;> rw [q] <;> decide
theorem pz_of {D w s n : Int} {f : fm_F} {N k : Int} {y : fm_F} (ho : fm_ok D w) (hs : fm_sn D s n) (hf : fm_v D f) (hN : fm_or D s n f N) (vy : fm_v D y) (hy : fm_pw D s n f (k % N).toNat y) : fm_pz D s n f k y := by
  obtain ⟨n0, n1, -⟩ := hN
  have e0 := Int.emod_nonneg k (show N ≠ 0 by omega)
  have e1 := Int.emod_add_mul_ediv k N
  constructor
  · intro hk
    have q0 := Int.ediv_nonneg hk (show 0 ≤ N by omega)
    have := fm_pw.mod ho hs hf n1 (k / N).toNat vy hy
    have e2 : (k % N).toNat + N.toNat * (k / N).toNat = k.toNat := by
      have e3 : ((N.toNat * (k / N).toNat : Nat) : Int) = N * (k / N) := by
        rw [Int.natCast_mul, Int.toNat_of_nonneg (show 0 ≤ N by omega), Int.toNat_of_nonneg q0]
      generalize N.toNat * (k / N).toNat = zz at *
      omega
    rw [e2] at this
    exact this
  · intro hk
    have q0 : k / N < 0 := Int.ediv_neg_of_neg_of_pos hk n0
    have h1 := fm_pw.mul ho hs hf n1 (-(k / N)).toNat
    have e2 : (-k).toNat + (k % N).toNat = N.toNat * (-(k / N)).toNat := by
      have e3 : ((N.toNat * (-(k / N)).toNat : Nat) : Int) = N * -(k / N) := by
        rw [Int.natCast_mul, Int.toNat_of_nonneg (show 0 ≤ N by omega), Int.toNat_of_nonneg (show 0 ≤ -(k / N) by omega)]
      have e4 : N * -(k / N) = -(N * (k / N)) := Int.mul_neg _ _
      generalize N.toNat * (-(k / N)).toNat = zz at *
      omega
    rw [← e2] at h1
    obtain ⟨G, vG, hG⟩ := fm_pw.ex ho hs hf (-k).toNat
    obtain ⟨Y, vY, hY⟩ := fm_pw.ex ho hs (fm_inv_v hf) (-k).toNat
    obtain ⟨H, vH, hH⟩ := fm_prod_ex ho hs vG vy
    have h2 := fm_pw.add ho hs _ _ vG hG hy hH
    have h3 := h2.fn h1
    have c1 : fm_cp s n y G (fm_one s n) := (hH.r h3).cm
    have c2 : fm_cp s n Y G (fm_one s n) := fm_pw.inv ho hs hf _ vG vY hG hY
    exact hY.r (fm_cp_cancel ho hs vY.1 vy.1 vG.1 vG.2.1 c2 c1)
theorem pz_fn {D s n : Int} {f : fm_F} {k : Int} {x y : fm_F} (h1 : fm_pz D s n f k x) (h2 : fm_pz D s n f k y) : fm_eq s n x y := by
  rcases Int.lt_or_le k 0 with z | z
  · exact (h1.2 z).fn (h2.2 z)
  · exact (h1.1 z).fn (h2.1 z)
/-- names of equal classes -/
theorem nm_uniq {D w s n : Int} {x y u v : fm_F} (ho : fm_ok D w) (hs : fm_sn D s n) (hx : fm_nm D w u x) (hy : fm_nm D w v y) (dx : fm_disc D x) (dy : fm_disc D y) (he : fm_eq s n x y) : u = v :=
  hx.uniq ho (hy.mg (fm_mg_eq ho hs dy dx he.sy))
theorem sqr_s {x p : Int} (hp : 0 < p) (hx : 0 ≤ x) : (x * x % p + 2 * x + 1).tmod p = (x + 1) * (x + 1) % p := by
  have h0 := Int.emod_nonneg (x * x) (show p ≠ 0 by omega)
  rw [Int.tmod_eq_emod_of_nonneg (by omega), Int.add_assoc, Int.emod_add_emod]
  congr 1
  grind
theorem sqr_e {x v : Int} {p : Nat} (h0 : 0 ≤ v) (h1 : v < p) : x * x % p = v ↔ (p : Int) ∣ x * x - v := by
  constructor
  · intro h
    rw [← h]
    have := cg_mod (x * x) (p := (p : Int))
    have e : x * x - x * x % p = -(x * x % p - x * x) := by omega
    rw [e]
    exact Int.dvd_neg.mpr this
  · intro h
    obtain ⟨t, ht⟩ := h
    rw [show x * x = v + p * t by omega, Int.add_mul_emod_self_left]
    exact Int.emod_eq_of_lt h0 h1
theorem beg_w {e ww : Int} (h1 : e ≤ 1048576) (h2 : 0 ≤ ww) (h3 : ww * ww ≤ e) : ww ≤ 1024 := by
  rcases Int.lt_or_le 1024 ww with z | z
  · have := fm_sq_le (show (0 : Int) ≤ 1025 by decide) (show 1025 ≤ ww by omega)
    omega
  · exact z
/-- a prime of the discriminant that goes into a goes not into c -/
theorem ch_c {D a b c : Int} {p : Nat} (hp : fr_P p) (hv : fm_v D (a, b, c)) (hD : (p : Int) ∣ D) (ha : (p : Int) ∣ a) : ¬ (p : Int) ∣ c := by
  intro hc
  have hd := hv.1
  unfold fm_disc at hd
  dsimp only at hd
  have hb2 : (p : Int) ∣ b * b := by
    have e : b * b = D + 4 * (a * c) := by omega
    rw [e]
    exact Int.dvd_add hD (Int.dvd_mul_of_dvd_right (Int.dvd_mul_of_dvd_left ha))
  have hb : (p : Int) ∣ b := (fr_euc hp hb2).elim id id
  have := fm_pr_of hv.2.1 ha hb hc
  exact fr_nd (p := p) (x := 1) (by decide) (by have := hp.1; omega) (by have := hp.1; omega) this
theorem gcd_p {p : Nat} (hp : fr_P p) (x : Int) : Int.gcd x p = 1 ↔ ¬ (p : Int) ∣ x := by
  constructor
  · intro h hd
    have := Int.dvd_coe_gcd hd (Int.dvd_refl (p : Int))
    rw [h] at this
    exact fr_nd (p := p) (x := 1) (by decide) (by have := hp.1; omega) (by have := hp.1; omega) this
  · intro h
    have d1 : Int.gcd x p ∣ p := by
      have := Int.gcd_dvd_natAbs_right x p
      rwa [Int.natAbs_natCast] at this
    rcases hp.2 _ d1 with e | e
    · exact e
    · exfalso
      have := Int.gcd_dvd_left x p
      rw [e] at this
      exact h this
