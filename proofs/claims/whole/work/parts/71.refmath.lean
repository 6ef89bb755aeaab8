/-! What the reference's small methods need of numbers. -/
theorem rf_rest {x y : Int} (hy : 0 < y) : (x.tmod y < 0 → x.tmod y + y = x % y) ∧ (¬ x.tmod y < 0 → x.tmod y = x % y) := by
  have h1 := Int.emod_nonneg x (show y ≠ 0 by omega)
  have h2 := Int.emod_lt_of_pos x hy
  have e := Int.tmod_eq_emod (a := x) (b := y)
  by_cases hx : 0 ≤ x
  · rw [if_pos (Or.inl hx)] at e
    omega
  · by_cases hd : y ∣ x
    · rw [if_pos (Or.inr hd)] at e
      have := Int.emod_eq_zero_of_dvd hd
      omega
    · rw [if_neg (fun q => q.elim hx hd)] at e
      have h3 : x % y ≠ 0 := fun q => hd (Int.dvd_of_emod_eq_zero q)
      omega
theorem ab_nat (x : Int) : fm_ab x = (x.natAbs : Int) := by rcases fm_ab_cases x with k | k <;> omega
def b3g (x : Int) : Prop := -3000000000 ≤ x ∧ x ≤ 3000000000
def b40 (x : Int) : Prop := -1099511627776 ≤ x ∧ x ≤ 1099511627776
theorem b40.j {x : Int} (h : b40 x) : jL x := ⟨by have := h.1; omega, by have := h.2; omega⟩
theorem b3g.b {x : Int} (h : b3g x) : b40 x := ⟨by have := h.1; omega, by have := h.2; omega⟩
theorem b30.g {x : Int} (h : b30 x) : b3g x := ⟨by have := h.1; omega, by have := h.2; omega⟩
/-- a form that the reference's steps work out rightly -/
def sOK (w : Int) (a b c : Int) : Prop := b40 a ∧ b40 b ∧ b3g c ∧ (b3g b ∨ (fm_ab b ≤ fm_ab a ∧ w < fm_ab a))
/-- what the reference asks of b b, whatever it is as a long -/
theorem red_gt {D w a b c v : Int} (hg : gD D w) (hD : ¬ D < 0) (hs : sOK w a b c) (hv : jL v) (hbv : jl (b * b) = jl v) : fm_red D w (a, b, c) ↔ 0 < b ∧ v < D ∧ w < 2 * fm_ab a + b ∧ 2 * fm_ab a - b ≤ w := by
  rw [fm_red_ge hD]
  obtain ⟨h1, h2, h3, h4⟩ := hs
  rcases h4 with h4 | ⟨h4, h5⟩
  · have hsq := sq_bd (B := 3000000000) (e := b) h4.1 h4.2
    have e : b * b = v := (jl_eq ⟨by omega, by omega⟩ hv).mp hbv
    subst e
    constructor
    · rintro ⟨a1, a2, a3, a4⟩
      exact ⟨a1, fm_in hg.1 (by rcases fm_ab_cases b with z | z <;> omega), a3, a4⟩
    · rintro ⟨a1, a2, a3, a4⟩
      have := fm_in_of hg.1 a2
      exact ⟨a1, by rcases fm_ab_cases b with z | z <;> omega, a3, a4⟩
  · constructor
    · rintro ⟨a1, a2, a3, a4⟩
      exfalso
      rcases fm_ab_cases b with z | z <;> omega
    · rintro ⟨a1, a2, a3, a4⟩
      exfalso
      rcases fm_ab_cases b with z | z <;> omega
theorem rho_ok {D w a b c : Int} (hg : gD D w) (hd : fm_disc D (a, b, c)) (hc : b3g c) : sOK w (fm_rho D w (a, b, c)).1 (fm_rho D w (a, b, c)).2.1 (fm_rho D w (a, b, c)).2.2 := by
  obtain ⟨ho, g1, g2, g3⟩ := hg
  obtain ⟨ha0, hc0⟩ := fm_ne ho hd
  have hw1 : -1 ≤ w := by rcases ho with z | z <;> omega
  have hC := fm_ab_pos hc0
  have hc1 := hc.1
  have hc2 := hc.2
  have hC2 : fm_ab c ≤ 3000000000 := by rcases fm_ab_cases c with z | z <;> omega
  have hdr := fm_rho_disc ho hd
  obtain ⟨k, hk, k1, k2⟩ := fm_rho_ex (w := w) hc0 hd
  rw [hk] at hdr ⊢
  dsimp only
  generalize -b + 2 * c * k = e at k1 k2 hdr ⊢
  generalize a - b * k + c * (k * k) = f at hdr ⊢
  have he : -3000000000 ≤ e ∧ e ≤ 3000000000 := by rcases fm_top_cases w c with q | q <;> constructor <;> omega
  have hf : b3g f := by
    unfold fm_disc at hdr
    dsimp only at hdr
    have hm := fm_ab_mul c f
    have hF : 0 ≤ fm_ab f := by rcases fm_ab_cases f with z | z <;> omega
    -- |e| is not above |c|, or not above w
    have hes : e * e ≤ fm_ab c * fm_ab c + 1046529 := by
      rcases fm_top_cases w c with q | q
      · have := sq_bd (B := fm_ab c) (e := e) (by omega) (by omega)
        omega
      · have := sq_bd (B := 1023) (e := e) (by omega) (by omega)
        have := fm_sq_le (Int.le_refl 0) (show 0 ≤ fm_ab c by omega)
        omega
    have he0 := (sq_bd (B := 3000000000) (e := e) he.1 he.2).1
    have h1 : fm_ab c * fm_ab f ≤ fm_ab c * (fm_ab c + 600000) := by
      have e2 : fm_ab c * (fm_ab c + 600000) = fm_ab c * fm_ab c + fm_ab c * 600000 := Int.mul_add _ _ _
      have h0 := fm_sq_le (Int.le_refl 0) (show 0 ≤ fm_ab c by omega)
      rcases fm_ab_cases (c * f) with z | z <;> omega
    have h2 := Int.le_of_mul_le_mul_left h1 hC
    -- better: four times it
    have h3 : fm_ab c * (4 * fm_ab f) ≤ fm_ab c * (fm_ab c + 2200000) := by
      have e2 : fm_ab c * (fm_ab c + 2200000) = fm_ab c * fm_ab c + fm_ab c * 2200000 := Int.mul_add _ _ _
      have e3 : fm_ab c * (4 * fm_ab f) = 4 * (fm_ab c * fm_ab f) := by grind
      have h0 := fm_sq_le (Int.le_refl 0) (show 0 ≤ fm_ab c by omega)
      rcases fm_ab_cases (c * f) with z | z <;> omega
    have h4 := Int.le_of_mul_le_mul_left h3 hC
    rcases fm_ab_cases f with z | z <;> exact ⟨by omega, by omega⟩
  exact ⟨hc.b, ⟨by omega, by omega⟩, hf, Or.inl he⟩
/-- forms of one discriminant with the same a and b -/
theorem same_ab {D w : Int} {f g : fm_F} (ho : fm_ok D w) (hf : fm_disc D f) (hg : fm_disc D g) (h1 : f.1 = g.1) (h2 : f.2.1 = g.2.1) : f = g := by
  obtain ⟨a, b, c⟩ := f
  obtain ⟨a', b', c'⟩ := g
  dsimp only at h1 h2
  subst h1
  subst h2
  obtain ⟨ha, -⟩ := fm_ne ho hf
  unfold fm_disc at hf hg
  dsimp only at hf hg
  have : a * c = a * c' := by omega
  rw [fm_cancel ha this]
