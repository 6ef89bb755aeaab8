/-! What the class's reductions need of numbers. -/
def gD (D w : Int) : Prop := fm_ok D w ∧ -1048576 ≤ D ∧ D ≤ 1048576 ∧ w ≤ 1023
theorem gD.w {D w : Int} (h : gD D w) : -1 ≤ w := by
  rcases h.1 with k | k <;> omega
theorem gD.jD {D w : Int} (h : gD D w) : jI D := ⟨by have := h.2.1; omega, by have := h.2.2.1; omega⟩
theorem gD.jw {D w : Int} (h : gD D w) : jI w := ⟨by have := h.w; omega, by have := h.2.2.2; omega⟩
/-- not above 2 to the 30th in size -/
def b30 (x : Int) : Prop := -1073741824 ≤ x ∧ x ≤ 1073741824
theorem b30.j {x : Int} (h : b30 x) : jL x := ⟨by have := h.1; omega, by have := h.2; omega⟩
theorem b30.ab {x : Int} (h : b30 x) : 0 ≤ fm_ab x ∧ fm_ab x ≤ 1073741824 := by
  have h1 := h.1
  have h2 := h.2
  rcases fm_ab_cases x with k | k <;> omega
theorem sq_bd {B e : Int} (h1 : -B ≤ e) (h2 : e ≤ B) : 0 ≤ e * e ∧ e * e ≤ B * B := by
  have h3 : 0 ≤ fm_ab e := by rcases fm_ab_cases e with k | k <;> omega
  have h4 : fm_ab e ≤ B := by rcases fm_ab_cases e with k | k <;> omega
  have h5 := fm_sq_le (Int.le_refl 0) h3
  have h6 := fm_sq_le h3 h4
  rw [fm_ab_sq] at h5 h6
  exact ⟨by omega, h6⟩
theorem st_rho {D w a b c : Int} (hc : c ≠ 0) (hd : fm_disc D (a, b, c)) : fm_rho D w (a, b, c) = (c, fm_top w c - (fm_top w c + b) % (2 * fm_ab c), ((fm_top w c - (fm_top w c + b) % (2 * fm_ab c)) * (fm_top w c - (fm_top w c + b) % (2 * fm_ab c)) - D).tdiv (4 * c)) := by
  obtain ⟨-, -, k, hk⟩ := fm_e_spec w b hc
  have hk' : fm_top w c - (fm_top w c + b) % (2 * fm_ab c) = -b + 2 * c * k := hk
  unfold fm_rho
  dsimp only
  rw [Int.tdiv_eq_ediv_of_dvd]
  · rfl
  · rw [hk']
    unfold fm_disc at hd
    dsimp only at hd
    refine ⟨a - b * k + c * (k * k), ?_⟩
    grind
theorem nu_eq {D a b c : Int} (ha : 0 < a) (hd : fm_disc D (a, b, c)) : fm_nu D (a, b, c) = (a, a - (a - b) % (2 * a), ((a - (a - b) % (2 * a)) * (a - (a - b) % (2 * a)) - D).tdiv (4 * a)) := by
  obtain ⟨k, hk, -, -⟩ := fm_nu_ex ha hd
  have h2 : a - (a - b) % (2 * a) = b + 2 * a * k := congrArg (fun q => q.2.1) hk
  rw [Int.tdiv_eq_ediv_of_dvd]
  · rfl
  · rw [h2]
    unfold fm_disc at hd
    dsimp only at hd
    refine ⟨a * (k * k) + b * k + c, ?_⟩
    grind
theorem rho_bd {D w a b c : Int} (hg : gD D w) (hD : ¬ D < 0) (hd : fm_disc D (a, b, c)) (hc : b30 c) : b30 (fm_rho D w (a, b, c)).1 ∧ b30 (fm_rho D w (a, b, c)).2.1 ∧ b30 (fm_rho D w (a, b, c)).2.2 := by
  obtain ⟨ho, g1, g2, g3⟩ := hg
  obtain ⟨ha0, hc0⟩ := fm_ne ho hd
  have hC := fm_ab_pos hc0
  have hC2 := hc.ab
  obtain ⟨w0, w1, w2⟩ := fm_ok_pos ho hD
  have hdr := fm_rho_disc ho hd
  have hsh := fm_shrink (a := a) (b := b) (c := c) ho hD hd
  obtain ⟨k, hk, k1, k2⟩ := fm_rho_ex (w := w) hc0 hd
  rw [hk] at hdr hsh ⊢
  dsimp only at hsh ⊢
  generalize -b + 2 * c * k = e at k1 k2 hdr hsh ⊢
  generalize a - b * k + c * (k * k) = f at hdr hsh ⊢
  refine ⟨hc, ?_, ?_⟩
  · rcases fm_top_cases w c with q | q
    · exact ⟨by omega, by omega⟩
    · exact ⟨by omega, by omega⟩
  · by_cases q : w < fm_ab c
    · have := hsh q
      rcases fm_ab_cases f with z | z <;> exact ⟨by omega, by omega⟩
    · have htop : fm_top w c = w := by rcases fm_top_cases w c with z | z <;> omega
      rw [htop] at k1 k2
      have he := fm_opp ho hdr (by rcases fm_ab_cases e with z | z <;> omega)
      have h4 := he.2
      have h5 := sq_bd (B := 1073741824) (e := e) (by omega) (by omega)
      have h6 := Int.mul_le_mul_of_nonneg_right (show 1 ≤ fm_ab c by omega) (show 0 ≤ fm_ab f by rcases fm_ab_cases f with z | z <;> omega)
      rw [Int.one_mul] at h6
      rcases fm_ab_cases f with z | z <;> exact ⟨by omega, by omega⟩
theorem it_mod {D w : Int} {g : fm_F} {n : Nat} (hn : 0 < n) (he : fm_it D w n g = g) (j : Nat) : fm_it D w j g = fm_it D w (j % n) g := by
  have h1 : j = n * (j / n) + j % n := (Nat.div_add_mod j n).symm
  have h2 : fm_it D w (n * (j / n) + j % n) g = fm_it D w (j % n) g := by rw [fm_it_add, fm_it_mul he]
  rw [← h1] at h2
  exact h2
theorem le_rf (z : fm_F) : fm_le z z := Or.inr ⟨rfl, Int.le_refl _⟩
theorem le_tr {x y z : fm_F} (h1 : fm_le x y) (h2 : fm_le y z) : fm_le x z := by
  unfold fm_le at *
  omega
/-- how many reduced forms the class of a reduced form has -/
def fm_ct (D w : Int) (f : fm_F) (n : Int) : Prop := (D < 0 → n = 1) ∧ (¬ D < 0 → 0 < n ∧ fm_it D w n.toNat f = f ∧ ∀ j : Nat, 0 < j → (j : Int) < n → fm_it D w j f ≠ f)
theorem fm_ct.uniq {D w : Int} {f : fm_F} {n n' : Int} (h : fm_ct D w f n) (h' : fm_ct D w f n') : n = n' := by
  by_cases hD : D < 0
  · rw [h.1 hD, h'.1 hD]
  · obtain ⟨a1, a2, a3⟩ := h.2 hD
    obtain ⟨b1, b2, b3⟩ := h'.2 hD
    rcases Int.lt_trichotomy n n' with k | k | k
    · exact absurd a2 (b3 n.toNat (by omega) (by omega))
    · exact k
    · exact absurd b2 (a3 n'.toNat (by omega) (by omega))
theorem red_b30 {D w : Int} {f : fm_F} (hg : gD D w) (hd : fm_disc D f) (hr : fm_red D w f) : b30 f.1 ∧ b30 f.2.1 ∧ b30 f.2.2 := by
  obtain ⟨a, b, c⟩ := f
  obtain ⟨ho, g1, g2, g3⟩ := hg
  obtain ⟨ha0, hc0⟩ := fm_ne ho hd
  by_cases hD : D < 0
  · obtain ⟨h1, h2, h3⟩ := fm_neg_a hD g1 hd hr
    rw [fm_red_lt hD] at hr
    have hb := sq_bd (B := 591) (e := b) (by rcases fm_ab_cases b with z | z <;> omega) (by rcases fm_ab_cases b with z | z <;> omega)
    unfold fm_disc at hd
    dsimp only at hd
    have h6 := Int.mul_le_mul_of_nonneg_right (show 1 ≤ a by omega) (show 0 ≤ c by omega)
    rw [Int.one_mul] at h6
    refine ⟨⟨?_, ?_⟩, ⟨?_, ?_⟩, ⟨?_, ?_⟩⟩ <;> dsimp only <;> rcases fm_ab_cases b with z | z <;> omega
  · obtain ⟨c1, c2⟩ := fm_red_c ho hD hd hr
    rw [fm_red_ge hD] at hr
    refine ⟨⟨?_, ?_⟩, ⟨?_, ?_⟩, ⟨?_, ?_⟩⟩ <;> dsimp only <;> rcases fm_ab_cases a with z | z <;> rcases fm_ab_cases c with y | y <;> omega
