/-! The ways to a reduced form end, and soon. -/
-- ===== above 0 =====
theorem fm_win_red {D w a b c : Int} (hD : ¬ D < 0) (h1 : w - 2 * fm_ab a < b) (h2 : b ≤ w) (h3 : 2 * fm_ab a ≤ w) : fm_red D w (a, b, c) := by
  rw [fm_red_ge hD]
  exact ⟨by omega, h2, by omega, by omega⟩
theorem fm_win_next {D w a b c : Int} (h : fm_ok D w) (hD : ¬ D < 0) (hd : fm_disc D (a, b, c)) (ha : fm_ab a ≤ w) (h1 : w - 2 * fm_ab a < b) (h2 : b ≤ w) : fm_red D w (a, b, c) ∨ fm_red D w (fm_rho D w (a, b, c)) := by
  obtain ⟨w0, w1, w2⟩ := fm_ok_pos h hD
  obtain ⟨ha0, hc0⟩ := fm_ne h hd
  by_cases q : 2 * fm_ab a ≤ w
  · exact Or.inl (fm_win_red hD h1 h2 q)
  · right
    obtain ⟨-, h4⟩ := fm_opp h hd (by rcases fm_ab_cases b with k | k <;> omega)
    have hC := fm_ab_pos hc0
    have hbb := fm_sq_le (Int.le_refl 0) (show 0 ≤ fm_ab b by rcases fm_ab_cases b with k | k <;> omega)
    rw [fm_ab_sq] at hbb
    have hc : 2 * fm_ab c ≤ w := by
      rcases Int.lt_or_le w (2 * fm_ab c) with k | k
      · exfalso
        have m := Int.mul_le_mul (show w + 1 ≤ 2 * fm_ab a by omega) (show w + 1 ≤ 2 * fm_ab c by omega) (by omega) (by omega)
        have e1 : 2 * fm_ab a * (2 * fm_ab c) = 4 * (fm_ab a * fm_ab c) := by grind
        omega
      · exact k
    have tc : fm_top w c = w := by rcases fm_top_cases w c with k | k <;> omega
    obtain ⟨k, hk, k1, k2⟩ := fm_rho_ex (w := w) hc0 hd
    rw [tc] at k1 k2
    rw [hk]
    exact fm_win_red hD k1 k2 hc
theorem fm_near {D w a b c : Int} (h : fm_ok D w) (hD : ¬ D < 0) (hd : fm_disc D (a, b, c)) (hc : fm_ab c ≤ w) : ∃ i, i ≤ 2 ∧ fm_red D w (fm_it D w i (a, b, c)) := by
  obtain ⟨ha0, hc0⟩ := fm_ne h hd
  have tc : fm_top w c = w := by rcases fm_top_cases w c with k | k <;> omega
  obtain ⟨k, hk, k1, k2⟩ := fm_rho_ex (w := w) hc0 hd
  rw [tc] at k1 k2
  have hd1 := fm_rho_disc h hd
  rw [hk] at hd1
  rcases fm_win_next h hD hd1 hc k1 k2 with r | r
  · refine ⟨1, by omega, ?_⟩
    show fm_red D w (fm_rho D w (a, b, c))
    rw [hk]
    exact r
  · refine ⟨2, by omega, ?_⟩
    show fm_red D w (fm_rho D w (fm_rho D w (a, b, c)))
    rw [hk]
    exact r
theorem fm_shrink {D w a b c : Int} (h : fm_ok D w) (hD : ¬ D < 0) (hd : fm_disc D (a, b, c)) (hc : w < fm_ab c) : 4 * fm_ab (fm_rho D w (a, b, c)).2.2 ≤ fm_ab c := by
  obtain ⟨ha0, hc0⟩ := fm_ne h hd
  have hC := fm_ab_pos hc0
  have tc : fm_top w c = fm_ab c := by rcases fm_top_cases w c with k | k <;> omega
  obtain ⟨k, hk, k1, k2⟩ := fm_rho_ex (w := w) hc0 hd
  rw [tc] at k1 k2
  have hd1 := fm_rho_disc h hd
  rw [hk] at hd1 ⊢
  dsimp only
  generalize -b + 2 * c * k = e at k1 k2 hd1
  generalize a - b * k + c * (k * k) = f at hd1 ⊢
  have ho := fm_out h hc
  unfold fm_disc at hd1
  dsimp only at hd1
  have he : fm_ab e ≤ fm_ab c := by rcases fm_ab_cases e with q | q <;> omega
  have m := fm_sq_le (show 0 ≤ fm_ab e by rcases fm_ab_cases e with q | q <;> omega) he
  rw [fm_ab_sq, fm_ab_sq] at m
  have m0 := fm_sq_le (Int.le_refl 0) (show 0 ≤ fm_ab e by rcases fm_ab_cases e with q | q <;> omega)
  rw [fm_ab_sq] at m0
  have hcf : 4 * (fm_ab c * fm_ab f) ≤ fm_ab c * fm_ab c := by
    rw [← fm_ab_mul, fm_ab_sq]
    rcases fm_ab_cases (c * f) with q | q <;> omega
  have e2 : fm_ab c * (4 * fm_ab f) = 4 * (fm_ab c * fm_ab f) := by grind
  exact Int.le_of_mul_le_mul_left (by omega) hC
theorem fm_reach {D w : Int} (h : fm_ok D w) (hD : ¬ D < 0) : ∀ (n : Nat) (a b c : Int), fm_disc D (a, b, c) → fm_ab c < 4 ^ n → ∃ i, i ≤ n + 2 ∧ fm_red D w (fm_it D w i (a, b, c)) := by
  intro n
  induction n with
  | zero =>
    intro a b c hd hc
    obtain ⟨ha0, hc0⟩ := fm_ne h hd
    have := fm_ab_pos hc0
    have : (4 : Int) ^ 0 = 1 := rfl
    omega
  | succ n ih =>
    intro a b c hd hc
    by_cases q : fm_ab c ≤ w
    · obtain ⟨i, h1, h2⟩ := fm_near h hD hd q
      exact ⟨i, by omega, h2⟩
    · have hs := fm_shrink h hD hd (by omega)
      have hd1 := fm_rho_disc h hd
      have e : (4 : Int) ^ (n + 1) = 4 ^ n * 4 := Int.pow_succ 4 n
      rcases hx : fm_rho D w (a, b, c) with ⟨a', b', c'⟩
      rw [hx] at hs hd1
      dsimp only at hs
      obtain ⟨i, h1, h2⟩ := ih a' b' c' hd1 (by omega)
      refine ⟨i + 1, by omega, ?_⟩
      show fm_red D w (fm_it D w i (fm_rho D w (a, b, c)))
      rw [hx]
      exact h2
-- ===== below 0, by steps =====
theorem fm_neg_reach {D w : Int} (h : fm_ok D w) (hD : D < 0) : ∀ (n : Nat) (a b c : Int), fm_disc D (a, b, c) → 0 < a → a ≤ n → -a < b → b ≤ a → ∃ i, fm_red D w (fm_it D w i (a, b, c)) := by
  have hw := fm_ok_neg h hD
  intro n
  induction n with
  | zero => intro a b c _ h0 h1; omega
  | succ n ih =>
    intro a b c hd h0 h1 h2 h3
    obtain ⟨ha0, hc0⟩ := fm_ne h hd
    have hc1 := fm_pp h0 (fm_neg_ac hD hd)
    have hC : fm_ab c = c := by rcases fm_ab_cases c with k | k <;> omega
    have tc : fm_top w c = c := by rcases fm_top_cases w c with k | k <;> omega
    by_cases r : fm_red D w (a, b, c)
    · exact ⟨0, r⟩
    · obtain ⟨k, hk, k1, k2⟩ := fm_rho_ex (w := w) hc0 hd
      have hd1 := fm_rho_disc h hd
      rw [hk] at hd1
      rw [tc, hC] at k1
      rw [tc] at k2
      rw [fm_red_lt hD] at r
      by_cases q : c < a
      · obtain ⟨i, hi⟩ := ih c _ _ hd1 hc1 (by omega) (by omega) k2
        refine ⟨i + 1, ?_⟩
        show fm_red D w (fm_it D w i (fm_rho D w (a, b, c)))
        rw [hk]
        exact hi
      · have hca : a = c ∧ b < 0 := by
          rcases fm_ab_cases b with k | k <;> omega
        obtain ⟨rfl, hb⟩ := hca
        have r1 : fm_rho D w (a, b, a) = (a, -b + 2 * a * 0, a - b * 0 + a * (0 * 0)) := fm_rho_of (k := 0) ha0 hd (by omega) (by omega)
        refine ⟨1, ?_⟩
        show fm_red D w (fm_rho D w (a, b, a))
        rw [r1, fm_red_lt hD]
        refine ⟨?_, by omega, Or.inl (by omega)⟩
        rcases fm_ab_cases (-b + 2 * a * 0) with q | q <;> omega
theorem fm_neg_reach' {D w a b c : Int} (h : fm_ok D w) (hD : D < 0) (hd : fm_disc D (a, b, c)) (h0 : 0 < a) : ∃ i, fm_red D w (fm_it D w i (a, b, c)) := by
  have hw := fm_ok_neg h hD
  obtain ⟨ha0, hc0⟩ := fm_ne h hd
  have hc1 := fm_pp h0 (fm_neg_ac hD hd)
  have hC : fm_ab c = c := by rcases fm_ab_cases c with k | k <;> omega
  have tc : fm_top w c = c := by rcases fm_top_cases w c with k | k <;> omega
  obtain ⟨k, hk, k1, k2⟩ := fm_rho_ex (w := w) hc0 hd
  have hd1 := fm_rho_disc h hd
  rw [hk] at hd1
  rw [tc, hC] at k1
  rw [tc] at k2
  obtain ⟨i, hi⟩ := fm_neg_reach h hD c.toNat c _ _ hd1 hc1 (by omega) (by omega) k2
  refine ⟨i + 1, ?_⟩
  show fm_red D w (fm_it D w i (fm_rho D w (a, b, c)))
  rw [hk]
  exact hi
/-- every form has a reduced one ahead -/
theorem fm_ahead {D w a b c : Int} (h : fm_ok D w) (hd : fm_disc D (a, b, c)) (h0 : D < 0 → 0 < a) : ∃ i, fm_red D w (fm_it D w i (a, b, c)) := by
  by_cases hD : D < 0
  · exact fm_neg_reach' h hD hd (h0 hD)
  · have : ∃ n : Nat, fm_ab c < 4 ^ n := by
      refine ⟨(fm_ab c).toNat, ?_⟩
      have e : ∀ n : Nat, (n : Int) < 4 ^ n := by
        intro n
        induction n with
        | zero => decide
        | succ n ih =>
          rw [Int.pow_succ]
          omega
      have := e (fm_ab c).toNat
      rcases fm_ab_cases c with k | k <;> omega
    obtain ⟨n, hn⟩ := this
    obtain ⟨i, -, hi⟩ := fm_reach h hD n a b c hd hn
    exact ⟨i, hi⟩
-- ===== below 0, by turns of normal forms =====
/-- b comes above -a and up to a -/
def fm_nu (D : Int) (g : fm_F) : fm_F := (g.1, g.1 - (g.1 - g.2.1) % (2 * g.1), ((g.1 - (g.1 - g.2.1) % (2 * g.1)) * (g.1 - (g.1 - g.2.1) % (2 * g.1)) - D) / (4 * g.1))
theorem fm_nu_ex {D a b c : Int} (ha : 0 < a) (hd : fm_disc D (a, b, c)) : ∃ k : Int, fm_nu D (a, b, c) = (a, b + 2 * a * k, a * (k * k) + b * k + c) ∧ -a < b + 2 * a * k ∧ b + 2 * a * k ≤ a := by
  have h1 := Int.emod_nonneg (a - b) (show 2 * a ≠ 0 by omega)
  have h2 := Int.emod_lt_of_pos (a - b) (show 0 < 2 * a by omega)
  have h3 := Int.mul_ediv_add_emod (a - b) (2 * a)
  unfold fm_disc at hd
  dsimp only at hd
  obtain ⟨k, hk⟩ : ∃ k, k = (a - b) / (2 * a) := ⟨_, rfl⟩
  rw [← hk] at h3
  have e : a - (a - b) % (2 * a) = b + 2 * a * k := by omega
  refine ⟨k, ?_, by omega, by omega⟩
  unfold fm_nu
  dsimp only
  rw [e]
  have h4 : (b + 2 * a * k) * (b + 2 * a * k) - D = 4 * a * (a * (k * k) + b * k + c) := by grind
  rw [h4, Int.mul_ediv_cancel_left _ (show 4 * a ≠ 0 by omega)]
theorem fm_nu_ok {D w : Int} {g : fm_F} (h : fm_ok D w) (ha : 0 < g.1) (hd : fm_disc D g) : fm_disc D (fm_nu D g) ∧ fm_mg D w (fm_nu D g) g ∧ (fm_nu D g).1 = g.1 ∧ -g.1 < (fm_nu D g).2.1 ∧ (fm_nu D g).2.1 ≤ g.1 := by
  obtain ⟨a, b, c⟩ := g
  obtain ⟨k, hk, k1, k2⟩ := fm_nu_ex ha hd
  rw [hk]
  exact ⟨fm_T_disc k hd, (fm_mg_T k h hd).sy, rfl, k1, k2⟩
/-- k turns from g lead to the normal form h with a not above c -/
def fm_dw (D : Int) : Nat → fm_F → fm_F → Prop
  | 0, g, h => fm_nu D g = h ∧ h.1 ≤ h.2.2
  | k + 1, g, h => (fm_nu D g).2.2 < (fm_nu D g).1 ∧ fm_dw D k (fm_S (fm_nu D g)) h
theorem fm_dw_ok {D w : Int} (h : fm_ok D w) (hD : D < 0) : ∀ (k : Nat) (g r : fm_F), fm_disc D g → 0 < g.1 → fm_dw D k g r → fm_disc D r ∧ fm_mg D w r g ∧ 0 < r.1 ∧ -r.1 < r.2.1 ∧ r.2.1 ≤ r.1 ∧ r.1 ≤ r.2.2 := by
  intro k
  induction k with
  | zero =>
    intro g r hd ha hr
    obtain ⟨h1, h2⟩ := hr
    obtain ⟨n1, n2, n3, n4, n5⟩ := fm_nu_ok h ha hd
    rw [h1] at n1 n2 n3 n4 n5
    exact ⟨n1, n2, by omega, by omega, by omega, h2⟩
  | succ k ih =>
    intro g r hd ha hr
    obtain ⟨h1, h2⟩ := hr
    obtain ⟨n1, n2, n3, n4, n5⟩ := fm_nu_ok h ha hd
    generalize fm_nu D g = q at h1 h2 n1 n2 n3 n4 n5
    obtain ⟨a, b, c⟩ := q
    dsimp only at h1 n3 n4 n5
    have hc := fm_pp (show 0 < a by omega) (fm_neg_ac hD n1)
    obtain ⟨r1, r2, r3⟩ := ih (fm_S (a, b, c)) r (fm_S_disc n1) hc h2
    exact ⟨r1, r2.tr ((fm_mg_S h n1).sy.tr n2), r3⟩
theorem fm_nu_c {D w : Int} {g : fm_F} (h : fm_ok D w) (hD : D < 0) (hDl : -1048576 ≤ D) (ha : 1024 < g.1) (hd : fm_disc D g) : 2 * (fm_nu D g).2.2 < g.1 := by
  obtain ⟨n1, n2, n3, n4, n5⟩ := fm_nu_ok h (show 0 < g.1 by omega) hd
  generalize fm_nu D g = q at n1 n2 n3 n4 n5 ⊢
  obtain ⟨a, b, c⟩ := q
  dsimp only at n3 n4 n5 ⊢
  rw [← n3] at ha n4 n5 ⊢
  unfold fm_disc at n1
  dsimp only at n1
  have hb : fm_ab b ≤ a := by rcases fm_ab_cases b with k | k <;> omega
  have m := fm_sq_le (show 0 ≤ fm_ab b by rcases fm_ab_cases b with k | k <;> omega) hb
  rw [fm_ab_sq] at m
  have m2 := fm_sq_le (show (0 : Int) ≤ 1025 by decide) (show 1025 ≤ a by omega)
  have m3 : a * (2 * c) < a * a := by
    have : a * (2 * c) = 2 * (a * c) := by grind
    omega
  exact Int.lt_of_mul_lt_mul_left m3 (by omega)
theorem fm_dw_low {D w : Int} (h : fm_ok D w) (hD : D < 0) : ∀ (n : Nat) (g : fm_F), fm_disc D g → 0 < g.1 → g.1 ≤ n → ∃ k r, k < n ∧ fm_dw D k g r := by
  intro n
  induction n with
  | zero => intro g _ h0 h1; omega
  | succ n ih =>
    intro g hd h0 h1
    by_cases q : (fm_nu D g).1 ≤ (fm_nu D g).2.2
    · exact ⟨0, fm_nu D g, by omega, rfl, q⟩
    · obtain ⟨n1, n2, n3, n4, n5⟩ := fm_nu_ok h h0 hd
      rcases hx : fm_nu D g with ⟨a, b, c⟩
      rw [hx] at n1 n3 q
      dsimp only at n3 q
      have hc := fm_pp (show 0 < a by omega) (fm_neg_ac hD n1)
      obtain ⟨k, r, k1, k2⟩ := ih (fm_S (a, b, c)) (fm_S_disc n1) hc (show c ≤ n by omega)
      refine ⟨k + 1, r, by omega, ?_, ?_⟩
      · rw [hx]; show c < a; omega
      · rw [hx]; exact k2
theorem fm_dw_ex {D w : Int} (h : fm_ok D w) (hD : D < 0) (hDl : -1048576 ≤ D) : ∀ (n : Nat) (g : fm_F), fm_disc D g → 0 < g.1 → g.1 ≤ 1024 * 2 ^ n → ∃ k r, k < n + 1024 ∧ fm_dw D k g r := by
  intro n
  induction n with
  | zero =>
    intro g hd h0 h1
    obtain ⟨k, r, k1, k2⟩ := fm_dw_low h hD 1024 g hd h0 (by simpa using h1)
    exact ⟨k, r, by omega, k2⟩
  | succ n ih =>
    intro g hd h0 h1
    by_cases q : g.1 ≤ 1024
    · obtain ⟨k, r, k1, k2⟩ := fm_dw_low h hD 1024 g hd h0 q
      exact ⟨k, r, by omega, k2⟩
    · have hh := fm_nu_c h hD hDl (show 1024 < g.1 by omega) hd
      obtain ⟨n1, n2, n3, n4, n5⟩ := fm_nu_ok h h0 hd
      have e : (2 : Int) ^ (n + 1) = 2 ^ n * 2 := Int.pow_succ 2 n
      rcases hx : fm_nu D g with ⟨a, b, c⟩
      rw [hx] at n1 n3 hh
      dsimp only at n3 hh
      have hc := fm_pp (show 0 < a by omega) (fm_neg_ac hD n1)
      obtain ⟨k, r, k1, k2⟩ := ih (fm_S (a, b, c)) (fm_S_disc n1) hc (show c ≤ 1024 * 2 ^ n by omega)
      refine ⟨k + 1, r, by omega, ?_, ?_⟩
      · rw [hx]; show c < a; omega
      · rw [hx]; exact k2
/-- the last turn of the sign: a reduced form of the class -/
theorem fm_dw_red {D w : Int} {g r : fm_F} {k : Nat} (h : fm_ok D w) (hD : D < 0) (hd : fm_disc D g) (h0 : 0 < g.1) (hr : fm_dw D k g r) : fm_nm D w (if r.1 = r.2.2 ∧ r.2.1 < 0 then (r.1, -r.2.1, r.2.2) else r) g := by
  obtain ⟨r1, r2, r3, r4, r5, r6⟩ := fm_dw_ok h hD k g r hd h0 hr
  obtain ⟨a, b, c⟩ := r
  dsimp only at r3 r4 r5 r6 ⊢
  split
  · rename_i q
    obtain ⟨rfl, hb⟩ := q
    refine fm_nm_neg h hD (fm_inv_disc r1) ?_ ((fm_mg_S h r1).sy.tr r2)
    rw [fm_red_lt hD]
    exact ⟨by rcases fm_ab_cases (-b) with k | k <;> omega, Int.le_refl _, Or.inl (by omega)⟩
  · rename_i q
    refine fm_nm_neg h hD r1 ?_ r2
    rw [fm_red_lt hD]
    exact ⟨by rcases fm_ab_cases b with k | k <;> omega, r6, by omega⟩
