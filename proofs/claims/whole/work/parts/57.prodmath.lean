/-! The product as the class works it out. -/
theorem pr_rho {D w : Int} {g : fm_F} (h : fm_ok D w) (hd : fm_disc D g) : fm_pr g ↔ fm_pr (fm_rho D w g) := by
  obtain ⟨a, b, c⟩ := g
  obtain ⟨k, hk, -, -⟩ := fm_rho_ex (w := w) (fm_ne h hd).2 hd
  rw [hk]
  constructor
  · rintro ⟨i, j, l, e⟩
    dsimp only at e
    refine ⟨l - i * (k * k) + 2 * k * (i * k + j), -(i * k + j), i, ?_⟩
    dsimp only
    rw [← e]
    grind
  · rintro ⟨i, j, l, e⟩
    dsimp only at e
    refine ⟨l, -j - l * k, i + 2 * j * k + l * (k * k), ?_⟩
    dsimp only
    rw [← e]
    grind
theorem pr_it {D w : Int} (h : fm_ok D w) (n : Nat) {g : fm_F} (hd : fm_disc D g) : fm_pr g ↔ fm_pr (fm_it D w n g) := by
  induction n generalizing g with
  | zero => exact Iff.rfl
  | succ n ih => exact (pr_rho h hd).trans (ih (fm_rho_disc h hd))
theorem pr_mg {D w : Int} {f g : fm_F} (h : fm_ok D w) (hf : fm_disc D f) (hg : fm_disc D g) (hm : fm_mg D w f g) : fm_pr f ↔ fm_pr g := by
  obtain ⟨i, j, e⟩ := hm
  rw [pr_it h i hf, e, ← pr_it h j hg]
/-- a reduced form of the class of a form that can be taken can be taken -/
theorem v_mg {D w : Int} {f u : fm_F} (h : fm_ok D w) (hf : fm_v D f) (hd : fm_disc D u) (hr : fm_red D w u) (hm : fm_mg D w u f) : fm_v D u := by
  refine ⟨hd, (pr_mg h hd hf.1 hm).mpr hf.2.1, fun hD => ?_⟩
  obtain ⟨a, b, c⟩ := u
  obtain ⟨ha, -⟩ := fm_ne h hd
  rw [fm_red_lt hD] at hr
  show 0 < a
  rcases fm_ab_cases b with z | z <;> omega
theorem red_1023 {D w : Int} {a b c : Int} (hg : gD D w) (hd : fm_disc D (a, b, c)) (hr : fm_red D w (a, b, c)) : fm_ab a ≤ 1023 ∧ fm_ab b ≤ 1023 := by
  obtain ⟨ho, g1, g2, g3⟩ := hg
  by_cases hD : D < 0
  · obtain ⟨h1, h2, h3⟩ := fm_neg_a hD g1 hd hr
    rcases fm_ab_cases a with z | z <;> exact ⟨by omega, by omega⟩
  · rw [fm_red_ge hD] at hr
    rcases fm_ab_cases a with z | z <;> rcases fm_ab_cases b with y | y <;> exact ⟨by omega, by omega⟩
theorem td_2 {x S : Int} (h : 2 * S = x) : x.tdiv 2 = S := by rw [← h]; exact Int.mul_tdiv_cancel_left S (by decide)
theorem td_e {x y e : Int} (h : x = e * y) (he : e ≠ 0) : x.tdiv e = y := by rw [h]; exact Int.mul_tdiv_cancel_left y he
theorem ab_prod {x y X Y : Int} (hx : fm_ab x ≤ X) (hy : fm_ab y ≤ Y) : fm_ab (x * y) ≤ X * Y := by
  rw [fm_ab_mul]
  have h1 : 0 ≤ fm_ab x := by rcases fm_ab_cases x with z | z <;> omega
  have h2 : 0 ≤ fm_ab y := by rcases fm_ab_cases y with z | z <;> omega
  exact Int.mul_le_mul hx hy h2 (by omega)
theorem ab_add {x y X Y : Int} (hx : fm_ab x ≤ X) (hy : fm_ab y ≤ Y) : fm_ab (x + y) ≤ X + Y := by
  rcases fm_ab_cases x with z | z <;> rcases fm_ab_cases y with v | v <;> rcases fm_ab_cases (x + y) with t | t <;> omega
theorem ab_range {x B : Int} (h : fm_ab x ≤ B) : -B ≤ x ∧ x ≤ B := by
  rcases fm_ab_cases x with z | z <;> omega
theorem halves {D s n a b c a' b' c' : Int} (hs : fm_sn D s n) (hf : fm_disc D (a, b, c)) (hg : fm_disc D (a', b', c')) : ∃ S T : Int, 2 * S = b + b' ∧ 2 * T = b * b' + D := by
  obtain ⟨hb, -⟩ := fm_half hs hf
  obtain ⟨hb', -⟩ := fm_half hs hg
  generalize fm_B s (a, b, c) = B at hb
  generalize fm_B s (a', b', c') = B' at hb'
  have hs2 : s * s = s := by rcases hs.1 with h | h <;> rw [h] <;> decide
  exact ⟨B + B' + s, 2 * (n + B * B') + s * (B + B' + s), by omega, (fm_TT hb hb' hs.2 hs2).mpr rfl⟩
theorem mul_core {D w s n a b c a' b' c' g1 x y e u v S T : Int} (hg : gD D w) (hs : fm_sn D s n) (hf : fm_v D (a, b, c)) (hh : fm_v D (a', b', c')) (ka : fm_ab a ≤ 1023) (kb : fm_ab b ≤ 1023) (ka' : fm_ab a' ≤ 1023) (kb' : fm_ab b' ≤ 1023) (E1 : eP a a' g1 x y) (E2 : eP g1 S e u v) (hS : 2 * S = b + b') (hT : 2 * T = b * b' + D) :
    0 < e ∧ e ≤ 1023 ∧ jL (u * (x * a * b' + y * a' * b) + v * T) ∧ ∃ a1 a1' M : Int, a.tdiv e = a1 ∧ a'.tdiv e = a1' ∧ (u * (x * a * b' + y * a' * b) + v * T).tdiv e = M ∧ jL M ∧ a1 * a1' ≠ 0 ∧ fm_ab (a1 * a1') ≤ 1046529 ∧
      fm_v D (a1 * a1', M % (2 * fm_ab (a1 * a1')), (M % (2 * fm_ab (a1 * a1')) * (M % (2 * fm_ab (a1 * a1'))) - D).tdiv (4 * (a1 * a1'))) ∧ fm_cp s n (a, b, c) (a', b', c') (a1 * a1', M % (2 * fm_ab (a1 * a1')), (M % (2 * fm_ab (a1 * a1')) * (M % (2 * fm_ab (a1 * a1'))) - D).tdiv (4 * (a1 * a1'))) := by
  obtain ⟨p1, p2, p3, p4, p5, p6, p7⟩ := E1
  obtain ⟨q1, q2, q3, q4, q5, q6, q7⟩ := E2
  obtain ⟨ha0, -⟩ := fm_ne hg.1 hf.1
  obtain ⟨ha0', -⟩ := fm_ne hg.1 hh.1
  have hg1 : g1 ≠ 0 := by
    intro z
    rw [z] at p3
    exact ha0 (Int.zero_dvd.mp p3)
  have he0 : e ≠ 0 := by
    intro z
    rw [z] at q3
    exact hg1 (Int.zero_dvd.mp q3)
  have hg1b : g1 ≤ 1023 := by
    have := Int.le_of_dvd (fm_ab_pos ha0) (show g1 ∣ fm_ab a by rcases fm_ab_cases a with z | z <;> rw [z.2]; exact p3; exact Int.dvd_neg.mpr p3)
    omega
  have heb : e ≤ 1023 := by
    have := Int.le_of_dvd (show 0 < g1 by omega) q3
    omega
  have he : (u * x) * a + (u * y) * a' + v * S = e := by rw [← q1, ← p1]; grind
  obtain ⟨a1, a1', T', M, Cx, h1, h2, h3, h4, h5⟩ := fm_formula_ex hg.1 hs hf hh hS he0 (Int.dvd_trans q3 p3) (Int.dvd_trans q3 p4) q4 he
  have hTT : T' = T := by omega
  subst hTT
  obtain ⟨S1, h6⟩ := q4
  have hsum : u * (x * a * b' + y * a' * b) + v * T' = e * M := by
    rw [← h4]
    grind
  have hA0 : a1 * a1' ≠ 0 := by
    intro z
    rcases Int.mul_eq_zero.mp z with q | q
    · rw [q, Int.mul_zero] at h1; exact ha0 h1
    · rw [q, Int.mul_zero] at h2; exact ha0' h2
  have hab1 : ∀ {t t1 : Int}, t = e * t1 → fm_ab t ≤ 1023 → fm_ab t1 ≤ 1023 := by
    intro t t1 ht hb
    have := fm_ab_mul e t1
    rw [← ht] at this
    have he1 : 1 ≤ fm_ab e := by have := fm_ab_pos he0; omega
    have ht1 : 0 ≤ fm_ab t1 := by rcases fm_ab_cases t1 with z | z <;> omega
    have := Int.mul_le_mul_of_nonneg_right he1 ht1
    omega
  have hAb := ab_prod (hab1 h1 ka) (hab1 h2 ka')
  -- sizes
  have hSb : fm_ab S ≤ 1023 := by rcases fm_ab_cases S with z | z <;> rcases fm_ab_cases b with z1 | z1 <;> rcases fm_ab_cases b' with z2 | z2 <;> omega
  have hbb := ab_prod kb kb'
  have hTb : fm_ab T' ≤ 1048576 := by
    have := hg.2.1
    have := hg.2.2.1
    rcases fm_ab_cases T' with z | z <;> rcases fm_ab_cases (b * b') with z1 | z1 <;> omega
  have hg1a : fm_ab g1 ≤ 1023 := by rcases fm_ab_cases g1 with z | z <;> omega
  have s1 := ab_prod (ab_prod (show fm_ab x ≤ 1024 by omega) ka) kb'
  have s2 := ab_prod (ab_prod (show fm_ab y ≤ 1024 by omega) ka') kb
  have s3 := ab_prod (show fm_ab u ≤ 1024 by omega) (ab_add s1 s2)
  have s4 := ab_prod (show fm_ab v ≤ 1024 by omega) hTb
  have s5 := ab_range (ab_add s3 s4)
  have hjs : jL (u * (x * a * b' + y * a' * b) + v * T') := ⟨by omega, by omega⟩
  have hjM : jL M := by
    have m1 := fm_ab_mul e M
    rw [← hsum] at m1
    have he1 : 1 ≤ fm_ab e := by have := fm_ab_pos he0; omega
    have hM1 : 0 ≤ fm_ab M := by rcases fm_ab_cases M with z | z <;> omega
    have := Int.mul_le_mul_of_nonneg_right he1 hM1
    rcases fm_ab_cases M with z | z <;> rcases fm_ab_cases (u * (x * a * b' + y * a' * b) + v * T') with z1 | z1 <;> exact ⟨by omega, by omega⟩
  refine ⟨by omega, heb, hjs, a1, a1', M, td_e h1 he0, td_e h2 he0, td_e hsum he0, hjM, hA0, by omega, ?_⟩
  -- the middle by its remainder
  obtain ⟨k, hk⟩ : ∃ k : Int, M % (2 * fm_ab (a1 * a1')) = M + 2 * (a1 * a1') * k := by
    have hm := Int.mul_ediv_add_emod M (2 * fm_ab (a1 * a1'))
    rcases fm_ab_cases (a1 * a1') with ⟨-, z⟩ | ⟨-, z⟩
    · refine ⟨-(M / (2 * fm_ab (a1 * a1'))), ?_⟩
      rw [z] at hm ⊢
      have : 2 * (a1 * a1') * -(M / (2 * (a1 * a1'))) = -(2 * (a1 * a1') * (M / (2 * (a1 * a1')))) := Int.mul_neg _ _
      omega
    · refine ⟨M / (2 * fm_ab (a1 * a1')), ?_⟩
      rw [z] at hm ⊢
      have : 2 * -(a1 * a1') * (M / (2 * -(a1 * a1'))) = -(2 * (a1 * a1') * (M / (2 * -(a1 * a1')))) := by rw [Int.mul_neg, Int.neg_mul]
      omega
  obtain ⟨C, hC⟩ := h5 k
  have hc : ((M + 2 * (a1 * a1') * k) * (M + 2 * (a1 * a1') * k) - D).tdiv (4 * (a1 * a1')) = C := by
    refine td_e ?_ (by omega)
    unfold fm_disc at hC
    dsimp only at hC
    have : 4 * (a1 * a1') * C = 4 * (a1 * a1' * C) := Int.mul_assoc _ _ _
    omega
  rw [hk, hc]
  exact fm_formula hg.1 hs hf hh hS he0 h1 h2 h6 he h3 h4 hC
theorem q_bd {D A B C : Int} (hd : fm_disc D (A, B, C)) (hA : A ≠ 0) (hAb : fm_ab A ≤ 1046529) (h0 : 0 ≤ B) (h1 : B < 2 * fm_ab A) (d1 : -1048576 ≤ D) (d2 : D ≤ 1048576) : b30 C := by
  unfold fm_disc at hd
  dsimp only at hd
  have hp := fm_ab_pos hA
  have hm := fm_ab_mul A C
  have hC : 0 ≤ fm_ab C := by rcases fm_ab_cases C with z | z <;> omega
  have s1 := fm_sq_le h0 (show B ≤ 2 * fm_ab A by omega)
  have s0 := fm_sq_le (Int.le_refl 0) h0
  have e1 : 2 * fm_ab A * (2 * fm_ab A) = 4 * (fm_ab A * fm_ab A) := by grind
  have s2 : fm_ab A * fm_ab C ≤ fm_ab A * (fm_ab A + 262144) := by
    have e2 : fm_ab A * (fm_ab A + 262144) = fm_ab A * fm_ab A + fm_ab A * 262144 := Int.mul_add _ _ _
    rcases fm_ab_cases (A * C) with z | z <;> omega
  have s3 := Int.le_of_mul_le_mul_left s2 hp
  rcases fm_ab_cases C with z | z <;> exact ⟨by omega, by omega⟩
