/-! What Euclid's way and the product need of numbers. -/
/-- Euclid's way, k steps from its end at most: common, left, right, and the next ones -/
def eI (p q : Int) (k : Nat) (c l r nc nl nr : Int) : Prop :=
  l * p + r * q = c ∧ nl * p + nr * q = nc ∧ (∀ d : Int, d ∣ c → d ∣ nc → d ∣ p ∧ d ∣ q) ∧ (b30 c ∧ b30 nc) ∧
  (((0 ≤ l * nc ∧ nl * c ≤ 0) ∨ (l * nc ≤ 0 ∧ 0 ≤ nl * c)) ∧ (l * nc - nl * c = q ∨ l * nc - nl * c = -q)) ∧
  (((0 ≤ r * nc ∧ nr * c ≤ 0) ∨ (r * nc ≤ 0 ∧ 0 ≤ nr * c)) ∧ (r * nc - nr * c = p ∨ r * nc - nr * c = -p)) ∧
  (fm_ab l ≤ fm_ab q + 1 ∧ fm_ab r ≤ fm_ab p + 1) ∧ (c ≠ 0 ∨ (fm_ab nl ≤ 1 ∧ fm_ab nr ≤ 1)) ∧
  ((fm_ab nc ≤ fm_ab c ∧ fm_ab c * fm_ab nc < 2 ^ k) ∨ (fm_ab c < fm_ab nc ∧ ∃ k', k = k' + 1 ∧ fm_ab c * fm_ab nc < 2 ^ k'))
theorem eI_0 {p q : Int} (hp : b30 p) (hq : b30 q) : eI p q 62 p 1 0 q 0 1 := by
  have a1 := hp.ab
  have a2 := hq.ab
  have m := Int.mul_le_mul a1.2 a2.2 a2.1 (by decide)
  refine ⟨by omega, by omega, fun d h1 h2 => ⟨h1, h2⟩, ⟨hp, hq⟩, ⟨?_, ?_⟩, ⟨?_, ?_⟩, ⟨?_, ?_⟩, ?_, ?_⟩
  · rcases Int.le_total 0 q with z | z
    · left; omega
    · right; omega
  · left; omega
  · rcases Int.le_total 0 p with z | z
    · right; omega
    · left; omega
  · right; omega
  · have : fm_ab 1 = 1 := rfl
    omega
  · have : fm_ab 0 = 0 := rfl
    omega
  · right
    exact ⟨by decide, by decide⟩
  · rcases Int.lt_or_le (fm_ab p) (fm_ab q) with z | z
    · right
      exact ⟨z, 61, rfl, by have : (2 : Int) ^ 61 = 2305843009213693952 := by decide
                            omega⟩
    · left
      exact ⟨z, by have : (2 : Int) ^ 62 = 4611686018427387904 := by decide
                   omega⟩
theorem ab_mul_lt {x y B : Int} (hy : y ≠ 0) (h1 : -B ≤ x * y) (h2 : x * y ≤ B) : fm_ab x ≤ B := by
  have h3 := fm_ab_mul x y
  have h4 := fm_ab_pos hy
  have h5 : 0 ≤ fm_ab x := by rcases fm_ab_cases x with k | k <;> omega
  have h6 := Int.mul_le_mul_of_nonneg_left (show 1 ≤ fm_ab y by omega) h5
  rw [Int.mul_one] at h6
  rcases fm_ab_cases (x * y) with k | k <;> omega
/-- remainders of Java's: the sign of the dividend, smaller than the divisor -/
theorem tm_facts (c : Int) {n : Int} (hn : n ≠ 0) : fm_ab (c - c.tdiv n * n) < fm_ab n ∧ (0 ≤ c → 0 ≤ c - c.tdiv n * n ∧ 0 ≤ c.tdiv n * n) ∧ (c ≤ 0 → c - c.tdiv n * n ≤ 0 ∧ c.tdiv n * n ≤ 0) := by
  have e : c - c.tdiv n * n = c.tmod n := by
    have := Int.mul_tdiv_add_tmod c n
    have e2 : c.tdiv n * n = n * c.tdiv n := Int.mul_comm _ _
    omega
  have hab : fm_ab n = n.natAbs := by rcases fm_ab_cases n with k | k <;> omega
  have hnp := fm_ab_pos hn
  have key : ∀ c : Int, 0 ≤ c → 0 ≤ c.tmod n ∧ c.tmod n < fm_ab n ∧ c.tmod n ≤ c := by
    intro c hc
    have h1 := Int.tmod_nonneg n hc
    rw [Int.tmod_eq_emod_of_nonneg hc] at h1 ⊢
    have h2 := Int.emod_lt c hn
    refine ⟨h1, by omega, ?_⟩
    rcases Int.lt_or_le c (fm_ab n) with z | z
    · have : c % n = c := by
        rcases fm_ab_cases n with k | k
        · exact Int.emod_eq_of_lt hc (by omega)
        · rw [← Int.emod_neg]
          exact Int.emod_eq_of_lt hc (by omega)
      omega
    · omega
  rw [e]
  rcases Int.le_total 0 c with z | z
  · obtain ⟨k1, k2, k3⟩ := key c z
    refine ⟨by rcases fm_ab_cases (c.tmod n) with y | y <;> omega, fun _ => ⟨k1, by omega⟩, fun h => ?_⟩
    have : c = 0 := by omega
    subst this
    have e0 : (0 : Int).tmod n = 0 := Int.zero_tmod n
    omega
  · obtain ⟨k1, k2, k3⟩ := key (-c) (by omega)
    rw [Int.neg_tmod] at k1 k2 k3
    refine ⟨by rcases fm_ab_cases (c.tmod n) with y | y <;> omega, fun h => ?_, fun _ => ⟨by omega, by omega⟩⟩
    have : c = 0 := by omega
    subst this
    have e0 : (0 : Int).tmod n = 0 := Int.zero_tmod n
    omega
theorem sg_step {l nl c nc n1 t : Int} (h : (0 ≤ l * nc ∧ nl * c ≤ 0) ∨ (l * nc ≤ 0 ∧ 0 ≤ nl * c)) (f1 : 0 ≤ c → 0 ≤ n1 ∧ 0 ≤ t * nc) (f2 : c ≤ 0 → n1 ≤ 0 ∧ t * nc ≤ 0) : (0 ≤ nl * n1 ∧ (l - t * nl) * nc ≤ 0) ∨ (nl * n1 ≤ 0 ∧ 0 ≤ (l - t * nl) * nc) := by
  have e : (l - t * nl) * nc = l * nc - nl * (t * nc) := by grind
  rw [e]
  rcases Int.lt_trichotomy c 0 with k | k | k
  · obtain ⟨g1, g2⟩ := f2 (by omega)
    rcases h with ⟨h1, h2⟩ | ⟨h1, h2⟩
    · have hnl : 0 ≤ nl := by
        rcases Int.lt_or_le nl 0 with z | z
        · have := Int.mul_pos_of_neg_of_neg z k; omega
        · exact z
      right
      exact ⟨Int.mul_nonpos_of_nonneg_of_nonpos hnl g1, by have := Int.mul_nonpos_of_nonneg_of_nonpos hnl g2; omega⟩
    · have hnl : nl ≤ 0 := by
        rcases Int.lt_or_le 0 nl with z | z
        · have := Int.mul_neg_of_pos_of_neg z k; omega
        · exact z
      left
      exact ⟨Int.mul_nonneg_of_nonpos_of_nonpos hnl g1, by have := Int.mul_nonneg_of_nonpos_of_nonpos hnl g2; omega⟩
  · subst k
    obtain ⟨g1, g2⟩ := f1 (Int.le_refl 0)
    obtain ⟨g3, g4⟩ := f2 (Int.le_refl 0)
    have z1 : n1 = 0 := by omega
    have z2 : t * nc = 0 := by omega
    rw [z1, z2, Int.mul_zero]
    rcases h with ⟨h1, h2⟩ | ⟨h1, h2⟩
    · right; omega
    · left; omega
  · obtain ⟨g1, g2⟩ := f1 (by omega)
    rcases h with ⟨h1, h2⟩ | ⟨h1, h2⟩
    · have hnl : nl ≤ 0 := by
        rcases Int.lt_or_le 0 nl with z | z
        · have := Int.mul_pos z k; omega
        · exact z
      right
      exact ⟨Int.mul_nonpos_of_nonpos_of_nonneg hnl g1, by have := Int.mul_nonpos_of_nonpos_of_nonneg hnl g2; omega⟩
    · have hnl : 0 ≤ nl := by
        rcases Int.lt_or_le nl 0 with z | z
        · have := Int.mul_neg_of_neg_of_pos z k; omega
        · exact z
      left
      exact ⟨Int.mul_nonneg hnl g1, by have := Int.mul_nonneg hnl g2; omega⟩
theorem sg_bd {l nl c nc q : Int} (h : (0 ≤ l * nc ∧ nl * c ≤ 0) ∨ (l * nc ≤ 0 ∧ 0 ≤ nl * c)) (h7 : l * nc - nl * c = q ∨ l * nc - nl * c = -q) (h12 : c ≠ 0 ∨ fm_ab nl ≤ 1) : fm_ab nl ≤ fm_ab q + 1 := by
  rcases h12 with z | z
  · have := ab_mul_lt (x := nl) (y := c) (B := fm_ab q) z (by rcases fm_ab_cases q with y | y <;> omega) (by rcases fm_ab_cases q with y | y <;> omega)
    omega
  · have : 0 ≤ fm_ab q := by rcases fm_ab_cases q with y | y <;> omega
    omega
theorem eI_s {p q : Int} {k : Nat} {c l r nc nl nr : Int} (h : eI p q k c l r nc nl nr) (hn : nc ≠ 0) : ∃ k', k = k' + 1 ∧ eI p q k' nc nl nr (c - c.tdiv nc * nc) (l - c.tdiv nc * nl) (r - c.tdiv nc * nr) := by
  obtain ⟨h1, h2, h3, ⟨h4, h5⟩, ⟨h6, h7⟩, ⟨h8, h9⟩, ⟨h10, h11⟩, h12, h13⟩ := h
  obtain ⟨t1, t2, t3⟩ := tm_facts c hn
  have hN := fm_ab_pos hn
  have hn1 : 0 ≤ fm_ab (c - c.tdiv nc * nc) := by rcases fm_ab_cases (c - c.tdiv nc * nc) with z | z <;> omega
  have hfuel : ∃ k', k = k' + 1 ∧ (fm_ab nc * fm_ab (c - c.tdiv nc * nc) < 2 ^ k') := by
    rcases h13 with ⟨g1, g2⟩ | ⟨g1, k', rfl, g2⟩
    · have hc : c ≠ 0 := by
        intro z
        have : fm_ab c = 0 := by rw [z]; rfl
        omega
      have hC := fm_ab_pos hc
      have hk : k ≠ 0 := by
        intro z
        subst z
        have e : (2 : Int) ^ 0 = 1 := rfl
        have := Int.mul_le_mul (show 1 ≤ fm_ab c by omega) (show 1 ≤ fm_ab nc by omega) (by decide) (by omega)
        omega
      obtain ⟨k', rfl⟩ : ∃ k', k = k' + 1 := ⟨k - 1, by omega⟩
      refine ⟨k', rfl, ?_⟩
      have e : (2 : Int) ^ (k' + 1) = 2 ^ k' * 2 := Int.pow_succ 2 k'
      -- |c| is not below |nc| + |n1|
      have hsum : 2 * fm_ab (c - c.tdiv nc * nc) ≤ fm_ab c := by
        have hq : c.tdiv nc * nc ≠ 0 := by
          intro z
          rw [z, Int.sub_zero] at t1
          omega
        have hq2 : c.tdiv nc ≠ 0 := by
          intro z
          rw [z, Int.zero_mul] at hq
          exact hq rfl
        have hm := fm_ab_mul (c.tdiv nc) nc
        have hqp := fm_ab_pos hq2
        have h7 := Int.mul_le_mul_of_nonneg_right (show 1 ≤ fm_ab (c.tdiv nc) by omega) (show 0 ≤ fm_ab nc by omega)
        rw [Int.one_mul] at h7
        rcases Int.le_total 0 c with z | z
        · obtain ⟨s1, s2⟩ := t2 z
          rcases fm_ab_cases c with y | y <;> rcases fm_ab_cases (c - c.tdiv nc * nc) with x | x <;> rcases fm_ab_cases (c.tdiv nc * nc) with v | v <;> omega
        · obtain ⟨s1, s2⟩ := t3 z
          rcases fm_ab_cases c with y | y <;> rcases fm_ab_cases (c - c.tdiv nc * nc) with x | x <;> rcases fm_ab_cases (c.tdiv nc * nc) with v | v <;> omega
      have hm := Int.mul_le_mul_of_nonneg_left hsum (show 0 ≤ fm_ab nc by omega)
      have e2 : fm_ab nc * (2 * fm_ab (c - c.tdiv nc * nc)) = 2 * (fm_ab nc * fm_ab (c - c.tdiv nc * nc)) := by grind
      have e3 : fm_ab nc * fm_ab c = fm_ab c * fm_ab nc := Int.mul_comm _ _
      omega
    · refine ⟨k', rfl, ?_⟩
      have hle : fm_ab (c - c.tdiv nc * nc) ≤ fm_ab c := by
        rcases Int.le_total 0 c with z | z
        · obtain ⟨s1, s2⟩ := t2 z
          rcases fm_ab_cases c with y | y <;> rcases fm_ab_cases (c - c.tdiv nc * nc) with x | x <;> omega
        · obtain ⟨s1, s2⟩ := t3 z
          rcases fm_ab_cases c with y | y <;> rcases fm_ab_cases (c - c.tdiv nc * nc) with x | x <;> omega
      have hm := Int.mul_le_mul_of_nonneg_left hle (show 0 ≤ fm_ab nc by omega)
      have e3 : fm_ab nc * fm_ab c = fm_ab c * fm_ab nc := Int.mul_comm _ _
      omega
  obtain ⟨k', rfl, hf⟩ := hfuel
  refine ⟨k', rfl, h2, ?_, ?_, ⟨h5, ?_⟩, ⟨sg_step h6 t2 t3, ?_⟩, ⟨sg_step h8 t2 t3, ?_⟩, ⟨?_, ?_⟩, Or.inl hn, Or.inl ⟨by omega, hf⟩⟩
  · rw [← h1, ← h2]
    generalize (l * p + r * q).tdiv (nl * p + nr * q) = t
    grind
  · intro d d1 d2
    refine h3 d ?_ d1
    have e : c = (c - c.tdiv nc * nc) + c.tdiv nc * nc := by omega
    rw [e]
    exact Int.dvd_add d2 (Int.dvd_trans d1 (Int.dvd_mul_left _ _))
  · have := h5.ab
    rcases fm_ab_cases (c - c.tdiv nc * nc) with z | z <;> exact ⟨by omega, by omega⟩
  · have e : nl * (c - c.tdiv nc * nc) - (l - c.tdiv nc * nl) * nc = -(l * nc - nl * c) := by grind
    rw [e]
    rcases h7 with z | z
    · right; rw [z]
    · left; rw [z, Int.neg_neg]
  · have e : nr * (c - c.tdiv nc * nc) - (r - c.tdiv nc * nr) * nc = -(r * nc - nr * c) := by grind
    rw [e]
    rcases h9 with z | z
    · right; rw [z]
    · left; rw [z, Int.neg_neg]
  · exact sg_bd h6 h7 (h12.imp_right (fun z => z.1))
  · exact sg_bd h8 h9 (h12.imp_right (fun z => z.2))
/-- what Euclid's way leaves -/
def eP (p q g x y : Int) : Prop := x * p + y * q = g ∧ 0 ≤ g ∧ g ∣ p ∧ g ∣ q ∧ b30 g ∧ fm_ab x ≤ fm_ab q + 1 ∧ fm_ab y ≤ fm_ab p + 1
theorem eI_e {p q : Int} {k : Nat} {c l r nl nr : Int} (h : eI p q k c l r 0 nl nr) : (¬ c < 0 → eP p q c l r) ∧ (c < 0 → eP p q (-c) (-l) (-r)) := by
  obtain ⟨h1, h2, h3, ⟨h4, h5⟩, -, -, ⟨h10, h11⟩, h12, h13⟩ := h
  obtain ⟨d1, d2⟩ := h3 c (Int.dvd_refl c) (Int.dvd_zero c)
  refine ⟨fun z => ⟨h1, by omega, d1, d2, h4, h10, h11⟩, fun z => ⟨by rw [← h1]; grind, by omega, Int.neg_dvd.mpr d1, Int.neg_dvd.mpr d2, ⟨by have := h4.2; omega, by have := h4.1; omega⟩, by rw [fm_ab_neg]; exact h10, by rw [fm_ab_neg]; exact h11⟩⟩
