section
/-! Forms (a, b, c) of one discriminant D; w is the whole part of D's root (-1 for D below 0). One step 'fm_rho' goes to the neighbour that begins with c. Two forms MERGE if their ways of steps come together. Here: a form merges with (c, -b, a), and with every (a, b + 2 a k, ..), so with all forms of its class. -/
abbrev fm_F : Type := Int × Int × Int
def fm_ab (x : Int) : Int := if x < 0 then -x else x
theorem fm_ab_cases (x : Int) : (0 ≤ x ∧ fm_ab x = x) ∨ (x < 0 ∧ fm_ab x = -x) := by
  unfold fm_ab
  split
  · exact Or.inr ⟨by omega, rfl⟩
  · exact Or.inl ⟨by omega, rfl⟩
theorem fm_ab_neg (x : Int) : fm_ab (-x) = fm_ab x := by
  rcases fm_ab_cases x with h | h <;> rcases fm_ab_cases (-x) with k | k <;> omega
theorem fm_ab_pos {x : Int} (h : x ≠ 0) : 0 < fm_ab x := by
  rcases fm_ab_cases x with k | k <;> omega
/-- what D and w have to do with each other -/
def fm_ok (D w : Int) : Prop := (D < 0 ∧ w = -1) ∨ (0 ≤ w ∧ w * w < D ∧ D < (w + 1) * (w + 1))
theorem fm_sq_le {x y : Int} (h0 : 0 ≤ x) (h : x ≤ y) : x * x ≤ y * y := Int.mul_le_mul h h h0 (by omega)
theorem fm_ab_sq (x : Int) : fm_ab x * fm_ab x = x * x := by
  rcases fm_ab_cases x with ⟨-, h⟩ | ⟨-, h⟩ <;> rw [h]
  rw [Int.neg_mul_neg]
theorem fm_in {D w x : Int} (h : fm_ok D w) (hx : fm_ab x ≤ w) : x * x < D := by
  have h0 : 0 ≤ fm_ab x := by rcases fm_ab_cases x with k | k <;> omega
  rcases h with ⟨h1, h2⟩ | ⟨h1, h2, h3⟩
  · omega
  · have := fm_sq_le h0 hx
    rw [fm_ab_sq] at this
    omega
theorem fm_out {D w x : Int} (h : fm_ok D w) (hx : w < fm_ab x) : D < x * x := by
  have h0 : 0 ≤ fm_ab x := by rcases fm_ab_cases x with k | k <;> omega
  rcases h with ⟨h1, h2⟩ | ⟨h1, h2, h3⟩
  · have := fm_sq_le (Int.le_refl 0) h0
    rw [fm_ab_sq] at this
    omega
  · have := fm_sq_le (x := w + 1) (y := fm_ab x) (by omega) (by omega)
    rw [fm_ab_sq] at this
    omega
theorem fm_in_of {D w x : Int} (h : fm_ok D w) (hx : x * x < D) : fm_ab x ≤ w := by
  rcases Int.lt_or_le w (fm_ab x) with k | k
  · have := fm_out h k; omega
  · exact k
theorem fm_out_of {D w x : Int} (h : fm_ok D w) (hx : D < x * x) : w < fm_ab x := by
  rcases Int.lt_or_le w (fm_ab x) with k | k
  · exact k
  · have := fm_in h k; omega
theorem fm_nsq {D w : Int} (h : fm_ok D w) (x : Int) : x * x ≠ D := by
  intro e
  rcases Int.lt_or_le w (fm_ab x) with k | k
  · have := fm_out h k; omega
  · have := fm_in h k; omega
def fm_top (w c : Int) : Int := if w < fm_ab c then fm_ab c else w
theorem fm_top_cases (w c : Int) : (w < fm_ab c ∧ fm_top w c = fm_ab c) ∨ (fm_ab c ≤ w ∧ fm_top w c = w) := by
  unfold fm_top
  split
  · exact Or.inl ⟨by assumption, rfl⟩
  · exact Or.inr ⟨by omega, rfl⟩
theorem fm_top_neg (w c : Int) : fm_top w (-c) = fm_top w c := by unfold fm_top; rw [fm_ab_neg]
def fm_e (w b c : Int) : Int := fm_top w c - (fm_top w c + b) % (2 * fm_ab c)
def fm_rho (D w : Int) (g : fm_F) : fm_F := (g.2.2, fm_e w g.2.1 g.2.2, (fm_e w g.2.1 g.2.2 * fm_e w g.2.1 g.2.2 - D) / (4 * g.2.2))
/-- the new middle lies in its window and differs from -b by a multiple of 2 c -/
theorem fm_e_spec (w b : Int) {c : Int} (hc : c ≠ 0) : fm_top w c - 2 * fm_ab c < fm_e w b c ∧ fm_e w b c ≤ fm_top w c ∧ ∃ k : Int, fm_e w b c = -b + 2 * c * k := by
  have h0 := fm_ab_pos hc
  have h1 := Int.emod_nonneg (fm_top w c + b) (show 2 * fm_ab c ≠ 0 by omega)
  have h2 := Int.emod_lt_of_pos (fm_top w c + b) (show 0 < 2 * fm_ab c by omega)
  have h3 := Int.mul_ediv_add_emod (fm_top w c + b) (2 * fm_ab c)
  unfold fm_e
  refine ⟨by omega, by omega, ?_⟩
  rcases fm_ab_cases c with ⟨-, h⟩ | ⟨-, h⟩
  · refine ⟨(fm_top w c + b) / (2 * fm_ab c), ?_⟩
    rw [h] at h3 ⊢
    omega
  · refine ⟨-((fm_top w c + b) / (2 * fm_ab c)), ?_⟩
    rw [h] at h3 ⊢
    have : 2 * c * -((fm_top w c + b) / (2 * -c)) = 2 * -c * ((fm_top w c + b) / (2 * -c)) := by grind
    omega
/-- a multiple of 2 c that is smaller than 2 |c| is 0 -/
theorem fm_small {c k : Int} (h1 : -(2 * fm_ab c) < 2 * c * k) (h2 : 2 * c * k < 2 * fm_ab c) : 2 * c * k = 0 := by
  rcases Int.lt_trichotomy k 0 with hk | hk | hk
  · exfalso
    rcases fm_ab_cases c with ⟨h0, h⟩ | ⟨h0, h⟩ <;> rw [h] at h1 h2
    · have := Int.mul_le_mul_of_nonneg_left (show k ≤ -1 by omega) (show (0:Int) ≤ 2 * c by omega)
      omega
    · have := Int.mul_le_mul_of_nonneg_left (show k ≤ -1 by omega) (show (0:Int) ≤ 2 * -c by omega)
      have e : 2 * -c * k = -(2 * c * k) := by grind
      omega
  · rw [hk]; simp
  · exfalso
    rcases fm_ab_cases c with ⟨h0, h⟩ | ⟨h0, h⟩ <;> rw [h] at h1 h2
    · have := Int.mul_le_mul_of_nonneg_left (show 1 ≤ k by omega) (show (0:Int) ≤ 2 * c by omega)
      omega
    · have := Int.mul_le_mul_of_nonneg_left (show 1 ≤ k by omega) (show (0:Int) ≤ 2 * -c by omega)
      have e : 2 * -c * k = -(2 * c * k) := by grind
      omega
theorem fm_e_uniq {w b c e k : Int} (hc : c ≠ 0) (h1 : fm_top w c - 2 * fm_ab c < e) (h2 : e ≤ fm_top w c) (h3 : e = -b + 2 * c * k) : fm_e w b c = e := by
  obtain ⟨g1, g2, k', g3⟩ := fm_e_spec w b hc
  have e1 : 2 * c * (k' - k) = fm_e w b c - e := by grind
  have := fm_small (c := c) (k := k' - k) (by omega) (by omega)
  omega
def fm_disc (D : Int) (g : fm_F) : Prop := g.2.1 * g.2.1 - 4 * (g.1 * g.2.2) = D
theorem fm_ne {D w a b c : Int} (h : fm_ok D w) (hd : fm_disc D (a, b, c)) : a ≠ 0 ∧ c ≠ 0 := by
  unfold fm_disc at hd
  dsimp only at hd
  constructor
  · intro e
    rw [e, Int.zero_mul] at hd
    exact fm_nsq h b (by omega)
  · intro e
    rw [e, Int.mul_zero] at hd
    exact fm_nsq h b (by omega)
/-- a step, told by the multiple that it takes -/
theorem fm_rho_of {D w a b c k : Int} (hc : c ≠ 0) (hd : fm_disc D (a, b, c)) (h1 : fm_top w c - 2 * fm_ab c < -b + 2 * c * k) (h2 : -b + 2 * c * k ≤ fm_top w c) : fm_rho D w (a, b, c) = (c, -b + 2 * c * k, a - b * k + c * (k * k)) := by
  have he := fm_e_uniq (w := w) (b := b) (k := k) hc h1 h2 rfl
  unfold fm_disc at hd
  dsimp only at hd
  unfold fm_rho
  dsimp only
  rw [he]
  have h4 : (-b + 2 * c * k) * (-b + 2 * c * k) - D = 4 * c * (a - b * k + c * (k * k)) := by grind
  rw [h4, Int.mul_ediv_cancel_left _ (show 4 * c ≠ 0 by omega)]
theorem fm_rho_ex {D w a b c : Int} (hc : c ≠ 0) (hd : fm_disc D (a, b, c)) : ∃ k : Int, fm_rho D w (a, b, c) = (c, -b + 2 * c * k, a - b * k + c * (k * k)) ∧ fm_top w c - 2 * fm_ab c < -b + 2 * c * k ∧ -b + 2 * c * k ≤ fm_top w c := by
  obtain ⟨g1, g2, k, g3⟩ := fm_e_spec w b hc
  exact ⟨k, fm_rho_of hc hd (by omega) (by omega), by omega, by omega⟩
theorem fm_rho_disc {D w : Int} {g : fm_F} (h : fm_ok D w) (hd : fm_disc D g) : fm_disc D (fm_rho D w g) := by
  obtain ⟨a, b, c⟩ := g
  obtain ⟨k, hk, -, -⟩ := fm_rho_ex (w := w) (fm_ne h hd).2 hd
  rw [hk]
  unfold fm_disc at hd ⊢
  dsimp only at hd ⊢
  grind
theorem fm_rho_congr {D w a b a' b' c k : Int} (hc : c ≠ 0) (hd : fm_disc D (a, b, c)) (hd' : fm_disc D (a', b', c)) (hb : b' = b + 2 * c * k) : fm_rho D w (a, b, c) = fm_rho D w (a', b', c) := by
  obtain ⟨j, hj, h1, h2⟩ := fm_rho_ex (w := w) hc hd
  have e1 : -b + 2 * c * j = -b' + 2 * c * (j + k) := by grind
  rw [hj, fm_rho_of (k := j + k) hc hd' (by omega) (by omega)]
  unfold fm_disc at hd hd'
  dsimp only at hd hd'
  have e2 : 4 * c * (a - b * j + c * (j * j)) = 4 * c * (a' - b' * (j + k) + c * ((j + k) * (j + k))) := by grind
  have e3 := Int.eq_of_mul_eq_mul_left (show 4 * c ≠ 0 by omega) e2
  rw [e3, e1]
-- ways of steps
def fm_it (D w : Int) : Nat → fm_F → fm_F
  | 0, g => g
  | n + 1, g => fm_it D w n (fm_rho D w g)
theorem fm_it_add (D w : Int) (i j : Nat) (g : fm_F) : fm_it D w (i + j) g = fm_it D w j (fm_it D w i g) := by
  induction i generalizing g with
  | zero => rw [Nat.zero_add]; rfl
  | succ i ih =>
    rw [Nat.succ_add]
    exact ih _
theorem fm_it_succ (D w : Int) (n : Nat) (g : fm_F) : fm_it D w (n + 1) g = fm_rho D w (fm_it D w n g) := fm_it_add D w n 1 g
theorem fm_it_disc {D w : Int} (h : fm_ok D w) (n : Nat) {g : fm_F} (hd : fm_disc D g) : fm_disc D (fm_it D w n g) := by
  induction n generalizing g with
  | zero => exact hd
  | succ n ih => exact ih (fm_rho_disc h hd)
def fm_mg (D w : Int) (g h : fm_F) : Prop := ∃ i j : Nat, fm_it D w i g = fm_it D w j h
theorem fm_mg.rf {D w : Int} (g : fm_F) : fm_mg D w g g := ⟨0, 0, rfl⟩
theorem fm_mg.sy {D w : Int} {g h : fm_F} (x : fm_mg D w g h) : fm_mg D w h g := by
  obtain ⟨i, j, e⟩ := x
  exact ⟨j, i, e.symm⟩
theorem fm_mg.tr {D w : Int} {g h k : fm_F} (x : fm_mg D w g h) (y : fm_mg D w h k) : fm_mg D w g k := by
  obtain ⟨i, j, e⟩ := x
  obtain ⟨i', j', e'⟩ := y
  refine ⟨i + i', j' + j, ?_⟩
  rw [fm_it_add, e, ← fm_it_add, Nat.add_comm j i', fm_it_add, e', ← fm_it_add]
theorem fm_mg.step {D w : Int} {g h : fm_F} (e : fm_rho D w g = h) : fm_mg D w g h := ⟨1, 0, e⟩
theorem fm_mg.same {D w : Int} {g h : fm_F} (e : fm_rho D w g = fm_rho D w h) : fm_mg D w g h := ⟨1, 1, e⟩
def fm_S (g : fm_F) : fm_F := (g.2.2, -g.2.1, g.1)
theorem fm_S_disc {D a b c : Int} (hd : fm_disc D (a, b, c)) : fm_disc D (c, -b, a) := by
  unfold fm_disc at hd ⊢
  dsimp only at hd ⊢
  grind
/-- downwards: t is the sign of a and c -/
theorem fm_down {D w a b c t : Int} (h : fm_ok D w) (hd : fm_disc D (a, b, c)) (ht : t * t = 1) (hd1 : fm_disc D (a, b - 2 * t * a, a - t * b + c)) (h1 : fm_mg D w (a, b - 2 * t * a, a - t * b + c) (a - t * b + c, -(b - 2 * t * a), a)) (h2 : fm_mg D w (c, -b + 2 * t * c, a - t * b + c) (a - t * b + c, -(-b + 2 * t * c), c)) : fm_mg D w (a, b, c) (c, -b, a) := by
  have hd2 : fm_disc D (c, -b + 2 * t * c, a - t * b + c) := by
    unfold fm_disc at hd ⊢
    dsimp only at hd ⊢
    grind
  obtain ⟨ha, hc⟩ := fm_ne h hd
  obtain ⟨-, he⟩ := fm_ne h hd1
  have s1 : fm_mg D w (a, b, c) (a - t * b + c, -(-b + 2 * t * c), c) := fm_mg.same (fm_rho_congr (k := -t) hc hd (fm_S_disc hd2) (by grind))
  have s2 : fm_mg D w (c, -b + 2 * t * c, a - t * b + c) (a, b - 2 * t * a, a - t * b + c) := fm_mg.same (fm_rho_congr (k := -t) he hd2 hd1 (by grind))
  have s3 : fm_mg D w (a - t * b + c, -(b - 2 * t * a), a) (c, -b, a) := fm_mg.same (fm_rho_congr (k := -t) ha (fm_S_disc hd1) (fm_S_disc hd) (by grind))
  exact s1.tr (h2.sy.tr (s2.tr (h1.tr s3)))
theorem fm_pp {a c : Int} (ha : 0 < a) (h : 0 < a * c) : 0 < c := by
  rcases Int.lt_or_le 0 c with k | k
  · exact k
  · have := Int.mul_le_mul_of_nonneg_left k (Int.le_of_lt ha)
    rw [Int.mul_zero] at this
    omega
theorem fm_nn {a c : Int} (ha : a < 0) (h : 0 < a * c) : c < 0 := by
  have := fm_pp (a := -a) (c := -c) (by omega) (by rw [Int.neg_mul_neg]; exact h)
  omega
theorem fm_pn {a c : Int} (ha : 0 < a) (h : a * c < 0) : c < 0 := by
  have := fm_pp (a := a) (c := -c) ha (by rw [Int.mul_neg]; omega)
  omega
theorem fm_np {a c : Int} (ha : a < 0) (h : a * c < 0) : 0 < c := by
  have := fm_pp (a := -a) (c := c) (by omega) (by rw [Int.neg_mul]; omega)
  omega
theorem fm_dn {D w : Int} (h : fm_ok D w) {n : Nat} (ih : ∀ a b c : Int, fm_ab b < n → fm_disc D (a, b, c) → fm_mg D w (a, b, c) (c, -b, a)) {a b c : Int} (hb : fm_ab b < (n + 1 : Nat)) (hd : fm_disc D (a, b, c)) (h0 : 0 < b) (ha : fm_ab a < b) (hc : fm_ab c < b) (hac : 0 < a * c) : fm_mg D w (a, b, c) (c, -b, a) := by
  have hbb : fm_ab b = b := by rcases fm_ab_cases b with k | k <;> omega
  rcases Int.lt_trichotomy a 0 with k | k | k
  · have hc0 := fm_nn k hac
    have hA : fm_ab a = -a := by rcases fm_ab_cases a with k | k <;> omega
    have hC : fm_ab c = -c := by rcases fm_ab_cases c with k | k <;> omega
    have hd1 : fm_disc D (a, b - 2 * (-1) * a, a - (-1) * b + c) := by
      unfold fm_disc at hd ⊢
      dsimp only at hd ⊢
      grind
    have hd2 : fm_disc D (c, -b + 2 * (-1) * c, a - (-1) * b + c) := by
      unfold fm_disc at hd ⊢
      dsimp only at hd ⊢
      grind
    refine fm_down (t := -1) h hd (by decide) hd1 (ih _ _ _ ?_ hd1) (ih _ _ _ ?_ hd2)
    · rcases fm_ab_cases (b - 2 * (-1) * a) with q | q <;> omega
    · rcases fm_ab_cases (-b + 2 * (-1) * c) with q | q <;> omega
  · rw [k, Int.zero_mul] at hac
    omega
  · have hc0 := fm_pp k hac
    have hA : fm_ab a = a := by rcases fm_ab_cases a with k | k <;> omega
    have hC : fm_ab c = c := by rcases fm_ab_cases c with k | k <;> omega
    have hd1 : fm_disc D (a, b - 2 * 1 * a, a - 1 * b + c) := by
      unfold fm_disc at hd ⊢
      dsimp only at hd ⊢
      grind
    have hd2 : fm_disc D (c, -b + 2 * 1 * c, a - 1 * b + c) := by
      unfold fm_disc at hd ⊢
      dsimp only at hd ⊢
      grind
    refine fm_down (t := 1) h hd (by decide) hd1 (ih _ _ _ ?_ hd1) (ih _ _ _ ?_ hd2)
    · rcases fm_ab_cases (b - 2 * 1 * a) with q | q <;> omega
    · rcases fm_ab_cases (-b + 2 * 1 * c) with q | q <;> omega
theorem fm_bd {D w : Int} (h : fm_ok D w) {n : Nat} (ih : ∀ a b c : Int, fm_ab b < n → fm_disc D (a, b, c) → fm_mg D w (a, b, c) (c, -b, a)) {a b c : Int} (hb : fm_ab b < (n + 1 : Nat)) (hd : fm_disc D (a, b, c)) (hw : w < fm_ab a) (hba : b = -fm_ab a) (hca : fm_ab c < fm_ab a) : fm_mg D w (a, b, c) (c, -b, a) := by
  obtain ⟨ha0, hc0⟩ := fm_ne h hd
  have ho := fm_out h hw
  have hbn : fm_ab b = fm_ab a := by rcases fm_ab_cases a with k | k <;> rcases fm_ab_cases b with q | q <;> omega
  have htop : fm_top w a = fm_ab a := by rcases fm_top_cases w a with k | k <;> omega
  have hac : 0 < a * c := by
    unfold fm_disc at hd
    dsimp only at hd
    have : b * b = a * a := by rw [hba, Int.neg_mul_neg, fm_ab_sq]
    omega
  rcases fm_ab_cases a with ⟨k, hA⟩ | ⟨k, hA⟩
  · have hc1 := fm_pp (show 0 < a by omega) hac
    have hC : fm_ab c = c := by rcases fm_ab_cases c with k | k <;> omega
    have hb' : b = -a := by omega
    subst hb'
    have hd2 : fm_disc D (c, a - 2 * c, c) := by
      unfold fm_disc at hd ⊢
      dsimp only at hd ⊢
      grind
    have hdh : fm_disc D (a, a, c) := by
      unfold fm_disc at hd ⊢
      dsimp only at hd ⊢
      grind
    have r1 : fm_rho D w (c, - -a, a) = (a, - - -a + 2 * a * 1, c - - -a * 1 + a * (1 * 1)) := fm_rho_of (k := 1) ha0 (fm_S_disc hd) (by omega) (by omega)
    have r2 : (a, - - -a + 2 * a * 1, c - - -a * 1 + a * (1 * 1)) = ((a, a, c) : fm_F) := by
      rw [show - - -a + 2 * a * 1 = a by omega, show c - - -a * 1 + a * (1 * 1) = c by omega]
    have s1 : fm_mg D w (a, -a, c) (c, -(a - 2 * c), c) := fm_mg.same (fm_rho_congr (k := 1) hc0 hd (fm_S_disc hd2) (by omega))
    have s2 : fm_mg D w (c, a - 2 * c, c) (a, a, c) := fm_mg.same (fm_rho_congr (k := 1) hc0 hd2 hdh (by omega))
    have s3 := ih c (a - 2 * c) c (by rcases fm_ab_cases (a - 2 * c) with q | q <;> omega) hd2
    exact s1.tr (s3.sy.tr (s2.tr (fm_mg.step (r1.trans r2)).sy))
  · have hc1 := fm_nn k hac
    have hC : fm_ab c = -c := by rcases fm_ab_cases c with k | k <;> omega
    have hb' : b = a := by omega
    subst hb'
    have hd2 : fm_disc D (c, -b + 2 * c, c) := by
      unfold fm_disc at hd ⊢
      dsimp only at hd ⊢
      grind
    have hdh : fm_disc D (b, -b, c) := by
      unfold fm_disc at hd ⊢
      dsimp only at hd ⊢
      grind
    have r1 : fm_rho D w (c, -b, b) = (b, - -b + 2 * b * (-1), c - -b * (-1) + b * ((-1) * (-1))) := fm_rho_of (k := -1) ha0 (fm_S_disc hd) (by omega) (by omega)
    have r2 : (b, - -b + 2 * b * (-1), c - -b * (-1) + b * ((-1) * (-1))) = ((b, -b, c) : fm_F) := by
      rw [show - -b + 2 * b * (-1) = -b by omega, show c - -b * (-1) + b * ((-1) * (-1)) = c by omega]
    have s1 : fm_mg D w (b, b, c) (c, -(-b + 2 * c), c) := fm_mg.same (fm_rho_congr (k := -1) hc0 hd (fm_S_disc hd2) (by omega))
    have s2 : fm_mg D w (c, -b + 2 * c, c) (b, -b, c) := fm_mg.same (fm_rho_congr (k := -1) hc0 hd2 hdh (by omega))
    have s3 := ih c (-b + 2 * c) c (by rcases fm_ab_cases (-b + 2 * c) with q | q <;> omega) hd2
    exact s1.tr (s3.sy.tr (s2.tr (fm_mg.step (r1.trans r2)).sy))
theorem fm_rho_back {D w a b c : Int} (ha : a ≠ 0) (hd : fm_disc D (a, b, c)) (h1 : fm_top w a - 2 * fm_ab a < b) (h2 : b ≤ fm_top w a) : fm_mg D w (a, b, c) (c, -b, a) := by
  have r1 : fm_rho D w (c, -b, a) = (a, - -b + 2 * a * 0, c - -b * 0 + a * (0 * 0)) := fm_rho_of (k := 0) ha (fm_S_disc hd) (by omega) (by omega)
  have r2 : (a, - -b + 2 * a * 0, c - -b * 0 + a * (0 * 0)) = ((a, b, c) : fm_F) := by
    rw [show - -b + 2 * a * 0 = b by omega, show c - -b * 0 + a * (0 * 0) = c by omega]
  exact (fm_mg.step (r1.trans r2)).sy
theorem fm_mgS {D w a b c : Int} (x : fm_mg D w (c, -b, a) (a, - -b, c)) : fm_mg D w (a, b, c) (c, -b, a) := by
  rw [Int.neg_neg] at x
  exact x.sy
theorem fm_rho_forth {D w a b c : Int} (hc : c ≠ 0) (hd : fm_disc D (a, b, c)) (h1 : fm_top w c - 2 * fm_ab c < -b) (h2 : -b ≤ fm_top w c) : fm_mg D w (a, b, c) (c, -b, a) := fm_mgS (fm_rho_back hc (fm_S_disc hd) h1 h2)
theorem fm_c2 {D w : Int} (h : fm_ok D w) {n : Nat} (ih : ∀ a b c : Int, fm_ab b < n → fm_disc D (a, b, c) → fm_mg D w (a, b, c) (c, -b, a)) {a b c : Int} (hb : fm_ab b < (n + 1 : Nat)) (hd : fm_disc D (a, b, c)) (hw : w < fm_ab a) : fm_mg D w (a, b, c) (c, -b, a) := by
  obtain ⟨ha0, hc0⟩ := fm_ne h hd
  have ho := fm_out h hw
  have htop : fm_top w a = fm_ab a := by rcases fm_top_cases w a with k | k <;> omega
  have hA0 := fm_ab_pos ha0
  have hC0 := fm_ab_pos hc0
  by_cases i1 : -fm_ab a < b ∧ b ≤ fm_ab a
  · exact fm_rho_back ha0 hd (by omega) (by omega)
  · by_cases i2 : b = -fm_ab a
    · by_cases i3 : fm_ab a ≤ fm_ab c
      · have htc : fm_top w c = fm_ab c := by rcases fm_top_cases w c with k | k <;> omega
        exact fm_rho_forth hc0 hd (by omega) (by omega)
      · exact fm_bd h ih hb hd hw i2 (by omega)
    · have hab : fm_ab a < fm_ab b := by rcases fm_ab_cases b with k | k <;> omega
      have hac : 0 < a * c := by
        have h1 := fm_sq_le (x := fm_ab a) (y := fm_ab b) (by omega) (by omega)
        rw [fm_ab_sq, fm_ab_sq] at h1
        unfold fm_disc at hd
        dsimp only at hd
        omega
      by_cases i4 : fm_ab c < fm_ab b
      · rcases fm_ab_cases b with k | k
        · exact fm_dn h ih hb hd (by omega) (by omega) (by omega) hac
        · refine fm_mgS (fm_dn h ih (by rw [fm_ab_neg]; exact hb) (fm_S_disc hd) (by omega) (by omega) (by omega) (by rw [Int.mul_comm]; exact hac))
      · have htc : fm_top w c = fm_ab c := by rcases fm_top_cases w c with k | k <;> omega
        by_cases i5 : b = fm_ab c
        · exact fm_mgS (fm_bd h ih (by rw [fm_ab_neg]; exact hb) (fm_S_disc hd) (by omega) (by omega) (by rcases fm_ab_cases b with k | k <;> omega))
        · exact fm_rho_forth hc0 hd (by rcases fm_ab_cases b with k | k <;> omega) (by rcases fm_ab_cases b with k | k <;> omega)
theorem fm_SS {D w : Int} (h : fm_ok D w) : ∀ (n : Nat) (a b c : Int), fm_ab b < n → fm_disc D (a, b, c) → fm_mg D w (a, b, c) (c, -b, a) := by
  intro n
  induction n with
  | zero =>
    intro a b c hb _
    rcases fm_ab_cases b with k | k <;> omega
  | succ n ih =>
    intro a b c hb hd
    obtain ⟨ha0, hc0⟩ := fm_ne h hd
    by_cases i1 : w < fm_ab a
    · exact fm_c2 h ih hb hd i1
    · by_cases i2 : w < fm_ab c
      · exact fm_mgS (fm_c2 h ih (by rw [fm_ab_neg]; exact hb) (fm_S_disc hd) i2)
      · have hta : fm_top w a = w := by rcases fm_top_cases w a with k | k <;> omega
        have htc : fm_top w c = w := by rcases fm_top_cases w c with k | k <;> omega
        have hA0 := fm_ab_pos ha0
        have hC0 := fm_ab_pos hc0
        have hd' := hd
        unfold fm_disc at hd'
        dsimp only at hd'
        rcases Int.lt_trichotomy (a * c) 0 with k | k | k
        · have hbw := fm_in_of (x := b) h (by omega)
          by_cases i3 : w - 2 * fm_ab a < b
          · exact fm_rho_back ha0 hd (by omega) (by rcases fm_ab_cases b with q | q <;> omega)
          · by_cases i4 : w - 2 * fm_ab c < -b
            · exact fm_rho_forth hc0 hd (by omega) (by rcases fm_ab_cases b with q | q <;> omega)
            · exfalso
              rcases fm_ab_cases a with ⟨p, hA⟩ | ⟨p, hA⟩
              · have hc1 := fm_pn (show 0 < a by omega) k
                have hC : fm_ab c = -c := by rcases fm_ab_cases c with q | q <;> omega
                have x1 := fm_in (x := b + 2 * a) h (by rcases fm_ab_cases b with q | q <;> rcases fm_ab_cases (b + 2 * a) with r | r <;> omega)
                have x2 := fm_in (x := b + 2 * c) h (by rcases fm_ab_cases b with q | q <;> rcases fm_ab_cases (b + 2 * c) with r | r <;> omega)
                have e1 : (b + 2 * a) * (b + 2 * a) = D + 4 * (a * (a + b + c)) := by grind
                have e2 : (b + 2 * c) * (b + 2 * c) = D + 4 * (c * (a + b + c)) := by grind
                have y1 := fm_pn (a := a) (c := a + b + c) (by omega) (by omega)
                have y2 := fm_np (a := c) (c := a + b + c) hc1 (by omega)
                omega
              · have hc1 := fm_np p k
                have hC : fm_ab c = c := by rcases fm_ab_cases c with q | q <;> omega
                have x1 := fm_in (x := b - 2 * a) h (by rcases fm_ab_cases b with q | q <;> rcases fm_ab_cases (b - 2 * a) with r | r <;> omega)
                have x2 := fm_in (x := b - 2 * c) h (by rcases fm_ab_cases b with q | q <;> rcases fm_ab_cases (b - 2 * c) with r | r <;> omega)
                have e1 : (b - 2 * a) * (b - 2 * a) = D + 4 * (a * (a - b + c)) := by grind
                have e2 : (b - 2 * c) * (b - 2 * c) = D + 4 * (c * (a - b + c)) := by grind
                have y1 := fm_np (a := a) (c := a - b + c) p (by omega)
                have y2 := fm_pn (a := c) (c := a - b + c) hc1 (by omega)
                omega
        · exact absurd k (fun e => (Int.mul_eq_zero.mp e).elim ha0 hc0)
        · have hbw := fm_out_of (x := b) h (by omega)
          rcases fm_ab_cases b with q | q
          · exact fm_dn h ih hb hd (by omega) (by omega) (by omega) k
          · exact fm_mgS (fm_dn h ih (by rw [fm_ab_neg]; exact hb) (fm_S_disc hd) (by omega) (by omega) (by omega) (by rw [Int.mul_comm]; exact k))
/-- a form merges with its turned one -/
theorem fm_mg_S {D w a b c : Int} (h : fm_ok D w) (hd : fm_disc D (a, b, c)) : fm_mg D w (a, b, c) (c, -b, a) := by
  refine fm_SS h ((fm_ab b).toNat + 1) a b c ?_ hd
  rcases fm_ab_cases b with k | k <;> omega
theorem fm_T_disc {D a b c : Int} (k : Int) (hd : fm_disc D (a, b, c)) : fm_disc D (a, b + 2 * a * k, a * (k * k) + b * k + c) := by
  unfold fm_disc at hd ⊢
  dsimp only at hd ⊢
  grind
/-- a form merges with its slid one -/
theorem fm_mg_T {D w a b c : Int} (k : Int) (h : fm_ok D w) (hd : fm_disc D (a, b, c)) : fm_mg D w (a, b, c) (a, b + 2 * a * k, a * (k * k) + b * k + c) := by
  have hT := fm_T_disc k hd
  refine (fm_mg_S h hd).tr (fm_mg.tr (fm_mg.same ?_) (fm_mg_S h hT).sy)
  exact fm_rho_congr (k := -k) (fm_ne h hd).1 (fm_S_disc hd) (fm_S_disc hT) (by grind)
/-- the form at p x + q y, r x + s y -/
def fm_at (g : fm_F) (p q r s : Int) : fm_F := (g.1 * (p * p) + g.2.1 * (p * r) + g.2.2 * (r * r), 2 * (g.1 * (p * q)) + g.2.1 * (p * s + q * r) + 2 * (g.2.2 * (r * s)), g.1 * (q * q) + g.2.1 * (q * s) + g.2.2 * (s * s))
theorem fm_ext {a b c a' b' c' : Int} (h1 : a = a') (h2 : b = b') (h3 : c = c') : ((a, b, c) : fm_F) = (a', b', c') := by rw [h1, h2, h3]
theorem fm_mg_at {D w : Int} (h : fm_ok D w) : ∀ (n : Nat) (a b c p q r s : Int), fm_ab r < n → p * s - q * r = 1 → fm_disc D (a, b, c) → fm_mg D w (a, b, c) (fm_at (a, b, c) p q r s) := by
  intro n
  induction n with
  | zero =>
    intro a b c p q r s hr
    rcases fm_ab_cases r with k | k <;> omega
  | succ n ih =>
    intro a b c p q r s hr hdet hd
    by_cases r0 : r = 0
    · subst r0
      have hps : p * s = 1 := by rw [Int.mul_zero] at hdet; omega
      have hp : p = s ∧ p * p = 1 := by
        rcases Int.le_total 0 p with k | k
        · have h1 := Int.eq_one_of_mul_eq_one_right k hps
          rw [h1] at hps ⊢
          omega
        · have h1 := Int.eq_one_of_mul_eq_one_right (a := -p) (b := -s) (by omega) (by rw [Int.neg_mul_neg]; exact hps)
          have h2 : p = -1 := by omega
          rw [h2] at hps ⊢
          omega
      obtain ⟨rfl, hp2⟩ := hp
      have e : fm_at (a, b, c) p q 0 p = (a, b + 2 * a * (p * q), a * ((p * q) * (p * q)) + b * (p * q) + c) := by
        unfold fm_at
        dsimp only
        have t1 : a * (p * p) + b * (p * 0) + c * (0 * 0) = a := by rw [hp2]; omega
        have t2 : 2 * (a * (p * q)) + b * (p * p + q * 0) + 2 * (c * (0 * p)) = b + 2 * a * (p * q) := by
          have x1 : b * (p * p + q * 0) = b := by rw [Int.mul_zero, Int.add_zero, hp2, Int.mul_one]
          rw [x1]
          grind
        have t3 : a * (q * q) + b * (q * p) + c * (p * p) = a * ((p * q) * (p * q)) + b * (p * q) + c := by
          have x1 : a * ((p * q) * (p * q)) = a * (q * q) := by
            have : (p * q) * (p * q) = (p * p) * (q * q) := by grind
            rw [this, hp2, Int.one_mul]
          rw [x1, hp2, Int.mul_one, Int.mul_comm q p]
        exact fm_ext t1 t2 t3
      rw [e]
      exact fm_mg_T (p * q) h hd
    · have hT := fm_T_disc (p / r) hd
      have hm := Int.mul_ediv_add_emod p r
      have m0 := Int.emod_nonneg p r0
      have m1 := Int.emod_lt p r0
      have m2 : fm_ab r = r.natAbs := by rcases fm_ab_cases r with k | k <;> omega
      obtain ⟨k, hk⟩ : ∃ k, k = p / r := ⟨_, rfl⟩
      rw [← hk] at hT hm
      have hp : p % r = p - k * r := by grind
      have e : fm_at (a, b, c) p q r s = fm_at (a * (k * k) + b * k + c, -(b + 2 * a * k), a) r s (-(p - k * r)) (-(q - k * s)) := by
        unfold fm_at
        dsimp only
        exact fm_ext (by grind) (by grind) (by grind)
      rw [e]
      refine ((fm_mg_T k h hd).tr (fm_mg_S h hT)).tr (ih _ _ _ r s (-(p - k * r)) (-(q - k * s)) ?_ (by grind) (fm_S_disc hT))
      rw [fm_ab_neg, ← hp]
      rcases fm_ab_cases (p % r) with q1 | q1 <;> omega
end
section
/-! Numbers u + v t with t t = s t + n (the order of discriminant 4 n + s, s being 0 or 1), as pairs; their additive sets as predicates; the set of a form (a, b, c) with b = 2 B + s: all a k + v (t + B). Products of such sets are products of classes. -/
abbrev el_E : Type := Int × Int
def el_m (s n : Int) (x y : el_E) : el_E := (x.1 * y.1 + n * (x.2 * y.2), x.1 * y.2 + x.2 * y.1 + s * (x.2 * y.2))
def el_s (x y : el_E) : el_E := (x.1 - y.1, x.2 - y.2)
def el_N (s n : Int) (x : el_E) : Int := x.1 * x.1 + s * (x.1 * x.2) - n * (x.2 * x.2)
def el_j (s : Int) (x : el_E) : el_E := (x.1 + s * x.2, -x.2)
theorem el_ext {a b a' b' : Int} (h1 : a = a') (h2 : b = b') : ((a, b) : el_E) = (a', b') := by rw [h1, h2]
theorem el_m_c (s n : Int) (x y : el_E) : el_m s n x y = el_m s n y x := by
  unfold el_m
  exact el_ext (by grind) (by grind)
theorem el_m_a (s n : Int) (x y z : el_E) : el_m s n (el_m s n x y) z = el_m s n x (el_m s n y z) := by
  unfold el_m
  exact el_ext (by grind) (by grind)
theorem el_m_l (s n : Int) (x y z : el_E) : el_m s n x (el_m s n y z) = el_m s n y (el_m s n x z) := by
  rw [← el_m_a, el_m_c s n x y, el_m_a]
theorem el_m_s (s n : Int) (x y z : el_E) : el_m s n x (el_s y z) = el_s (el_m s n x y) (el_m s n x z) := by
  unfold el_m el_s
  exact el_ext (by grind) (by grind)
theorem el_m_sl (s n : Int) (x y z : el_E) : el_m s n (el_s x y) z = el_s (el_m s n x z) (el_m s n y z) := by
  rw [el_m_c, el_m_s, el_m_c s n z x, el_m_c s n z y]
theorem el_m_0 (s n : Int) (x : el_E) : el_m s n x (0, 0) = (0, 0) := by
  unfold el_m
  exact el_ext (by grind) (by grind)
theorem el_m_0l (s n : Int) (x : el_E) : el_m s n (0, 0) x = (0, 0) := by rw [el_m_c, el_m_0]
theorem el_m_1 (s n : Int) (x : el_E) : el_m s n (1, 0) x = x := by
  unfold el_m
  exact el_ext (by grind) (by grind)
theorem el_N_m (s n : Int) (x y : el_E) : el_N s n (el_m s n x y) = el_N s n x * el_N s n y := by
  unfold el_N el_m
  grind
theorem el_N_i (s n k : Int) : el_N s n (k, 0) = k * k := by
  unfold el_N
  grind
theorem el_j_m (s n : Int) (x y : el_E) : el_j s (el_m s n x y) = el_m s n (el_j s x) (el_j s y) := by
  unfold el_j el_m
  exact el_ext (by grind) (by grind)
theorem el_j_s (s : Int) (x y : el_E) : el_j s (el_s x y) = el_s (el_j s x) (el_j s y) := by
  unfold el_j el_s
  exact el_ext (by grind) (by grind)
theorem el_j_j (s : Int) (x : el_E) : el_j s (el_j s x) = x := by
  unfold el_j
  exact el_ext (by grind) (by grind)
/-- an additive set -/
def la_C (S : el_E → Prop) : Prop := S (0, 0) ∧ ∀ x y, S x → S y → S (el_s x y)
theorem la_C.neg {S : el_E → Prop} (h : la_C S) {x : el_E} (hx : S x) : S (-x.1, -x.2) := by
  have := h.2 (0, 0) x h.1 hx
  unfold el_s at this
  dsimp only at this
  rw [Int.zero_sub, Int.zero_sub] at this
  exact this
theorem la_C.add {S : el_E → Prop} (h : la_C S) {x y : el_E} (hx : S x) (hy : S y) : S (x.1 + y.1, x.2 + y.2) := by
  have := h.2 x (-y.1, -y.2) hx (h.neg hy)
  unfold el_s at this
  dsimp only at this
  rw [Int.sub_neg, Int.sub_neg] at this
  exact this
theorem la_C.nat {S : el_E → Prop} (h : la_C S) {x : el_E} (hx : S x) (n : Nat) : S ((n : Int) * x.1, (n : Int) * x.2) := by
  induction n with
  | zero =>
    have e : (((0 : Nat) : Int) * x.1, ((0 : Nat) : Int) * x.2) = ((0, 0) : el_E) := el_ext (by simp) (by simp)
    rw [e]
    exact h.1
  | succ n ih =>
    have := h.add ih hx
    have e : (((n + 1 : Nat) : Int) * x.1, ((n + 1 : Nat) : Int) * x.2) = (((n : Int) * x.1 + x.1, (n : Int) * x.2 + x.2) : el_E) := el_ext (by grind) (by grind)
    rw [e]
    exact this
theorem la_C.mul {S : el_E → Prop} (h : la_C S) {x : el_E} (hx : S x) (k : Int) : S (k * x.1, k * x.2) := by
  rcases Int.le_total 0 k with hk | hk
  · have := h.nat hx k.toNat
    rw [Int.toNat_of_nonneg hk] at this
    exact this
  · have := h.neg (h.nat hx (-k).toNat)
    dsimp only at this
    rw [Int.toNat_of_nonneg (by omega)] at this
    have e : ((k * x.1, k * x.2) : el_E) = (-(-k * x.1), -(-k * x.2)) := el_ext (by grind) (by grind)
    rw [e]
    exact this
def la_m (s n : Int) (L M : el_E → Prop) : el_E → Prop := fun x => ∀ S : el_E → Prop, la_C S → (∀ l m, L l → M m → S (el_m s n l m)) → S x
theorem la_m_C (s n : Int) (L M : el_E → Prop) : la_C (la_m s n L M) :=
  ⟨fun S hS _ => hS.1, fun x y hx hy S hS h => hS.2 x y (hx S hS h) (hy S hS h)⟩
theorem la_m_in {s n : Int} {L M : el_E → Prop} {l m : el_E} (hl : L l) (hm : M m) : la_m s n L M (el_m s n l m) := fun _ _ h => h l m hl hm
theorem la_eq {L M : el_E → Prop} (h1 : ∀ x, L x → M x) (h2 : ∀ x, M x → L x) : L = M := funext fun x => propext ⟨h1 x, h2 x⟩
theorem la_m_c (s n : Int) (L M : el_E → Prop) : la_m s n L M = la_m s n M L := by
  refine la_eq (fun x h => ?_) (fun x h => ?_)
  · exact h _ (la_m_C s n M L) (fun l m hl hm => by rw [el_m_c]; exact la_m_in hm hl)
  · exact h _ (la_m_C s n L M) (fun l m hl hm => by rw [el_m_c]; exact la_m_in hm hl)
theorem la_m_a1 (s n : Int) (L M K : el_E → Prop) (x : el_E) (h : la_m s n (la_m s n L M) K x) : la_m s n L (la_m s n M K) x := by
  refine h _ (la_m_C s n L (la_m s n M K)) (fun y k hy hk => ?_)
  refine hy (fun z => la_m s n L (la_m s n M K) (el_m s n z k)) ⟨?_, fun a b ha hb => ?_⟩ (fun l m hl hm => ?_)
  · show la_m s n L (la_m s n M K) (el_m s n (0, 0) k)
    rw [el_m_0l]
    exact (la_m_C s n _ _).1
  · show la_m s n L (la_m s n M K) (el_m s n (el_s a b) k)
    rw [el_m_sl]
    exact (la_m_C s n _ _).2 _ _ ha hb
  · show la_m s n L (la_m s n M K) (el_m s n (el_m s n l m) k)
    rw [el_m_a]
    exact la_m_in hl (la_m_in hm hk)
theorem la_m_a (s n : Int) (L M K : el_E → Prop) : la_m s n (la_m s n L M) K = la_m s n L (la_m s n M K) := by
  refine la_eq (la_m_a1 s n L M K) (fun x h => ?_)
  rw [la_m_c, la_m_c s n M K] at h
  rw [la_m_c, la_m_c s n L M]
  exact la_m_a1 s n K M L x h
def la_s (s n : Int) (a : el_E) (L : el_E → Prop) : el_E → Prop := fun x => ∃ l, L l ∧ x = el_m s n a l
theorem la_s_C {s n : Int} (a : el_E) {L : el_E → Prop} (h : la_C L) : la_C (la_s s n a L) := by
  refine ⟨⟨(0, 0), h.1, (el_m_0 s n a).symm⟩, ?_⟩
  rintro x y ⟨l, hl, rfl⟩ ⟨k, hk, rfl⟩
  exact ⟨el_s l k, h.2 l k hl hk, (el_m_s s n a l k).symm⟩
theorem la_s_m (s n : Int) (a : el_E) (L M : el_E → Prop) : la_m s n (la_s s n a L) M = la_s s n a (la_m s n L M) := by
  refine la_eq (fun x h => ?_) (fun x h => ?_)
  · refine h _ (la_s_C a (la_m_C s n L M)) ?_
    rintro y m ⟨l, hl, rfl⟩ hm
    exact ⟨el_m s n l m, la_m_in hl hm, el_m_a s n a l m⟩
  · obtain ⟨y, hy, rfl⟩ := h
    refine hy (fun z => la_m s n (la_s s n a L) M (el_m s n a z)) ⟨?_, fun p q hp hq => ?_⟩ (fun l m hl hm => ?_)
    · show la_m s n (la_s s n a L) M (el_m s n a (0, 0))
      rw [el_m_0]
      exact (la_m_C s n _ _).1
    · show la_m s n (la_s s n a L) M (el_m s n a (el_s p q))
      rw [el_m_s]
      exact (la_m_C s n _ _).2 _ _ hp hq
    · show la_m s n (la_s s n a L) M (el_m s n a (el_m s n l m))
      rw [← el_m_a]
      exact la_m_in ⟨l, hl, rfl⟩ hm
theorem la_s_r (s n : Int) (a : el_E) (L M : el_E → Prop) : la_m s n L (la_s s n a M) = la_s s n a (la_m s n L M) := by
  rw [la_m_c, la_s_m, la_m_c]
theorem la_s_s (s n : Int) (a b : el_E) (L : el_E → Prop) : la_s s n a (la_s s n b L) = la_s s n (el_m s n a b) L := by
  refine la_eq ?_ ?_
  · rintro x ⟨y, ⟨l, hl, rfl⟩, rfl⟩
    exact ⟨l, hl, (el_m_a s n a b l).symm⟩
  · rintro x ⟨l, hl, rfl⟩
    exact ⟨el_m s n b l, ⟨l, hl, rfl⟩, el_m_a s n a b l⟩
theorem la_s_x (s n : Int) (a b : el_E) (L : el_E → Prop) : la_s s n a (la_s s n b L) = la_s s n b (la_s s n a L) := by
  rw [la_s_s, la_s_s, el_m_c]
theorem la_s_1 (s n : Int) (L : el_E → Prop) : la_s s n (1, 0) L = L := by
  refine la_eq ?_ (fun x hx => ⟨x, hx, (el_m_1 s n x).symm⟩)
  rintro x ⟨l, hl, rfl⟩
  rw [el_m_1]
  exact hl
theorem la_s_i {s n k : Int} {L M : el_E → Prop} (hk : k ≠ 0) (h : la_s s n (k, 0) L = la_s s n (k, 0) M) : L = M := by
  have one : ∀ {L M : el_E → Prop}, la_s s n (k, 0) L = la_s s n (k, 0) M → ∀ x, L x → M x := by
    intro L M h x hx
    have h1 : la_s s n (k, 0) M (el_m s n (k, 0) x) := by rw [← h]; exact ⟨x, hx, rfl⟩
    obtain ⟨y, hy, e⟩ := h1
    unfold el_m at e
    dsimp only at e
    have e1 := congrArg Prod.fst e
    have e2 := congrArg Prod.snd e
    dsimp only at e1 e2
    have f1 : x.1 = y.1 := Int.eq_of_mul_eq_mul_left hk (by grind)
    have f2 : x.2 = y.2 := Int.eq_of_mul_eq_mul_left hk (by grind)
    have f : x = y := Prod.ext f1 f2
    rw [f]
    exact hy
  exact la_eq (one h) (one h.symm)
/-- conjugates -/
def la_j (s : Int) (L : el_E → Prop) : el_E → Prop := fun x => L (el_j s x)
theorem la_j_m1 (s n : Int) (L M : el_E → Prop) (x : el_E) (h : la_m s n (la_j s L) (la_j s M) x) : la_j s (la_m s n L M) x := by
  refine h _ ⟨?_, fun a b ha hb => ?_⟩ (fun l m hl hm => ?_)
  · show la_m s n L M (el_j s (0, 0))
    have e : el_j s (0, 0) = (0, 0) := by
      unfold el_j
      exact el_ext (by grind) (by grind)
    rw [e]
    exact (la_m_C s n L M).1
  · show la_m s n L M (el_j s (el_s a b))
    rw [el_j_s]
    exact (la_m_C s n L M).2 _ _ ha hb
  · show la_m s n L M (el_j s (el_m s n l m))
    rw [el_j_m]
    exact la_m_in hl hm
theorem la_j_j (s : Int) (L : el_E → Prop) : la_j s (la_j s L) = L := by
  funext x
  show L (el_j s (el_j s x)) = L x
  rw [el_j_j]
theorem la_j_m (s n : Int) (L M : el_E → Prop) : la_m s n (la_j s L) (la_j s M) = la_j s (la_m s n L M) := by
  refine la_eq (la_j_m1 s n L M) (fun x h => ?_)
  have h1 := la_j_m1 s n (la_j s L) (la_j s M) (el_j s x)
  rw [la_j_j, la_j_j] at h1
  have h2 := h1 h
  show la_m s n (la_j s L) (la_j s M) x
  have h3 : la_m s n (la_j s L) (la_j s M) (el_j s (el_j s x)) := h2
  rw [el_j_j] at h3
  exact h3
theorem la_j_s (s n : Int) (a : el_E) (L : el_E → Prop) : la_j s (la_s s n a L) = la_s s n (el_j s a) (la_j s L) := by
  refine la_eq ?_ ?_
  · rintro x ⟨l, hl, e⟩
    refine ⟨el_j s l, ?_, ?_⟩
    · show L (el_j s (el_j s l))
      rw [el_j_j]
      exact hl
    · rw [← el_j_m, ← e, el_j_j]
  · rintro x ⟨l, hl, rfl⟩
    refine ⟨el_j s l, hl, ?_⟩
    rw [el_j_m, el_j_j]
/-- the set of a form: a, and B out of b = 2 B + s -/
def la_f (a B : Int) : el_E → Prop := fun x => ∃ k : Int, x.1 = a * k + B * x.2
theorem la_f_C (a B : Int) : la_C (la_f a B) := by
  refine ⟨⟨0, by simp⟩, ?_⟩
  rintro x y ⟨k, hk⟩ ⟨j, hj⟩
  exact ⟨k - j, by unfold el_s; dsimp only; grind⟩
theorem la_f_a (a B : Int) : la_f a B (a, 0) := ⟨1, by simp⟩
theorem la_f_t (a B : Int) : la_f a B (B, 1) := ⟨0, by simp⟩
theorem la_f_T (a B k : Int) : la_f a (B + a * k) = la_f a B := by
  refine la_eq ?_ ?_
  · rintro x ⟨j, hj⟩
    exact ⟨j + k * x.2, by grind⟩
  · rintro x ⟨j, hj⟩
    exact ⟨j - k * x.2, by grind⟩
/-- what generates the set of a form lies in an additive set: so does the set -/
theorem la_f_in {a B : Int} {S : el_E → Prop} (h : la_C S) (h1 : S (a, 0)) (h2 : S (B, 1)) (x : el_E) (hx : la_f a B x) : S x := by
  obtain ⟨k, hk⟩ := hx
  have h3 := h.add (h.mul h1 k) (h.mul h2 x.2)
  dsimp only at h3
  have e : x = (k * a + x.2 * B, k * 0 + x.2 * 1) := Prod.ext (by dsimp only; grind) (by dsimp only; grind)
  rw [e]
  exact h3
/-- the product of two forms' sets lies in an additive set if the four products do -/
theorem la_m_f {s n a B a' B' : Int} {S : el_E → Prop} (h : la_C S) (h1 : S (el_m s n (a, 0) (a', 0))) (h2 : S (el_m s n (a, 0) (B', 1))) (h3 : S (el_m s n (B, 1) (a', 0))) (h4 : S (el_m s n (B, 1) (B', 1))) (x : el_E) (hx : la_m s n (la_f a B) (la_f a' B') x) : S x := by
  refine hx S h (fun l m hl hm => ?_)
  refine la_f_in (S := fun z => S (el_m s n z m)) ⟨?_, fun p q hp hq => ?_⟩ ?_ ?_ l hl
  · show S (el_m s n (0, 0) m)
    rw [el_m_0l]
    exact h.1
  · show S (el_m s n (el_s p q) m)
    rw [el_m_sl]
    exact h.2 _ _ hp hq
  · refine la_f_in (S := fun z => S (el_m s n (a, 0) z)) ⟨?_, fun p q hp hq => ?_⟩ h1 h2 m hm
    · show S (el_m s n (a, 0) (0, 0))
      rw [el_m_0]
      exact h.1
    · show S (el_m s n (a, 0) (el_s p q))
      rw [el_m_s]
      exact h.2 _ _ hp hq
  · refine la_f_in (S := fun z => S (el_m s n (B, 1) z)) ⟨?_, fun p q hp hq => ?_⟩ h3 h4 m hm
    · show S (el_m s n (B, 1) (0, 0))
      rw [el_m_0]
      exact h.1
    · show S (el_m s n (B, 1) (el_s p q))
      rw [el_m_s]
      exact h.2 _ _ hp hq
end
section
/-! Classes of forms as sets of numbers up to a factor: equal classes merge and merging forms are of equal classes; products. -/
def fm_B (s : Int) (g : fm_F) : Int := (g.2.1 - s) / 2
def fm_L (s : Int) (g : fm_F) : el_E → Prop := la_f g.1 (fm_B s g)
/-- s is 0 or 1 and D is 4 n + s -/
def fm_sn (D s n : Int) : Prop := (s = 0 ∨ s = 1) ∧ D = 4 * n + s
theorem fm_half {D s n a b c : Int} (h : fm_sn D s n) (hd : fm_disc D (a, b, c)) : b = 2 * fm_B s (a, b, c) + s ∧ fm_B s (a, b, c) * fm_B s (a, b, c) + s * fm_B s (a, b, c) - n = a * c := by
  obtain ⟨h1, h2⟩ := h
  unfold fm_disc at hd
  dsimp only at hd
  unfold fm_B
  dsimp only
  obtain ⟨q, hq⟩ : ∃ q, q = b / 2 := ⟨_, rfl⟩
  have hb : b = 2 * ((b - s) / 2) + s := by
    rcases Int.emod_two_eq b with k | k
    · have e : b = 2 * q := by omega
      have e2 : b * b = 4 * (q * q) := by rw [e]; grind
      omega
    · have e : b = 2 * q + 1 := by omega
      have e2 : b * b = 4 * (q * q + q) + 1 := by rw [e]; grind
      omega
  refine ⟨hb, ?_⟩
  generalize (b - s) / 2 = B at hb ⊢
  subst hb
  rcases h1 with rfl | rfl <;> grind
theorem fm_B_of {s b B : Int} (a c : Int) (h : b = 2 * B + s) : fm_B s (a, b, c) = B := by
  unfold fm_B
  dsimp only
  omega
def fm_eq (s n : Int) (f g : fm_F) : Prop := ∃ x y : el_E, la_s s n x (fm_L s f) = la_s s n y (fm_L s g) ∧ el_N s n x * f.1 = el_N s n y * g.1 ∧ el_N s n x ≠ 0 ∧ el_N s n y ≠ 0
theorem fm_eq.rf {s n : Int} (f : fm_F) : fm_eq s n f f := ⟨(1, 0), (1, 0), rfl, rfl, by rw [el_N_i]; decide, by rw [el_N_i]; decide⟩
theorem fm_eq.sy {s n : Int} {f g : fm_F} (h : fm_eq s n f g) : fm_eq s n g f := by
  obtain ⟨x, y, h1, h2, h3, h4⟩ := h
  exact ⟨y, x, h1.symm, h2.symm, h4, h3⟩
theorem fm_eq.tr {s n : Int} {f g h : fm_F} (p : fm_eq s n f g) (q : fm_eq s n g h) : fm_eq s n f h := by
  obtain ⟨x, y, h1, h2, h3, h4⟩ := p
  obtain ⟨z, u, g1, g2, g3, g4⟩ := q
  refine ⟨el_m s n z x, el_m s n y u, ?_, ?_, ?_, ?_⟩
  · rw [← la_s_s, h1, la_s_x, g1, la_s_s]
  · rw [el_N_m, el_N_m, Int.mul_assoc, h2]
    rw [Int.mul_assoc, ← g2]
    grind
  · rw [el_N_m]; exact Int.mul_ne_zero g3 h3
  · rw [el_N_m]; exact Int.mul_ne_zero h4 g4
theorem fm_eq_S {D s n a b c : Int} (h : fm_sn D s n) (ha : a ≠ 0) (hc : c ≠ 0) (hd : fm_disc D (a, b, c)) : fm_eq s n (a, b, c) (c, -b, a) := by
  obtain ⟨hb, hac⟩ := fm_half h hd
  have hB : fm_B s (c, -b, a) = -fm_B s (a, b, c) - s := fm_B_of c a (by omega)
  unfold fm_eq fm_L
  rw [hB]
  generalize fm_B s (a, b, c) = B at hb hac ⊢
  have hN : el_N s n (B + s, -1) = a * c := by
    unfold el_N
    dsimp only
    grind
  refine ⟨(B + s, -1), (a, 0), la_eq ?_ ?_, ?_, ?_, ?_⟩
  · rintro x ⟨l, ⟨k, hk⟩, rfl⟩
    dsimp only at hk
    refine ⟨(k * (B + s) + l.2 * c, -k), ⟨l.2, by dsimp only; grind⟩, ?_⟩
    unfold el_m
    dsimp only
    rw [hk]
    exact el_ext (by grind) (by grind)
  · rintro x ⟨l, ⟨k, hk⟩, rfl⟩
    dsimp only at hk
    refine ⟨(a * (-l.2) + B * k, k), ⟨-l.2, rfl⟩, ?_⟩
    unfold el_m
    dsimp only
    rw [hk]
    exact el_ext (by grind) (by grind)
  · rw [hN, el_N_i]
    dsimp only
    grind
  · rw [hN]; exact Int.mul_ne_zero ha hc
  · rw [el_N_i]; exact Int.mul_ne_zero ha ha
theorem fm_eq_L {s n : Int} {f g : fm_F} (h1 : f.1 = g.1) (h2 : fm_L s f = fm_L s g) : fm_eq s n f g := ⟨(1, 0), (1, 0), by rw [h2], by rw [h1], by rw [el_N_i]; decide, by rw [el_N_i]; decide⟩
theorem fm_eq_T {D s n a b c : Int} (k : Int) (h : fm_sn D s n) (hd : fm_disc D (a, b, c)) (c' : Int) : fm_eq s n (a, b, c) (a, b + 2 * a * k, c') := by
  obtain ⟨hb, -⟩ := fm_half h hd
  have hB : fm_B s (a, b + 2 * a * k, c') = fm_B s (a, b, c) + a * k := fm_B_of a c' (by grind)
  refine fm_eq_L rfl ?_
  unfold fm_L
  rw [hB]
  exact (la_f_T _ _ _).symm
theorem fm_eq_rho {D w s n : Int} {g : fm_F} (ho : fm_ok D w) (h : fm_sn D s n) (hd : fm_disc D g) : fm_eq s n g (fm_rho D w g) := by
  obtain ⟨a, b, c⟩ := g
  obtain ⟨ha, hc⟩ := fm_ne ho hd
  obtain ⟨k, hk, -, -⟩ := fm_rho_ex (w := w) hc hd
  rw [hk]
  exact (fm_eq_S h ha hc hd).tr (fm_eq_T k h (fm_S_disc hd) _)
theorem fm_eq_it {D w s n : Int} (ho : fm_ok D w) (h : fm_sn D s n) (i : Nat) {g : fm_F} (hd : fm_disc D g) : fm_eq s n g (fm_it D w i g) := by
  induction i generalizing g with
  | zero => exact fm_eq.rf g
  | succ i ih => exact (fm_eq_rho ho h hd).tr (ih (fm_rho_disc ho hd))
/-- merging forms are of one class -/
theorem fm_eq_mg {D w s n : Int} {f g : fm_F} (ho : fm_ok D w) (h : fm_sn D s n) (hf : fm_disc D f) (hg : fm_disc D g) (hm : fm_mg D w f g) : fm_eq s n f g := by
  obtain ⟨i, j, e⟩ := hm
  have h1 := fm_eq_it ho h i hf
  rw [e] at h1
  exact h1.tr (fm_eq_it ho h j hg).sy
theorem el_det (s n : Int) (a x y : el_E) : (el_m s n a x).1 * (el_m s n a y).2 - (el_m s n a x).2 * (el_m s n a y).1 = el_N s n a * (x.1 * y.2 - x.2 * y.1) := by
  unfold el_m el_N
  dsimp only
  grind
theorem fm_cancel {x y z : Int} (hx : x ≠ 0) (h : x * y = x * z) : y = z := Int.eq_of_mul_eq_mul_left hx h
/-- forms of one class merge -/
theorem fm_mg_eq {D w s n : Int} {f g : fm_F} (ho : fm_ok D w) (h : fm_sn D s n) (hf : fm_disc D f) (hg : fm_disc D g) (he : fm_eq s n f g) : fm_mg D w f g := by
  obtain ⟨a, b, c⟩ := f
  obtain ⟨a', b', c'⟩ := g
  obtain ⟨ha, hc⟩ := fm_ne ho hf
  obtain ⟨hb, hac⟩ := fm_half h hf
  obtain ⟨hb', hac'⟩ := fm_half h hg
  obtain ⟨x, y, h1, h2, h3, h4⟩ := he
  unfold fm_L at h1
  dsimp only at h1 h2
  generalize fm_B s (a, b, c) = B at hb hac h1
  generalize fm_B s (a', b', c') = B' at hb' hac' h1
  have m1 : la_s s n x (la_f a B) (el_m s n y (a', 0)) := by rw [h1]; exact ⟨_, la_f_a a' B', rfl⟩
  have m2 : la_s s n x (la_f a B) (el_m s n y (B', 1)) := by rw [h1]; exact ⟨_, la_f_t a' B', rfl⟩
  obtain ⟨⟨l1, r⟩, ⟨p, hp⟩, e1⟩ := m1
  obtain ⟨⟨l2, t⟩, ⟨q, hq⟩, e2⟩ := m2
  dsimp only at hp hq
  subst hp
  subst hq
  have d1 := el_det s n y (a', 0) (B', 1)
  rw [e1, e2, el_det] at d1
  dsimp only at d1
  have n1 := congrArg (el_N s n) e1
  rw [el_N_m, el_N_m] at n1
  have n2 := congrArg (el_N s n) e2
  rw [el_N_m, el_N_m] at n2
  have e3 : el_m s n y (el_s (a', 0) (B', 1)) = el_m s n x (el_s (a * p + B * r, r) (a * q + B * t, t)) := by
    rw [el_m_s, el_m_s, e1, e2]
  have n3 := congrArg (el_N s n) e3
  rw [el_N_m, el_N_m] at n3
  generalize el_N s n x = X at h2 h3 d1 n1 n2 n3
  generalize el_N s n y = Y at h2 h4 d1 n1 n2 n3
  have hXa : X * a ≠ 0 := Int.mul_ne_zero h3 ha
  have hdet : p * t - q * r = 1 := by
    refine fm_cancel hXa ?_
    grind
  have E1 : el_N s n (a', 0) = a' * a' := el_N_i s n a'
  have E2 : el_N s n (B', 1) = a' * c' := by
    unfold el_N
    dsimp only
    grind
  have E3 : el_N s n (el_s (a', 0) (B', 1)) = a' * (a' - b' + c') := by
    unfold el_N el_s
    dsimp only
    grind
  have F1 : ∀ u v : Int, el_N s n (a * u + B * v, v) = a * (a * (u * u) + b * (u * v) + c * (v * v)) := by
    intro u v
    unfold el_N
    dsimp only
    grind
  have F3 : el_s (a * p + B * r, r) (a * q + B * t, t) = (a * (p - q) + B * (r - t), r - t) := by
    unfold el_s
    exact el_ext (by grind) (by grind)
  rw [E1, F1] at n1
  rw [E2, F1] at n2
  rw [E3, F3, F1] at n3
  have c1 : a' = a * (p * p) + b * (p * r) + c * (r * r) := fm_cancel hXa (by grind)
  have c2 : c' = a * (q * q) + b * (q * t) + c * (t * t) := fm_cancel hXa (by
    have z1 : X * a * c' = Y * (a' * c') := by rw [h2, Int.mul_assoc]
    rw [z1, n2, Int.mul_assoc])
  have c3 : a' - b' + c' = a * ((p - q) * (p - q)) + b * ((p - q) * (r - t)) + c * ((r - t) * (r - t)) := fm_cancel hXa (by
    have z1 : X * a * (a' - b' + c') = Y * (a' * (a' - b' + c')) := by rw [h2, Int.mul_assoc]
    rw [z1, n3, Int.mul_assoc])
  have hfin : ((a', b', c') : fm_F) = fm_at (a, b, c) p q r t := by
    unfold fm_at
    dsimp only
    exact fm_ext c1 (by grind) c2
  rw [hfin]
  refine fm_mg_at ho ((fm_ab r).toNat + 1) a b c p q r t ?_ hdet hf
  rcases fm_ab_cases r with k | k <;> omega
/-- F is of the product of the classes of f and g -/
def fm_cp (s n : Int) (f g F : fm_F) : Prop := ∃ x y : el_E, la_s s n x (la_m s n (fm_L s f) (fm_L s g)) = la_s s n y (fm_L s F) ∧ el_N s n x * (f.1 * g.1) = el_N s n y * F.1 ∧ el_N s n x ≠ 0 ∧ el_N s n y ≠ 0
theorem fm_cp.fn {s n : Int} {f g F G : fm_F} (h : fm_cp s n f g F) (k : fm_cp s n f g G) : fm_eq s n F G := by
  obtain ⟨x, y, h1, h2, h3, h4⟩ := h
  obtain ⟨z, u, g1, g2, g3, g4⟩ := k
  refine ⟨el_m s n z y, el_m s n x u, ?_, ?_, ?_, ?_⟩
  · rw [← la_s_s, ← h1, la_s_x, g1, la_s_s]
  · rw [el_N_m, el_N_m, Int.mul_assoc, ← h2, Int.mul_assoc, ← g2]
    grind
  · rw [el_N_m]; exact Int.mul_ne_zero g3 h4
  · rw [el_N_m]; exact Int.mul_ne_zero h3 g4
theorem fm_cp.cm {s n : Int} {f g F : fm_F} (h : fm_cp s n f g F) : fm_cp s n g f F := by
  obtain ⟨x, y, h1, h2, h3, h4⟩ := h
  exact ⟨x, y, by rw [la_m_c]; exact h1, by rw [Int.mul_comm g.1]; exact h2, h3, h4⟩
theorem fm_cp.r {s n : Int} {f g F G : fm_F} (h : fm_cp s n f g F) (k : fm_eq s n F G) : fm_cp s n f g G := by
  obtain ⟨x, y, h1, h2, h3, h4⟩ := h
  obtain ⟨z, u, g1, g2, g3, g4⟩ := k
  refine ⟨el_m s n z x, el_m s n y u, ?_, ?_, ?_, ?_⟩
  · rw [← la_s_s, h1, la_s_x, g1, la_s_s]
  · rw [el_N_m, el_N_m, Int.mul_assoc, h2, Int.mul_assoc, ← g2]
    grind
  · rw [el_N_m]; exact Int.mul_ne_zero g3 h3
  · rw [el_N_m]; exact Int.mul_ne_zero h4 g4
theorem fm_cp.l {s n : Int} {f f' g F : fm_F} (h : fm_cp s n f g F) (k : fm_eq s n f f') : fm_cp s n f' g F := by
  obtain ⟨x, y, h1, h2, h3, h4⟩ := h
  obtain ⟨z, u, g1, g2, g3, g4⟩ := k
  refine ⟨el_m s n u x, el_m s n z y, ?_, ?_, ?_, ?_⟩
  · rw [← la_s_s, la_s_x, ← la_s_m, ← g1, la_s_m, la_s_x, h1, la_s_s]
  · rw [el_N_m, el_N_m]
    grind
  · rw [el_N_m]; exact Int.mul_ne_zero g4 h3
  · rw [el_N_m]; exact Int.mul_ne_zero g3 h4
theorem fm_cp.m {s n : Int} {f g g' F : fm_F} (h : fm_cp s n f g F) (k : fm_eq s n g g') : fm_cp s n f g' F := (h.cm.l k).cm
theorem fm_cp.as {s n : Int} {f g h X Y Z : fm_F} (p : fm_cp s n f g X) (q : fm_cp s n X h Z) (r : fm_cp s n g h Y) : fm_cp s n f Y Z := by
  obtain ⟨x, y, h1, h2, h3, h4⟩ := p
  obtain ⟨z, u, g1, g2, g3, g4⟩ := q
  obtain ⟨v, t, k1, k2, k3, k4⟩ := r
  refine ⟨el_m s n z (el_m s n x t), el_m s n v (el_m s n y u), ?_, ?_, ?_, ?_⟩
  · rw [← la_s_s, ← la_s_s, ← la_s_r, ← k1, la_s_r, ← la_m_a, la_s_x s n x v, ← la_s_m s n x, h1, la_s_m, la_s_x s n v y, la_s_x s n z y, la_s_x s n z v, g1, la_s_s, la_s_s, el_m_l, el_m_a]
  · rw [el_N_m, el_N_m, el_N_m, el_N_m]
    grind
  · rw [el_N_m, el_N_m]; exact Int.mul_ne_zero g3 (Int.mul_ne_zero h3 k4)
  · rw [el_N_m, el_N_m]; exact Int.mul_ne_zero k3 (Int.mul_ne_zero h4 g4)
/-- ONE -/
def fm_one (s n : Int) : fm_F := (1, s, -n)
theorem fm_one_disc {D s n : Int} (h : fm_sn D s n) : fm_disc D (fm_one s n) := by
  obtain ⟨h1, h2⟩ := h
  unfold fm_disc fm_one
  dsimp only
  rcases h1 with rfl | rfl <;> omega
theorem fm_one_L (s n : Int) : fm_L s (fm_one s n) = fun _ => True := by
  unfold fm_L fm_one
  dsimp only
  rw [fm_B_of 1 (-n) (B := 0) (by omega)]
  exact la_eq (fun _ _ => trivial) (fun x _ => ⟨x.1, by simp⟩)
theorem fm_cp_one {D s n : Int} {f : fm_F} (h : fm_sn D s n) (hd : fm_disc D f) : fm_cp s n (fm_one s n) f f := by
  obtain ⟨a, b, c⟩ := f
  obtain ⟨hb, hac⟩ := fm_half h hd
  refine ⟨(1, 0), (1, 0), ?_, ?_, by rw [el_N_i]; decide, by rw [el_N_i]; decide⟩
  · rw [la_s_1, la_s_1, fm_one_L]
    unfold fm_L
    generalize fm_B s (a, b, c) = B at hb hac ⊢
    dsimp only
    refine la_eq (fun x hx => hx _ (la_f_C a B) ?_) (fun x hx => ?_)
    · rintro l m - ⟨k, hk⟩
      refine ⟨k * l.1 - k * (B * l.2) - c * (l.2 * m.2), ?_⟩
      unfold el_m
      dsimp only
      rw [hk]
      grind
    · have := la_m_in (s := s) (n := n) (L := fun _ => True) (M := la_f a B) (l := (1, 0)) (m := x) trivial hx
      rw [el_m_1] at this
      exact this
  · unfold fm_one
    dsimp only
    rw [Int.one_mul]
/-- the coefficients have only 1 in common -/
def fm_pr (f : fm_F) : Prop := ∃ i j k : Int, i * f.1 + j * f.2.1 + k * f.2.2 = 1
theorem la_comb {S : el_E → Prop} (h : la_C S) {p q r t : el_E} (hp : S p) (hq : S q) (hr : S r) (ht : S t) (i j k m : Int) : S (i * p.1 + j * q.1 + (k * r.1 + m * t.1), i * p.2 + j * q.2 + (k * r.2 + m * t.2)) :=
  h.add (h.add (h.mul hp i) (h.mul hq j)) (h.add (h.mul hr k) (h.mul ht m))
/-- the set of a form times the set of its inverse -/
theorem la_inv {s n a b c B i j k : Int} (hb : b = 2 * B + s) (hac : B * B + s * B - n = a * c) (hp : i * a + j * b + k * c = 1) : la_m s n (la_f a B) (la_f a (-B - s)) = la_s s n (a, 0) (fun _ => True) := by
  refine la_eq ?_ ?_
  · refine la_m_f (la_s_C (a, 0) ⟨trivial, fun _ _ _ _ => trivial⟩) ⟨(a, 0), trivial, rfl⟩ ⟨(-B - s, 1), trivial, rfl⟩ ⟨(B, 1), trivial, el_m_c s n _ _⟩ ⟨(-c, 0), trivial, ?_⟩
    unfold el_m
    dsimp only
    exact el_ext (by grind) (by grind)
  · rintro x ⟨l, -, rfl⟩
    have hC := la_m_C s n (la_f a B) (la_f a (-B - s))
    have p1 : la_m s n (la_f a B) (la_f a (-B - s)) (el_m s n (a, 0) (a, 0)) := la_m_in (la_f_a _ _) (la_f_a _ _)
    have p2 : la_m s n (la_f a B) (la_f a (-B - s)) (el_m s n (a, 0) (-B - s, 1)) := la_m_in (la_f_a _ _) (la_f_t _ _)
    have p3 : la_m s n (la_f a B) (la_f a (-B - s)) (el_m s n (B, 1) (a, 0)) := la_m_in (la_f_t _ _) (la_f_a _ _)
    have p4 : la_m s n (la_f a B) (la_f a (-B - s)) (el_m s n (B, 1) (-B - s, 1)) := la_m_in (la_f_t _ _) (la_f_t _ _)
    have q1 := la_comb hC p1 p2 p3 p4 i (-j) j (-k)
    unfold el_m at q1
    dsimp only at q1
    have e1 : ((i * (a * a + n * (0 * 0)) + -j * (a * (-B - s) + n * (0 * 1)) + (j * (B * a + n * (1 * 0)) + -k * (B * (-B - s) + n * (1 * 1))), i * (a * 0 + 0 * a + s * (0 * 0)) + -j * (a * 1 + 0 * (-B - s) + s * (0 * 1)) + (j * (B * 0 + 1 * a + s * (1 * 0)) + -k * (B * 1 + 1 * (-B - s) + s * (1 * 1)))) : el_E) = (a, 0) := el_ext (by grind) (by grind)
    rw [e1] at q1
    have q2 := hC.add (hC.mul q1 (l.1 - B * l.2)) (hC.mul p3 l.2)
    unfold el_m at q2 ⊢
    dsimp only at q2 ⊢
    have e2 : (((l.1 - B * l.2) * a + l.2 * (B * a + n * (1 * 0)), (l.1 - B * l.2) * 0 + l.2 * (B * 0 + 1 * a + s * (1 * 0))) : el_E) = (a * l.1 + n * (0 * l.2), a * l.2 + 0 * l.1 + s * (0 * l.2)) := el_ext (by grind) (by grind)
    rw [e2] at q2
    exact q2
def fm_inv (f : fm_F) : fm_F := (f.1, -f.2.1, f.2.2)
theorem fm_inv_disc {D : Int} {f : fm_F} (hd : fm_disc D f) : fm_disc D (fm_inv f) := by
  unfold fm_disc fm_inv at *
  dsimp only
  rw [Int.neg_mul_neg]
  exact hd
theorem fm_inv_pr {f : fm_F} (h : fm_pr f) : fm_pr (fm_inv f) := by
  obtain ⟨i, j, k, e⟩ := h
  exact ⟨i, -j, k, by unfold fm_inv; dsimp only; rw [Int.neg_mul_neg]; exact e⟩
theorem fm_inv_L {D s n : Int} {f : fm_F} (h : fm_sn D s n) (hd : fm_disc D f) : fm_L s (fm_inv f) = la_f f.1 (-fm_B s f - s) := by
  obtain ⟨a, b, c⟩ := f
  obtain ⟨hb, -⟩ := fm_half h hd
  unfold fm_L fm_inv
  dsimp only
  rw [fm_B_of a c (B := -fm_B s (a, b, c) - s) (by omega)]
theorem fm_cp_inv {D w s n : Int} {f : fm_F} (ho : fm_ok D w) (h : fm_sn D s n) (hd : fm_disc D f) (hp : fm_pr f) : fm_cp s n f (fm_inv f) (fm_one s n) := by
  have hL := fm_inv_L h hd
  obtain ⟨a, b, c⟩ := f
  obtain ⟨ha, -⟩ := fm_ne ho hd
  obtain ⟨hb, hac⟩ := fm_half h hd
  obtain ⟨i, j, k, e⟩ := hp
  refine ⟨(1, 0), (a, 0), ?_, ?_, by rw [el_N_i]; decide, by rw [el_N_i]; exact Int.mul_ne_zero ha ha⟩
  · rw [la_s_1, hL, fm_one_L]
    exact la_inv hb hac e
  · rw [el_N_i, el_N_i]
    unfold fm_inv fm_one
    dsimp only
    omega
/-- a factor may be taken away -/
theorem fm_cp_back {D w s n : Int} {f h X : fm_F} (ho : fm_ok D w) (hs : fm_sn D s n) (hf : fm_disc D f) (hd : fm_disc D h) (hp : fm_pr h) (k : fm_cp s n f h X) : fm_cp s n X (fm_inv h) f := by
  have h1 := fm_cp_inv ho hs hd hp
  have h2 := (fm_cp_one hs hf).cm
  -- (f h) h' = f (h h') = f ONE = f
  obtain ⟨x, y, a1, a2, a3, a4⟩ := k
  obtain ⟨z, u, b1, b2, b3, b4⟩ := h1
  obtain ⟨v, t, c1, c2, c3, c4⟩ := h2
  refine ⟨el_m s n v (el_m s n z y), el_m s n x (el_m s n u t), ?_, ?_, ?_, ?_⟩
  · rw [← la_s_s, ← la_s_s, ← la_s_m, ← a1, la_s_m, la_m_a, la_s_x s n z x, ← la_s_r s n z, b1, la_s_r, la_s_x s n v x, la_s_x s n v u, c1, la_s_s, la_s_s, el_m_a]
  · rw [el_N_m, el_N_m, el_N_m, el_N_m]
    unfold fm_one at b2 c2
    dsimp only at b2 c2
    grind
  · rw [el_N_m, el_N_m]; exact Int.mul_ne_zero c3 (Int.mul_ne_zero b3 a4)
  · rw [el_N_m, el_N_m]; exact Int.mul_ne_zero a3 (Int.mul_ne_zero b4 c4)
theorem fm_cp_cancel {D w s n : Int} {f f' h X : fm_F} (ho : fm_ok D w) (hs : fm_sn D s n) (hf : fm_disc D f) (hf' : fm_disc D f') (hd : fm_disc D h) (hp : fm_pr h) (k : fm_cp s n f h X) (k' : fm_cp s n f' h X) : fm_eq s n f f' :=
  (fm_cp_back ho hs hf hd hp k).fn (fm_cp_back ho hs hf' hd hp k')
theorem la_q2 {s n B a a' c' B' e x y z w1 : Int} (hac' : B' * B' + s * B' - n = a' * c') (he : x * a + y * a' + z * (B + B' + s) = e) (hw : x * a * B' + y * a' * B + z * (n + B * B') = e * w1) : e * (B' - w1) = a' * (y * (B' - B) + z * c') := by
  have h1 : e * (B' - w1) = (x * a + y * a' + z * (B + B' + s)) * B' - (x * a * B' + y * a' * B + z * (n + B * B')) := by rw [he, hw, Int.mul_sub]
  have h2 : (x * a + y * a' + z * (B + B' + s)) * B' - (x * a * B' + y * a' * B + z * (n + B * B')) = y * a' * (B' - B) + z * (B' * B' + s * B' - n) := by
    clear h1 he hw hac'
    grind
  rw [h1, h2, hac']
  clear h1 h2 he hw hac'
  grind
theorem la_q3 {s n B a c a' B' e x y z w1 : Int} (hac : B * B + s * B - n = a * c) (he : x * a + y * a' + z * (B + B' + s) = e) (hw : x * a * B' + y * a' * B + z * (n + B * B') = e * w1) : e * (B - w1) = a * (x * (B - B') + z * c) := by
  have h1 : e * (B - w1) = (x * a + y * a' + z * (B + B' + s)) * B - (x * a * B' + y * a' * B + z * (n + B * B')) := by rw [he, hw, Int.mul_sub]
  have h2 : (x * a + y * a' + z * (B + B' + s)) * B - (x * a * B' + y * a' * B + z * (n + B * B')) = x * a * (B - B') + z * (B * B + s * B - n) := by
    clear h1 he hw hac
    grind
  rw [h1, h2, hac]
  clear h1 h2 he hw hac
  grind
theorem la_q4 {s n B a c a' c' B' e x y z w1 : Int} (hac : B * B + s * B - n = a * c) (hac' : B' * B' + s * B' - n = a' * c') (he : x * a + y * a' + z * (B + B' + s) = e) (hw : x * a * B' + y * a' * B + z * (n + B * B') = e * w1) : e * (B * B' + n) = (B + B' + s) * (e * w1) - a * a' * (x * c' + y * c) := by
  have h1 : e * (B * B' + n) = (x * a + y * a' + z * (B + B' + s)) * (B * B' + n) := by rw [he]
  have h2 : (x * a + y * a' + z * (B + B' + s)) * (B * B' + n) = (B + B' + s) * (x * a * B' + y * a' * B + z * (n + B * B')) - x * a * (B' * B' + s * B' - n) - y * a' * (B * B + s * B - n) := by
    clear h1 he hw hac hac'
    grind
  rw [h1, h2, hac, hac', hw]
  clear h1 h2 he hw hac hac'
  grind
/-- the set of the product by its formula: e goes into a, a' and the half sum S of b and b' -/
theorem la_prod {s n a c B a' c' B' e x y z a1 a1' S1 w1 i j k : Int} (hac : B * B + s * B - n = a * c) (hac' : B' * B' + s * B' - n = a' * c') (ha : a = e * a1) (ha' : a' = e * a1') (hS : B + B' + s = e * S1) (he0 : e ≠ 0) (he : x * a + y * a' + z * (B + B' + s) = e) (hw : x * a * B' + y * a' * B + z * (n + B * B') = e * w1) (hp : i * a + j * (2 * B + s) + k * c = 1) : la_s s n (e, 0) (la_f (a1 * a1') w1) = la_m s n (la_f a B) (la_f a' B') := by
  have hC := la_m_C s n (la_f a B) (la_f a' B')
  have p1 : la_m s n (la_f a B) (la_f a' B') (el_m s n (a, 0) (a', 0)) := la_m_in (la_f_a _ _) (la_f_a _ _)
  have p2 : la_m s n (la_f a B) (la_f a' B') (el_m s n (a, 0) (B', 1)) := la_m_in (la_f_a _ _) (la_f_t _ _)
  have p3 : la_m s n (la_f a B) (la_f a' B') (el_m s n (B, 1) (a', 0)) := la_m_in (la_f_t _ _) (la_f_a _ _)
  have p4 : la_m s n (la_f a B) (la_f a' B') (el_m s n (B, 1) (B', 1)) := la_m_in (la_f_t _ _) (la_f_t _ _)
  have P1 : el_m s n (a, 0) (a', 0) = (a * a', 0) := by unfold el_m; exact el_ext (by simp) (by simp)
  have P2 : el_m s n (a, 0) (B', 1) = (a * B', a) := by unfold el_m; exact el_ext (by simp) (by simp)
  have P3 : el_m s n (B, 1) (a', 0) = (a' * B, a') := by unfold el_m; exact el_ext (by simp [Int.mul_comm]) (by simp)
  have P4 : el_m s n (B, 1) (B', 1) = (B * B' + n, B + B' + s) := by unfold el_m; exact el_ext (by simp) (by simp)
  have E0 : ∀ u v : Int, el_m s n (e, 0) (u, v) = (e * u, e * v) := by
    intro u v
    unfold el_m
    exact el_ext (by simp) (by simp)
  refine la_eq ?_ ?_
  · rintro q ⟨l, hl, rfl⟩
    refine la_f_in (S := fun z => la_m s n (la_f a B) (la_f a' B') (el_m s n (e, 0) z)) ⟨?_, fun p q hp hq => ?_⟩ ?_ ?_ l hl
    · show la_m s n _ _ (el_m s n (e, 0) (0, 0))
      rw [el_m_0]
      exact hC.1
    · show la_m s n _ _ (el_m s n (e, 0) (el_s p q))
      rw [el_m_s]
      exact hC.2 _ _ hp hq
    · have q1 := la_comb hC p1 p2 p3 p4 (i * a1 + j * S1) (-(j * a1')) (j * a1 + k * S1) (-(k * a1'))
      rw [P1, P2, P3, P4] at q1
      dsimp only at q1
      have e1 : (((i * a1 + j * S1) * (a * a') + -(j * a1') * (a * B') + ((j * a1 + k * S1) * (a' * B) + -(k * a1') * (B * B' + n)), (i * a1 + j * S1) * 0 + -(j * a1') * a + ((j * a1 + k * S1) * a' + -(k * a1') * (B + B' + s))) : el_E) = el_m s n (e, 0) (a1 * a1', 0) := by
        rw [E0]
        have t1 : e * (a1 * a1') = e * (a1 * a1') * (i * a + j * (2 * B + s) + k * c) := by rw [hp, Int.mul_one]
        have hB' : B' = e * S1 - B - s := by omega
        have hn : n = B * B + s * B - e * a1 * c := by rw [← ha]; omega
        refine el_ext ?_ ?_
        · rw [t1]
          clear t1 hp hw he hac hac' q1 p1 p2 p3 p4 P1 P2 P3 P4 E0 hC hS
          subst ha
          subst ha'
          subst hB'
          subst hn
          grind
        · clear t1 hp hw he hac hac' q1 p1 p2 p3 p4 P1 P2 P3 P4 E0 hC hn
          rw [hS]
          subst ha
          subst ha'
          clear hS hB'
          grind
      rw [e1] at q1
      exact q1
    · have q1 := la_comb hC p1 p2 p3 p4 0 x y z
      rw [P1, P2, P3, P4] at q1
      dsimp only at q1
      have e1 : ((0 * (a * a') + x * (a * B') + (y * (a' * B) + z * (B * B' + n)), 0 * 0 + x * a + (y * a' + z * (B + B' + s))) : el_E) = el_m s n (e, 0) (w1, 1) := by
        rw [E0, ← hw]
        refine el_ext ?_ ?_
        · clear hp hw he hac hac' q1 p1 p2 p3 p4 P1 P2 P3 P4 E0 hC hS ha ha'
          grind
        · omega
      rw [e1] at q1
      exact q1
  · have w2 : B' - w1 = a1' * (y * (B' - B) + z * c') := fm_cancel he0 (by
      rw [la_q2 hac' he hw, ha', Int.mul_assoc])
    have w3 : B - w1 = a1 * (x * (B - B') + z * c) := fm_cancel he0 (by
      rw [la_q3 hac he hw, ha, Int.mul_assoc])
    have w4 : B * B' + n = e * (S1 * w1 - a1 * a1' * (x * c' + y * c)) := fm_cancel he0 (by
      rw [la_q4 hac hac' he hw, hS, ha, ha']
      clear hp hw he hac hac' p1 p2 p3 p4 P1 P2 P3 P4 E0 hC hS ha ha' w2 w3
      grind)
    refine la_m_f (la_s_C (e, 0) (la_f_C _ _)) ?_ ?_ ?_ ?_
    · rw [P1]
      refine ⟨(a1 * a1' * e, 0), ⟨e, by dsimp only; omega⟩, ?_⟩
      rw [E0, ha, ha']
      clear hp hw he hac hac' p1 p2 p3 p4 P1 P2 P3 P4 E0 hC hS ha ha' w2 w3 w4
      exact el_ext (by grind) (by grind)
    · rw [P2]
      refine ⟨(a1 * B', a1), ⟨y * (B' - B) + z * c', ?_⟩, ?_⟩
      · dsimp only
        have : B' = w1 + a1' * (y * (B' - B) + z * c') := by omega
        generalize y * (B' - B) + z * c' = q at this ⊢
        rw [this]
        clear hp hw he hac hac' p1 p2 p3 p4 P1 P2 P3 P4 E0 hC hS ha ha' w2 w3 w4 this
        grind
      · rw [E0, ha]
        clear hp hw he hac hac' p1 p2 p3 p4 P1 P2 P3 P4 E0 hC hS ha ha' w2 w3 w4
        exact el_ext (by grind) (by grind)
    · rw [P3]
      refine ⟨(a1' * B, a1'), ⟨x * (B - B') + z * c, ?_⟩, ?_⟩
      · dsimp only
        have : B = w1 + a1 * (x * (B - B') + z * c) := by omega
        generalize x * (B - B') + z * c = q at this ⊢
        rw [this]
        clear hp hw he hac hac' p1 p2 p3 p4 P1 P2 P3 P4 E0 hC hS ha ha' w2 w3 w4 this
        grind
      · rw [E0, ha']
        clear hp hw he hac hac' p1 p2 p3 p4 P1 P2 P3 P4 E0 hC hS ha ha' w2 w3 w4
        exact el_ext (by grind) (by grind)
    · rw [P4]
      refine ⟨(S1 * w1 - a1 * a1' * (x * c' + y * c), S1), ⟨-(x * c' + y * c), ?_⟩, ?_⟩
      · dsimp only
        clear hp hw he hac hac' p1 p2 p3 p4 P1 P2 P3 P4 E0 hC hS ha ha' w2 w3 w4
        grind
      · rw [E0, ← w4, ← hS]
/-- the third coefficient of the product is whole -/
theorem fm_prod_c {s n a c B a' c' B' e x y z a1 a1' w1 : Int} (hac : B * B + s * B - n = a * c) (hac' : B' * B' + s * B' - n = a' * c') (ha : a = e * a1) (ha' : a' = e * a1') (he0 : e ≠ 0) (he : x * a + y * a' + z * (B + B' + s) = e) (hw : x * a * B' + y * a' * B + z * (n + B * B') = e * w1) : w1 * w1 + s * w1 - n = a1 * a1' * (x * x * (a * c') + y * y * (a' * c) + z * z * (c * c') + x * y * (2 * (B * B') + s * (B + B') - 2 * n) + x * z * (c' * (2 * B + s)) + y * z * (c * (2 * B' + s))) := by
  have h1 : (e * w1) * (e * w1) + s * ((e * w1) * e) - n * (e * e) = a * a' * (x * x * (a * c') + y * y * (a' * c) + z * z * (c * c') + x * y * (2 * (B * B') + s * (B + B') - 2 * n) + x * z * (c' * (2 * B + s)) + y * z * (c * (2 * B' + s))) := by
    rw [← hw]
    have hn : n = B * B + s * B - a * c := by omega
    clear hw ha ha' he0
    subst hn
    subst he
    grind
  refine fm_cancel (Int.mul_ne_zero he0 he0) ?_
  rw [ha, ha'] at h1
  rw [ha, ha']
  grind
/-- a product of forms whose coefficients have only 1 in common is such a form -/
theorem fm_pr_cp {D w s n : Int} {f g F : fm_F} (ho : fm_ok D w) (hs : fm_sn D s n) (hf : fm_disc D f) (hg : fm_disc D g) (hF : fm_disc D F) (pf : fm_pr f) (pg : fm_pr g) {e : Int} (he0 : e ≠ 0) (hL : la_s s n (e, 0) (fm_L s F) = la_m s n (fm_L s f) (fm_L s g)) (hA : F.1 * (e * e) = f.1 * g.1) : fm_pr F := by
  have jL : ∀ {q : fm_F}, fm_disc D q → la_j s (fm_L s q) = fm_L s (fm_inv q) := by
    intro q hq
    rw [fm_inv_L hs hq]
    unfold fm_L
    refine la_eq ?_ ?_
    · rintro x ⟨k, hk⟩
      unfold el_j at hk
      dsimp only at hk
      exact ⟨k, by grind⟩
    · rintro x ⟨k, hk⟩
      refine ⟨k, ?_⟩
      unfold el_j
      dsimp only
      grind
  have jc := la_j_m s n (fm_L s f) (fm_L s g)
  rw [← hL, la_j_s, jL hf, jL hg, jL hF] at jc
  have je : el_j s (e, 0) = (e, 0) := by
    unfold el_j
    exact el_ext (by grind) (by grind)
  rw [je] at jc
  have inv : ∀ {q : fm_F}, fm_disc D q → fm_pr q → la_m s n (fm_L s q) (fm_L s (fm_inv q)) = la_s s n (q.1, 0) (fun _ => True) := by
    intro q hq pq
    rw [fm_inv_L hs hq]
    obtain ⟨a, b, c⟩ := q
    obtain ⟨hb, hac⟩ := fm_half hs hq
    obtain ⟨i, j, k, e⟩ := pq
    exact la_inv hb hac e
  -- e e L_F L_F' = a a' O
  have all : la_m s n (fun _ => True) (fun _ => True) = fun _ => True := la_eq (fun _ _ => trivial) (fun x _ => by
    have := la_m_in (s := s) (n := n) (L := fun _ => True) (M := fun _ => True) (l := (1, 0)) (m := x) trivial trivial
    rw [el_m_1] at this
    exact this)
  have h1 : la_s s n (e, 0) (la_s s n (e, 0) (la_m s n (fm_L s F) (fm_L s (fm_inv F)))) = la_s s n (f.1, 0) (la_s s n (g.1, 0) (fun _ => True)) := by
    rw [← la_s_m, ← la_s_r, hL, ← jc, la_m_a, ← la_m_a s n (fm_L s g), la_m_c s n (fm_L s g), la_m_a s n (fm_L s (fm_inv f)), ← la_m_a, inv hf pf, inv hg pg, la_s_m, la_s_r, all]
  have h2 : la_s s n (f.1, 0) (la_s s n (g.1, 0) (fun _ => True)) = la_s s n (e, 0) (la_s s n (e, 0) (la_s s n (F.1, 0) (fun _ => True))) := by
    rw [la_s_s, la_s_s, la_s_s]
    refine congrArg (fun v => la_s s n v (fun _ => True)) ?_
    unfold el_m
    dsimp only
    exact el_ext (by grind) (by grind)
  have h3 := la_s_i he0 (la_s_i he0 (h1.trans h2))
  have h4 : la_m s n (fm_L s F) (fm_L s (fm_inv F)) (F.1, 0) := by
    rw [h3]
    refine ⟨(1, 0), trivial, ?_⟩
    unfold el_m
    dsimp only
    exact el_ext (by grind) (by grind)
  rw [fm_inv_L hs hF] at h4
  obtain ⟨A, b, C⟩ := F
  obtain ⟨hA0, -⟩ := fm_ne ho hF
  obtain ⟨hb, hac⟩ := fm_half hs hF
  unfold fm_L at h4
  generalize fm_B s (A, b, C) = B at hb hac h4
  dsimp only at h4
  have h5 := la_m_f (S := fun x => ∃ i j k l : Int, x = (A * A * i + A * B * j + A * (-B - s) * k - A * C * l, A * j + A * k)) ⟨⟨0, 0, 0, 0, el_ext (by grind) (by grind)⟩, ?_⟩ ⟨1, 0, 0, 0, ?_⟩ ⟨0, 0, 1, 0, ?_⟩ ⟨0, 1, 0, 0, ?_⟩ ⟨0, 0, 0, 1, ?_⟩ _ h4
  · obtain ⟨i, j, k, l, h6⟩ := h5
    have h7 := congrArg Prod.fst h6
    have h8 := congrArg Prod.snd h6
    dsimp only at h7 h8
    have hk : k = -j := by
      have : A * (j + k) = A * 0 := by grind
      have := fm_cancel hA0 this
      omega
    subst hk
    refine ⟨i, j, -l, ?_⟩
    dsimp only
    exact fm_cancel hA0 (by grind)
  · rintro x y ⟨i, j, k, l, rfl⟩ ⟨i', j', k', l', rfl⟩
    refine ⟨i - i', j - j', k - k', l - l', ?_⟩
    unfold el_s
    dsimp only
    exact el_ext (by grind) (by grind)
  · unfold el_m
    dsimp only
    exact el_ext (by grind) (by grind)
  · unfold el_m
    dsimp only
    exact el_ext (by grind) (by grind)
  · unfold el_m
    dsimp only
    exact el_ext (by grind) (by grind)
  · unfold el_m
    dsimp only
    exact el_ext (by grind) (by grind)
end
section
/-! Reduced forms: below 0 one in each class; above 0 a cycle of steps in each class; names. -/
def fm_red (D w : Int) (g : fm_F) : Prop := if D < 0 then fm_ab g.2.1 ≤ g.1 ∧ g.1 ≤ g.2.2 ∧ (0 ≤ g.2.1 ∨ (-g.2.1 ≠ g.1 ∧ g.1 ≠ g.2.2)) else 0 < g.2.1 ∧ g.2.1 ≤ w ∧ w < 2 * fm_ab g.1 + g.2.1 ∧ 2 * fm_ab g.1 - g.2.1 ≤ w
theorem fm_red_lt {D w a b c : Int} (h : D < 0) : fm_red D w (a, b, c) ↔ fm_ab b ≤ a ∧ a ≤ c ∧ (0 ≤ b ∨ (-b ≠ a ∧ a ≠ c)) := by
  unfold fm_red
  rw [if_pos h]
theorem fm_red_ge {D w a b c : Int} (h : ¬ D < 0) : fm_red D w (a, b, c) ↔ 0 < b ∧ b ≤ w ∧ w < 2 * fm_ab a + b ∧ 2 * fm_ab a - b ≤ w := by
  unfold fm_red
  rw [if_neg h]
theorem fm_ok_pos {D w : Int} (h : fm_ok D w) (hD : ¬ D < 0) : 0 ≤ w ∧ w * w < D ∧ D < (w + 1) * (w + 1) := by
  rcases h with h | h
  · exact absurd h.1 hD
  · exact h
theorem fm_ok_neg {D w : Int} (h : fm_ok D w) (hD : D < 0) : w = -1 := by
  rcases h with h | h
  · exact h.2
  · have := Int.mul_nonneg h.1 h.1
    omega
theorem fm_ab_mul (x y : Int) : fm_ab (x * y) = fm_ab x * fm_ab y := by
  rcases fm_ab_cases x with ⟨p, e⟩ | ⟨p, e⟩ <;> rcases fm_ab_cases y with ⟨q, f⟩ | ⟨q, f⟩ <;> rw [e, f] <;> rcases fm_ab_cases (x * y) with ⟨r, g⟩ | ⟨r, g⟩ <;> rw [g]
  · have := Int.mul_nonneg p q; omega
  · have := Int.mul_nonneg p (show 0 ≤ -y by omega)
    have h : x * -y = -(x * y) := Int.mul_neg x y
    have : x * y = 0 := by omega
    rw [h, this]; rfl
  · exact (Int.mul_neg x y).symm
  · have := Int.mul_nonneg (show 0 ≤ -x by omega) q
    have h : -x * y = -(x * y) := Int.neg_mul x y
    have : x * y = 0 := by omega
    rw [h, this]; rfl
  · exact (Int.neg_mul x y).symm
  · exact (Int.neg_mul_neg x y).symm
  · have := Int.mul_nonneg (show 0 ≤ -x by omega) (show 0 ≤ -y by omega)
    rw [Int.neg_mul_neg] at this
    omega
-- ===== above 0 =====
/-- in a form whose b is below the root a and c have different signs -/
theorem fm_opp {D w a b c : Int} (h : fm_ok D w) (hd : fm_disc D (a, b, c)) (hb : fm_ab b ≤ w) : a * c < 0 ∧ 4 * (fm_ab a * fm_ab c) = D - b * b := by
  have h1 := fm_in h hb
  unfold fm_disc at hd
  dsimp only at hd
  have h2 : a * c < 0 := by omega
  refine ⟨h2, ?_⟩
  rw [← fm_ab_mul]
  rcases fm_ab_cases (a * c) with k | k <;> omega
theorem fm_red_opp {D w a b c : Int} (h : fm_ok D w) (hD : ¬ D < 0) (hd : fm_disc D (a, b, c)) (hr : fm_red D w (a, b, c)) : a * c < 0 ∧ 4 * (fm_ab a * fm_ab c) = D - b * b := by
  rw [fm_red_ge hD] at hr
  exact fm_opp h hd (by rcases fm_ab_cases b with k | k <;> omega)
/-- c lies as a does -/
theorem fm_red_c {D w a b c : Int} (h : fm_ok D w) (hD : ¬ D < 0) (hd : fm_disc D (a, b, c)) (hr : fm_red D w (a, b, c)) : w < 2 * fm_ab c + b ∧ 2 * fm_ab c - b ≤ w := by
  obtain ⟨w0, w1, w2⟩ := fm_ok_pos h hD
  obtain ⟨-, h4⟩ := fm_red_opp h hD hd hr
  obtain ⟨ha0, hc0⟩ := fm_ne h hd
  rw [fm_red_ge hD] at hr
  obtain ⟨r1, r2, r3, r4⟩ := hr
  have hA := fm_ab_pos ha0
  have hC := fm_ab_pos hc0
  constructor
  · rcases Int.lt_or_le w (2 * fm_ab c + b) with k | k
    · exact k
    · exfalso
      have m := Int.mul_le_mul (show 2 * fm_ab a ≤ w + b by omega) (show 2 * fm_ab c ≤ w - b by omega) (by omega) (by omega)
      have e1 : 2 * fm_ab a * (2 * fm_ab c) = 4 * (fm_ab a * fm_ab c) := by grind
      have e2 : (w + b) * (w - b) = w * w - b * b := by grind
      omega
  · rcases Int.lt_or_le w (2 * fm_ab c - b) with k | k
    · exfalso
      have m := Int.mul_le_mul (show w + 1 - b ≤ 2 * fm_ab a by omega) (show w + 1 + b ≤ 2 * fm_ab c by omega) (by omega) (by omega)
      have e1 : 2 * fm_ab a * (2 * fm_ab c) = 4 * (fm_ab a * fm_ab c) := by grind
      have e2 : (w + 1 - b) * (w + 1 + b) = (w + 1) * (w + 1) - b * b := by grind
      omega
    · exact k
theorem fm_red_rho {D w : Int} {g : fm_F} (h : fm_ok D w) (hD : ¬ D < 0) (hd : fm_disc D g) (hr : fm_red D w g) : fm_red D w (fm_rho D w g) := by
  obtain ⟨a, b, c⟩ := g
  obtain ⟨ha0, hc0⟩ := fm_ne h hd
  have hC := fm_ab_pos hc0
  obtain ⟨c1, c2⟩ := fm_red_c h hD hd hr
  obtain ⟨k, hk, k1, k2⟩ := fm_rho_ex (w := w) hc0 hd
  rw [hk, fm_red_ge hD]
  rw [fm_red_ge hD] at hr
  have htop : fm_top w c = w := by rcases fm_top_cases w c with q | q <;> omega
  rw [htop] at k1 k2
  -- -b + 2 |c| is not above w, so the new middle is not below it
  have hge : 2 * fm_ab c - b ≤ -b + 2 * c * k := by
    rcases Int.lt_or_le (-b + 2 * c * k) (2 * fm_ab c - b) with q | q
    · exfalso
      have := fm_small (c := c) (k := k) (by omega) (by omega)
      omega
    · exact q
  refine ⟨?_, k2, by omega, by omega⟩
  rcases Int.lt_or_le b (2 * fm_ab c) with q | q <;> omega
theorem fm_red_inj {D w : Int} {g g' : fm_F} (h : fm_ok D w) (hD : ¬ D < 0) (hd : fm_disc D g) (hr : fm_red D w g) (hd' : fm_disc D g') (hr' : fm_red D w g') (he : fm_rho D w g = fm_rho D w g') : g = g' := by
  obtain ⟨a, b, c⟩ := g
  obtain ⟨a', b', c'⟩ := g'
  obtain ⟨ha0, hc0⟩ := fm_ne h hd
  have hC := fm_ab_pos hc0
  have hcc : c = c' := congrArg Prod.fst he
  subst hcc
  obtain ⟨c1, c2⟩ := fm_red_c h hD hd hr
  obtain ⟨c3, c4⟩ := fm_red_c h hD hd' hr'
  obtain ⟨k, hk, -, -⟩ := fm_rho_ex (w := w) hc0 hd
  obtain ⟨k', hk', -, -⟩ := fm_rho_ex (w := w) hc0 hd'
  rw [hk, hk'] at he
  have hbb : -b + 2 * c * k = -b' + 2 * c * k' := congrArg (fun x => x.2.1) he
  rw [fm_red_ge hD] at hr hr'
  have hb : b = b' := by
    have e : 2 * c * (k - k') = b - b' := by grind
    have := fm_small (c := c) (k := k - k') (by omega) (by omega)
    omega
  subst hb
  unfold fm_disc at hd hd'
  dsimp only at hd hd'
  have : c * a = c * a' := by grind
  rw [fm_cancel hc0 this]
theorem fm_red_it {D w : Int} (h : fm_ok D w) (hD : ¬ D < 0) (n : Nat) {g : fm_F} (hd : fm_disc D g) (hr : fm_red D w g) : fm_red D w (fm_it D w n g) := by
  induction n generalizing g with
  | zero => exact hr
  | succ n ih => exact ih (fm_rho_disc h hd) (fm_red_rho h hD hd hr)
theorem fm_red_it_inj {D w : Int} (h : fm_ok D w) (hD : ¬ D < 0) (n : Nat) {g g' : fm_F} (hd : fm_disc D g) (hr : fm_red D w g) (hd' : fm_disc D g') (hr' : fm_red D w g') (he : fm_it D w n g = fm_it D w n g') : g = g' := by
  induction n generalizing g g' with
  | zero => exact he
  | succ n ih => exact fm_red_inj h hD hd hr hd' hr' (ih (fm_rho_disc h hd) (fm_red_rho h hD hd hr) (fm_rho_disc h hd') (fm_red_rho h hD hd' hr') he)
/-- if all N + 1 first numbers are below N, two of them are equal -/
theorem fm_pigeon : ∀ (N : Nat) (f : Nat → Nat), (∀ i, i ≤ N → f i < N) → ∃ i j, i < j ∧ j ≤ N ∧ f i = f j := by
  intro N
  induction N with
  | zero =>
    intro f h
    exact absurd (h 0 (Nat.le_refl 0)) (by omega)
  | succ N ih =>
    intro f h
    by_cases hx : ∃ i, i ≤ N ∧ f i = f (N + 1)
    · obtain ⟨i, h1, h2⟩ := hx
      exact ⟨i, N + 1, by omega, Nat.le_refl _, h2⟩
    · have hne : ∀ i, i ≤ N → f i ≠ f (N + 1) := fun i hi e => hx ⟨i, hi, e⟩
      have hl := h (N + 1) (Nat.le_refl _)
      obtain ⟨i, j, h1, h2, h3⟩ := ih (fun i => if f (N + 1) < f i then f i - 1 else f i) (fun i hi => by
        have a1 := h i (by omega)
        have a2 := hne i hi
        split <;> omega)
      refine ⟨i, j, h1, by omega, ?_⟩
      have a1 := hne i (by omega)
      have a2 := hne j h2
      split at h3 <;> split at h3 <;> omega
/-- a number of a reduced form above 0 -/
def fm_cd (w : Int) (g : fm_F) : Int := 2 * (g.2.1 / 2 * (g.2.1 / 2 - 1) + (g.2.1 % 2) * (g.2.1 / 2) + (2 * fm_ab g.1 - (w - g.2.1) - 1) / 2) + (if g.1 < 0 then 1 else 0)
theorem fm_cd_lt {D w : Int} {g : fm_F} (hw : w ≤ 1023) (hD : ¬ D < 0) (hr : fm_red D w g) : 0 ≤ fm_cd w g ∧ fm_cd w g < 524288 := by
  obtain ⟨a, b, c⟩ := g
  rw [fm_red_ge hD] at hr
  unfold fm_cd
  dsimp only
  obtain ⟨i, hi⟩ : ∃ i, i = b / 2 := ⟨_, rfl⟩
  obtain ⟨j, hj⟩ : ∃ j, j = (2 * fm_ab a - (w - b) - 1) / 2 := ⟨_, rfl⟩
  rw [← hi, ← hj]
  have h1 : i * (i - 1) ≤ 511 * 510 := by
    rcases Int.lt_or_le 0 i with k | k
    · exact Int.mul_le_mul (by omega) (by omega) (by omega) (by omega)
    · have : i = 0 := by omega
      rw [this]; decide
  have h2 : 0 ≤ i * (i - 1) := by
    rcases Int.lt_or_le 0 i with k | k
    · exact Int.mul_nonneg (by omega) (by omega)
    · have : i = 0 := by omega
      rw [this]; decide
  rcases Int.emod_two_eq b with k | k <;> rw [k] <;> split <;> omega
theorem fm_cd_inj {D w : Int} {g g' : fm_F} (h : fm_ok D w) (hD : ¬ D < 0) (hd : fm_disc D g) (hd' : fm_disc D g') (hr : fm_red D w g) (hr' : fm_red D w g') (he : fm_cd w g = fm_cd w g') : g = g' := by
  obtain ⟨a, b, c⟩ := g
  obtain ⟨a', b', c'⟩ := g'
  obtain ⟨ha0, hc0⟩ := fm_ne h hd
  rw [fm_red_ge hD] at hr hr'
  unfold fm_cd at he
  dsimp only at he
  have hpar : b % 2 = b' % 2 := by
    unfold fm_disc at hd hd'
    dsimp only at hd hd'
    obtain ⟨q, hq⟩ : ∃ q, q = b / 2 := ⟨_, rfl⟩
    obtain ⟨q', hq'⟩ : ∃ q, q = b' / 2 := ⟨_, rfl⟩
    rcases Int.emod_two_eq b with k | k <;> rcases Int.emod_two_eq b' with k' | k'
    · omega
    · have e1 : b * b = 4 * (q * q) := by rw [show b = 2 * q by omega]; grind
      have e2 : b' * b' = 4 * (q' * q' + q') + 1 := by rw [show b' = 2 * q' + 1 by omega]; grind
      omega
    · have e1 : b * b = 4 * (q * q + q) + 1 := by rw [show b = 2 * q + 1 by omega]; grind
      have e2 : b' * b' = 4 * (q' * q') := by rw [show b' = 2 * q' by omega]; grind
      omega
    · omega
  obtain ⟨i, hi⟩ : ∃ i, i = b / 2 := ⟨_, rfl⟩
  obtain ⟨i', hi'⟩ : ∃ i, i = b' / 2 := ⟨_, rfl⟩
  obtain ⟨j, hj⟩ : ∃ j, j = (2 * fm_ab a - (w - b) - 1) / 2 := ⟨_, rfl⟩
  obtain ⟨j', hj'⟩ : ∃ j, j = (2 * fm_ab a' - (w - b') - 1) / 2 := ⟨_, rfl⟩
  obtain ⟨t, ht⟩ : ∃ t, t = b % 2 := ⟨_, rfl⟩
  rw [← hpar, ← hi, ← hi', ← hj, ← hj', ← ht] at he
  have hii : i = i' := by
    rcases Int.lt_trichotomy i i' with k | k | k
    · exfalso
      have m := Int.mul_le_mul (show i + 1 ≤ i' by omega) (show i ≤ i' - 1 by omega) (by omega) (by omega)
      have e1 : (i + 1) * i = i * (i - 1) + 2 * i := by grind
      have m2 := Int.mul_le_mul_of_nonneg_left (show i + 1 ≤ i' by omega) (show 0 ≤ t by omega)
      have e2 : t * (i + 1) = t * i + t := by grind
      split at he <;> split at he <;> omega
    · exact k
    · exfalso
      have m := Int.mul_le_mul (show i' + 1 ≤ i by omega) (show i' ≤ i - 1 by omega) (by omega) (by omega)
      have e1 : (i' + 1) * i' = i' * (i' - 1) + 2 * i' := by grind
      have m2 := Int.mul_le_mul_of_nonneg_left (show i' + 1 ≤ i by omega) (show 0 ≤ t by omega)
      have e2 : t * (i' + 1) = t * i' + t := by grind
      split at he <;> split at he <;> omega
  subst hii
  have hb : b = b' := by omega
  subst hb
  have hjt : fm_ab a = fm_ab a' ∧ (a < 0 ↔ a' < 0) := by
    split at he <;> split at he
    · exact ⟨by omega, by omega⟩
    · exfalso; omega
    · exfalso; omega
    · exact ⟨by omega, by omega⟩
  have ha : a = a' := by rcases fm_ab_cases a with k | k <;> rcases fm_ab_cases a' with k' | k' <;> omega
  subst ha
  unfold fm_disc at hd hd'
  dsimp only at hd hd'
  have : a * c = a * c' := by omega
  rw [fm_cancel ha0 this]
/-- the steps from a reduced form come back to it -/
theorem fm_period {D w : Int} {g : fm_F} (h : fm_ok D w) (hw : w ≤ 1023) (hD : ¬ D < 0) (hd : fm_disc D g) (hr : fm_red D w g) : ∃ m : Nat, 0 < m ∧ m ≤ 524288 ∧ fm_it D w m g = g := by
  obtain ⟨i, j, h1, h2, h3⟩ := fm_pigeon 524288 (fun i => (fm_cd w (fm_it D w i g)).toNat) (fun i _ => by
    have := fm_cd_lt hw hD (fm_red_it h hD i hd hr)
    omega)
  have e1 := fm_cd_lt hw hD (fm_red_it h hD i hd hr)
  have e2 := fm_cd_lt hw hD (fm_red_it h hD j hd hr)
  have e3 := fm_cd_inj h hD (fm_it_disc h i hd) (fm_it_disc h j hd) (fm_red_it h hD i hd hr) (fm_red_it h hD j hd hr) (by omega)
  refine ⟨j - i, by omega, by omega, ?_⟩
  have e4 : fm_it D w j g = fm_it D w i (fm_it D w (j - i) g) := by
    rw [← fm_it_add]
    congr 1
    omega
  rw [e4] at e3
  exact (fm_red_it_inj h hD i hd hr (fm_it_disc h _ hd) (fm_red_it h hD _ hd hr) e3).symm
theorem fm_it_mul {D w : Int} {m : Nat} {g : fm_F} (he : fm_it D w m g = g) (k : Nat) : fm_it D w (m * k) g = g := by
  induction k with
  | zero => rfl
  | succ k ih => rw [Nat.mul_succ, fm_it_add, ih, he]
/-- merging reduced forms above 0 lie on one cycle -/
theorem fm_cycle {D w : Int} {g h : fm_F} (ho : fm_ok D w) (hw : w ≤ 1023) (hD : ¬ D < 0) (hg : fm_disc D g) (rg : fm_red D w g) (hh : fm_disc D h) (rh : fm_red D w h) (hm : fm_mg D w g h) : ∃ i : Nat, fm_it D w i g = h := by
  obtain ⟨i, j, e⟩ := hm
  obtain ⟨m, m0, -, hmm⟩ := fm_period ho hw hD hh rh
  -- go on from both until the second one is at home
  have hj : j ≤ m * j := Nat.le_mul_of_pos_left j m0
  refine ⟨i + (m * j - j), ?_⟩
  rw [fm_it_add, e, ← fm_it_add, show j + (m * j - j) = m * j by omega, fm_it_mul hmm]
-- ===== below 0 =====
theorem fm_neg_ac {D a b c : Int} (hD : D < 0) (hd : fm_disc D (a, b, c)) : 0 < a * c := by
  unfold fm_disc at hd
  dsimp only at hd
  have := fm_sq_le (Int.le_refl 0) (show 0 ≤ fm_ab b by rcases fm_ab_cases b with k | k <;> omega)
  rw [fm_ab_sq] at this
  omega
theorem fm_neg_it {D w a b c : Int} (h : fm_ok D w) (hD : D < 0) (hd : fm_disc D (a, b, c)) (hr : fm_red D w (a, b, c)) (n : Nat) : fm_it D w n (a, b, c) = (a, b, c) ∨ fm_it D w n (a, b, c) = (c, -b, a) := by
  have hw := fm_ok_neg h hD
  obtain ⟨ha0, hc0⟩ := fm_ne h hd
  have hac := fm_neg_ac hD hd
  have hr' := hr
  rw [fm_red_lt hD] at hr'
  obtain ⟨r1, r2, r3⟩ := hr'
  have ha1 : 0 < a := by rcases fm_ab_cases b with k | k <;> omega
  have hA : fm_ab a = a := by rcases fm_ab_cases a with k | k <;> omega
  have hC : fm_ab c = c := by rcases fm_ab_cases c with k | k <;> omega
  have ta : fm_top w a = a := by rcases fm_top_cases w a with k | k <;> omega
  have tc : fm_top w c = c := by rcases fm_top_cases w c with k | k <;> omega
  have s1 : fm_rho D w (c, -b, a) = (a, b, c) := by
    have r1 : fm_rho D w (c, -b, a) = (a, - -b + 2 * a * 0, c - -b * 0 + a * (0 * 0)) := fm_rho_of (k := 0) ha0 (fm_S_disc hd) (by rcases fm_ab_cases b with k | k <;> omega) (by rcases fm_ab_cases b with k | k <;> omega)
    rw [r1]
    exact fm_ext rfl (by omega) (by omega)
  have s2 : fm_rho D w (a, b, c) = (a, b, c) ∨ fm_rho D w (a, b, c) = (c, -b, a) := by
    by_cases q : b = c
    · left
      have hab : a = b := by rcases fm_ab_cases b with k | k <;> omega
      have r1 : fm_rho D w (a, b, c) = (c, -b + 2 * c * 1, a - b * 1 + c * (1 * 1)) := fm_rho_of (k := 1) hc0 hd (by omega) (by omega)
      rw [r1]
      exact fm_ext (by omega) (by omega) (by omega)
    · right
      have r1 : fm_rho D w (a, b, c) = (c, -b + 2 * c * 0, a - b * 0 + c * (0 * 0)) := fm_rho_of (k := 0) hc0 hd (by rcases fm_ab_cases b with k | k <;> omega) (by rcases fm_ab_cases b with k | k <;> omega)
      rw [r1]
      exact fm_ext rfl (by omega) (by omega)
  induction n with
  | zero => exact Or.inl rfl
  | succ n ih =>
    rw [fm_it_succ]
    rcases ih with e | e
    · rw [e]; exact s2
    · rw [e]; exact Or.inl s1
/-- below 0 a class has one reduced form -/
theorem fm_neg_uniq {D w : Int} {g h : fm_F} (ho : fm_ok D w) (hD : D < 0) (hg : fm_disc D g) (rg : fm_red D w g) (hh : fm_disc D h) (rh : fm_red D w h) (hm : fm_mg D w g h) : g = h := by
  obtain ⟨a, b, c⟩ := g
  obtain ⟨a', b', c'⟩ := h
  obtain ⟨i, j, e⟩ := hm
  have x := fm_neg_it ho hD hg rg i
  have y := fm_neg_it ho hD hh rh j
  rw [fm_red_lt hD] at rg rh
  have fin : ∀ {x y z x' y' z' : Int}, ((x, y, z) : fm_F) = (x', y', z') → x = x' ∧ y = y' ∧ z = z' := by
    intro x y z x' y' z' e
    exact ⟨congrArg (fun q => q.1) e, congrArg (fun q => q.2.1) e, congrArg (fun q => q.2.2) e⟩
  rcases x with x | x <;> rcases y with y | y <;> rw [x, y] at e <;> obtain ⟨e1, e2, e3⟩ := fin e
  · exact fm_ext e1 e2 e3
  · exact fm_ext (by omega) (by omega) (by omega)
  · exact fm_ext (by omega) (by omega) (by omega)
  · exact fm_ext (by omega) (by omega) (by omega)
-- ===== names =====
def fm_le (z h : fm_F) : Prop := z.1 < h.1 ∨ (z.1 = h.1 ∧ z.2.1 ≤ h.2.1)
def fm_nm (D w : Int) (z g : fm_F) : Prop := fm_disc D z ∧ fm_red D w z ∧ fm_mg D w z g ∧ ∀ h, fm_disc D h → fm_red D w h → fm_mg D w h g → fm_le z h
theorem fm_nm.uniq {D w : Int} {z z' g : fm_F} (ho : fm_ok D w) (h : fm_nm D w z g) (h' : fm_nm D w z' g) : z = z' := by
  obtain ⟨d1, r1, m1, l1⟩ := h
  obtain ⟨d2, r2, m2, l2⟩ := h'
  have x := l1 z' d2 r2 m2
  have y := l2 z d1 r1 m1
  obtain ⟨a, b, c⟩ := z
  obtain ⟨a', b', c'⟩ := z'
  unfold fm_le at x y
  dsimp only at x y
  have e1 : a = a' := by omega
  have e2 : b = b' := by omega
  subst e1
  subst e2
  obtain ⟨ha0, -⟩ := fm_ne ho d1
  unfold fm_disc at d1 d2
  dsimp only at d1 d2
  have : a * c = a * c' := by omega
  rw [fm_cancel ha0 this]
theorem fm_nm.mg {D w : Int} {z g g' : fm_F} (h : fm_nm D w z g) (m : fm_mg D w g g') : fm_nm D w z g' := by
  obtain ⟨d1, r1, m1, l1⟩ := h
  exact ⟨d1, r1, m1.tr m, fun h hd hr hm => l1 h hd hr (hm.tr m.sy)⟩
theorem fm_nm.self {D w : Int} {z g : fm_F} (h : fm_nm D w z g) : fm_nm D w z z := h.mg h.2.2.1.sy
/-- below 0 the reduced form is the name -/
theorem fm_nm_neg {D w : Int} {z g : fm_F} (ho : fm_ok D w) (hD : D < 0) (hz : fm_disc D z) (hr : fm_red D w z) (hm : fm_mg D w z g) : fm_nm D w z g := by
  refine ⟨hz, hr, hm, fun h hd hr' hm' => ?_⟩
  rw [fm_neg_uniq ho hD hd hr' hz hr (hm'.tr hm.sy)]
  exact Or.inr ⟨rfl, Int.le_refl _⟩
/-- above 0 the least of the cycle is the name -/
theorem fm_nm_pos {D w : Int} {z r g : fm_F} (ho : fm_ok D w) (hw : w ≤ 1023) (hD : ¬ D < 0) (hr : fm_disc D r) (rr : fm_red D w r) (hm : fm_mg D w r g) {i : Nat} (hz : fm_it D w i r = z) (hl : ∀ j, fm_le z (fm_it D w j r)) : fm_nm D w z g := by
  subst hz
  refine ⟨fm_it_disc ho i hr, fm_red_it ho hD i hr rr, (fm_mg.tr ⟨0, i, rfl⟩ hm), fun h hd hr' hm' => ?_⟩
  obtain ⟨j, hj⟩ := fm_cycle ho hw hD hr rr hd hr' (hm.tr hm'.sy)
  rw [← hj]
  exact hl j
end
section
/-! The ways to a reduced form end, and soon. -/
-- ===== above 0 =====
theorem fm_win_red {D w a b c : Int} (hD : ¬ D < 0) (h1 : w - 2 * fm_ab a < b) (h2 : b ≤ w) (h3 : 2 * fm_ab a ≤ w) : fm_red D w (a, b, c) := by
  rw [fm_red_ge hD]
  exact ⟨by omega, h2, by omega, by omega⟩
theorem fm_win_next {D w a b c : Int} (h : fm_ok D w) (hD : ¬ D < 0) (hd : fm_disc D (a, b, c)) (ha : fm_ab a ≤ w) (h1 : w - 2 * fm_ab a < b) (h2 : b ≤ w) : fm_red D w (a, b, c) ∨ fm_red D w (fm_rho D w (a, b, c)) := by
  obtain ⟨w0, w1, w2⟩ := fm_ok_pos h hD
  obtain ⟨ha0, hc0⟩ := fm_ne h hd
  by_cases q : 2 * fm_ab a ≤ w
  · exact Or.inl (fm_win_red hD h1 h2 q)
  · right
    obtain ⟨-, h4⟩ := fm_opp h hd (by rcases fm_ab_cases b with k | k <;> omega)
    have hC := fm_ab_pos hc0
    have hbb := fm_sq_le (Int.le_refl 0) (show 0 ≤ fm_ab b by rcases fm_ab_cases b with k | k <;> omega)
    rw [fm_ab_sq] at hbb
    have hc : 2 * fm_ab c ≤ w := by
      rcases Int.lt_or_le w (2 * fm_ab c) with k | k
      · exfalso
        have m := Int.mul_le_mul (show w + 1 ≤ 2 * fm_ab a by omega) (show w + 1 ≤ 2 * fm_ab c by omega) (by omega) (by omega)
        have e1 : 2 * fm_ab a * (2 * fm_ab c) = 4 * (fm_ab a * fm_ab c) := by grind
        omega
      · exact k
    have tc : fm_top w c = w := by rcases fm_top_cases w c with k | k <;> omega
    obtain ⟨k, hk, k1, k2⟩ := fm_rho_ex (w := w) hc0 hd
    rw [tc] at k1 k2
    rw [hk]
    exact fm_win_red hD k1 k2 hc
theorem fm_near {D w a b c : Int} (h : fm_ok D w) (hD : ¬ D < 0) (hd : fm_disc D (a, b, c)) (hc : fm_ab c ≤ w) : ∃ i, i ≤ 2 ∧ fm_red D w (fm_it D w i (a, b, c)) := by
  obtain ⟨ha0, hc0⟩ := fm_ne h hd
  have tc : fm_top w c = w := by rcases fm_top_cases w c with k | k <;> omega
  obtain ⟨k, hk, k1, k2⟩ := fm_rho_ex (w := w) hc0 hd
  rw [tc] at k1 k2
  have hd1 := fm_rho_disc h hd
  rw [hk] at hd1
  rcases fm_win_next h hD hd1 hc k1 k2 with r | r
  · refine ⟨1, by omega, ?_⟩
    show fm_red D w (fm_rho D w (a, b, c))
    rw [hk]
    exact r
  · refine ⟨2, by omega, ?_⟩
    show fm_red D w (fm_rho D w (fm_rho D w (a, b, c)))
    rw [hk]
    exact r
theorem fm_shrink {D w a b c : Int} (h : fm_ok D w) (hD : ¬ D < 0) (hd : fm_disc D (a, b, c)) (hc : w < fm_ab c) : 4 * fm_ab (fm_rho D w (a, b, c)).2.2 ≤ fm_ab c := by
  obtain ⟨ha0, hc0⟩ := fm_ne h hd
  have hC := fm_ab_pos hc0
  have tc : fm_top w c = fm_ab c := by rcases fm_top_cases w c with k | k <;> omega
  obtain ⟨k, hk, k1, k2⟩ := fm_rho_ex (w := w) hc0 hd
  rw [tc] at k1 k2
  have hd1 := fm_rho_disc h hd
  rw [hk] at hd1 ⊢
  dsimp only
  generalize -b + 2 * c * k = e at k1 k2 hd1
  generalize a - b * k + c * (k * k) = f at hd1 ⊢
  have ho := fm_out h hc
  unfold fm_disc at hd1
  dsimp only at hd1
  have he : fm_ab e ≤ fm_ab c := by rcases fm_ab_cases e with q | q <;> omega
  have m := fm_sq_le (show 0 ≤ fm_ab e by rcases fm_ab_cases e with q | q <;> omega) he
  rw [fm_ab_sq, fm_ab_sq] at m
  have m0 := fm_sq_le (Int.le_refl 0) (show 0 ≤ fm_ab e by rcases fm_ab_cases e with q | q <;> omega)
  rw [fm_ab_sq] at m0
  have hcf : 4 * (fm_ab c * fm_ab f) ≤ fm_ab c * fm_ab c := by
    rw [← fm_ab_mul, fm_ab_sq]
    rcases fm_ab_cases (c * f) with q | q <;> omega
  have e2 : fm_ab c * (4 * fm_ab f) = 4 * (fm_ab c * fm_ab f) := by grind
  exact Int.le_of_mul_le_mul_left (by omega) hC
theorem fm_reach {D w : Int} (h : fm_ok D w) (hD : ¬ D < 0) : ∀ (n : Nat) (a b c : Int), fm_disc D (a, b, c) → fm_ab c < 4 ^ n → ∃ i, i ≤ n + 2 ∧ fm_red D w (fm_it D w i (a, b, c)) := by
  intro n
  induction n with
  | zero =>
    intro a b c hd hc
    obtain ⟨ha0, hc0⟩ := fm_ne h hd
    have := fm_ab_pos hc0
    have : (4 : Int) ^ 0 = 1 := rfl
    omega
  | succ n ih =>
    intro a b c hd hc
    by_cases q : fm_ab c ≤ w
    · obtain ⟨i, h1, h2⟩ := fm_near h hD hd q
      exact ⟨i, by omega, h2⟩
    · have hs := fm_shrink h hD hd (by omega)
      have hd1 := fm_rho_disc h hd
      have e : (4 : Int) ^ (n + 1) = 4 ^ n * 4 := Int.pow_succ 4 n
      rcases hx : fm_rho D w (a, b, c) with ⟨a', b', c'⟩
      rw [hx] at hs hd1
      dsimp only at hs
      obtain ⟨i, h1, h2⟩ := ih a' b' c' hd1 (by omega)
      refine ⟨i + 1, by omega, ?_⟩
      show fm_red D w (fm_it D w i (fm_rho D w (a, b, c)))
      rw [hx]
      exact h2
-- ===== below 0, by steps =====
theorem fm_neg_reach {D w : Int} (h : fm_ok D w) (hD : D < 0) : ∀ (n : Nat) (a b c : Int), fm_disc D (a, b, c) → 0 < a → a ≤ n → -a < b → b ≤ a → ∃ i, fm_red D w (fm_it D w i (a, b, c)) := by
  have hw := fm_ok_neg h hD
  intro n
  induction n with
  | zero => intro a b c _ h0 h1; omega
  | succ n ih =>
    intro a b c hd h0 h1 h2 h3
    obtain ⟨ha0, hc0⟩ := fm_ne h hd
    have hc1 := fm_pp h0 (fm_neg_ac hD hd)
    have hC : fm_ab c = c := by rcases fm_ab_cases c with k | k <;> omega
    have tc : fm_top w c = c := by rcases fm_top_cases w c with k | k <;> omega
    by_cases r : fm_red D w (a, b, c)
    · exact ⟨0, r⟩
    · obtain ⟨k, hk, k1, k2⟩ := fm_rho_ex (w := w) hc0 hd
      have hd1 := fm_rho_disc h hd
      rw [hk] at hd1
      rw [tc, hC] at k1
      rw [tc] at k2
      rw [fm_red_lt hD] at r
      by_cases q : c < a
      · obtain ⟨i, hi⟩ := ih c _ _ hd1 hc1 (by omega) (by omega) k2
        refine ⟨i + 1, ?_⟩
        show fm_red D w (fm_it D w i (fm_rho D w (a, b, c)))
        rw [hk]
        exact hi
      · have hca : a = c ∧ b < 0 := by
          rcases fm_ab_cases b with k | k <;> omega
        obtain ⟨rfl, hb⟩ := hca
        have r1 : fm_rho D w (a, b, a) = (a, -b + 2 * a * 0, a - b * 0 + a * (0 * 0)) := fm_rho_of (k := 0) ha0 hd (by omega) (by omega)
        refine ⟨1, ?_⟩
        show fm_red D w (fm_rho D w (a, b, a))
        rw [r1, fm_red_lt hD]
        refine ⟨?_, by omega, Or.inl (by omega)⟩
        rcases fm_ab_cases (-b + 2 * a * 0) with q | q <;> omega
theorem fm_neg_reach' {D w a b c : Int} (h : fm_ok D w) (hD : D < 0) (hd : fm_disc D (a, b, c)) (h0 : 0 < a) : ∃ i, fm_red D w (fm_it D w i (a, b, c)) := by
  have hw := fm_ok_neg h hD
  obtain ⟨ha0, hc0⟩ := fm_ne h hd
  have hc1 := fm_pp h0 (fm_neg_ac hD hd)
  have hC : fm_ab c = c := by rcases fm_ab_cases c with k | k <;> omega
  have tc : fm_top w c = c := by rcases fm_top_cases w c with k | k <;> omega
  obtain ⟨k, hk, k1, k2⟩ := fm_rho_ex (w := w) hc0 hd
  have hd1 := fm_rho_disc h hd
  rw [hk] at hd1
  rw [tc, hC] at k1
  rw [tc] at k2
  obtain ⟨i, hi⟩ := fm_neg_reach h hD c.toNat c _ _ hd1 hc1 (by omega) (by omega) k2
  refine ⟨i + 1, ?_⟩
  show fm_red D w (fm_it D w i (fm_rho D w (a, b, c)))
  rw [hk]
  exact hi
/-- every form has a reduced one ahead -/
theorem fm_ahead {D w a b c : Int} (h : fm_ok D w) (hd : fm_disc D (a, b, c)) (h0 : D < 0 → 0 < a) : ∃ i, fm_red D w (fm_it D w i (a, b, c)) := by
  by_cases hD : D < 0
  · exact fm_neg_reach' h hD hd (h0 hD)
  · have : ∃ n : Nat, fm_ab c < 4 ^ n := by
      refine ⟨(fm_ab c).toNat, ?_⟩
      have e : ∀ n : Nat, (n : Int) < 4 ^ n := by
        intro n
        induction n with
        | zero => decide
        | succ n ih =>
          rw [Int.pow_succ]
          omega
      have := e (fm_ab c).toNat
      rcases fm_ab_cases c with k | k <;> omega
    obtain ⟨n, hn⟩ := this
    obtain ⟨i, -, hi⟩ := fm_reach h hD n a b c hd hn
    exact ⟨i, hi⟩
-- ===== below 0, by turns of normal forms =====
/-- b comes above -a and up to a -/
def fm_nu (D : Int) (g : fm_F) : fm_F := (g.1, g.1 - (g.1 - g.2.1) % (2 * g.1), ((g.1 - (g.1 - g.2.1) % (2 * g.1)) * (g.1 - (g.1 - g.2.1) % (2 * g.1)) - D) / (4 * g.1))
theorem fm_nu_ex {D a b c : Int} (ha : 0 < a) (hd : fm_disc D (a, b, c)) : ∃ k : Int, fm_nu D (a, b, c) = (a, b + 2 * a * k, a * (k * k) + b * k + c) ∧ -a < b + 2 * a * k ∧ b + 2 * a * k ≤ a := by
  have h1 := Int.emod_nonneg (a - b) (show 2 * a ≠ 0 by omega)
  have h2 := Int.emod_lt_of_pos (a - b) (show 0 < 2 * a by omega)
  have h3 := Int.mul_ediv_add_emod (a - b) (2 * a)
  unfold fm_disc at hd
  dsimp only at hd
  obtain ⟨k, hk⟩ : ∃ k, k = (a - b) / (2 * a) := ⟨_, rfl⟩
  rw [← hk] at h3
  have e : a - (a - b) % (2 * a) = b + 2 * a * k := by omega
  refine ⟨k, ?_, by omega, by omega⟩
  unfold fm_nu
  dsimp only
  rw [e]
  have h4 : (b + 2 * a * k) * (b + 2 * a * k) - D = 4 * a * (a * (k * k) + b * k + c) := by grind
  rw [h4, Int.mul_ediv_cancel_left _ (show 4 * a ≠ 0 by omega)]
theorem fm_nu_ok {D w : Int} {g : fm_F} (h : fm_ok D w) (ha : 0 < g.1) (hd : fm_disc D g) : fm_disc D (fm_nu D g) ∧ fm_mg D w (fm_nu D g) g ∧ (fm_nu D g).1 = g.1 ∧ -g.1 < (fm_nu D g).2.1 ∧ (fm_nu D g).2.1 ≤ g.1 := by
  obtain ⟨a, b, c⟩ := g
  obtain ⟨k, hk, k1, k2⟩ := fm_nu_ex ha hd
  rw [hk]
  exact ⟨fm_T_disc k hd, (fm_mg_T k h hd).sy, rfl, k1, k2⟩
/-- k turns from g lead to the normal form h with a not above c -/
def fm_dw (D : Int) : Nat → fm_F → fm_F → Prop
  | 0, g, h => fm_nu D g = h ∧ h.1 ≤ h.2.2
  | k + 1, g, h => (fm_nu D g).2.2 < (fm_nu D g).1 ∧ fm_dw D k (fm_S (fm_nu D g)) h
theorem fm_dw_ok {D w : Int} (h : fm_ok D w) (hD : D < 0) : ∀ (k : Nat) (g r : fm_F), fm_disc D g → 0 < g.1 → fm_dw D k g r → fm_disc D r ∧ fm_mg D w r g ∧ 0 < r.1 ∧ -r.1 < r.2.1 ∧ r.2.1 ≤ r.1 ∧ r.1 ≤ r.2.2 := by
  intro k
  induction k with
  | zero =>
    intro g r hd ha hr
    obtain ⟨h1, h2⟩ := hr
    obtain ⟨n1, n2, n3, n4, n5⟩ := fm_nu_ok h ha hd
    rw [h1] at n1 n2 n3 n4 n5
    exact ⟨n1, n2, by omega, by omega, by omega, h2⟩
  | succ k ih =>
    intro g r hd ha hr
    obtain ⟨h1, h2⟩ := hr
    obtain ⟨n1, n2, n3, n4, n5⟩ := fm_nu_ok h ha hd
    generalize fm_nu D g = q at h1 h2 n1 n2 n3 n4 n5
    obtain ⟨a, b, c⟩ := q
    dsimp only at h1 n3 n4 n5
    have hc := fm_pp (show 0 < a by omega) (fm_neg_ac hD n1)
    obtain ⟨r1, r2, r3⟩ := ih (fm_S (a, b, c)) r (fm_S_disc n1) hc h2
    exact ⟨r1, r2.tr ((fm_mg_S h n1).sy.tr n2), r3⟩
theorem fm_nu_c {D w : Int} {g : fm_F} (h : fm_ok D w) (hD : D < 0) (hDl : -1048576 ≤ D) (ha : 1024 < g.1) (hd : fm_disc D g) : 2 * (fm_nu D g).2.2 < g.1 := by
  obtain ⟨n1, n2, n3, n4, n5⟩ := fm_nu_ok h (show 0 < g.1 by omega) hd
  generalize fm_nu D g = q at n1 n2 n3 n4 n5 ⊢
  obtain ⟨a, b, c⟩ := q
  dsimp only at n3 n4 n5 ⊢
  rw [← n3] at ha n4 n5 ⊢
  unfold fm_disc at n1
  dsimp only at n1
  have hb : fm_ab b ≤ a := by rcases fm_ab_cases b with k | k <;> omega
  have m := fm_sq_le (show 0 ≤ fm_ab b by rcases fm_ab_cases b with k | k <;> omega) hb
  rw [fm_ab_sq] at m
  have m2 := fm_sq_le (show (0 : Int) ≤ 1025 by decide) (show 1025 ≤ a by omega)
  have m3 : a * (2 * c) < a * a := by
    have : a * (2 * c) = 2 * (a * c) := by grind
    omega
  exact Int.lt_of_mul_lt_mul_left m3 (by omega)
theorem fm_dw_low {D w : Int} (h : fm_ok D w) (hD : D < 0) : ∀ (n : Nat) (g : fm_F), fm_disc D g → 0 < g.1 → g.1 ≤ n → ∃ k r, k < n ∧ fm_dw D k g r := by
  intro n
  induction n with
  | zero => intro g _ h0 h1; omega
  | succ n ih =>
    intro g hd h0 h1
    by_cases q : (fm_nu D g).1 ≤ (fm_nu D g).2.2
    · exact ⟨0, fm_nu D g, by omega, rfl, q⟩
    · obtain ⟨n1, n2, n3, n4, n5⟩ := fm_nu_ok h h0 hd
      rcases hx : fm_nu D g with ⟨a, b, c⟩
      rw [hx] at n1 n3 q
      dsimp only at n3 q
      have hc := fm_pp (show 0 < a by omega) (fm_neg_ac hD n1)
      obtain ⟨k, r, k1, k2⟩ := ih (fm_S (a, b, c)) (fm_S_disc n1) hc (show c ≤ n by omega)
      refine ⟨k + 1, r, by omega, ?_, ?_⟩
      · rw [hx]; show c < a; omega
      · rw [hx]; exact k2
theorem fm_dw_ex {D w : Int} (h : fm_ok D w) (hD : D < 0) (hDl : -1048576 ≤ D) : ∀ (n : Nat) (g : fm_F), fm_disc D g → 0 < g.1 → g.1 ≤ 1024 * 2 ^ n → ∃ k r, k < n + 1024 ∧ fm_dw D k g r := by
  intro n
  induction n with
  | zero =>
    intro g hd h0 h1
    obtain ⟨k, r, k1, k2⟩ := fm_dw_low h hD 1024 g hd h0 (by simpa using h1)
    exact ⟨k, r, by omega, k2⟩
  | succ n ih =>
    intro g hd h0 h1
    by_cases q : g.1 ≤ 1024
    · obtain ⟨k, r, k1, k2⟩ := fm_dw_low h hD 1024 g hd h0 q
      exact ⟨k, r, by omega, k2⟩
    · have hh := fm_nu_c h hD hDl (show 1024 < g.1 by omega) hd
      obtain ⟨n1, n2, n3, n4, n5⟩ := fm_nu_ok h h0 hd
      have e : (2 : Int) ^ (n + 1) = 2 ^ n * 2 := Int.pow_succ 2 n
      rcases hx : fm_nu D g with ⟨a, b, c⟩
      rw [hx] at n1 n3 hh
      dsimp only at n3 hh
      have hc := fm_pp (show 0 < a by omega) (fm_neg_ac hD n1)
      obtain ⟨k, r, k1, k2⟩ := ih (fm_S (a, b, c)) (fm_S_disc n1) hc (show c ≤ 1024 * 2 ^ n by omega)
      refine ⟨k + 1, r, by omega, ?_, ?_⟩
      · rw [hx]; show c < a; omega
      · rw [hx]; exact k2
/-- the last turn of the sign: a reduced form of the class -/
theorem fm_dw_red {D w : Int} {g r : fm_F} {k : Nat} (h : fm_ok D w) (hD : D < 0) (hd : fm_disc D g) (h0 : 0 < g.1) (hr : fm_dw D k g r) : fm_nm D w (if r.1 = r.2.2 ∧ r.2.1 < 0 then (r.1, -r.2.1, r.2.2) else r) g := by
  obtain ⟨r1, r2, r3, r4, r5, r6⟩ := fm_dw_ok h hD k g r hd h0 hr
  obtain ⟨a, b, c⟩ := r
  dsimp only at r3 r4 r5 r6 ⊢
  split
  · rename_i q
    obtain ⟨rfl, hb⟩ := q
    refine fm_nm_neg h hD (fm_inv_disc r1) ?_ ((fm_mg_S h r1).sy.tr r2)
    rw [fm_red_lt hD]
    exact ⟨by rcases fm_ab_cases (-b) with k | k <;> omega, Int.le_refl _, Or.inl (by omega)⟩
  · rename_i q
    refine fm_nm_neg h hD r1 ?_ r2
    rw [fm_red_lt hD]
    exact ⟨by rcases fm_ab_cases b with k | k <;> omega, r6, by omega⟩
end
section
/-! Powers of classes, and that every class has an order. -/
def fm_v (D : Int) (f : fm_F) : Prop := fm_disc D f ∧ fm_pr f ∧ (D < 0 → 0 < f.1)
theorem fm_bez : ∀ (m : Nat) (p q : Int), q.natAbs ≤ m → (p ≠ 0 ∨ q ≠ 0) → ∃ x y g : Int, g ≠ 0 ∧ x * p + y * q = g ∧ g ∣ p ∧ g ∣ q := by
  intro m
  induction m with
  | zero =>
    intro p q hq h0
    have e : q = 0 := by omega
    subst e
    exact ⟨1, 0, p, by omega, by omega, Int.dvd_refl p, Int.dvd_zero p⟩
  | succ m ih =>
    intro p q hq h0
    by_cases e : q = 0
    · subst e
      exact ⟨1, 0, p, by omega, by omega, Int.dvd_refl p, Int.dvd_zero p⟩
    · have h1 := Int.emod_nonneg p e
      have h2 := Int.emod_lt p e
      have h3 := Int.mul_ediv_add_emod p q
      obtain ⟨x, y, g, g0, g1, g2, g3⟩ := ih q (p % q) (by omega) (Or.inl e)
      refine ⟨y, x - y * (p / q), g, g0, ?_, ?_, g2⟩
      · grind
      · rw [← h3]
        exact Int.dvd_add (Int.dvd_trans g2 (Int.dvd_mul_right q _)) g3
theorem fm_pr_of {f : fm_F} {e : Int} (hp : fm_pr f) (h1 : e ∣ f.1) (h2 : e ∣ f.2.1) (h3 : e ∣ f.2.2) : e ∣ 1 := by
  obtain ⟨i, j, k, h⟩ := hp
  rw [← h]
  exact Int.dvd_add (Int.dvd_add (Int.dvd_trans h1 (Int.dvd_mul_left _ _)) (Int.dvd_trans h2 (Int.dvd_mul_left _ _))) (Int.dvd_trans h3 (Int.dvd_mul_left _ _))
theorem fm_TT {D s n b b' B B' T : Int} (hb : b = 2 * B + s) (hb' : b' = 2 * B' + s) (hD : D = 4 * n + s) (hs : s * s = s) : 2 * T = b * b' + D ↔ T = 2 * (n + B * B') + s * (B + B' + s) := by
  subst hb
  subst hb'
  subst hD
  have h1 : (2 * B + s) * (2 * B' + s) = 4 * (B * B') + 2 * (s * B) + 2 * (s * B') + s * s := by
    clear hs
    grind
  have h2 : s * (B + B' + s) = s * B + s * B' + s * s := by
    clear hs h1
    grind
  omega
theorem fm_hw {s n b b' B B' a a' x y z e M w1 : Int} (hb : b = 2 * B + s) (hb' : b' = 2 * B' + s) (he : x * a + y * a' + z * (B + B' + s) = e) (hM : M = 2 * w1 + s) : x * a * b' + y * a' * b + z * (2 * (n + B * B') + s * (B + B' + s)) = e * M ↔ x * a * B' + y * a' * B + z * (n + B * B') = e * w1 := by
  subst hb
  subst hb'
  subst hM
  have h1 : x * a * (2 * B' + s) + y * a' * (2 * B + s) + z * (2 * (n + B * B') + s * (B + B' + s)) = 2 * (x * a * B' + y * a' * B + z * (n + B * B')) + s * (x * a + y * a' + z * (B + B' + s)) := by
    clear he
    grind
  rw [he] at h1
  have h2 : e * (2 * w1 + s) = 2 * (e * w1) + s * e := by
    clear h1 he
    grind
  omega
theorem fm_hn {s n B B' a c e a1 S S1 : Int} (hac : B * B + s * B - n = a * c) (h1 : a = e * a1) (h3 : S = e * S1) (hSS : B + B' + s = S) : n + B * B' = e * (B * S1 - a1 * c) := by
  have t1 : e * (B * S1 - a1 * c) = B * (e * S1) - (e * a1) * c := by
    clear hac h1 h3 hSS
    grind
  rw [t1, ← h3, ← h1, ← hSS, ← hac]
  clear t1 hac h1 h3 hSS
  grind
/-- THE PRODUCT BY ITS FORMULA: x a + y a' + z S = e goes into a, a' and S, the half sum of the middles; the new a is a a' / (e e), the new middle M with e M = x a b' + y a' b + z (b b' + D) / 2, or one that differs from it by a multiple of twice the new a -/
theorem fm_formula {D w s n a b c a' b' c' e x y z a1 a1' S1 S T M k C : Int} (ho : fm_ok D w) (hs : fm_sn D s n) (hf : fm_v D (a, b, c)) (hg : fm_v D (a', b', c')) (hS : 2 * S = b + b') (he0 : e ≠ 0) (ha : a = e * a1) (ha' : a' = e * a1') (hS1 : S = e * S1) (he : x * a + y * a' + z * S = e) (hT : 2 * T = b * b' + D) (hM : x * a * b' + y * a' * b + z * T = e * M) (hF : fm_disc D (a1 * a1', M + 2 * (a1 * a1') * k, C)) : fm_v D (a1 * a1', M + 2 * (a1 * a1') * k, C) ∧ fm_cp s n (a, b, c) (a', b', c') (a1 * a1', M + 2 * (a1 * a1') * k, C) := by
  obtain ⟨df, pf, vf⟩ := hf
  obtain ⟨dg, pg, vg⟩ := hg
  obtain ⟨hb, hac⟩ := fm_half hs df
  obtain ⟨hb', hac'⟩ := fm_half hs dg
  have hBF := fm_half hs hF
  have hLf : fm_L s (a, b, c) = la_f a (fm_B s (a, b, c)) := rfl
  have hLg : fm_L s (a', b', c') = la_f a' (fm_B s (a', b', c')) := rfl
  have hLF : fm_L s (a1 * a1', M + 2 * (a1 * a1') * k, C) = la_f (a1 * a1') (fm_B s (a1 * a1', M + 2 * (a1 * a1') * k, C)) := rfl
  generalize fm_B s (a, b, c) = B at hb hac hLf
  generalize fm_B s (a', b', c') = B' at hb' hac' hLg
  generalize fm_B s (a1 * a1', M + 2 * (a1 * a1') * k, C) = BF at hBF hLF
  obtain ⟨hbF, hacF⟩ := hBF
  have hSS : B + B' + s = S := by omega
  have hs2 : s * s = s := by rcases hs.1 with h | h <;> rw [h] <;> decide
  have hTT : T = 2 * (n + B * B') + s * (B + B' + s) := (fm_TT hb hb' hs.2 hs2).mp hT
  -- M is 2 w1 + s with e w1 the middle in halves
  obtain ⟨w1, hw1⟩ : ∃ w1, w1 = BF - a1 * a1' * k := ⟨_, rfl⟩
  have hMw : M = 2 * w1 + s := by
    have t : 2 * (a1 * a1') * k = 2 * (a1 * a1' * k) := Int.mul_assoc _ _ _
    omega
  have hw : x * a * B' + y * a' * B + z * (n + B * B') = e * w1 := (fm_hw hb hb' (by rw [hSS]; exact he) hMw).mp (by rw [← hTT]; exact hM)
  obtain ⟨i, j, l, hp⟩ := pf
  dsimp only at hp
  have hlat := la_prod (s := s) (n := n) (S1 := S1) hac hac' ha ha' (by rw [hSS]; exact hS1) he0 (by rw [hSS]; exact he) hw (by rw [← hb]; exact hp)
  have hLF' : fm_L s (a1 * a1', M + 2 * (a1 * a1') * k, C) = la_f (a1 * a1') w1 := by
    rw [hLF, show BF = w1 + a1 * a1' * k by omega]
    exact la_f_T _ _ _
  rw [← hLF', ← hLf, ← hLg] at hlat
  have hA : a1 * a1' * (e * e) = a * a' := by rw [ha, ha']; grind
  refine ⟨⟨hF, fm_pr_cp ho hs df dg hF ⟨i, j, l, hp⟩ pg he0 hlat hA, fun hD => ?_⟩, (1, 0), (e, 0), ?_, ?_, ?_, ?_⟩
  · have h1 := vf hD
    have h2 := vg hD
    dsimp only at h1 h2 ⊢
    have h3 := Int.mul_pos h1 h2
    have h4 : 0 ≤ e * e := by rw [← fm_ab_sq]; exact fm_sq_le (Int.le_refl 0) (show 0 ≤ fm_ab e by rcases fm_ab_cases e with k | k <;> omega)
    rcases Int.lt_or_le 0 (a1 * a1') with q | q
    · exact q
    · have := Int.mul_le_mul_of_nonneg_right q h4
      rw [Int.zero_mul] at this
      omega
  · rw [la_s_1, hlat]
  · rw [el_N_i, el_N_i]
    dsimp only
    have : e * e * (a1 * a1') = a * a' := by rw [Int.mul_comm, hA]
    rw [this]
    omega
  · rw [el_N_i]; decide
  · rw [el_N_i]; exact Int.mul_ne_zero he0 he0
/-- the formula always works -/
theorem fm_formula_ex {D w s n a b c a' b' c' : Int} (ho : fm_ok D w) (hs : fm_sn D s n) (hf : fm_v D (a, b, c)) (hg : fm_v D (a', b', c')) {e x y z S : Int} (hS : 2 * S = b + b') (he0 : e ≠ 0) (ha : e ∣ a) (ha' : e ∣ a') (hS1 : e ∣ S) (he : x * a + y * a' + z * S = e) : ∃ a1 a1' T M Cx : Int, a = e * a1 ∧ a' = e * a1' ∧ 2 * T = b * b' + D ∧ x * a * b' + y * a' * b + z * T = e * M ∧ ∀ k, ∃ C, fm_disc D (a1 * a1', M + 2 * (a1 * a1') * k, C) := by
  obtain ⟨a1, h1⟩ := ha
  obtain ⟨a1', h2⟩ := ha'
  obtain ⟨S1, h3⟩ := hS1
  obtain ⟨hb, hac⟩ := fm_half hs hf.1
  obtain ⟨hb', hac'⟩ := fm_half hs hg.1
  generalize fm_B s (a, b, c) = B at hb hac
  generalize fm_B s (a', b', c') = B' at hb' hac'
  have hSS : B + B' + s = S := by omega
  have hs2 : s * s = s := by rcases hs.1 with h | h <;> rw [h] <;> decide
  have hD := hs.2
  -- e goes into n + B B'
  have hn : n + B * B' = e * (B * S1 - a1 * c) := fm_hn hac h1 h3 hSS
  obtain ⟨w1, hw1⟩ : ∃ w1, w1 = x * a1 * B' + y * a1' * B + z * (B * S1 - a1 * c) := ⟨_, rfl⟩
  have hw : x * a * B' + y * a' * B + z * (n + B * B') = e * w1 := by
    rw [hn, hw1, h1, h2]
    clear hn hw1 h1 h2 hac hac' hS he hSS hb hb' h3 he0 hs2 hD hf hg
    grind
  have hc := fm_prod_c hac hac' h1 h2 he0 (by rw [hSS]; exact he) hw
  refine ⟨a1, a1', 2 * (n + B * B') + s * S, 2 * w1 + s, 0, h1, h2, by rw [← hSS]; exact (fm_TT hb hb' hD hs2).mpr rfl, by rw [← hSS]; exact (fm_hw hb hb' (by rw [hSS]; exact he) rfl).mpr hw, fun k => ?_⟩
  obtain ⟨C0, hC0⟩ : ∃ C0, w1 * w1 + s * w1 - n = a1 * a1' * C0 := ⟨_, hc⟩
  refine ⟨a1 * a1' * (k * k) + (2 * w1 + s) * k + C0, fm_T_disc k ?_⟩
  unfold fm_disc
  dsimp only
  grind
theorem fm_prod_ex {D w s n : Int} {f g : fm_F} (ho : fm_ok D w) (hs : fm_sn D s n) (hf : fm_v D f) (hg : fm_v D g) : ∃ F, fm_v D F ∧ fm_cp s n f g F := by
  obtain ⟨a, b, c⟩ := f
  obtain ⟨a', b', c'⟩ := g
  obtain ⟨ha0, -⟩ := fm_ne ho hf.1
  obtain ⟨hb, -⟩ := fm_half hs hf.1
  obtain ⟨hb', -⟩ := fm_half hs hg.1
  obtain ⟨S, hS⟩ : ∃ S, 2 * S = b + b' := ⟨fm_B s (a, b, c) + fm_B s (a', b', c') + s, by omega⟩
  obtain ⟨x, y, g1, g0, e1, d1, d2⟩ := fm_bez _ a a' (Nat.le_refl _) (Or.inl ha0)
  obtain ⟨x', z, e, he0, e2, d3, d4⟩ := fm_bez _ g1 S (Nat.le_refl _) (Or.inl g0)
  have he : (x' * x) * a + (x' * y) * a' + z * S = e := by grind
  obtain ⟨a1, a1', T, M, -, h1, h2, h3, h4, h5⟩ := fm_formula_ex ho hs hf hg hS he0 (Int.dvd_trans d3 d1) (Int.dvd_trans d3 d2) d4 he
  obtain ⟨S1, h6⟩ := d4
  obtain ⟨C, hC⟩ := h5 0
  exact ⟨_, fm_formula ho hs hf hg hS he0 h1 h2 h6 he h3 h4 hC⟩
theorem fm_one_v {D s n : Int} (hs : fm_sn D s n) : fm_v D (fm_one s n) := ⟨fm_one_disc hs, ⟨1, 0, 0, by unfold fm_one; dsimp only; omega⟩, fun _ => by unfold fm_one; dsimp only; decide⟩
theorem fm_inv_v {D : Int} {f : fm_F} (h : fm_v D f) : fm_v D (fm_inv f) := ⟨fm_inv_disc h.1, fm_inv_pr h.2.1, h.2.2⟩
/-- F is of the k-th power of the class of f -/
def fm_pw (D s n : Int) (f : fm_F) : Nat → fm_F → Prop
  | 0, F => fm_eq s n (fm_one s n) F
  | k + 1, F => ∃ G, fm_v D G ∧ fm_pw D s n f k G ∧ fm_cp s n G f F
theorem fm_pw.r {D s n : Int} {f : fm_F} {k : Nat} {F G : fm_F} (h : fm_pw D s n f k F) (e : fm_eq s n F G) : fm_pw D s n f k G := by
  cases k with
  | zero => exact h.tr e
  | succ k =>
    obtain ⟨X, v, p, c⟩ := h
    exact ⟨X, v, p, c.r e⟩
theorem fm_pw.fn {D s n : Int} {f : fm_F} {k : Nat} {F G : fm_F} (h : fm_pw D s n f k F) (h' : fm_pw D s n f k G) : fm_eq s n F G := by
  induction k generalizing F G with
  | zero => exact (fm_eq.sy h).tr h'
  | succ k ih =>
    obtain ⟨X, v, p, c⟩ := h
    obtain ⟨Y, v', p', c'⟩ := h'
    exact (c.l (ih p p')).fn c'
theorem fm_pw.ex {D w s n : Int} {f : fm_F} (ho : fm_ok D w) (hs : fm_sn D s n) (hf : fm_v D f) (k : Nat) : ∃ F, fm_v D F ∧ fm_pw D s n f k F := by
  induction k with
  | zero => exact ⟨fm_one s n, fm_one_v hs, fm_eq.rf _⟩
  | succ k ih =>
    obtain ⟨G, v, p⟩ := ih
    obtain ⟨F, v', c⟩ := fm_prod_ex ho hs v hf
    exact ⟨F, v', G, v, p, c⟩
theorem fm_pw.one {D s n : Int} {f : fm_F} (hs : fm_sn D s n) (hf : fm_v D f) : fm_pw D s n f 1 f := ⟨fm_one s n, fm_one_v hs, fm_eq.rf _, fm_cp_one hs hf.1⟩
theorem fm_pw.add {D w s n : Int} {f : fm_F} (ho : fm_ok D w) (hs : fm_sn D s n) (i j : Nat) {F G H : fm_F} (hF : fm_v D F) (h1 : fm_pw D s n f i F) (h2 : fm_pw D s n f j G) (h3 : fm_cp s n F G H) : fm_pw D s n f (i + j) H := by
  induction j generalizing G H with
  | zero => exact h1.r ((fm_cp_one hs hF.1).cm.fn (h3.m (fm_eq.sy h2)))
  | succ j ih =>
    obtain ⟨G', v, p, c⟩ := h2
    obtain ⟨K, vK, cK⟩ := fm_prod_ex ho hs hF v
    exact ⟨K, vK, ih p cK, (fm_cp.as c.cm h3.cm cK.cm).cm⟩
theorem fm_pw.inv {D w s n : Int} {f : fm_F} (ho : fm_ok D w) (hs : fm_sn D s n) (hf : fm_v D f) (k : Nat) {F G : fm_F} (vF : fm_v D F) (vG : fm_v D G) (h1 : fm_pw D s n f k F) (h2 : fm_pw D s n (fm_inv f) k G) : fm_cp s n G F (fm_one s n) := by
  induction k generalizing F G with
  | zero => exact ((fm_cp_one hs (fm_one_v hs).1).l h2).m h1
  | succ k ih =>
    obtain ⟨X, vX, pX, cX⟩ := h1
    obtain ⟨Y, vY, pY, cY⟩ := h2
    obtain ⟨Z, vZ, cZ⟩ := fm_prod_ex ho hs vG vF
    have b := (fm_cp_back ho hs vX.1 hf.1 hf.2.1 cX).cm
    have q := fm_cp.as cY cZ b
    exact cZ.r (q.fn (ih vX vY pX pY))
/-- powers with equal classes -/
theorem fm_pw.sub {D w s n : Int} {f : fm_F} (ho : fm_ok D w) (hs : fm_sn D s n) (hf : fm_v D f) {i j : Nat} (hij : i ≤ j) {F : fm_F} (vF : fm_v D F) (h1 : fm_pw D s n f i F) (h2 : fm_pw D s n f j F) : fm_pw D s n f (j - i) (fm_one s n) := by
  obtain ⟨G, vG, pG⟩ := fm_pw.ex ho hs hf (j - i)
  obtain ⟨H, vH, cH⟩ := fm_prod_ex ho hs vG vF
  have h3 := fm_pw.add ho hs (j - i) i vG pG h1 cH
  rw [Nat.sub_add_cancel hij] at h3
  have h4 := cH.r (h3.fn h2)
  have h5 := fm_cp_one (s := s) (n := n) hs vF.1
  exact pG.r (fm_cp_cancel ho hs vG.1 (fm_one_v hs).1 vF.1 vF.2.1 h4 h5)
theorem fm_pw.mul {D w s n : Int} {f : fm_F} (ho : fm_ok D w) (hs : fm_sn D s n) (hf : fm_v D f) {m : Nat} (h : fm_pw D s n f m (fm_one s n)) (q : Nat) : fm_pw D s n f (m * q) (fm_one s n) := by
  induction q with
  | zero => exact fm_eq.rf _
  | succ q ih => exact fm_pw.add ho hs (m * q) m (fm_one_v hs) ih h (fm_cp_one hs (fm_one_v hs).1)
/-- powers whose exponents differ by a multiple of m, if the m-th one is ONE -/
theorem fm_pw.mod {D w s n : Int} {f : fm_F} (ho : fm_ok D w) (hs : fm_sn D s n) (hf : fm_v D f) {m : Nat} (h : fm_pw D s n f m (fm_one s n)) {i : Nat} (q : Nat) {F : fm_F} (vF : fm_v D F) (h1 : fm_pw D s n f i F) : fm_pw D s n f (i + m * q) F :=
  fm_pw.add ho hs i (m * q) vF h1 (fm_pw.mul ho hs hf h q) (fm_cp_one hs vF.1).cm
-- every class has an order
def fm_cn (g : fm_F) : Int := g.1 * 1200 + g.2.1 + 600
theorem fm_neg_a {D w a b c : Int} (hD : D < 0) (hDl : -1048576 ≤ D) (hd : fm_disc D (a, b, c)) (hr : fm_red D w (a, b, c)) : 0 ≤ a ∧ a ≤ 591 ∧ fm_ab b ≤ a := by
  rw [fm_red_lt hD] at hr
  obtain ⟨r1, r2, r3⟩ := hr
  have hb0 : 0 ≤ fm_ab b := by rcases fm_ab_cases b with k | k <;> omega
  have m1 := fm_sq_le hb0 r1
  rw [fm_ab_sq] at m1
  have m2 := Int.mul_le_mul_of_nonneg_left r2 (show 0 ≤ a by omega)
  unfold fm_disc at hd
  dsimp only at hd
  refine ⟨by omega, ?_, r1⟩
  rcases Int.lt_or_le 591 a with k | k
  · exfalso
    have := fm_sq_le (show (0 : Int) ≤ 592 by decide) (show 592 ≤ a by omega)
    omega
  · exact k
theorem fm_code {D w : Int} (h : fm_ok D w) (hw : w ≤ 1023) (hDl : -1048576 ≤ D) : ∃ cd : fm_F → Nat, (∀ g, fm_disc D g → fm_red D w g → cd g < 720000) ∧ ∀ g g', fm_disc D g → fm_red D w g → fm_disc D g' → fm_red D w g' → cd g = cd g' → g = g' := by
  by_cases hD : D < 0
  · refine ⟨fun g => (fm_cn g).toNat, ?_, ?_⟩
    · rintro ⟨a, b, c⟩ hd hr
      obtain ⟨h1, h2, h3⟩ := fm_neg_a hD hDl hd hr
      show (a * 1200 + b + 600).toNat < 720000
      rcases fm_ab_cases b with k | k <;> omega
    · rintro ⟨a, b, c⟩ ⟨a', b', c'⟩ hd hr hd' hr' he
      obtain ⟨h1, h2, h3⟩ := fm_neg_a hD hDl hd hr
      obtain ⟨h4, h5, h6⟩ := fm_neg_a hD hDl hd' hr'
      have he' : (a * 1200 + b + 600).toNat = (a' * 1200 + b' + 600).toNat := he
      have e1 : a = a' := by rcases fm_ab_cases b with k | k <;> rcases fm_ab_cases b' with k' | k' <;> omega
      have e2 : b = b' := by rcases fm_ab_cases b with k | k <;> rcases fm_ab_cases b' with k' | k' <;> omega
      subst e1
      subst e2
      obtain ⟨ha0, -⟩ := fm_ne h hd
      unfold fm_disc at hd hd'
      dsimp only at hd hd'
      have : a * c = a * c' := by omega
      rw [fm_cancel ha0 this]
  · refine ⟨fun g => (fm_cd w g).toNat, ?_, ?_⟩
    · intro g hd hr
      have := fm_cd_lt hw hD hr
      show (fm_cd w g).toNat < 720000
      omega
    · intro g g' hd hr hd' hr' he
      have h1 := fm_cd_lt hw hD hr
      have h2 := fm_cd_lt hw hD hr'
      have he' : (fm_cd w g).toNat = (fm_cd w g').toNat := he
      exact fm_cd_inj h hD hd hd' hr hr' (by omega)
theorem fm_ord_ex {D w s n : Int} {f : fm_F} (ho : fm_ok D w) (hw : w ≤ 1023) (hDl : -1048576 ≤ D) (hs : fm_sn D s n) (hf : fm_v D f) : ∃ m : Nat, 0 < m ∧ m ≤ 720000 ∧ fm_pw D s n f m (fm_one s n) := by
  obtain ⟨cd, c1, c2⟩ := fm_code ho hw hDl
  have hall : ∀ i : Nat, ∃ R : fm_F, ∃ F : fm_F, fm_v D F ∧ fm_pw D s n f i F ∧ fm_disc D R ∧ fm_red D w R ∧ fm_mg D w F R := by
    intro i
    obtain ⟨F, vF, pF⟩ := fm_pw.ex ho hs hf i
    obtain ⟨a, b, c⟩ := F
    obtain ⟨j, hj⟩ := fm_ahead ho vF.1 vF.2.2
    exact ⟨_, _, vF, pF, fm_it_disc ho j vF.1, hj, ⟨j, 0, rfl⟩⟩
  obtain ⟨R, hR⟩ := Classical.axiomOfChoice hall
  obtain ⟨i, j, h1, h2, h3⟩ := fm_pigeon 720000 (fun i => cd (R i)) (fun i _ => by
    obtain ⟨F, -, -, d, r, -⟩ := hR i
    exact c1 _ d r)
  obtain ⟨F, vF, pF, dF, rF, mF⟩ := hR i
  obtain ⟨G, vG, pG, dG, rG, mG⟩ := hR j
  have e := c2 _ _ dF rF dG rG h3
  rw [← e] at mG
  have e2 := fm_eq_mg ho hs vG.1 vF.1 (mG.tr mF.sy)
  exact ⟨j - i, by omega, by omega, fm_pw.sub ho hs hf (by omega) vF pF (pG.r e2)⟩
end
section
/-! The search for a number that a form takes and that has only 1 in common with n (at most 1024): it ends at y = 15 at the latest. -/
def fr_P (p : Nat) : Prop := 2 ≤ p ∧ ∀ d, d ∣ p → d = 1 ∨ d = p
theorem fr_euc {p : Nat} (hp : fr_P p) {x y : Int} (h : (p : Int) ∣ x * y) : (p : Int) ∣ x ∨ (p : Int) ∣ y := by
  rw [← Int.natAbs_dvd_natAbs, Int.natAbs_mul, Int.natAbs_natCast] at h
  rcases hp.2 (Nat.gcd p y.natAbs) (Nat.gcd_dvd_left _ _) with k | k
  · left
    rw [← Int.natAbs_dvd_natAbs, Int.natAbs_natCast]
    exact Nat.Coprime.dvd_of_dvd_mul_right k h
  · right
    rw [← Int.natAbs_dvd_natAbs, Int.natAbs_natCast]
    have := Nat.gcd_dvd_right p y.natAbs
    rw [k] at this
    exact this
/-- a polynomial of second degree has at most two roots modulo a prime -/
theorem fr_two {p : Nat} (hp : fr_P p) {A B C x y z : Int} (h0 : ¬ ((p : Int) ∣ A ∧ (p : Int) ∣ B ∧ (p : Int) ∣ C)) (hxy : ¬ (p : Int) ∣ x - y) (hxz : ¬ (p : Int) ∣ x - z) (hyz : ¬ (p : Int) ∣ y - z) (hx : (p : Int) ∣ A * (x * x) + B * x + C) (hy : (p : Int) ∣ A * (y * y) + B * y + C) (hz : (p : Int) ∣ A * (z * z) + B * z + C) : False := by
  have e1 : (x - y) * (A * (x + y) + B) = A * (x * x) + B * x + C - (A * (y * y) + B * y + C) := by grind
  have e2 : (x - z) * (A * (x + z) + B) = A * (x * x) + B * x + C - (A * (z * z) + B * z + C) := by grind
  have d1 := (fr_euc hp (by rw [e1]; exact Int.dvd_sub hx hy)).resolve_left hxy
  have d2 := (fr_euc hp (by rw [e2]; exact Int.dvd_sub hx hz)).resolve_left hxz
  have e3 : (y - z) * A = A * (x + y) + B - (A * (x + z) + B) := by grind
  have d3 := (fr_euc hp (by rw [e3]; exact Int.dvd_sub d1 d2)).resolve_left hyz
  have d4 : (p : Int) ∣ B := by
    have : B = A * (x + y) + B - A * (x + y) := by omega
    rw [this]
    exact Int.dvd_sub d1 (Int.dvd_trans d3 (Int.dvd_mul_right _ _))
  refine h0 ⟨d3, d4, ?_⟩
  have : C = A * (x * x) + B * x + C - A * (x * x) - B * x := by omega
  rw [this]
  exact Int.dvd_sub (Int.dvd_sub hx (Int.dvd_trans d3 (Int.dvd_mul_right _ _))) (Int.dvd_trans d4 (Int.dvd_mul_right _ _))
theorem fr_len {P Q R : Int → Bool} : ∀ (l : List Int), (∀ x ∈ l, P x = true ∨ Q x = true ∨ R x = true) → l.length ≤ (l.filter P).length + (l.filter Q).length + (l.filter R).length := by
  intro l
  induction l with
  | nil => intro _; simp
  | cons a l ih =>
    intro h
    have h1 := ih (fun x hx => h x (List.mem_cons_of_mem _ hx))
    have h2 := h a List.mem_cons_self
    simp only [List.filter_cons, List.length_cons]
    cases hP : P a <;> cases hQ : Q a <;> cases hR : R a <;> simp_all <;> omega
def fr_g (A B C x : Int) : Int := A * (x * x) + B * x + C
def fr_b (p : Nat) (A B C : Int) : Int → Bool := fun x => decide ((p : Int) ∣ fr_g A B C x)
theorem fr_le2 {p : Nat} (hp : fr_P p) {A B C : Int} (h0 : ¬ ((p : Int) ∣ A ∧ (p : Int) ∣ B ∧ (p : Int) ∣ C)) {l : List Int} (hl : l.Pairwise (fun x y => ¬ (p : Int) ∣ x - y)) : (l.filter (fr_b p A B C)).length ≤ 2 := by
  have hf := hl.filter (fr_b p A B C)
  have hm : ∀ x ∈ l.filter (fr_b p A B C), (p : Int) ∣ A * (x * x) + B * x + C := by
    intro x hx
    have := (List.mem_filter.mp hx).2
    unfold fr_b fr_g at this
    exact of_decide_eq_true this
  generalize l.filter (fr_b p A B C) = m at hf hm
  match m, hf, hm with
  | [], _, _ => simp
  | [_], _, _ => simp
  | [_, _], _, _ => simp
  | x :: y :: z :: t, hf, hm =>
    exfalso
    rw [List.pairwise_cons, List.pairwise_cons] at hf
    exact fr_two hp h0 (hf.1 y (by simp)) (hf.1 z (by simp)) (hf.2.1 z (by simp)) (hm x (by simp)) (hm y (by simp)) (hm z (by simp))
/-- a difference that is neither 0 nor as large as p -/
theorem fr_nd {p : Nat} {x : Int} (h0 : x ≠ 0) (h1 : -(p : Int) < x) (h2 : x < p) : ¬ (p : Int) ∣ x := by
  rintro ⟨k, hk⟩
  rcases Int.lt_trichotomy k 0 with q | q | q
  · have := Int.mul_le_mul_of_nonneg_left (show k ≤ -1 by omega) (show (0 : Int) ≤ p by omega)
    omega
  · rw [q, Int.mul_zero] at hk
    exact h0 hk
  · have := Int.mul_le_mul_of_nonneg_left (show 1 ≤ k by omega) (show (0 : Int) ≤ p by omega)
    omega
/-- 3 d, d from 1 to 4, isn't a multiple of a prime above 3 -/
theorem fr_nd3 {p : Nat} (hp : fr_P p) (h5 : 5 ≤ p) {x d : Int} (e : x = 3 * d) (h0 : d ≠ 0) (h1 : -4 ≤ d) (h2 : d ≤ 4) : ¬ (p : Int) ∣ x := by
  intro h
  rw [e] at h
  rcases fr_euc hp h with k | k
  · exact fr_nd (p := p) (x := 3) (by decide) (by omega) (by omega) k
  · exact fr_nd h0 (by omega) (by omega) k
/-- what takes at most two out of places of one class modulo 3; out of places near each other -/
def fr_w3 (P : Int → Bool) : Prop := ∀ l : List Int, l.Pairwise (fun x y => ∃ d, x - y = 3 * d ∧ d ≠ 0 ∧ -4 ≤ d ∧ d ≤ 4) → (l.filter P).length ≤ 2
def fr_w6 (P : Int → Bool) : Prop := ∀ l : List Int, l.Pairwise (fun x y => x - y ≠ 0 ∧ -6 ≤ x - y ∧ x - y ≤ 6) → (l.filter P).length ≤ 2
theorem fr_w3_p {p : Nat} (hp : fr_P p) (h5 : 5 ≤ p) {A B C : Int} (h0 : ¬ ((p : Int) ∣ A ∧ (p : Int) ∣ B ∧ (p : Int) ∣ C)) : fr_w3 (fr_b p A B C) := by
  intro l hl
  refine fr_le2 hp h0 (hl.imp ?_)
  rintro x y ⟨d, e, d0, d1, d2⟩
  exact fr_nd3 hp h5 e d0 d1 d2
theorem fr_w6_p {p : Nat} (hp : fr_P p) (h7 : 7 ≤ p) {A B C : Int} (h0 : ¬ ((p : Int) ∣ A ∧ (p : Int) ∣ B ∧ (p : Int) ∣ C)) : fr_w6 (fr_b p A B C) := by
  intro l hl
  refine fr_le2 hp h0 (hl.imp ?_)
  rintro x y ⟨d0, d1, d2⟩
  exact fr_nd d0 (by omega) (by omega)
theorem fr_f0 : ∀ l : List Int, l.filter (fun _ => false) = []
  | [] => rfl
  | _ :: l => fr_f0 l
theorem fr_w3_0 : fr_w3 (fun _ => false) := fun l _ => by rw [fr_f0]; simp
theorem fr_w6_0 : fr_w6 (fun _ => false) := fun l _ => by rw [fr_f0]; simp
theorem fr_pick {l : List Int} {P Q R : Int → Bool} (h : (l.filter P).length + (l.filter Q).length + (l.filter R).length < l.length) : ∃ x ∈ l, P x = false ∧ Q x = false ∧ R x = false := by
  apply Classical.byContradiction
  intro hn
  have := fr_len (P := P) (Q := Q) (R := R) l (fun x hx => by
    cases hP : P x
    · cases hQ : Q x
      · cases hR : R x
        · exact (hn ⟨x, hx, hP, hQ, hR⟩).elim
        · exact Or.inr (Or.inr rfl)
      · exact Or.inr (Or.inl rfl)
    · exact Or.inl rfl)
  omega
theorem fr_P3 : fr_P 3 := ⟨by decide, fun d hd => by
  have : d ≤ 3 := Nat.le_of_dvd (by decide) hd
  match d, this, hd with
  | 0, _, hd => exact absurd (Nat.eq_zero_of_zero_dvd hd) (by decide)
  | 1, _, _ => exact Or.inl rfl
  | 2, _, hd => exact absurd hd (by decide)
  | 3, _, _ => exact Or.inr rfl⟩
theorem fr_P5 : fr_P 5 := ⟨by decide, fun d hd => by
  have : d ≤ 5 := Nat.le_of_dvd (by decide) hd
  match d, this, hd with
  | 0, _, hd => exact absurd (Nat.eq_zero_of_zero_dvd hd) (by decide)
  | 1, _, _ => exact Or.inl rfl
  | 2, _, hd => exact absurd hd (by decide)
  | 3, _, hd => exact absurd hd (by decide)
  | 4, _, hd => exact absurd hd (by decide)
  | 5, _, _ => exact Or.inr rfl⟩
theorem fr_per {p : Nat} {A B C x : Int} (d : Int) (h : ¬ (p : Int) ∣ fr_g A B C x) : ¬ (p : Int) ∣ fr_g A B C (x + p * d) := by
  intro k
  apply h
  have e : fr_g A B C x = fr_g A B C (x + p * d) - p * (A * (2 * x * d + p * (d * d)) + B * d) := by
    unfold fr_g
    grind
  rw [e]
  exact Int.dvd_sub k (Int.dvd_mul_right _ _)
/-- 3 the least of the primes -/
theorem fr_c3 {Q R : Int → Bool} (hq : fr_w3 Q) (hr : fr_w3 R) {A B C : Int} (n3 : ¬ (((3 : Nat) : Int) ∣ A ∧ ((3 : Nat) : Int) ∣ B ∧ ((3 : Nat) : Int) ∣ C)) : ∃ x : Int, -7 ≤ x ∧ x ≤ 7 ∧ ¬ ((3 : Nat) : Int) ∣ fr_g A B C x ∧ Q x = false ∧ R x = false := by
  have hx : ∃ x0 : Int, -7 ≤ x0 ∧ x0 ≤ -5 ∧ ¬ ((3 : Nat) : Int) ∣ fr_g A B C x0 := by
    by_cases a1 : ((3 : Nat) : Int) ∣ fr_g A B C (-7)
    · by_cases a2 : ((3 : Nat) : Int) ∣ fr_g A B C (-6)
      · by_cases a3 : ((3 : Nat) : Int) ∣ fr_g A B C (-5)
        · exact (fr_two fr_P3 n3 (x := -7) (y := -6) (z := -5) (by decide) (by decide) (by decide) a1 a2 a3).elim
        · exact ⟨-5, by decide, by decide, a3⟩
      · exact ⟨-6, by decide, by decide, a2⟩
    · exact ⟨-7, by decide, by decide, a1⟩
  obtain ⟨x0, b1, b2, b3⟩ := hx
  have hcl : ∀ d : Int, ¬ ((3 : Nat) : Int) ∣ fr_g A B C (x0 + 3 * d) := fun d => fr_per (p := 3) d b3
  have pw : ([x0 + 3 * 0, x0 + 3 * 1, x0 + 3 * 2, x0 + 3 * 3, x0 + 3 * 4] : List Int).Pairwise (fun x y => ∃ d, x - y = 3 * d ∧ d ≠ 0 ∧ -4 ≤ d ∧ d ≤ 4) := by
    refine List.Pairwise.cons ?_ (List.Pairwise.cons ?_ (List.Pairwise.cons ?_ (List.Pairwise.cons ?_ (List.Pairwise.cons ?_ List.Pairwise.nil))))
    · intro y hy
      simp only [List.mem_cons, List.not_mem_nil, or_false] at hy
      rcases hy with rfl | rfl | rfl | rfl
      · exact ⟨-1, by omega, by omega, by omega, by omega⟩
      · exact ⟨-2, by omega, by omega, by omega, by omega⟩
      · exact ⟨-3, by omega, by omega, by omega, by omega⟩
      · exact ⟨-4, by omega, by omega, by omega, by omega⟩
    · intro y hy
      simp only [List.mem_cons, List.not_mem_nil, or_false] at hy
      rcases hy with rfl | rfl | rfl
      · exact ⟨-1, by omega, by omega, by omega, by omega⟩
      · exact ⟨-2, by omega, by omega, by omega, by omega⟩
      · exact ⟨-3, by omega, by omega, by omega, by omega⟩
    · intro y hy
      simp only [List.mem_cons, List.not_mem_nil, or_false] at hy
      rcases hy with rfl | rfl
      · exact ⟨-1, by omega, by omega, by omega, by omega⟩
      · exact ⟨-2, by omega, by omega, by omega, by omega⟩
    · intro y hy
      simp only [List.mem_cons, List.not_mem_nil, or_false] at hy
      subst hy
      exact ⟨-1, by omega, by omega, by omega, by omega⟩
    · intro y hy
      simp at hy
  have k1 := hq _ pw
  have k2 := hr _ pw
  have k3 := fr_w3_0 _ pw
  obtain ⟨x, hx, hQ, hR, -⟩ := fr_pick (P := Q) (Q := R) (R := fun _ => false) (l := [x0 + 3 * 0, x0 + 3 * 1, x0 + 3 * 2, x0 + 3 * 3, x0 + 3 * 4]) (by rw [fr_f0]; simp only [List.length_nil, List.length_cons]; omega)
  have hd : ∃ d : Int, 0 ≤ d ∧ d ≤ 4 ∧ x = x0 + 3 * d := by
    simp only [List.mem_cons, List.not_mem_nil, or_false] at hx
    rcases hx with h | h | h | h | h
    · exact ⟨0, by decide, by decide, h⟩
    · exact ⟨1, by decide, by decide, h⟩
    · exact ⟨2, by decide, by decide, h⟩
    · exact ⟨3, by decide, by decide, h⟩
    · exact ⟨4, by decide, by decide, h⟩
  obtain ⟨d, d1, d2, rfl⟩ := hd
  exact ⟨x0 + 3 * d, by omega, by omega, hcl d, hQ, hR⟩
/-- all primes are 7 or more -/
theorem fr_c7 {P Q R : Int → Bool} (hp : fr_w6 P) (hq : fr_w6 Q) (hr : fr_w6 R) : ∃ x : Int, -7 ≤ x ∧ x ≤ 7 ∧ P x = false ∧ Q x = false ∧ R x = false := by
  have pw : ([-3, -2, -1, 0, 1, 2, 3] : List Int).Pairwise (fun x y => x - y ≠ 0 ∧ -6 ≤ x - y ∧ x - y ≤ 6) := by decide
  have k1 := hp _ pw
  have k2 := hq _ pw
  have k3 := hr _ pw
  obtain ⟨x, hx, h1, h2, h3⟩ := fr_pick (P := P) (Q := Q) (R := R) (l := [-3, -2, -1, 0, 1, 2, 3]) (by simp only [List.length_cons, List.length_nil]; omega)
  simp only [List.mem_cons, List.not_mem_nil, or_false] at hx
  exact ⟨x, by omega, by omega, h1, h2, h3⟩
/-- five places near each other, none of them a root modulo 5 -/
theorem fr_five {Q R : Int → Bool} (hq : fr_w6 Q) (hr : fr_w6 R) {A B C x t : Int} (hx0 : -7 ≤ x) (hx1 : x ≤ 1) (h1 : ¬ ((5 : Nat) : Int) ∣ fr_g A B C x) (h2 : ¬ ((5 : Nat) : Int) ∣ fr_g A B C (x + 1)) (ht1 : x + 2 ≤ t) (ht2 : t ≤ x + 4) (h3 : ¬ ((5 : Nat) : Int) ∣ fr_g A B C t) : ∃ x : Int, -7 ≤ x ∧ x ≤ 7 ∧ ¬ ((5 : Nat) : Int) ∣ fr_g A B C x ∧ Q x = false ∧ R x = false := by
  have h4 : ¬ ((5 : Nat) : Int) ∣ fr_g A B C (x + 5 * 1) := fr_per (p := 5) 1 h1
  have h5 : ¬ ((5 : Nat) : Int) ∣ fr_g A B C (x + 1 + 5 * 1) := fr_per (p := 5) 1 h2
  have pw : ([x, x + 1, t, x + 5 * 1, x + 1 + 5 * 1] : List Int).Pairwise (fun x y => x - y ≠ 0 ∧ -6 ≤ x - y ∧ x - y ≤ 6) := by
    refine List.Pairwise.cons ?_ (List.Pairwise.cons ?_ (List.Pairwise.cons ?_ (List.Pairwise.cons ?_ (List.Pairwise.cons ?_ List.Pairwise.nil))))
    all_goals
      intro y hy
      simp only [List.mem_cons, List.not_mem_nil, or_false] at hy
      try omega
  have k1 := hq _ pw
  have k2 := hr _ pw
  have k3 := fr_w6_0 _ pw
  obtain ⟨z, hz, hQ, hR, -⟩ := fr_pick (P := Q) (Q := R) (R := fun _ => false) (l := [x, x + 1, t, x + 5 * 1, x + 1 + 5 * 1]) (by rw [fr_f0]; simp only [List.length_nil, List.length_cons]; omega)
  simp only [List.mem_cons, List.not_mem_nil, or_false] at hz
  refine ⟨z, by omega, by omega, ?_, hQ, hR⟩
  rcases hz with rfl | rfl | rfl | rfl | rfl
  · exact h1
  · exact h2
  · exact h3
  · exact h4
  · exact h5
theorem fr_c5 {Q R : Int → Bool} (hq : fr_w6 Q) (hr : fr_w6 R) {A B C : Int} (n5 : ¬ (((5 : Nat) : Int) ∣ A ∧ ((5 : Nat) : Int) ∣ B ∧ ((5 : Nat) : Int) ∣ C)) : ∃ x : Int, -7 ≤ x ∧ x ≤ 7 ∧ ¬ ((5 : Nat) : Int) ∣ fr_g A B C x ∧ Q x = false ∧ R x = false := by
  -- at most two of five places are roots
  have tw : ∀ x y z : Int, -7 ≤ x → x < y → y < z → z ≤ -3 → ((5 : Nat) : Int) ∣ fr_g A B C x → ((5 : Nat) : Int) ∣ fr_g A B C y → ((5 : Nat) : Int) ∣ fr_g A B C z → False := fun x y z a b c d hx hy hz =>
    fr_two fr_P5 n5 (x := x) (y := y) (z := z) (fr_nd (by omega) (by omega) (by omega)) (fr_nd (by omega) (by omega) (by omega)) (fr_nd (by omega) (by omega) (by omega)) hx hy hz
  have per : ∀ x : Int, ¬ ((5 : Nat) : Int) ∣ fr_g A B C x → ¬ ((5 : Nat) : Int) ∣ fr_g A B C (x + 5 * 1) := fun x h => fr_per (p := 5) 1 h
  by_cases a : ((5 : Nat) : Int) ∣ fr_g A B C (-7) <;> by_cases b : ((5 : Nat) : Int) ∣ fr_g A B C (-6) <;> by_cases c : ((5 : Nat) : Int) ∣ fr_g A B C (-5) <;> by_cases d : ((5 : Nat) : Int) ∣ fr_g A B C (-4) <;> by_cases e : ((5 : Nat) : Int) ∣ fr_g A B C (-3)
  all_goals first
    | exact (tw (-7) (-6) (-5) (by decide) (by decide) (by decide) (by decide) a b c).elim
    | exact (tw (-7) (-6) (-4) (by decide) (by decide) (by decide) (by decide) a b d).elim
    | exact (tw (-7) (-6) (-3) (by decide) (by decide) (by decide) (by decide) a b e).elim
    | exact (tw (-7) (-5) (-4) (by decide) (by decide) (by decide) (by decide) a c d).elim
    | exact (tw (-7) (-5) (-3) (by decide) (by decide) (by decide) (by decide) a c e).elim
    | exact (tw (-7) (-4) (-3) (by decide) (by decide) (by decide) (by decide) a d e).elim
    | exact (tw (-6) (-5) (-4) (by decide) (by decide) (by decide) (by decide) b c d).elim
    | exact (tw (-6) (-5) (-3) (by decide) (by decide) (by decide) (by decide) b c e).elim
    | exact (tw (-6) (-4) (-3) (by decide) (by decide) (by decide) (by decide) b d e).elim
    | exact (tw (-5) (-4) (-3) (by decide) (by decide) (by decide) (by decide) c d e).elim
    | exact fr_five hq hr (x := -7) (t := -5) (by decide) (by decide) a b (by decide) (by decide) c
    | exact fr_five hq hr (x := -7) (t := -4) (by decide) (by decide) a b (by decide) (by decide) d
    | exact fr_five hq hr (x := -7) (t := -3) (by decide) (by decide) a b (by decide) (by decide) e
    | exact fr_five hq hr (x := -6) (t := -4) (by decide) (by decide) b c (by decide) (by decide) d
    | exact fr_five hq hr (x := -6) (t := -3) (by decide) (by decide) b c (by decide) (by decide) e
    | exact fr_five hq hr (x := -5) (t := -3) (by decide) (by decide) c d (by decide) (by decide) e
    | exact fr_five hq hr (x := -5) (t := -2) (by decide) (by decide) c d (by decide) (by decide) (per (-7) a)
    | exact fr_five hq hr (x := -4) (t := -2) (by decide) (by decide) d e (by decide) (by decide) (per (-7) a)
    | exact fr_five hq hr (x := -4) (t := -1) (by decide) (by decide) d e (by decide) (by decide) (per (-6) b)
    | exact fr_five hq hr (x := -3) (t := -1) (by decide) (by decide) e (per (-7) a) (by decide) (by decide) (per (-6) b)
    | exact fr_five hq hr (x := -3) (t := 0) (by decide) (by decide) e (per (-7) a) (by decide) (by decide) (per (-5) c)
    | exact fr_five hq hr (x := -3) (t := 1) (by decide) (by decide) e (per (-7) a) (by decide) (by decide) (per (-4) d)
def fr_odds : List Nat := [3, 5, 7, 11, 13, 17, 19, 23, 29, 31, 37, 41, 43, 47, 53, 59, 61, 67, 71, 73, 79, 83, 89, 97, 101, 103, 107, 109, 113, 127, 131, 137, 139, 149, 151, 157, 163, 167, 173, 179, 181, 191, 193, 197, 199, 211, 223, 227, 229, 233, 239, 241, 251, 257, 263, 269, 271, 277, 281, 283, 293, 307, 311, 313, 317, 331, 337, 347, 349, 353, 359, 367, 373, 379, 383, 389, 397, 401, 409, 419, 421, 431, 433, 439, 443, 449, 457, 461, 463, 467, 479, 487, 491, 499, 503, 509, 521, 523, 541, 547, 557, 563, 569, 571, 577, 587, 593, 599, 601, 607, 613, 617, 619, 631, 641, 643, 647, 653, 659, 661, 673, 677, 683, 691, 701, 709, 719, 727, 733, 739, 743, 751, 757, 761, 769, 773, 787, 797, 809, 811, 821, 823, 827, 829, 839, 853, 857, 859, 863, 877, 881, 883, 887, 907, 911, 919, 929, 937, 941, 947, 953, 967, 971, 977, 983, 991, 997, 1009, 1013, 1019, 1021]
theorem fr_odds_3 : ((List.range 1025).all fun n => n == 0 || decide ((fr_odds.filter (fun p => n % p == 0)).length ≤ 3)) = true := by decide +kernel
theorem fr_odds_p : (fr_odds.all fun p => Nat.ble 3 p && (List.range p).all fun d => Nat.ble d 1 || p % d != 0) = true := by decide +kernel
theorem fr_odds_all : ((List.range 1025).all fun p => Nat.ble p 2 || fr_odds.contains p || (List.range 33).any fun d => Nat.ble 2 d && Nat.blt d p && p % d == 0) = true := by decide +kernel
theorem fr_odds_s : fr_odds.Pairwise (fun x y => x < y) := by decide +kernel
theorem fr_odds_ok {p : Nat} (h : p ∈ fr_odds) : fr_P p ∧ 3 ≤ p := by
  have h1 := List.all_eq_true.mp fr_odds_p p h
  rw [Bool.and_eq_true] at h1
  have h3 : 3 ≤ p := Nat.le_of_ble_eq_true h1.1
  refine ⟨⟨by omega, fun d hd => ?_⟩, h3⟩
  have hle := Nat.le_of_dvd (by omega) hd
  by_cases e : d = p
  · exact Or.inr e
  · left
    have h4 := List.all_eq_true.mp h1.2 d (List.mem_range.mpr (by omega))
    rw [Bool.or_eq_true] at h4
    rcases h4 with k | k
    · have := Nat.le_of_ble_eq_true k
      have : d ≠ 0 := by
        intro e0
        rw [e0] at hd
        have := Nat.eq_zero_of_zero_dvd hd
        omega
      omega
    · exfalso
      have := Nat.mod_eq_zero_of_dvd hd
      simp [this] at k
theorem fr_odds_in {p : Nat} (hp : fr_P p) (h3 : 3 ≤ p) (hl : p ≤ 1024) : p ∈ fr_odds := by
  have h1 := List.all_eq_true.mp fr_odds_all p (List.mem_range.mpr (by omega))
  rw [Bool.or_eq_true, Bool.or_eq_true] at h1
  rcases h1 with (k | k) | k
  · have := Nat.le_of_ble_eq_true k
    omega
  · exact List.contains_iff_mem.mp k
  · exfalso
    obtain ⟨d, -, hd⟩ := List.any_eq_true.mp k
    rw [Bool.and_eq_true, Bool.and_eq_true] at hd
    have d1 := Nat.le_of_ble_eq_true hd.1.1
    have d2 : d < p := Nat.le_of_ble_eq_true hd.1.2
    have d3 : p % d = 0 := by simpa using hd.2
    rcases hp.2 d (Nat.dvd_of_mod_eq_zero d3) with e | e <;> omega
theorem fr_pd : ∀ (m g : Nat), g ≤ m → 2 ≤ g → ∃ p, fr_P p ∧ p ∣ g := by
  intro m
  induction m with
  | zero => intro g h1 h2; omega
  | succ m ih =>
    intro g h1 h2
    by_cases hp : fr_P g
    · exact ⟨g, hp, Nat.dvd_refl g⟩
    · have : ∃ d, d ∣ g ∧ d ≠ 1 ∧ d ≠ g := by
        apply Classical.byContradiction
        intro hn
        apply hp
        refine ⟨h2, fun d hd => ?_⟩
        by_cases e : d = 1
        · exact Or.inl e
        · right
          apply Classical.byContradiction
          intro e'
          exact hn ⟨d, hd, e, e'⟩
      obtain ⟨d, hd, d1, d2⟩ := this
      have hle := Nat.le_of_dvd (by omega) hd
      have d0 : d ≠ 0 := by
        intro e0
        rw [e0] at hd
        have := Nat.eq_zero_of_zero_dvd hd
        omega
      obtain ⟨p, hp, hpd⟩ := ih d (by omega) (by omega)
      exact ⟨p, hp, Nat.dvd_trans hpd hd⟩
theorem fr_rest3 {A B C : Int} : ∀ (l : List Nat), l.length ≤ 2 → (∀ p ∈ l, fr_P p ∧ 5 ≤ p ∧ ¬ ((p : Int) ∣ A ∧ (p : Int) ∣ B ∧ (p : Int) ∣ C)) → ∃ Q R : Int → Bool, fr_w3 Q ∧ fr_w3 R ∧ ∀ x, Q x = false → R x = false → ∀ p ∈ l, ¬ (p : Int) ∣ fr_g A B C x := by
  have no : ∀ {p : Nat} {x : Int}, fr_b p A B C x = false → ¬ (p : Int) ∣ fr_g A B C x := by
    intro p x h
    unfold fr_b at h
    exact of_decide_eq_false h
  intro l
  match l with
  | [] => intro _ _; exact ⟨_, _, fr_w3_0, fr_w3_0, fun x _ _ p hp => by simp at hp⟩
  | [q] =>
    intro _ h
    obtain ⟨h1, h2, h3⟩ := h q (by simp)
    refine ⟨_, _, fr_w3_p h1 h2 h3, fr_w3_0, fun x hx _ p hp => ?_⟩
    simp only [List.mem_cons, List.not_mem_nil, or_false] at hp
    rw [hp]
    exact no hx
  | [q, r] =>
    intro _ h
    obtain ⟨h1, h2, h3⟩ := h q (by simp)
    obtain ⟨k1, k2, k3⟩ := h r (by simp)
    refine ⟨_, _, fr_w3_p h1 h2 h3, fr_w3_p k1 k2 k3, fun x hx hx' p hp => ?_⟩
    simp only [List.mem_cons, List.not_mem_nil, or_false] at hp
    rcases hp with hp | hp <;> rw [hp]
    · exact no hx
    · exact no hx'
  | _ :: _ :: _ :: _ => intro h; simp at h
theorem fr_rest6 {A B C : Int} : ∀ (l : List Nat), l.length ≤ 2 → (∀ p ∈ l, fr_P p ∧ 7 ≤ p ∧ ¬ ((p : Int) ∣ A ∧ (p : Int) ∣ B ∧ (p : Int) ∣ C)) → ∃ Q R : Int → Bool, fr_w6 Q ∧ fr_w6 R ∧ ∀ x, Q x = false → R x = false → ∀ p ∈ l, ¬ (p : Int) ∣ fr_g A B C x := by
  have no : ∀ {p : Nat} {x : Int}, fr_b p A B C x = false → ¬ (p : Int) ∣ fr_g A B C x := by
    intro p x h
    unfold fr_b at h
    exact of_decide_eq_false h
  intro l
  match l with
  | [] => intro _ _; exact ⟨_, _, fr_w6_0, fr_w6_0, fun x _ _ p hp => by simp at hp⟩
  | [q] =>
    intro _ h
    obtain ⟨h1, h2, h3⟩ := h q (by simp)
    refine ⟨_, _, fr_w6_p h1 h2 h3, fr_w6_0, fun x hx _ p hp => ?_⟩
    simp only [List.mem_cons, List.not_mem_nil, or_false] at hp
    rw [hp]
    exact no hx
  | [q, r] =>
    intro _ h
    obtain ⟨h1, h2, h3⟩ := h q (by simp)
    obtain ⟨k1, k2, k3⟩ := h r (by simp)
    refine ⟨_, _, fr_w6_p h1 h2 h3, fr_w6_p k1 k2 k3, fun x hx hx' p hp => ?_⟩
    simp only [List.mem_cons, List.not_mem_nil, or_false] at hp
    rcases hp with hp | hp <;> rw [hp]
    · exact no hx
    · exact no hx'
  | _ :: _ :: _ :: _ => intro h; simp at h
/-- a place from -7 to 7 where no odd prime of n goes into the polynomial's value -/
theorem fr_main {n : Nat} (h1 : 1 ≤ n) (h2 : n ≤ 1024) {A B C : Int} (h : ∀ p, fr_P p → 3 ≤ p → p ∣ n → ¬ ((p : Int) ∣ A ∧ (p : Int) ∣ B ∧ (p : Int) ∣ C)) : ∃ x : Int, -7 ≤ x ∧ x ≤ 7 ∧ ∀ p, fr_P p → 3 ≤ p → p ∣ n → ¬ (p : Int) ∣ fr_g A B C x := by
  have hm : ∀ p, p ∈ fr_odds.filter (fun p => n % p == 0) ↔ fr_P p ∧ 3 ≤ p ∧ p ∣ n := by
    intro p
    rw [List.mem_filter]
    constructor
    · rintro ⟨a, b⟩
      exact ⟨(fr_odds_ok a).1, (fr_odds_ok a).2, Nat.dvd_of_mod_eq_zero (by simpa using b)⟩
    · rintro ⟨a, b, c⟩
      exact ⟨fr_odds_in a b (Nat.le_trans (Nat.le_of_dvd (by omega) c) h2), by simpa using Nat.mod_eq_zero_of_dvd c⟩
  have hs := fr_odds_s.filter (fun p => n % p == 0)
  have hl : (fr_odds.filter (fun p => n % p == 0)).length ≤ 3 := by
    have := List.all_eq_true.mp fr_odds_3 n (List.mem_range.mpr (by omega))
    rw [Bool.or_eq_true] at this
    rcases this with k | k
    · have : n = 0 := by simpa using k
      omega
    · exact of_decide_eq_true k
  generalize fr_odds.filter (fun p => n % p == 0) = L at hm hs hl
  match L, hm, hs, hl with
  | [], hm, _, _ =>
    refine ⟨0, by decide, by decide, fun p a b c => ?_⟩
    have := (hm p).mpr ⟨a, b, c⟩
    simp at this
  | p :: l, hm, hs, hl =>
    rw [List.pairwise_cons] at hs
    have hp := (hm p).mp (by simp)
    have hl2 : l.length ≤ 2 := by simpa using hl
    have hin : ∀ q ∈ l, fr_P q ∧ p < q ∧ ¬ ((q : Int) ∣ A ∧ (q : Int) ∣ B ∧ (q : Int) ∣ C) := by
      intro q hq
      obtain ⟨a, b, c⟩ := (hm q).mp (List.mem_cons_of_mem _ hq)
      exact ⟨a, hs.1 q hq, h q a b c⟩
    have fin : ∀ x : Int, ¬ (p : Int) ∣ fr_g A B C x → (∀ q ∈ l, ¬ (q : Int) ∣ fr_g A B C x) → ∀ q, fr_P q → 3 ≤ q → q ∣ n → ¬ (q : Int) ∣ fr_g A B C x := by
      intro x a b q c d e
      rcases List.mem_cons.mp ((hm q).mpr ⟨c, d, e⟩) with k | k
      · rw [k]; exact a
      · exact b q k
    have np := h p hp.1 hp.2.1 hp.2.2
    have n4 : ∀ q, fr_P q → q ≠ 4 := by
      intro q hq e
      rw [e] at hq
      exact absurd (hq.2 2 (by decide)) (by decide)
    have n6 : ∀ q, fr_P q → q ≠ 6 := by
      intro q hq e
      rw [e] at hq
      exact absurd (hq.2 2 (by decide)) (by decide)
    by_cases e3 : p = 3
    · subst e3
      obtain ⟨Q, R, hQ, hR, hQR⟩ := fr_rest3 l hl2 (fun q hq => by
        obtain ⟨a, b, c⟩ := hin q hq
        exact ⟨a, by have := n4 q a; omega, c⟩)
      obtain ⟨x, x1, x2, x3, x4, x5⟩ := fr_c3 hQ hR np
      exact ⟨x, x1, x2, fin x x3 (hQR x x4 x5)⟩
    · by_cases e5 : p = 5
      · subst e5
        obtain ⟨Q, R, hQ, hR, hQR⟩ := fr_rest6 l hl2 (fun q hq => by
          obtain ⟨a, b, c⟩ := hin q hq
          exact ⟨a, by have := n6 q a; omega, c⟩)
        obtain ⟨x, x1, x2, x3, x4, x5⟩ := fr_c5 hQ hR np
        exact ⟨x, x1, x2, fin x x3 (hQR x x4 x5)⟩
      · have p7 : 7 ≤ p := by
          have := n4 p hp.1
          have := n6 p hp.1
          omega
        obtain ⟨Q, R, hQ, hR, hQR⟩ := fr_rest6 l hl2 (fun q hq => by
          obtain ⟨a, b, c⟩ := hin q hq
          exact ⟨a, by omega, c⟩)
        obtain ⟨x, x1, x2, x3, x4, x5⟩ := fr_c7 (fr_w6_p hp.1 p7 np) hQ hR
        unfold fr_b at x3
        exact ⟨x, x1, x2, fin x (of_decide_eq_false x3) (hQR x x4 x5)⟩
theorem fr_cop {n : Nat} (h1 : 1 ≤ n) {v : Int} (ho : n % 2 = 1 ∨ v % 2 = 1) (h : ∀ p, fr_P p → 3 ≤ p → p ∣ n → ¬ (p : Int) ∣ v) : Int.gcd v n = 1 := by
  apply Classical.byContradiction
  intro hg
  have d1 : Int.gcd v n ∣ n := by
    have := Int.gcd_dvd_natAbs_right v n
    simpa using this
  have d2 : ((Int.gcd v n : Nat) : Int) ∣ v := Int.gcd_dvd_left v n
  have hg0 : Int.gcd v n ≠ 0 := by
    intro e
    rw [e] at d1
    have := Nat.eq_zero_of_zero_dvd d1
    omega
  obtain ⟨p, hp, hpg⟩ := fr_pd _ (Int.gcd v n) (Nat.le_refl _) (by omega)
  have dn := Nat.dvd_trans hpg d1
  have dv : (p : Int) ∣ v := Int.dvd_trans (Int.natCast_dvd_natCast.mpr hpg) d2
  by_cases e : p = 2
  · subst e
    rcases ho with k | k
    · have := Nat.mod_eq_zero_of_dvd dn
      omega
    · have := Int.emod_eq_zero_of_dvd dv
      omega
  · exact h p hp (by have := hp.1; omega) dn dv
theorem fr_dvd2 {p : Nat} (hp : fr_P p) (h3 : 3 ≤ p) {x : Int} (h : (p : Int) ∣ 2 * x) : (p : Int) ∣ x :=
  (fr_euc hp h).resolve_left (fr_nd (by decide) (by omega) (by omega))
/-- the search in a form whose coefficients have only 1 in common -/
theorem fr_form {a b c n : Int} (hp : fm_pr (a, b, c)) (h0 : n ≠ 0) (hn : fm_ab n ≤ 1024) : ∃ y k : Int, 0 ≤ y ∧ y ≤ 15 ∧ -y ≤ k ∧ k ≤ y ∧ (Int.gcd (a * (k * k) + b * k + c) n = 1 ∨ Int.gcd (a * ((k * y - 1) * (k * y - 1)) + b * ((k * y - 1) * y) + c * (y * y)) n = 1) := by
  obtain ⟨m, hm⟩ : ∃ m : Nat, m = n.natAbs := ⟨_, rfl⟩
  have m1 : 1 ≤ m := by omega
  have m2 : m ≤ 1024 := by rcases fm_ab_cases n with k | k <;> omega
  have hg : ∀ v : Int, Int.gcd v m = 1 → Int.gcd v n = 1 := by
    intro v hv
    rw [hm] at hv
    rw [← hv]
    unfold Int.gcd
    simp
  have one : ∀ p, fr_P p → ¬ ((p : Int) ∣ a ∧ (p : Int) ∣ b ∧ (p : Int) ∣ c) := by
    rintro p hp' ⟨d1, d2, d3⟩
    have := fm_pr_of hp d1 d2 d3
    exact fr_nd (p := p) (x := 1) (by decide) (by have := hp'.1; omega) (by have := hp'.1; omega) this
  by_cases ev : m % 2 = 1
  · obtain ⟨x, x1, x2, x3⟩ := fr_main m1 m2 (A := a) (B := b) (C := c) (fun p hp' _ _ => one p hp')
    exact ⟨7, x, by decide, by decide, by omega, by omega, Or.inl (hg _ (fr_cop m1 (Or.inl ev) x3))⟩
  · by_cases c1 : c % 2 = 1
    · obtain ⟨x, x1, x2, x3⟩ := fr_main m1 m2 (A := 2 * (2 * a)) (B := 2 * b) (C := c) (fun p hp' h3 _ h => one p hp' ⟨fr_dvd2 hp' h3 (fr_dvd2 hp' h3 h.1), fr_dvd2 hp' h3 h.2.1, h.2.2⟩)
      have e : a * ((2 * x) * (2 * x)) + b * (2 * x) + c = fr_g (2 * (2 * a)) (2 * b) c x := by
        unfold fr_g
        grind
      refine ⟨14, 2 * x, by decide, by decide, by omega, by omega, Or.inl (hg _ (fr_cop m1 (Or.inr ?_) (by rw [e]; exact x3)))⟩
      have e2 : a * ((2 * x) * (2 * x)) + b * (2 * x) + c = 2 * (2 * (a * (x * x)) + b * x) + c := by grind
      omega
    · by_cases c2 : (a + b) % 2 = 1
      · obtain ⟨x, x1, x2, x3⟩ := fr_main m1 m2 (A := 2 * (2 * a)) (B := 2 * (2 * a + b)) (C := a + b + c) (fun p hp' h3 _ h => by
          have da := fr_dvd2 hp' h3 (fr_dvd2 hp' h3 h.1)
          have db : (p : Int) ∣ b := by
            have := Int.dvd_sub (fr_dvd2 hp' h3 h.2.1) (Int.dvd_trans da (Int.dvd_mul_left 2 a))
            have e : 2 * a + b - 2 * a = b := by omega
            rw [e] at this
            exact this
          have dc : (p : Int) ∣ c := by
            have := Int.dvd_sub (Int.dvd_sub h.2.2 da) db
            have e : a + b + c - a - b = c := by omega
            rw [e] at this
            exact this
          exact one p hp' ⟨da, db, dc⟩)
        have e : a * ((2 * x + 1) * (2 * x + 1)) + b * (2 * x + 1) + c = fr_g (2 * (2 * a)) (2 * (2 * a + b)) (a + b + c) x := by
          unfold fr_g
          grind
        refine ⟨15, 2 * x + 1, by decide, by decide, by omega, by omega, Or.inl (hg _ (fr_cop m1 (Or.inr ?_) (by rw [e]; exact x3)))⟩
        have e2 : a * ((2 * x + 1) * (2 * x + 1)) + b * (2 * x + 1) + c = 2 * (2 * (a * (x * x)) + 2 * (a * x) + b * x) + (a + b) + c := by grind
        omega
      · have a1 : a % 2 = 1 := by
          apply Classical.byContradiction
          intro a0
          have := fm_pr_of (e := 2) hp (by show (2 : Int) ∣ a; omega) (by show (2 : Int) ∣ b; omega) (by show (2 : Int) ∣ c; omega)
          omega
        obtain ⟨x, x1, x2, x3⟩ := fr_main m1 m2 (A := 2 * (2 * (2 * (2 * (2 * (2 * a)))))) (B := 2 * (2 * (2 * (2 * (4 * b - a))))) (C := a - 8 * b + 64 * c) (fun p hp' h3 _ h => by
          have da := fr_dvd2 hp' h3 (fr_dvd2 hp' h3 (fr_dvd2 hp' h3 (fr_dvd2 hp' h3 (fr_dvd2 hp' h3 (fr_dvd2 hp' h3 h.1)))))
          have db : (p : Int) ∣ b := by
            have t := fr_dvd2 hp' h3 (fr_dvd2 hp' h3 (fr_dvd2 hp' h3 (fr_dvd2 hp' h3 h.2.1)))
            have := Int.dvd_add t da
            have e : 4 * b - a + a = 2 * (2 * b) := by omega
            rw [e] at this
            exact fr_dvd2 hp' h3 (fr_dvd2 hp' h3 this)
          have dc : (p : Int) ∣ c := by
            have := Int.dvd_add (Int.dvd_sub h.2.2 da) (Int.dvd_trans db (Int.dvd_mul_left 8 b))
            have e : a - 8 * b + 64 * c - a + 8 * b = 2 * (2 * (2 * (2 * (2 * (2 * c))))) := by omega
            rw [e] at this
            exact fr_dvd2 hp' h3 (fr_dvd2 hp' h3 (fr_dvd2 hp' h3 (fr_dvd2 hp' h3 (fr_dvd2 hp' h3 (fr_dvd2 hp' h3 this)))))
          exact one p hp' ⟨da, db, dc⟩)
        have e : a * ((x * 8 - 1) * (x * 8 - 1)) + b * ((x * 8 - 1) * 8) + c * (8 * 8) = fr_g (2 * (2 * (2 * (2 * (2 * (2 * a)))))) (2 * (2 * (2 * (2 * (4 * b - a))))) (a - 8 * b + 64 * c) x := by
          unfold fr_g
          grind
        refine ⟨8, x, by decide, by decide, by omega, by omega, Or.inr (hg _ (fr_cop m1 (Or.inr ?_) (by rw [e]; exact x3)))⟩
        have e2 : a * ((x * 8 - 1) * (x * 8 - 1)) + b * ((x * 8 - 1) * 8) + c * (8 * 8) = 2 * (32 * (a * (x * x)) - 8 * (a * x) + 4 * (b * (x * 8 - 1)) + 32 * c) + a := by grind
        omega
end
section
/-! Euler's test: v to the power (p - 1) / 2 is 1 modulo an odd prime p just if v is like a square. -/
def eu_pr : List Int → Int
  | [] => 1
  | x :: l => x * eu_pr l
theorem eu_er {y : Int} : ∀ {l : List Int}, y ∈ l → eu_pr l = y * eu_pr (l.erase y) := by
  intro l
  induction l with
  | nil => intro h; simp at h
  | cons x l ih =>
    intro h
    by_cases e : x = y
    · subst e
      rw [List.erase_cons_head]
      rfl
    · have hy : y ∈ l := by
        rcases List.mem_cons.mp h with k | k
        · exact absurd k.symm e
        · exact k
      rw [List.erase_cons_tail (by simpa using e)]
      show x * eu_pr l = y * (x * eu_pr (l.erase y))
      rw [ih hy]
      grind
theorem eu_small {p : Nat} {x : Int} (h : (p : Int) ∣ x) (h1 : -(p : Int) < x) (h2 : x < p) : x = 0 := by
  apply Classical.byContradiction
  intro h0
  exact fr_nd h0 h1 h2 h
theorem eu_pair {p : Nat} (hp : fr_P p) {v : Int} : ∀ (n : Nat) (l : List Int), l.length ≤ n → l.Nodup → (∀ x ∈ l, 1 ≤ x ∧ x < p) → (∀ x ∈ l, ∃ y ∈ l, y ≠ x ∧ (p : Int) ∣ x * y - v) → ∃ m : Nat, l.length = 2 * m ∧ (p : Int) ∣ eu_pr l - v ^ m := by
  intro n
  induction n with
  | zero =>
    intro l hl _ _ _
    have : l = [] := List.length_eq_zero_iff.mp (by omega)
    subst this
    exact ⟨0, rfl, by simp [eu_pr]⟩
  | succ n ih =>
    intro l hl nd hb hc
    match l, hl, nd, hb, hc with
    | [], _, _, _, _ => exact ⟨0, rfl, by simp [eu_pr]⟩
    | x :: t, hl, nd, hb, hc =>
      obtain ⟨y, hy, hyx, hxy⟩ := hc x List.mem_cons_self
      have hyt : y ∈ t := by
        rcases List.mem_cons.mp hy with k | k
        · exact absurd k hyx
        · exact k
      rw [List.nodup_cons] at nd
      have hlen := List.length_erase_of_mem hyt
      have hpos : 0 < t.length := List.length_pos_of_mem hyt
      simp only [List.length_cons] at hl
      have hx1 := hb x List.mem_cons_self
      have hy1 := hb y hy
      have inj : ∀ z u : Int, 1 ≤ z → z < p → 1 ≤ u → u < p → ∀ q : Int, 1 ≤ q → q < p → (p : Int) ∣ q * z - v → (p : Int) ∣ q * u - v → z = u := by
        intro z u z1 z2 u1 u2 q q1 q2 d1 d2
        have d := Int.dvd_sub d1 d2
        have e : q * z - v - (q * u - v) = q * (z - u) := by grind
        rw [e] at d
        rcases fr_euc hp d with k | k
        · have := eu_small k (by omega) (by omega)
          omega
        · have := eu_small k (by omega) (by omega)
          omega
      obtain ⟨m, m1, m2⟩ := ih (t.erase y) (by omega) (nd.2.erase y) (fun z hz => hb z (List.mem_cons_of_mem _ (List.mem_of_mem_erase hz))) (by
        intro z hz
        have hzt := List.mem_of_mem_erase hz
        have hzl : z ∈ x :: t := List.mem_cons_of_mem _ hzt
        have hz1 := hb z hzl
        have hzy : z ≠ y := by
          intro e
          rw [e] at hz
          exact (List.Nodup.not_mem_erase nd.2) hz
        have hzx : z ≠ x := by
          intro e
          rw [e] at hzt
          exact nd.1 hzt
        obtain ⟨u, hu, huz, hd⟩ := hc z hzl
        have hu1 := hb u hu
        have hux : u ≠ x := by
          intro e
          rw [e] at hd
          rw [Int.mul_comm] at hd
          exact hzy (inj z y hz1.1 hz1.2 hy1.1 hy1.2 x hx1.1 hx1.2 hd hxy)
        have huy : u ≠ y := by
          intro e
          rw [e] at hd
          rw [Int.mul_comm] at hd
          rw [Int.mul_comm] at hxy
          exact hzx (inj z x hz1.1 hz1.2 hx1.1 hx1.2 y hy1.1 hy1.2 hd hxy)
        have hut : u ∈ t := by
          rcases List.mem_cons.mp hu with k | k
          · exact absurd k hux
          · exact k
        exact ⟨u, (List.mem_erase_of_ne huy).mpr hut, huz, hd⟩)
      refine ⟨m + 1, by simp only [List.length_cons]; omega, ?_⟩
      show (p : Int) ∣ x * eu_pr t - v ^ (m + 1)
      rw [eu_er hyt, Int.pow_succ]
      have e : x * (y * eu_pr (t.erase y)) - v ^ m * v = (x * y - v) * eu_pr (t.erase y) + v * (eu_pr (t.erase y) - v ^ m) := by grind
      rw [e]
      exact Int.dvd_add (Int.dvd_trans hxy (Int.dvd_mul_right _ _)) (Int.dvd_trans m2 (Int.dvd_mul_left _ _))
def eu_l (p : Nat) : List Int := (List.range (p - 1)).map (fun i : Nat => (i : Int) + 1)
theorem eu_l_len (p : Nat) : (eu_l p).length = p - 1 := by simp [eu_l]
theorem eu_l_mem {p : Nat} {x : Int} : x ∈ eu_l p ↔ 1 ≤ x ∧ x < p := by
  unfold eu_l
  rw [List.mem_map]
  constructor
  · rintro ⟨i, hi, rfl⟩
    have := List.mem_range.mp hi
    omega
  · rintro ⟨h1, h2⟩
    exact ⟨(x - 1).toNat, List.mem_range.mpr (by omega), by omega⟩
theorem eu_l_nd (p : Nat) : (eu_l p).Nodup := by
  unfold eu_l
  unfold List.Nodup
  rw [List.pairwise_map]
  exact (List.nodup_range).imp (fun {a b} h e => h (by omega))
/-- everything from 1 to p - 1 has a partner with the product v -/
theorem eu_part {p : Nat} (hp : fr_P p) {v x : Int} (hv1 : 1 ≤ v) (hv2 : v < p) (h1 : 1 ≤ x) (h2 : x < p) : ∃ y : Int, 1 ≤ y ∧ y < p ∧ (p : Int) ∣ x * y - v := by
  obtain ⟨u, t, g, g0, e, d1, d2⟩ := fm_bez _ x p (Nat.le_refl _) (Or.inl (by omega))
  have hp0 := hp.1
  have hg : g = 1 ∨ g = -1 := by
    have d3 : g.natAbs ∣ p := by
      have := Int.natAbs_dvd_natAbs.mpr d2
      simpa using this
    rcases hp.2 _ d3 with k | k
    · omega
    · exfalso
      have d4 : (p : Int) ∣ x := by
        rw [← Int.natAbs_dvd_natAbs, Int.natAbs_natCast, ← k]
        exact Int.natAbs_dvd_natAbs.mpr d1
      exact fr_nd (by omega) (by omega) h2 d4
  have hgg : g * g = 1 := by rcases hg with h | h <;> rw [h] <;> decide
  obtain ⟨y, hy⟩ : ∃ y, y = (v * g * u) % p := ⟨_, rfl⟩
  have y0 := Int.emod_nonneg (v * g * u) (show (p : Int) ≠ 0 by omega)
  have y1 := Int.emod_lt_of_pos (v * g * u) (show (0 : Int) < p by omega)
  have y2 := Int.mul_ediv_add_emod (v * g * u) p
  rw [← hy] at y0 y1 y2
  have hd : (p : Int) ∣ x * y - v := by
    refine ⟨-(v * g * t) - x * (v * g * u / p), ?_⟩
    have e1 : x * y = x * (v * g * u) - x * (p * (v * g * u / p)) := by
      have hy' : y = v * g * u - p * (v * g * u / p) := by omega
      rw [← Int.mul_sub, ← hy']
    have e2 : v * g * (u * x + t * p) = v := by
      rw [e]
      have : v * g * g = v * (g * g) := by grind
      rw [this, hgg, Int.mul_one]
    grind
  refine ⟨y, ?_, y1, hd⟩
  rcases Int.lt_or_le 0 y with k | k
  · omega
  · exfalso
    have : y = 0 := by omega
    rw [this, Int.mul_zero, Int.zero_sub] at hd
    exact fr_nd (by omega) (by omega) (by omega) hd
/-- v is no square: all numbers from 1 to p - 1 multiplied -/
theorem eu_no {p : Nat} (hp : fr_P p) {v : Int} (hv1 : 1 ≤ v) (hv2 : v < p) (h : ∀ x : Int, 1 ≤ x → x < p → ¬ (p : Int) ∣ x * x - v) : (p : Int) ∣ eu_pr (eu_l p) - v ^ ((p - 1) / 2) := by
  obtain ⟨m, m1, m2⟩ := eu_pair hp (v := v) _ (eu_l p) (Nat.le_refl _) (eu_l_nd p) (fun x hx => eu_l_mem.mp hx) (fun x hx => by
    obtain ⟨x1, x2⟩ := eu_l_mem.mp hx
    obtain ⟨y, y1, y2, y3⟩ := eu_part hp hv1 hv2 x1 x2
    exact ⟨y, eu_l_mem.mpr ⟨y1, y2⟩, fun e => h x x1 x2 (by rw [e] at y3; exact y3), y3⟩)
  rw [eu_l_len] at m1
  have : (p - 1) / 2 = m := by omega
  rw [this]
  exact m2
/-- v is the square of x -/
theorem eu_yes {p : Nat} (hp : fr_P p) (h3 : 3 ≤ p) (hodd : p % 2 = 1) {v x : Int} (hv1 : 1 ≤ v) (hv2 : v < p) (hx1 : 1 ≤ x) (hx2 : x < p) (hd : (p : Int) ∣ x * x - v) : (p : Int) ∣ eu_pr (eu_l p) + v ^ ((p - 1) / 2) := by
  have hxm : x ∈ eu_l p := eu_l_mem.mpr ⟨hx1, hx2⟩
  have hne : (p : Int) - x ≠ x := by omega
  have hym : (p : Int) - x ∈ (eu_l p).erase x := (List.mem_erase_of_ne hne).mpr (eu_l_mem.mpr ⟨by omega, by omega⟩)
  have nd1 := (eu_l_nd p).erase x
  have hin : ∀ z, z ∈ ((eu_l p).erase x).erase ((p : Int) - x) ↔ (1 ≤ z ∧ z < p) ∧ z ≠ x ∧ z ≠ (p : Int) - x := by
    intro z
    rw [nd1.mem_erase_iff, (eu_l_nd p).mem_erase_iff, eu_l_mem]
    constructor
    · rintro ⟨a, b, c⟩
      exact ⟨c, b, a⟩
    · rintro ⟨a, b, c⟩
      exact ⟨c, b, a⟩
  have roots : ∀ z : Int, 1 ≤ z → z < p → (p : Int) ∣ z * z - v → z = x ∨ z = (p : Int) - x := by
    intro z z1 z2 hz
    have d := Int.dvd_sub hz hd
    have e : z * z - v - (x * x - v) = (z - x) * (z + x) := by grind
    rw [e] at d
    rcases fr_euc hp d with k | k
    · left
      have := eu_small k (by omega) (by omega)
      omega
    · right
      have := eu_small (Int.dvd_sub k (Int.dvd_refl (p : Int))) (by omega) (by omega)
      omega
  obtain ⟨m, m1, m2⟩ := eu_pair hp (v := v) _ (((eu_l p).erase x).erase ((p : Int) - x)) (Nat.le_refl _) (nd1.erase _) (fun z hz => ((hin z).mp hz).1) (by
    intro z hz
    obtain ⟨⟨z1, z2⟩, z3, z4⟩ := (hin z).mp hz
    obtain ⟨y, y1, y2, y3⟩ := eu_part hp hv1 hv2 z1 z2
    have yz : y ≠ z := by
      intro e
      rw [e] at y3
      rcases roots z z1 z2 y3 with k | k
      · exact z3 k
      · exact z4 k
    have inj : ∀ q : Int, (p : Int) ∣ q * q - v → 1 ≤ q → q < p → y = q → z = q := by
      intro q hq q1 q2 e
      rw [e] at y3
      have d := Int.dvd_sub y3 hq
      have e2 : z * q - v - (q * q - v) = (z - q) * q := by grind
      rw [e2] at d
      rcases fr_euc hp d with k | k
      · have := eu_small k (by omega) (by omega)
        omega
      · exact absurd k (fr_nd (by omega) (by omega) q2)
    have hd2 : (p : Int) ∣ ((p : Int) - x) * ((p : Int) - x) - v := by
      have e2 : ((p : Int) - x) * ((p : Int) - x) - v = (x * x - v) + p * (p - 2 * x) := by grind
      rw [e2]
      exact Int.dvd_add hd (Int.dvd_mul_right _ _)
    refine ⟨y, (hin y).mpr ⟨⟨y1, y2⟩, fun e => z3 (inj x hd hx1 hx2 e), fun e => z4 (inj _ hd2 (by omega) (by omega) e)⟩, yz, y3⟩)
  rw [List.length_erase_of_mem hym, List.length_erase_of_mem hxm, eu_l_len] at m1
  have hm : (p - 1) / 2 = m + 1 := by omega
  rw [hm, Int.pow_succ, eu_er hxm, eu_er hym]
  generalize eu_pr (((eu_l p).erase x).erase ((p : Int) - x)) = T at m2 ⊢
  have e : x * (((p : Int) - x) * T) + v ^ m * v = p * (x * T) - (x * x - v) * T - v * (T - v ^ m) := by grind
  rw [e]
  exact Int.dvd_sub (Int.dvd_sub (Int.dvd_mul_right _ _) (Int.dvd_trans hd (Int.dvd_mul_right _ _))) (Int.dvd_trans m2 (Int.dvd_mul_left _ _))
theorem eu_test {p : Nat} (hp : fr_P p) (h3 : 3 ≤ p) {v : Int} (hv1 : 1 ≤ v) (hv2 : v < p) : (p : Int) ∣ v ^ ((p - 1) / 2) - 1 ↔ ∃ x : Int, 0 ≤ x ∧ x ≤ p / 2 ∧ (p : Int) ∣ x * x - v := by
  have hodd : p % 2 = 1 := by
    rcases Nat.mod_two_eq_zero_or_one p with k | k
    · rcases hp.2 2 (Nat.dvd_of_mod_eq_zero k) with e | e <;> omega
    · exact k
  have h1 := eu_yes hp h3 hodd (v := 1) (x := 1) (by decide) (by omega) (by decide) (by omega) (by simp)
  rw [Int.one_pow] at h1
  constructor
  · intro h
    apply Classical.byContradiction
    intro hn
    have h2 := eu_no hp hv1 hv2 (fun x x1 x2 hx => by
      by_cases e : x ≤ p / 2
      · exact hn ⟨x, by omega, e, hx⟩
      · refine hn ⟨(p : Int) - x, by omega, by omega, ?_⟩
        have e2 : ((p : Int) - x) * ((p : Int) - x) - v = (x * x - v) + p * (p - 2 * x) := by grind
        rw [e2]
        exact Int.dvd_add hx (Int.dvd_mul_right _ _))
    -- the product is both -1 and 1
    have d := Int.dvd_sub h1 (Int.dvd_add h2 h)
    have e : eu_pr (eu_l p) + 1 - (eu_pr (eu_l p) - v ^ ((p - 1) / 2) + (v ^ ((p - 1) / 2) - 1)) = 2 := by omega
    rw [e] at d
    exact fr_nd (by decide) (by omega) (by omega) d
  · rintro ⟨x, x0, x1, hx⟩
    have xne : x ≠ 0 := by
      intro e
      rw [e, Int.mul_zero, Int.zero_sub] at hx
      exact fr_nd (by omega) (by omega) (by omega) hx
    have h2 := eu_yes hp h3 hodd hv1 hv2 (by omega) (by omega) hx
    have d := Int.dvd_sub h2 h1
    have e : eu_pr (eu_l p) + v ^ ((p - 1) / 2) - (eu_pr (eu_l p) + 1) = v ^ ((p - 1) / 2) - 1 := by omega
    rw [e] at d
    exact d
end
section
/-! Whole numbers as longs and ints: sums and products need no bound; comparisons and quotients do. -/
def jl (x : Int) : Int64 := Int64.ofInt x
def ji (x : Int) : Int32 := Int32.ofInt x
theorem jl_add (x y : Int) : jl x + jl y = jl (x + y) := (Int64.ofInt_add x y).symm
theorem jl_sub (x y : Int) : jl x - jl y = jl (x - y) := (Int64.ofInt_sub x y).symm
theorem jl_mul (x y : Int) : jl x * jl y = jl (x * y) := (Int64.ofInt_mul x y).symm
theorem jl_neg (x : Int) : -jl x = jl (-x) := (Int64.ofInt_neg x).symm
theorem ji_add (x y : Int) : ji x + ji y = ji (x + y) := (Int32.ofInt_add x y).symm
theorem ji_sub (x y : Int) : ji x - ji y = ji (x - y) := (Int32.ofInt_sub x y).symm
theorem ji_mul (x y : Int) : ji x * ji y = ji (x * y) := (Int32.ofInt_mul x y).symm
theorem ji_neg (x : Int) : -ji x = ji (-x) := (Int32.ofInt_neg x).symm
/-- in the range of a long, of an int -/
def jL (x : Int) : Prop := -9223372036854775808 ≤ x ∧ x ≤ 9223372036854775807
def jI (x : Int) : Prop := -2147483648 ≤ x ∧ x ≤ 2147483647
theorem jl_int {x : Int} (h : jL x) : (jl x).toInt = x := Int64.toInt_ofInt_of_le (by have := h.1; omega) (by have := h.2; omega)
theorem ji_int {x : Int} (h : jI x) : (ji x).toInt = x := Int32.toInt_ofInt_of_le (by have := h.1; omega) (by have := h.2; omega)
theorem jl_lt {x y : Int} (hx : jL x) (hy : jL y) : jl x < jl y ↔ x < y := by rw [Int64.lt_iff_toInt_lt, jl_int hx, jl_int hy]
theorem jl_le {x y : Int} (hx : jL x) (hy : jL y) : jl x ≤ jl y ↔ x ≤ y := by rw [Int64.le_iff_toInt_le, jl_int hx, jl_int hy]
theorem jl_eq {x y : Int} (hx : jL x) (hy : jL y) : jl x = jl y ↔ x = y := by rw [← Int64.toInt_inj, jl_int hx, jl_int hy]
theorem ji_lt {x y : Int} (hx : jI x) (hy : jI y) : ji x < ji y ↔ x < y := by rw [Int32.lt_iff_toInt_lt, ji_int hx, ji_int hy]
theorem ji_le {x y : Int} (hx : jI x) (hy : jI y) : ji x ≤ ji y ↔ x ≤ y := by rw [Int32.le_iff_toInt_le, ji_int hx, ji_int hy]
theorem ji_eq {x y : Int} (hx : jI x) (hy : jI y) : ji x = ji y ↔ x = y := by rw [← Int32.toInt_inj, ji_int hx, ji_int hy]
theorem ji_of (x : Int32) : ∃ y : Int, jI y ∧ x = ji y := ⟨x.toInt, ⟨by have := Int32.le_toInt x; omega, by have := Int32.toInt_lt x; omega⟩, (Int32.ofInt_toInt x).symm⟩
theorem jl_of (x : Int64) : ∃ y : Int, jL y ∧ x = jl y := ⟨x.toInt, ⟨by have := Int64.le_toInt x; omega, by have := Int64.toInt_lt x; omega⟩, (Int64.ofInt_toInt x).symm⟩
theorem ji_l {x : Int} (h : jI x) : (ji x).toInt64 = jl x := by
  rw [← Int64.ofInt_int32ToInt, ji_int h]
  rfl
theorem jl_i (x : Int) : (jl x).toInt32 = ji x := Int64.toInt32_ofInt
theorem jl_div {x y : Int} (hx : jL x) (hy : jL y) : jl x / jl y = jl (x.tdiv y) := by
  unfold jl
  refine (Int64.ofInt_tdiv ?_ ?_ ?_ ?_).symm
  · rw [Int64.toInt_minValue]; have := hx.1; omega
  · rw [Int64.toInt_maxValue]; have := hx.2; omega
  · rw [Int64.toInt_minValue]; have := hy.1; omega
  · rw [Int64.toInt_maxValue]; have := hy.2; omega
theorem ji_div {x y : Int} (hx : jI x) (hy : jI y) : ji x / ji y = ji (x.tdiv y) := by
  unfold ji
  refine (Int32.ofInt_tdiv ?_ ?_ ?_ ?_).symm
  · rw [Int32.toInt_minValue]; have := hx.1; omega
  · rw [Int32.toInt_maxValue]; have := hx.2; omega
  · rw [Int32.toInt_minValue]; have := hy.1; omega
  · rw [Int32.toInt_maxValue]; have := hy.2; omega
theorem jl_rem {x y : Int} (hx : jL x) (hy : jL y) : jl x - jl x / jl y * jl y = jl (x.tmod y) := by
  rw [jl_div hx hy, jl_mul, jl_sub]
  congr 1
  have := Int.mul_tdiv_add_tmod x y
  have e : x.tdiv y * y = y * x.tdiv y := Int.mul_comm _ _
  omega
theorem ji_rem {x y : Int} (hx : jI x) (hy : jI y) : ji x - ji x / ji y * ji y = ji (x.tmod y) := by
  rw [ji_div hx hy, ji_mul, ji_sub]
  congr 1
  have := Int.mul_tdiv_add_tmod x y
  have e : x.tdiv y * y = y * x.tdiv y := Int.mul_comm _ _
  omega
end
section
/-! The kit's instruction rows over whole numbers: 'jl x' on the stack for a long, 'ji x' for an int. -/
section WJ
variable {p : Program} {l : Launch} {e : Env} {R : Room} {s : State} {m : MethodId} {args : Array Value} {below : List Frame} {meth : Method} {c : Code} {H : Heap} {locs : List Loc} {cells slots : Nat} {Q : State → Prop}
variable {cc : ByteArray} {pc : Nat} {ls : Array Slot} {rest : List Value}
theorem jl_ne0 {y : Int} (hy : jL y) (h0 : y ≠ 0) : ¬ jl y = 0 := fun h => h0 ((jl_eq hy ⟨by decide, by decide⟩).mp h)
theorem ji_ne0 {y : Int} (hy : jI y) (h0 : y ≠ 0) : ¬ ji y = 0 := fun h => h0 ((ji_eq hy ⟨by decide, by decide⟩).mp h)
theorem wl_add (hexec : p.tables.exec = Jvm.exec) (hb : c.code = cc) {x y : Int} (hdg : decode cc pc = .ok (.ladd, 1)) (k : W p l e R s m args below meth c H locs cells slots Q (F0 m (pc + 1) ls (.long (jl (x + y)) :: rest))) : W p l e R s m args below meth c H locs cells slots Q (F0 m pc ls (.long (jl y) :: .long (jl x) :: rest)) := lv_ladd hexec hb hdg (by rw [jl_add]; exact k)
theorem wl_sub (hexec : p.tables.exec = Jvm.exec) (hb : c.code = cc) {x y : Int} (hdg : decode cc pc = .ok (.lsub, 1)) (k : W p l e R s m args below meth c H locs cells slots Q (F0 m (pc + 1) ls (.long (jl (x - y)) :: rest))) : W p l e R s m args below meth c H locs cells slots Q (F0 m pc ls (.long (jl y) :: .long (jl x) :: rest)) := lv_lsub hexec hb hdg (by rw [jl_sub]; exact k)
theorem wl_mul (hexec : p.tables.exec = Jvm.exec) (hb : c.code = cc) {x y : Int} (hdg : decode cc pc = .ok (.lmul, 1)) (k : W p l e R s m args below meth c H locs cells slots Q (F0 m (pc + 1) ls (.long (jl (x * y)) :: rest))) : W p l e R s m args below meth c H locs cells slots Q (F0 m pc ls (.long (jl y) :: .long (jl x) :: rest)) := lv_lmul hexec hb hdg (by rw [jl_mul]; exact k)
theorem wl_neg (hexec : p.tables.exec = Jvm.exec) (hb : c.code = cc) {x : Int} (hdg : decode cc pc = .ok (.lneg, 1)) (k : W p l e R s m args below meth c H locs cells slots Q (F0 m (pc + 1) ls (.long (jl (-x)) :: rest))) : W p l e R s m args below meth c H locs cells slots Q (F0 m pc ls (.long (jl x) :: rest)) := lv_lneg hexec hb hdg (by rw [jl_neg]; exact k)
theorem wl_div (hexec : p.tables.exec = Jvm.exec) (hb : c.code = cc) {x y : Int} (hx : jL x) (hy : jL y) (h0 : y ≠ 0) (hdg : decode cc pc = .ok (.ldiv, 1)) (k : W p l e R s m args below meth c H locs cells slots Q (F0 m (pc + 1) ls (.long (jl (x.tdiv y)) :: rest))) : W p l e R s m args below meth c H locs cells slots Q (F0 m pc ls (.long (jl y) :: .long (jl x) :: rest)) := lv_ldiv hexec hb hdg (jl_ne0 hy h0) (by rw [jl_div hx hy]; exact k)
theorem wl_rem (hexec : p.tables.exec = Jvm.exec) (hb : c.code = cc) {x y : Int} (hx : jL x) (hy : jL y) (h0 : y ≠ 0) (hdg : decode cc pc = .ok (.lrem, 1)) (k : W p l e R s m args below meth c H locs cells slots Q (F0 m (pc + 1) ls (.long (jl (x.tmod y)) :: rest))) : W p l e R s m args below meth c H locs cells slots Q (F0 m pc ls (.long (jl y) :: .long (jl x) :: rest)) := lv_lrem hexec hb hdg (jl_ne0 hy h0) (by rw [jl_rem hx hy]; exact k)
theorem wi_add (hexec : p.tables.exec = Jvm.exec) (hb : c.code = cc) {x y : Int} (hdg : decode cc pc = .ok (.iadd, 1)) (k : W p l e R s m args below meth c H locs cells slots Q (F0 m (pc + 1) ls (.int (ji (x + y)) :: rest))) : W p l e R s m args below meth c H locs cells slots Q (F0 m pc ls (.int (ji y) :: .int (ji x) :: rest)) := lv_iadd hexec hb hdg (by rw [ji_add]; exact k)
theorem wi_sub (hexec : p.tables.exec = Jvm.exec) (hb : c.code = cc) {x y : Int} (hdg : decode cc pc = .ok (.isub, 1)) (k : W p l e R s m args below meth c H locs cells slots Q (F0 m (pc + 1) ls (.int (ji (x - y)) :: rest))) : W p l e R s m args below meth c H locs cells slots Q (F0 m pc ls (.int (ji y) :: .int (ji x) :: rest)) := lv_isub hexec hb hdg (by rw [ji_sub]; exact k)
theorem wi_mul (hexec : p.tables.exec = Jvm.exec) (hb : c.code = cc) {x y : Int} (hdg : decode cc pc = .ok (.imul, 1)) (k : W p l e R s m args below meth c H locs cells slots Q (F0 m (pc + 1) ls (.int (ji (x * y)) :: rest))) : W p l e R s m args below meth c H locs cells slots Q (F0 m pc ls (.int (ji y) :: .int (ji x) :: rest)) := lv_imul hexec hb hdg (by rw [ji_mul]; exact k)
theorem wi_neg (hexec : p.tables.exec = Jvm.exec) (hb : c.code = cc) {x : Int} (hdg : decode cc pc = .ok (.ineg, 1)) (k : W p l e R s m args below meth c H locs cells slots Q (F0 m (pc + 1) ls (.int (ji (-x)) :: rest))) : W p l e R s m args below meth c H locs cells slots Q (F0 m pc ls (.int (ji x) :: rest)) := lv_ineg hexec hb hdg (by rw [ji_neg]; exact k)
theorem wi_div (hexec : p.tables.exec = Jvm.exec) (hb : c.code = cc) {x y : Int} (hx : jI x) (hy : jI y) (h0 : y ≠ 0) (hdg : decode cc pc = .ok (.idiv, 1)) (k : W p l e R s m args below meth c H locs cells slots Q (F0 m (pc + 1) ls (.int (ji (x.tdiv y)) :: rest))) : W p l e R s m args below meth c H locs cells slots Q (F0 m pc ls (.int (ji y) :: .int (ji x) :: rest)) := lv_idiv hexec hb hdg (ji_ne0 hy h0) (by rw [ji_div hx hy]; exact k)
theorem wi_rem (hexec : p.tables.exec = Jvm.exec) (hb : c.code = cc) {x y : Int} (hx : jI x) (hy : jI y) (h0 : y ≠ 0) (hdg : decode cc pc = .ok (.irem, 1)) (k : W p l e R s m args below meth c H locs cells slots Q (F0 m (pc + 1) ls (.int (ji (x.tmod y)) :: rest))) : W p l e R s m args below meth c H locs cells slots Q (F0 m pc ls (.int (ji y) :: .int (ji x) :: rest)) := lv_irem hexec hb hdg (ji_ne0 hy h0) (by rw [ji_rem hx hy]; exact k)
theorem w_i2l (hexec : p.tables.exec = Jvm.exec) (hb : c.code = cc) {x : Int} (hx : jI x) (hdg : decode cc pc = .ok (.i2l, 1)) (k : W p l e R s m args below meth c H locs cells slots Q (F0 m (pc + 1) ls (.long (jl x) :: rest))) : W p l e R s m args below meth c H locs cells slots Q (F0 m pc ls (.int (ji x) :: rest)) := lv_i2l hexec hb hdg (ji_l hx) k
theorem w_l2i (hexec : p.tables.exec = Jvm.exec) (hb : c.code = cc) {x : Int} (hdg : decode cc pc = .ok (.l2i, 1)) (k : W p l e R s m args below meth c H locs cells slots Q (F0 m (pc + 1) ls (.int (ji x) :: rest))) : W p l e R s m args below meth c H locs cells slots Q (F0 m pc ls (.long (jl x) :: rest)) := lv_l2i hexec hb hdg (jl_i x) k
theorem w_iconst (hexec : p.tables.exec = Jvm.exec) (hb : c.code = cc) {n : Int} (hdg : decode cc pc = .ok (.iconst n, 1)) (k : W p l e R s m args below meth c H locs cells slots Q (F0 m (pc + 1) ls (.int (ji n) :: rest))) : W p l e R s m args below meth c H locs cells slots Q (F0 m pc ls rest) := lv_iconst hexec hb hdg rfl k
theorem w_bipush (hexec : p.tables.exec = Jvm.exec) (hb : c.code = cc) {n : Int} (h : (Int8.ofInt n).toInt32 = ji n) (hdg : decode cc pc = .ok (.bipush n, 2)) (k : W p l e R s m args below meth c H locs cells slots Q (F0 m (pc + 2) ls (.int (ji n) :: rest))) : W p l e R s m args below meth c H locs cells slots Q (F0 m pc ls rest) := lv_bipush hexec hb hdg h k
theorem w_sipush (hexec : p.tables.exec = Jvm.exec) (hb : c.code = cc) {n : Int} (h : (Int16.ofInt n).toInt32 = ji n) (hdg : decode cc pc = .ok (.sipush n, 3)) (k : W p l e R s m args below meth c H locs cells slots Q (F0 m (pc + 3) ls (.int (ji n) :: rest))) : W p l e R s m args below meth c H locs cells slots Q (F0 m pc ls rest) := lv_sipush hexec hb hdg h k
theorem w_lconst (hexec : p.tables.exec = Jvm.exec) (hb : c.code = cc) {n : Fin 2} {v : Int} (h : Int64.ofNat (n : Nat) = jl v) (hdg : decode cc pc = .ok (.lconst n, 1)) (k : W p l e R s m args below meth c H locs cells slots Q (F0 m (pc + 1) ls (.long (jl v) :: rest))) : W p l e R s m args below meth c H locs cells slots Q (F0 m pc ls rest) := lv_lconst hexec hb hdg h k
theorem wi_ceq (hexec : p.tables.exec = Jvm.exec) (hb : c.code = cc) {x y : Int} {off : Int} {tgt : Nat} (hx : jI x) (hy : jI y) (hdg : decode cc pc = .ok (.if_icmp .eq off, 3)) (ht : (pc : Int) + off = (tgt : Int)) (kt : x = y → W p l e R s m args below meth c H locs cells slots Q (F0 m tgt ls rest)) (kf : ¬ x = y → W p l e R s m args below meth c H locs cells slots Q (F0 m (pc + 3) ls rest)) : W p l e R s m args below meth c H locs cells slots Q (F0 m pc ls (.int (ji y) :: .int (ji x) :: rest)) := lv_icmp_eq hexec hb hdg ht (fun q => kt ((ji_eq hx hy).mp q)) (fun q => kf (fun z => q ((ji_eq hx hy).mpr z)))
theorem wi_zeq (hexec : p.tables.exec = Jvm.exec) (hb : c.code = cc) {x : Int} {off : Int} {tgt : Nat} (hx : jI x) (hdg : decode cc pc = .ok (.ifCond .eq off, 3)) (ht : (pc : Int) + off = (tgt : Int)) (kt : x = 0 → W p l e R s m args below meth c H locs cells slots Q (F0 m tgt ls rest)) (kf : ¬ x = 0 → W p l e R s m args below meth c H locs cells slots Q (F0 m (pc + 3) ls rest)) : W p l e R s m args below meth c H locs cells slots Q (F0 m pc ls (.int (ji x) :: rest)) := by
  have j0 : jI 0 := ⟨by decide, by decide⟩
  exact lv_if_eq hexec hb hdg ht (fun q => kt ((ji_eq hx j0).mp q)) (fun q => kf (fun z => q ((ji_eq hx j0).mpr z)))
theorem wi_cne (hexec : p.tables.exec = Jvm.exec) (hb : c.code = cc) {x y : Int} {off : Int} {tgt : Nat} (hx : jI x) (hy : jI y) (hdg : decode cc pc = .ok (.if_icmp .ne off, 3)) (ht : (pc : Int) + off = (tgt : Int)) (kt : ¬ x = y → W p l e R s m args below meth c H locs cells slots Q (F0 m tgt ls rest)) (kf : x = y → W p l e R s m args below meth c H locs cells slots Q (F0 m (pc + 3) ls rest)) : W p l e R s m args below meth c H locs cells slots Q (F0 m pc ls (.int (ji y) :: .int (ji x) :: rest)) := lv_icmp_ne hexec hb hdg ht (fun q => kt (fun z => q ((ji_eq hx hy).mpr z))) (fun q => kf ((ji_eq hx hy).mp q))
theorem wi_zne (hexec : p.tables.exec = Jvm.exec) (hb : c.code = cc) {x : Int} {off : Int} {tgt : Nat} (hx : jI x) (hdg : decode cc pc = .ok (.ifCond .ne off, 3)) (ht : (pc : Int) + off = (tgt : Int)) (kt : ¬ x = 0 → W p l e R s m args below meth c H locs cells slots Q (F0 m tgt ls rest)) (kf : x = 0 → W p l e R s m args below meth c H locs cells slots Q (F0 m (pc + 3) ls rest)) : W p l e R s m args below meth c H locs cells slots Q (F0 m pc ls (.int (ji x) :: rest)) := by
  have j0 : jI 0 := ⟨by decide, by decide⟩
  exact lv_if_ne hexec hb hdg ht (fun q => kt (fun z => q ((ji_eq hx j0).mpr z))) (fun q => kf ((ji_eq hx j0).mp q))
theorem wi_clt (hexec : p.tables.exec = Jvm.exec) (hb : c.code = cc) {x y : Int} {off : Int} {tgt : Nat} (hx : jI x) (hy : jI y) (hdg : decode cc pc = .ok (.if_icmp .lt off, 3)) (ht : (pc : Int) + off = (tgt : Int)) (kt : x < y → W p l e R s m args below meth c H locs cells slots Q (F0 m tgt ls rest)) (kf : ¬ x < y → W p l e R s m args below meth c H locs cells slots Q (F0 m (pc + 3) ls rest)) : W p l e R s m args below meth c H locs cells slots Q (F0 m pc ls (.int (ji y) :: .int (ji x) :: rest)) := lv_icmp_lt hexec hb hdg ht (fun q => kt ((ji_lt hx hy).mp q)) (fun q => kf (fun z => q ((ji_lt hx hy).mpr z)))
theorem wi_zlt (hexec : p.tables.exec = Jvm.exec) (hb : c.code = cc) {x : Int} {off : Int} {tgt : Nat} (hx : jI x) (hdg : decode cc pc = .ok (.ifCond .lt off, 3)) (ht : (pc : Int) + off = (tgt : Int)) (kt : x < 0 → W p l e R s m args below meth c H locs cells slots Q (F0 m tgt ls rest)) (kf : ¬ x < 0 → W p l e R s m args below meth c H locs cells slots Q (F0 m (pc + 3) ls rest)) : W p l e R s m args below meth c H locs cells slots Q (F0 m pc ls (.int (ji x) :: rest)) := by
  have j0 : jI 0 := ⟨by decide, by decide⟩
  exact lv_if_lt hexec hb hdg ht (fun q => kt ((ji_lt hx j0).mp q)) (fun q => kf (fun z => q ((ji_lt hx j0).mpr z)))
theorem wi_cge (hexec : p.tables.exec = Jvm.exec) (hb : c.code = cc) {x y : Int} {off : Int} {tgt : Nat} (hx : jI x) (hy : jI y) (hdg : decode cc pc = .ok (.if_icmp .ge off, 3)) (ht : (pc : Int) + off = (tgt : Int)) (kt : y ≤ x → W p l e R s m args below meth c H locs cells slots Q (F0 m tgt ls rest)) (kf : ¬ y ≤ x → W p l e R s m args below meth c H locs cells slots Q (F0 m (pc + 3) ls rest)) : W p l e R s m args below meth c H locs cells slots Q (F0 m pc ls (.int (ji y) :: .int (ji x) :: rest)) := lv_icmp_ge hexec hb hdg ht (fun q => kt ((ji_le hy hx).mp q)) (fun q => kf (fun z => q ((ji_le hy hx).mpr z)))
theorem wi_zge (hexec : p.tables.exec = Jvm.exec) (hb : c.code = cc) {x : Int} {off : Int} {tgt : Nat} (hx : jI x) (hdg : decode cc pc = .ok (.ifCond .ge off, 3)) (ht : (pc : Int) + off = (tgt : Int)) (kt : 0 ≤ x → W p l e R s m args below meth c H locs cells slots Q (F0 m tgt ls rest)) (kf : ¬ 0 ≤ x → W p l e R s m args below meth c H locs cells slots Q (F0 m (pc + 3) ls rest)) : W p l e R s m args below meth c H locs cells slots Q (F0 m pc ls (.int (ji x) :: rest)) := by
  have j0 : jI 0 := ⟨by decide, by decide⟩
  exact lv_if_ge hexec hb hdg ht (fun q => kt ((ji_le j0 hx).mp q)) (fun q => kf (fun z => q ((ji_le j0 hx).mpr z)))
theorem wi_cgt (hexec : p.tables.exec = Jvm.exec) (hb : c.code = cc) {x y : Int} {off : Int} {tgt : Nat} (hx : jI x) (hy : jI y) (hdg : decode cc pc = .ok (.if_icmp .gt off, 3)) (ht : (pc : Int) + off = (tgt : Int)) (kt : y < x → W p l e R s m args below meth c H locs cells slots Q (F0 m tgt ls rest)) (kf : ¬ y < x → W p l e R s m args below meth c H locs cells slots Q (F0 m (pc + 3) ls rest)) : W p l e R s m args below meth c H locs cells slots Q (F0 m pc ls (.int (ji y) :: .int (ji x) :: rest)) := lv_icmp_gt hexec hb hdg ht (fun q => kt ((ji_lt hy hx).mp q)) (fun q => kf (fun z => q ((ji_lt hy hx).mpr z)))
theorem wi_zgt (hexec : p.tables.exec = Jvm.exec) (hb : c.code = cc) {x : Int} {off : Int} {tgt : Nat} (hx : jI x) (hdg : decode cc pc = .ok (.ifCond .gt off, 3)) (ht : (pc : Int) + off = (tgt : Int)) (kt : 0 < x → W p l e R s m args below meth c H locs cells slots Q (F0 m tgt ls rest)) (kf : ¬ 0 < x → W p l e R s m args below meth c H locs cells slots Q (F0 m (pc + 3) ls rest)) : W p l e R s m args below meth c H locs cells slots Q (F0 m pc ls (.int (ji x) :: rest)) := by
  have j0 : jI 0 := ⟨by decide, by decide⟩
  exact lv_if_gt hexec hb hdg ht (fun q => kt ((ji_lt j0 hx).mp q)) (fun q => kf (fun z => q ((ji_lt j0 hx).mpr z)))
theorem wi_cle (hexec : p.tables.exec = Jvm.exec) (hb : c.code = cc) {x y : Int} {off : Int} {tgt : Nat} (hx : jI x) (hy : jI y) (hdg : decode cc pc = .ok (.if_icmp .le off, 3)) (ht : (pc : Int) + off = (tgt : Int)) (kt : x ≤ y → W p l e R s m args below meth c H locs cells slots Q (F0 m tgt ls rest)) (kf : ¬ x ≤ y → W p l e R s m args below meth c H locs cells slots Q (F0 m (pc + 3) ls rest)) : W p l e R s m args below meth c H locs cells slots Q (F0 m pc ls (.int (ji y) :: .int (ji x) :: rest)) := lv_icmp_le hexec hb hdg ht (fun q => kt ((ji_le hx hy).mp q)) (fun q => kf (fun z => q ((ji_le hx hy).mpr z)))
theorem wi_zle (hexec : p.tables.exec = Jvm.exec) (hb : c.code = cc) {x : Int} {off : Int} {tgt : Nat} (hx : jI x) (hdg : decode cc pc = .ok (.ifCond .le off, 3)) (ht : (pc : Int) + off = (tgt : Int)) (kt : x ≤ 0 → W p l e R s m args below meth c H locs cells slots Q (F0 m tgt ls rest)) (kf : ¬ x ≤ 0 → W p l e R s m args below meth c H locs cells slots Q (F0 m (pc + 3) ls rest)) : W p l e R s m args below meth c H locs cells slots Q (F0 m pc ls (.int (ji x) :: rest)) := by
  have j0 : jI 0 := ⟨by decide, by decide⟩
  exact lv_if_le hexec hb hdg ht (fun q => kt ((ji_le hx j0).mp q)) (fun q => kf (fun z => q ((ji_le hx j0).mpr z)))
theorem jl_cmp {x y : Int} (hx : jL x) (hy : jL y) : (y < x ∧ lg_cmp (jl x) (jl y) = 1) ∨ (x = y ∧ lg_cmp (jl x) (jl y) = 0) ∨ (x < y ∧ lg_cmp (jl x) (jl y) = -1) := by
  unfold lg_cmp
  rcases Int.lt_trichotomy x y with h | h | h
  · right; right
    refine ⟨h, ?_⟩
    rw [if_neg (fun q => by have := (jl_lt hy hx).mp q; omega), if_neg (fun q => by have := (jl_eq hx hy).mp q; omega)]
  · right; left
    subst h
    refine ⟨rfl, ?_⟩
    rw [if_neg (fun q => by have := (jl_lt hx hx).mp q; omega), if_pos rfl]
  · left
    refine ⟨h, ?_⟩
    rw [if_pos ((jl_lt hy hx).mpr h)]
theorem wl_ceq (hexec : p.tables.exec = Jvm.exec) (hb : c.code = cc) {x y : Int} {off : Int} {tgt : Nat} (hx : jL x) (hy : jL y) (hdg : decode cc pc = .ok (.lcmp, 1)) (hdg2 : decode cc (pc + 1) = .ok (.ifCond .eq off, 3)) (ht : ((pc + 1 : Nat) : Int) + off = (tgt : Int)) (kt : x = y → W p l e R s m args below meth c H locs cells slots Q (F0 m tgt ls rest)) (kf : ¬ x = y → W p l e R s m args below meth c H locs cells slots Q (F0 m (pc + 1 + 3) ls rest)) : W p l e R s m args below meth c H locs cells slots Q (F0 m pc ls (.long (jl y) :: .long (jl x) :: rest)) := by
  refine W.lcmp hexec hb hdg ?_
  refine lv_if_eq hexec hb hdg2 ht (fun q => kt ?_) (fun q => kf ?_)
  all_goals
    rcases jl_cmp hx hy with ⟨h1, h2⟩ | ⟨h1, h2⟩ | ⟨h1, h2⟩ <;> rw [h2] at q <;> first | omega | exact absurd q (by decide) | exact absurd (by decide) q
theorem wl_cne (hexec : p.tables.exec = Jvm.exec) (hb : c.code = cc) {x y : Int} {off : Int} {tgt : Nat} (hx : jL x) (hy : jL y) (hdg : decode cc pc = .ok (.lcmp, 1)) (hdg2 : decode cc (pc + 1) = .ok (.ifCond .ne off, 3)) (ht : ((pc + 1 : Nat) : Int) + off = (tgt : Int)) (kt : ¬ x = y → W p l e R s m args below meth c H locs cells slots Q (F0 m tgt ls rest)) (kf : x = y → W p l e R s m args below meth c H locs cells slots Q (F0 m (pc + 1 + 3) ls rest)) : W p l e R s m args below meth c H locs cells slots Q (F0 m pc ls (.long (jl y) :: .long (jl x) :: rest)) := by
  refine W.lcmp hexec hb hdg ?_
  refine lv_if_ne hexec hb hdg2 ht (fun q => kt ?_) (fun q => kf ?_)
  all_goals
    rcases jl_cmp hx hy with ⟨h1, h2⟩ | ⟨h1, h2⟩ | ⟨h1, h2⟩ <;> rw [h2] at q <;> first | omega | exact absurd q (by decide) | exact absurd (by decide) q
theorem wl_clt (hexec : p.tables.exec = Jvm.exec) (hb : c.code = cc) {x y : Int} {off : Int} {tgt : Nat} (hx : jL x) (hy : jL y) (hdg : decode cc pc = .ok (.lcmp, 1)) (hdg2 : decode cc (pc + 1) = .ok (.ifCond .lt off, 3)) (ht : ((pc + 1 : Nat) : Int) + off = (tgt : Int)) (kt : x < y → W p l e R s m args below meth c H locs cells slots Q (F0 m tgt ls rest)) (kf : ¬ x < y → W p l e R s m args below meth c H locs cells slots Q (F0 m (pc + 1 + 3) ls rest)) : W p l e R s m args below meth c H locs cells slots Q (F0 m pc ls (.long (jl y) :: .long (jl x) :: rest)) := by
  refine W.lcmp hexec hb hdg ?_
  refine lv_if_lt hexec hb hdg2 ht (fun q => kt ?_) (fun q => kf ?_)
  all_goals
    rcases jl_cmp hx hy with ⟨h1, h2⟩ | ⟨h1, h2⟩ | ⟨h1, h2⟩ <;> rw [h2] at q <;> first | omega | exact absurd q (by decide) | exact absurd (by decide) q
theorem wl_cge (hexec : p.tables.exec = Jvm.exec) (hb : c.code = cc) {x y : Int} {off : Int} {tgt : Nat} (hx : jL x) (hy : jL y) (hdg : decode cc pc = .ok (.lcmp, 1)) (hdg2 : decode cc (pc + 1) = .ok (.ifCond .ge off, 3)) (ht : ((pc + 1 : Nat) : Int) + off = (tgt : Int)) (kt : y ≤ x → W p l e R s m args below meth c H locs cells slots Q (F0 m tgt ls rest)) (kf : ¬ y ≤ x → W p l e R s m args below meth c H locs cells slots Q (F0 m (pc + 1 + 3) ls rest)) : W p l e R s m args below meth c H locs cells slots Q (F0 m pc ls (.long (jl y) :: .long (jl x) :: rest)) := by
  refine W.lcmp hexec hb hdg ?_
  refine lv_if_ge hexec hb hdg2 ht (fun q => kt ?_) (fun q => kf ?_)
  all_goals
    rcases jl_cmp hx hy with ⟨h1, h2⟩ | ⟨h1, h2⟩ | ⟨h1, h2⟩ <;> rw [h2] at q <;> first | omega | exact absurd q (by decide) | exact absurd (by decide) q
theorem wl_cgt (hexec : p.tables.exec = Jvm.exec) (hb : c.code = cc) {x y : Int} {off : Int} {tgt : Nat} (hx : jL x) (hy : jL y) (hdg : decode cc pc = .ok (.lcmp, 1)) (hdg2 : decode cc (pc + 1) = .ok (.ifCond .gt off, 3)) (ht : ((pc + 1 : Nat) : Int) + off = (tgt : Int)) (kt : y < x → W p l e R s m args below meth c H locs cells slots Q (F0 m tgt ls rest)) (kf : ¬ y < x → W p l e R s m args below meth c H locs cells slots Q (F0 m (pc + 1 + 3) ls rest)) : W p l e R s m args below meth c H locs cells slots Q (F0 m pc ls (.long (jl y) :: .long (jl x) :: rest)) := by
  refine W.lcmp hexec hb hdg ?_
  refine lv_if_gt hexec hb hdg2 ht (fun q => kt ?_) (fun q => kf ?_)
  all_goals
    rcases jl_cmp hx hy with ⟨h1, h2⟩ | ⟨h1, h2⟩ | ⟨h1, h2⟩ <;> rw [h2] at q <;> first | omega | exact absurd q (by decide) | exact absurd (by decide) q
theorem wl_cle (hexec : p.tables.exec = Jvm.exec) (hb : c.code = cc) {x y : Int} {off : Int} {tgt : Nat} (hx : jL x) (hy : jL y) (hdg : decode cc pc = .ok (.lcmp, 1)) (hdg2 : decode cc (pc + 1) = .ok (.ifCond .le off, 3)) (ht : ((pc + 1 : Nat) : Int) + off = (tgt : Int)) (kt : x ≤ y → W p l e R s m args below meth c H locs cells slots Q (F0 m tgt ls rest)) (kf : ¬ x ≤ y → W p l e R s m args below meth c H locs cells slots Q (F0 m (pc + 1 + 3) ls rest)) : W p l e R s m args below meth c H locs cells slots Q (F0 m pc ls (.long (jl y) :: .long (jl x) :: rest)) := by
  refine W.lcmp hexec hb hdg ?_
  refine lv_if_le hexec hb hdg2 ht (fun q => kt ?_) (fun q => kf ?_)
  all_goals
    rcases jl_cmp hx hy with ⟨h1, h2⟩ | ⟨h1, h2⟩ | ⟨h1, h2⟩ <;> rw [h2] at q <;> first | omega | exact absurd q (by decide) | exact absurd (by decide) q
end WJ
end
section
-- ===== PART A: goes FIRST, ahead of the names: the tables' words, and 'selects' of the private methods out of them =====
/-- a private method of a class that the tables say can be made, by its rows of tables_1 -/
def lw_okq (q : MethodName × Nat) : Prop := (q.1.cls ≠ "java/lang/invoke/MethodHandle" ∧ q.1.cls ≠ "java/lang/invoke/VarHandle") ∧ Cond.instantiable q.1.cls q.2 ∈ tables_1 ∧ Cond.privateMethod q.1 ∈ tables_1 ∧ Cond.instanceMethod q.1 ∈ tables_1
theorem lw_p0 : lw_okq (⟨"FormComposer", "begin", "(I)V"⟩, 4) := ⟨⟨by decide +kernel, by decide +kernel⟩, List.mem_of_getElem? (i := 14) (by decide +kernel), List.mem_of_getElem? (i := 112) (by decide +kernel), List.mem_of_getElem? (i := 113) (by decide +kernel)⟩
theorem lw_p1 : lw_okq (⟨"FormComposer$Group", "settle", "(I)V"⟩, 7) := ⟨⟨by decide +kernel, by decide +kernel⟩, List.mem_of_getElem? (i := 22) (by decide +kernel), List.mem_of_getElem? (i := 116) (by decide +kernel), List.mem_of_getElem? (i := 117) (by decide +kernel)⟩
theorem lw_p2 : lw_okq (⟨"FormComposer$Group", "becomeFrom", "(LFormComposer$Form;JJ)V"⟩, 7) := ⟨⟨by decide +kernel, by decide +kernel⟩, List.mem_of_getElem? (i := 22) (by decide +kernel), List.mem_of_getElem? (i := 123) (by decide +kernel), List.mem_of_getElem? (i := 124) (by decide +kernel)⟩
theorem lw_p3 : lw_okq (⟨"FormComposer$Form", "become", "(JJJ)V"⟩, 3) := ⟨⟨by decide +kernel, by decide +kernel⟩, List.mem_of_getElem? (i := 28) (by decide +kernel), List.mem_of_getElem? (i := 131) (by decide +kernel), List.mem_of_getElem? (i := 132) (by decide +kernel)⟩
theorem lw_p4 : lw_okq (⟨"FormComposer$Group", "reduce", "(LFormComposer$Form;)V"⟩, 7) := ⟨⟨by decide +kernel, by decide +kernel⟩, List.mem_of_getElem? (i := 22) (by decide +kernel), List.mem_of_getElem? (i := 135) (by decide +kernel), List.mem_of_getElem? (i := 136) (by decide +kernel)⟩
theorem lw_p5 : lw_okq (⟨"FormComposer$Group", "reduceBelow", "(LFormComposer$Form;)V"⟩, 7) := ⟨⟨by decide +kernel, by decide +kernel⟩, List.mem_of_getElem? (i := 22) (by decide +kernel), List.mem_of_getElem? (i := 139) (by decide +kernel), List.mem_of_getElem? (i := 140) (by decide +kernel)⟩
theorem lw_p6 : lw_okq (⟨"FormComposer$Group", "isReducedAbove", "(LFormComposer$Form;)Z"⟩, 7) := ⟨⟨by decide +kernel, by decide +kernel⟩, List.mem_of_getElem? (i := 22) (by decide +kernel), List.mem_of_getElem? (i := 151) (by decide +kernel), List.mem_of_getElem? (i := 152) (by decide +kernel)⟩
theorem lw_p7 : lw_okq (⟨"FormComposer$Group", "step", "(LFormComposer$Form;)V"⟩, 7) := ⟨⟨by decide +kernel, by decide +kernel⟩, List.mem_of_getElem? (i := 22) (by decide +kernel), List.mem_of_getElem? (i := 158) (by decide +kernel), List.mem_of_getElem? (i := 159) (by decide +kernel)⟩
theorem lw_p8 : lw_okq (⟨"FormComposer$Group", "turnIntoName", "(LFormComposer$Form;)I"⟩, 7) := ⟨⟨by decide +kernel, by decide +kernel⟩, List.mem_of_getElem? (i := 22) (by decide +kernel), List.mem_of_getElem? (i := 165) (by decide +kernel), List.mem_of_getElem? (i := 166) (by decide +kernel)⟩
theorem lw_p9 : lw_okq (⟨"FormComposer$Form", "copy", "(LFormComposer$Form;)V"⟩, 3) := ⟨⟨by decide +kernel, by decide +kernel⟩, List.mem_of_getElem? (i := 28) (by decide +kernel), List.mem_of_getElem? (i := 169) (by decide +kernel), List.mem_of_getElem? (i := 170) (by decide +kernel)⟩
theorem lw_p10 : lw_okq (⟨"FormComposer$Form", "matches", "(LFormComposer$Form;)Z"⟩, 3) := ⟨⟨by decide +kernel, by decide +kernel⟩, List.mem_of_getElem? (i := 28) (by decide +kernel), List.mem_of_getElem? (i := 174) (by decide +kernel), List.mem_of_getElem? (i := 175) (by decide +kernel)⟩
theorem lw_p11 : lw_okq (⟨"FormComposer$Form", "isBefore", "(LFormComposer$Form;)Z"⟩, 3) := ⟨⟨by decide +kernel, by decide +kernel⟩, List.mem_of_getElem? (i := 28) (by decide +kernel), List.mem_of_getElem? (i := 178) (by decide +kernel), List.mem_of_getElem? (i := 179) (by decide +kernel)⟩
theorem lw_p12 : lw_okq (⟨"FormComposer$OddPrimes", "find", "(I)V"⟩, 2) := ⟨⟨by decide +kernel, by decide +kernel⟩, List.mem_of_getElem? (i := 94) (by decide +kernel), List.mem_of_getElem? (i := 182) (by decide +kernel), List.mem_of_getElem? (i := 183) (by decide +kernel)⟩
theorem lw_p13 : lw_okq (⟨"FormComposer$OddPrimes", "append", "(I)V"⟩, 2) := ⟨⟨by decide +kernel, by decide +kernel⟩, List.mem_of_getElem? (i := 94) (by decide +kernel), List.mem_of_getElem? (i := 195) (by decide +kernel), List.mem_of_getElem? (i := 196) (by decide +kernel)⟩
theorem lw_p14 : lw_okq (⟨"java/lang/Throwable", "fillInStackTrace", "(I)Ljava/lang/Throwable;"⟩, 6) := ⟨⟨by decide +kernel, by decide +kernel⟩, List.mem_of_getElem? (i := 272) (by decide +kernel), List.mem_of_getElem? (i := 270) (by decide +kernel), List.mem_of_getElem? (i := 271) (by decide +kernel)⟩
theorem lw_p15 : lw_okq (⟨"FormComposer", "held", "(I)LFormComposer$Form;"⟩, 4) := ⟨⟨by decide +kernel, by decide +kernel⟩, List.mem_of_getElem? (i := 14) (by decide +kernel), List.mem_of_getElem? (i := 310) (by decide +kernel), List.mem_of_getElem? (i := 311) (by decide +kernel)⟩
def lw_privs_1 : List (MethodName × Nat) := [(⟨"FormComposer", "begin", "(I)V"⟩, 4), (⟨"FormComposer$Group", "settle", "(I)V"⟩, 7), (⟨"FormComposer$Group", "becomeFrom", "(LFormComposer$Form;JJ)V"⟩, 7), (⟨"FormComposer$Form", "become", "(JJJ)V"⟩, 3), (⟨"FormComposer$Group", "reduce", "(LFormComposer$Form;)V"⟩, 7), (⟨"FormComposer$Group", "reduceBelow", "(LFormComposer$Form;)V"⟩, 7), (⟨"FormComposer$Group", "isReducedAbove", "(LFormComposer$Form;)Z"⟩, 7), (⟨"FormComposer$Group", "step", "(LFormComposer$Form;)V"⟩, 7), (⟨"FormComposer$Group", "turnIntoName", "(LFormComposer$Form;)I"⟩, 7), (⟨"FormComposer$Form", "copy", "(LFormComposer$Form;)V"⟩, 3), (⟨"FormComposer$Form", "matches", "(LFormComposer$Form;)Z"⟩, 3), (⟨"FormComposer$Form", "isBefore", "(LFormComposer$Form;)Z"⟩, 3), (⟨"FormComposer$OddPrimes", "find", "(I)V"⟩, 2), (⟨"FormComposer$OddPrimes", "append", "(I)V"⟩, 2), (⟨"java/lang/Throwable", "fillInStackTrace", "(I)Ljava/lang/Throwable;"⟩, 6), (⟨"FormComposer", "held", "(I)LFormComposer$Form;"⟩, 4)]
theorem lw_r1 : ∀ q ∈ lw_privs_1, lw_okq q := List.forall_mem_cons.mpr ⟨lw_p0, List.forall_mem_cons.mpr ⟨lw_p1, List.forall_mem_cons.mpr ⟨lw_p2, List.forall_mem_cons.mpr ⟨lw_p3, List.forall_mem_cons.mpr ⟨lw_p4, List.forall_mem_cons.mpr ⟨lw_p5, List.forall_mem_cons.mpr ⟨lw_p6, List.forall_mem_cons.mpr ⟨lw_p7, List.forall_mem_cons.mpr ⟨lw_p8, List.forall_mem_cons.mpr ⟨lw_p9, List.forall_mem_cons.mpr ⟨lw_p10, List.forall_mem_cons.mpr ⟨lw_p11, List.forall_mem_cons.mpr ⟨lw_p12, List.forall_mem_cons.mpr ⟨lw_p13, List.forall_mem_cons.mpr ⟨lw_p14, List.forall_mem_cons.mpr ⟨lw_p15, fun _ h => absurd h List.not_mem_nil⟩⟩⟩⟩⟩⟩⟩⟩⟩⟩⟩⟩⟩⟩⟩⟩
theorem lw_p16 : lw_okq (⟨"FormComposer$Group", "canTake", "(JJJ)Z"⟩, 7) := ⟨⟨by decide +kernel, by decide +kernel⟩, List.mem_of_getElem? (i := 22) (by decide +kernel), List.mem_of_getElem? (i := 330) (by decide +kernel), List.mem_of_getElem? (i := 331) (by decide +kernel)⟩
theorem lw_p17 : lw_okq (⟨"FormComposer$Euclid", "solve", "(JJ)V"⟩, 3) := ⟨⟨by decide +kernel, by decide +kernel⟩, List.mem_of_getElem? (i := 50) (by decide +kernel), List.mem_of_getElem? (i := 339) (by decide +kernel), List.mem_of_getElem? (i := 340) (by decide +kernel)⟩
theorem lw_p18 : lw_okq (⟨"FormComposer", "storeName", "(LFormComposer$Form;)V"⟩, 4) := ⟨⟨by decide +kernel, by decide +kernel⟩, List.mem_of_getElem? (i := 14) (by decide +kernel), List.mem_of_getElem? (i := 348) (by decide +kernel), List.mem_of_getElem? (i := 349) (by decide +kernel)⟩
theorem lw_p19 : lw_okq (⟨"FormComposer$Group", "multiply", "(LFormComposer$Form;LFormComposer$Form;)V"⟩, 7) := ⟨⟨by decide +kernel, by decide +kernel⟩, List.mem_of_getElem? (i := 22) (by decide +kernel), List.mem_of_getElem? (i := 359) (by decide +kernel), List.mem_of_getElem? (i := 360) (by decide +kernel)⟩
theorem lw_p20 : lw_okq (⟨"FormComposer$Group", "turn", "(LFormComposer$Form;)V"⟩, 7) := ⟨⟨by decide +kernel, by decide +kernel⟩, List.mem_of_getElem? (i := 22) (by decide +kernel), List.mem_of_getElem? (i := 370) (by decide +kernel), List.mem_of_getElem? (i := 371) (by decide +kernel)⟩
theorem lw_p21 : lw_okq (⟨"FormComposer$Group", "raise", "(LFormComposer$Form;J)V"⟩, 7) := ⟨⟨by decide +kernel, by decide +kernel⟩, List.mem_of_getElem? (i := 22) (by decide +kernel), List.mem_of_getElem? (i := 381) (by decide +kernel), List.mem_of_getElem? (i := 382) (by decide +kernel)⟩
theorem lw_p22 : lw_okq (⟨"FormComposer$Group", "orderOf", "(LFormComposer$Form;)I"⟩, 7) := ⟨⟨by decide +kernel, by decide +kernel⟩, List.mem_of_getElem? (i := 22) (by decide +kernel), List.mem_of_getElem? (i := 410) (by decide +kernel), List.mem_of_getElem? (i := 411) (by decide +kernel)⟩
theorem lw_p23 : lw_okq (⟨"FormComposer$Group", "exponentOf", "(LFormComposer$Form;LFormComposer$Form;)I"⟩, 7) := ⟨⟨by decide +kernel, by decide +kernel⟩, List.mem_of_getElem? (i := 22) (by decide +kernel), List.mem_of_getElem? (i := 421) (by decide +kernel), List.mem_of_getElem? (i := 422) (by decide +kernel)⟩
theorem lw_p24 : lw_okq (⟨"FormComposer$OddPrimes", "has", "(I)Z"⟩, 2) := ⟨⟨by decide +kernel, by decide +kernel⟩, List.mem_of_getElem? (i := 94) (by decide +kernel), List.mem_of_getElem? (i := 432) (by decide +kernel), List.mem_of_getElem? (i := 433) (by decide +kernel)⟩
theorem lw_p25 : lw_okq (⟨"FormComposer$OddPrimes", "at", "(I)I"⟩, 2) := ⟨⟨by decide +kernel, by decide +kernel⟩, List.mem_of_getElem? (i := 94) (by decide +kernel), List.mem_of_getElem? (i := 437) (by decide +kernel), List.mem_of_getElem? (i := 438) (by decide +kernel)⟩
theorem lw_p26 : lw_okq (⟨"FormComposerModel", "begin", "(J)V"⟩, 11) := ⟨⟨by decide +kernel, by decide +kernel⟩, List.mem_of_getElem? (i := 453) (by decide +kernel), List.mem_of_getElem? (i := 461) (by decide +kernel), List.mem_of_getElem? (i := 462) (by decide +kernel)⟩
theorem lw_p27 : lw_okq (⟨"FormComposerModel", "keepOne", "(I)V"⟩, 11) := ⟨⟨by decide +kernel, by decide +kernel⟩, List.mem_of_getElem? (i := 453) (by decide +kernel), List.mem_of_getElem? (i := 473) (by decide +kernel), List.mem_of_getElem? (i := 474) (by decide +kernel)⟩
theorem lw_p28 : lw_okq (⟨"FormComposerModel", "one", "()V"⟩, 11) := ⟨⟨by decide +kernel, by decide +kernel⟩, List.mem_of_getElem? (i := 453) (by decide +kernel), List.mem_of_getElem? (i := 477) (by decide +kernel), List.mem_of_getElem? (i := 478) (by decide +kernel)⟩
theorem lw_p29 : lw_okq (⟨"FormComposerModel", "toName", "()V"⟩, 11) := ⟨⟨by decide +kernel, by decide +kernel⟩, List.mem_of_getElem? (i := 453) (by decide +kernel), List.mem_of_getElem? (i := 485) (by decide +kernel), List.mem_of_getElem? (i := 486) (by decide +kernel)⟩
theorem lw_p30 : lw_okq (⟨"FormComposerModel", "isReduced", "()Z"⟩, 11) := ⟨⟨by decide +kernel, by decide +kernel⟩, List.mem_of_getElem? (i := 453) (by decide +kernel), List.mem_of_getElem? (i := 489) (by decide +kernel), List.mem_of_getElem? (i := 490) (by decide +kernel)⟩
theorem lw_p31 : lw_okq (⟨"FormComposerModel", "step", "()V"⟩, 11) := ⟨⟨by decide +kernel, by decide +kernel⟩, List.mem_of_getElem? (i := 453) (by decide +kernel), List.mem_of_getElem? (i := 493) (by decide +kernel), List.mem_of_getElem? (i := 494) (by decide +kernel)⟩
def lw_privs_2 : List (MethodName × Nat) := [(⟨"FormComposer$Group", "canTake", "(JJJ)Z"⟩, 7), (⟨"FormComposer$Euclid", "solve", "(JJ)V"⟩, 3), (⟨"FormComposer", "storeName", "(LFormComposer$Form;)V"⟩, 4), (⟨"FormComposer$Group", "multiply", "(LFormComposer$Form;LFormComposer$Form;)V"⟩, 7), (⟨"FormComposer$Group", "turn", "(LFormComposer$Form;)V"⟩, 7), (⟨"FormComposer$Group", "raise", "(LFormComposer$Form;J)V"⟩, 7), (⟨"FormComposer$Group", "orderOf", "(LFormComposer$Form;)I"⟩, 7), (⟨"FormComposer$Group", "exponentOf", "(LFormComposer$Form;LFormComposer$Form;)I"⟩, 7), (⟨"FormComposer$OddPrimes", "has", "(I)Z"⟩, 2), (⟨"FormComposer$OddPrimes", "at", "(I)I"⟩, 2), (⟨"FormComposerModel", "begin", "(J)V"⟩, 11), (⟨"FormComposerModel", "keepOne", "(I)V"⟩, 11), (⟨"FormComposerModel", "one", "()V"⟩, 11), (⟨"FormComposerModel", "toName", "()V"⟩, 11), (⟨"FormComposerModel", "isReduced", "()Z"⟩, 11), (⟨"FormComposerModel", "step", "()V"⟩, 11)]
theorem lw_r2 : ∀ q ∈ lw_privs_2, lw_okq q := List.forall_mem_cons.mpr ⟨lw_p16, List.forall_mem_cons.mpr ⟨lw_p17, List.forall_mem_cons.mpr ⟨lw_p18, List.forall_mem_cons.mpr ⟨lw_p19, List.forall_mem_cons.mpr ⟨lw_p20, List.forall_mem_cons.mpr ⟨lw_p21, List.forall_mem_cons.mpr ⟨lw_p22, List.forall_mem_cons.mpr ⟨lw_p23, List.forall_mem_cons.mpr ⟨lw_p24, List.forall_mem_cons.mpr ⟨lw_p25, List.forall_mem_cons.mpr ⟨lw_p26, List.forall_mem_cons.mpr ⟨lw_p27, List.forall_mem_cons.mpr ⟨lw_p28, List.forall_mem_cons.mpr ⟨lw_p29, List.forall_mem_cons.mpr ⟨lw_p30, List.forall_mem_cons.mpr ⟨lw_p31, fun _ h => absurd h List.not_mem_nil⟩⟩⟩⟩⟩⟩⟩⟩⟩⟩⟩⟩⟩⟩⟩⟩
theorem lw_p32 : lw_okq (⟨"FormComposerModel", "keep", "(I)V"⟩, 11) := ⟨⟨by decide +kernel, by decide +kernel⟩, List.mem_of_getElem? (i := 453) (by decide +kernel), List.mem_of_getElem? (i := 497) (by decide +kernel), List.mem_of_getElem? (i := 498) (by decide +kernel)⟩
theorem lw_p33 : lw_okq (⟨"FormComposerModel", "load", "(I)V"⟩, 11) := ⟨⟨by decide +kernel, by decide +kernel⟩, List.mem_of_getElem? (i := 453) (by decide +kernel), List.mem_of_getElem? (i := 566) (by decide +kernel), List.mem_of_getElem? (i := 567) (by decide +kernel)⟩
theorem lw_p34 : lw_okq (⟨"FormComposerModel", "times", "(I)V"⟩, 11) := ⟨⟨by decide +kernel, by decide +kernel⟩, List.mem_of_getElem? (i := 453) (by decide +kernel), List.mem_of_getElem? (i := 570) (by decide +kernel), List.mem_of_getElem? (i := 571) (by decide +kernel)⟩
theorem lw_p35 : lw_okq (⟨"FormComposerModel", "freeOf", "(J)V"⟩, 11) := ⟨⟨by decide +kernel, by decide +kernel⟩, List.mem_of_getElem? (i := 453) (by decide +kernel), List.mem_of_getElem? (i := 574) (by decide +kernel), List.mem_of_getElem? (i := 575) (by decide +kernel)⟩
theorem lw_p36 : lw_okq (⟨"FormComposerModel", "slide", "(J)V"⟩, 11) := ⟨⟨by decide +kernel, by decide +kernel⟩, List.mem_of_getElem? (i := 453) (by decide +kernel), List.mem_of_getElem? (i := 578) (by decide +kernel), List.mem_of_getElem? (i := 579) (by decide +kernel)⟩
theorem lw_p37 : lw_okq (⟨"FormComposerModel", "turn", "()V"⟩, 11) := ⟨⟨by decide +kernel, by decide +kernel⟩, List.mem_of_getElem? (i := 453) (by decide +kernel), List.mem_of_getElem? (i := 582) (by decide +kernel), List.mem_of_getElem? (i := 583) (by decide +kernel)⟩
theorem lw_p38 : lw_okq (⟨"FormComposerModel", "orderOf", "(I)I"⟩, 11) := ⟨⟨by decide +kernel, by decide +kernel⟩, List.mem_of_getElem? (i := 453) (by decide +kernel), List.mem_of_getElem? (i := 597) (by decide +kernel), List.mem_of_getElem? (i := 598) (by decide +kernel)⟩
theorem lw_p39 : lw_okq (⟨"FormComposerModel", "isOne", "()Z"⟩, 11) := ⟨⟨by decide +kernel, by decide +kernel⟩, List.mem_of_getElem? (i := 453) (by decide +kernel), List.mem_of_getElem? (i := 601) (by decide +kernel), List.mem_of_getElem? (i := 602) (by decide +kernel)⟩
theorem lw_p40 : lw_okq (⟨"FormComposerModel", "isAt", "(I)Z"⟩, 11) := ⟨⟨by decide +kernel, by decide +kernel⟩, List.mem_of_getElem? (i := 453) (by decide +kernel), List.mem_of_getElem? (i := 613) (by decide +kernel), List.mem_of_getElem? (i := 614) (by decide +kernel)⟩
theorem lw_p41 : lw_okq (⟨"FormComposerModel", "formsOf", "(I)I"⟩, 11) := ⟨⟨by decide +kernel, by decide +kernel⟩, List.mem_of_getElem? (i := 453) (by decide +kernel), List.mem_of_getElem? (i := 629) (by decide +kernel), List.mem_of_getElem? (i := 630) (by decide +kernel)⟩
def lw_privs_3 : List (MethodName × Nat) := [(⟨"FormComposerModel", "keep", "(I)V"⟩, 11), (⟨"FormComposerModel", "load", "(I)V"⟩, 11), (⟨"FormComposerModel", "times", "(I)V"⟩, 11), (⟨"FormComposerModel", "freeOf", "(J)V"⟩, 11), (⟨"FormComposerModel", "slide", "(J)V"⟩, 11), (⟨"FormComposerModel", "turn", "()V"⟩, 11), (⟨"FormComposerModel", "orderOf", "(I)I"⟩, 11), (⟨"FormComposerModel", "isOne", "()Z"⟩, 11), (⟨"FormComposerModel", "isAt", "(I)Z"⟩, 11), (⟨"FormComposerModel", "formsOf", "(I)I"⟩, 11)]
theorem lw_r3 : ∀ q ∈ lw_privs_3, lw_okq q := List.forall_mem_cons.mpr ⟨lw_p32, List.forall_mem_cons.mpr ⟨lw_p33, List.forall_mem_cons.mpr ⟨lw_p34, List.forall_mem_cons.mpr ⟨lw_p35, List.forall_mem_cons.mpr ⟨lw_p36, List.forall_mem_cons.mpr ⟨lw_p37, List.forall_mem_cons.mpr ⟨lw_p38, List.forall_mem_cons.mpr ⟨lw_p39, List.forall_mem_cons.mpr ⟨lw_p40, List.forall_mem_cons.mpr ⟨lw_p41, fun _ h => absurd h List.not_mem_nil⟩⟩⟩⟩⟩⟩⟩⟩⟩⟩
def lw_privs : List (MethodName × Nat) := lw_privs_1 ++ (lw_privs_2 ++ (lw_privs_3))
def lw_tbl : List Cond := k2_sels lw_privs ++ tables_1
theorem lw_privs_ok : ∀ q ∈ lw_privs, lw_okq q := by
  show ∀ q ∈ lw_privs_1 ++ (lw_privs_2 ++ (lw_privs_3)), lw_okq q
  exact List.forall_mem_append.mpr ⟨lw_r1, List.forall_mem_append.mpr ⟨lw_r2, lw_r3⟩⟩
end
section
/-! Names of classes, fields and methods (written by program). -/
def R_X : String := "FormComposer"
def R_F : String := "FormComposer$Form"
def R_G : String := "FormComposer$Group"
def R_E : String := "FormComposer$Euclid"
def R_P : String := "FormComposer$OddPrimes"
def R_M : String := "FormComposerModel"
def R_J : String := "java/lang/Math"
def R_O : String := "java/lang/Object"
def R_IA : String := "java/lang/IllegalArgumentException"
def R_IO : String := "java/lang/IndexOutOfBoundsException"
def R_RE : String := "java/lang/RuntimeException"
def R_EX : String := "java/lang/Exception"
def R_TH : String := "java/lang/Throwable"
def R_L : String := "FormComposerLaw"
def T_E : u_T := fun k => match k with
  | 0 => ("FormComposer$Euclid", "common", "J", false)
  | 1 => ("FormComposer$Euclid", "left", "J", false)
  | _ => ("FormComposer$Euclid", "right", "J", false)
def ty_E : Nat → FieldType := fun k => match k with
  | 0 => .long
  | 1 => .long
  | _ => .long
theorem nm_E : ∀ a, a < 3 → ∀ b, b < 3 → a ≠ b → (T_E a).2.1 ≠ (T_E b).2.1 := by decide +kernel
theorem ty_E_ok : ∀ k, k < 3 → parseFieldDescriptor (T_E k).2.2.1 = some (ty_E k) := by decide +kernel
def T_F : u_T := fun k => match k with
  | 0 => ("FormComposer$Form", "a", "J", false)
  | 1 => ("FormComposer$Form", "b", "J", false)
  | _ => ("FormComposer$Form", "c", "J", false)
def ty_F : Nat → FieldType := fun k => match k with
  | 0 => .long
  | 1 => .long
  | _ => .long
theorem nm_F : ∀ a, a < 3 → ∀ b, b < 3 → a ≠ b → (T_F a).2.1 ≠ (T_F b).2.1 := by decide +kernel
theorem ty_F_ok : ∀ k, k < 3 → parseFieldDescriptor (T_F k).2.2.1 = some (ty_F k) := by decide +kernel
def T_G : u_T := fun k => match k with
  | 0 => ("FormComposer$Group", "one", "LFormComposer$Form;", true)
  | 1 => ("FormComposer$Group", "walker", "LFormComposer$Form;", true)
  | 2 => ("FormComposer$Group", "start", "LFormComposer$Form;", true)
  | 3 => ("FormComposer$Group", "base", "LFormComposer$Form;", true)
  | 4 => ("FormComposer$Group", "euclid", "LFormComposer$Euclid;", true)
  | 5 => ("FormComposer$Group", "discriminant", "I", false)
  | _ => ("FormComposer$Group", "root", "I", false)
def ty_G : Nat → FieldType := fun k => match k with
  | 0 => .object "FormComposer$Form"
  | 1 => .object "FormComposer$Form"
  | 2 => .object "FormComposer$Form"
  | 3 => .object "FormComposer$Form"
  | 4 => .object "FormComposer$Euclid"
  | 5 => .int
  | _ => .int
theorem nm_G : ∀ a, a < 7 → ∀ b, b < 7 → a ≠ b → (T_G a).2.1 ≠ (T_G b).2.1 := by decide +kernel
theorem ty_G_ok : ∀ k, k < 7 → parseFieldDescriptor (T_G k).2.2.1 = some (ty_G k) := by decide +kernel
def T_P : u_T := fun k => match k with
  | 0 => ("FormComposer$OddPrimes", "found", "[I", true)
  | _ => ("FormComposer$OddPrimes", "size", "I", false)
def ty_P : Nat → FieldType := fun k => match k with
  | 0 => .array .int
  | _ => .int
theorem nm_P : ∀ a, a < 2 → ∀ b, b < 2 → a ≠ b → (T_P a).2.1 ≠ (T_P b).2.1 := by decide +kernel
theorem ty_P_ok : ∀ k, k < 2 → parseFieldDescriptor (T_P k).2.2.1 = some (ty_P k) := by decide +kernel
def T_X : u_T := fun k => match k with
  | 0 => ("FormComposer", "group", "LFormComposer$Group;", true)
  | 1 => ("FormComposer", "primes", "LFormComposer$OddPrimes;", true)
  | 2 => ("FormComposer", "registers", "[LFormComposer$Form;", true)
  | _ => ("FormComposer", "hand", "LFormComposer$Form;", true)
def ty_X : Nat → FieldType := fun k => match k with
  | 0 => .object "FormComposer$Group"
  | 1 => .object "FormComposer$OddPrimes"
  | 2 => .array (.object "FormComposer$Form")
  | _ => .object "FormComposer$Form"
theorem nm_X : ∀ a, a < 4 → ∀ b, b < 4 → a ≠ b → (T_X a).2.1 ≠ (T_X b).2.1 := by decide +kernel
theorem ty_X_ok : ∀ k, k < 4 → parseFieldDescriptor (T_X k).2.2.1 = some (ty_X k) := by decide +kernel
def T_M : u_T := fun k => match k with
  | 0 => ("FormComposerModel", "code", "I", false)
  | 1 => ("FormComposerModel", "d", "J", false)
  | 2 => ("FormComposerModel", "w", "J", false)
  | 3 => ("FormComposerModel", "firsts", "[J", true)
  | 4 => ("FormComposerModel", "middles", "[J", true)
  | 5 => ("FormComposerModel", "lasts", "[J", true)
  | 6 => ("FormComposerModel", "a", "J", false)
  | 7 => ("FormComposerModel", "b", "J", false)
  | 8 => ("FormComposerModel", "c", "J", false)
  | 9 => ("FormComposerModel", "primes", "I", false)
  | _ => ("FormComposerModel", "prime", "[J", true)
def ty_M : Nat → FieldType := fun k => match k with
  | 0 => .int
  | 1 => .long
  | 2 => .long
  | 3 => .array .long
  | 4 => .array .long
  | 5 => .array .long
  | 6 => .long
  | 7 => .long
  | 8 => .long
  | 9 => .int
  | _ => .array .long
theorem nm_M : ∀ a, a < 11 → ∀ b, b < 11 → a ≠ b → (T_M a).2.1 ≠ (T_M b).2.1 := by decide +kernel
theorem ty_M_ok : ∀ k, k < 11 → parseFieldDescriptor (T_M k).2.2.1 = some (ty_M k) := by decide +kernel
abbrev classes : List vw_C := [(R_E, T_E, 3), (R_F, T_F, 3), (R_G, T_G, 7), (R_P, T_P, 2), (R_X, T_X, 4), (R_M, T_M, 11)]
def y_X_init : MethodName := ⟨R_X, "<init>", "()V"⟩
abbrev b_X_init : ByteArray := prog_1_method_1_code
def y_O_initV : MethodName := ⟨R_O, "<init>", "()V"⟩
abbrev b_O_initV : ByteArray := object_method_1_code
def y_G_init : MethodName := ⟨R_G, "<init>", "()V"⟩
abbrev b_G_init : ByteArray := prog_4_method_1_code
def y_F_init : MethodName := ⟨R_F, "<init>", "()V"⟩
abbrev b_F_init : ByteArray := prog_3_method_1_code
def y_E_init : MethodName := ⟨R_E, "<init>", "()V"⟩
abbrev b_E_init : ByteArray := prog_2_method_1_code
def y_P_init : MethodName := ⟨R_P, "<init>", "()V"⟩
abbrev b_P_init : ByteArray := prog_5_method_1_code
def y_X_begin : MethodName := ⟨R_X, "begin", "(I)V"⟩
abbrev b_X_begin : ByteArray := prog_1_method_14_code
def y_G_settle : MethodName := ⟨R_G, "settle", "(I)V"⟩
abbrev b_G_settle : ByteArray := prog_4_method_2_code
def y_X_wholeRoot : MethodName := ⟨R_X, "wholeRoot", "(I)I"⟩
abbrev b_X_wholeRoot : ByteArray := prog_1_method_18_code
def y_G_becomeFrom : MethodName := ⟨R_G, "becomeFrom", "(LFormComposer$Form;JJ)V"⟩
abbrev b_G_becomeFrom : ByteArray := prog_4_method_5_code
def y_X_quotient : MethodName := ⟨R_X, "quotient", "(JJ)J"⟩
abbrev b_X_quotient : ByteArray := prog_1_method_21_code
def y_F_become : MethodName := ⟨R_F, "become", "(JJJ)V"⟩
abbrev b_F_become : ByteArray := prog_3_method_2_code
def y_G_reduce : MethodName := ⟨R_G, "reduce", "(LFormComposer$Form;)V"⟩
abbrev b_G_reduce : ByteArray := prog_4_method_6_code
def y_G_reduceBelow : MethodName := ⟨R_G, "reduceBelow", "(LFormComposer$Form;)V"⟩
abbrev b_G_reduceBelow : ByteArray := prog_4_method_7_code
def y_X_remainder : MethodName := ⟨R_X, "remainder", "(JJ)J"⟩
abbrev b_X_remainder : ByteArray := prog_1_method_20_code
def y_J_floorModJ : MethodName := ⟨R_J, "floorMod", "(JJ)J"⟩
abbrev b_J_floorModJ : ByteArray := prog_11_method_52_code
def y_G_isReducedAbove : MethodName := ⟨R_G, "isReducedAbove", "(LFormComposer$Form;)Z"⟩
abbrev b_G_isReducedAbove : ByteArray := prog_4_method_8_code
def y_J_absJ : MethodName := ⟨R_J, "abs", "(J)J"⟩
abbrev b_J_absJ : ByteArray := prog_11_method_61_code
def y_G_step : MethodName := ⟨R_G, "step", "(LFormComposer$Form;)V"⟩
abbrev b_G_step : ByteArray := prog_4_method_9_code
def y_J_maxJ : MethodName := ⟨R_J, "max", "(JJ)J"⟩
abbrev b_J_maxJ : ByteArray := prog_11_method_66_code
def y_G_turnIntoName : MethodName := ⟨R_G, "turnIntoName", "(LFormComposer$Form;)I"⟩
abbrev b_G_turnIntoName : ByteArray := prog_4_method_10_code
def y_F_copy : MethodName := ⟨R_F, "copy", "(LFormComposer$Form;)V"⟩
abbrev b_F_copy : ByteArray := prog_3_method_3_code
def y_F_matches : MethodName := ⟨R_F, "matches", "(LFormComposer$Form;)Z"⟩
abbrev b_F_matches : ByteArray := prog_3_method_4_code
def y_F_isBefore : MethodName := ⟨R_F, "isBefore", "(LFormComposer$Form;)Z"⟩
abbrev b_F_isBefore : ByteArray := prog_3_method_5_code
def y_P_find : MethodName := ⟨R_P, "find", "(I)V"⟩
abbrev b_P_find : ByteArray := prog_5_method_2_code
def y_J_absI : MethodName := ⟨R_J, "abs", "(I)I"⟩
abbrev b_J_absI : ByteArray := prog_11_method_59_code
def y_P_without : MethodName := ⟨R_P, "without", "(II)I"⟩
abbrev b_P_without : ByteArray := prog_5_method_6_code
def y_P_append : MethodName := ⟨R_P, "append", "(I)V"⟩
abbrev b_P_append : ByteArray := prog_5_method_3_code
def y_X_count : MethodName := ⟨R_X, "count", "(I)I"⟩
abbrev b_X_count : ByteArray := prog_1_method_11_code
def y_L_take : MethodName := ⟨R_L, "take", "(LFormComposer;I)I"⟩
abbrev b_L_take : ByteArray := method_3_code
def y_X_take : MethodName := ⟨R_X, "take", "(I)V"⟩
abbrev b_X_take : ByteArray := prog_1_method_2_code
def y_X_isDiscriminant : MethodName := ⟨R_X, "isDiscriminant", "(I)Z"⟩
abbrev b_X_isDiscriminant : ByteArray := prog_1_method_17_code
def y_J_floorModI : MethodName := ⟨R_J, "floorMod", "(II)I"⟩
abbrev b_J_floorModI : ByteArray := prog_11_method_50_code
def y_TH_initV : MethodName := ⟨R_TH, "<init>", "()V"⟩
abbrev b_TH_initV : ByteArray := prog_14_method_1_code
def y_IA_initLjavalang : MethodName := ⟨R_IA, "<init>", "(Ljava/lang/String;)V"⟩
abbrev b_IA_initLjavalang : ByteArray := prog_9_method_2_code
def y_RE_initLjavalang : MethodName := ⟨R_RE, "<init>", "(Ljava/lang/String;)V"⟩
abbrev b_RE_initLjavalang : ByteArray := prog_12_method_2_code
def y_EX_initLjavalang : MethodName := ⟨R_EX, "<init>", "(Ljava/lang/String;)V"⟩
abbrev b_EX_initLjavalang : ByteArray := prog_8_method_2_code
def y_TH_initLjavalang : MethodName := ⟨R_TH, "<init>", "(Ljava/lang/String;)V"⟩
abbrev b_TH_initLjavalang : ByteArray := prog_14_method_2_code
def y_L_put : MethodName := ⟨R_L, "put", "(LFormComposer;IIII)I"⟩
abbrev b_L_put : ByteArray := method_4_code
def y_X_put : MethodName := ⟨R_X, "put", "(IIII)V"⟩
abbrev b_X_put : ByteArray := prog_1_method_3_code
def y_X_held : MethodName := ⟨R_X, "held", "(I)LFormComposer$Form;"⟩
abbrev b_X_held : ByteArray := prog_1_method_15_code
def y_IO_initLjavalang : MethodName := ⟨R_IO, "<init>", "(Ljava/lang/String;)V"⟩
abbrev b_IO_initLjavalang : ByteArray := prog_10_method_2_code
def y_G_canTake : MethodName := ⟨R_G, "canTake", "(JJJ)Z"⟩
abbrev b_G_canTake : ByteArray := prog_4_method_3_code
def y_G_isCoefficient : MethodName := ⟨R_G, "isCoefficient", "(J)Z"⟩
abbrev b_G_isCoefficient : ByteArray := prog_4_method_4_code
def y_E_solve : MethodName := ⟨R_E, "solve", "(JJ)V"⟩
abbrev b_E_solve : ByteArray := prog_2_method_2_code
def y_X_storeName : MethodName := ⟨R_X, "storeName", "(LFormComposer$Form;)V"⟩
abbrev b_X_storeName : ByteArray := prog_1_method_16_code
def y_L_compose : MethodName := ⟨R_L, "compose", "(LFormComposer;III)I"⟩
abbrev b_L_compose : ByteArray := method_5_code
def y_X_compose : MethodName := ⟨R_X, "compose", "(III)V"⟩
abbrev b_X_compose : ByteArray := prog_1_method_4_code
def y_G_multiply : MethodName := ⟨R_G, "multiply", "(LFormComposer$Form;LFormComposer$Form;)V"⟩
abbrev b_G_multiply : ByteArray := prog_4_method_11_code
def y_L_invert : MethodName := ⟨R_L, "invert", "(LFormComposer;II)I"⟩
abbrev b_L_invert : ByteArray := method_6_code
def y_X_invert : MethodName := ⟨R_X, "invert", "(II)V"⟩
abbrev b_X_invert : ByteArray := prog_1_method_5_code
def y_G_turn : MethodName := ⟨R_G, "turn", "(LFormComposer$Form;)V"⟩
abbrev b_G_turn : ByteArray := prog_4_method_12_code
def y_L_power : MethodName := ⟨R_L, "power", "(LFormComposer;IIJ)I"⟩
abbrev b_L_power : ByteArray := method_7_code
def y_X_power : MethodName := ⟨R_X, "power", "(IIJ)V"⟩
abbrev b_X_power : ByteArray := prog_1_method_6_code
def y_G_raise : MethodName := ⟨R_G, "raise", "(LFormComposer$Form;J)V"⟩
abbrev b_G_raise : ByteArray := prog_4_method_13_code
def y_L_form : MethodName := ⟨R_L, "form", "(LFormComposer;II[J)I"⟩
abbrev b_L_form : ByteArray := method_8_code
def y_X_form : MethodName := ⟨R_X, "form", "(II)I"⟩
abbrev b_X_form : ByteArray := prog_1_method_7_code
def y_L_same : MethodName := ⟨R_L, "same", "(LFormComposer;II[J)I"⟩
abbrev b_L_same : ByteArray := method_9_code
def y_X_same : MethodName := ⟨R_X, "same", "(II)Z"⟩
abbrev b_X_same : ByteArray := prog_1_method_8_code
def y_L_order : MethodName := ⟨R_L, "order", "(LFormComposer;I[J)I"⟩
abbrev b_L_order : ByteArray := method_10_code
def y_X_order : MethodName := ⟨R_X, "order", "(I)I"⟩
abbrev b_X_order : ByteArray := prog_1_method_9_code
def y_G_orderOf : MethodName := ⟨R_G, "orderOf", "(LFormComposer$Form;)I"⟩
abbrev b_G_orderOf : ByteArray := prog_4_method_14_code
def y_L_exponent : MethodName := ⟨R_L, "exponent", "(LFormComposer;II[J)I"⟩
abbrev b_L_exponent : ByteArray := method_11_code
def y_X_exponent : MethodName := ⟨R_X, "exponent", "(II)I"⟩
abbrev b_X_exponent : ByteArray := prog_1_method_10_code
def y_G_exponentOf : MethodName := ⟨R_G, "exponentOf", "(LFormComposer$Form;LFormComposer$Form;)I"⟩
abbrev b_G_exponentOf : ByteArray := prog_4_method_15_code
def y_L_prime : MethodName := ⟨R_L, "prime", "(LFormComposer;I[J)I"⟩
abbrev b_L_prime : ByteArray := method_12_code
def y_X_prime : MethodName := ⟨R_X, "prime", "(I)I"⟩
abbrev b_X_prime : ByteArray := prog_1_method_12_code
def y_P_has : MethodName := ⟨R_P, "has", "(I)Z"⟩
abbrev b_P_has : ByteArray := prog_5_method_4_code
def y_P_at : MethodName := ⟨R_P, "at", "(I)I"⟩
abbrev b_P_at : ByteArray := prog_5_method_5_code
def y_L_character : MethodName := ⟨R_L, "character", "(LFormComposer;II[J)I"⟩
abbrev b_L_character : ByteArray := method_13_code
def y_X_character : MethodName := ⟨R_X, "character", "(II)I"⟩
abbrev b_X_character : ByteArray := prog_1_method_13_code
def y_X_isLikeSquare : MethodName := ⟨R_X, "isLikeSquare", "(JI)Z"⟩
abbrev b_X_isLikeSquare : ByteArray := prog_1_method_19_code
def y_M_init : MethodName := ⟨R_M, "<init>", "()V"⟩
abbrev b_M_init : ByteArray := prog_7_method_1_code
def y_M_begin : MethodName := ⟨R_M, "begin", "(J)V"⟩
abbrev b_M_begin : ByteArray := prog_7_method_8_code
def y_M_rootOf : MethodName := ⟨R_M, "rootOf", "(J)J"⟩
abbrev b_M_rootOf : ByteArray := prog_7_method_7_code
def y_M_size : MethodName := ⟨R_M, "size", "(J)J"⟩
abbrev b_M_size : ByteArray := prog_7_method_4_code
def y_M_keepOne : MethodName := ⟨R_M, "keepOne", "(I)V"⟩
abbrev b_M_keepOne : ByteArray := prog_7_method_13_code
def y_M_one : MethodName := ⟨R_M, "one", "()V"⟩
abbrev b_M_one : ByteArray := prog_7_method_12_code
def y_M_rest : MethodName := ⟨R_M, "rest", "(JJ)J"⟩
abbrev b_M_rest : ByteArray := prog_7_method_5_code
def y_M_toName : MethodName := ⟨R_M, "toName", "()V"⟩
abbrev b_M_toName : ByteArray := prog_7_method_16_code
def y_M_isReduced : MethodName := ⟨R_M, "isReduced", "()Z"⟩
abbrev b_M_isReduced : ByteArray := prog_7_method_14_code
def y_M_step : MethodName := ⟨R_M, "step", "()V"⟩
abbrev b_M_step : ByteArray := prog_7_method_15_code
def y_M_keep : MethodName := ⟨R_M, "keep", "(I)V"⟩
abbrev b_M_keep : ByteArray := prog_7_method_10_code
def y_M_thrown : MethodName := ⟨R_M, "thrown", "()I"⟩
abbrev b_M_thrown : ByteArray := prog_7_method_2_code
def y_M_take : MethodName := ⟨R_M, "take", "(I)V"⟩
abbrev b_M_take : ByteArray := prog_7_method_9_code
def y_M_in : MethodName := ⟨R_M, "in", "(JJJ)Z"⟩
abbrev b_M_in : ByteArray := prog_7_method_3_code
def y_M_put : MethodName := ⟨R_M, "put", "(IIII)V"⟩
abbrev b_M_put : ByteArray := prog_7_method_18_code
def y_M_common : MethodName := ⟨R_M, "common", "(JJ)J"⟩
abbrev b_M_common : ByteArray := prog_7_method_6_code
def y_M_compose : MethodName := ⟨R_M, "compose", "(III)V"⟩
abbrev b_M_compose : ByteArray := prog_7_method_25_code
def y_M_isRegister : MethodName := ⟨R_M, "isRegister", "(I)Z"⟩
abbrev b_M_isRegister : ByteArray := prog_7_method_24_code
def y_M_load : MethodName := ⟨R_M, "load", "(I)V"⟩
abbrev b_M_load : ByteArray := prog_7_method_11_code
def y_M_times : MethodName := ⟨R_M, "times", "(I)V"⟩
abbrev b_M_times : ByteArray := prog_7_method_23_code
def y_M_freeOf : MethodName := ⟨R_M, "freeOf", "(J)V"⟩
abbrev b_M_freeOf : ByteArray := prog_7_method_22_code
def y_M_slide : MethodName := ⟨R_M, "slide", "(J)V"⟩
abbrev b_M_slide : ByteArray := prog_7_method_20_code
def y_M_turn : MethodName := ⟨R_M, "turn", "()V"⟩
abbrev b_M_turn : ByteArray := prog_7_method_21_code
def y_M_inverse : MethodName := ⟨R_M, "inverse", "(JJ)J"⟩
abbrev b_M_inverse : ByteArray := prog_7_method_19_code
def y_M_invert : MethodName := ⟨R_M, "invert", "(II)V"⟩
abbrev b_M_invert : ByteArray := prog_7_method_26_code
def y_M_power : MethodName := ⟨R_M, "power", "(IIJ)V"⟩
abbrev b_M_power : ByteArray := prog_7_method_30_code
def y_M_orderOf : MethodName := ⟨R_M, "orderOf", "(I)I"⟩
abbrev b_M_orderOf : ByteArray := prog_7_method_29_code
def y_M_isOne : MethodName := ⟨R_M, "isOne", "()Z"⟩
abbrev b_M_isOne : ByteArray := prog_7_method_28_code
def y_M_form : MethodName := ⟨R_M, "form", "(II)I"⟩
abbrev b_M_form : ByteArray := prog_7_method_31_code
def y_M_same : MethodName := ⟨R_M, "same", "(II)Z"⟩
abbrev b_M_same : ByteArray := prog_7_method_32_code
def y_M_isAt : MethodName := ⟨R_M, "isAt", "(I)Z"⟩
abbrev b_M_isAt : ByteArray := prog_7_method_27_code
def y_M_order : MethodName := ⟨R_M, "order", "(I)I"⟩
abbrev b_M_order : ByteArray := prog_7_method_33_code
def y_M_exponent : MethodName := ⟨R_M, "exponent", "(II)I"⟩
abbrev b_M_exponent : ByteArray := prog_7_method_34_code
def y_M_count : MethodName := ⟨R_M, "count", "(I)I"⟩
abbrev b_M_count : ByteArray := prog_7_method_35_code
def y_M_formsOf : MethodName := ⟨R_M, "formsOf", "(I)I"⟩
abbrev b_M_formsOf : ByteArray := prog_7_method_17_code
def y_M_prime : MethodName := ⟨R_M, "prime", "(I)I"⟩
abbrev b_M_prime : ByteArray := prog_7_method_36_code
def y_M_character : MethodName := ⟨R_M, "character", "(II)I"⟩
abbrev b_M_character : ByteArray := prog_7_method_38_code
def y_M_isSquare : MethodName := ⟨R_M, "isSquare", "(JJ)Z"⟩
abbrev b_M_isSquare : ByteArray := prog_7_method_37_code
end
section
/-! The words of the tables that all methods share: one list for all. -/
def wb : List Cond := lw_tbl.filter goodWord
theorem wb_in {w : Cond} (h : w ∈ wb) : w ∈ lw_tbl := (List.mem_filter.mp h).1
theorem wb_good {w : Cond} (h : w ∈ wb) : goodWord w = true := (List.mem_filter.mp h).2
theorem wb_t (i : Nat) {w : Cond} (h : tables_1[i]? = some w) (g : goodWord w = true) : w ∈ wb := List.mem_filter.mpr ⟨List.mem_append_right _ (List.mem_of_getElem? h), g⟩
theorem wb_s (i : Nat) {w : Cond} (h : (k2_sels lw_privs)[i]? = some w) (g : goodWord w = true) : w ∈ wb := List.mem_filter.mpr ⟨List.mem_append_left _ (List.mem_of_getElem? h), g⟩
/-- any method's words: its own code, and the common list -/
theorem wb_G {c c' : Cond} (h : c' ∈ wb) : GoodIn (c :: wb) (c' :: wb) := by
  intro w hw
  rcases List.mem_cons.mp hw with e | e
  · rw [e]; exact ⟨List.mem_cons_of_mem _ h, good_of_word (wb_good h)⟩
  · exact ⟨List.mem_cons_of_mem _ e, good_of_word (wb_good e)⟩
theorem in_L : Cond.initialized R_L ∈ wb := wb_t 0 (by decide +kernel) (by decide +kernel)
theorem in_X : Cond.initialized R_X ∈ wb := wb_t 1 (by decide +kernel) (by decide +kernel)
theorem in_G : Cond.initialized R_G ∈ wb := wb_t 2 (by decide +kernel) (by decide +kernel)
theorem in_F : Cond.initialized R_F ∈ wb := wb_t 3 (by decide +kernel) (by decide +kernel)
theorem in_E : Cond.initialized R_E ∈ wb := wb_t 4 (by decide +kernel) (by decide +kernel)
theorem in_P : Cond.initialized R_P ∈ wb := wb_t 5 (by decide +kernel) (by decide +kernel)
theorem in_J : Cond.initialized R_J ∈ wb := wb_t 6 (by decide +kernel) (by decide +kernel)
theorem in_M : Cond.initialized R_M ∈ wb := wb_t 7 (by decide +kernel) (by decide +kernel)
theorem in_TH : Cond.initialized R_TH ∈ wb := wb_t 8 (by decide +kernel) (by decide +kernel)
theorem in_EX : Cond.initialized R_EX ∈ wb := wb_t 9 (by decide +kernel) (by decide +kernel)
theorem in_RE : Cond.initialized R_RE ∈ wb := wb_t 10 (by decide +kernel) (by decide +kernel)
theorem in_IA : Cond.initialized R_IA ∈ wb := wb_t 11 (by decide +kernel) (by decide +kernel)
theorem in_IO : Cond.initialized R_IO ∈ wb := wb_t 12 (by decide +kernel) (by decide +kernel)
theorem cl_L_8 : Cond.classLink R_L 8 R_X ∈ wb := wb_t 13 (by decide +kernel) (by decide +kernel)
theorem ia_X : Cond.instantiable R_X 4 ∈ wb := wb_t 14 (by decide +kernel) (by decide +kernel)
theorem ml_L_54 : Cond.methodLink R_L 54 y_X_init ∈ wb := wb_t 15 (by decide +kernel) (by decide +kernel)
theorem im_X_init : Cond.instanceMethod y_X_init ∈ wb := wb_t 16 (by decide +kernel) (by decide +kernel)
theorem co_X_init : Cond.code y_X_init b_X_init 2 none ∈ wb := wb_t 17 (by decide +kernel) (by decide +kernel)
theorem ml_X_1 : Cond.methodLink R_X 1 y_O_initV ∈ wb := wb_t 18 (by decide +kernel) (by decide +kernel)
theorem im_O_initV : Cond.instanceMethod y_O_initV ∈ wb := wb_t 19 (by decide +kernel) (by decide +kernel)
theorem co_O_initV : Cond.code y_O_initV b_O_initV 1 none ∈ wb := wb_t 20 (by decide +kernel) (by decide +kernel)
theorem cl_X_7 : Cond.classLink R_X 7 R_G ∈ wb := wb_t 21 (by decide +kernel) (by decide +kernel)
theorem ia_G : Cond.instantiable R_G 7 ∈ wb := wb_t 22 (by decide +kernel) (by decide +kernel)
theorem im_G_init : Cond.instanceMethod y_G_init ∈ wb := wb_t 24 (by decide +kernel) (by decide +kernel)
theorem co_G_init : Cond.code y_G_init b_G_init 1 none ∈ wb := wb_t 25 (by decide +kernel) (by decide +kernel)
theorem ml_G_3 : Cond.methodLink R_G 3 y_O_initV ∈ wb := wb_t 26 (by decide +kernel) (by decide +kernel)
theorem cl_G_9 : Cond.classLink R_G 9 R_F ∈ wb := wb_t 27 (by decide +kernel) (by decide +kernel)
theorem ia_F : Cond.instantiable R_F 3 ∈ wb := wb_t 28 (by decide +kernel) (by decide +kernel)
theorem im_F_init : Cond.instanceMethod y_F_init ∈ wb := wb_t 30 (by decide +kernel) (by decide +kernel)
theorem co_F_init : Cond.code y_F_init b_F_init 1 none ∈ wb := wb_t 31 (by decide +kernel) (by decide +kernel)
theorem ml_F_1 : Cond.methodLink R_F 1 y_O_initV ∈ wb := wb_t 32 (by decide +kernel) (by decide +kernel)
theorem fl_F_7 : Cond.fieldLink R_F 7 "FormComposer$Form" "a" "J" ∈ wb := wb_t 33 (by decide +kernel) (by decide +kernel)
theorem fl_F_13 : Cond.fieldLink R_F 13 "FormComposer$Form" "b" "J" ∈ wb := wb_t 36 (by decide +kernel) (by decide +kernel)
theorem fl_F_16 : Cond.fieldLink R_F 16 "FormComposer$Form" "c" "J" ∈ wb := wb_t 39 (by decide +kernel) (by decide +kernel)
theorem cl_G_27 : Cond.classLink R_G 27 R_E ∈ wb := wb_t 49 (by decide +kernel) (by decide +kernel)
theorem ia_E : Cond.instantiable R_E 3 ∈ wb := wb_t 50 (by decide +kernel) (by decide +kernel)
theorem im_E_init : Cond.instanceMethod y_E_init ∈ wb := wb_t 52 (by decide +kernel) (by decide +kernel)
theorem co_E_init : Cond.code y_E_init b_E_init 1 none ∈ wb := wb_t 53 (by decide +kernel) (by decide +kernel)
theorem ml_E_3 : Cond.methodLink R_E 3 y_O_initV ∈ wb := wb_t 54 (by decide +kernel) (by decide +kernel)
theorem fl_E_9 : Cond.fieldLink R_E 9 "FormComposer$Euclid" "common" "J" ∈ wb := wb_t 55 (by decide +kernel) (by decide +kernel)
theorem fl_E_15 : Cond.fieldLink R_E 15 "FormComposer$Euclid" "left" "J" ∈ wb := wb_t 57 (by decide +kernel) (by decide +kernel)
theorem fl_E_18 : Cond.fieldLink R_E 18 "FormComposer$Euclid" "right" "J" ∈ wb := wb_t 59 (by decide +kernel) (by decide +kernel)
theorem fl_G_12 : Cond.fieldLink R_G 12 "FormComposer$Group" "one" "LFormComposer$Form;" ∈ wb := wb_t 68 (by decide +kernel) (by decide +kernel)
theorem fl_G_18 : Cond.fieldLink R_G 18 "FormComposer$Group" "walker" "LFormComposer$Form;" ∈ wb := wb_t 70 (by decide +kernel) (by decide +kernel)
theorem fl_G_21 : Cond.fieldLink R_G 21 "FormComposer$Group" "start" "LFormComposer$Form;" ∈ wb := wb_t 71 (by decide +kernel) (by decide +kernel)
theorem fl_G_24 : Cond.fieldLink R_G 24 "FormComposer$Group" "base" "LFormComposer$Form;" ∈ wb := wb_t 72 (by decide +kernel) (by decide +kernel)
theorem fl_G_30 : Cond.fieldLink R_G 30 "FormComposer$Group" "euclid" "LFormComposer$Euclid;" ∈ wb := wb_t 73 (by decide +kernel) (by decide +kernel)
theorem fl_G_34 : Cond.fieldLink R_G 34 "FormComposer$Group" "discriminant" "I" ∈ wb := wb_t 74 (by decide +kernel) (by decide +kernel)
theorem fl_G_42 : Cond.fieldLink R_G 42 "FormComposer$Group" "root" "I" ∈ wb := wb_t 76 (by decide +kernel) (by decide +kernel)
theorem cl_X_16 : Cond.classLink R_X 16 R_P ∈ wb := wb_t 93 (by decide +kernel) (by decide +kernel)
theorem ia_P : Cond.instantiable R_P 2 ∈ wb := wb_t 94 (by decide +kernel) (by decide +kernel)
theorem im_P_init : Cond.instanceMethod y_P_init ∈ wb := wb_t 96 (by decide +kernel) (by decide +kernel)
theorem co_P_init : Cond.code y_P_init b_P_init 1 none ∈ wb := wb_t 97 (by decide +kernel) (by decide +kernel)
theorem ml_P_3 : Cond.methodLink R_P 3 y_O_initV ∈ wb := wb_t 98 (by decide +kernel) (by decide +kernel)
theorem fl_P_9 : Cond.fieldLink R_P 9 "FormComposer$OddPrimes" "found" "[I" ∈ wb := wb_t 99 (by decide +kernel) (by decide +kernel)
theorem fl_P_15 : Cond.fieldLink R_P 15 "FormComposer$OddPrimes" "size" "I" ∈ wb := wb_t 100 (by decide +kernel) (by decide +kernel)
theorem ac_int : Cond.arrayClass .int ∈ wb := wb_t 107 (by decide +kernel) (by decide +kernel)
theorem cl_X_23 : Cond.classLink R_X 23 R_F ∈ wb := wb_t 108 (by decide +kernel) (by decide +kernel)
theorem ml_X_34 : Cond.methodLink R_X 34 y_X_begin ∈ wb := wb_t 111 (by decide +kernel) (by decide +kernel)
theorem im_X_begin : Cond.instanceMethod y_X_begin ∈ wb := wb_t 113 (by decide +kernel) (by decide +kernel)
theorem co_X_begin : Cond.code y_X_begin b_X_begin 3 none ∈ wb := wb_t 114 (by decide +kernel) (by decide +kernel)
theorem im_G_settle : Cond.instanceMethod y_G_settle ∈ wb := wb_t 117 (by decide +kernel) (by decide +kernel)
theorem co_G_settle : Cond.code y_G_settle b_G_settle 2 none ∈ wb := wb_t 118 (by decide +kernel) (by decide +kernel)
theorem st_X_wholeRoot : Cond.static y_X_wholeRoot ∈ wb := wb_t 120 (by decide +kernel) (by decide +kernel)
theorem co_X_wholeRoot : Cond.code y_X_wholeRoot b_X_wholeRoot 2 (some .int) ∈ wb := wb_t 121 (by decide +kernel) (by decide +kernel)
theorem ml_G_45 : Cond.methodLink R_G 45 y_G_becomeFrom ∈ wb := wb_t 122 (by decide +kernel) (by decide +kernel)
theorem im_G_becomeFrom : Cond.instanceMethod y_G_becomeFrom ∈ wb := wb_t 124 (by decide +kernel) (by decide +kernel)
theorem co_G_becomeFrom : Cond.code y_G_becomeFrom b_G_becomeFrom 6 none ∈ wb := wb_t 125 (by decide +kernel) (by decide +kernel)
theorem kc_G_61 : Cond.constantLong R_G 61 (4) ∈ wb := wb_t 126 (by decide +kernel) (by decide +kernel)
theorem st_X_quotient : Cond.static y_X_quotient ∈ wb := wb_t 128 (by decide +kernel) (by decide +kernel)
theorem co_X_quotient : Cond.code y_X_quotient b_X_quotient 4 (some .long) ∈ wb := wb_t 129 (by decide +kernel) (by decide +kernel)
theorem im_F_become : Cond.instanceMethod y_F_become ∈ wb := wb_t 132 (by decide +kernel) (by decide +kernel)
theorem co_F_become : Cond.code y_F_become b_F_become 7 none ∈ wb := wb_t 133 (by decide +kernel) (by decide +kernel)
theorem ml_G_49 : Cond.methodLink R_G 49 y_G_reduce ∈ wb := wb_t 134 (by decide +kernel) (by decide +kernel)
theorem im_G_reduce : Cond.instanceMethod y_G_reduce ∈ wb := wb_t 136 (by decide +kernel) (by decide +kernel)
theorem co_G_reduce : Cond.code y_G_reduce b_G_reduce 3 none ∈ wb := wb_t 137 (by decide +kernel) (by decide +kernel)
theorem ml_G_83 : Cond.methodLink R_G 83 y_G_reduceBelow ∈ wb := wb_t 138 (by decide +kernel) (by decide +kernel)
theorem im_G_reduceBelow : Cond.instanceMethod y_G_reduceBelow ∈ wb := wb_t 140 (by decide +kernel) (by decide +kernel)
theorem co_G_reduceBelow : Cond.code y_G_reduceBelow b_G_reduceBelow 3 none ∈ wb := wb_t 141 (by decide +kernel) (by decide +kernel)
theorem kc_G_86 : Cond.constant R_G 86 (1000000) ∈ wb := wb_t 142 (by decide +kernel) (by decide +kernel)
theorem kc_G_100 : Cond.constantLong R_G 100 (2) ∈ wb := wb_t 143 (by decide +kernel) (by decide +kernel)
theorem st_X_remainder : Cond.static y_X_remainder ∈ wb := wb_t 145 (by decide +kernel) (by decide +kernel)
theorem co_X_remainder : Cond.code y_X_remainder b_X_remainder 4 (some .long) ∈ wb := wb_t 146 (by decide +kernel) (by decide +kernel)
theorem ml_X_163 : Cond.methodLink R_X 163 y_J_floorModJ ∈ wb := wb_t 147 (by decide +kernel) (by decide +kernel)
theorem st_J_floorModJ : Cond.static y_J_floorModJ ∈ wb := wb_t 148 (by decide +kernel) (by decide +kernel)
theorem co_J_floorModJ : Cond.code y_J_floorModJ b_J_floorModJ 6 (some .long) ∈ wb := wb_t 149 (by decide +kernel) (by decide +kernel)
theorem ml_G_87 : Cond.methodLink R_G 87 y_G_isReducedAbove ∈ wb := wb_t 150 (by decide +kernel) (by decide +kernel)
theorem im_G_isReducedAbove : Cond.instanceMethod y_G_isReducedAbove ∈ wb := wb_t 152 (by decide +kernel) (by decide +kernel)
theorem co_G_isReducedAbove : Cond.code y_G_isReducedAbove b_G_isReducedAbove 4 (some .boolean) ∈ wb := wb_t 153 (by decide +kernel) (by decide +kernel)
theorem ml_G_108 : Cond.methodLink R_G 108 y_J_absJ ∈ wb := wb_t 154 (by decide +kernel) (by decide +kernel)
theorem st_J_absJ : Cond.static y_J_absJ ∈ wb := wb_t 155 (by decide +kernel) (by decide +kernel)
theorem co_J_absJ : Cond.code y_J_absJ b_J_absJ 2 (some .long) ∈ wb := wb_t 156 (by decide +kernel) (by decide +kernel)
theorem ml_G_91 : Cond.methodLink R_G 91 y_G_step ∈ wb := wb_t 157 (by decide +kernel) (by decide +kernel)
theorem im_G_step : Cond.instanceMethod y_G_step ∈ wb := wb_t 159 (by decide +kernel) (by decide +kernel)
theorem co_G_step : Cond.code y_G_step b_G_step 6 none ∈ wb := wb_t 160 (by decide +kernel) (by decide +kernel)
theorem ml_G_114 : Cond.methodLink R_G 114 y_J_maxJ ∈ wb := wb_t 161 (by decide +kernel) (by decide +kernel)
theorem st_J_maxJ : Cond.static y_J_maxJ ∈ wb := wb_t 162 (by decide +kernel) (by decide +kernel)
theorem co_J_maxJ : Cond.code y_J_maxJ b_J_maxJ 4 (some .long) ∈ wb := wb_t 163 (by decide +kernel) (by decide +kernel)
theorem ml_G_53 : Cond.methodLink R_G 53 y_G_turnIntoName ∈ wb := wb_t 164 (by decide +kernel) (by decide +kernel)
theorem im_G_turnIntoName : Cond.instanceMethod y_G_turnIntoName ∈ wb := wb_t 166 (by decide +kernel) (by decide +kernel)
theorem co_G_turnIntoName : Cond.code y_G_turnIntoName b_G_turnIntoName 3 (some .int) ∈ wb := wb_t 167 (by decide +kernel) (by decide +kernel)
theorem im_F_copy : Cond.instanceMethod y_F_copy ∈ wb := wb_t 170 (by decide +kernel) (by decide +kernel)
theorem co_F_copy : Cond.code y_F_copy b_F_copy 2 none ∈ wb := wb_t 171 (by decide +kernel) (by decide +kernel)
theorem ml_F_19 : Cond.methodLink R_F 19 y_F_become ∈ wb := wb_t 172 (by decide +kernel) (by decide +kernel)
theorem im_F_matches : Cond.instanceMethod y_F_matches ∈ wb := wb_t 175 (by decide +kernel) (by decide +kernel)
theorem co_F_matches : Cond.code y_F_matches b_F_matches 2 (some .boolean) ∈ wb := wb_t 176 (by decide +kernel) (by decide +kernel)
theorem im_F_isBefore : Cond.instanceMethod y_F_isBefore ∈ wb := wb_t 179 (by decide +kernel) (by decide +kernel)
theorem co_F_isBefore : Cond.code y_F_isBefore b_F_isBefore 2 (some .boolean) ∈ wb := wb_t 180 (by decide +kernel) (by decide +kernel)
theorem im_P_find : Cond.instanceMethod y_P_find ∈ wb := wb_t 183 (by decide +kernel) (by decide +kernel)
theorem co_P_find : Cond.code y_P_find b_P_find 4 none ∈ wb := wb_t 184 (by decide +kernel) (by decide +kernel)
theorem ml_P_19 : Cond.methodLink R_P 19 y_J_absI ∈ wb := wb_t 185 (by decide +kernel) (by decide +kernel)
theorem st_J_absI : Cond.static y_J_absI ∈ wb := wb_t 186 (by decide +kernel) (by decide +kernel)
theorem co_J_absI : Cond.code y_J_absI b_J_absI 1 (some .int) ∈ wb := wb_t 187 (by decide +kernel) (by decide +kernel)
theorem ml_P_25 : Cond.methodLink R_P 25 y_P_without ∈ wb := wb_t 188 (by decide +kernel) (by decide +kernel)
theorem st_P_without : Cond.static y_P_without ∈ wb := wb_t 189 (by decide +kernel) (by decide +kernel)
theorem co_P_without : Cond.code y_P_without b_P_without 4 (some .int) ∈ wb := wb_t 190 (by decide +kernel) (by decide +kernel)
theorem kc_P_41 : Cond.constant R_P 41 (1000000) ∈ wb := wb_t 191 (by decide +kernel) (by decide +kernel)
theorem ml_P_33 : Cond.methodLink R_P 33 y_P_append ∈ wb := wb_t 194 (by decide +kernel) (by decide +kernel)
theorem im_P_append : Cond.instanceMethod y_P_append ∈ wb := wb_t 196 (by decide +kernel) (by decide +kernel)
theorem co_P_append : Cond.code y_P_append b_P_append 2 none ∈ wb := wb_t 197 (by decide +kernel) (by decide +kernel)
theorem fl_X_10 : Cond.fieldLink R_X 10 "FormComposer" "group" "LFormComposer$Group;" ∈ wb := wb_t 199 (by decide +kernel) (by decide +kernel)
theorem fl_X_19 : Cond.fieldLink R_X 19 "FormComposer" "primes" "LFormComposer$OddPrimes;" ∈ wb := wb_t 200 (by decide +kernel) (by decide +kernel)
theorem fl_X_30 : Cond.fieldLink R_X 30 "FormComposer" "registers" "[LFormComposer$Form;" ∈ wb := wb_t 201 (by decide +kernel) (by decide +kernel)
theorem fl_X_26 : Cond.fieldLink R_X 26 "FormComposer" "hand" "LFormComposer$Form;" ∈ wb := wb_t 202 (by decide +kernel) (by decide +kernel)
theorem ml_L_100 : Cond.methodLink R_L 100 y_X_count ∈ wb := wb_t 212 (by decide +kernel) (by decide +kernel)
theorem im_X_count : Cond.instanceMethod y_X_count ∈ wb := wb_t 213 (by decide +kernel) (by decide +kernel)
theorem se_X_count : Cond.selects R_X y_X_count y_X_count ∈ wb := wb_t 214 (by decide +kernel) (by decide +kernel)
theorem co_X_count : Cond.code y_X_count b_X_count 2 (some .int) ∈ wb := wb_t 215 (by decide +kernel) (by decide +kernel)
theorem ml_L_58 : Cond.methodLink R_L 58 y_L_take ∈ wb := wb_t 217 (by decide +kernel) (by decide +kernel)
theorem st_L_take : Cond.static y_L_take ∈ wb := wb_t 218 (by decide +kernel) (by decide +kernel)
theorem cl_L_13 : Cond.classLink R_L 13 R_IA ∈ wb := wb_t 220 (by decide +kernel) (by decide +kernel)
theorem ml_L_7 : Cond.methodLink R_L 7 y_X_take ∈ wb := wb_t 221 (by decide +kernel) (by decide +kernel)
theorem im_X_take : Cond.instanceMethod y_X_take ∈ wb := wb_t 222 (by decide +kernel) (by decide +kernel)
theorem se_X_take : Cond.selects R_X y_X_take y_X_take ∈ wb := wb_t 223 (by decide +kernel) (by decide +kernel)
theorem co_X_take : Cond.code y_X_take b_X_take 2 none ∈ wb := wb_t 224 (by decide +kernel) (by decide +kernel)
theorem ml_X_38 : Cond.methodLink R_X 38 y_X_isDiscriminant ∈ wb := wb_t 225 (by decide +kernel) (by decide +kernel)
theorem st_X_isDiscriminant : Cond.static y_X_isDiscriminant ∈ wb := wb_t 226 (by decide +kernel) (by decide +kernel)
theorem co_X_isDiscriminant : Cond.code y_X_isDiscriminant b_X_isDiscriminant 2 (some .boolean) ∈ wb := wb_t 227 (by decide +kernel) (by decide +kernel)
theorem kc_X_152 : Cond.constant R_X 152 (-1048576) ∈ wb := wb_t 228 (by decide +kernel) (by decide +kernel)
theorem kc_X_153 : Cond.constant R_X 153 (1048576) ∈ wb := wb_t 229 (by decide +kernel) (by decide +kernel)
theorem ml_X_154 : Cond.methodLink R_X 154 y_J_floorModI ∈ wb := wb_t 230 (by decide +kernel) (by decide +kernel)
theorem st_J_floorModI : Cond.static y_J_floorModI ∈ wb := wb_t 231 (by decide +kernel) (by decide +kernel)
theorem co_J_floorModI : Cond.code y_J_floorModI b_J_floorModI 3 (some .int) ∈ wb := wb_t 232 (by decide +kernel) (by decide +kernel)
theorem ml_X_160 : Cond.methodLink R_X 160 y_X_wholeRoot ∈ wb := wb_t 233 (by decide +kernel) (by decide +kernel)
theorem cl_X_42 : Cond.classLink R_X 42 R_IA ∈ wb := wb_t 234 (by decide +kernel) (by decide +kernel)
theorem ia_IA : Cond.instantiable R_IA 6 ∈ wb := wb_t 235 (by decide +kernel) (by decide +kernel)
theorem fl_TH_198 : Cond.fieldLink R_TH 198 "java/lang/Throwable" "backtrace" "Ljava/lang/Object;" ∈ wb := wb_t 255 (by decide +kernel) (by decide +kernel)
theorem im_TH_initV : Cond.instanceMethod y_TH_initV ∈ wb := wb_t 257 (by decide +kernel) (by decide +kernel)
theorem co_TH_initV : Cond.code y_TH_initV b_TH_initV 1 none ∈ wb := wb_t 258 (by decide +kernel) (by decide +kernel)
theorem ml_TH_1 : Cond.methodLink R_TH 1 y_O_initV ∈ wb := wb_t 259 (by decide +kernel) (by decide +kernel)
theorem fl_TH_13 : Cond.fieldLink R_TH 13 "java/lang/Throwable" "UNASSIGNED_STACK" "[Ljava/lang/StackTraceElement;" ∈ wb := wb_t 260 (by decide +kernel) (by decide +kernel)
theorem fl_TH_20 : Cond.fieldLink R_TH 20 "java/lang/Throwable" "SUPPRESSED_SENTINEL" "Ljava/util/List;" ∈ wb := wb_t 262 (by decide +kernel) (by decide +kernel)
theorem ml_TH_27 : Cond.methodLink R_TH 27 ⟨"java/lang/Throwable", "fillInStackTrace", "()Ljava/lang/Throwable;"⟩ ∈ wb := wb_t 264 (by decide +kernel) (by decide +kernel)
theorem im_TH_fillInStackTraceLjavalang : Cond.instanceMethod ⟨"java/lang/Throwable", "fillInStackTrace", "()Ljava/lang/Throwable;"⟩ ∈ wb := wb_t 265 (by decide +kernel) (by decide +kernel)
theorem ml_TH_202 : Cond.methodLink R_TH 202 ⟨"java/lang/Throwable", "fillInStackTrace", "(I)Ljava/lang/Throwable;"⟩ ∈ wb := wb_t 269 (by decide +kernel) (by decide +kernel)
theorem im_TH_fillInStackTraceILjavalan : Cond.instanceMethod ⟨"java/lang/Throwable", "fillInStackTrace", "(I)Ljava/lang/Throwable;"⟩ ∈ wb := wb_t 271 (by decide +kernel) (by decide +kernel)
theorem ia_TH : Cond.instantiable R_TH 6 ∈ wb := wb_t 272 (by decide +kernel) (by decide +kernel)
theorem ml_X_46 : Cond.methodLink R_X 46 y_IA_initLjavalang ∈ wb := wb_t 275 (by decide +kernel) (by decide +kernel)
theorem im_IA_initLjavalang : Cond.instanceMethod y_IA_initLjavalang ∈ wb := wb_t 276 (by decide +kernel) (by decide +kernel)
theorem co_IA_initLjavalang : Cond.code y_IA_initLjavalang b_IA_initLjavalang 2 none ∈ wb := wb_t 277 (by decide +kernel) (by decide +kernel)
theorem ml_IA_7 : Cond.methodLink R_IA 7 y_RE_initLjavalang ∈ wb := wb_t 278 (by decide +kernel) (by decide +kernel)
theorem im_RE_initLjavalang : Cond.instanceMethod y_RE_initLjavalang ∈ wb := wb_t 279 (by decide +kernel) (by decide +kernel)
theorem co_RE_initLjavalang : Cond.code y_RE_initLjavalang b_RE_initLjavalang 2 none ∈ wb := wb_t 280 (by decide +kernel) (by decide +kernel)
theorem ml_RE_7 : Cond.methodLink R_RE 7 y_EX_initLjavalang ∈ wb := wb_t 281 (by decide +kernel) (by decide +kernel)
theorem im_EX_initLjavalang : Cond.instanceMethod y_EX_initLjavalang ∈ wb := wb_t 282 (by decide +kernel) (by decide +kernel)
theorem co_EX_initLjavalang : Cond.code y_EX_initLjavalang b_EX_initLjavalang 2 none ∈ wb := wb_t 283 (by decide +kernel) (by decide +kernel)
theorem ml_EX_7 : Cond.methodLink R_EX 7 y_TH_initLjavalang ∈ wb := wb_t 284 (by decide +kernel) (by decide +kernel)
theorem im_TH_initLjavalang : Cond.instanceMethod y_TH_initLjavalang ∈ wb := wb_t 285 (by decide +kernel) (by decide +kernel)
theorem co_TH_initLjavalang : Cond.code y_TH_initLjavalang b_TH_initLjavalang 2 none ∈ wb := wb_t 286 (by decide +kernel) (by decide +kernel)
theorem fl_TH_31 : Cond.fieldLink R_TH 31 "java/lang/Throwable" "detailMessage" "Ljava/lang/String;" ∈ wb := wb_t 288 (by decide +kernel) (by decide +kernel)
theorem fl_TH_7 : Cond.fieldLink R_TH 7 "java/lang/Throwable" "cause" "Ljava/lang/Throwable;" ∈ wb := wb_t 289 (by decide +kernel) (by decide +kernel)
theorem fl_TH_17 : Cond.fieldLink R_TH 17 "java/lang/Throwable" "stackTrace" "[Ljava/lang/StackTraceElement;" ∈ wb := wb_t 290 (by decide +kernel) (by decide +kernel)
theorem fl_TH_24 : Cond.fieldLink R_TH 24 "java/lang/Throwable" "suppressedExceptions" "Ljava/util/List;" ∈ wb := wb_t 291 (by decide +kernel) (by decide +kernel)
theorem ac_byte : Cond.arrayClass .byte ∈ wb := wb_t 300 (by decide +kernel) (by decide +kernel)
theorem ml_L_68 : Cond.methodLink R_L 68 y_L_put ∈ wb := wb_t 301 (by decide +kernel) (by decide +kernel)
theorem st_L_put : Cond.static y_L_put ∈ wb := wb_t 302 (by decide +kernel) (by decide +kernel)
theorem cl_L_19 : Cond.classLink R_L 19 R_IO ∈ wb := wb_t 304 (by decide +kernel) (by decide +kernel)
theorem ml_L_15 : Cond.methodLink R_L 15 y_X_put ∈ wb := wb_t 305 (by decide +kernel) (by decide +kernel)
theorem im_X_put : Cond.instanceMethod y_X_put ∈ wb := wb_t 306 (by decide +kernel) (by decide +kernel)
theorem se_X_put : Cond.selects R_X y_X_put y_X_put ∈ wb := wb_t 307 (by decide +kernel) (by decide +kernel)
theorem co_X_put : Cond.code y_X_put b_X_put 6 none ∈ wb := wb_t 308 (by decide +kernel) (by decide +kernel)
theorem ml_X_49 : Cond.methodLink R_X 49 y_X_held ∈ wb := wb_t 309 (by decide +kernel) (by decide +kernel)
theorem im_X_held : Cond.instanceMethod y_X_held ∈ wb := wb_t 311 (by decide +kernel) (by decide +kernel)
theorem co_X_held : Cond.code y_X_held b_X_held 2 (some (.object "FormComposer$Form")) ∈ wb := wb_t 312 (by decide +kernel) (by decide +kernel)
theorem cl_X_94 : Cond.classLink R_X 94 R_IO ∈ wb := wb_t 313 (by decide +kernel) (by decide +kernel)
theorem ia_IO : Cond.instantiable R_IO 6 ∈ wb := wb_t 314 (by decide +kernel) (by decide +kernel)
theorem ml_X_98 : Cond.methodLink R_X 98 y_IO_initLjavalang ∈ wb := wb_t 323 (by decide +kernel) (by decide +kernel)
theorem im_IO_initLjavalang : Cond.instanceMethod y_IO_initLjavalang ∈ wb := wb_t 324 (by decide +kernel) (by decide +kernel)
theorem co_IO_initLjavalang : Cond.code y_IO_initLjavalang b_IO_initLjavalang 2 none ∈ wb := wb_t 325 (by decide +kernel) (by decide +kernel)
theorem ml_IO_7 : Cond.methodLink R_IO 7 y_RE_initLjavalang ∈ wb := wb_t 326 (by decide +kernel) (by decide +kernel)
theorem im_G_canTake : Cond.instanceMethod y_G_canTake ∈ wb := wb_t 331 (by decide +kernel) (by decide +kernel)
theorem co_G_canTake : Cond.code y_G_canTake b_G_canTake 7 (some .boolean) ∈ wb := wb_t 332 (by decide +kernel) (by decide +kernel)
theorem ml_G_57 : Cond.methodLink R_G 57 y_G_isCoefficient ∈ wb := wb_t 333 (by decide +kernel) (by decide +kernel)
theorem st_G_isCoefficient : Cond.static y_G_isCoefficient ∈ wb := wb_t 334 (by decide +kernel) (by decide +kernel)
theorem co_G_isCoefficient : Cond.code y_G_isCoefficient b_G_isCoefficient 2 (some .boolean) ∈ wb := wb_t 335 (by decide +kernel) (by decide +kernel)
theorem kc_G_71 : Cond.constantLong R_G 71 (-1073741824) ∈ wb := wb_t 336 (by decide +kernel) (by decide +kernel)
theorem kc_G_73 : Cond.constantLong R_G 73 (1073741824) ∈ wb := wb_t 337 (by decide +kernel) (by decide +kernel)
theorem im_E_solve : Cond.instanceMethod y_E_solve ∈ wb := wb_t 340 (by decide +kernel) (by decide +kernel)
theorem co_E_solve : Cond.code y_E_solve b_E_solve 20 none ∈ wb := wb_t 341 (by decide +kernel) (by decide +kernel)
theorem kc_E_21 : Cond.constant R_E 21 (1000000) ∈ wb := wb_t 342 (by decide +kernel) (by decide +kernel)
theorem ml_X_67 : Cond.methodLink R_X 67 y_X_storeName ∈ wb := wb_t 347 (by decide +kernel) (by decide +kernel)
theorem im_X_storeName : Cond.instanceMethod y_X_storeName ∈ wb := wb_t 349 (by decide +kernel) (by decide +kernel)
theorem co_X_storeName : Cond.code y_X_storeName b_X_storeName 2 none ∈ wb := wb_t 350 (by decide +kernel) (by decide +kernel)
theorem ml_L_72 : Cond.methodLink R_L 72 y_L_compose ∈ wb := wb_t 351 (by decide +kernel) (by decide +kernel)
theorem st_L_compose : Cond.static y_L_compose ∈ wb := wb_t 352 (by decide +kernel) (by decide +kernel)
theorem ml_L_21 : Cond.methodLink R_L 21 y_X_compose ∈ wb := wb_t 354 (by decide +kernel) (by decide +kernel)
theorem im_X_compose : Cond.instanceMethod y_X_compose ∈ wb := wb_t 355 (by decide +kernel) (by decide +kernel)
theorem se_X_compose : Cond.selects R_X y_X_compose y_X_compose ∈ wb := wb_t 356 (by decide +kernel) (by decide +kernel)
theorem co_X_compose : Cond.code y_X_compose b_X_compose 7 none ∈ wb := wb_t 357 (by decide +kernel) (by decide +kernel)
theorem im_G_multiply : Cond.instanceMethod y_G_multiply ∈ wb := wb_t 360 (by decide +kernel) (by decide +kernel)
theorem co_G_multiply : Cond.code y_G_multiply b_G_multiply 15 none ∈ wb := wb_t 361 (by decide +kernel) (by decide +kernel)
theorem ml_L_76 : Cond.methodLink R_L 76 y_L_invert ∈ wb := wb_t 362 (by decide +kernel) (by decide +kernel)
theorem st_L_invert : Cond.static y_L_invert ∈ wb := wb_t 363 (by decide +kernel) (by decide +kernel)
theorem ml_L_25 : Cond.methodLink R_L 25 y_X_invert ∈ wb := wb_t 365 (by decide +kernel) (by decide +kernel)
theorem im_X_invert : Cond.instanceMethod y_X_invert ∈ wb := wb_t 366 (by decide +kernel) (by decide +kernel)
theorem se_X_invert : Cond.selects R_X y_X_invert y_X_invert ∈ wb := wb_t 367 (by decide +kernel) (by decide +kernel)
theorem co_X_invert : Cond.code y_X_invert b_X_invert 4 none ∈ wb := wb_t 368 (by decide +kernel) (by decide +kernel)
theorem im_G_turn : Cond.instanceMethod y_G_turn ∈ wb := wb_t 371 (by decide +kernel) (by decide +kernel)
theorem co_G_turn : Cond.code y_G_turn b_G_turn 2 none ∈ wb := wb_t 372 (by decide +kernel) (by decide +kernel)
theorem ml_L_82 : Cond.methodLink R_L 82 y_L_power ∈ wb := wb_t 373 (by decide +kernel) (by decide +kernel)
theorem st_L_power : Cond.static y_L_power ∈ wb := wb_t 374 (by decide +kernel) (by decide +kernel)
theorem ml_L_29 : Cond.methodLink R_L 29 y_X_power ∈ wb := wb_t 376 (by decide +kernel) (by decide +kernel)
theorem im_X_power : Cond.instanceMethod y_X_power ∈ wb := wb_t 377 (by decide +kernel) (by decide +kernel)
theorem se_X_power : Cond.selects R_X y_X_power y_X_power ∈ wb := wb_t 378 (by decide +kernel) (by decide +kernel)
theorem co_X_power : Cond.code y_X_power b_X_power 6 none ∈ wb := wb_t 379 (by decide +kernel) (by decide +kernel)
theorem im_G_raise : Cond.instanceMethod y_G_raise ∈ wb := wb_t 382 (by decide +kernel) (by decide +kernel)
theorem co_G_raise : Cond.code y_G_raise b_G_raise 7 none ∈ wb := wb_t 383 (by decide +kernel) (by decide +kernel)
theorem ml_G_132 : Cond.methodLink R_G 132 y_G_turn ∈ wb := wb_t 384 (by decide +kernel) (by decide +kernel)
theorem ml_G_135 : Cond.methodLink R_G 135 y_G_multiply ∈ wb := wb_t 385 (by decide +kernel) (by decide +kernel)
theorem ml_L_86 : Cond.methodLink R_L 86 y_L_form ∈ wb := wb_t 386 (by decide +kernel) (by decide +kernel)
theorem st_L_form : Cond.static y_L_form ∈ wb := wb_t 387 (by decide +kernel) (by decide +kernel)
theorem ml_L_33 : Cond.methodLink R_L 33 y_X_form ∈ wb := wb_t 389 (by decide +kernel) (by decide +kernel)
theorem im_X_form : Cond.instanceMethod y_X_form ∈ wb := wb_t 390 (by decide +kernel) (by decide +kernel)
theorem se_X_form : Cond.selects R_X y_X_form y_X_form ∈ wb := wb_t 391 (by decide +kernel) (by decide +kernel)
theorem co_X_form : Cond.code y_X_form b_X_form 4 (some .int) ∈ wb := wb_t 392 (by decide +kernel) (by decide +kernel)
theorem ml_L_90 : Cond.methodLink R_L 90 y_L_same ∈ wb := wb_t 394 (by decide +kernel) (by decide +kernel)
theorem st_L_same : Cond.static y_L_same ∈ wb := wb_t 395 (by decide +kernel) (by decide +kernel)
theorem ml_L_37 : Cond.methodLink R_L 37 y_X_same ∈ wb := wb_t 397 (by decide +kernel) (by decide +kernel)
theorem im_X_same : Cond.instanceMethod y_X_same ∈ wb := wb_t 398 (by decide +kernel) (by decide +kernel)
theorem se_X_same : Cond.selects R_X y_X_same y_X_same ∈ wb := wb_t 399 (by decide +kernel) (by decide +kernel)
theorem co_X_same : Cond.code y_X_same b_X_same 4 (some .boolean) ∈ wb := wb_t 400 (by decide +kernel) (by decide +kernel)
theorem ml_L_93 : Cond.methodLink R_L 93 y_L_order ∈ wb := wb_t 402 (by decide +kernel) (by decide +kernel)
theorem st_L_order : Cond.static y_L_order ∈ wb := wb_t 403 (by decide +kernel) (by decide +kernel)
theorem ml_L_41 : Cond.methodLink R_L 41 y_X_order ∈ wb := wb_t 405 (by decide +kernel) (by decide +kernel)
theorem im_X_order : Cond.instanceMethod y_X_order ∈ wb := wb_t 406 (by decide +kernel) (by decide +kernel)
theorem se_X_order : Cond.selects R_X y_X_order y_X_order ∈ wb := wb_t 407 (by decide +kernel) (by decide +kernel)
theorem co_X_order : Cond.code y_X_order b_X_order 2 (some .int) ∈ wb := wb_t 408 (by decide +kernel) (by decide +kernel)
theorem im_G_orderOf : Cond.instanceMethod y_G_orderOf ∈ wb := wb_t 411 (by decide +kernel) (by decide +kernel)
theorem co_G_orderOf : Cond.code y_G_orderOf b_G_orderOf 3 (some .int) ∈ wb := wb_t 412 (by decide +kernel) (by decide +kernel)
theorem ml_L_97 : Cond.methodLink R_L 97 y_L_exponent ∈ wb := wb_t 413 (by decide +kernel) (by decide +kernel)
theorem st_L_exponent : Cond.static y_L_exponent ∈ wb := wb_t 414 (by decide +kernel) (by decide +kernel)
theorem ml_L_45 : Cond.methodLink R_L 45 y_X_exponent ∈ wb := wb_t 416 (by decide +kernel) (by decide +kernel)
theorem im_X_exponent : Cond.instanceMethod y_X_exponent ∈ wb := wb_t 417 (by decide +kernel) (by decide +kernel)
theorem se_X_exponent : Cond.selects R_X y_X_exponent y_X_exponent ∈ wb := wb_t 418 (by decide +kernel) (by decide +kernel)
theorem co_X_exponent : Cond.code y_X_exponent b_X_exponent 4 (some .int) ∈ wb := wb_t 419 (by decide +kernel) (by decide +kernel)
theorem im_G_exponentOf : Cond.instanceMethod y_G_exponentOf ∈ wb := wb_t 422 (by decide +kernel) (by decide +kernel)
theorem co_G_exponentOf : Cond.code y_G_exponentOf b_G_exponentOf 4 (some .int) ∈ wb := wb_t 423 (by decide +kernel) (by decide +kernel)
theorem ml_L_104 : Cond.methodLink R_L 104 y_L_prime ∈ wb := wb_t 424 (by decide +kernel) (by decide +kernel)
theorem st_L_prime : Cond.static y_L_prime ∈ wb := wb_t 425 (by decide +kernel) (by decide +kernel)
theorem ml_L_48 : Cond.methodLink R_L 48 y_X_prime ∈ wb := wb_t 427 (by decide +kernel) (by decide +kernel)
theorem im_X_prime : Cond.instanceMethod y_X_prime ∈ wb := wb_t 428 (by decide +kernel) (by decide +kernel)
theorem se_X_prime : Cond.selects R_X y_X_prime y_X_prime ∈ wb := wb_t 429 (by decide +kernel) (by decide +kernel)
theorem co_X_prime : Cond.code y_X_prime b_X_prime 2 (some .int) ∈ wb := wb_t 430 (by decide +kernel) (by decide +kernel)
theorem im_P_has : Cond.instanceMethod y_P_has ∈ wb := wb_t 433 (by decide +kernel) (by decide +kernel)
theorem co_P_has : Cond.code y_P_has b_P_has 2 (some .boolean) ∈ wb := wb_t 434 (by decide +kernel) (by decide +kernel)
theorem im_P_at : Cond.instanceMethod y_P_at ∈ wb := wb_t 438 (by decide +kernel) (by decide +kernel)
theorem co_P_at : Cond.code y_P_at b_P_at 2 (some .int) ∈ wb := wb_t 439 (by decide +kernel) (by decide +kernel)
theorem ml_P_37 : Cond.methodLink R_P 37 y_P_has ∈ wb := wb_t 440 (by decide +kernel) (by decide +kernel)
theorem ml_L_107 : Cond.methodLink R_L 107 y_L_character ∈ wb := wb_t 441 (by decide +kernel) (by decide +kernel)
theorem st_L_character : Cond.static y_L_character ∈ wb := wb_t 442 (by decide +kernel) (by decide +kernel)
theorem ml_L_51 : Cond.methodLink R_L 51 y_X_character ∈ wb := wb_t 444 (by decide +kernel) (by decide +kernel)
theorem im_X_character : Cond.instanceMethod y_X_character ∈ wb := wb_t 445 (by decide +kernel) (by decide +kernel)
theorem se_X_character : Cond.selects R_X y_X_character y_X_character ∈ wb := wb_t 446 (by decide +kernel) (by decide +kernel)
theorem co_X_character : Cond.code y_X_character b_X_character 7 (some .int) ∈ wb := wb_t 447 (by decide +kernel) (by decide +kernel)
theorem ml_X_133 : Cond.methodLink R_X 133 y_X_remainder ∈ wb := wb_t 448 (by decide +kernel) (by decide +kernel)
theorem ml_X_137 : Cond.methodLink R_X 137 y_X_isLikeSquare ∈ wb := wb_t 449 (by decide +kernel) (by decide +kernel)
theorem st_X_isLikeSquare : Cond.static y_X_isLikeSquare ∈ wb := wb_t 450 (by decide +kernel) (by decide +kernel)
theorem co_X_isLikeSquare : Cond.code y_X_isLikeSquare b_X_isLikeSquare 9 (some .boolean) ∈ wb := wb_t 451 (by decide +kernel) (by decide +kernel)
theorem cl_L_55 : Cond.classLink R_L 55 R_M ∈ wb := wb_t 452 (by decide +kernel) (by decide +kernel)
theorem ia_M : Cond.instantiable R_M 11 ∈ wb := wb_t 453 (by decide +kernel) (by decide +kernel)
theorem ml_L_57 : Cond.methodLink R_L 57 y_M_init ∈ wb := wb_t 454 (by decide +kernel) (by decide +kernel)
theorem im_M_init : Cond.instanceMethod y_M_init ∈ wb := wb_t 455 (by decide +kernel) (by decide +kernel)
theorem co_M_init : Cond.code y_M_init b_M_init 1 none ∈ wb := wb_t 456 (by decide +kernel) (by decide +kernel)
theorem ml_M_1 : Cond.methodLink R_M 1 y_O_initV ∈ wb := wb_t 457 (by decide +kernel) (by decide +kernel)
theorem kc_M_7 : Cond.constantLong R_M 7 (-4) ∈ wb := wb_t 458 (by decide +kernel) (by decide +kernel)
theorem kc_M_15 : Cond.constantLong R_M 15 (-1) ∈ wb := wb_t 459 (by decide +kernel) (by decide +kernel)
theorem ml_M_33 : Cond.methodLink R_M 33 y_M_begin ∈ wb := wb_t 460 (by decide +kernel) (by decide +kernel)
theorem im_M_begin : Cond.instanceMethod y_M_begin ∈ wb := wb_t 462 (by decide +kernel) (by decide +kernel)
theorem co_M_begin : Cond.code y_M_begin b_M_begin 7 none ∈ wb := wb_t 463 (by decide +kernel) (by decide +kernel)
theorem ml_M_45 : Cond.methodLink R_M 45 y_M_rootOf ∈ wb := wb_t 464 (by decide +kernel) (by decide +kernel)
theorem st_M_rootOf : Cond.static y_M_rootOf ∈ wb := wb_t 465 (by decide +kernel) (by decide +kernel)
theorem co_M_rootOf : Cond.code y_M_rootOf b_M_rootOf 4 (some .long) ∈ wb := wb_t 466 (by decide +kernel) (by decide +kernel)
theorem ml_M_41 : Cond.methodLink R_M 41 y_M_size ∈ wb := wb_t 467 (by decide +kernel) (by decide +kernel)
theorem st_M_size : Cond.static y_M_size ∈ wb := wb_t 468 (by decide +kernel) (by decide +kernel)
theorem co_M_size : Cond.code y_M_size b_M_size 2 (some .long) ∈ wb := wb_t 469 (by decide +kernel) (by decide +kernel)
theorem kc_M_51 : Cond.constantLong R_M 51 (3) ∈ wb := wb_t 470 (by decide +kernel) (by decide +kernel)
theorem kc_M_53 : Cond.constantLong R_M 53 (2) ∈ wb := wb_t 471 (by decide +kernel) (by decide +kernel)
theorem ml_M_55 : Cond.methodLink R_M 55 y_M_keepOne ∈ wb := wb_t 472 (by decide +kernel) (by decide +kernel)
theorem im_M_keepOne : Cond.instanceMethod y_M_keepOne ∈ wb := wb_t 474 (by decide +kernel) (by decide +kernel)
theorem co_M_keepOne : Cond.code y_M_keepOne b_M_keepOne 2 none ∈ wb := wb_t 475 (by decide +kernel) (by decide +kernel)
theorem ml_M_85 : Cond.methodLink R_M 85 y_M_one ∈ wb := wb_t 476 (by decide +kernel) (by decide +kernel)
theorem im_M_one : Cond.instanceMethod y_M_one ∈ wb := wb_t 478 (by decide +kernel) (by decide +kernel)
theorem co_M_one : Cond.code y_M_one b_M_one 1 none ∈ wb := wb_t 479 (by decide +kernel) (by decide +kernel)
theorem ml_M_69 : Cond.methodLink R_M 69 y_M_rest ∈ wb := wb_t 480 (by decide +kernel) (by decide +kernel)
theorem st_M_rest : Cond.static y_M_rest ∈ wb := wb_t 481 (by decide +kernel) (by decide +kernel)
theorem co_M_rest : Cond.code y_M_rest b_M_rest 6 (some .long) ∈ wb := wb_t 482 (by decide +kernel) (by decide +kernel)
theorem kc_M_67 : Cond.constantLong R_M 67 (4) ∈ wb := wb_t 483 (by decide +kernel) (by decide +kernel)
theorem ml_M_82 : Cond.methodLink R_M 82 y_M_toName ∈ wb := wb_t 484 (by decide +kernel) (by decide +kernel)
theorem im_M_toName : Cond.instanceMethod y_M_toName ∈ wb := wb_t 486 (by decide +kernel) (by decide +kernel)
theorem co_M_toName : Cond.code y_M_toName b_M_toName 10 none ∈ wb := wb_t 487 (by decide +kernel) (by decide +kernel)
theorem ml_M_91 : Cond.methodLink R_M 91 y_M_isReduced ∈ wb := wb_t 488 (by decide +kernel) (by decide +kernel)
theorem im_M_isReduced : Cond.instanceMethod y_M_isReduced ∈ wb := wb_t 490 (by decide +kernel) (by decide +kernel)
theorem co_M_isReduced : Cond.code y_M_isReduced b_M_isReduced 1 (some .boolean) ∈ wb := wb_t 491 (by decide +kernel) (by decide +kernel)
theorem ml_M_95 : Cond.methodLink R_M 95 y_M_step ∈ wb := wb_t 492 (by decide +kernel) (by decide +kernel)
theorem im_M_step : Cond.instanceMethod y_M_step ∈ wb := wb_t 494 (by decide +kernel) (by decide +kernel)
theorem co_M_step : Cond.code y_M_step b_M_step 9 none ∈ wb := wb_t 495 (by decide +kernel) (by decide +kernel)
theorem ml_M_88 : Cond.methodLink R_M 88 y_M_keep ∈ wb := wb_t 496 (by decide +kernel) (by decide +kernel)
theorem im_M_keep : Cond.instanceMethod y_M_keep ∈ wb := wb_t 498 (by decide +kernel) (by decide +kernel)
theorem co_M_keep : Cond.code y_M_keep b_M_keep 2 none ∈ wb := wb_t 499 (by decide +kernel) (by decide +kernel)
theorem fl_M_37 : Cond.fieldLink R_M 37 "FormComposerModel" "code" "I" ∈ wb := wb_t 500 (by decide +kernel) (by decide +kernel)
theorem fl_M_9 : Cond.fieldLink R_M 9 "FormComposerModel" "d" "J" ∈ wb := wb_t 501 (by decide +kernel) (by decide +kernel)
theorem fl_M_17 : Cond.fieldLink R_M 17 "FormComposerModel" "w" "J" ∈ wb := wb_t 502 (by decide +kernel) (by decide +kernel)
theorem fl_M_20 : Cond.fieldLink R_M 20 "FormComposerModel" "firsts" "[J" ∈ wb := wb_t 503 (by decide +kernel) (by decide +kernel)
theorem fl_M_24 : Cond.fieldLink R_M 24 "FormComposerModel" "middles" "[J" ∈ wb := wb_t 504 (by decide +kernel) (by decide +kernel)
theorem fl_M_27 : Cond.fieldLink R_M 27 "FormComposerModel" "lasts" "[J" ∈ wb := wb_t 505 (by decide +kernel) (by decide +kernel)
theorem fl_M_73 : Cond.fieldLink R_M 73 "FormComposerModel" "a" "J" ∈ wb := wb_t 506 (by decide +kernel) (by decide +kernel)
theorem fl_M_76 : Cond.fieldLink R_M 76 "FormComposerModel" "b" "J" ∈ wb := wb_t 507 (by decide +kernel) (by decide +kernel)
theorem fl_M_79 : Cond.fieldLink R_M 79 "FormComposerModel" "c" "J" ∈ wb := wb_t 508 (by decide +kernel) (by decide +kernel)
theorem fl_M_48 : Cond.fieldLink R_M 48 "FormComposerModel" "primes" "I" ∈ wb := wb_t 509 (by decide +kernel) (by decide +kernel)
theorem fl_M_30 : Cond.fieldLink R_M 30 "FormComposerModel" "prime" "[J" ∈ wb := wb_t 510 (by decide +kernel) (by decide +kernel)
theorem ac_long : Cond.arrayClass .long ∈ wb := wb_t 534 (by decide +kernel) (by decide +kernel)
theorem ml_L_64 : Cond.methodLink R_L 64 y_M_thrown ∈ wb := wb_t 535 (by decide +kernel) (by decide +kernel)
theorem im_M_thrown : Cond.instanceMethod y_M_thrown ∈ wb := wb_t 536 (by decide +kernel) (by decide +kernel)
theorem se_M_thrown : Cond.selects R_M y_M_thrown y_M_thrown ∈ wb := wb_t 537 (by decide +kernel) (by decide +kernel)
theorem co_M_thrown : Cond.code y_M_thrown b_M_thrown 1 (some .int) ∈ wb := wb_t 538 (by decide +kernel) (by decide +kernel)
theorem ml_L_63 : Cond.methodLink R_L 63 y_M_take ∈ wb := wb_t 539 (by decide +kernel) (by decide +kernel)
theorem im_M_take : Cond.instanceMethod y_M_take ∈ wb := wb_t 540 (by decide +kernel) (by decide +kernel)
theorem se_M_take : Cond.selects R_M y_M_take y_M_take ∈ wb := wb_t 541 (by decide +kernel) (by decide +kernel)
theorem co_M_take : Cond.code y_M_take b_M_take 4 none ∈ wb := wb_t 542 (by decide +kernel) (by decide +kernel)
theorem kc_M_59 : Cond.constantLong R_M 59 (-1048576) ∈ wb := wb_t 543 (by decide +kernel) (by decide +kernel)
theorem kc_M_61 : Cond.constantLong R_M 61 (1048576) ∈ wb := wb_t 544 (by decide +kernel) (by decide +kernel)
theorem ml_M_63 : Cond.methodLink R_M 63 y_M_in ∈ wb := wb_t 545 (by decide +kernel) (by decide +kernel)
theorem st_M_in : Cond.static y_M_in ∈ wb := wb_t 546 (by decide +kernel) (by decide +kernel)
theorem co_M_in : Cond.code y_M_in b_M_in 6 (some .boolean) ∈ wb := wb_t 547 (by decide +kernel) (by decide +kernel)
theorem ml_L_71 : Cond.methodLink R_L 71 y_M_put ∈ wb := wb_t 548 (by decide +kernel) (by decide +kernel)
theorem im_M_put : Cond.instanceMethod y_M_put ∈ wb := wb_t 549 (by decide +kernel) (by decide +kernel)
theorem se_M_put : Cond.selects R_M y_M_put y_M_put ∈ wb := wb_t 550 (by decide +kernel) (by decide +kernel)
theorem co_M_put : Cond.code y_M_put b_M_put 7 none ∈ wb := wb_t 551 (by decide +kernel) (by decide +kernel)
theorem kc_M_101 : Cond.constantLong R_M 101 (7) ∈ wb := wb_t 552 (by decide +kernel) (by decide +kernel)
theorem kc_M_103 : Cond.constantLong R_M 103 (-1073741824) ∈ wb := wb_t 553 (by decide +kernel) (by decide +kernel)
theorem kc_M_105 : Cond.constantLong R_M 105 (1073741824) ∈ wb := wb_t 554 (by decide +kernel) (by decide +kernel)
theorem ml_M_107 : Cond.methodLink R_M 107 y_M_common ∈ wb := wb_t 555 (by decide +kernel) (by decide +kernel)
theorem st_M_common : Cond.static y_M_common ∈ wb := wb_t 556 (by decide +kernel) (by decide +kernel)
theorem co_M_common : Cond.code y_M_common b_M_common 10 (some .long) ∈ wb := wb_t 557 (by decide +kernel) (by decide +kernel)
theorem ml_L_75 : Cond.methodLink R_L 75 y_M_compose ∈ wb := wb_t 558 (by decide +kernel) (by decide +kernel)
theorem im_M_compose : Cond.instanceMethod y_M_compose ∈ wb := wb_t 559 (by decide +kernel) (by decide +kernel)
theorem se_M_compose : Cond.selects R_M y_M_compose y_M_compose ∈ wb := wb_t 560 (by decide +kernel) (by decide +kernel)
theorem co_M_compose : Cond.code y_M_compose b_M_compose 4 none ∈ wb := wb_t 561 (by decide +kernel) (by decide +kernel)
theorem ml_M_122 : Cond.methodLink R_M 122 y_M_isRegister ∈ wb := wb_t 562 (by decide +kernel) (by decide +kernel)
theorem st_M_isRegister : Cond.static y_M_isRegister ∈ wb := wb_t 563 (by decide +kernel) (by decide +kernel)
theorem co_M_isRegister : Cond.code y_M_isRegister b_M_isRegister 1 (some .boolean) ∈ wb := wb_t 564 (by decide +kernel) (by decide +kernel)
theorem ml_M_98 : Cond.methodLink R_M 98 y_M_load ∈ wb := wb_t 565 (by decide +kernel) (by decide +kernel)
theorem im_M_load : Cond.instanceMethod y_M_load ∈ wb := wb_t 567 (by decide +kernel) (by decide +kernel)
theorem co_M_load : Cond.code y_M_load b_M_load 2 none ∈ wb := wb_t 568 (by decide +kernel) (by decide +kernel)
theorem ml_M_126 : Cond.methodLink R_M 126 y_M_times ∈ wb := wb_t 569 (by decide +kernel) (by decide +kernel)
theorem im_M_times : Cond.instanceMethod y_M_times ∈ wb := wb_t 571 (by decide +kernel) (by decide +kernel)
theorem co_M_times : Cond.code y_M_times b_M_times 16 none ∈ wb := wb_t 572 (by decide +kernel) (by decide +kernel)
theorem ml_M_116 : Cond.methodLink R_M 116 y_M_freeOf ∈ wb := wb_t 573 (by decide +kernel) (by decide +kernel)
theorem im_M_freeOf : Cond.instanceMethod y_M_freeOf ∈ wb := wb_t 575 (by decide +kernel) (by decide +kernel)
theorem co_M_freeOf : Cond.code y_M_freeOf b_M_freeOf 13 none ∈ wb := wb_t 576 (by decide +kernel) (by decide +kernel)
theorem ml_M_110 : Cond.methodLink R_M 110 y_M_slide ∈ wb := wb_t 577 (by decide +kernel) (by decide +kernel)
theorem im_M_slide : Cond.instanceMethod y_M_slide ∈ wb := wb_t 579 (by decide +kernel) (by decide +kernel)
theorem co_M_slide : Cond.code y_M_slide b_M_slide 3 none ∈ wb := wb_t 580 (by decide +kernel) (by decide +kernel)
theorem ml_M_113 : Cond.methodLink R_M 113 y_M_turn ∈ wb := wb_t 581 (by decide +kernel) (by decide +kernel)
theorem im_M_turn : Cond.instanceMethod y_M_turn ∈ wb := wb_t 583 (by decide +kernel) (by decide +kernel)
theorem co_M_turn : Cond.code y_M_turn b_M_turn 3 none ∈ wb := wb_t 584 (by decide +kernel) (by decide +kernel)
theorem ml_M_119 : Cond.methodLink R_M 119 y_M_inverse ∈ wb := wb_t 585 (by decide +kernel) (by decide +kernel)
theorem st_M_inverse : Cond.static y_M_inverse ∈ wb := wb_t 586 (by decide +kernel) (by decide +kernel)
theorem co_M_inverse : Cond.code y_M_inverse b_M_inverse 16 (some .long) ∈ wb := wb_t 587 (by decide +kernel) (by decide +kernel)
theorem ml_L_79 : Cond.methodLink R_L 79 y_M_invert ∈ wb := wb_t 588 (by decide +kernel) (by decide +kernel)
theorem im_M_invert : Cond.instanceMethod y_M_invert ∈ wb := wb_t 589 (by decide +kernel) (by decide +kernel)
theorem se_M_invert : Cond.selects R_M y_M_invert y_M_invert ∈ wb := wb_t 590 (by decide +kernel) (by decide +kernel)
theorem co_M_invert : Cond.code y_M_invert b_M_invert 3 none ∈ wb := wb_t 591 (by decide +kernel) (by decide +kernel)
theorem ml_L_85 : Cond.methodLink R_L 85 y_M_power ∈ wb := wb_t 592 (by decide +kernel) (by decide +kernel)
theorem im_M_power : Cond.instanceMethod y_M_power ∈ wb := wb_t 593 (by decide +kernel) (by decide +kernel)
theorem se_M_power : Cond.selects R_M y_M_power y_M_power ∈ wb := wb_t 594 (by decide +kernel) (by decide +kernel)
theorem co_M_power : Cond.code y_M_power b_M_power 7 none ∈ wb := wb_t 595 (by decide +kernel) (by decide +kernel)
theorem ml_M_132 : Cond.methodLink R_M 132 y_M_orderOf ∈ wb := wb_t 596 (by decide +kernel) (by decide +kernel)
theorem im_M_orderOf : Cond.instanceMethod y_M_orderOf ∈ wb := wb_t 598 (by decide +kernel) (by decide +kernel)
theorem co_M_orderOf : Cond.code y_M_orderOf b_M_orderOf 3 (some .int) ∈ wb := wb_t 599 (by decide +kernel) (by decide +kernel)
theorem ml_M_129 : Cond.methodLink R_M 129 y_M_isOne ∈ wb := wb_t 600 (by decide +kernel) (by decide +kernel)
theorem im_M_isOne : Cond.instanceMethod y_M_isOne ∈ wb := wb_t 602 (by decide +kernel) (by decide +kernel)
theorem co_M_isOne : Cond.code y_M_isOne b_M_isOne 8 (some .boolean) ∈ wb := wb_t 603 (by decide +kernel) (by decide +kernel)
theorem ml_L_89 : Cond.methodLink R_L 89 y_M_form ∈ wb := wb_t 604 (by decide +kernel) (by decide +kernel)
theorem im_M_form : Cond.instanceMethod y_M_form ∈ wb := wb_t 605 (by decide +kernel) (by decide +kernel)
theorem se_M_form : Cond.selects R_M y_M_form y_M_form ∈ wb := wb_t 606 (by decide +kernel) (by decide +kernel)
theorem co_M_form : Cond.code y_M_form b_M_form 3 (some .int) ∈ wb := wb_t 607 (by decide +kernel) (by decide +kernel)
theorem ml_L_92 : Cond.methodLink R_L 92 y_M_same ∈ wb := wb_t 608 (by decide +kernel) (by decide +kernel)
theorem im_M_same : Cond.instanceMethod y_M_same ∈ wb := wb_t 609 (by decide +kernel) (by decide +kernel)
theorem se_M_same : Cond.selects R_M y_M_same y_M_same ∈ wb := wb_t 610 (by decide +kernel) (by decide +kernel)
theorem co_M_same : Cond.code y_M_same b_M_same 3 (some .boolean) ∈ wb := wb_t 611 (by decide +kernel) (by decide +kernel)
theorem ml_M_136 : Cond.methodLink R_M 136 y_M_isAt ∈ wb := wb_t 612 (by decide +kernel) (by decide +kernel)
theorem im_M_isAt : Cond.instanceMethod y_M_isAt ∈ wb := wb_t 614 (by decide +kernel) (by decide +kernel)
theorem co_M_isAt : Cond.code y_M_isAt b_M_isAt 2 (some .boolean) ∈ wb := wb_t 615 (by decide +kernel) (by decide +kernel)
theorem ml_L_96 : Cond.methodLink R_L 96 y_M_order ∈ wb := wb_t 616 (by decide +kernel) (by decide +kernel)
theorem im_M_order : Cond.instanceMethod y_M_order ∈ wb := wb_t 617 (by decide +kernel) (by decide +kernel)
theorem se_M_order : Cond.selects R_M y_M_order y_M_order ∈ wb := wb_t 618 (by decide +kernel) (by decide +kernel)
theorem co_M_order : Cond.code y_M_order b_M_order 2 (some .int) ∈ wb := wb_t 619 (by decide +kernel) (by decide +kernel)
theorem ml_L_99 : Cond.methodLink R_L 99 y_M_exponent ∈ wb := wb_t 620 (by decide +kernel) (by decide +kernel)
theorem im_M_exponent : Cond.instanceMethod y_M_exponent ∈ wb := wb_t 621 (by decide +kernel) (by decide +kernel)
theorem se_M_exponent : Cond.selects R_M y_M_exponent y_M_exponent ∈ wb := wb_t 622 (by decide +kernel) (by decide +kernel)
theorem co_M_exponent : Cond.code y_M_exponent b_M_exponent 5 (some .int) ∈ wb := wb_t 623 (by decide +kernel) (by decide +kernel)
theorem ml_L_103 : Cond.methodLink R_L 103 y_M_count ∈ wb := wb_t 624 (by decide +kernel) (by decide +kernel)
theorem im_M_count : Cond.instanceMethod y_M_count ∈ wb := wb_t 625 (by decide +kernel) (by decide +kernel)
theorem se_M_count : Cond.selects R_M y_M_count y_M_count ∈ wb := wb_t 626 (by decide +kernel) (by decide +kernel)
theorem co_M_count : Cond.code y_M_count b_M_count 2 (some .int) ∈ wb := wb_t 627 (by decide +kernel) (by decide +kernel)
theorem ml_M_139 : Cond.methodLink R_M 139 y_M_formsOf ∈ wb := wb_t 628 (by decide +kernel) (by decide +kernel)
theorem im_M_formsOf : Cond.instanceMethod y_M_formsOf ∈ wb := wb_t 630 (by decide +kernel) (by decide +kernel)
theorem co_M_formsOf : Cond.code y_M_formsOf b_M_formsOf 3 (some .int) ∈ wb := wb_t 631 (by decide +kernel) (by decide +kernel)
theorem ml_L_106 : Cond.methodLink R_L 106 y_M_prime ∈ wb := wb_t 632 (by decide +kernel) (by decide +kernel)
theorem im_M_prime : Cond.instanceMethod y_M_prime ∈ wb := wb_t 633 (by decide +kernel) (by decide +kernel)
theorem se_M_prime : Cond.selects R_M y_M_prime y_M_prime ∈ wb := wb_t 634 (by decide +kernel) (by decide +kernel)
theorem co_M_prime : Cond.code y_M_prime b_M_prime 2 (some .int) ∈ wb := wb_t 635 (by decide +kernel) (by decide +kernel)
theorem ml_L_109 : Cond.methodLink R_L 109 y_M_character ∈ wb := wb_t 636 (by decide +kernel) (by decide +kernel)
theorem im_M_character : Cond.instanceMethod y_M_character ∈ wb := wb_t 637 (by decide +kernel) (by decide +kernel)
theorem se_M_character : Cond.selects R_M y_M_character y_M_character ∈ wb := wb_t 638 (by decide +kernel) (by decide +kernel)
theorem co_M_character : Cond.code y_M_character b_M_character 3 (some .int) ∈ wb := wb_t 639 (by decide +kernel) (by decide +kernel)
theorem ml_M_142 : Cond.methodLink R_M 142 y_M_isSquare ∈ wb := wb_t 640 (by decide +kernel) (by decide +kernel)
theorem st_M_isSquare : Cond.static y_M_isSquare ∈ wb := wb_t 641 (by decide +kernel) (by decide +kernel)
theorem co_M_isSquare : Cond.code y_M_isSquare b_M_isSquare 8 (some .boolean) ∈ wb := wb_t 642 (by decide +kernel) (by decide +kernel)
theorem kc_L_80 : Cond.constantLong R_L 80 (4294967295) ∈ wb := wb_t 643 (by decide +kernel) (by decide +kernel)
theorem se_X_begin : Cond.selects R_X y_X_begin y_X_begin ∈ wb := wb_s 0 (by decide +kernel) (by decide +kernel)
theorem se_G_settle : Cond.selects R_G y_G_settle y_G_settle ∈ wb := wb_s 1 (by decide +kernel) (by decide +kernel)
theorem se_G_becomeFrom : Cond.selects R_G y_G_becomeFrom y_G_becomeFrom ∈ wb := wb_s 2 (by decide +kernel) (by decide +kernel)
theorem se_F_become : Cond.selects R_F y_F_become y_F_become ∈ wb := wb_s 3 (by decide +kernel) (by decide +kernel)
theorem se_G_reduce : Cond.selects R_G y_G_reduce y_G_reduce ∈ wb := wb_s 4 (by decide +kernel) (by decide +kernel)
theorem se_G_reduceBelow : Cond.selects R_G y_G_reduceBelow y_G_reduceBelow ∈ wb := wb_s 5 (by decide +kernel) (by decide +kernel)
theorem se_G_isReducedAbove : Cond.selects R_G y_G_isReducedAbove y_G_isReducedAbove ∈ wb := wb_s 6 (by decide +kernel) (by decide +kernel)
theorem se_G_step : Cond.selects R_G y_G_step y_G_step ∈ wb := wb_s 7 (by decide +kernel) (by decide +kernel)
theorem se_G_turnIntoName : Cond.selects R_G y_G_turnIntoName y_G_turnIntoName ∈ wb := wb_s 8 (by decide +kernel) (by decide +kernel)
theorem se_F_copy : Cond.selects R_F y_F_copy y_F_copy ∈ wb := wb_s 9 (by decide +kernel) (by decide +kernel)
theorem se_F_matches : Cond.selects R_F y_F_matches y_F_matches ∈ wb := wb_s 10 (by decide +kernel) (by decide +kernel)
theorem se_F_isBefore : Cond.selects R_F y_F_isBefore y_F_isBefore ∈ wb := wb_s 11 (by decide +kernel) (by decide +kernel)
theorem se_P_find : Cond.selects R_P y_P_find y_P_find ∈ wb := wb_s 12 (by decide +kernel) (by decide +kernel)
theorem se_P_append : Cond.selects R_P y_P_append y_P_append ∈ wb := wb_s 13 (by decide +kernel) (by decide +kernel)
theorem se_X_held : Cond.selects R_X y_X_held y_X_held ∈ wb := wb_s 15 (by decide +kernel) (by decide +kernel)
theorem se_G_canTake : Cond.selects R_G y_G_canTake y_G_canTake ∈ wb := wb_s 16 (by decide +kernel) (by decide +kernel)
theorem se_E_solve : Cond.selects R_E y_E_solve y_E_solve ∈ wb := wb_s 17 (by decide +kernel) (by decide +kernel)
theorem se_X_storeName : Cond.selects R_X y_X_storeName y_X_storeName ∈ wb := wb_s 18 (by decide +kernel) (by decide +kernel)
theorem se_G_multiply : Cond.selects R_G y_G_multiply y_G_multiply ∈ wb := wb_s 19 (by decide +kernel) (by decide +kernel)
theorem se_G_turn : Cond.selects R_G y_G_turn y_G_turn ∈ wb := wb_s 20 (by decide +kernel) (by decide +kernel)
theorem se_G_raise : Cond.selects R_G y_G_raise y_G_raise ∈ wb := wb_s 21 (by decide +kernel) (by decide +kernel)
theorem se_G_orderOf : Cond.selects R_G y_G_orderOf y_G_orderOf ∈ wb := wb_s 22 (by decide +kernel) (by decide +kernel)
theorem se_G_exponentOf : Cond.selects R_G y_G_exponentOf y_G_exponentOf ∈ wb := wb_s 23 (by decide +kernel) (by decide +kernel)
theorem se_P_has : Cond.selects R_P y_P_has y_P_has ∈ wb := wb_s 24 (by decide +kernel) (by decide +kernel)
theorem se_P_at : Cond.selects R_P y_P_at y_P_at ∈ wb := wb_s 25 (by decide +kernel) (by decide +kernel)
theorem se_M_begin : Cond.selects R_M y_M_begin y_M_begin ∈ wb := wb_s 26 (by decide +kernel) (by decide +kernel)
theorem se_M_keepOne : Cond.selects R_M y_M_keepOne y_M_keepOne ∈ wb := wb_s 27 (by decide +kernel) (by decide +kernel)
theorem se_M_one : Cond.selects R_M y_M_one y_M_one ∈ wb := wb_s 28 (by decide +kernel) (by decide +kernel)
theorem se_M_toName : Cond.selects R_M y_M_toName y_M_toName ∈ wb := wb_s 29 (by decide +kernel) (by decide +kernel)
theorem se_M_isReduced : Cond.selects R_M y_M_isReduced y_M_isReduced ∈ wb := wb_s 30 (by decide +kernel) (by decide +kernel)
theorem se_M_step : Cond.selects R_M y_M_step y_M_step ∈ wb := wb_s 31 (by decide +kernel) (by decide +kernel)
theorem se_M_keep : Cond.selects R_M y_M_keep y_M_keep ∈ wb := wb_s 32 (by decide +kernel) (by decide +kernel)
theorem se_M_load : Cond.selects R_M y_M_load y_M_load ∈ wb := wb_s 33 (by decide +kernel) (by decide +kernel)
theorem se_M_times : Cond.selects R_M y_M_times y_M_times ∈ wb := wb_s 34 (by decide +kernel) (by decide +kernel)
theorem se_M_freeOf : Cond.selects R_M y_M_freeOf y_M_freeOf ∈ wb := wb_s 35 (by decide +kernel) (by decide +kernel)
theorem se_M_slide : Cond.selects R_M y_M_slide y_M_slide ∈ wb := wb_s 36 (by decide +kernel) (by decide +kernel)
theorem se_M_turn : Cond.selects R_M y_M_turn y_M_turn ∈ wb := wb_s 37 (by decide +kernel) (by decide +kernel)
theorem se_M_orderOf : Cond.selects R_M y_M_orderOf y_M_orderOf ∈ wb := wb_s 38 (by decide +kernel) (by decide +kernel)
theorem se_M_isOne : Cond.selects R_M y_M_isOne y_M_isOne ∈ wb := wb_s 39 (by decide +kernel) (by decide +kernel)
theorem se_M_isAt : Cond.selects R_M y_M_isAt y_M_isAt ∈ wb := wb_s 40 (by decide +kernel) (by decide +kernel)
theorem se_M_formsOf : Cond.selects R_M y_M_formsOf y_M_formsOf ∈ wb := wb_s 41 (by decide +kernel) (by decide +kernel)
theorem ly_E_0 : Cond.lays "FormComposer$Euclid" "FormComposer$Euclid" "common" "J" ∈ wb := wb_t 61 (by decide +kernel) (by decide +kernel)
theorem ly_E_1 : Cond.lays "FormComposer$Euclid" "FormComposer$Euclid" "left" "J" ∈ wb := wb_t 63 (by decide +kernel) (by decide +kernel)
theorem ly_E_2 : Cond.lays "FormComposer$Euclid" "FormComposer$Euclid" "right" "J" ∈ wb := wb_t 65 (by decide +kernel) (by decide +kernel)
theorem uw_E : ∀ w ∈ u_ws R_E T_E 3, w ∈ wb := by
  intro w hw
  have e : u_ws R_E T_E 3 = [Cond.lays "FormComposer$Euclid" "FormComposer$Euclid" "common" "J", Cond.lays "FormComposer$Euclid" "FormComposer$Euclid" "left" "J", Cond.lays "FormComposer$Euclid" "FormComposer$Euclid" "right" "J"] := by decide +kernel
  rw [e] at hw
  simp only [List.mem_cons, List.not_mem_nil, or_false] at hw
  rcases hw with rfl | rfl | rfl
  · exact ly_E_0
  · exact ly_E_1
  · exact ly_E_2
theorem ly_F_0 : Cond.lays "FormComposer$Form" "FormComposer$Form" "a" "J" ∈ wb := wb_t 42 (by decide +kernel) (by decide +kernel)
theorem ly_F_1 : Cond.lays "FormComposer$Form" "FormComposer$Form" "b" "J" ∈ wb := wb_t 44 (by decide +kernel) (by decide +kernel)
theorem ly_F_2 : Cond.lays "FormComposer$Form" "FormComposer$Form" "c" "J" ∈ wb := wb_t 46 (by decide +kernel) (by decide +kernel)
theorem uw_F : ∀ w ∈ u_ws R_F T_F 3, w ∈ wb := by
  intro w hw
  have e : u_ws R_F T_F 3 = [Cond.lays "FormComposer$Form" "FormComposer$Form" "a" "J", Cond.lays "FormComposer$Form" "FormComposer$Form" "b" "J", Cond.lays "FormComposer$Form" "FormComposer$Form" "c" "J"] := by decide +kernel
  rw [e] at hw
  simp only [List.mem_cons, List.not_mem_nil, or_false] at hw
  rcases hw with rfl | rfl | rfl
  · exact ly_F_0
  · exact ly_F_1
  · exact ly_F_2
theorem ly_G_0 : Cond.laysFinal "FormComposer$Group" "FormComposer$Group" "one" "LFormComposer$Form;" ∈ wb := wb_t 78 (by decide +kernel) (by decide +kernel)
theorem ly_G_1 : Cond.laysFinal "FormComposer$Group" "FormComposer$Group" "walker" "LFormComposer$Form;" ∈ wb := wb_t 80 (by decide +kernel) (by decide +kernel)
theorem ly_G_2 : Cond.laysFinal "FormComposer$Group" "FormComposer$Group" "start" "LFormComposer$Form;" ∈ wb := wb_t 82 (by decide +kernel) (by decide +kernel)
theorem ly_G_3 : Cond.laysFinal "FormComposer$Group" "FormComposer$Group" "base" "LFormComposer$Form;" ∈ wb := wb_t 84 (by decide +kernel) (by decide +kernel)
theorem ly_G_4 : Cond.laysFinal "FormComposer$Group" "FormComposer$Group" "euclid" "LFormComposer$Euclid;" ∈ wb := wb_t 86 (by decide +kernel) (by decide +kernel)
theorem ly_G_5 : Cond.lays "FormComposer$Group" "FormComposer$Group" "discriminant" "I" ∈ wb := wb_t 88 (by decide +kernel) (by decide +kernel)
theorem ly_G_6 : Cond.lays "FormComposer$Group" "FormComposer$Group" "root" "I" ∈ wb := wb_t 90 (by decide +kernel) (by decide +kernel)
theorem uw_G : ∀ w ∈ u_ws R_G T_G 7, w ∈ wb := by
  intro w hw
  have e : u_ws R_G T_G 7 = [Cond.laysFinal "FormComposer$Group" "FormComposer$Group" "one" "LFormComposer$Form;", Cond.laysFinal "FormComposer$Group" "FormComposer$Group" "walker" "LFormComposer$Form;", Cond.laysFinal "FormComposer$Group" "FormComposer$Group" "start" "LFormComposer$Form;", Cond.laysFinal "FormComposer$Group" "FormComposer$Group" "base" "LFormComposer$Form;", Cond.laysFinal "FormComposer$Group" "FormComposer$Group" "euclid" "LFormComposer$Euclid;", Cond.lays "FormComposer$Group" "FormComposer$Group" "discriminant" "I", Cond.lays "FormComposer$Group" "FormComposer$Group" "root" "I"] := by decide +kernel
  rw [e] at hw
  simp only [List.mem_cons, List.not_mem_nil, or_false] at hw
  rcases hw with rfl | rfl | rfl | rfl | rfl | rfl | rfl
  · exact ly_G_0
  · exact ly_G_1
  · exact ly_G_2
  · exact ly_G_3
  · exact ly_G_4
  · exact ly_G_5
  · exact ly_G_6
theorem ly_P_0 : Cond.laysFinal "FormComposer$OddPrimes" "FormComposer$OddPrimes" "found" "[I" ∈ wb := wb_t 102 (by decide +kernel) (by decide +kernel)
theorem ly_P_1 : Cond.lays "FormComposer$OddPrimes" "FormComposer$OddPrimes" "size" "I" ∈ wb := wb_t 104 (by decide +kernel) (by decide +kernel)
theorem uw_P : ∀ w ∈ u_ws R_P T_P 2, w ∈ wb := by
  intro w hw
  have e : u_ws R_P T_P 2 = [Cond.laysFinal "FormComposer$OddPrimes" "FormComposer$OddPrimes" "found" "[I", Cond.lays "FormComposer$OddPrimes" "FormComposer$OddPrimes" "size" "I"] := by decide +kernel
  rw [e] at hw
  simp only [List.mem_cons, List.not_mem_nil, or_false] at hw
  rcases hw with rfl | rfl
  · exact ly_P_0
  · exact ly_P_1
theorem ly_X_0 : Cond.laysFinal "FormComposer" "FormComposer" "group" "LFormComposer$Group;" ∈ wb := wb_t 203 (by decide +kernel) (by decide +kernel)
theorem ly_X_1 : Cond.laysFinal "FormComposer" "FormComposer" "primes" "LFormComposer$OddPrimes;" ∈ wb := wb_t 205 (by decide +kernel) (by decide +kernel)
theorem ly_X_2 : Cond.laysFinal "FormComposer" "FormComposer" "registers" "[LFormComposer$Form;" ∈ wb := wb_t 207 (by decide +kernel) (by decide +kernel)
theorem ly_X_3 : Cond.laysFinal "FormComposer" "FormComposer" "hand" "LFormComposer$Form;" ∈ wb := wb_t 209 (by decide +kernel) (by decide +kernel)
theorem uw_X : ∀ w ∈ u_ws R_X T_X 4, w ∈ wb := by
  intro w hw
  have e : u_ws R_X T_X 4 = [Cond.laysFinal "FormComposer" "FormComposer" "group" "LFormComposer$Group;", Cond.laysFinal "FormComposer" "FormComposer" "primes" "LFormComposer$OddPrimes;", Cond.laysFinal "FormComposer" "FormComposer" "registers" "[LFormComposer$Form;", Cond.laysFinal "FormComposer" "FormComposer" "hand" "LFormComposer$Form;"] := by decide +kernel
  rw [e] at hw
  simp only [List.mem_cons, List.not_mem_nil, or_false] at hw
  rcases hw with rfl | rfl | rfl | rfl
  · exact ly_X_0
  · exact ly_X_1
  · exact ly_X_2
  · exact ly_X_3
theorem ly_M_0 : Cond.lays "FormComposerModel" "FormComposerModel" "code" "I" ∈ wb := wb_t 511 (by decide +kernel) (by decide +kernel)
theorem ly_M_1 : Cond.lays "FormComposerModel" "FormComposerModel" "d" "J" ∈ wb := wb_t 513 (by decide +kernel) (by decide +kernel)
theorem ly_M_2 : Cond.lays "FormComposerModel" "FormComposerModel" "w" "J" ∈ wb := wb_t 515 (by decide +kernel) (by decide +kernel)
theorem ly_M_3 : Cond.laysFinal "FormComposerModel" "FormComposerModel" "firsts" "[J" ∈ wb := wb_t 517 (by decide +kernel) (by decide +kernel)
theorem ly_M_4 : Cond.laysFinal "FormComposerModel" "FormComposerModel" "middles" "[J" ∈ wb := wb_t 519 (by decide +kernel) (by decide +kernel)
theorem ly_M_5 : Cond.laysFinal "FormComposerModel" "FormComposerModel" "lasts" "[J" ∈ wb := wb_t 521 (by decide +kernel) (by decide +kernel)
theorem ly_M_6 : Cond.lays "FormComposerModel" "FormComposerModel" "a" "J" ∈ wb := wb_t 523 (by decide +kernel) (by decide +kernel)
theorem ly_M_7 : Cond.lays "FormComposerModel" "FormComposerModel" "b" "J" ∈ wb := wb_t 525 (by decide +kernel) (by decide +kernel)
theorem ly_M_8 : Cond.lays "FormComposerModel" "FormComposerModel" "c" "J" ∈ wb := wb_t 527 (by decide +kernel) (by decide +kernel)
theorem ly_M_9 : Cond.lays "FormComposerModel" "FormComposerModel" "primes" "I" ∈ wb := wb_t 529 (by decide +kernel) (by decide +kernel)
theorem ly_M_10 : Cond.laysFinal "FormComposerModel" "FormComposerModel" "prime" "[J" ∈ wb := wb_t 531 (by decide +kernel) (by decide +kernel)
theorem uw_M : ∀ w ∈ u_ws R_M T_M 11, w ∈ wb := by
  intro w hw
  have e : u_ws R_M T_M 11 = [Cond.lays "FormComposerModel" "FormComposerModel" "code" "I", Cond.lays "FormComposerModel" "FormComposerModel" "d" "J", Cond.lays "FormComposerModel" "FormComposerModel" "w" "J", Cond.laysFinal "FormComposerModel" "FormComposerModel" "firsts" "[J", Cond.laysFinal "FormComposerModel" "FormComposerModel" "middles" "[J", Cond.laysFinal "FormComposerModel" "FormComposerModel" "lasts" "[J", Cond.lays "FormComposerModel" "FormComposerModel" "a" "J", Cond.lays "FormComposerModel" "FormComposerModel" "b" "J", Cond.lays "FormComposerModel" "FormComposerModel" "c" "J", Cond.lays "FormComposerModel" "FormComposerModel" "primes" "I", Cond.laysFinal "FormComposerModel" "FormComposerModel" "prime" "[J"] := by decide +kernel
  rw [e] at hw
  simp only [List.mem_cons, List.not_mem_nil, or_false] at hw
  rcases hw with rfl | rfl | rfl | rfl | rfl | rfl | rfl | rfl | rfl | rfl | rfl
  · exact ly_M_0
  · exact ly_M_1
  · exact ly_M_2
  · exact ly_M_3
  · exact ly_M_4
  · exact ly_M_5
  · exact ly_M_6
  · exact ly_M_7
  · exact ly_M_8
  · exact ly_M_9
  · exact ly_M_10
/-! links to private members of nest mates -/
def nb : List Cond := [Cond.methodLinkNest R_X 9 y_G_init "FormComposer", Cond.methodLinkNest R_G 11 y_F_init "FormComposer", Cond.fieldLinkNest R_G 94 "FormComposer$Form" "a" "J" "FormComposer", Cond.fieldLinkNest R_X 84 "FormComposer$Form" "a" "J" "FormComposer", Cond.fieldLinkNest R_G 97 "FormComposer$Form" "b" "J" "FormComposer", Cond.fieldLinkNest R_X 88 "FormComposer$Form" "b" "J" "FormComposer", Cond.fieldLinkNest R_X 91 "FormComposer$Form" "c" "J" "FormComposer", Cond.fieldLinkNest R_G 105 "FormComposer$Form" "c" "J" "FormComposer", Cond.methodLinkNest R_G 29 y_E_init "FormComposer", Cond.fieldLinkNest R_G 67 "FormComposer$Euclid" "common" "J" "FormComposer", Cond.fieldLinkNest R_G 126 "FormComposer$Euclid" "left" "J" "FormComposer", Cond.fieldLinkNest R_G 129 "FormComposer$Euclid" "right" "J" "FormComposer", Cond.fieldLinkNest R_X 147 "FormComposer$Group" "one" "LFormComposer$Form;" "FormComposer", Cond.fieldLinkNest R_X 111 "FormComposer$Group" "discriminant" "I" "FormComposer", Cond.fieldLinkNest R_X 115 "FormComposer$Group" "root" "I" "FormComposer", Cond.methodLinkNest R_X 18 y_P_init "FormComposer", Cond.fieldLinkNest R_X 118 "FormComposer$OddPrimes" "size" "I" "FormComposer", Cond.methodLinkNest R_X 25 y_F_init "FormComposer", Cond.methodLinkNest R_X 141 y_G_settle "FormComposer", Cond.methodLinkNest R_G 38 y_X_wholeRoot "FormComposer", Cond.methodLinkNest R_G 75 y_X_quotient "FormComposer", Cond.methodLinkNest R_G 79 y_F_become "FormComposer", Cond.methodLinkNest R_G 102 y_X_remainder "FormComposer", Cond.methodLinkNest R_G 117 y_F_copy "FormComposer", Cond.methodLinkNest R_G 120 y_F_matches "FormComposer", Cond.methodLinkNest R_G 123 y_F_isBefore "FormComposer", Cond.methodLinkNest R_X 144 y_P_find "FormComposer", Cond.methodLinkNest R_P 29 y_X_remainder "FormComposer", Cond.methodLinkNest R_P 42 y_X_quotient "FormComposer", Cond.methodLinkNest R_X 70 y_F_copy "FormComposer", Cond.methodLinkNest R_X 121 y_G_turnIntoName "FormComposer", Cond.methodLinkNest R_X 53 y_G_canTake "FormComposer", Cond.methodLinkNest R_G 63 y_E_solve "FormComposer", Cond.methodLinkNest R_E 22 y_X_quotient "FormComposer", Cond.methodLinkNest R_X 59 y_F_become "FormComposer", Cond.methodLinkNest R_X 63 y_G_reduce "FormComposer", Cond.methodLinkNest R_X 73 y_G_multiply "FormComposer", Cond.methodLinkNest R_X 77 y_G_turn "FormComposer", Cond.methodLinkNest R_X 80 y_G_raise "FormComposer", Cond.methodLinkNest R_X 99 y_F_matches "FormComposer", Cond.methodLinkNest R_X 103 y_G_orderOf "FormComposer", Cond.methodLinkNest R_X 107 y_G_exponentOf "FormComposer", Cond.methodLinkNest R_X 124 y_P_has "FormComposer", Cond.methodLinkNest R_X 129 y_P_at "FormComposer"]
theorem nm_X_9 : Cond.methodLinkNest R_X 9 y_G_init "FormComposer" ∈ nb := List.mem_of_getElem? (i := 0) rfl
theorem nm_G_11 : Cond.methodLinkNest R_G 11 y_F_init "FormComposer" ∈ nb := List.mem_of_getElem? (i := 1) rfl
theorem nf_G_94 : Cond.fieldLinkNest R_G 94 "FormComposer$Form" "a" "J" "FormComposer" ∈ nb := List.mem_of_getElem? (i := 2) rfl
theorem nf_X_84 : Cond.fieldLinkNest R_X 84 "FormComposer$Form" "a" "J" "FormComposer" ∈ nb := List.mem_of_getElem? (i := 3) rfl
theorem nf_G_97 : Cond.fieldLinkNest R_G 97 "FormComposer$Form" "b" "J" "FormComposer" ∈ nb := List.mem_of_getElem? (i := 4) rfl
theorem nf_X_88 : Cond.fieldLinkNest R_X 88 "FormComposer$Form" "b" "J" "FormComposer" ∈ nb := List.mem_of_getElem? (i := 5) rfl
theorem nf_X_91 : Cond.fieldLinkNest R_X 91 "FormComposer$Form" "c" "J" "FormComposer" ∈ nb := List.mem_of_getElem? (i := 6) rfl
theorem nf_G_105 : Cond.fieldLinkNest R_G 105 "FormComposer$Form" "c" "J" "FormComposer" ∈ nb := List.mem_of_getElem? (i := 7) rfl
theorem nm_G_29 : Cond.methodLinkNest R_G 29 y_E_init "FormComposer" ∈ nb := List.mem_of_getElem? (i := 8) rfl
theorem nf_G_67 : Cond.fieldLinkNest R_G 67 "FormComposer$Euclid" "common" "J" "FormComposer" ∈ nb := List.mem_of_getElem? (i := 9) rfl
theorem nf_G_126 : Cond.fieldLinkNest R_G 126 "FormComposer$Euclid" "left" "J" "FormComposer" ∈ nb := List.mem_of_getElem? (i := 10) rfl
theorem nf_G_129 : Cond.fieldLinkNest R_G 129 "FormComposer$Euclid" "right" "J" "FormComposer" ∈ nb := List.mem_of_getElem? (i := 11) rfl
theorem nf_X_147 : Cond.fieldLinkNest R_X 147 "FormComposer$Group" "one" "LFormComposer$Form;" "FormComposer" ∈ nb := List.mem_of_getElem? (i := 12) rfl
theorem nf_X_111 : Cond.fieldLinkNest R_X 111 "FormComposer$Group" "discriminant" "I" "FormComposer" ∈ nb := List.mem_of_getElem? (i := 13) rfl
theorem nf_X_115 : Cond.fieldLinkNest R_X 115 "FormComposer$Group" "root" "I" "FormComposer" ∈ nb := List.mem_of_getElem? (i := 14) rfl
theorem nm_X_18 : Cond.methodLinkNest R_X 18 y_P_init "FormComposer" ∈ nb := List.mem_of_getElem? (i := 15) rfl
theorem nf_X_118 : Cond.fieldLinkNest R_X 118 "FormComposer$OddPrimes" "size" "I" "FormComposer" ∈ nb := List.mem_of_getElem? (i := 16) rfl
theorem nm_X_25 : Cond.methodLinkNest R_X 25 y_F_init "FormComposer" ∈ nb := List.mem_of_getElem? (i := 17) rfl
theorem nm_X_141 : Cond.methodLinkNest R_X 141 y_G_settle "FormComposer" ∈ nb := List.mem_of_getElem? (i := 18) rfl
theorem nm_G_38 : Cond.methodLinkNest R_G 38 y_X_wholeRoot "FormComposer" ∈ nb := List.mem_of_getElem? (i := 19) rfl
theorem nm_G_75 : Cond.methodLinkNest R_G 75 y_X_quotient "FormComposer" ∈ nb := List.mem_of_getElem? (i := 20) rfl
theorem nm_G_79 : Cond.methodLinkNest R_G 79 y_F_become "FormComposer" ∈ nb := List.mem_of_getElem? (i := 21) rfl
theorem nm_G_102 : Cond.methodLinkNest R_G 102 y_X_remainder "FormComposer" ∈ nb := List.mem_of_getElem? (i := 22) rfl
theorem nm_G_117 : Cond.methodLinkNest R_G 117 y_F_copy "FormComposer" ∈ nb := List.mem_of_getElem? (i := 23) rfl
theorem nm_G_120 : Cond.methodLinkNest R_G 120 y_F_matches "FormComposer" ∈ nb := List.mem_of_getElem? (i := 24) rfl
theorem nm_G_123 : Cond.methodLinkNest R_G 123 y_F_isBefore "FormComposer" ∈ nb := List.mem_of_getElem? (i := 25) rfl
theorem nm_X_144 : Cond.methodLinkNest R_X 144 y_P_find "FormComposer" ∈ nb := List.mem_of_getElem? (i := 26) rfl
theorem nm_P_29 : Cond.methodLinkNest R_P 29 y_X_remainder "FormComposer" ∈ nb := List.mem_of_getElem? (i := 27) rfl
theorem nm_P_42 : Cond.methodLinkNest R_P 42 y_X_quotient "FormComposer" ∈ nb := List.mem_of_getElem? (i := 28) rfl
theorem nm_X_70 : Cond.methodLinkNest R_X 70 y_F_copy "FormComposer" ∈ nb := List.mem_of_getElem? (i := 29) rfl
theorem nm_X_121 : Cond.methodLinkNest R_X 121 y_G_turnIntoName "FormComposer" ∈ nb := List.mem_of_getElem? (i := 30) rfl
theorem nm_X_53 : Cond.methodLinkNest R_X 53 y_G_canTake "FormComposer" ∈ nb := List.mem_of_getElem? (i := 31) rfl
theorem nm_G_63 : Cond.methodLinkNest R_G 63 y_E_solve "FormComposer" ∈ nb := List.mem_of_getElem? (i := 32) rfl
theorem nm_E_22 : Cond.methodLinkNest R_E 22 y_X_quotient "FormComposer" ∈ nb := List.mem_of_getElem? (i := 33) rfl
theorem nm_X_59 : Cond.methodLinkNest R_X 59 y_F_become "FormComposer" ∈ nb := List.mem_of_getElem? (i := 34) rfl
theorem nm_X_63 : Cond.methodLinkNest R_X 63 y_G_reduce "FormComposer" ∈ nb := List.mem_of_getElem? (i := 35) rfl
theorem nm_X_73 : Cond.methodLinkNest R_X 73 y_G_multiply "FormComposer" ∈ nb := List.mem_of_getElem? (i := 36) rfl
theorem nm_X_77 : Cond.methodLinkNest R_X 77 y_G_turn "FormComposer" ∈ nb := List.mem_of_getElem? (i := 37) rfl
theorem nm_X_80 : Cond.methodLinkNest R_X 80 y_G_raise "FormComposer" ∈ nb := List.mem_of_getElem? (i := 38) rfl
theorem nm_X_99 : Cond.methodLinkNest R_X 99 y_F_matches "FormComposer" ∈ nb := List.mem_of_getElem? (i := 39) rfl
theorem nm_X_103 : Cond.methodLinkNest R_X 103 y_G_orderOf "FormComposer" ∈ nb := List.mem_of_getElem? (i := 40) rfl
theorem nm_X_107 : Cond.methodLinkNest R_X 107 y_G_exponentOf "FormComposer" ∈ nb := List.mem_of_getElem? (i := 41) rfl
theorem nm_X_124 : Cond.methodLinkNest R_X 124 y_P_has "FormComposer" ∈ nb := List.mem_of_getElem? (i := 42) rfl
theorem nm_X_129 : Cond.methodLinkNest R_X 129 y_P_at "FormComposer" ∈ nb := List.mem_of_getElem? (i := 43) rfl
def nw (U : State) : Prop := ∀ w ∈ nb, va_Nw w U
theorem nb_t : ∀ w ∈ nb, w ∈ lw_tbl := by
  intro w hw
  unfold nb at hw
  simp only [List.mem_cons, List.not_mem_nil, or_false] at hw
  rcases hw with rfl | rfl | rfl | rfl | rfl | rfl | rfl | rfl | rfl | rfl | rfl | rfl | rfl | rfl | rfl | rfl | rfl | rfl | rfl | rfl | rfl | rfl | rfl | rfl | rfl | rfl | rfl | rfl | rfl | rfl | rfl | rfl | rfl | rfl | rfl | rfl | rfl | rfl | rfl | rfl | rfl | rfl | rfl | rfl
  · exact List.mem_append_right _ (List.mem_of_getElem? (i := 23) (by decide +kernel))
  · exact List.mem_append_right _ (List.mem_of_getElem? (i := 29) (by decide +kernel))
  · exact List.mem_append_right _ (List.mem_of_getElem? (i := 34) (by decide +kernel))
  · exact List.mem_append_right _ (List.mem_of_getElem? (i := 35) (by decide +kernel))
  · exact List.mem_append_right _ (List.mem_of_getElem? (i := 37) (by decide +kernel))
  · exact List.mem_append_right _ (List.mem_of_getElem? (i := 38) (by decide +kernel))
  · exact List.mem_append_right _ (List.mem_of_getElem? (i := 40) (by decide +kernel))
  · exact List.mem_append_right _ (List.mem_of_getElem? (i := 41) (by decide +kernel))
  · exact List.mem_append_right _ (List.mem_of_getElem? (i := 51) (by decide +kernel))
  · exact List.mem_append_right _ (List.mem_of_getElem? (i := 56) (by decide +kernel))
  · exact List.mem_append_right _ (List.mem_of_getElem? (i := 58) (by decide +kernel))
  · exact List.mem_append_right _ (List.mem_of_getElem? (i := 60) (by decide +kernel))
  · exact List.mem_append_right _ (List.mem_of_getElem? (i := 69) (by decide +kernel))
  · exact List.mem_append_right _ (List.mem_of_getElem? (i := 75) (by decide +kernel))
  · exact List.mem_append_right _ (List.mem_of_getElem? (i := 77) (by decide +kernel))
  · exact List.mem_append_right _ (List.mem_of_getElem? (i := 95) (by decide +kernel))
  · exact List.mem_append_right _ (List.mem_of_getElem? (i := 101) (by decide +kernel))
  · exact List.mem_append_right _ (List.mem_of_getElem? (i := 109) (by decide +kernel))
  · exact List.mem_append_right _ (List.mem_of_getElem? (i := 115) (by decide +kernel))
  · exact List.mem_append_right _ (List.mem_of_getElem? (i := 119) (by decide +kernel))
  · exact List.mem_append_right _ (List.mem_of_getElem? (i := 127) (by decide +kernel))
  · exact List.mem_append_right _ (List.mem_of_getElem? (i := 130) (by decide +kernel))
  · exact List.mem_append_right _ (List.mem_of_getElem? (i := 144) (by decide +kernel))
  · exact List.mem_append_right _ (List.mem_of_getElem? (i := 168) (by decide +kernel))
  · exact List.mem_append_right _ (List.mem_of_getElem? (i := 173) (by decide +kernel))
  · exact List.mem_append_right _ (List.mem_of_getElem? (i := 177) (by decide +kernel))
  · exact List.mem_append_right _ (List.mem_of_getElem? (i := 181) (by decide +kernel))
  · exact List.mem_append_right _ (List.mem_of_getElem? (i := 192) (by decide +kernel))
  · exact List.mem_append_right _ (List.mem_of_getElem? (i := 193) (by decide +kernel))
  · exact List.mem_append_right _ (List.mem_of_getElem? (i := 198) (by decide +kernel))
  · exact List.mem_append_right _ (List.mem_of_getElem? (i := 216) (by decide +kernel))
  · exact List.mem_append_right _ (List.mem_of_getElem? (i := 329) (by decide +kernel))
  · exact List.mem_append_right _ (List.mem_of_getElem? (i := 338) (by decide +kernel))
  · exact List.mem_append_right _ (List.mem_of_getElem? (i := 343) (by decide +kernel))
  · exact List.mem_append_right _ (List.mem_of_getElem? (i := 345) (by decide +kernel))
  · exact List.mem_append_right _ (List.mem_of_getElem? (i := 346) (by decide +kernel))
  · exact List.mem_append_right _ (List.mem_of_getElem? (i := 358) (by decide +kernel))
  · exact List.mem_append_right _ (List.mem_of_getElem? (i := 369) (by decide +kernel))
  · exact List.mem_append_right _ (List.mem_of_getElem? (i := 380) (by decide +kernel))
  · exact List.mem_append_right _ (List.mem_of_getElem? (i := 401) (by decide +kernel))
  · exact List.mem_append_right _ (List.mem_of_getElem? (i := 409) (by decide +kernel))
  · exact List.mem_append_right _ (List.mem_of_getElem? (i := 420) (by decide +kernel))
  · exact List.mem_append_right _ (List.mem_of_getElem? (i := 431) (by decide +kernel))
  · exact List.mem_append_right _ (List.mem_of_getElem? (i := 436) (by decide +kernel))
theorem nw.warm {s U : State} (hW : s.WarmedH U.vm) (h : nw s) : nw U := by
  intro w hw
  have hs := h w hw
  unfold nb at hw
  simp only [List.mem_cons, List.not_mem_nil, or_false] at hw
  rcases hw with rfl | rfl | rfl | rfl | rfl | rfl | rfl | rfl | rfl | rfl | rfl | rfl | rfl | rfl | rfl | rfl | rfl | rfl | rfl | rfl | rfl | rfl | rfl | rfl | rfl | rfl | rfl | rfl | rfl | rfl | rfl | rfl | rfl | rfl | rfl | rfl | rfl | rfl | rfl | rfl | rfl | rfl | rfl | rfl
  · exact va_Nw.warmM hW hs
  · exact va_Nw.warmM hW hs
  · exact va_Nw.warmF hW hs
  · exact va_Nw.warmF hW hs
  · exact va_Nw.warmF hW hs
  · exact va_Nw.warmF hW hs
  · exact va_Nw.warmF hW hs
  · exact va_Nw.warmF hW hs
  · exact va_Nw.warmM hW hs
  · exact va_Nw.warmF hW hs
  · exact va_Nw.warmF hW hs
  · exact va_Nw.warmF hW hs
  · exact va_Nw.warmF hW hs
  · exact va_Nw.warmF hW hs
  · exact va_Nw.warmF hW hs
  · exact va_Nw.warmM hW hs
  · exact va_Nw.warmF hW hs
  · exact va_Nw.warmM hW hs
  · exact va_Nw.warmM hW hs
  · exact va_Nw.warmM hW hs
  · exact va_Nw.warmM hW hs
  · exact va_Nw.warmM hW hs
  · exact va_Nw.warmM hW hs
  · exact va_Nw.warmM hW hs
  · exact va_Nw.warmM hW hs
  · exact va_Nw.warmM hW hs
  · exact va_Nw.warmM hW hs
  · exact va_Nw.warmM hW hs
  · exact va_Nw.warmM hW hs
  · exact va_Nw.warmM hW hs
  · exact va_Nw.warmM hW hs
  · exact va_Nw.warmM hW hs
  · exact va_Nw.warmM hW hs
  · exact va_Nw.warmM hW hs
  · exact va_Nw.warmM hW hs
  · exact va_Nw.warmM hW hs
  · exact va_Nw.warmM hW hs
  · exact va_Nw.warmM hW hs
  · exact va_Nw.warmM hW hs
  · exact va_Nw.warmM hW hs
  · exact va_Nw.warmM hW hs
  · exact va_Nw.warmM hW hs
  · exact va_Nw.warmM hW hs
  · exact va_Nw.warmM hW hs
theorem nb_tab : ∀ w ∈ nb, w.onTables = true := by decide +kernel
theorem nw.same {u U : State} (h : u.vm = U.vm) (k : nw u) : nw U := fun w hw => (k w hw).same (nb_tab w hw) h
end
section
/-! What each instruction is (written by program). -/
theorem d_X_init_0 : decode b_X_init 0 = .ok (.aload_n 0, 1) := by decide +kernel
theorem d_X_init_1 : decode b_X_init 1 = .ok (.invokespecial 1, 3) := by decide +kernel
theorem d_X_init_4 : decode b_X_init 4 = .ok (.aload_n 0, 1) := by decide +kernel
theorem d_X_init_5 : decode b_X_init 5 = .ok (.new 7, 3) := by decide +kernel
theorem d_X_init_8 : decode b_X_init 8 = .ok (.dup, 1) := by decide +kernel
theorem d_X_init_9 : decode b_X_init 9 = .ok (.invokespecial 9, 3) := by decide +kernel
theorem d_X_init_12 : decode b_X_init 12 = .ok (.putfield 10, 3) := by decide +kernel
theorem d_X_init_15 : decode b_X_init 15 = .ok (.aload_n 0, 1) := by decide +kernel
theorem d_X_init_16 : decode b_X_init 16 = .ok (.new 16, 3) := by decide +kernel
theorem d_X_init_19 : decode b_X_init 19 = .ok (.dup, 1) := by decide +kernel
theorem d_X_init_20 : decode b_X_init 20 = .ok (.invokespecial 18, 3) := by decide +kernel
theorem d_X_init_23 : decode b_X_init 23 = .ok (.putfield 19, 3) := by decide +kernel
theorem d_X_init_26 : decode b_X_init 26 = .ok (.aload_n 0, 1) := by decide +kernel
theorem d_X_init_27 : decode b_X_init 27 = .ok (.new 23, 3) := by decide +kernel
theorem d_X_init_30 : decode b_X_init 30 = .ok (.dup, 1) := by decide +kernel
theorem d_X_init_31 : decode b_X_init 31 = .ok (.invokespecial 25, 3) := by decide +kernel
theorem d_X_init_34 : decode b_X_init 34 = .ok (.putfield 26, 3) := by decide +kernel
theorem d_X_init_37 : decode b_X_init 37 = .ok (.aload_n 0, 1) := by decide +kernel
theorem d_X_init_38 : decode b_X_init 38 = .ok (.bipush 8, 2) := by decide +kernel
theorem d_X_init_40 : decode b_X_init 40 = .ok (.anewarray 23, 3) := by decide +kernel
theorem d_X_init_43 : decode b_X_init 43 = .ok (.putfield 30, 3) := by decide +kernel
theorem d_X_init_46 : decode b_X_init 46 = .ok (.iconst 0, 1) := by decide +kernel
theorem d_X_init_47 : decode b_X_init 47 = .ok (.istore_n 1, 1) := by decide +kernel
theorem d_X_init_48 : decode b_X_init 48 = .ok (.iload_n 1, 1) := by decide +kernel
theorem d_X_init_49 : decode b_X_init 49 = .ok (.bipush 8, 2) := by decide +kernel
theorem d_X_init_51 : decode b_X_init 51 = .ok (.if_icmp .ge 22, 3) := by decide +kernel
theorem d_X_init_54 : decode b_X_init 54 = .ok (.aload_n 0, 1) := by decide +kernel
theorem d_X_init_55 : decode b_X_init 55 = .ok (.getfield 30, 3) := by decide +kernel
theorem d_X_init_58 : decode b_X_init 58 = .ok (.iload_n 1, 1) := by decide +kernel
theorem d_X_init_59 : decode b_X_init 59 = .ok (.new 23, 3) := by decide +kernel
theorem d_X_init_62 : decode b_X_init 62 = .ok (.dup, 1) := by decide +kernel
theorem d_X_init_63 : decode b_X_init 63 = .ok (.invokespecial 25, 3) := by decide +kernel
theorem d_X_init_66 : decode b_X_init 66 = .ok (.aastore, 1) := by decide +kernel
theorem d_X_init_67 : decode b_X_init 67 = .ok (.iinc 1 1, 3) := by decide +kernel
theorem d_X_init_70 : decode b_X_init 70 = .ok (.goto (-22), 3) := by decide +kernel
theorem d_X_init_73 : decode b_X_init 73 = .ok (.aload_n 0, 1) := by decide +kernel
theorem d_X_init_74 : decode b_X_init 74 = .ok (.bipush (-4), 2) := by decide +kernel
theorem d_X_init_76 : decode b_X_init 76 = .ok (.invokevirtual 34, 3) := by decide +kernel
theorem d_X_init_79 : decode b_X_init 79 = .ok (.return_, 1) := by decide +kernel
theorem d_X_take_0 : decode b_X_take 0 = .ok (.iload_n 1, 1) := by decide +kernel
theorem d_X_take_1 : decode b_X_take 1 = .ok (.invokestatic 38, 3) := by decide +kernel
theorem d_X_take_4 : decode b_X_take 4 = .ok (.ifCond .ne 13, 3) := by decide +kernel
theorem d_X_take_7 : decode b_X_take 7 = .ok (.new 42, 3) := by decide +kernel
theorem d_X_take_10 : decode b_X_take 10 = .ok (.dup, 1) := by decide +kernel
theorem d_X_take_11 : decode b_X_take 11 = .ok (.ldc 44, 2) := by decide +kernel
theorem d_X_take_13 : decode b_X_take 13 = .ok (.invokespecial 46, 3) := by decide +kernel
theorem d_X_take_16 : decode b_X_take 16 = .ok (.athrow, 1) := by decide +kernel
theorem d_X_take_17 : decode b_X_take 17 = .ok (.aload_n 0, 1) := by decide +kernel
theorem d_X_take_18 : decode b_X_take 18 = .ok (.iload_n 1, 1) := by decide +kernel
theorem d_X_take_19 : decode b_X_take 19 = .ok (.invokevirtual 34, 3) := by decide +kernel
theorem d_X_take_22 : decode b_X_take 22 = .ok (.return_, 1) := by decide +kernel
theorem d_X_put_0 : decode b_X_put 0 = .ok (.aload_n 0, 1) := by decide +kernel
theorem d_X_put_1 : decode b_X_put 1 = .ok (.iload_n 1, 1) := by decide +kernel
theorem d_X_put_2 : decode b_X_put 2 = .ok (.invokevirtual 49, 3) := by decide +kernel
theorem d_X_put_5 : decode b_X_put 5 = .ok (.astore 5, 2) := by decide +kernel
theorem d_X_put_7 : decode b_X_put 7 = .ok (.aload_n 0, 1) := by decide +kernel
theorem d_X_put_8 : decode b_X_put 8 = .ok (.getfield 10, 3) := by decide +kernel
theorem d_X_put_11 : decode b_X_put 11 = .ok (.iload_n 2, 1) := by decide +kernel
theorem d_X_put_12 : decode b_X_put 12 = .ok (.i2l, 1) := by decide +kernel
theorem d_X_put_13 : decode b_X_put 13 = .ok (.iload_n 3, 1) := by decide +kernel
theorem d_X_put_14 : decode b_X_put 14 = .ok (.i2l, 1) := by decide +kernel
theorem d_X_put_15 : decode b_X_put 15 = .ok (.iload 4, 2) := by decide +kernel
theorem d_X_put_17 : decode b_X_put 17 = .ok (.i2l, 1) := by decide +kernel
theorem d_X_put_18 : decode b_X_put 18 = .ok (.invokevirtual 53, 3) := by decide +kernel
theorem d_X_put_21 : decode b_X_put 21 = .ok (.ifCond .ne 13, 3) := by decide +kernel
theorem d_X_put_24 : decode b_X_put 24 = .ok (.new 42, 3) := by decide +kernel
theorem d_X_put_27 : decode b_X_put 27 = .ok (.dup, 1) := by decide +kernel
theorem d_X_put_28 : decode b_X_put 28 = .ok (.ldc 57, 2) := by decide +kernel
theorem d_X_put_30 : decode b_X_put 30 = .ok (.invokespecial 46, 3) := by decide +kernel
theorem d_X_put_33 : decode b_X_put 33 = .ok (.athrow, 1) := by decide +kernel
theorem d_X_put_34 : decode b_X_put 34 = .ok (.aload_n 0, 1) := by decide +kernel
theorem d_X_put_35 : decode b_X_put 35 = .ok (.getfield 26, 3) := by decide +kernel
theorem d_X_put_38 : decode b_X_put 38 = .ok (.iload_n 2, 1) := by decide +kernel
theorem d_X_put_39 : decode b_X_put 39 = .ok (.i2l, 1) := by decide +kernel
theorem d_X_put_40 : decode b_X_put 40 = .ok (.iload_n 3, 1) := by decide +kernel
theorem d_X_put_41 : decode b_X_put 41 = .ok (.i2l, 1) := by decide +kernel
theorem d_X_put_42 : decode b_X_put 42 = .ok (.iload 4, 2) := by decide +kernel
theorem d_X_put_44 : decode b_X_put 44 = .ok (.i2l, 1) := by decide +kernel
theorem d_X_put_45 : decode b_X_put 45 = .ok (.invokevirtual 59, 3) := by decide +kernel
theorem d_X_put_48 : decode b_X_put 48 = .ok (.aload_n 0, 1) := by decide +kernel
theorem d_X_put_49 : decode b_X_put 49 = .ok (.getfield 10, 3) := by decide +kernel
theorem d_X_put_52 : decode b_X_put 52 = .ok (.aload_n 0, 1) := by decide +kernel
theorem d_X_put_53 : decode b_X_put 53 = .ok (.getfield 26, 3) := by decide +kernel
theorem d_X_put_56 : decode b_X_put 56 = .ok (.invokevirtual 63, 3) := by decide +kernel
theorem d_X_put_59 : decode b_X_put 59 = .ok (.aload_n 0, 1) := by decide +kernel
theorem d_X_put_60 : decode b_X_put 60 = .ok (.aload 5, 2) := by decide +kernel
theorem d_X_put_62 : decode b_X_put 62 = .ok (.invokevirtual 67, 3) := by decide +kernel
theorem d_X_put_65 : decode b_X_put 65 = .ok (.return_, 1) := by decide +kernel
theorem d_X_compose_0 : decode b_X_compose 0 = .ok (.aload_n 0, 1) := by decide +kernel
theorem d_X_compose_1 : decode b_X_compose 1 = .ok (.iload_n 1, 1) := by decide +kernel
theorem d_X_compose_2 : decode b_X_compose 2 = .ok (.invokevirtual 49, 3) := by decide +kernel
theorem d_X_compose_5 : decode b_X_compose 5 = .ok (.astore 4, 2) := by decide +kernel
theorem d_X_compose_7 : decode b_X_compose 7 = .ok (.aload_n 0, 1) := by decide +kernel
theorem d_X_compose_8 : decode b_X_compose 8 = .ok (.iload_n 2, 1) := by decide +kernel
theorem d_X_compose_9 : decode b_X_compose 9 = .ok (.invokevirtual 49, 3) := by decide +kernel
theorem d_X_compose_12 : decode b_X_compose 12 = .ok (.astore 5, 2) := by decide +kernel
theorem d_X_compose_14 : decode b_X_compose 14 = .ok (.aload_n 0, 1) := by decide +kernel
theorem d_X_compose_15 : decode b_X_compose 15 = .ok (.iload_n 3, 1) := by decide +kernel
theorem d_X_compose_16 : decode b_X_compose 16 = .ok (.invokevirtual 49, 3) := by decide +kernel
theorem d_X_compose_19 : decode b_X_compose 19 = .ok (.astore 6, 2) := by decide +kernel
theorem d_X_compose_21 : decode b_X_compose 21 = .ok (.aload_n 0, 1) := by decide +kernel
theorem d_X_compose_22 : decode b_X_compose 22 = .ok (.getfield 26, 3) := by decide +kernel
theorem d_X_compose_25 : decode b_X_compose 25 = .ok (.aload 5, 2) := by decide +kernel
theorem d_X_compose_27 : decode b_X_compose 27 = .ok (.invokevirtual 70, 3) := by decide +kernel
theorem d_X_compose_30 : decode b_X_compose 30 = .ok (.aload_n 0, 1) := by decide +kernel
theorem d_X_compose_31 : decode b_X_compose 31 = .ok (.getfield 10, 3) := by decide +kernel
theorem d_X_compose_34 : decode b_X_compose 34 = .ok (.aload_n 0, 1) := by decide +kernel
theorem d_X_compose_35 : decode b_X_compose 35 = .ok (.getfield 26, 3) := by decide +kernel
theorem d_X_compose_38 : decode b_X_compose 38 = .ok (.aload 6, 2) := by decide +kernel
theorem d_X_compose_40 : decode b_X_compose 40 = .ok (.invokevirtual 73, 3) := by decide +kernel
theorem d_X_compose_43 : decode b_X_compose 43 = .ok (.aload_n 0, 1) := by decide +kernel
theorem d_X_compose_44 : decode b_X_compose 44 = .ok (.aload 4, 2) := by decide +kernel
theorem d_X_compose_46 : decode b_X_compose 46 = .ok (.invokevirtual 67, 3) := by decide +kernel
theorem d_X_compose_49 : decode b_X_compose 49 = .ok (.return_, 1) := by decide +kernel
theorem d_X_invert_0 : decode b_X_invert 0 = .ok (.aload_n 0, 1) := by decide +kernel
theorem d_X_invert_1 : decode b_X_invert 1 = .ok (.iload_n 1, 1) := by decide +kernel
theorem d_X_invert_2 : decode b_X_invert 2 = .ok (.invokevirtual 49, 3) := by decide +kernel
theorem d_X_invert_5 : decode b_X_invert 5 = .ok (.astore_n 3, 1) := by decide +kernel
theorem d_X_invert_6 : decode b_X_invert 6 = .ok (.aload_n 0, 1) := by decide +kernel
theorem d_X_invert_7 : decode b_X_invert 7 = .ok (.getfield 26, 3) := by decide +kernel
theorem d_X_invert_10 : decode b_X_invert 10 = .ok (.aload_n 0, 1) := by decide +kernel
theorem d_X_invert_11 : decode b_X_invert 11 = .ok (.iload_n 2, 1) := by decide +kernel
theorem d_X_invert_12 : decode b_X_invert 12 = .ok (.invokevirtual 49, 3) := by decide +kernel
theorem d_X_invert_15 : decode b_X_invert 15 = .ok (.invokevirtual 70, 3) := by decide +kernel
theorem d_X_invert_18 : decode b_X_invert 18 = .ok (.aload_n 0, 1) := by decide +kernel
theorem d_X_invert_19 : decode b_X_invert 19 = .ok (.getfield 10, 3) := by decide +kernel
theorem d_X_invert_22 : decode b_X_invert 22 = .ok (.aload_n 0, 1) := by decide +kernel
theorem d_X_invert_23 : decode b_X_invert 23 = .ok (.getfield 26, 3) := by decide +kernel
theorem d_X_invert_26 : decode b_X_invert 26 = .ok (.invokevirtual 77, 3) := by decide +kernel
theorem d_X_invert_29 : decode b_X_invert 29 = .ok (.aload_n 0, 1) := by decide +kernel
theorem d_X_invert_30 : decode b_X_invert 30 = .ok (.aload_n 3, 1) := by decide +kernel
theorem d_X_invert_31 : decode b_X_invert 31 = .ok (.invokevirtual 67, 3) := by decide +kernel
theorem d_X_invert_34 : decode b_X_invert 34 = .ok (.return_, 1) := by decide +kernel
theorem d_X_power_0 : decode b_X_power 0 = .ok (.aload_n 0, 1) := by decide +kernel
theorem d_X_power_1 : decode b_X_power 1 = .ok (.iload_n 1, 1) := by decide +kernel
theorem d_X_power_2 : decode b_X_power 2 = .ok (.invokevirtual 49, 3) := by decide +kernel
theorem d_X_power_5 : decode b_X_power 5 = .ok (.astore 5, 2) := by decide +kernel
theorem d_X_power_7 : decode b_X_power 7 = .ok (.aload_n 0, 1) := by decide +kernel
theorem d_X_power_8 : decode b_X_power 8 = .ok (.getfield 26, 3) := by decide +kernel
theorem d_X_power_11 : decode b_X_power 11 = .ok (.aload_n 0, 1) := by decide +kernel
theorem d_X_power_12 : decode b_X_power 12 = .ok (.iload_n 2, 1) := by decide +kernel
theorem d_X_power_13 : decode b_X_power 13 = .ok (.invokevirtual 49, 3) := by decide +kernel
theorem d_X_power_16 : decode b_X_power 16 = .ok (.invokevirtual 70, 3) := by decide +kernel
theorem d_X_power_19 : decode b_X_power 19 = .ok (.aload_n 0, 1) := by decide +kernel
theorem d_X_power_20 : decode b_X_power 20 = .ok (.getfield 10, 3) := by decide +kernel
theorem d_X_power_23 : decode b_X_power 23 = .ok (.aload_n 0, 1) := by decide +kernel
theorem d_X_power_24 : decode b_X_power 24 = .ok (.getfield 26, 3) := by decide +kernel
theorem d_X_power_27 : decode b_X_power 27 = .ok (.lload_n 3, 1) := by decide +kernel
theorem d_X_power_28 : decode b_X_power 28 = .ok (.invokevirtual 80, 3) := by decide +kernel
theorem d_X_power_31 : decode b_X_power 31 = .ok (.aload_n 0, 1) := by decide +kernel
theorem d_X_power_32 : decode b_X_power 32 = .ok (.aload 5, 2) := by decide +kernel
theorem d_X_power_34 : decode b_X_power 34 = .ok (.invokevirtual 67, 3) := by decide +kernel
theorem d_X_power_37 : decode b_X_power 37 = .ok (.return_, 1) := by decide +kernel
theorem d_X_form_0 : decode b_X_form 0 = .ok (.aload_n 0, 1) := by decide +kernel
theorem d_X_form_1 : decode b_X_form 1 = .ok (.iload_n 1, 1) := by decide +kernel
theorem d_X_form_2 : decode b_X_form 2 = .ok (.invokevirtual 49, 3) := by decide +kernel
theorem d_X_form_5 : decode b_X_form 5 = .ok (.astore_n 3, 1) := by decide +kernel
theorem d_X_form_6 : decode b_X_form 6 = .ok (.iload_n 2, 1) := by decide +kernel
theorem d_X_form_7 : decode b_X_form 7 = .ok (.tableswitch 43 0 2 #[25, 31, 37], 25) := by decide +kernel
theorem d_X_form_32 : decode b_X_form 32 = .ok (.aload_n 3, 1) := by decide +kernel
theorem d_X_form_33 : decode b_X_form 33 = .ok (.getfield 84, 3) := by decide +kernel
theorem d_X_form_36 : decode b_X_form 36 = .ok (.l2i, 1) := by decide +kernel
theorem d_X_form_37 : decode b_X_form 37 = .ok (.ireturn, 1) := by decide +kernel
theorem d_X_form_38 : decode b_X_form 38 = .ok (.aload_n 3, 1) := by decide +kernel
theorem d_X_form_39 : decode b_X_form 39 = .ok (.getfield 88, 3) := by decide +kernel
theorem d_X_form_42 : decode b_X_form 42 = .ok (.l2i, 1) := by decide +kernel
theorem d_X_form_43 : decode b_X_form 43 = .ok (.ireturn, 1) := by decide +kernel
theorem d_X_form_44 : decode b_X_form 44 = .ok (.aload_n 3, 1) := by decide +kernel
theorem d_X_form_45 : decode b_X_form 45 = .ok (.getfield 91, 3) := by decide +kernel
theorem d_X_form_48 : decode b_X_form 48 = .ok (.l2i, 1) := by decide +kernel
theorem d_X_form_49 : decode b_X_form 49 = .ok (.ireturn, 1) := by decide +kernel
theorem d_X_form_50 : decode b_X_form 50 = .ok (.new 94, 3) := by decide +kernel
theorem d_X_form_53 : decode b_X_form 53 = .ok (.dup, 1) := by decide +kernel
theorem d_X_form_54 : decode b_X_form 54 = .ok (.ldc 96, 2) := by decide +kernel
theorem d_X_form_56 : decode b_X_form 56 = .ok (.invokespecial 98, 3) := by decide +kernel
theorem d_X_form_59 : decode b_X_form 59 = .ok (.athrow, 1) := by decide +kernel
theorem d_X_same_0 : decode b_X_same 0 = .ok (.aload_n 0, 1) := by decide +kernel
theorem d_X_same_1 : decode b_X_same 1 = .ok (.iload_n 1, 1) := by decide +kernel
theorem d_X_same_2 : decode b_X_same 2 = .ok (.invokevirtual 49, 3) := by decide +kernel
theorem d_X_same_5 : decode b_X_same 5 = .ok (.astore_n 3, 1) := by decide +kernel
theorem d_X_same_6 : decode b_X_same 6 = .ok (.aload_n 3, 1) := by decide +kernel
theorem d_X_same_7 : decode b_X_same 7 = .ok (.aload_n 0, 1) := by decide +kernel
theorem d_X_same_8 : decode b_X_same 8 = .ok (.iload_n 2, 1) := by decide +kernel
theorem d_X_same_9 : decode b_X_same 9 = .ok (.invokevirtual 49, 3) := by decide +kernel
theorem d_X_same_12 : decode b_X_same 12 = .ok (.invokevirtual 99, 3) := by decide +kernel
theorem d_X_same_15 : decode b_X_same 15 = .ok (.ireturn, 1) := by decide +kernel
theorem d_X_order_0 : decode b_X_order 0 = .ok (.aload_n 0, 1) := by decide +kernel
theorem d_X_order_1 : decode b_X_order 1 = .ok (.getfield 10, 3) := by decide +kernel
theorem d_X_order_4 : decode b_X_order 4 = .ok (.aload_n 0, 1) := by decide +kernel
theorem d_X_order_5 : decode b_X_order 5 = .ok (.iload_n 1, 1) := by decide +kernel
theorem d_X_order_6 : decode b_X_order 6 = .ok (.invokevirtual 49, 3) := by decide +kernel
theorem d_X_order_9 : decode b_X_order 9 = .ok (.invokevirtual 103, 3) := by decide +kernel
theorem d_X_order_12 : decode b_X_order 12 = .ok (.ireturn, 1) := by decide +kernel
theorem d_X_exponent_0 : decode b_X_exponent 0 = .ok (.aload_n 0, 1) := by decide +kernel
theorem d_X_exponent_1 : decode b_X_exponent 1 = .ok (.iload_n 1, 1) := by decide +kernel
theorem d_X_exponent_2 : decode b_X_exponent 2 = .ok (.invokevirtual 49, 3) := by decide +kernel
theorem d_X_exponent_5 : decode b_X_exponent 5 = .ok (.astore_n 3, 1) := by decide +kernel
theorem d_X_exponent_6 : decode b_X_exponent 6 = .ok (.aload_n 0, 1) := by decide +kernel
theorem d_X_exponent_7 : decode b_X_exponent 7 = .ok (.getfield 10, 3) := by decide +kernel
theorem d_X_exponent_10 : decode b_X_exponent 10 = .ok (.aload_n 3, 1) := by decide +kernel
theorem d_X_exponent_11 : decode b_X_exponent 11 = .ok (.aload_n 0, 1) := by decide +kernel
theorem d_X_exponent_12 : decode b_X_exponent 12 = .ok (.iload_n 2, 1) := by decide +kernel
theorem d_X_exponent_13 : decode b_X_exponent 13 = .ok (.invokevirtual 49, 3) := by decide +kernel
theorem d_X_exponent_16 : decode b_X_exponent 16 = .ok (.invokevirtual 107, 3) := by decide +kernel
theorem d_X_exponent_19 : decode b_X_exponent 19 = .ok (.ireturn, 1) := by decide +kernel
theorem d_X_count_0 : decode b_X_count 0 = .ok (.iload_n 1, 1) := by decide +kernel
theorem d_X_count_1 : decode b_X_count 1 = .ok (.tableswitch 80 0 3 #[31, 39, 47, 55], 31) := by decide +kernel
theorem d_X_count_32 : decode b_X_count 32 = .ok (.aload_n 0, 1) := by decide +kernel
theorem d_X_count_33 : decode b_X_count 33 = .ok (.getfield 10, 3) := by decide +kernel
theorem d_X_count_36 : decode b_X_count 36 = .ok (.getfield 111, 3) := by decide +kernel
theorem d_X_count_39 : decode b_X_count 39 = .ok (.ireturn, 1) := by decide +kernel
theorem d_X_count_40 : decode b_X_count 40 = .ok (.aload_n 0, 1) := by decide +kernel
theorem d_X_count_41 : decode b_X_count 41 = .ok (.getfield 10, 3) := by decide +kernel
theorem d_X_count_44 : decode b_X_count 44 = .ok (.getfield 115, 3) := by decide +kernel
theorem d_X_count_47 : decode b_X_count 47 = .ok (.ireturn, 1) := by decide +kernel
theorem d_X_count_48 : decode b_X_count 48 = .ok (.aload_n 0, 1) := by decide +kernel
theorem d_X_count_49 : decode b_X_count 49 = .ok (.getfield 19, 3) := by decide +kernel
theorem d_X_count_52 : decode b_X_count 52 = .ok (.getfield 118, 3) := by decide +kernel
theorem d_X_count_55 : decode b_X_count 55 = .ok (.ireturn, 1) := by decide +kernel
theorem d_X_count_56 : decode b_X_count 56 = .ok (.aload_n 0, 1) := by decide +kernel
theorem d_X_count_57 : decode b_X_count 57 = .ok (.getfield 26, 3) := by decide +kernel
theorem d_X_count_60 : decode b_X_count 60 = .ok (.aload_n 0, 1) := by decide +kernel
theorem d_X_count_61 : decode b_X_count 61 = .ok (.getfield 30, 3) := by decide +kernel
theorem d_X_count_64 : decode b_X_count 64 = .ok (.iconst 0, 1) := by decide +kernel
theorem d_X_count_65 : decode b_X_count 65 = .ok (.aaload, 1) := by decide +kernel
theorem d_X_count_66 : decode b_X_count 66 = .ok (.invokevirtual 70, 3) := by decide +kernel
theorem d_X_count_69 : decode b_X_count 69 = .ok (.aload_n 0, 1) := by decide +kernel
theorem d_X_count_70 : decode b_X_count 70 = .ok (.getfield 10, 3) := by decide +kernel
theorem d_X_count_73 : decode b_X_count 73 = .ok (.aload_n 0, 1) := by decide +kernel
theorem d_X_count_74 : decode b_X_count 74 = .ok (.getfield 26, 3) := by decide +kernel
theorem d_X_count_77 : decode b_X_count 77 = .ok (.invokevirtual 121, 3) := by decide +kernel
theorem d_X_count_80 : decode b_X_count 80 = .ok (.ireturn, 1) := by decide +kernel
theorem d_X_count_81 : decode b_X_count 81 = .ok (.iconst (-1), 1) := by decide +kernel
theorem d_X_count_82 : decode b_X_count 82 = .ok (.ireturn, 1) := by decide +kernel
theorem d_X_prime_0 : decode b_X_prime 0 = .ok (.aload_n 0, 1) := by decide +kernel
theorem d_X_prime_1 : decode b_X_prime 1 = .ok (.getfield 19, 3) := by decide +kernel
theorem d_X_prime_4 : decode b_X_prime 4 = .ok (.iload_n 1, 1) := by decide +kernel
theorem d_X_prime_5 : decode b_X_prime 5 = .ok (.invokevirtual 124, 3) := by decide +kernel
theorem d_X_prime_8 : decode b_X_prime 8 = .ok (.ifCond .ne 13, 3) := by decide +kernel
theorem d_X_prime_11 : decode b_X_prime 11 = .ok (.new 94, 3) := by decide +kernel
theorem d_X_prime_14 : decode b_X_prime 14 = .ok (.dup, 1) := by decide +kernel
theorem d_X_prime_15 : decode b_X_prime 15 = .ok (.ldc 127, 2) := by decide +kernel
theorem d_X_prime_17 : decode b_X_prime 17 = .ok (.invokespecial 98, 3) := by decide +kernel
theorem d_X_prime_20 : decode b_X_prime 20 = .ok (.athrow, 1) := by decide +kernel
theorem d_X_prime_21 : decode b_X_prime 21 = .ok (.aload_n 0, 1) := by decide +kernel
theorem d_X_prime_22 : decode b_X_prime 22 = .ok (.getfield 19, 3) := by decide +kernel
theorem d_X_prime_25 : decode b_X_prime 25 = .ok (.iload_n 1, 1) := by decide +kernel
theorem d_X_prime_26 : decode b_X_prime 26 = .ok (.invokevirtual 129, 3) := by decide +kernel
theorem d_X_prime_29 : decode b_X_prime 29 = .ok (.ireturn, 1) := by decide +kernel
theorem d_X_character_0 : decode b_X_character 0 = .ok (.aload_n 0, 1) := by decide +kernel
theorem d_X_character_1 : decode b_X_character 1 = .ok (.iload_n 1, 1) := by decide +kernel
theorem d_X_character_2 : decode b_X_character 2 = .ok (.invokevirtual 49, 3) := by decide +kernel
theorem d_X_character_5 : decode b_X_character 5 = .ok (.astore_n 3, 1) := by decide +kernel
theorem d_X_character_6 : decode b_X_character 6 = .ok (.aload_n 0, 1) := by decide +kernel
theorem d_X_character_7 : decode b_X_character 7 = .ok (.getfield 19, 3) := by decide +kernel
theorem d_X_character_10 : decode b_X_character 10 = .ok (.iload_n 2, 1) := by decide +kernel
theorem d_X_character_11 : decode b_X_character 11 = .ok (.invokevirtual 124, 3) := by decide +kernel
theorem d_X_character_14 : decode b_X_character 14 = .ok (.ifCond .ne 13, 3) := by decide +kernel
theorem d_X_character_17 : decode b_X_character 17 = .ok (.new 94, 3) := by decide +kernel
theorem d_X_character_20 : decode b_X_character 20 = .ok (.dup, 1) := by decide +kernel
theorem d_X_character_21 : decode b_X_character 21 = .ok (.ldc 127, 2) := by decide +kernel
theorem d_X_character_23 : decode b_X_character 23 = .ok (.invokespecial 98, 3) := by decide +kernel
theorem d_X_character_26 : decode b_X_character 26 = .ok (.athrow, 1) := by decide +kernel
theorem d_X_character_27 : decode b_X_character 27 = .ok (.aload_n 0, 1) := by decide +kernel
theorem d_X_character_28 : decode b_X_character 28 = .ok (.getfield 19, 3) := by decide +kernel
theorem d_X_character_31 : decode b_X_character 31 = .ok (.iload_n 2, 1) := by decide +kernel
theorem d_X_character_32 : decode b_X_character 32 = .ok (.invokevirtual 129, 3) := by decide +kernel
theorem d_X_character_35 : decode b_X_character 35 = .ok (.istore 4, 2) := by decide +kernel
theorem d_X_character_37 : decode b_X_character 37 = .ok (.aload_n 3, 1) := by decide +kernel
theorem d_X_character_38 : decode b_X_character 38 = .ok (.getfield 84, 3) := by decide +kernel
theorem d_X_character_41 : decode b_X_character 41 = .ok (.iload 4, 2) := by decide +kernel
theorem d_X_character_43 : decode b_X_character 43 = .ok (.i2l, 1) := by decide +kernel
theorem d_X_character_44 : decode b_X_character 44 = .ok (.invokestatic 133, 3) := by decide +kernel
theorem d_X_character_47 : decode b_X_character 47 = .ok (.lconst 0, 1) := by decide +kernel
theorem d_X_character_48 : decode b_X_character 48 = .ok (.lcmp, 1) := by decide +kernel
theorem d_X_character_49 : decode b_X_character 49 = .ok (.ifCond .eq 10, 3) := by decide +kernel
theorem d_X_character_52 : decode b_X_character 52 = .ok (.aload_n 3, 1) := by decide +kernel
theorem d_X_character_53 : decode b_X_character 53 = .ok (.getfield 84, 3) := by decide +kernel
theorem d_X_character_56 : decode b_X_character 56 = .ok (.goto 7, 3) := by decide +kernel
theorem d_X_character_59 : decode b_X_character 59 = .ok (.aload_n 3, 1) := by decide +kernel
theorem d_X_character_60 : decode b_X_character 60 = .ok (.getfield 91, 3) := by decide +kernel
theorem d_X_character_63 : decode b_X_character 63 = .ok (.lstore 5, 2) := by decide +kernel
theorem d_X_character_65 : decode b_X_character 65 = .ok (.lload 5, 2) := by decide +kernel
theorem d_X_character_67 : decode b_X_character 67 = .ok (.iload 4, 2) := by decide +kernel
theorem d_X_character_69 : decode b_X_character 69 = .ok (.invokestatic 137, 3) := by decide +kernel
theorem d_X_character_72 : decode b_X_character 72 = .ok (.ifCond .eq 7, 3) := by decide +kernel
theorem d_X_character_75 : decode b_X_character 75 = .ok (.iconst 1, 1) := by decide +kernel
theorem d_X_character_76 : decode b_X_character 76 = .ok (.goto 4, 3) := by decide +kernel
theorem d_X_character_79 : decode b_X_character 79 = .ok (.iconst (-1), 1) := by decide +kernel
theorem d_X_character_80 : decode b_X_character 80 = .ok (.ireturn, 1) := by decide +kernel
theorem d_X_begin_0 : decode b_X_begin 0 = .ok (.aload_n 0, 1) := by decide +kernel
theorem d_X_begin_1 : decode b_X_begin 1 = .ok (.getfield 10, 3) := by decide +kernel
theorem d_X_begin_4 : decode b_X_begin 4 = .ok (.iload_n 1, 1) := by decide +kernel
theorem d_X_begin_5 : decode b_X_begin 5 = .ok (.invokevirtual 141, 3) := by decide +kernel
theorem d_X_begin_8 : decode b_X_begin 8 = .ok (.aload_n 0, 1) := by decide +kernel
theorem d_X_begin_9 : decode b_X_begin 9 = .ok (.getfield 19, 3) := by decide +kernel
theorem d_X_begin_12 : decode b_X_begin 12 = .ok (.iload_n 1, 1) := by decide +kernel
theorem d_X_begin_13 : decode b_X_begin 13 = .ok (.invokevirtual 144, 3) := by decide +kernel
theorem d_X_begin_16 : decode b_X_begin 16 = .ok (.iconst 0, 1) := by decide +kernel
theorem d_X_begin_17 : decode b_X_begin 17 = .ok (.istore_n 2, 1) := by decide +kernel
theorem d_X_begin_18 : decode b_X_begin 18 = .ok (.iload_n 2, 1) := by decide +kernel
theorem d_X_begin_19 : decode b_X_begin 19 = .ok (.bipush 8, 2) := by decide +kernel
theorem d_X_begin_21 : decode b_X_begin 21 = .ok (.if_icmp .ge 25, 3) := by decide +kernel
theorem d_X_begin_24 : decode b_X_begin 24 = .ok (.aload_n 0, 1) := by decide +kernel
theorem d_X_begin_25 : decode b_X_begin 25 = .ok (.getfield 30, 3) := by decide +kernel
theorem d_X_begin_28 : decode b_X_begin 28 = .ok (.iload_n 2, 1) := by decide +kernel
theorem d_X_begin_29 : decode b_X_begin 29 = .ok (.aaload, 1) := by decide +kernel
theorem d_X_begin_30 : decode b_X_begin 30 = .ok (.aload_n 0, 1) := by decide +kernel
theorem d_X_begin_31 : decode b_X_begin 31 = .ok (.getfield 10, 3) := by decide +kernel
theorem d_X_begin_34 : decode b_X_begin 34 = .ok (.getfield 147, 3) := by decide +kernel
theorem d_X_begin_37 : decode b_X_begin 37 = .ok (.invokevirtual 70, 3) := by decide +kernel
theorem d_X_begin_40 : decode b_X_begin 40 = .ok (.iinc 2 1, 3) := by decide +kernel
theorem d_X_begin_43 : decode b_X_begin 43 = .ok (.goto (-25), 3) := by decide +kernel
theorem d_X_begin_46 : decode b_X_begin 46 = .ok (.return_, 1) := by decide +kernel
theorem d_X_held_0 : decode b_X_held 0 = .ok (.iload_n 1, 1) := by decide +kernel
theorem d_X_held_1 : decode b_X_held 1 = .ok (.ifCond .lt 9, 3) := by decide +kernel
theorem d_X_held_4 : decode b_X_held 4 = .ok (.iload_n 1, 1) := by decide +kernel
theorem d_X_held_5 : decode b_X_held 5 = .ok (.bipush 8, 2) := by decide +kernel
theorem d_X_held_7 : decode b_X_held 7 = .ok (.if_icmp .lt 13, 3) := by decide +kernel
theorem d_X_held_10 : decode b_X_held 10 = .ok (.new 94, 3) := by decide +kernel
theorem d_X_held_13 : decode b_X_held 13 = .ok (.dup, 1) := by decide +kernel
theorem d_X_held_14 : decode b_X_held 14 = .ok (.ldc 150, 2) := by decide +kernel
theorem d_X_held_16 : decode b_X_held 16 = .ok (.invokespecial 98, 3) := by decide +kernel
theorem d_X_held_19 : decode b_X_held 19 = .ok (.athrow, 1) := by decide +kernel
theorem d_X_held_20 : decode b_X_held 20 = .ok (.aload_n 0, 1) := by decide +kernel
theorem d_X_held_21 : decode b_X_held 21 = .ok (.getfield 30, 3) := by decide +kernel
theorem d_X_held_24 : decode b_X_held 24 = .ok (.iload_n 1, 1) := by decide +kernel
theorem d_X_held_25 : decode b_X_held 25 = .ok (.aaload, 1) := by decide +kernel
theorem d_X_held_26 : decode b_X_held 26 = .ok (.areturn, 1) := by decide +kernel
theorem d_X_storeName_0 : decode b_X_storeName 0 = .ok (.aload_n 0, 1) := by decide +kernel
theorem d_X_storeName_1 : decode b_X_storeName 1 = .ok (.getfield 10, 3) := by decide +kernel
theorem d_X_storeName_4 : decode b_X_storeName 4 = .ok (.aload_n 0, 1) := by decide +kernel
theorem d_X_storeName_5 : decode b_X_storeName 5 = .ok (.getfield 26, 3) := by decide +kernel
theorem d_X_storeName_8 : decode b_X_storeName 8 = .ok (.invokevirtual 121, 3) := by decide +kernel
theorem d_X_storeName_11 : decode b_X_storeName 11 = .ok (.pop, 1) := by decide +kernel
theorem d_X_storeName_12 : decode b_X_storeName 12 = .ok (.aload_n 1, 1) := by decide +kernel
theorem d_X_storeName_13 : decode b_X_storeName 13 = .ok (.aload_n 0, 1) := by decide +kernel
theorem d_X_storeName_14 : decode b_X_storeName 14 = .ok (.getfield 26, 3) := by decide +kernel
theorem d_X_storeName_17 : decode b_X_storeName 17 = .ok (.invokevirtual 70, 3) := by decide +kernel
theorem d_X_storeName_20 : decode b_X_storeName 20 = .ok (.return_, 1) := by decide +kernel
theorem d_X_isDiscriminant_0 : decode b_X_isDiscriminant 0 = .ok (.iload_n 0, 1) := by decide +kernel
theorem d_X_isDiscriminant_1 : decode b_X_isDiscriminant 1 = .ok (.ldc 152, 2) := by decide +kernel
theorem d_X_isDiscriminant_3 : decode b_X_isDiscriminant 3 = .ok (.if_icmp .lt 18, 3) := by decide +kernel
theorem d_X_isDiscriminant_6 : decode b_X_isDiscriminant 6 = .ok (.iload_n 0, 1) := by decide +kernel
theorem d_X_isDiscriminant_7 : decode b_X_isDiscriminant 7 = .ok (.ldc 153, 2) := by decide +kernel
theorem d_X_isDiscriminant_9 : decode b_X_isDiscriminant 9 = .ok (.if_icmp .gt 12, 3) := by decide +kernel
theorem d_X_isDiscriminant_12 : decode b_X_isDiscriminant 12 = .ok (.iload_n 0, 1) := by decide +kernel
theorem d_X_isDiscriminant_13 : decode b_X_isDiscriminant 13 = .ok (.iconst 4, 1) := by decide +kernel
theorem d_X_isDiscriminant_14 : decode b_X_isDiscriminant 14 = .ok (.invokestatic 154, 3) := by decide +kernel
theorem d_X_isDiscriminant_17 : decode b_X_isDiscriminant 17 = .ok (.iconst 1, 1) := by decide +kernel
theorem d_X_isDiscriminant_18 : decode b_X_isDiscriminant 18 = .ok (.if_icmp .le 5, 3) := by decide +kernel
theorem d_X_isDiscriminant_21 : decode b_X_isDiscriminant 21 = .ok (.iconst 0, 1) := by decide +kernel
theorem d_X_isDiscriminant_22 : decode b_X_isDiscriminant 22 = .ok (.ireturn, 1) := by decide +kernel
theorem d_X_isDiscriminant_23 : decode b_X_isDiscriminant 23 = .ok (.iload_n 0, 1) := by decide +kernel
theorem d_X_isDiscriminant_24 : decode b_X_isDiscriminant 24 = .ok (.invokestatic 160, 3) := by decide +kernel
theorem d_X_isDiscriminant_27 : decode b_X_isDiscriminant 27 = .ok (.istore_n 1, 1) := by decide +kernel
theorem d_X_isDiscriminant_28 : decode b_X_isDiscriminant 28 = .ok (.iload_n 1, 1) := by decide +kernel
theorem d_X_isDiscriminant_29 : decode b_X_isDiscriminant 29 = .ok (.ifCond .lt 10, 3) := by decide +kernel
theorem d_X_isDiscriminant_32 : decode b_X_isDiscriminant 32 = .ok (.iload_n 1, 1) := by decide +kernel
theorem d_X_isDiscriminant_33 : decode b_X_isDiscriminant 33 = .ok (.iload_n 1, 1) := by decide +kernel
theorem d_X_isDiscriminant_34 : decode b_X_isDiscriminant 34 = .ok (.imul, 1) := by decide +kernel
theorem d_X_isDiscriminant_35 : decode b_X_isDiscriminant 35 = .ok (.iload_n 0, 1) := by decide +kernel
theorem d_X_isDiscriminant_36 : decode b_X_isDiscriminant 36 = .ok (.if_icmp .eq 7, 3) := by decide +kernel
theorem d_X_isDiscriminant_39 : decode b_X_isDiscriminant 39 = .ok (.iconst 1, 1) := by decide +kernel
theorem d_X_isDiscriminant_40 : decode b_X_isDiscriminant 40 = .ok (.goto 4, 3) := by decide +kernel
theorem d_X_isDiscriminant_43 : decode b_X_isDiscriminant 43 = .ok (.iconst 0, 1) := by decide +kernel
theorem d_X_isDiscriminant_44 : decode b_X_isDiscriminant 44 = .ok (.ireturn, 1) := by decide +kernel
theorem d_X_wholeRoot_0 : decode b_X_wholeRoot 0 = .ok (.iload_n 0, 1) := by decide +kernel
theorem d_X_wholeRoot_1 : decode b_X_wholeRoot 1 = .ok (.ifCond .ge 5, 3) := by decide +kernel
theorem d_X_wholeRoot_4 : decode b_X_wholeRoot 4 = .ok (.iconst (-1), 1) := by decide +kernel
theorem d_X_wholeRoot_5 : decode b_X_wholeRoot 5 = .ok (.ireturn, 1) := by decide +kernel
theorem d_X_wholeRoot_6 : decode b_X_wholeRoot 6 = .ok (.iconst 0, 1) := by decide +kernel
theorem d_X_wholeRoot_7 : decode b_X_wholeRoot 7 = .ok (.istore_n 1, 1) := by decide +kernel
theorem d_X_wholeRoot_8 : decode b_X_wholeRoot 8 = .ok (.iload_n 1, 1) := by decide +kernel
theorem d_X_wholeRoot_9 : decode b_X_wholeRoot 9 = .ok (.sipush 1024, 3) := by decide +kernel
theorem d_X_wholeRoot_12 : decode b_X_wholeRoot 12 = .ok (.if_icmp .ge 20, 3) := by decide +kernel
theorem d_X_wholeRoot_15 : decode b_X_wholeRoot 15 = .ok (.iload_n 1, 1) := by decide +kernel
theorem d_X_wholeRoot_16 : decode b_X_wholeRoot 16 = .ok (.iconst 1, 1) := by decide +kernel
theorem d_X_wholeRoot_17 : decode b_X_wholeRoot 17 = .ok (.iadd, 1) := by decide +kernel
theorem d_X_wholeRoot_18 : decode b_X_wholeRoot 18 = .ok (.iload_n 1, 1) := by decide +kernel
theorem d_X_wholeRoot_19 : decode b_X_wholeRoot 19 = .ok (.iconst 1, 1) := by decide +kernel
theorem d_X_wholeRoot_20 : decode b_X_wholeRoot 20 = .ok (.iadd, 1) := by decide +kernel
theorem d_X_wholeRoot_21 : decode b_X_wholeRoot 21 = .ok (.imul, 1) := by decide +kernel
theorem d_X_wholeRoot_22 : decode b_X_wholeRoot 22 = .ok (.iload_n 0, 1) := by decide +kernel
theorem d_X_wholeRoot_23 : decode b_X_wholeRoot 23 = .ok (.if_icmp .gt 9, 3) := by decide +kernel
theorem d_X_wholeRoot_26 : decode b_X_wholeRoot 26 = .ok (.iinc 1 1, 3) := by decide +kernel
theorem d_X_wholeRoot_29 : decode b_X_wholeRoot 29 = .ok (.goto (-21), 3) := by decide +kernel
theorem d_X_wholeRoot_32 : decode b_X_wholeRoot 32 = .ok (.iload_n 1, 1) := by decide +kernel
theorem d_X_wholeRoot_33 : decode b_X_wholeRoot 33 = .ok (.ireturn, 1) := by decide +kernel
theorem d_X_isLikeSquare_0 : decode b_X_isLikeSquare 0 = .ok (.lload_n 0, 1) := by decide +kernel
theorem d_X_isLikeSquare_1 : decode b_X_isLikeSquare 1 = .ok (.iload_n 2, 1) := by decide +kernel
theorem d_X_isLikeSquare_2 : decode b_X_isLikeSquare 2 = .ok (.i2l, 1) := by decide +kernel
theorem d_X_isLikeSquare_3 : decode b_X_isLikeSquare 3 = .ok (.invokestatic 133, 3) := by decide +kernel
theorem d_X_isLikeSquare_6 : decode b_X_isLikeSquare 6 = .ok (.lstore_n 3, 1) := by decide +kernel
theorem d_X_isLikeSquare_7 : decode b_X_isLikeSquare 7 = .ok (.lconst 1, 1) := by decide +kernel
theorem d_X_isLikeSquare_8 : decode b_X_isLikeSquare 8 = .ok (.lstore 5, 2) := by decide +kernel
theorem d_X_isLikeSquare_10 : decode b_X_isLikeSquare 10 = .ok (.iload_n 2, 1) := by decide +kernel
theorem d_X_isLikeSquare_11 : decode b_X_isLikeSquare 11 = .ok (.iconst 1, 1) := by decide +kernel
theorem d_X_isLikeSquare_12 : decode b_X_isLikeSquare 12 = .ok (.isub, 1) := by decide +kernel
theorem d_X_isLikeSquare_13 : decode b_X_isLikeSquare 13 = .ok (.iconst 2, 1) := by decide +kernel
theorem d_X_isLikeSquare_14 : decode b_X_isLikeSquare 14 = .ok (.idiv, 1) := by decide +kernel
theorem d_X_isLikeSquare_15 : decode b_X_isLikeSquare 15 = .ok (.istore 7, 2) := by decide +kernel
theorem d_X_isLikeSquare_17 : decode b_X_isLikeSquare 17 = .ok (.iconst 0, 1) := by decide +kernel
theorem d_X_isLikeSquare_18 : decode b_X_isLikeSquare 18 = .ok (.istore 8, 2) := by decide +kernel
theorem d_X_isLikeSquare_20 : decode b_X_isLikeSquare 20 = .ok (.iload 8, 2) := by decide +kernel
theorem d_X_isLikeSquare_22 : decode b_X_isLikeSquare 22 = .ok (.bipush 64, 2) := by decide +kernel
theorem d_X_isLikeSquare_24 : decode b_X_isLikeSquare 24 = .ok (.if_icmp .ge 48, 3) := by decide +kernel
theorem d_X_isLikeSquare_27 : decode b_X_isLikeSquare 27 = .ok (.iload 7, 2) := by decide +kernel
theorem d_X_isLikeSquare_29 : decode b_X_isLikeSquare 29 = .ok (.ifCond .le 43, 3) := by decide +kernel
theorem d_X_isLikeSquare_32 : decode b_X_isLikeSquare 32 = .ok (.iload 7, 2) := by decide +kernel
theorem d_X_isLikeSquare_34 : decode b_X_isLikeSquare 34 = .ok (.iconst 1, 1) := by decide +kernel
theorem d_X_isLikeSquare_35 : decode b_X_isLikeSquare 35 = .ok (.iand, 1) := by decide +kernel
theorem d_X_isLikeSquare_36 : decode b_X_isLikeSquare 36 = .ok (.iconst 1, 1) := by decide +kernel
theorem d_X_isLikeSquare_37 : decode b_X_isLikeSquare 37 = .ok (.if_icmp .ne 14, 3) := by decide +kernel
theorem d_X_isLikeSquare_40 : decode b_X_isLikeSquare 40 = .ok (.lload 5, 2) := by decide +kernel
theorem d_X_isLikeSquare_42 : decode b_X_isLikeSquare 42 = .ok (.lload_n 3, 1) := by decide +kernel
theorem d_X_isLikeSquare_43 : decode b_X_isLikeSquare 43 = .ok (.lmul, 1) := by decide +kernel
theorem d_X_isLikeSquare_44 : decode b_X_isLikeSquare 44 = .ok (.iload_n 2, 1) := by decide +kernel
theorem d_X_isLikeSquare_45 : decode b_X_isLikeSquare 45 = .ok (.i2l, 1) := by decide +kernel
theorem d_X_isLikeSquare_46 : decode b_X_isLikeSquare 46 = .ok (.invokestatic 133, 3) := by decide +kernel
theorem d_X_isLikeSquare_49 : decode b_X_isLikeSquare 49 = .ok (.lstore 5, 2) := by decide +kernel
theorem d_X_isLikeSquare_51 : decode b_X_isLikeSquare 51 = .ok (.lload_n 3, 1) := by decide +kernel
theorem d_X_isLikeSquare_52 : decode b_X_isLikeSquare 52 = .ok (.lload_n 3, 1) := by decide +kernel
theorem d_X_isLikeSquare_53 : decode b_X_isLikeSquare 53 = .ok (.lmul, 1) := by decide +kernel
theorem d_X_isLikeSquare_54 : decode b_X_isLikeSquare 54 = .ok (.iload_n 2, 1) := by decide +kernel
theorem d_X_isLikeSquare_55 : decode b_X_isLikeSquare 55 = .ok (.i2l, 1) := by decide +kernel
theorem d_X_isLikeSquare_56 : decode b_X_isLikeSquare 56 = .ok (.invokestatic 133, 3) := by decide +kernel
theorem d_X_isLikeSquare_59 : decode b_X_isLikeSquare 59 = .ok (.lstore_n 3, 1) := by decide +kernel
theorem d_X_isLikeSquare_60 : decode b_X_isLikeSquare 60 = .ok (.iload 7, 2) := by decide +kernel
theorem d_X_isLikeSquare_62 : decode b_X_isLikeSquare 62 = .ok (.iconst 1, 1) := by decide +kernel
theorem d_X_isLikeSquare_63 : decode b_X_isLikeSquare 63 = .ok (.ishr, 1) := by decide +kernel
theorem d_X_isLikeSquare_64 : decode b_X_isLikeSquare 64 = .ok (.istore 7, 2) := by decide +kernel
theorem d_X_isLikeSquare_66 : decode b_X_isLikeSquare 66 = .ok (.iinc 8 1, 3) := by decide +kernel
theorem d_X_isLikeSquare_69 : decode b_X_isLikeSquare 69 = .ok (.goto (-49), 3) := by decide +kernel
theorem d_X_isLikeSquare_72 : decode b_X_isLikeSquare 72 = .ok (.lload 5, 2) := by decide +kernel
theorem d_X_isLikeSquare_74 : decode b_X_isLikeSquare 74 = .ok (.lconst 1, 1) := by decide +kernel
theorem d_X_isLikeSquare_75 : decode b_X_isLikeSquare 75 = .ok (.lcmp, 1) := by decide +kernel
theorem d_X_isLikeSquare_76 : decode b_X_isLikeSquare 76 = .ok (.ifCond .ne 7, 3) := by decide +kernel
theorem d_X_isLikeSquare_79 : decode b_X_isLikeSquare 79 = .ok (.iconst 1, 1) := by decide +kernel
theorem d_X_isLikeSquare_80 : decode b_X_isLikeSquare 80 = .ok (.goto 4, 3) := by decide +kernel
theorem d_X_isLikeSquare_83 : decode b_X_isLikeSquare 83 = .ok (.iconst 0, 1) := by decide +kernel
theorem d_X_isLikeSquare_84 : decode b_X_isLikeSquare 84 = .ok (.ireturn, 1) := by decide +kernel
theorem d_X_remainder_0 : decode b_X_remainder 0 = .ok (.lload_n 2, 1) := by decide +kernel
theorem d_X_remainder_1 : decode b_X_remainder 1 = .ok (.lconst 0, 1) := by decide +kernel
theorem d_X_remainder_2 : decode b_X_remainder 2 = .ok (.lcmp, 1) := by decide +kernel
theorem d_X_remainder_3 : decode b_X_remainder 3 = .ok (.ifCond .le 11, 3) := by decide +kernel
theorem d_X_remainder_6 : decode b_X_remainder 6 = .ok (.lload_n 0, 1) := by decide +kernel
theorem d_X_remainder_7 : decode b_X_remainder 7 = .ok (.lload_n 2, 1) := by decide +kernel
theorem d_X_remainder_8 : decode b_X_remainder 8 = .ok (.invokestatic 163, 3) := by decide +kernel
theorem d_X_remainder_11 : decode b_X_remainder 11 = .ok (.goto 4, 3) := by decide +kernel
theorem d_X_remainder_14 : decode b_X_remainder 14 = .ok (.lconst 0, 1) := by decide +kernel
theorem d_X_remainder_15 : decode b_X_remainder 15 = .ok (.lreturn, 1) := by decide +kernel
theorem d_X_quotient_0 : decode b_X_quotient 0 = .ok (.lload_n 2, 1) := by decide +kernel
theorem d_X_quotient_1 : decode b_X_quotient 1 = .ok (.lconst 0, 1) := by decide +kernel
theorem d_X_quotient_2 : decode b_X_quotient 2 = .ok (.lcmp, 1) := by decide +kernel
theorem d_X_quotient_3 : decode b_X_quotient 3 = .ok (.ifCond .eq 9, 3) := by decide +kernel
theorem d_X_quotient_6 : decode b_X_quotient 6 = .ok (.lload_n 0, 1) := by decide +kernel
theorem d_X_quotient_7 : decode b_X_quotient 7 = .ok (.lload_n 2, 1) := by decide +kernel
theorem d_X_quotient_8 : decode b_X_quotient 8 = .ok (.ldiv, 1) := by decide +kernel
theorem d_X_quotient_9 : decode b_X_quotient 9 = .ok (.goto 4, 3) := by decide +kernel
theorem d_X_quotient_12 : decode b_X_quotient 12 = .ok (.lconst 0, 1) := by decide +kernel
theorem d_X_quotient_13 : decode b_X_quotient 13 = .ok (.lreturn, 1) := by decide +kernel
theorem d_E_init_0 : decode b_E_init 0 = .ok (.aload_n 0, 1) := by decide +kernel
theorem d_E_init_1 : decode b_E_init 1 = .ok (.invokespecial 3, 3) := by decide +kernel
theorem d_E_init_4 : decode b_E_init 4 = .ok (.return_, 1) := by decide +kernel
theorem d_E_solve_0 : decode b_E_solve 0 = .ok (.lload_n 3, 1) := by decide +kernel
theorem d_E_solve_1 : decode b_E_solve 1 = .ok (.lstore 5, 2) := by decide +kernel
theorem d_E_solve_3 : decode b_E_solve 3 = .ok (.lconst 0, 1) := by decide +kernel
theorem d_E_solve_4 : decode b_E_solve 4 = .ok (.lstore 7, 2) := by decide +kernel
theorem d_E_solve_6 : decode b_E_solve 6 = .ok (.lconst 1, 1) := by decide +kernel
theorem d_E_solve_7 : decode b_E_solve 7 = .ok (.lstore 9, 2) := by decide +kernel
theorem d_E_solve_9 : decode b_E_solve 9 = .ok (.aload_n 0, 1) := by decide +kernel
theorem d_E_solve_10 : decode b_E_solve 10 = .ok (.lload_n 1, 1) := by decide +kernel
theorem d_E_solve_11 : decode b_E_solve 11 = .ok (.putfield 9, 3) := by decide +kernel
theorem d_E_solve_14 : decode b_E_solve 14 = .ok (.aload_n 0, 1) := by decide +kernel
theorem d_E_solve_15 : decode b_E_solve 15 = .ok (.lconst 1, 1) := by decide +kernel
theorem d_E_solve_16 : decode b_E_solve 16 = .ok (.putfield 15, 3) := by decide +kernel
theorem d_E_solve_19 : decode b_E_solve 19 = .ok (.aload_n 0, 1) := by decide +kernel
theorem d_E_solve_20 : decode b_E_solve 20 = .ok (.lconst 0, 1) := by decide +kernel
theorem d_E_solve_21 : decode b_E_solve 21 = .ok (.putfield 18, 3) := by decide +kernel
theorem d_E_solve_24 : decode b_E_solve 24 = .ok (.iconst 0, 1) := by decide +kernel
theorem d_E_solve_25 : decode b_E_solve 25 = .ok (.istore 11, 2) := by decide +kernel
theorem d_E_solve_27 : decode b_E_solve 27 = .ok (.iload 11, 2) := by decide +kernel
theorem d_E_solve_29 : decode b_E_solve 29 = .ok (.ldc 21, 2) := by decide +kernel
theorem d_E_solve_31 : decode b_E_solve 31 = .ok (.if_icmp .ge 93, 3) := by decide +kernel
theorem d_E_solve_34 : decode b_E_solve 34 = .ok (.lload 5, 2) := by decide +kernel
theorem d_E_solve_36 : decode b_E_solve 36 = .ok (.lconst 0, 1) := by decide +kernel
theorem d_E_solve_37 : decode b_E_solve 37 = .ok (.lcmp, 1) := by decide +kernel
theorem d_E_solve_38 : decode b_E_solve 38 = .ok (.ifCond .eq 86, 3) := by decide +kernel
theorem d_E_solve_41 : decode b_E_solve 41 = .ok (.aload_n 0, 1) := by decide +kernel
theorem d_E_solve_42 : decode b_E_solve 42 = .ok (.getfield 9, 3) := by decide +kernel
theorem d_E_solve_45 : decode b_E_solve 45 = .ok (.lload 5, 2) := by decide +kernel
theorem d_E_solve_47 : decode b_E_solve 47 = .ok (.invokestatic 22, 3) := by decide +kernel
theorem d_E_solve_50 : decode b_E_solve 50 = .ok (.lstore 12, 2) := by decide +kernel
theorem d_E_solve_52 : decode b_E_solve 52 = .ok (.aload_n 0, 1) := by decide +kernel
theorem d_E_solve_53 : decode b_E_solve 53 = .ok (.getfield 9, 3) := by decide +kernel
theorem d_E_solve_56 : decode b_E_solve 56 = .ok (.lload 12, 2) := by decide +kernel
theorem d_E_solve_58 : decode b_E_solve 58 = .ok (.lload 5, 2) := by decide +kernel
theorem d_E_solve_60 : decode b_E_solve 60 = .ok (.lmul, 1) := by decide +kernel
theorem d_E_solve_61 : decode b_E_solve 61 = .ok (.lsub, 1) := by decide +kernel
theorem d_E_solve_62 : decode b_E_solve 62 = .ok (.lstore 14, 2) := by decide +kernel
theorem d_E_solve_64 : decode b_E_solve 64 = .ok (.aload_n 0, 1) := by decide +kernel
theorem d_E_solve_65 : decode b_E_solve 65 = .ok (.getfield 15, 3) := by decide +kernel
theorem d_E_solve_68 : decode b_E_solve 68 = .ok (.lload 12, 2) := by decide +kernel
theorem d_E_solve_70 : decode b_E_solve 70 = .ok (.lload 7, 2) := by decide +kernel
theorem d_E_solve_72 : decode b_E_solve 72 = .ok (.lmul, 1) := by decide +kernel
theorem d_E_solve_73 : decode b_E_solve 73 = .ok (.lsub, 1) := by decide +kernel
theorem d_E_solve_74 : decode b_E_solve 74 = .ok (.lstore 16, 2) := by decide +kernel
theorem d_E_solve_76 : decode b_E_solve 76 = .ok (.aload_n 0, 1) := by decide +kernel
theorem d_E_solve_77 : decode b_E_solve 77 = .ok (.getfield 18, 3) := by decide +kernel
theorem d_E_solve_80 : decode b_E_solve 80 = .ok (.lload 12, 2) := by decide +kernel
theorem d_E_solve_82 : decode b_E_solve 82 = .ok (.lload 9, 2) := by decide +kernel
theorem d_E_solve_84 : decode b_E_solve 84 = .ok (.lmul, 1) := by decide +kernel
theorem d_E_solve_85 : decode b_E_solve 85 = .ok (.lsub, 1) := by decide +kernel
theorem d_E_solve_86 : decode b_E_solve 86 = .ok (.lstore 18, 2) := by decide +kernel
theorem d_E_solve_88 : decode b_E_solve 88 = .ok (.aload_n 0, 1) := by decide +kernel
theorem d_E_solve_89 : decode b_E_solve 89 = .ok (.lload 5, 2) := by decide +kernel
theorem d_E_solve_91 : decode b_E_solve 91 = .ok (.putfield 9, 3) := by decide +kernel
theorem d_E_solve_94 : decode b_E_solve 94 = .ok (.aload_n 0, 1) := by decide +kernel
theorem d_E_solve_95 : decode b_E_solve 95 = .ok (.lload 7, 2) := by decide +kernel
theorem d_E_solve_97 : decode b_E_solve 97 = .ok (.putfield 15, 3) := by decide +kernel
theorem d_E_solve_100 : decode b_E_solve 100 = .ok (.aload_n 0, 1) := by decide +kernel
theorem d_E_solve_101 : decode b_E_solve 101 = .ok (.lload 9, 2) := by decide +kernel
theorem d_E_solve_103 : decode b_E_solve 103 = .ok (.putfield 18, 3) := by decide +kernel
theorem d_E_solve_106 : decode b_E_solve 106 = .ok (.lload 14, 2) := by decide +kernel
theorem d_E_solve_108 : decode b_E_solve 108 = .ok (.lstore 5, 2) := by decide +kernel
theorem d_E_solve_110 : decode b_E_solve 110 = .ok (.lload 16, 2) := by decide +kernel
theorem d_E_solve_112 : decode b_E_solve 112 = .ok (.lstore 7, 2) := by decide +kernel
theorem d_E_solve_114 : decode b_E_solve 114 = .ok (.lload 18, 2) := by decide +kernel
theorem d_E_solve_116 : decode b_E_solve 116 = .ok (.lstore 9, 2) := by decide +kernel
theorem d_E_solve_118 : decode b_E_solve 118 = .ok (.iinc 11 1, 3) := by decide +kernel
theorem d_E_solve_121 : decode b_E_solve 121 = .ok (.goto (-94), 3) := by decide +kernel
theorem d_E_solve_124 : decode b_E_solve 124 = .ok (.aload_n 0, 1) := by decide +kernel
theorem d_E_solve_125 : decode b_E_solve 125 = .ok (.getfield 9, 3) := by decide +kernel
theorem d_E_solve_128 : decode b_E_solve 128 = .ok (.lconst 0, 1) := by decide +kernel
theorem d_E_solve_129 : decode b_E_solve 129 = .ok (.lcmp, 1) := by decide +kernel
theorem d_E_solve_130 : decode b_E_solve 130 = .ok (.ifCond .ge 30, 3) := by decide +kernel
theorem d_E_solve_133 : decode b_E_solve 133 = .ok (.aload_n 0, 1) := by decide +kernel
theorem d_E_solve_134 : decode b_E_solve 134 = .ok (.aload_n 0, 1) := by decide +kernel
theorem d_E_solve_135 : decode b_E_solve 135 = .ok (.getfield 9, 3) := by decide +kernel
theorem d_E_solve_138 : decode b_E_solve 138 = .ok (.lneg, 1) := by decide +kernel
theorem d_E_solve_139 : decode b_E_solve 139 = .ok (.putfield 9, 3) := by decide +kernel
theorem d_E_solve_142 : decode b_E_solve 142 = .ok (.aload_n 0, 1) := by decide +kernel
theorem d_E_solve_143 : decode b_E_solve 143 = .ok (.aload_n 0, 1) := by decide +kernel
theorem d_E_solve_144 : decode b_E_solve 144 = .ok (.getfield 15, 3) := by decide +kernel
theorem d_E_solve_147 : decode b_E_solve 147 = .ok (.lneg, 1) := by decide +kernel
theorem d_E_solve_148 : decode b_E_solve 148 = .ok (.putfield 15, 3) := by decide +kernel
theorem d_E_solve_151 : decode b_E_solve 151 = .ok (.aload_n 0, 1) := by decide +kernel
theorem d_E_solve_152 : decode b_E_solve 152 = .ok (.aload_n 0, 1) := by decide +kernel
theorem d_E_solve_153 : decode b_E_solve 153 = .ok (.getfield 18, 3) := by decide +kernel
theorem d_E_solve_156 : decode b_E_solve 156 = .ok (.lneg, 1) := by decide +kernel
theorem d_E_solve_157 : decode b_E_solve 157 = .ok (.putfield 18, 3) := by decide +kernel
theorem d_E_solve_160 : decode b_E_solve 160 = .ok (.return_, 1) := by decide +kernel
theorem d_F_init_0 : decode b_F_init 0 = .ok (.aload_n 0, 1) := by decide +kernel
theorem d_F_init_1 : decode b_F_init 1 = .ok (.invokespecial 1, 3) := by decide +kernel
theorem d_F_init_4 : decode b_F_init 4 = .ok (.return_, 1) := by decide +kernel
theorem d_F_become_0 : decode b_F_become 0 = .ok (.aload_n 0, 1) := by decide +kernel
theorem d_F_become_1 : decode b_F_become 1 = .ok (.lload_n 1, 1) := by decide +kernel
theorem d_F_become_2 : decode b_F_become 2 = .ok (.putfield 7, 3) := by decide +kernel
theorem d_F_become_5 : decode b_F_become 5 = .ok (.aload_n 0, 1) := by decide +kernel
theorem d_F_become_6 : decode b_F_become 6 = .ok (.lload_n 3, 1) := by decide +kernel
theorem d_F_become_7 : decode b_F_become 7 = .ok (.putfield 13, 3) := by decide +kernel
theorem d_F_become_10 : decode b_F_become 10 = .ok (.aload_n 0, 1) := by decide +kernel
theorem d_F_become_11 : decode b_F_become 11 = .ok (.lload 5, 2) := by decide +kernel
theorem d_F_become_13 : decode b_F_become 13 = .ok (.putfield 16, 3) := by decide +kernel
theorem d_F_become_16 : decode b_F_become 16 = .ok (.return_, 1) := by decide +kernel
theorem d_F_copy_0 : decode b_F_copy 0 = .ok (.aload_n 0, 1) := by decide +kernel
theorem d_F_copy_1 : decode b_F_copy 1 = .ok (.aload_n 1, 1) := by decide +kernel
theorem d_F_copy_2 : decode b_F_copy 2 = .ok (.getfield 7, 3) := by decide +kernel
theorem d_F_copy_5 : decode b_F_copy 5 = .ok (.aload_n 1, 1) := by decide +kernel
theorem d_F_copy_6 : decode b_F_copy 6 = .ok (.getfield 13, 3) := by decide +kernel
theorem d_F_copy_9 : decode b_F_copy 9 = .ok (.aload_n 1, 1) := by decide +kernel
theorem d_F_copy_10 : decode b_F_copy 10 = .ok (.getfield 16, 3) := by decide +kernel
theorem d_F_copy_13 : decode b_F_copy 13 = .ok (.invokevirtual 19, 3) := by decide +kernel
theorem d_F_copy_16 : decode b_F_copy 16 = .ok (.return_, 1) := by decide +kernel
theorem d_F_matches_0 : decode b_F_matches 0 = .ok (.aload_n 0, 1) := by decide +kernel
theorem d_F_matches_1 : decode b_F_matches 1 = .ok (.getfield 7, 3) := by decide +kernel
theorem d_F_matches_4 : decode b_F_matches 4 = .ok (.aload_n 1, 1) := by decide +kernel
theorem d_F_matches_5 : decode b_F_matches 5 = .ok (.getfield 7, 3) := by decide +kernel
theorem d_F_matches_8 : decode b_F_matches 8 = .ok (.lcmp, 1) := by decide +kernel
theorem d_F_matches_9 : decode b_F_matches 9 = .ok (.ifCond .ne 31, 3) := by decide +kernel
theorem d_F_matches_12 : decode b_F_matches 12 = .ok (.aload_n 0, 1) := by decide +kernel
theorem d_F_matches_13 : decode b_F_matches 13 = .ok (.getfield 13, 3) := by decide +kernel
theorem d_F_matches_16 : decode b_F_matches 16 = .ok (.aload_n 1, 1) := by decide +kernel
theorem d_F_matches_17 : decode b_F_matches 17 = .ok (.getfield 13, 3) := by decide +kernel
theorem d_F_matches_20 : decode b_F_matches 20 = .ok (.lcmp, 1) := by decide +kernel
theorem d_F_matches_21 : decode b_F_matches 21 = .ok (.ifCond .ne 19, 3) := by decide +kernel
theorem d_F_matches_24 : decode b_F_matches 24 = .ok (.aload_n 0, 1) := by decide +kernel
theorem d_F_matches_25 : decode b_F_matches 25 = .ok (.getfield 16, 3) := by decide +kernel
theorem d_F_matches_28 : decode b_F_matches 28 = .ok (.aload_n 1, 1) := by decide +kernel
theorem d_F_matches_29 : decode b_F_matches 29 = .ok (.getfield 16, 3) := by decide +kernel
theorem d_F_matches_32 : decode b_F_matches 32 = .ok (.lcmp, 1) := by decide +kernel
theorem d_F_matches_33 : decode b_F_matches 33 = .ok (.ifCond .ne 7, 3) := by decide +kernel
theorem d_F_matches_36 : decode b_F_matches 36 = .ok (.iconst 1, 1) := by decide +kernel
theorem d_F_matches_37 : decode b_F_matches 37 = .ok (.goto 4, 3) := by decide +kernel
theorem d_F_matches_40 : decode b_F_matches 40 = .ok (.iconst 0, 1) := by decide +kernel
theorem d_F_matches_41 : decode b_F_matches 41 = .ok (.ireturn, 1) := by decide +kernel
theorem d_F_isBefore_0 : decode b_F_isBefore 0 = .ok (.aload_n 0, 1) := by decide +kernel
theorem d_F_isBefore_1 : decode b_F_isBefore 1 = .ok (.getfield 7, 3) := by decide +kernel
theorem d_F_isBefore_4 : decode b_F_isBefore 4 = .ok (.aload_n 1, 1) := by decide +kernel
theorem d_F_isBefore_5 : decode b_F_isBefore 5 = .ok (.getfield 7, 3) := by decide +kernel
theorem d_F_isBefore_8 : decode b_F_isBefore 8 = .ok (.lcmp, 1) := by decide +kernel
theorem d_F_isBefore_9 : decode b_F_isBefore 9 = .ok (.ifCond .lt 27, 3) := by decide +kernel
theorem d_F_isBefore_12 : decode b_F_isBefore 12 = .ok (.aload_n 0, 1) := by decide +kernel
theorem d_F_isBefore_13 : decode b_F_isBefore 13 = .ok (.getfield 7, 3) := by decide +kernel
theorem d_F_isBefore_16 : decode b_F_isBefore 16 = .ok (.aload_n 1, 1) := by decide +kernel
theorem d_F_isBefore_17 : decode b_F_isBefore 17 = .ok (.getfield 7, 3) := by decide +kernel
theorem d_F_isBefore_20 : decode b_F_isBefore 20 = .ok (.lcmp, 1) := by decide +kernel
theorem d_F_isBefore_21 : decode b_F_isBefore 21 = .ok (.ifCond .ne 19, 3) := by decide +kernel
theorem d_F_isBefore_24 : decode b_F_isBefore 24 = .ok (.aload_n 0, 1) := by decide +kernel
theorem d_F_isBefore_25 : decode b_F_isBefore 25 = .ok (.getfield 13, 3) := by decide +kernel
theorem d_F_isBefore_28 : decode b_F_isBefore 28 = .ok (.aload_n 1, 1) := by decide +kernel
theorem d_F_isBefore_29 : decode b_F_isBefore 29 = .ok (.getfield 13, 3) := by decide +kernel
theorem d_F_isBefore_32 : decode b_F_isBefore 32 = .ok (.lcmp, 1) := by decide +kernel
theorem d_F_isBefore_33 : decode b_F_isBefore 33 = .ok (.ifCond .ge 7, 3) := by decide +kernel
theorem d_F_isBefore_36 : decode b_F_isBefore 36 = .ok (.iconst 1, 1) := by decide +kernel
theorem d_F_isBefore_37 : decode b_F_isBefore 37 = .ok (.goto 4, 3) := by decide +kernel
theorem d_F_isBefore_40 : decode b_F_isBefore 40 = .ok (.iconst 0, 1) := by decide +kernel
theorem d_F_isBefore_41 : decode b_F_isBefore 41 = .ok (.ireturn, 1) := by decide +kernel
theorem d_G_init_0 : decode b_G_init 0 = .ok (.aload_n 0, 1) := by decide +kernel
theorem d_G_init_1 : decode b_G_init 1 = .ok (.invokespecial 3, 3) := by decide +kernel
theorem d_G_init_4 : decode b_G_init 4 = .ok (.aload_n 0, 1) := by decide +kernel
theorem d_G_init_5 : decode b_G_init 5 = .ok (.new 9, 3) := by decide +kernel
theorem d_G_init_8 : decode b_G_init 8 = .ok (.dup, 1) := by decide +kernel
theorem d_G_init_9 : decode b_G_init 9 = .ok (.invokespecial 11, 3) := by decide +kernel
theorem d_G_init_12 : decode b_G_init 12 = .ok (.putfield 12, 3) := by decide +kernel
theorem d_G_init_15 : decode b_G_init 15 = .ok (.aload_n 0, 1) := by decide +kernel
theorem d_G_init_16 : decode b_G_init 16 = .ok (.new 9, 3) := by decide +kernel
theorem d_G_init_19 : decode b_G_init 19 = .ok (.dup, 1) := by decide +kernel
theorem d_G_init_20 : decode b_G_init 20 = .ok (.invokespecial 11, 3) := by decide +kernel
theorem d_G_init_23 : decode b_G_init 23 = .ok (.putfield 18, 3) := by decide +kernel
theorem d_G_init_26 : decode b_G_init 26 = .ok (.aload_n 0, 1) := by decide +kernel
theorem d_G_init_27 : decode b_G_init 27 = .ok (.new 9, 3) := by decide +kernel
theorem d_G_init_30 : decode b_G_init 30 = .ok (.dup, 1) := by decide +kernel
theorem d_G_init_31 : decode b_G_init 31 = .ok (.invokespecial 11, 3) := by decide +kernel
theorem d_G_init_34 : decode b_G_init 34 = .ok (.putfield 21, 3) := by decide +kernel
theorem d_G_init_37 : decode b_G_init 37 = .ok (.aload_n 0, 1) := by decide +kernel
theorem d_G_init_38 : decode b_G_init 38 = .ok (.new 9, 3) := by decide +kernel
theorem d_G_init_41 : decode b_G_init 41 = .ok (.dup, 1) := by decide +kernel
theorem d_G_init_42 : decode b_G_init 42 = .ok (.invokespecial 11, 3) := by decide +kernel
theorem d_G_init_45 : decode b_G_init 45 = .ok (.putfield 24, 3) := by decide +kernel
theorem d_G_init_48 : decode b_G_init 48 = .ok (.aload_n 0, 1) := by decide +kernel
theorem d_G_init_49 : decode b_G_init 49 = .ok (.new 27, 3) := by decide +kernel
theorem d_G_init_52 : decode b_G_init 52 = .ok (.dup, 1) := by decide +kernel
theorem d_G_init_53 : decode b_G_init 53 = .ok (.invokespecial 29, 3) := by decide +kernel
theorem d_G_init_56 : decode b_G_init 56 = .ok (.putfield 30, 3) := by decide +kernel
theorem d_G_init_59 : decode b_G_init 59 = .ok (.return_, 1) := by decide +kernel
theorem d_G_settle_0 : decode b_G_settle 0 = .ok (.aload_n 0, 1) := by decide +kernel
theorem d_G_settle_1 : decode b_G_settle 1 = .ok (.iload_n 1, 1) := by decide +kernel
theorem d_G_settle_2 : decode b_G_settle 2 = .ok (.putfield 34, 3) := by decide +kernel
theorem d_G_settle_5 : decode b_G_settle 5 = .ok (.aload_n 0, 1) := by decide +kernel
theorem d_G_settle_6 : decode b_G_settle 6 = .ok (.iload_n 1, 1) := by decide +kernel
theorem d_G_settle_7 : decode b_G_settle 7 = .ok (.invokestatic 38, 3) := by decide +kernel
theorem d_G_settle_10 : decode b_G_settle 10 = .ok (.putfield 42, 3) := by decide +kernel
theorem d_G_settle_13 : decode b_G_settle 13 = .ok (.aload_n 0, 1) := by decide +kernel
theorem d_G_settle_14 : decode b_G_settle 14 = .ok (.aload_n 0, 1) := by decide +kernel
theorem d_G_settle_15 : decode b_G_settle 15 = .ok (.getfield 12, 3) := by decide +kernel
theorem d_G_settle_18 : decode b_G_settle 18 = .ok (.lconst 1, 1) := by decide +kernel
theorem d_G_settle_19 : decode b_G_settle 19 = .ok (.iload_n 1, 1) := by decide +kernel
theorem d_G_settle_20 : decode b_G_settle 20 = .ok (.iconst 1, 1) := by decide +kernel
theorem d_G_settle_21 : decode b_G_settle 21 = .ok (.iand, 1) := by decide +kernel
theorem d_G_settle_22 : decode b_G_settle 22 = .ok (.i2l, 1) := by decide +kernel
theorem d_G_settle_23 : decode b_G_settle 23 = .ok (.invokevirtual 45, 3) := by decide +kernel
theorem d_G_settle_26 : decode b_G_settle 26 = .ok (.aload_n 0, 1) := by decide +kernel
theorem d_G_settle_27 : decode b_G_settle 27 = .ok (.aload_n 0, 1) := by decide +kernel
theorem d_G_settle_28 : decode b_G_settle 28 = .ok (.getfield 12, 3) := by decide +kernel
theorem d_G_settle_31 : decode b_G_settle 31 = .ok (.invokevirtual 49, 3) := by decide +kernel
theorem d_G_settle_34 : decode b_G_settle 34 = .ok (.aload_n 0, 1) := by decide +kernel
theorem d_G_settle_35 : decode b_G_settle 35 = .ok (.aload_n 0, 1) := by decide +kernel
theorem d_G_settle_36 : decode b_G_settle 36 = .ok (.getfield 12, 3) := by decide +kernel
theorem d_G_settle_39 : decode b_G_settle 39 = .ok (.invokevirtual 53, 3) := by decide +kernel
theorem d_G_settle_42 : decode b_G_settle 42 = .ok (.pop, 1) := by decide +kernel
theorem d_G_settle_43 : decode b_G_settle 43 = .ok (.return_, 1) := by decide +kernel
theorem d_G_canTake_0 : decode b_G_canTake 0 = .ok (.lload_n 1, 1) := by decide +kernel
theorem d_G_canTake_1 : decode b_G_canTake 1 = .ok (.invokestatic 57, 3) := by decide +kernel
theorem d_G_canTake_4 : decode b_G_canTake 4 = .ok (.ifCond .eq 18, 3) := by decide +kernel
theorem d_G_canTake_7 : decode b_G_canTake 7 = .ok (.lload_n 3, 1) := by decide +kernel
theorem d_G_canTake_8 : decode b_G_canTake 8 = .ok (.invokestatic 57, 3) := by decide +kernel
theorem d_G_canTake_11 : decode b_G_canTake 11 = .ok (.ifCond .eq 11, 3) := by decide +kernel
theorem d_G_canTake_14 : decode b_G_canTake 14 = .ok (.lload 5, 2) := by decide +kernel
theorem d_G_canTake_16 : decode b_G_canTake 16 = .ok (.invokestatic 57, 3) := by decide +kernel
theorem d_G_canTake_19 : decode b_G_canTake 19 = .ok (.ifCond .ne 5, 3) := by decide +kernel
theorem d_G_canTake_22 : decode b_G_canTake 22 = .ok (.iconst 0, 1) := by decide +kernel
theorem d_G_canTake_23 : decode b_G_canTake 23 = .ok (.ireturn, 1) := by decide +kernel
theorem d_G_canTake_24 : decode b_G_canTake 24 = .ok (.lload_n 3, 1) := by decide +kernel
theorem d_G_canTake_25 : decode b_G_canTake 25 = .ok (.lload_n 3, 1) := by decide +kernel
theorem d_G_canTake_26 : decode b_G_canTake 26 = .ok (.lmul, 1) := by decide +kernel
theorem d_G_canTake_27 : decode b_G_canTake 27 = .ok (.ldc2_w 61, 3) := by decide +kernel
theorem d_G_canTake_30 : decode b_G_canTake 30 = .ok (.lload_n 1, 1) := by decide +kernel
theorem d_G_canTake_31 : decode b_G_canTake 31 = .ok (.lmul, 1) := by decide +kernel
theorem d_G_canTake_32 : decode b_G_canTake 32 = .ok (.lload 5, 2) := by decide +kernel
theorem d_G_canTake_34 : decode b_G_canTake 34 = .ok (.lmul, 1) := by decide +kernel
theorem d_G_canTake_35 : decode b_G_canTake 35 = .ok (.lsub, 1) := by decide +kernel
theorem d_G_canTake_36 : decode b_G_canTake 36 = .ok (.aload_n 0, 1) := by decide +kernel
theorem d_G_canTake_37 : decode b_G_canTake 37 = .ok (.getfield 34, 3) := by decide +kernel
theorem d_G_canTake_40 : decode b_G_canTake 40 = .ok (.i2l, 1) := by decide +kernel
theorem d_G_canTake_41 : decode b_G_canTake 41 = .ok (.lcmp, 1) := by decide +kernel
theorem d_G_canTake_42 : decode b_G_canTake 42 = .ok (.ifCond .ne 16, 3) := by decide +kernel
theorem d_G_canTake_45 : decode b_G_canTake 45 = .ok (.aload_n 0, 1) := by decide +kernel
theorem d_G_canTake_46 : decode b_G_canTake 46 = .ok (.getfield 34, 3) := by decide +kernel
theorem d_G_canTake_49 : decode b_G_canTake 49 = .ok (.ifCond .ge 11, 3) := by decide +kernel
theorem d_G_canTake_52 : decode b_G_canTake 52 = .ok (.lload_n 1, 1) := by decide +kernel
theorem d_G_canTake_53 : decode b_G_canTake 53 = .ok (.lconst 0, 1) := by decide +kernel
theorem d_G_canTake_54 : decode b_G_canTake 54 = .ok (.lcmp, 1) := by decide +kernel
theorem d_G_canTake_55 : decode b_G_canTake 55 = .ok (.ifCond .gt 5, 3) := by decide +kernel
theorem d_G_canTake_58 : decode b_G_canTake 58 = .ok (.iconst 0, 1) := by decide +kernel
theorem d_G_canTake_59 : decode b_G_canTake 59 = .ok (.ireturn, 1) := by decide +kernel
theorem d_G_canTake_60 : decode b_G_canTake 60 = .ok (.aload_n 0, 1) := by decide +kernel
theorem d_G_canTake_61 : decode b_G_canTake 61 = .ok (.getfield 30, 3) := by decide +kernel
theorem d_G_canTake_64 : decode b_G_canTake 64 = .ok (.lload_n 1, 1) := by decide +kernel
theorem d_G_canTake_65 : decode b_G_canTake 65 = .ok (.lload_n 3, 1) := by decide +kernel
theorem d_G_canTake_66 : decode b_G_canTake 66 = .ok (.invokevirtual 63, 3) := by decide +kernel
theorem d_G_canTake_69 : decode b_G_canTake 69 = .ok (.aload_n 0, 1) := by decide +kernel
theorem d_G_canTake_70 : decode b_G_canTake 70 = .ok (.getfield 30, 3) := by decide +kernel
theorem d_G_canTake_73 : decode b_G_canTake 73 = .ok (.aload_n 0, 1) := by decide +kernel
theorem d_G_canTake_74 : decode b_G_canTake 74 = .ok (.getfield 30, 3) := by decide +kernel
theorem d_G_canTake_77 : decode b_G_canTake 77 = .ok (.getfield 67, 3) := by decide +kernel
theorem d_G_canTake_80 : decode b_G_canTake 80 = .ok (.lload 5, 2) := by decide +kernel
theorem d_G_canTake_82 : decode b_G_canTake 82 = .ok (.invokevirtual 63, 3) := by decide +kernel
theorem d_G_canTake_85 : decode b_G_canTake 85 = .ok (.aload_n 0, 1) := by decide +kernel
theorem d_G_canTake_86 : decode b_G_canTake 86 = .ok (.getfield 30, 3) := by decide +kernel
theorem d_G_canTake_89 : decode b_G_canTake 89 = .ok (.getfield 67, 3) := by decide +kernel
theorem d_G_canTake_92 : decode b_G_canTake 92 = .ok (.lconst 1, 1) := by decide +kernel
theorem d_G_canTake_93 : decode b_G_canTake 93 = .ok (.lcmp, 1) := by decide +kernel
theorem d_G_canTake_94 : decode b_G_canTake 94 = .ok (.ifCond .ne 7, 3) := by decide +kernel
theorem d_G_canTake_97 : decode b_G_canTake 97 = .ok (.iconst 1, 1) := by decide +kernel
theorem d_G_canTake_98 : decode b_G_canTake 98 = .ok (.goto 4, 3) := by decide +kernel
theorem d_G_canTake_101 : decode b_G_canTake 101 = .ok (.iconst 0, 1) := by decide +kernel
theorem d_G_canTake_102 : decode b_G_canTake 102 = .ok (.ireturn, 1) := by decide +kernel
theorem d_G_isCoefficient_0 : decode b_G_isCoefficient 0 = .ok (.lload_n 0, 1) := by decide +kernel
theorem d_G_isCoefficient_1 : decode b_G_isCoefficient 1 = .ok (.ldc2_w 71, 3) := by decide +kernel
theorem d_G_isCoefficient_4 : decode b_G_isCoefficient 4 = .ok (.lcmp, 1) := by decide +kernel
theorem d_G_isCoefficient_5 : decode b_G_isCoefficient 5 = .ok (.ifCond .lt 15, 3) := by decide +kernel
theorem d_G_isCoefficient_8 : decode b_G_isCoefficient 8 = .ok (.lload_n 0, 1) := by decide +kernel
theorem d_G_isCoefficient_9 : decode b_G_isCoefficient 9 = .ok (.ldc2_w 73, 3) := by decide +kernel
theorem d_G_isCoefficient_12 : decode b_G_isCoefficient 12 = .ok (.lcmp, 1) := by decide +kernel
theorem d_G_isCoefficient_13 : decode b_G_isCoefficient 13 = .ok (.ifCond .gt 7, 3) := by decide +kernel
theorem d_G_isCoefficient_16 : decode b_G_isCoefficient 16 = .ok (.iconst 1, 1) := by decide +kernel
theorem d_G_isCoefficient_17 : decode b_G_isCoefficient 17 = .ok (.goto 4, 3) := by decide +kernel
theorem d_G_isCoefficient_20 : decode b_G_isCoefficient 20 = .ok (.iconst 0, 1) := by decide +kernel
theorem d_G_isCoefficient_21 : decode b_G_isCoefficient 21 = .ok (.ireturn, 1) := by decide +kernel
theorem d_G_becomeFrom_0 : decode b_G_becomeFrom 0 = .ok (.aload_n 1, 1) := by decide +kernel
theorem d_G_becomeFrom_1 : decode b_G_becomeFrom 1 = .ok (.lload_n 2, 1) := by decide +kernel
theorem d_G_becomeFrom_2 : decode b_G_becomeFrom 2 = .ok (.lload 4, 2) := by decide +kernel
theorem d_G_becomeFrom_4 : decode b_G_becomeFrom 4 = .ok (.lload 4, 2) := by decide +kernel
theorem d_G_becomeFrom_6 : decode b_G_becomeFrom 6 = .ok (.lload 4, 2) := by decide +kernel
theorem d_G_becomeFrom_8 : decode b_G_becomeFrom 8 = .ok (.lmul, 1) := by decide +kernel
theorem d_G_becomeFrom_9 : decode b_G_becomeFrom 9 = .ok (.aload_n 0, 1) := by decide +kernel
theorem d_G_becomeFrom_10 : decode b_G_becomeFrom 10 = .ok (.getfield 34, 3) := by decide +kernel
theorem d_G_becomeFrom_13 : decode b_G_becomeFrom 13 = .ok (.i2l, 1) := by decide +kernel
theorem d_G_becomeFrom_14 : decode b_G_becomeFrom 14 = .ok (.lsub, 1) := by decide +kernel
theorem d_G_becomeFrom_15 : decode b_G_becomeFrom 15 = .ok (.ldc2_w 61, 3) := by decide +kernel
theorem d_G_becomeFrom_18 : decode b_G_becomeFrom 18 = .ok (.lload_n 2, 1) := by decide +kernel
theorem d_G_becomeFrom_19 : decode b_G_becomeFrom 19 = .ok (.lmul, 1) := by decide +kernel
theorem d_G_becomeFrom_20 : decode b_G_becomeFrom 20 = .ok (.invokestatic 75, 3) := by decide +kernel
theorem d_G_becomeFrom_23 : decode b_G_becomeFrom 23 = .ok (.invokevirtual 79, 3) := by decide +kernel
theorem d_G_becomeFrom_26 : decode b_G_becomeFrom 26 = .ok (.return_, 1) := by decide +kernel
theorem d_G_reduce_0 : decode b_G_reduce 0 = .ok (.aload_n 0, 1) := by decide +kernel
theorem d_G_reduce_1 : decode b_G_reduce 1 = .ok (.getfield 34, 3) := by decide +kernel
theorem d_G_reduce_4 : decode b_G_reduce 4 = .ok (.ifCond .ge 9, 3) := by decide +kernel
theorem d_G_reduce_7 : decode b_G_reduce 7 = .ok (.aload_n 0, 1) := by decide +kernel
theorem d_G_reduce_8 : decode b_G_reduce 8 = .ok (.aload_n 1, 1) := by decide +kernel
theorem d_G_reduce_9 : decode b_G_reduce 9 = .ok (.invokevirtual 83, 3) := by decide +kernel
theorem d_G_reduce_12 : decode b_G_reduce 12 = .ok (.return_, 1) := by decide +kernel
theorem d_G_reduce_13 : decode b_G_reduce 13 = .ok (.iconst 0, 1) := by decide +kernel
theorem d_G_reduce_14 : decode b_G_reduce 14 = .ok (.istore_n 2, 1) := by decide +kernel
theorem d_G_reduce_15 : decode b_G_reduce 15 = .ok (.iload_n 2, 1) := by decide +kernel
theorem d_G_reduce_16 : decode b_G_reduce 16 = .ok (.ldc 86, 2) := by decide +kernel
theorem d_G_reduce_18 : decode b_G_reduce 18 = .ok (.if_icmp .ge 22, 3) := by decide +kernel
theorem d_G_reduce_21 : decode b_G_reduce 21 = .ok (.aload_n 0, 1) := by decide +kernel
theorem d_G_reduce_22 : decode b_G_reduce 22 = .ok (.aload_n 1, 1) := by decide +kernel
theorem d_G_reduce_23 : decode b_G_reduce 23 = .ok (.invokevirtual 87, 3) := by decide +kernel
theorem d_G_reduce_26 : decode b_G_reduce 26 = .ok (.ifCond .ne 14, 3) := by decide +kernel
theorem d_G_reduce_29 : decode b_G_reduce 29 = .ok (.aload_n 0, 1) := by decide +kernel
theorem d_G_reduce_30 : decode b_G_reduce 30 = .ok (.aload_n 1, 1) := by decide +kernel
theorem d_G_reduce_31 : decode b_G_reduce 31 = .ok (.invokevirtual 91, 3) := by decide +kernel
theorem d_G_reduce_34 : decode b_G_reduce 34 = .ok (.iinc 2 1, 3) := by decide +kernel
theorem d_G_reduce_37 : decode b_G_reduce 37 = .ok (.goto (-22), 3) := by decide +kernel
theorem d_G_reduce_40 : decode b_G_reduce 40 = .ok (.return_, 1) := by decide +kernel
theorem d_G_reduceBelow_0 : decode b_G_reduceBelow 0 = .ok (.iconst 0, 1) := by decide +kernel
theorem d_G_reduceBelow_1 : decode b_G_reduceBelow 1 = .ok (.istore_n 2, 1) := by decide +kernel
theorem d_G_reduceBelow_2 : decode b_G_reduceBelow 2 = .ok (.iload_n 2, 1) := by decide +kernel
theorem d_G_reduceBelow_3 : decode b_G_reduceBelow 3 = .ok (.ldc 86, 2) := by decide +kernel
theorem d_G_reduceBelow_5 : decode b_G_reduceBelow 5 = .ok (.if_icmp .ge 75, 3) := by decide +kernel
theorem d_G_reduceBelow_8 : decode b_G_reduceBelow 8 = .ok (.aload_n 0, 1) := by decide +kernel
theorem d_G_reduceBelow_9 : decode b_G_reduceBelow 9 = .ok (.aload_n 1, 1) := by decide +kernel
theorem d_G_reduceBelow_10 : decode b_G_reduceBelow 10 = .ok (.aload_n 1, 1) := by decide +kernel
theorem d_G_reduceBelow_11 : decode b_G_reduceBelow 11 = .ok (.getfield 94, 3) := by decide +kernel
theorem d_G_reduceBelow_14 : decode b_G_reduceBelow 14 = .ok (.aload_n 1, 1) := by decide +kernel
theorem d_G_reduceBelow_15 : decode b_G_reduceBelow 15 = .ok (.getfield 94, 3) := by decide +kernel
theorem d_G_reduceBelow_18 : decode b_G_reduceBelow 18 = .ok (.aload_n 1, 1) := by decide +kernel
theorem d_G_reduceBelow_19 : decode b_G_reduceBelow 19 = .ok (.getfield 94, 3) := by decide +kernel
theorem d_G_reduceBelow_22 : decode b_G_reduceBelow 22 = .ok (.aload_n 1, 1) := by decide +kernel
theorem d_G_reduceBelow_23 : decode b_G_reduceBelow 23 = .ok (.getfield 97, 3) := by decide +kernel
theorem d_G_reduceBelow_26 : decode b_G_reduceBelow 26 = .ok (.lsub, 1) := by decide +kernel
theorem d_G_reduceBelow_27 : decode b_G_reduceBelow 27 = .ok (.ldc2_w 100, 3) := by decide +kernel
theorem d_G_reduceBelow_30 : decode b_G_reduceBelow 30 = .ok (.aload_n 1, 1) := by decide +kernel
theorem d_G_reduceBelow_31 : decode b_G_reduceBelow 31 = .ok (.getfield 94, 3) := by decide +kernel
theorem d_G_reduceBelow_34 : decode b_G_reduceBelow 34 = .ok (.lmul, 1) := by decide +kernel
theorem d_G_reduceBelow_35 : decode b_G_reduceBelow 35 = .ok (.invokestatic 102, 3) := by decide +kernel
theorem d_G_reduceBelow_38 : decode b_G_reduceBelow 38 = .ok (.lsub, 1) := by decide +kernel
theorem d_G_reduceBelow_39 : decode b_G_reduceBelow 39 = .ok (.invokevirtual 45, 3) := by decide +kernel
theorem d_G_reduceBelow_42 : decode b_G_reduceBelow 42 = .ok (.aload_n 1, 1) := by decide +kernel
theorem d_G_reduceBelow_43 : decode b_G_reduceBelow 43 = .ok (.getfield 94, 3) := by decide +kernel
theorem d_G_reduceBelow_46 : decode b_G_reduceBelow 46 = .ok (.aload_n 1, 1) := by decide +kernel
theorem d_G_reduceBelow_47 : decode b_G_reduceBelow 47 = .ok (.getfield 105, 3) := by decide +kernel
theorem d_G_reduceBelow_50 : decode b_G_reduceBelow 50 = .ok (.lcmp, 1) := by decide +kernel
theorem d_G_reduceBelow_51 : decode b_G_reduceBelow 51 = .ok (.ifCond .gt 6, 3) := by decide +kernel
theorem d_G_reduceBelow_54 : decode b_G_reduceBelow 54 = .ok (.goto 26, 3) := by decide +kernel
theorem d_G_reduceBelow_57 : decode b_G_reduceBelow 57 = .ok (.aload_n 1, 1) := by decide +kernel
theorem d_G_reduceBelow_58 : decode b_G_reduceBelow 58 = .ok (.aload_n 1, 1) := by decide +kernel
theorem d_G_reduceBelow_59 : decode b_G_reduceBelow 59 = .ok (.getfield 105, 3) := by decide +kernel
theorem d_G_reduceBelow_62 : decode b_G_reduceBelow 62 = .ok (.aload_n 1, 1) := by decide +kernel
theorem d_G_reduceBelow_63 : decode b_G_reduceBelow 63 = .ok (.getfield 97, 3) := by decide +kernel
theorem d_G_reduceBelow_66 : decode b_G_reduceBelow 66 = .ok (.lneg, 1) := by decide +kernel
theorem d_G_reduceBelow_67 : decode b_G_reduceBelow 67 = .ok (.aload_n 1, 1) := by decide +kernel
theorem d_G_reduceBelow_68 : decode b_G_reduceBelow 68 = .ok (.getfield 94, 3) := by decide +kernel
theorem d_G_reduceBelow_71 : decode b_G_reduceBelow 71 = .ok (.invokevirtual 79, 3) := by decide +kernel
theorem d_G_reduceBelow_74 : decode b_G_reduceBelow 74 = .ok (.iinc 2 1, 3) := by decide +kernel
theorem d_G_reduceBelow_77 : decode b_G_reduceBelow 77 = .ok (.goto (-75), 3) := by decide +kernel
theorem d_G_reduceBelow_80 : decode b_G_reduceBelow 80 = .ok (.aload_n 1, 1) := by decide +kernel
theorem d_G_reduceBelow_81 : decode b_G_reduceBelow 81 = .ok (.getfield 94, 3) := by decide +kernel
theorem d_G_reduceBelow_84 : decode b_G_reduceBelow 84 = .ok (.aload_n 1, 1) := by decide +kernel
theorem d_G_reduceBelow_85 : decode b_G_reduceBelow 85 = .ok (.getfield 105, 3) := by decide +kernel
theorem d_G_reduceBelow_88 : decode b_G_reduceBelow 88 = .ok (.lcmp, 1) := by decide +kernel
theorem d_G_reduceBelow_89 : decode b_G_reduceBelow 89 = .ok (.ifCond .ne 21, 3) := by decide +kernel
theorem d_G_reduceBelow_92 : decode b_G_reduceBelow 92 = .ok (.aload_n 1, 1) := by decide +kernel
theorem d_G_reduceBelow_93 : decode b_G_reduceBelow 93 = .ok (.getfield 97, 3) := by decide +kernel
theorem d_G_reduceBelow_96 : decode b_G_reduceBelow 96 = .ok (.lconst 0, 1) := by decide +kernel
theorem d_G_reduceBelow_97 : decode b_G_reduceBelow 97 = .ok (.lcmp, 1) := by decide +kernel
theorem d_G_reduceBelow_98 : decode b_G_reduceBelow 98 = .ok (.ifCond .ge 12, 3) := by decide +kernel
theorem d_G_reduceBelow_101 : decode b_G_reduceBelow 101 = .ok (.aload_n 1, 1) := by decide +kernel
theorem d_G_reduceBelow_102 : decode b_G_reduceBelow 102 = .ok (.aload_n 1, 1) := by decide +kernel
theorem d_G_reduceBelow_103 : decode b_G_reduceBelow 103 = .ok (.getfield 97, 3) := by decide +kernel
theorem d_G_reduceBelow_106 : decode b_G_reduceBelow 106 = .ok (.lneg, 1) := by decide +kernel
theorem d_G_reduceBelow_107 : decode b_G_reduceBelow 107 = .ok (.putfield 97, 3) := by decide +kernel
theorem d_G_reduceBelow_110 : decode b_G_reduceBelow 110 = .ok (.return_, 1) := by decide +kernel
theorem d_G_isReducedAbove_0 : decode b_G_isReducedAbove 0 = .ok (.ldc2_w 100, 3) := by decide +kernel
theorem d_G_isReducedAbove_3 : decode b_G_isReducedAbove 3 = .ok (.aload_n 1, 1) := by decide +kernel
theorem d_G_isReducedAbove_4 : decode b_G_isReducedAbove 4 = .ok (.getfield 94, 3) := by decide +kernel
theorem d_G_isReducedAbove_7 : decode b_G_isReducedAbove 7 = .ok (.invokestatic 108, 3) := by decide +kernel
theorem d_G_isReducedAbove_10 : decode b_G_isReducedAbove 10 = .ok (.lmul, 1) := by decide +kernel
theorem d_G_isReducedAbove_11 : decode b_G_isReducedAbove 11 = .ok (.lstore_n 2, 1) := by decide +kernel
theorem d_G_isReducedAbove_12 : decode b_G_isReducedAbove 12 = .ok (.aload_n 1, 1) := by decide +kernel
theorem d_G_isReducedAbove_13 : decode b_G_isReducedAbove 13 = .ok (.getfield 97, 3) := by decide +kernel
theorem d_G_isReducedAbove_16 : decode b_G_isReducedAbove 16 = .ok (.lconst 0, 1) := by decide +kernel
theorem d_G_isReducedAbove_17 : decode b_G_isReducedAbove 17 = .ok (.lcmp, 1) := by decide +kernel
theorem d_G_isReducedAbove_18 : decode b_G_isReducedAbove 18 = .ok (.ifCond .le 50, 3) := by decide +kernel
theorem d_G_isReducedAbove_21 : decode b_G_isReducedAbove 21 = .ok (.aload_n 1, 1) := by decide +kernel
theorem d_G_isReducedAbove_22 : decode b_G_isReducedAbove 22 = .ok (.getfield 97, 3) := by decide +kernel
theorem d_G_isReducedAbove_25 : decode b_G_isReducedAbove 25 = .ok (.aload_n 0, 1) := by decide +kernel
theorem d_G_isReducedAbove_26 : decode b_G_isReducedAbove 26 = .ok (.getfield 42, 3) := by decide +kernel
theorem d_G_isReducedAbove_29 : decode b_G_isReducedAbove 29 = .ok (.i2l, 1) := by decide +kernel
theorem d_G_isReducedAbove_30 : decode b_G_isReducedAbove 30 = .ok (.lcmp, 1) := by decide +kernel
theorem d_G_isReducedAbove_31 : decode b_G_isReducedAbove 31 = .ok (.ifCond .gt 37, 3) := by decide +kernel
theorem d_G_isReducedAbove_34 : decode b_G_isReducedAbove 34 = .ok (.lload_n 2, 1) := by decide +kernel
theorem d_G_isReducedAbove_35 : decode b_G_isReducedAbove 35 = .ok (.aload_n 1, 1) := by decide +kernel
theorem d_G_isReducedAbove_36 : decode b_G_isReducedAbove 36 = .ok (.getfield 97, 3) := by decide +kernel
theorem d_G_isReducedAbove_39 : decode b_G_isReducedAbove 39 = .ok (.ladd, 1) := by decide +kernel
theorem d_G_isReducedAbove_40 : decode b_G_isReducedAbove 40 = .ok (.aload_n 0, 1) := by decide +kernel
theorem d_G_isReducedAbove_41 : decode b_G_isReducedAbove 41 = .ok (.getfield 42, 3) := by decide +kernel
theorem d_G_isReducedAbove_44 : decode b_G_isReducedAbove 44 = .ok (.i2l, 1) := by decide +kernel
theorem d_G_isReducedAbove_45 : decode b_G_isReducedAbove 45 = .ok (.lcmp, 1) := by decide +kernel
theorem d_G_isReducedAbove_46 : decode b_G_isReducedAbove 46 = .ok (.ifCond .le 22, 3) := by decide +kernel
theorem d_G_isReducedAbove_49 : decode b_G_isReducedAbove 49 = .ok (.lload_n 2, 1) := by decide +kernel
theorem d_G_isReducedAbove_50 : decode b_G_isReducedAbove 50 = .ok (.aload_n 1, 1) := by decide +kernel
theorem d_G_isReducedAbove_51 : decode b_G_isReducedAbove 51 = .ok (.getfield 97, 3) := by decide +kernel
theorem d_G_isReducedAbove_54 : decode b_G_isReducedAbove 54 = .ok (.lsub, 1) := by decide +kernel
theorem d_G_isReducedAbove_55 : decode b_G_isReducedAbove 55 = .ok (.aload_n 0, 1) := by decide +kernel
theorem d_G_isReducedAbove_56 : decode b_G_isReducedAbove 56 = .ok (.getfield 42, 3) := by decide +kernel
theorem d_G_isReducedAbove_59 : decode b_G_isReducedAbove 59 = .ok (.i2l, 1) := by decide +kernel
theorem d_G_isReducedAbove_60 : decode b_G_isReducedAbove 60 = .ok (.lcmp, 1) := by decide +kernel
theorem d_G_isReducedAbove_61 : decode b_G_isReducedAbove 61 = .ok (.ifCond .gt 7, 3) := by decide +kernel
theorem d_G_isReducedAbove_64 : decode b_G_isReducedAbove 64 = .ok (.iconst 1, 1) := by decide +kernel
theorem d_G_isReducedAbove_65 : decode b_G_isReducedAbove 65 = .ok (.goto 4, 3) := by decide +kernel
theorem d_G_isReducedAbove_68 : decode b_G_isReducedAbove 68 = .ok (.iconst 0, 1) := by decide +kernel
theorem d_G_isReducedAbove_69 : decode b_G_isReducedAbove 69 = .ok (.ireturn, 1) := by decide +kernel
theorem d_G_step_0 : decode b_G_step 0 = .ok (.aload_n 1, 1) := by decide +kernel
theorem d_G_step_1 : decode b_G_step 1 = .ok (.getfield 105, 3) := by decide +kernel
theorem d_G_step_4 : decode b_G_step 4 = .ok (.invokestatic 108, 3) := by decide +kernel
theorem d_G_step_7 : decode b_G_step 7 = .ok (.lstore_n 2, 1) := by decide +kernel
theorem d_G_step_8 : decode b_G_step 8 = .ok (.lload_n 2, 1) := by decide +kernel
theorem d_G_step_9 : decode b_G_step 9 = .ok (.aload_n 0, 1) := by decide +kernel
theorem d_G_step_10 : decode b_G_step 10 = .ok (.getfield 42, 3) := by decide +kernel
theorem d_G_step_13 : decode b_G_step 13 = .ok (.i2l, 1) := by decide +kernel
theorem d_G_step_14 : decode b_G_step 14 = .ok (.invokestatic 114, 3) := by decide +kernel
theorem d_G_step_17 : decode b_G_step 17 = .ok (.lstore 4, 2) := by decide +kernel
theorem d_G_step_19 : decode b_G_step 19 = .ok (.aload_n 0, 1) := by decide +kernel
theorem d_G_step_20 : decode b_G_step 20 = .ok (.aload_n 1, 1) := by decide +kernel
theorem d_G_step_21 : decode b_G_step 21 = .ok (.aload_n 1, 1) := by decide +kernel
theorem d_G_step_22 : decode b_G_step 22 = .ok (.getfield 105, 3) := by decide +kernel
theorem d_G_step_25 : decode b_G_step 25 = .ok (.lload 4, 2) := by decide +kernel
theorem d_G_step_27 : decode b_G_step 27 = .ok (.lload 4, 2) := by decide +kernel
theorem d_G_step_29 : decode b_G_step 29 = .ok (.aload_n 1, 1) := by decide +kernel
theorem d_G_step_30 : decode b_G_step 30 = .ok (.getfield 97, 3) := by decide +kernel
theorem d_G_step_33 : decode b_G_step 33 = .ok (.ladd, 1) := by decide +kernel
theorem d_G_step_34 : decode b_G_step 34 = .ok (.ldc2_w 100, 3) := by decide +kernel
theorem d_G_step_37 : decode b_G_step 37 = .ok (.lload_n 2, 1) := by decide +kernel
theorem d_G_step_38 : decode b_G_step 38 = .ok (.lmul, 1) := by decide +kernel
theorem d_G_step_39 : decode b_G_step 39 = .ok (.invokestatic 102, 3) := by decide +kernel
theorem d_G_step_42 : decode b_G_step 42 = .ok (.lsub, 1) := by decide +kernel
theorem d_G_step_43 : decode b_G_step 43 = .ok (.invokevirtual 45, 3) := by decide +kernel
theorem d_G_step_46 : decode b_G_step 46 = .ok (.return_, 1) := by decide +kernel
theorem d_G_turnIntoName_0 : decode b_G_turnIntoName 0 = .ok (.aload_n 0, 1) := by decide +kernel
theorem d_G_turnIntoName_1 : decode b_G_turnIntoName 1 = .ok (.getfield 34, 3) := by decide +kernel
theorem d_G_turnIntoName_4 : decode b_G_turnIntoName 4 = .ok (.ifCond .ge 5, 3) := by decide +kernel
theorem d_G_turnIntoName_7 : decode b_G_turnIntoName 7 = .ok (.iconst 1, 1) := by decide +kernel
theorem d_G_turnIntoName_8 : decode b_G_turnIntoName 8 = .ok (.ireturn, 1) := by decide +kernel
theorem d_G_turnIntoName_9 : decode b_G_turnIntoName 9 = .ok (.aload_n 0, 1) := by decide +kernel
theorem d_G_turnIntoName_10 : decode b_G_turnIntoName 10 = .ok (.getfield 21, 3) := by decide +kernel
theorem d_G_turnIntoName_13 : decode b_G_turnIntoName 13 = .ok (.aload_n 1, 1) := by decide +kernel
theorem d_G_turnIntoName_14 : decode b_G_turnIntoName 14 = .ok (.invokevirtual 117, 3) := by decide +kernel
theorem d_G_turnIntoName_17 : decode b_G_turnIntoName 17 = .ok (.aload_n 0, 1) := by decide +kernel
theorem d_G_turnIntoName_18 : decode b_G_turnIntoName 18 = .ok (.getfield 18, 3) := by decide +kernel
theorem d_G_turnIntoName_21 : decode b_G_turnIntoName 21 = .ok (.aload_n 1, 1) := by decide +kernel
theorem d_G_turnIntoName_22 : decode b_G_turnIntoName 22 = .ok (.invokevirtual 117, 3) := by decide +kernel
theorem d_G_turnIntoName_25 : decode b_G_turnIntoName 25 = .ok (.aload_n 0, 1) := by decide +kernel
theorem d_G_turnIntoName_26 : decode b_G_turnIntoName 26 = .ok (.aload_n 0, 1) := by decide +kernel
theorem d_G_turnIntoName_27 : decode b_G_turnIntoName 27 = .ok (.getfield 18, 3) := by decide +kernel
theorem d_G_turnIntoName_30 : decode b_G_turnIntoName 30 = .ok (.invokevirtual 91, 3) := by decide +kernel
theorem d_G_turnIntoName_33 : decode b_G_turnIntoName 33 = .ok (.iconst 1, 1) := by decide +kernel
theorem d_G_turnIntoName_34 : decode b_G_turnIntoName 34 = .ok (.istore_n 2, 1) := by decide +kernel
theorem d_G_turnIntoName_35 : decode b_G_turnIntoName 35 = .ok (.iload_n 2, 1) := by decide +kernel
theorem d_G_turnIntoName_36 : decode b_G_turnIntoName 36 = .ok (.ldc 86, 2) := by decide +kernel
theorem d_G_turnIntoName_38 : decode b_G_turnIntoName 38 = .ok (.if_icmp .ge 50, 3) := by decide +kernel
theorem d_G_turnIntoName_41 : decode b_G_turnIntoName 41 = .ok (.aload_n 0, 1) := by decide +kernel
theorem d_G_turnIntoName_42 : decode b_G_turnIntoName 42 = .ok (.getfield 18, 3) := by decide +kernel
theorem d_G_turnIntoName_45 : decode b_G_turnIntoName 45 = .ok (.aload_n 0, 1) := by decide +kernel
theorem d_G_turnIntoName_46 : decode b_G_turnIntoName 46 = .ok (.getfield 21, 3) := by decide +kernel
theorem d_G_turnIntoName_49 : decode b_G_turnIntoName 49 = .ok (.invokevirtual 120, 3) := by decide +kernel
theorem d_G_turnIntoName_52 : decode b_G_turnIntoName 52 = .ok (.ifCond .ne 36, 3) := by decide +kernel
theorem d_G_turnIntoName_55 : decode b_G_turnIntoName 55 = .ok (.aload_n 0, 1) := by decide +kernel
theorem d_G_turnIntoName_56 : decode b_G_turnIntoName 56 = .ok (.getfield 18, 3) := by decide +kernel
theorem d_G_turnIntoName_59 : decode b_G_turnIntoName 59 = .ok (.aload_n 1, 1) := by decide +kernel
theorem d_G_turnIntoName_60 : decode b_G_turnIntoName 60 = .ok (.invokevirtual 123, 3) := by decide +kernel
theorem d_G_turnIntoName_63 : decode b_G_turnIntoName 63 = .ok (.ifCond .eq 11, 3) := by decide +kernel
theorem d_G_turnIntoName_66 : decode b_G_turnIntoName 66 = .ok (.aload_n 1, 1) := by decide +kernel
theorem d_G_turnIntoName_67 : decode b_G_turnIntoName 67 = .ok (.aload_n 0, 1) := by decide +kernel
theorem d_G_turnIntoName_68 : decode b_G_turnIntoName 68 = .ok (.getfield 18, 3) := by decide +kernel
theorem d_G_turnIntoName_71 : decode b_G_turnIntoName 71 = .ok (.invokevirtual 117, 3) := by decide +kernel
theorem d_G_turnIntoName_74 : decode b_G_turnIntoName 74 = .ok (.aload_n 0, 1) := by decide +kernel
theorem d_G_turnIntoName_75 : decode b_G_turnIntoName 75 = .ok (.aload_n 0, 1) := by decide +kernel
theorem d_G_turnIntoName_76 : decode b_G_turnIntoName 76 = .ok (.getfield 18, 3) := by decide +kernel
theorem d_G_turnIntoName_79 : decode b_G_turnIntoName 79 = .ok (.invokevirtual 91, 3) := by decide +kernel
theorem d_G_turnIntoName_82 : decode b_G_turnIntoName 82 = .ok (.iinc 2 1, 3) := by decide +kernel
theorem d_G_turnIntoName_85 : decode b_G_turnIntoName 85 = .ok (.goto (-50), 3) := by decide +kernel
theorem d_G_turnIntoName_88 : decode b_G_turnIntoName 88 = .ok (.iload_n 2, 1) := by decide +kernel
theorem d_G_turnIntoName_89 : decode b_G_turnIntoName 89 = .ok (.ireturn, 1) := by decide +kernel
theorem d_G_multiply_0 : decode b_G_multiply 0 = .ok (.aload_n 1, 1) := by decide +kernel
theorem d_G_multiply_1 : decode b_G_multiply 1 = .ok (.getfield 97, 3) := by decide +kernel
theorem d_G_multiply_4 : decode b_G_multiply 4 = .ok (.aload_n 2, 1) := by decide +kernel
theorem d_G_multiply_5 : decode b_G_multiply 5 = .ok (.getfield 97, 3) := by decide +kernel
theorem d_G_multiply_8 : decode b_G_multiply 8 = .ok (.ladd, 1) := by decide +kernel
theorem d_G_multiply_9 : decode b_G_multiply 9 = .ok (.ldc2_w 100, 3) := by decide +kernel
theorem d_G_multiply_12 : decode b_G_multiply 12 = .ok (.ldiv, 1) := by decide +kernel
theorem d_G_multiply_13 : decode b_G_multiply 13 = .ok (.lstore_n 3, 1) := by decide +kernel
theorem d_G_multiply_14 : decode b_G_multiply 14 = .ok (.aload_n 0, 1) := by decide +kernel
theorem d_G_multiply_15 : decode b_G_multiply 15 = .ok (.getfield 30, 3) := by decide +kernel
theorem d_G_multiply_18 : decode b_G_multiply 18 = .ok (.aload_n 1, 1) := by decide +kernel
theorem d_G_multiply_19 : decode b_G_multiply 19 = .ok (.getfield 94, 3) := by decide +kernel
theorem d_G_multiply_22 : decode b_G_multiply 22 = .ok (.aload_n 2, 1) := by decide +kernel
theorem d_G_multiply_23 : decode b_G_multiply 23 = .ok (.getfield 94, 3) := by decide +kernel
theorem d_G_multiply_26 : decode b_G_multiply 26 = .ok (.invokevirtual 63, 3) := by decide +kernel
theorem d_G_multiply_29 : decode b_G_multiply 29 = .ok (.aload_n 0, 1) := by decide +kernel
theorem d_G_multiply_30 : decode b_G_multiply 30 = .ok (.getfield 30, 3) := by decide +kernel
theorem d_G_multiply_33 : decode b_G_multiply 33 = .ok (.getfield 126, 3) := by decide +kernel
theorem d_G_multiply_36 : decode b_G_multiply 36 = .ok (.lstore 5, 2) := by decide +kernel
theorem d_G_multiply_38 : decode b_G_multiply 38 = .ok (.aload_n 0, 1) := by decide +kernel
theorem d_G_multiply_39 : decode b_G_multiply 39 = .ok (.getfield 30, 3) := by decide +kernel
theorem d_G_multiply_42 : decode b_G_multiply 42 = .ok (.getfield 129, 3) := by decide +kernel
theorem d_G_multiply_45 : decode b_G_multiply 45 = .ok (.lstore 7, 2) := by decide +kernel
theorem d_G_multiply_47 : decode b_G_multiply 47 = .ok (.aload_n 0, 1) := by decide +kernel
theorem d_G_multiply_48 : decode b_G_multiply 48 = .ok (.getfield 30, 3) := by decide +kernel
theorem d_G_multiply_51 : decode b_G_multiply 51 = .ok (.aload_n 0, 1) := by decide +kernel
theorem d_G_multiply_52 : decode b_G_multiply 52 = .ok (.getfield 30, 3) := by decide +kernel
theorem d_G_multiply_55 : decode b_G_multiply 55 = .ok (.getfield 67, 3) := by decide +kernel
theorem d_G_multiply_58 : decode b_G_multiply 58 = .ok (.lload_n 3, 1) := by decide +kernel
theorem d_G_multiply_59 : decode b_G_multiply 59 = .ok (.invokevirtual 63, 3) := by decide +kernel
theorem d_G_multiply_62 : decode b_G_multiply 62 = .ok (.aload_n 0, 1) := by decide +kernel
theorem d_G_multiply_63 : decode b_G_multiply 63 = .ok (.getfield 30, 3) := by decide +kernel
theorem d_G_multiply_66 : decode b_G_multiply 66 = .ok (.getfield 67, 3) := by decide +kernel
theorem d_G_multiply_69 : decode b_G_multiply 69 = .ok (.lstore 9, 2) := by decide +kernel
theorem d_G_multiply_71 : decode b_G_multiply 71 = .ok (.aload_n 0, 1) := by decide +kernel
theorem d_G_multiply_72 : decode b_G_multiply 72 = .ok (.getfield 30, 3) := by decide +kernel
theorem d_G_multiply_75 : decode b_G_multiply 75 = .ok (.getfield 126, 3) := by decide +kernel
theorem d_G_multiply_78 : decode b_G_multiply 78 = .ok (.lload 5, 2) := by decide +kernel
theorem d_G_multiply_80 : decode b_G_multiply 80 = .ok (.aload_n 1, 1) := by decide +kernel
theorem d_G_multiply_81 : decode b_G_multiply 81 = .ok (.getfield 94, 3) := by decide +kernel
theorem d_G_multiply_84 : decode b_G_multiply 84 = .ok (.lmul, 1) := by decide +kernel
theorem d_G_multiply_85 : decode b_G_multiply 85 = .ok (.aload_n 2, 1) := by decide +kernel
theorem d_G_multiply_86 : decode b_G_multiply 86 = .ok (.getfield 97, 3) := by decide +kernel
theorem d_G_multiply_89 : decode b_G_multiply 89 = .ok (.lmul, 1) := by decide +kernel
theorem d_G_multiply_90 : decode b_G_multiply 90 = .ok (.lload 7, 2) := by decide +kernel
theorem d_G_multiply_92 : decode b_G_multiply 92 = .ok (.aload_n 2, 1) := by decide +kernel
theorem d_G_multiply_93 : decode b_G_multiply 93 = .ok (.getfield 94, 3) := by decide +kernel
theorem d_G_multiply_96 : decode b_G_multiply 96 = .ok (.lmul, 1) := by decide +kernel
theorem d_G_multiply_97 : decode b_G_multiply 97 = .ok (.aload_n 1, 1) := by decide +kernel
theorem d_G_multiply_98 : decode b_G_multiply 98 = .ok (.getfield 97, 3) := by decide +kernel
theorem d_G_multiply_101 : decode b_G_multiply 101 = .ok (.lmul, 1) := by decide +kernel
theorem d_G_multiply_102 : decode b_G_multiply 102 = .ok (.ladd, 1) := by decide +kernel
theorem d_G_multiply_103 : decode b_G_multiply 103 = .ok (.lmul, 1) := by decide +kernel
theorem d_G_multiply_104 : decode b_G_multiply 104 = .ok (.aload_n 0, 1) := by decide +kernel
theorem d_G_multiply_105 : decode b_G_multiply 105 = .ok (.getfield 30, 3) := by decide +kernel
theorem d_G_multiply_108 : decode b_G_multiply 108 = .ok (.getfield 129, 3) := by decide +kernel
theorem d_G_multiply_111 : decode b_G_multiply 111 = .ok (.aload_n 1, 1) := by decide +kernel
theorem d_G_multiply_112 : decode b_G_multiply 112 = .ok (.getfield 97, 3) := by decide +kernel
theorem d_G_multiply_115 : decode b_G_multiply 115 = .ok (.aload_n 2, 1) := by decide +kernel
theorem d_G_multiply_116 : decode b_G_multiply 116 = .ok (.getfield 97, 3) := by decide +kernel
theorem d_G_multiply_119 : decode b_G_multiply 119 = .ok (.lmul, 1) := by decide +kernel
theorem d_G_multiply_120 : decode b_G_multiply 120 = .ok (.aload_n 0, 1) := by decide +kernel
theorem d_G_multiply_121 : decode b_G_multiply 121 = .ok (.getfield 34, 3) := by decide +kernel
theorem d_G_multiply_124 : decode b_G_multiply 124 = .ok (.i2l, 1) := by decide +kernel
theorem d_G_multiply_125 : decode b_G_multiply 125 = .ok (.ladd, 1) := by decide +kernel
theorem d_G_multiply_126 : decode b_G_multiply 126 = .ok (.ldc2_w 100, 3) := by decide +kernel
theorem d_G_multiply_129 : decode b_G_multiply 129 = .ok (.ldiv, 1) := by decide +kernel
theorem d_G_multiply_130 : decode b_G_multiply 130 = .ok (.lmul, 1) := by decide +kernel
theorem d_G_multiply_131 : decode b_G_multiply 131 = .ok (.ladd, 1) := by decide +kernel
theorem d_G_multiply_132 : decode b_G_multiply 132 = .ok (.lstore 11, 2) := by decide +kernel
theorem d_G_multiply_134 : decode b_G_multiply 134 = .ok (.aload_n 1, 1) := by decide +kernel
theorem d_G_multiply_135 : decode b_G_multiply 135 = .ok (.getfield 94, 3) := by decide +kernel
theorem d_G_multiply_138 : decode b_G_multiply 138 = .ok (.lload 9, 2) := by decide +kernel
theorem d_G_multiply_140 : decode b_G_multiply 140 = .ok (.invokestatic 75, 3) := by decide +kernel
theorem d_G_multiply_143 : decode b_G_multiply 143 = .ok (.aload_n 2, 1) := by decide +kernel
theorem d_G_multiply_144 : decode b_G_multiply 144 = .ok (.getfield 94, 3) := by decide +kernel
theorem d_G_multiply_147 : decode b_G_multiply 147 = .ok (.lload 9, 2) := by decide +kernel
theorem d_G_multiply_149 : decode b_G_multiply 149 = .ok (.invokestatic 75, 3) := by decide +kernel
theorem d_G_multiply_152 : decode b_G_multiply 152 = .ok (.lmul, 1) := by decide +kernel
theorem d_G_multiply_153 : decode b_G_multiply 153 = .ok (.lstore 13, 2) := by decide +kernel
theorem d_G_multiply_155 : decode b_G_multiply 155 = .ok (.aload_n 0, 1) := by decide +kernel
theorem d_G_multiply_156 : decode b_G_multiply 156 = .ok (.aload_n 1, 1) := by decide +kernel
theorem d_G_multiply_157 : decode b_G_multiply 157 = .ok (.lload 13, 2) := by decide +kernel
theorem d_G_multiply_159 : decode b_G_multiply 159 = .ok (.lload 11, 2) := by decide +kernel
theorem d_G_multiply_161 : decode b_G_multiply 161 = .ok (.lload 9, 2) := by decide +kernel
theorem d_G_multiply_163 : decode b_G_multiply 163 = .ok (.invokestatic 75, 3) := by decide +kernel
theorem d_G_multiply_166 : decode b_G_multiply 166 = .ok (.ldc2_w 100, 3) := by decide +kernel
theorem d_G_multiply_169 : decode b_G_multiply 169 = .ok (.lload 13, 2) := by decide +kernel
theorem d_G_multiply_171 : decode b_G_multiply 171 = .ok (.invokestatic 108, 3) := by decide +kernel
theorem d_G_multiply_174 : decode b_G_multiply 174 = .ok (.lmul, 1) := by decide +kernel
theorem d_G_multiply_175 : decode b_G_multiply 175 = .ok (.invokestatic 102, 3) := by decide +kernel
theorem d_G_multiply_178 : decode b_G_multiply 178 = .ok (.invokevirtual 45, 3) := by decide +kernel
theorem d_G_multiply_181 : decode b_G_multiply 181 = .ok (.aload_n 0, 1) := by decide +kernel
theorem d_G_multiply_182 : decode b_G_multiply 182 = .ok (.aload_n 1, 1) := by decide +kernel
theorem d_G_multiply_183 : decode b_G_multiply 183 = .ok (.invokevirtual 49, 3) := by decide +kernel
theorem d_G_multiply_186 : decode b_G_multiply 186 = .ok (.return_, 1) := by decide +kernel
theorem d_G_turn_0 : decode b_G_turn 0 = .ok (.aload_n 1, 1) := by decide +kernel
theorem d_G_turn_1 : decode b_G_turn 1 = .ok (.aload_n 1, 1) := by decide +kernel
theorem d_G_turn_2 : decode b_G_turn 2 = .ok (.getfield 97, 3) := by decide +kernel
theorem d_G_turn_5 : decode b_G_turn 5 = .ok (.lneg, 1) := by decide +kernel
theorem d_G_turn_6 : decode b_G_turn 6 = .ok (.putfield 97, 3) := by decide +kernel
theorem d_G_turn_9 : decode b_G_turn 9 = .ok (.aload_n 0, 1) := by decide +kernel
theorem d_G_turn_10 : decode b_G_turn 10 = .ok (.aload_n 1, 1) := by decide +kernel
theorem d_G_turn_11 : decode b_G_turn 11 = .ok (.invokevirtual 49, 3) := by decide +kernel
theorem d_G_turn_14 : decode b_G_turn 14 = .ok (.return_, 1) := by decide +kernel
theorem d_G_raise_0 : decode b_G_raise 0 = .ok (.aload_n 0, 1) := by decide +kernel
theorem d_G_raise_1 : decode b_G_raise 1 = .ok (.getfield 24, 3) := by decide +kernel
theorem d_G_raise_4 : decode b_G_raise 4 = .ok (.aload_n 1, 1) := by decide +kernel
theorem d_G_raise_5 : decode b_G_raise 5 = .ok (.invokevirtual 117, 3) := by decide +kernel
theorem d_G_raise_8 : decode b_G_raise 8 = .ok (.lload_n 2, 1) := by decide +kernel
theorem d_G_raise_9 : decode b_G_raise 9 = .ok (.lconst 0, 1) := by decide +kernel
theorem d_G_raise_10 : decode b_G_raise 10 = .ok (.lcmp, 1) := by decide +kernel
theorem d_G_raise_11 : decode b_G_raise 11 = .ok (.ifCond .ge 11, 3) := by decide +kernel
theorem d_G_raise_14 : decode b_G_raise 14 = .ok (.aload_n 0, 1) := by decide +kernel
theorem d_G_raise_15 : decode b_G_raise 15 = .ok (.aload_n 0, 1) := by decide +kernel
theorem d_G_raise_16 : decode b_G_raise 16 = .ok (.getfield 24, 3) := by decide +kernel
theorem d_G_raise_19 : decode b_G_raise 19 = .ok (.invokevirtual 132, 3) := by decide +kernel
theorem d_G_raise_22 : decode b_G_raise 22 = .ok (.aload_n 1, 1) := by decide +kernel
theorem d_G_raise_23 : decode b_G_raise 23 = .ok (.aload_n 0, 1) := by decide +kernel
theorem d_G_raise_24 : decode b_G_raise 24 = .ok (.getfield 12, 3) := by decide +kernel
theorem d_G_raise_27 : decode b_G_raise 27 = .ok (.invokevirtual 117, 3) := by decide +kernel
theorem d_G_raise_30 : decode b_G_raise 30 = .ok (.lload_n 2, 1) := by decide +kernel
theorem d_G_raise_31 : decode b_G_raise 31 = .ok (.lconst 0, 1) := by decide +kernel
theorem d_G_raise_32 : decode b_G_raise 32 = .ok (.lcmp, 1) := by decide +kernel
theorem d_G_raise_33 : decode b_G_raise 33 = .ok (.ifCond .ge 8, 3) := by decide +kernel
theorem d_G_raise_36 : decode b_G_raise 36 = .ok (.lload_n 2, 1) := by decide +kernel
theorem d_G_raise_37 : decode b_G_raise 37 = .ok (.lneg, 1) := by decide +kernel
theorem d_G_raise_38 : decode b_G_raise 38 = .ok (.goto 4, 3) := by decide +kernel
theorem d_G_raise_41 : decode b_G_raise 41 = .ok (.lload_n 2, 1) := by decide +kernel
theorem d_G_raise_42 : decode b_G_raise 42 = .ok (.lstore 4, 2) := by decide +kernel
theorem d_G_raise_44 : decode b_G_raise 44 = .ok (.iconst 0, 1) := by decide +kernel
theorem d_G_raise_45 : decode b_G_raise 45 = .ok (.istore 6, 2) := by decide +kernel
theorem d_G_raise_47 : decode b_G_raise 47 = .ok (.iload 6, 2) := by decide +kernel
theorem d_G_raise_49 : decode b_G_raise 49 = .ok (.bipush 64, 2) := by decide +kernel
theorem d_G_raise_51 : decode b_G_raise 51 = .ok (.if_icmp .ge 52, 3) := by decide +kernel
theorem d_G_raise_54 : decode b_G_raise 54 = .ok (.lload 4, 2) := by decide +kernel
theorem d_G_raise_56 : decode b_G_raise 56 = .ok (.lconst 0, 1) := by decide +kernel
theorem d_G_raise_57 : decode b_G_raise 57 = .ok (.lcmp, 1) := by decide +kernel
theorem d_G_raise_58 : decode b_G_raise 58 = .ok (.ifCond .eq 45, 3) := by decide +kernel
theorem d_G_raise_61 : decode b_G_raise 61 = .ok (.lload 4, 2) := by decide +kernel
theorem d_G_raise_63 : decode b_G_raise 63 = .ok (.lconst 1, 1) := by decide +kernel
theorem d_G_raise_64 : decode b_G_raise 64 = .ok (.land, 1) := by decide +kernel
theorem d_G_raise_65 : decode b_G_raise 65 = .ok (.lconst 1, 1) := by decide +kernel
theorem d_G_raise_66 : decode b_G_raise 66 = .ok (.lcmp, 1) := by decide +kernel
theorem d_G_raise_67 : decode b_G_raise 67 = .ok (.ifCond .ne 12, 3) := by decide +kernel
theorem d_G_raise_70 : decode b_G_raise 70 = .ok (.aload_n 0, 1) := by decide +kernel
theorem d_G_raise_71 : decode b_G_raise 71 = .ok (.aload_n 1, 1) := by decide +kernel
theorem d_G_raise_72 : decode b_G_raise 72 = .ok (.aload_n 0, 1) := by decide +kernel
theorem d_G_raise_73 : decode b_G_raise 73 = .ok (.getfield 24, 3) := by decide +kernel
theorem d_G_raise_76 : decode b_G_raise 76 = .ok (.invokevirtual 135, 3) := by decide +kernel
theorem d_G_raise_79 : decode b_G_raise 79 = .ok (.aload_n 0, 1) := by decide +kernel
theorem d_G_raise_80 : decode b_G_raise 80 = .ok (.aload_n 0, 1) := by decide +kernel
theorem d_G_raise_81 : decode b_G_raise 81 = .ok (.getfield 24, 3) := by decide +kernel
theorem d_G_raise_84 : decode b_G_raise 84 = .ok (.aload_n 0, 1) := by decide +kernel
theorem d_G_raise_85 : decode b_G_raise 85 = .ok (.getfield 24, 3) := by decide +kernel
theorem d_G_raise_88 : decode b_G_raise 88 = .ok (.invokevirtual 135, 3) := by decide +kernel
theorem d_G_raise_91 : decode b_G_raise 91 = .ok (.lload 4, 2) := by decide +kernel
theorem d_G_raise_93 : decode b_G_raise 93 = .ok (.iconst 1, 1) := by decide +kernel
theorem d_G_raise_94 : decode b_G_raise 94 = .ok (.lushr, 1) := by decide +kernel
theorem d_G_raise_95 : decode b_G_raise 95 = .ok (.lstore 4, 2) := by decide +kernel
theorem d_G_raise_97 : decode b_G_raise 97 = .ok (.iinc 6 1, 3) := by decide +kernel
theorem d_G_raise_100 : decode b_G_raise 100 = .ok (.goto (-53), 3) := by decide +kernel
theorem d_G_raise_103 : decode b_G_raise 103 = .ok (.return_, 1) := by decide +kernel
theorem d_G_orderOf_0 : decode b_G_orderOf 0 = .ok (.aload_n 0, 1) := by decide +kernel
theorem d_G_orderOf_1 : decode b_G_orderOf 1 = .ok (.getfield 24, 3) := by decide +kernel
theorem d_G_orderOf_4 : decode b_G_orderOf 4 = .ok (.aload_n 1, 1) := by decide +kernel
theorem d_G_orderOf_5 : decode b_G_orderOf 5 = .ok (.invokevirtual 117, 3) := by decide +kernel
theorem d_G_orderOf_8 : decode b_G_orderOf 8 = .ok (.iconst 1, 1) := by decide +kernel
theorem d_G_orderOf_9 : decode b_G_orderOf 9 = .ok (.istore_n 2, 1) := by decide +kernel
theorem d_G_orderOf_10 : decode b_G_orderOf 10 = .ok (.iload_n 2, 1) := by decide +kernel
theorem d_G_orderOf_11 : decode b_G_orderOf 11 = .ok (.ldc 86, 2) := by decide +kernel
theorem d_G_orderOf_13 : decode b_G_orderOf 13 = .ok (.if_icmp .ge 41, 3) := by decide +kernel
theorem d_G_orderOf_16 : decode b_G_orderOf 16 = .ok (.aload_n 0, 1) := by decide +kernel
theorem d_G_orderOf_17 : decode b_G_orderOf 17 = .ok (.getfield 24, 3) := by decide +kernel
theorem d_G_orderOf_20 : decode b_G_orderOf 20 = .ok (.aload_n 0, 1) := by decide +kernel
theorem d_G_orderOf_21 : decode b_G_orderOf 21 = .ok (.getfield 12, 3) := by decide +kernel
theorem d_G_orderOf_24 : decode b_G_orderOf 24 = .ok (.invokevirtual 120, 3) := by decide +kernel
theorem d_G_orderOf_27 : decode b_G_orderOf 27 = .ok (.ifCond .ne 27, 3) := by decide +kernel
theorem d_G_orderOf_30 : decode b_G_orderOf 30 = .ok (.aload_n 0, 1) := by decide +kernel
theorem d_G_orderOf_31 : decode b_G_orderOf 31 = .ok (.aload_n 0, 1) := by decide +kernel
theorem d_G_orderOf_32 : decode b_G_orderOf 32 = .ok (.getfield 24, 3) := by decide +kernel
theorem d_G_orderOf_35 : decode b_G_orderOf 35 = .ok (.aload_n 1, 1) := by decide +kernel
theorem d_G_orderOf_36 : decode b_G_orderOf 36 = .ok (.invokevirtual 135, 3) := by decide +kernel
theorem d_G_orderOf_39 : decode b_G_orderOf 39 = .ok (.aload_n 0, 1) := by decide +kernel
theorem d_G_orderOf_40 : decode b_G_orderOf 40 = .ok (.aload_n 0, 1) := by decide +kernel
theorem d_G_orderOf_41 : decode b_G_orderOf 41 = .ok (.getfield 24, 3) := by decide +kernel
theorem d_G_orderOf_44 : decode b_G_orderOf 44 = .ok (.invokevirtual 53, 3) := by decide +kernel
theorem d_G_orderOf_47 : decode b_G_orderOf 47 = .ok (.pop, 1) := by decide +kernel
theorem d_G_orderOf_48 : decode b_G_orderOf 48 = .ok (.iinc 2 1, 3) := by decide +kernel
theorem d_G_orderOf_51 : decode b_G_orderOf 51 = .ok (.goto (-41), 3) := by decide +kernel
theorem d_G_orderOf_54 : decode b_G_orderOf 54 = .ok (.iload_n 2, 1) := by decide +kernel
theorem d_G_orderOf_55 : decode b_G_orderOf 55 = .ok (.ireturn, 1) := by decide +kernel
theorem d_G_exponentOf_0 : decode b_G_exponentOf 0 = .ok (.aload_n 2, 1) := by decide +kernel
theorem d_G_exponentOf_1 : decode b_G_exponentOf 1 = .ok (.aload_n 0, 1) := by decide +kernel
theorem d_G_exponentOf_2 : decode b_G_exponentOf 2 = .ok (.getfield 12, 3) := by decide +kernel
theorem d_G_exponentOf_5 : decode b_G_exponentOf 5 = .ok (.invokevirtual 120, 3) := by decide +kernel
theorem d_G_exponentOf_8 : decode b_G_exponentOf 8 = .ok (.ifCond .eq 5, 3) := by decide +kernel
theorem d_G_exponentOf_11 : decode b_G_exponentOf 11 = .ok (.iconst 0, 1) := by decide +kernel
theorem d_G_exponentOf_12 : decode b_G_exponentOf 12 = .ok (.ireturn, 1) := by decide +kernel
theorem d_G_exponentOf_13 : decode b_G_exponentOf 13 = .ok (.aload_n 0, 1) := by decide +kernel
theorem d_G_exponentOf_14 : decode b_G_exponentOf 14 = .ok (.getfield 24, 3) := by decide +kernel
theorem d_G_exponentOf_17 : decode b_G_exponentOf 17 = .ok (.aload_n 1, 1) := by decide +kernel
theorem d_G_exponentOf_18 : decode b_G_exponentOf 18 = .ok (.invokevirtual 117, 3) := by decide +kernel
theorem d_G_exponentOf_21 : decode b_G_exponentOf 21 = .ok (.iconst 1, 1) := by decide +kernel
theorem d_G_exponentOf_22 : decode b_G_exponentOf 22 = .ok (.istore_n 3, 1) := by decide +kernel
theorem d_G_exponentOf_23 : decode b_G_exponentOf 23 = .ok (.iload_n 3, 1) := by decide +kernel
theorem d_G_exponentOf_24 : decode b_G_exponentOf 24 = .ok (.ldc 86, 2) := by decide +kernel
theorem d_G_exponentOf_26 : decode b_G_exponentOf 26 = .ok (.if_icmp .ge 54, 3) := by decide +kernel
theorem d_G_exponentOf_29 : decode b_G_exponentOf 29 = .ok (.aload_n 0, 1) := by decide +kernel
theorem d_G_exponentOf_30 : decode b_G_exponentOf 30 = .ok (.getfield 24, 3) := by decide +kernel
theorem d_G_exponentOf_33 : decode b_G_exponentOf 33 = .ok (.aload_n 2, 1) := by decide +kernel
theorem d_G_exponentOf_34 : decode b_G_exponentOf 34 = .ok (.invokevirtual 120, 3) := by decide +kernel
theorem d_G_exponentOf_37 : decode b_G_exponentOf 37 = .ok (.ifCond .ne 43, 3) := by decide +kernel
theorem d_G_exponentOf_40 : decode b_G_exponentOf 40 = .ok (.aload_n 0, 1) := by decide +kernel
theorem d_G_exponentOf_41 : decode b_G_exponentOf 41 = .ok (.getfield 24, 3) := by decide +kernel
theorem d_G_exponentOf_44 : decode b_G_exponentOf 44 = .ok (.aload_n 0, 1) := by decide +kernel
theorem d_G_exponentOf_45 : decode b_G_exponentOf 45 = .ok (.getfield 12, 3) := by decide +kernel
theorem d_G_exponentOf_48 : decode b_G_exponentOf 48 = .ok (.invokevirtual 120, 3) := by decide +kernel
theorem d_G_exponentOf_51 : decode b_G_exponentOf 51 = .ok (.ifCond .eq 5, 3) := by decide +kernel
theorem d_G_exponentOf_54 : decode b_G_exponentOf 54 = .ok (.iconst (-1), 1) := by decide +kernel
theorem d_G_exponentOf_55 : decode b_G_exponentOf 55 = .ok (.ireturn, 1) := by decide +kernel
theorem d_G_exponentOf_56 : decode b_G_exponentOf 56 = .ok (.aload_n 0, 1) := by decide +kernel
theorem d_G_exponentOf_57 : decode b_G_exponentOf 57 = .ok (.aload_n 0, 1) := by decide +kernel
theorem d_G_exponentOf_58 : decode b_G_exponentOf 58 = .ok (.getfield 24, 3) := by decide +kernel
theorem d_G_exponentOf_61 : decode b_G_exponentOf 61 = .ok (.aload_n 1, 1) := by decide +kernel
theorem d_G_exponentOf_62 : decode b_G_exponentOf 62 = .ok (.invokevirtual 135, 3) := by decide +kernel
theorem d_G_exponentOf_65 : decode b_G_exponentOf 65 = .ok (.aload_n 0, 1) := by decide +kernel
theorem d_G_exponentOf_66 : decode b_G_exponentOf 66 = .ok (.aload_n 0, 1) := by decide +kernel
theorem d_G_exponentOf_67 : decode b_G_exponentOf 67 = .ok (.getfield 24, 3) := by decide +kernel
theorem d_G_exponentOf_70 : decode b_G_exponentOf 70 = .ok (.invokevirtual 53, 3) := by decide +kernel
theorem d_G_exponentOf_73 : decode b_G_exponentOf 73 = .ok (.pop, 1) := by decide +kernel
theorem d_G_exponentOf_74 : decode b_G_exponentOf 74 = .ok (.iinc 3 1, 3) := by decide +kernel
theorem d_G_exponentOf_77 : decode b_G_exponentOf 77 = .ok (.goto (-54), 3) := by decide +kernel
theorem d_G_exponentOf_80 : decode b_G_exponentOf 80 = .ok (.iload_n 3, 1) := by decide +kernel
theorem d_G_exponentOf_81 : decode b_G_exponentOf 81 = .ok (.ireturn, 1) := by decide +kernel
theorem d_P_init_0 : decode b_P_init 0 = .ok (.aload_n 0, 1) := by decide +kernel
theorem d_P_init_1 : decode b_P_init 1 = .ok (.invokespecial 3, 3) := by decide +kernel
theorem d_P_init_4 : decode b_P_init 4 = .ok (.aload_n 0, 1) := by decide +kernel
theorem d_P_init_5 : decode b_P_init 5 = .ok (.bipush 6, 2) := by decide +kernel
theorem d_P_init_7 : decode b_P_init 7 = .ok (.newarray .int, 2) := by decide +kernel
theorem d_P_init_9 : decode b_P_init 9 = .ok (.putfield 9, 3) := by decide +kernel
theorem d_P_init_12 : decode b_P_init 12 = .ok (.return_, 1) := by decide +kernel
theorem d_P_find_0 : decode b_P_find 0 = .ok (.aload_n 0, 1) := by decide +kernel
theorem d_P_find_1 : decode b_P_find 1 = .ok (.iconst 0, 1) := by decide +kernel
theorem d_P_find_2 : decode b_P_find 2 = .ok (.putfield 15, 3) := by decide +kernel
theorem d_P_find_5 : decode b_P_find 5 = .ok (.iconst 2, 1) := by decide +kernel
theorem d_P_find_6 : decode b_P_find 6 = .ok (.iload_n 1, 1) := by decide +kernel
theorem d_P_find_7 : decode b_P_find 7 = .ok (.invokestatic 19, 3) := by decide +kernel
theorem d_P_find_10 : decode b_P_find 10 = .ok (.invokestatic 25, 3) := by decide +kernel
theorem d_P_find_13 : decode b_P_find 13 = .ok (.istore_n 2, 1) := by decide +kernel
theorem d_P_find_14 : decode b_P_find 14 = .ok (.iconst 3, 1) := by decide +kernel
theorem d_P_find_15 : decode b_P_find 15 = .ok (.istore_n 3, 1) := by decide +kernel
theorem d_P_find_16 : decode b_P_find 16 = .ok (.iload_n 3, 1) := by decide +kernel
theorem d_P_find_17 : decode b_P_find 17 = .ok (.sipush 1024, 3) := by decide +kernel
theorem d_P_find_20 : decode b_P_find 20 = .ok (.if_icmp .gt 39, 3) := by decide +kernel
theorem d_P_find_23 : decode b_P_find 23 = .ok (.iload_n 3, 1) := by decide +kernel
theorem d_P_find_24 : decode b_P_find 24 = .ok (.iload_n 3, 1) := by decide +kernel
theorem d_P_find_25 : decode b_P_find 25 = .ok (.imul, 1) := by decide +kernel
theorem d_P_find_26 : decode b_P_find 26 = .ok (.iload_n 2, 1) := by decide +kernel
theorem d_P_find_27 : decode b_P_find 27 = .ok (.if_icmp .gt 32, 3) := by decide +kernel
theorem d_P_find_30 : decode b_P_find 30 = .ok (.iload_n 2, 1) := by decide +kernel
theorem d_P_find_31 : decode b_P_find 31 = .ok (.i2l, 1) := by decide +kernel
theorem d_P_find_32 : decode b_P_find 32 = .ok (.iload_n 3, 1) := by decide +kernel
theorem d_P_find_33 : decode b_P_find 33 = .ok (.i2l, 1) := by decide +kernel
theorem d_P_find_34 : decode b_P_find 34 = .ok (.invokestatic 29, 3) := by decide +kernel
theorem d_P_find_37 : decode b_P_find 37 = .ok (.lconst 0, 1) := by decide +kernel
theorem d_P_find_38 : decode b_P_find 38 = .ok (.lcmp, 1) := by decide +kernel
theorem d_P_find_39 : decode b_P_find 39 = .ok (.ifCond .ne 14, 3) := by decide +kernel
theorem d_P_find_42 : decode b_P_find 42 = .ok (.aload_n 0, 1) := by decide +kernel
theorem d_P_find_43 : decode b_P_find 43 = .ok (.iload_n 3, 1) := by decide +kernel
theorem d_P_find_44 : decode b_P_find 44 = .ok (.invokevirtual 33, 3) := by decide +kernel
theorem d_P_find_47 : decode b_P_find 47 = .ok (.iload_n 3, 1) := by decide +kernel
theorem d_P_find_48 : decode b_P_find 48 = .ok (.iload_n 2, 1) := by decide +kernel
theorem d_P_find_49 : decode b_P_find 49 = .ok (.invokestatic 25, 3) := by decide +kernel
theorem d_P_find_52 : decode b_P_find 52 = .ok (.istore_n 2, 1) := by decide +kernel
theorem d_P_find_53 : decode b_P_find 53 = .ok (.iinc 3 2, 3) := by decide +kernel
theorem d_P_find_56 : decode b_P_find 56 = .ok (.goto (-40), 3) := by decide +kernel
theorem d_P_find_59 : decode b_P_find 59 = .ok (.iload_n 2, 1) := by decide +kernel
theorem d_P_find_60 : decode b_P_find 60 = .ok (.iconst 1, 1) := by decide +kernel
theorem d_P_find_61 : decode b_P_find 61 = .ok (.if_icmp .le 8, 3) := by decide +kernel
theorem d_P_find_64 : decode b_P_find 64 = .ok (.aload_n 0, 1) := by decide +kernel
theorem d_P_find_65 : decode b_P_find 65 = .ok (.iload_n 2, 1) := by decide +kernel
theorem d_P_find_66 : decode b_P_find 66 = .ok (.invokevirtual 33, 3) := by decide +kernel
theorem d_P_find_69 : decode b_P_find 69 = .ok (.return_, 1) := by decide +kernel
theorem d_P_append_0 : decode b_P_append 0 = .ok (.aload_n 0, 1) := by decide +kernel
theorem d_P_append_1 : decode b_P_append 1 = .ok (.getfield 15, 3) := by decide +kernel
theorem d_P_append_4 : decode b_P_append 4 = .ok (.bipush 6, 2) := by decide +kernel
theorem d_P_append_6 : decode b_P_append 6 = .ok (.if_icmp .ge 23, 3) := by decide +kernel
theorem d_P_append_9 : decode b_P_append 9 = .ok (.aload_n 0, 1) := by decide +kernel
theorem d_P_append_10 : decode b_P_append 10 = .ok (.getfield 9, 3) := by decide +kernel
theorem d_P_append_13 : decode b_P_append 13 = .ok (.aload_n 0, 1) := by decide +kernel
theorem d_P_append_14 : decode b_P_append 14 = .ok (.getfield 15, 3) := by decide +kernel
theorem d_P_append_17 : decode b_P_append 17 = .ok (.iload_n 1, 1) := by decide +kernel
theorem d_P_append_18 : decode b_P_append 18 = .ok (.iastore, 1) := by decide +kernel
theorem d_P_append_19 : decode b_P_append 19 = .ok (.aload_n 0, 1) := by decide +kernel
theorem d_P_append_20 : decode b_P_append 20 = .ok (.dup, 1) := by decide +kernel
theorem d_P_append_21 : decode b_P_append 21 = .ok (.getfield 15, 3) := by decide +kernel
theorem d_P_append_24 : decode b_P_append 24 = .ok (.iconst 1, 1) := by decide +kernel
theorem d_P_append_25 : decode b_P_append 25 = .ok (.iadd, 1) := by decide +kernel
theorem d_P_append_26 : decode b_P_append 26 = .ok (.putfield 15, 3) := by decide +kernel
theorem d_P_append_29 : decode b_P_append 29 = .ok (.return_, 1) := by decide +kernel
theorem d_P_has_0 : decode b_P_has 0 = .ok (.iload_n 1, 1) := by decide +kernel
theorem d_P_has_1 : decode b_P_has 1 = .ok (.ifCond .lt 15, 3) := by decide +kernel
theorem d_P_has_4 : decode b_P_has 4 = .ok (.iload_n 1, 1) := by decide +kernel
theorem d_P_has_5 : decode b_P_has 5 = .ok (.aload_n 0, 1) := by decide +kernel
theorem d_P_has_6 : decode b_P_has 6 = .ok (.getfield 15, 3) := by decide +kernel
theorem d_P_has_9 : decode b_P_has 9 = .ok (.if_icmp .ge 7, 3) := by decide +kernel
theorem d_P_has_12 : decode b_P_has 12 = .ok (.iconst 1, 1) := by decide +kernel
theorem d_P_has_13 : decode b_P_has 13 = .ok (.goto 4, 3) := by decide +kernel
theorem d_P_has_16 : decode b_P_has 16 = .ok (.iconst 0, 1) := by decide +kernel
theorem d_P_has_17 : decode b_P_has 17 = .ok (.ireturn, 1) := by decide +kernel
theorem d_P_at_0 : decode b_P_at 0 = .ok (.aload_n 0, 1) := by decide +kernel
theorem d_P_at_1 : decode b_P_at 1 = .ok (.iload_n 1, 1) := by decide +kernel
theorem d_P_at_2 : decode b_P_at 2 = .ok (.invokevirtual 37, 3) := by decide +kernel
theorem d_P_at_5 : decode b_P_at 5 = .ok (.ifCond .eq 12, 3) := by decide +kernel
theorem d_P_at_8 : decode b_P_at 8 = .ok (.aload_n 0, 1) := by decide +kernel
theorem d_P_at_9 : decode b_P_at 9 = .ok (.getfield 9, 3) := by decide +kernel
theorem d_P_at_12 : decode b_P_at 12 = .ok (.iload_n 1, 1) := by decide +kernel
theorem d_P_at_13 : decode b_P_at 13 = .ok (.iaload, 1) := by decide +kernel
theorem d_P_at_14 : decode b_P_at 14 = .ok (.goto 4, 3) := by decide +kernel
theorem d_P_at_17 : decode b_P_at 17 = .ok (.iconst 0, 1) := by decide +kernel
theorem d_P_at_18 : decode b_P_at 18 = .ok (.ireturn, 1) := by decide +kernel
theorem d_P_without_0 : decode b_P_without 0 = .ok (.iload_n 1, 1) := by decide +kernel
theorem d_P_without_1 : decode b_P_without 1 = .ok (.istore_n 2, 1) := by decide +kernel
theorem d_P_without_2 : decode b_P_without 2 = .ok (.iconst 0, 1) := by decide +kernel
theorem d_P_without_3 : decode b_P_without 3 = .ok (.istore_n 3, 1) := by decide +kernel
theorem d_P_without_4 : decode b_P_without 4 = .ok (.iload_n 3, 1) := by decide +kernel
theorem d_P_without_5 : decode b_P_without 5 = .ok (.ldc 41, 2) := by decide +kernel
theorem d_P_without_7 : decode b_P_without 7 = .ok (.if_icmp .ge 30, 3) := by decide +kernel
theorem d_P_without_10 : decode b_P_without 10 = .ok (.iload_n 2, 1) := by decide +kernel
theorem d_P_without_11 : decode b_P_without 11 = .ok (.i2l, 1) := by decide +kernel
theorem d_P_without_12 : decode b_P_without 12 = .ok (.iload_n 0, 1) := by decide +kernel
theorem d_P_without_13 : decode b_P_without 13 = .ok (.i2l, 1) := by decide +kernel
theorem d_P_without_14 : decode b_P_without 14 = .ok (.invokestatic 29, 3) := by decide +kernel
theorem d_P_without_17 : decode b_P_without 17 = .ok (.lconst 0, 1) := by decide +kernel
theorem d_P_without_18 : decode b_P_without 18 = .ok (.lcmp, 1) := by decide +kernel
theorem d_P_without_19 : decode b_P_without 19 = .ok (.ifCond .ne 18, 3) := by decide +kernel
theorem d_P_without_22 : decode b_P_without 22 = .ok (.iload_n 2, 1) := by decide +kernel
theorem d_P_without_23 : decode b_P_without 23 = .ok (.i2l, 1) := by decide +kernel
theorem d_P_without_24 : decode b_P_without 24 = .ok (.iload_n 0, 1) := by decide +kernel
theorem d_P_without_25 : decode b_P_without 25 = .ok (.i2l, 1) := by decide +kernel
theorem d_P_without_26 : decode b_P_without 26 = .ok (.invokestatic 42, 3) := by decide +kernel
theorem d_P_without_29 : decode b_P_without 29 = .ok (.l2i, 1) := by decide +kernel
theorem d_P_without_30 : decode b_P_without 30 = .ok (.istore_n 2, 1) := by decide +kernel
theorem d_P_without_31 : decode b_P_without 31 = .ok (.iinc 3 1, 3) := by decide +kernel
theorem d_P_without_34 : decode b_P_without 34 = .ok (.goto (-30), 3) := by decide +kernel
theorem d_P_without_37 : decode b_P_without 37 = .ok (.iload_n 2, 1) := by decide +kernel
theorem d_P_without_38 : decode b_P_without 38 = .ok (.ireturn, 1) := by decide +kernel
theorem d_J_floorModI_0 : decode b_J_floorModI 0 = .ok (.iload_n 0, 1) := by decide +kernel
theorem d_J_floorModI_1 : decode b_J_floorModI 1 = .ok (.iload_n 1, 1) := by decide +kernel
theorem d_J_floorModI_2 : decode b_J_floorModI 2 = .ok (.irem, 1) := by decide +kernel
theorem d_J_floorModI_3 : decode b_J_floorModI 3 = .ok (.istore_n 2, 1) := by decide +kernel
theorem d_J_floorModI_4 : decode b_J_floorModI 4 = .ok (.iload_n 0, 1) := by decide +kernel
theorem d_J_floorModI_5 : decode b_J_floorModI 5 = .ok (.iload_n 1, 1) := by decide +kernel
theorem d_J_floorModI_6 : decode b_J_floorModI 6 = .ok (.ixor, 1) := by decide +kernel
theorem d_J_floorModI_7 : decode b_J_floorModI 7 = .ok (.ifCond .ge 11, 3) := by decide +kernel
theorem d_J_floorModI_10 : decode b_J_floorModI 10 = .ok (.iload_n 2, 1) := by decide +kernel
theorem d_J_floorModI_11 : decode b_J_floorModI 11 = .ok (.ifCond .eq 7, 3) := by decide +kernel
theorem d_J_floorModI_14 : decode b_J_floorModI 14 = .ok (.iload_n 2, 1) := by decide +kernel
theorem d_J_floorModI_15 : decode b_J_floorModI 15 = .ok (.iload_n 1, 1) := by decide +kernel
theorem d_J_floorModI_16 : decode b_J_floorModI 16 = .ok (.iadd, 1) := by decide +kernel
theorem d_J_floorModI_17 : decode b_J_floorModI 17 = .ok (.ireturn, 1) := by decide +kernel
theorem d_J_floorModI_18 : decode b_J_floorModI 18 = .ok (.iload_n 2, 1) := by decide +kernel
theorem d_J_floorModI_19 : decode b_J_floorModI 19 = .ok (.ireturn, 1) := by decide +kernel
theorem d_J_floorModJ_0 : decode b_J_floorModJ 0 = .ok (.lload_n 0, 1) := by decide +kernel
theorem d_J_floorModJ_1 : decode b_J_floorModJ 1 = .ok (.lload_n 2, 1) := by decide +kernel
theorem d_J_floorModJ_2 : decode b_J_floorModJ 2 = .ok (.lrem, 1) := by decide +kernel
theorem d_J_floorModJ_3 : decode b_J_floorModJ 3 = .ok (.lstore 4, 2) := by decide +kernel
theorem d_J_floorModJ_5 : decode b_J_floorModJ 5 = .ok (.lload_n 0, 1) := by decide +kernel
theorem d_J_floorModJ_6 : decode b_J_floorModJ 6 = .ok (.lload_n 2, 1) := by decide +kernel
theorem d_J_floorModJ_7 : decode b_J_floorModJ 7 = .ok (.lxor, 1) := by decide +kernel
theorem d_J_floorModJ_8 : decode b_J_floorModJ 8 = .ok (.lconst 0, 1) := by decide +kernel
theorem d_J_floorModJ_9 : decode b_J_floorModJ 9 = .ok (.lcmp, 1) := by decide +kernel
theorem d_J_floorModJ_10 : decode b_J_floorModJ 10 = .ok (.ifCond .ge 15, 3) := by decide +kernel
theorem d_J_floorModJ_13 : decode b_J_floorModJ 13 = .ok (.lload 4, 2) := by decide +kernel
theorem d_J_floorModJ_15 : decode b_J_floorModJ 15 = .ok (.lconst 0, 1) := by decide +kernel
theorem d_J_floorModJ_16 : decode b_J_floorModJ 16 = .ok (.lcmp, 1) := by decide +kernel
theorem d_J_floorModJ_17 : decode b_J_floorModJ 17 = .ok (.ifCond .eq 8, 3) := by decide +kernel
theorem d_J_floorModJ_20 : decode b_J_floorModJ 20 = .ok (.lload 4, 2) := by decide +kernel
theorem d_J_floorModJ_22 : decode b_J_floorModJ 22 = .ok (.lload_n 2, 1) := by decide +kernel
theorem d_J_floorModJ_23 : decode b_J_floorModJ 23 = .ok (.ladd, 1) := by decide +kernel
theorem d_J_floorModJ_24 : decode b_J_floorModJ 24 = .ok (.lreturn, 1) := by decide +kernel
theorem d_J_floorModJ_25 : decode b_J_floorModJ 25 = .ok (.lload 4, 2) := by decide +kernel
theorem d_J_floorModJ_27 : decode b_J_floorModJ 27 = .ok (.lreturn, 1) := by decide +kernel
end
section
/-! What each instruction is (written by program). -/
theorem d_M_init_0 : decode b_M_init 0 = .ok (.aload_n 0, 1) := by decide +kernel
theorem d_M_init_1 : decode b_M_init 1 = .ok (.invokespecial 1, 3) := by decide +kernel
theorem d_M_init_4 : decode b_M_init 4 = .ok (.aload_n 0, 1) := by decide +kernel
theorem d_M_init_5 : decode b_M_init 5 = .ok (.ldc2_w 7, 3) := by decide +kernel
theorem d_M_init_8 : decode b_M_init 8 = .ok (.putfield 9, 3) := by decide +kernel
theorem d_M_init_11 : decode b_M_init 11 = .ok (.aload_n 0, 1) := by decide +kernel
theorem d_M_init_12 : decode b_M_init 12 = .ok (.ldc2_w 15, 3) := by decide +kernel
theorem d_M_init_15 : decode b_M_init 15 = .ok (.putfield 17, 3) := by decide +kernel
theorem d_M_init_18 : decode b_M_init 18 = .ok (.aload_n 0, 1) := by decide +kernel
theorem d_M_init_19 : decode b_M_init 19 = .ok (.bipush 8, 2) := by decide +kernel
theorem d_M_init_21 : decode b_M_init 21 = .ok (.newarray .long, 2) := by decide +kernel
theorem d_M_init_23 : decode b_M_init 23 = .ok (.putfield 20, 3) := by decide +kernel
theorem d_M_init_26 : decode b_M_init 26 = .ok (.aload_n 0, 1) := by decide +kernel
theorem d_M_init_27 : decode b_M_init 27 = .ok (.bipush 8, 2) := by decide +kernel
theorem d_M_init_29 : decode b_M_init 29 = .ok (.newarray .long, 2) := by decide +kernel
theorem d_M_init_31 : decode b_M_init 31 = .ok (.putfield 24, 3) := by decide +kernel
theorem d_M_init_34 : decode b_M_init 34 = .ok (.aload_n 0, 1) := by decide +kernel
theorem d_M_init_35 : decode b_M_init 35 = .ok (.bipush 8, 2) := by decide +kernel
theorem d_M_init_37 : decode b_M_init 37 = .ok (.newarray .long, 2) := by decide +kernel
theorem d_M_init_39 : decode b_M_init 39 = .ok (.putfield 27, 3) := by decide +kernel
theorem d_M_init_42 : decode b_M_init 42 = .ok (.aload_n 0, 1) := by decide +kernel
theorem d_M_init_43 : decode b_M_init 43 = .ok (.bipush 8, 2) := by decide +kernel
theorem d_M_init_45 : decode b_M_init 45 = .ok (.newarray .long, 2) := by decide +kernel
theorem d_M_init_47 : decode b_M_init 47 = .ok (.putfield 30, 3) := by decide +kernel
theorem d_M_init_50 : decode b_M_init 50 = .ok (.aload_n 0, 1) := by decide +kernel
theorem d_M_init_51 : decode b_M_init 51 = .ok (.ldc2_w 7, 3) := by decide +kernel
theorem d_M_init_54 : decode b_M_init 54 = .ok (.invokevirtual 33, 3) := by decide +kernel
theorem d_M_init_57 : decode b_M_init 57 = .ok (.return_, 1) := by decide +kernel
theorem d_M_thrown_0 : decode b_M_thrown 0 = .ok (.aload_n 0, 1) := by decide +kernel
theorem d_M_thrown_1 : decode b_M_thrown 1 = .ok (.getfield 37, 3) := by decide +kernel
theorem d_M_thrown_4 : decode b_M_thrown 4 = .ok (.ireturn, 1) := by decide +kernel
theorem d_M_in_0 : decode b_M_in 0 = .ok (.lload_n 0, 1) := by decide +kernel
theorem d_M_in_1 : decode b_M_in 1 = .ok (.lload_n 2, 1) := by decide +kernel
theorem d_M_in_2 : decode b_M_in 2 = .ok (.lcmp, 1) := by decide +kernel
theorem d_M_in_3 : decode b_M_in 3 = .ok (.ifCond .lt 14, 3) := by decide +kernel
theorem d_M_in_6 : decode b_M_in 6 = .ok (.lload_n 0, 1) := by decide +kernel
theorem d_M_in_7 : decode b_M_in 7 = .ok (.lload 4, 2) := by decide +kernel
theorem d_M_in_9 : decode b_M_in 9 = .ok (.lcmp, 1) := by decide +kernel
theorem d_M_in_10 : decode b_M_in 10 = .ok (.ifCond .gt 7, 3) := by decide +kernel
theorem d_M_in_13 : decode b_M_in 13 = .ok (.iconst 1, 1) := by decide +kernel
theorem d_M_in_14 : decode b_M_in 14 = .ok (.goto 4, 3) := by decide +kernel
theorem d_M_in_17 : decode b_M_in 17 = .ok (.iconst 0, 1) := by decide +kernel
theorem d_M_in_18 : decode b_M_in 18 = .ok (.ireturn, 1) := by decide +kernel
theorem d_M_size_0 : decode b_M_size 0 = .ok (.lload_n 0, 1) := by decide +kernel
theorem d_M_size_1 : decode b_M_size 1 = .ok (.lconst 0, 1) := by decide +kernel
theorem d_M_size_2 : decode b_M_size 2 = .ok (.lcmp, 1) := by decide +kernel
theorem d_M_size_3 : decode b_M_size 3 = .ok (.ifCond .ge 8, 3) := by decide +kernel
theorem d_M_size_6 : decode b_M_size 6 = .ok (.lload_n 0, 1) := by decide +kernel
theorem d_M_size_7 : decode b_M_size 7 = .ok (.lneg, 1) := by decide +kernel
theorem d_M_size_8 : decode b_M_size 8 = .ok (.goto 4, 3) := by decide +kernel
theorem d_M_size_11 : decode b_M_size 11 = .ok (.lload_n 0, 1) := by decide +kernel
theorem d_M_size_12 : decode b_M_size 12 = .ok (.lreturn, 1) := by decide +kernel
theorem d_M_rest_0 : decode b_M_rest 0 = .ok (.lload_n 0, 1) := by decide +kernel
theorem d_M_rest_1 : decode b_M_rest 1 = .ok (.lload_n 2, 1) := by decide +kernel
theorem d_M_rest_2 : decode b_M_rest 2 = .ok (.lrem, 1) := by decide +kernel
theorem d_M_rest_3 : decode b_M_rest 3 = .ok (.lstore 4, 2) := by decide +kernel
theorem d_M_rest_5 : decode b_M_rest 5 = .ok (.lload 4, 2) := by decide +kernel
theorem d_M_rest_7 : decode b_M_rest 7 = .ok (.lconst 0, 1) := by decide +kernel
theorem d_M_rest_8 : decode b_M_rest 8 = .ok (.lcmp, 1) := by decide +kernel
theorem d_M_rest_9 : decode b_M_rest 9 = .ok (.ifCond .ge 10, 3) := by decide +kernel
theorem d_M_rest_12 : decode b_M_rest 12 = .ok (.lload 4, 2) := by decide +kernel
theorem d_M_rest_14 : decode b_M_rest 14 = .ok (.lload_n 2, 1) := by decide +kernel
theorem d_M_rest_15 : decode b_M_rest 15 = .ok (.ladd, 1) := by decide +kernel
theorem d_M_rest_16 : decode b_M_rest 16 = .ok (.goto 5, 3) := by decide +kernel
theorem d_M_rest_19 : decode b_M_rest 19 = .ok (.lload 4, 2) := by decide +kernel
theorem d_M_rest_21 : decode b_M_rest 21 = .ok (.lreturn, 1) := by decide +kernel
theorem d_M_common_0 : decode b_M_common 0 = .ok (.lload_n 0, 1) := by decide +kernel
theorem d_M_common_1 : decode b_M_common 1 = .ok (.invokestatic 41, 3) := by decide +kernel
theorem d_M_common_4 : decode b_M_common 4 = .ok (.lstore 4, 2) := by decide +kernel
theorem d_M_common_6 : decode b_M_common 6 = .ok (.lload_n 2, 1) := by decide +kernel
theorem d_M_common_7 : decode b_M_common 7 = .ok (.invokestatic 41, 3) := by decide +kernel
theorem d_M_common_10 : decode b_M_common 10 = .ok (.lstore 6, 2) := by decide +kernel
theorem d_M_common_12 : decode b_M_common 12 = .ok (.lload 6, 2) := by decide +kernel
theorem d_M_common_14 : decode b_M_common 14 = .ok (.lconst 0, 1) := by decide +kernel
theorem d_M_common_15 : decode b_M_common 15 = .ok (.lcmp, 1) := by decide +kernel
theorem d_M_common_16 : decode b_M_common 16 = .ok (.ifCond .le 21, 3) := by decide +kernel
theorem d_M_common_19 : decode b_M_common 19 = .ok (.lload 4, 2) := by decide +kernel
theorem d_M_common_21 : decode b_M_common 21 = .ok (.lload 6, 2) := by decide +kernel
theorem d_M_common_23 : decode b_M_common 23 = .ok (.lrem, 1) := by decide +kernel
theorem d_M_common_24 : decode b_M_common 24 = .ok (.lstore 8, 2) := by decide +kernel
theorem d_M_common_26 : decode b_M_common 26 = .ok (.lload 6, 2) := by decide +kernel
theorem d_M_common_28 : decode b_M_common 28 = .ok (.lstore 4, 2) := by decide +kernel
theorem d_M_common_30 : decode b_M_common 30 = .ok (.lload 8, 2) := by decide +kernel
theorem d_M_common_32 : decode b_M_common 32 = .ok (.lstore 6, 2) := by decide +kernel
theorem d_M_common_34 : decode b_M_common 34 = .ok (.goto (-22), 3) := by decide +kernel
theorem d_M_common_37 : decode b_M_common 37 = .ok (.lload 4, 2) := by decide +kernel
theorem d_M_common_39 : decode b_M_common 39 = .ok (.lreturn, 1) := by decide +kernel
theorem d_M_rootOf_0 : decode b_M_rootOf 0 = .ok (.lconst 0, 1) := by decide +kernel
theorem d_M_rootOf_1 : decode b_M_rootOf 1 = .ok (.lstore_n 2, 1) := by decide +kernel
theorem d_M_rootOf_2 : decode b_M_rootOf 2 = .ok (.lload_n 2, 1) := by decide +kernel
theorem d_M_rootOf_3 : decode b_M_rootOf 3 = .ok (.lconst 1, 1) := by decide +kernel
theorem d_M_rootOf_4 : decode b_M_rootOf 4 = .ok (.ladd, 1) := by decide +kernel
theorem d_M_rootOf_5 : decode b_M_rootOf 5 = .ok (.lload_n 2, 1) := by decide +kernel
theorem d_M_rootOf_6 : decode b_M_rootOf 6 = .ok (.lconst 1, 1) := by decide +kernel
theorem d_M_rootOf_7 : decode b_M_rootOf 7 = .ok (.ladd, 1) := by decide +kernel
theorem d_M_rootOf_8 : decode b_M_rootOf 8 = .ok (.lmul, 1) := by decide +kernel
theorem d_M_rootOf_9 : decode b_M_rootOf 9 = .ok (.lload_n 0, 1) := by decide +kernel
theorem d_M_rootOf_10 : decode b_M_rootOf 10 = .ok (.lcmp, 1) := by decide +kernel
theorem d_M_rootOf_11 : decode b_M_rootOf 11 = .ok (.ifCond .gt 10, 3) := by decide +kernel
theorem d_M_rootOf_14 : decode b_M_rootOf 14 = .ok (.lload_n 2, 1) := by decide +kernel
theorem d_M_rootOf_15 : decode b_M_rootOf 15 = .ok (.lconst 1, 1) := by decide +kernel
theorem d_M_rootOf_16 : decode b_M_rootOf 16 = .ok (.ladd, 1) := by decide +kernel
theorem d_M_rootOf_17 : decode b_M_rootOf 17 = .ok (.lstore_n 2, 1) := by decide +kernel
theorem d_M_rootOf_18 : decode b_M_rootOf 18 = .ok (.goto (-16), 3) := by decide +kernel
theorem d_M_rootOf_21 : decode b_M_rootOf 21 = .ok (.lload_n 2, 1) := by decide +kernel
theorem d_M_rootOf_22 : decode b_M_rootOf 22 = .ok (.lreturn, 1) := by decide +kernel
theorem d_M_begin_0 : decode b_M_begin 0 = .ok (.aload_n 0, 1) := by decide +kernel
theorem d_M_begin_1 : decode b_M_begin 1 = .ok (.lload_n 1, 1) := by decide +kernel
theorem d_M_begin_2 : decode b_M_begin 2 = .ok (.putfield 9, 3) := by decide +kernel
theorem d_M_begin_5 : decode b_M_begin 5 = .ok (.aload_n 0, 1) := by decide +kernel
theorem d_M_begin_6 : decode b_M_begin 6 = .ok (.aload_n 0, 1) := by decide +kernel
theorem d_M_begin_7 : decode b_M_begin 7 = .ok (.getfield 9, 3) := by decide +kernel
theorem d_M_begin_10 : decode b_M_begin 10 = .ok (.lconst 0, 1) := by decide +kernel
theorem d_M_begin_11 : decode b_M_begin 11 = .ok (.lcmp, 1) := by decide +kernel
theorem d_M_begin_12 : decode b_M_begin 12 = .ok (.ifCond .ge 9, 3) := by decide +kernel
theorem d_M_begin_15 : decode b_M_begin 15 = .ok (.ldc2_w 15, 3) := by decide +kernel
theorem d_M_begin_18 : decode b_M_begin 18 = .ok (.goto 10, 3) := by decide +kernel
theorem d_M_begin_21 : decode b_M_begin 21 = .ok (.aload_n 0, 1) := by decide +kernel
theorem d_M_begin_22 : decode b_M_begin 22 = .ok (.getfield 9, 3) := by decide +kernel
theorem d_M_begin_25 : decode b_M_begin 25 = .ok (.invokestatic 45, 3) := by decide +kernel
theorem d_M_begin_28 : decode b_M_begin 28 = .ok (.putfield 17, 3) := by decide +kernel
theorem d_M_begin_31 : decode b_M_begin 31 = .ok (.aload_n 0, 1) := by decide +kernel
theorem d_M_begin_32 : decode b_M_begin 32 = .ok (.iconst 0, 1) := by decide +kernel
theorem d_M_begin_33 : decode b_M_begin 33 = .ok (.putfield 48, 3) := by decide +kernel
theorem d_M_begin_36 : decode b_M_begin 36 = .ok (.aload_n 0, 1) := by decide +kernel
theorem d_M_begin_37 : decode b_M_begin 37 = .ok (.getfield 9, 3) := by decide +kernel
theorem d_M_begin_40 : decode b_M_begin 40 = .ok (.invokestatic 41, 3) := by decide +kernel
theorem d_M_begin_43 : decode b_M_begin 43 = .ok (.lstore_n 3, 1) := by decide +kernel
theorem d_M_begin_44 : decode b_M_begin 44 = .ok (.ldc2_w 51, 3) := by decide +kernel
theorem d_M_begin_47 : decode b_M_begin 47 = .ok (.lstore 5, 2) := by decide +kernel
theorem d_M_begin_49 : decode b_M_begin 49 = .ok (.lload 5, 2) := by decide +kernel
theorem d_M_begin_51 : decode b_M_begin 51 = .ok (.lload_n 3, 1) := by decide +kernel
theorem d_M_begin_52 : decode b_M_begin 52 = .ok (.lcmp, 1) := by decide +kernel
theorem d_M_begin_53 : decode b_M_begin 53 = .ok (.ifCond .gt 64, 3) := by decide +kernel
theorem d_M_begin_56 : decode b_M_begin 56 = .ok (.lload_n 3, 1) := by decide +kernel
theorem d_M_begin_57 : decode b_M_begin 57 = .ok (.lload 5, 2) := by decide +kernel
theorem d_M_begin_59 : decode b_M_begin 59 = .ok (.lrem, 1) := by decide +kernel
theorem d_M_begin_60 : decode b_M_begin 60 = .ok (.lconst 0, 1) := by decide +kernel
theorem d_M_begin_61 : decode b_M_begin 61 = .ok (.lcmp, 1) := by decide +kernel
theorem d_M_begin_62 : decode b_M_begin 62 = .ok (.ifCond .eq 6, 3) := by decide +kernel
theorem d_M_begin_65 : decode b_M_begin 65 = .ok (.goto 41, 3) := by decide +kernel
theorem d_M_begin_68 : decode b_M_begin 68 = .ok (.aload_n 0, 1) := by decide +kernel
theorem d_M_begin_69 : decode b_M_begin 69 = .ok (.getfield 30, 3) := by decide +kernel
theorem d_M_begin_72 : decode b_M_begin 72 = .ok (.aload_n 0, 1) := by decide +kernel
theorem d_M_begin_73 : decode b_M_begin 73 = .ok (.getfield 48, 3) := by decide +kernel
theorem d_M_begin_76 : decode b_M_begin 76 = .ok (.lload 5, 2) := by decide +kernel
theorem d_M_begin_78 : decode b_M_begin 78 = .ok (.lastore, 1) := by decide +kernel
theorem d_M_begin_79 : decode b_M_begin 79 = .ok (.aload_n 0, 1) := by decide +kernel
theorem d_M_begin_80 : decode b_M_begin 80 = .ok (.dup, 1) := by decide +kernel
theorem d_M_begin_81 : decode b_M_begin 81 = .ok (.getfield 48, 3) := by decide +kernel
theorem d_M_begin_84 : decode b_M_begin 84 = .ok (.iconst 1, 1) := by decide +kernel
theorem d_M_begin_85 : decode b_M_begin 85 = .ok (.iadd, 1) := by decide +kernel
theorem d_M_begin_86 : decode b_M_begin 86 = .ok (.putfield 48, 3) := by decide +kernel
theorem d_M_begin_89 : decode b_M_begin 89 = .ok (.lload_n 3, 1) := by decide +kernel
theorem d_M_begin_90 : decode b_M_begin 90 = .ok (.lload 5, 2) := by decide +kernel
theorem d_M_begin_92 : decode b_M_begin 92 = .ok (.lrem, 1) := by decide +kernel
theorem d_M_begin_93 : decode b_M_begin 93 = .ok (.lconst 0, 1) := by decide +kernel
theorem d_M_begin_94 : decode b_M_begin 94 = .ok (.lcmp, 1) := by decide +kernel
theorem d_M_begin_95 : decode b_M_begin 95 = .ok (.ifCond .ne 11, 3) := by decide +kernel
theorem d_M_begin_98 : decode b_M_begin 98 = .ok (.lload_n 3, 1) := by decide +kernel
theorem d_M_begin_99 : decode b_M_begin 99 = .ok (.lload 5, 2) := by decide +kernel
theorem d_M_begin_101 : decode b_M_begin 101 = .ok (.ldiv, 1) := by decide +kernel
theorem d_M_begin_102 : decode b_M_begin 102 = .ok (.lstore_n 3, 1) := by decide +kernel
theorem d_M_begin_103 : decode b_M_begin 103 = .ok (.goto (-14), 3) := by decide +kernel
theorem d_M_begin_106 : decode b_M_begin 106 = .ok (.lload 5, 2) := by decide +kernel
theorem d_M_begin_108 : decode b_M_begin 108 = .ok (.ldc2_w 53, 3) := by decide +kernel
theorem d_M_begin_111 : decode b_M_begin 111 = .ok (.ladd, 1) := by decide +kernel
theorem d_M_begin_112 : decode b_M_begin 112 = .ok (.lstore 5, 2) := by decide +kernel
theorem d_M_begin_114 : decode b_M_begin 114 = .ok (.goto (-65), 3) := by decide +kernel
theorem d_M_begin_117 : decode b_M_begin 117 = .ok (.iconst 0, 1) := by decide +kernel
theorem d_M_begin_118 : decode b_M_begin 118 = .ok (.istore 5, 2) := by decide +kernel
theorem d_M_begin_120 : decode b_M_begin 120 = .ok (.iload 5, 2) := by decide +kernel
theorem d_M_begin_122 : decode b_M_begin 122 = .ok (.bipush 8, 2) := by decide +kernel
theorem d_M_begin_124 : decode b_M_begin 124 = .ok (.if_icmp .ge 15, 3) := by decide +kernel
theorem d_M_begin_127 : decode b_M_begin 127 = .ok (.aload_n 0, 1) := by decide +kernel
theorem d_M_begin_128 : decode b_M_begin 128 = .ok (.iload 5, 2) := by decide +kernel
theorem d_M_begin_130 : decode b_M_begin 130 = .ok (.invokevirtual 55, 3) := by decide +kernel
theorem d_M_begin_133 : decode b_M_begin 133 = .ok (.iinc 5 1, 3) := by decide +kernel
theorem d_M_begin_136 : decode b_M_begin 136 = .ok (.goto (-16), 3) := by decide +kernel
theorem d_M_begin_139 : decode b_M_begin 139 = .ok (.return_, 1) := by decide +kernel
theorem d_M_take_0 : decode b_M_take 0 = .ok (.iload_n 1, 1) := by decide +kernel
theorem d_M_take_1 : decode b_M_take 1 = .ok (.ifCond .ge 7, 3) := by decide +kernel
theorem d_M_take_4 : decode b_M_take 4 = .ok (.lconst 0, 1) := by decide +kernel
theorem d_M_take_5 : decode b_M_take 5 = .ok (.goto 8, 3) := by decide +kernel
theorem d_M_take_8 : decode b_M_take 8 = .ok (.iload_n 1, 1) := by decide +kernel
theorem d_M_take_9 : decode b_M_take 9 = .ok (.i2l, 1) := by decide +kernel
theorem d_M_take_10 : decode b_M_take 10 = .ok (.invokestatic 45, 3) := by decide +kernel
theorem d_M_take_13 : decode b_M_take 13 = .ok (.lstore_n 2, 1) := by decide +kernel
theorem d_M_take_14 : decode b_M_take 14 = .ok (.aload_n 0, 1) := by decide +kernel
theorem d_M_take_15 : decode b_M_take 15 = .ok (.iload_n 1, 1) := by decide +kernel
theorem d_M_take_16 : decode b_M_take 16 = .ok (.i2l, 1) := by decide +kernel
theorem d_M_take_17 : decode b_M_take 17 = .ok (.ldc2_w 59, 3) := by decide +kernel
theorem d_M_take_20 : decode b_M_take 20 = .ok (.ldc2_w 61, 3) := by decide +kernel
theorem d_M_take_23 : decode b_M_take 23 = .ok (.invokestatic 63, 3) := by decide +kernel
theorem d_M_take_26 : decode b_M_take 26 = .ok (.ifCond .eq 35, 3) := by decide +kernel
theorem d_M_take_29 : decode b_M_take 29 = .ok (.iload_n 1, 1) := by decide +kernel
theorem d_M_take_30 : decode b_M_take 30 = .ok (.i2l, 1) := by decide +kernel
theorem d_M_take_31 : decode b_M_take 31 = .ok (.ldc2_w 67, 3) := by decide +kernel
theorem d_M_take_34 : decode b_M_take 34 = .ok (.invokestatic 69, 3) := by decide +kernel
theorem d_M_take_37 : decode b_M_take 37 = .ok (.ldc2_w 53, 3) := by decide +kernel
theorem d_M_take_40 : decode b_M_take 40 = .ok (.lcmp, 1) := by decide +kernel
theorem d_M_take_41 : decode b_M_take 41 = .ok (.ifCond .ge 20, 3) := by decide +kernel
theorem d_M_take_44 : decode b_M_take 44 = .ok (.iload_n 1, 1) := by decide +kernel
theorem d_M_take_45 : decode b_M_take 45 = .ok (.ifCond .lt 12, 3) := by decide +kernel
theorem d_M_take_48 : decode b_M_take 48 = .ok (.lload_n 2, 1) := by decide +kernel
theorem d_M_take_49 : decode b_M_take 49 = .ok (.lload_n 2, 1) := by decide +kernel
theorem d_M_take_50 : decode b_M_take 50 = .ok (.lmul, 1) := by decide +kernel
theorem d_M_take_51 : decode b_M_take 51 = .ok (.iload_n 1, 1) := by decide +kernel
theorem d_M_take_52 : decode b_M_take 52 = .ok (.i2l, 1) := by decide +kernel
theorem d_M_take_53 : decode b_M_take 53 = .ok (.lcmp, 1) := by decide +kernel
theorem d_M_take_54 : decode b_M_take 54 = .ok (.ifCond .eq 7, 3) := by decide +kernel
theorem d_M_take_57 : decode b_M_take 57 = .ok (.iconst 0, 1) := by decide +kernel
theorem d_M_take_58 : decode b_M_take 58 = .ok (.goto 4, 3) := by decide +kernel
theorem d_M_take_61 : decode b_M_take 61 = .ok (.iconst 1, 1) := by decide +kernel
theorem d_M_take_62 : decode b_M_take 62 = .ok (.putfield 37, 3) := by decide +kernel
theorem d_M_take_65 : decode b_M_take 65 = .ok (.aload_n 0, 1) := by decide +kernel
theorem d_M_take_66 : decode b_M_take 66 = .ok (.getfield 37, 3) := by decide +kernel
theorem d_M_take_69 : decode b_M_take 69 = .ok (.ifCond .ne 9, 3) := by decide +kernel
theorem d_M_take_72 : decode b_M_take 72 = .ok (.aload_n 0, 1) := by decide +kernel
theorem d_M_take_73 : decode b_M_take 73 = .ok (.iload_n 1, 1) := by decide +kernel
theorem d_M_take_74 : decode b_M_take 74 = .ok (.i2l, 1) := by decide +kernel
theorem d_M_take_75 : decode b_M_take 75 = .ok (.invokevirtual 33, 3) := by decide +kernel
theorem d_M_take_78 : decode b_M_take 78 = .ok (.return_, 1) := by decide +kernel
theorem d_M_keep_0 : decode b_M_keep 0 = .ok (.aload_n 0, 1) := by decide +kernel
theorem d_M_keep_1 : decode b_M_keep 1 = .ok (.getfield 20, 3) := by decide +kernel
theorem d_M_keep_4 : decode b_M_keep 4 = .ok (.iload_n 1, 1) := by decide +kernel
theorem d_M_keep_5 : decode b_M_keep 5 = .ok (.aload_n 0, 1) := by decide +kernel
theorem d_M_keep_6 : decode b_M_keep 6 = .ok (.getfield 73, 3) := by decide +kernel
theorem d_M_keep_9 : decode b_M_keep 9 = .ok (.lastore, 1) := by decide +kernel
theorem d_M_keep_10 : decode b_M_keep 10 = .ok (.aload_n 0, 1) := by decide +kernel
theorem d_M_keep_11 : decode b_M_keep 11 = .ok (.getfield 24, 3) := by decide +kernel
theorem d_M_keep_14 : decode b_M_keep 14 = .ok (.iload_n 1, 1) := by decide +kernel
theorem d_M_keep_15 : decode b_M_keep 15 = .ok (.aload_n 0, 1) := by decide +kernel
theorem d_M_keep_16 : decode b_M_keep 16 = .ok (.getfield 76, 3) := by decide +kernel
theorem d_M_keep_19 : decode b_M_keep 19 = .ok (.lastore, 1) := by decide +kernel
theorem d_M_keep_20 : decode b_M_keep 20 = .ok (.aload_n 0, 1) := by decide +kernel
theorem d_M_keep_21 : decode b_M_keep 21 = .ok (.getfield 27, 3) := by decide +kernel
theorem d_M_keep_24 : decode b_M_keep 24 = .ok (.iload_n 1, 1) := by decide +kernel
theorem d_M_keep_25 : decode b_M_keep 25 = .ok (.aload_n 0, 1) := by decide +kernel
theorem d_M_keep_26 : decode b_M_keep 26 = .ok (.getfield 79, 3) := by decide +kernel
theorem d_M_keep_29 : decode b_M_keep 29 = .ok (.lastore, 1) := by decide +kernel
theorem d_M_keep_30 : decode b_M_keep 30 = .ok (.return_, 1) := by decide +kernel
theorem d_M_load_0 : decode b_M_load 0 = .ok (.aload_n 0, 1) := by decide +kernel
theorem d_M_load_1 : decode b_M_load 1 = .ok (.aload_n 0, 1) := by decide +kernel
theorem d_M_load_2 : decode b_M_load 2 = .ok (.getfield 20, 3) := by decide +kernel
theorem d_M_load_5 : decode b_M_load 5 = .ok (.iload_n 1, 1) := by decide +kernel
theorem d_M_load_6 : decode b_M_load 6 = .ok (.laload, 1) := by decide +kernel
theorem d_M_load_7 : decode b_M_load 7 = .ok (.putfield 73, 3) := by decide +kernel
theorem d_M_load_10 : decode b_M_load 10 = .ok (.aload_n 0, 1) := by decide +kernel
theorem d_M_load_11 : decode b_M_load 11 = .ok (.aload_n 0, 1) := by decide +kernel
theorem d_M_load_12 : decode b_M_load 12 = .ok (.getfield 24, 3) := by decide +kernel
theorem d_M_load_15 : decode b_M_load 15 = .ok (.iload_n 1, 1) := by decide +kernel
theorem d_M_load_16 : decode b_M_load 16 = .ok (.laload, 1) := by decide +kernel
theorem d_M_load_17 : decode b_M_load 17 = .ok (.putfield 76, 3) := by decide +kernel
theorem d_M_load_20 : decode b_M_load 20 = .ok (.aload_n 0, 1) := by decide +kernel
theorem d_M_load_21 : decode b_M_load 21 = .ok (.aload_n 0, 1) := by decide +kernel
theorem d_M_load_22 : decode b_M_load 22 = .ok (.getfield 27, 3) := by decide +kernel
theorem d_M_load_25 : decode b_M_load 25 = .ok (.iload_n 1, 1) := by decide +kernel
theorem d_M_load_26 : decode b_M_load 26 = .ok (.laload, 1) := by decide +kernel
theorem d_M_load_27 : decode b_M_load 27 = .ok (.putfield 79, 3) := by decide +kernel
theorem d_M_load_30 : decode b_M_load 30 = .ok (.return_, 1) := by decide +kernel
theorem d_M_one_0 : decode b_M_one 0 = .ok (.aload_n 0, 1) := by decide +kernel
theorem d_M_one_1 : decode b_M_one 1 = .ok (.lconst 1, 1) := by decide +kernel
theorem d_M_one_2 : decode b_M_one 2 = .ok (.putfield 73, 3) := by decide +kernel
theorem d_M_one_5 : decode b_M_one 5 = .ok (.aload_n 0, 1) := by decide +kernel
theorem d_M_one_6 : decode b_M_one 6 = .ok (.aload_n 0, 1) := by decide +kernel
theorem d_M_one_7 : decode b_M_one 7 = .ok (.getfield 9, 3) := by decide +kernel
theorem d_M_one_10 : decode b_M_one 10 = .ok (.ldc2_w 53, 3) := by decide +kernel
theorem d_M_one_13 : decode b_M_one 13 = .ok (.invokestatic 69, 3) := by decide +kernel
theorem d_M_one_16 : decode b_M_one 16 = .ok (.putfield 76, 3) := by decide +kernel
theorem d_M_one_19 : decode b_M_one 19 = .ok (.aload_n 0, 1) := by decide +kernel
theorem d_M_one_20 : decode b_M_one 20 = .ok (.aload_n 0, 1) := by decide +kernel
theorem d_M_one_21 : decode b_M_one 21 = .ok (.getfield 76, 3) := by decide +kernel
theorem d_M_one_24 : decode b_M_one 24 = .ok (.aload_n 0, 1) := by decide +kernel
theorem d_M_one_25 : decode b_M_one 25 = .ok (.getfield 9, 3) := by decide +kernel
theorem d_M_one_28 : decode b_M_one 28 = .ok (.lsub, 1) := by decide +kernel
theorem d_M_one_29 : decode b_M_one 29 = .ok (.ldc2_w 67, 3) := by decide +kernel
theorem d_M_one_32 : decode b_M_one 32 = .ok (.ldiv, 1) := by decide +kernel
theorem d_M_one_33 : decode b_M_one 33 = .ok (.putfield 79, 3) := by decide +kernel
theorem d_M_one_36 : decode b_M_one 36 = .ok (.aload_n 0, 1) := by decide +kernel
theorem d_M_one_37 : decode b_M_one 37 = .ok (.invokevirtual 82, 3) := by decide +kernel
theorem d_M_one_40 : decode b_M_one 40 = .ok (.return_, 1) := by decide +kernel
theorem d_M_keepOne_0 : decode b_M_keepOne 0 = .ok (.aload_n 0, 1) := by decide +kernel
theorem d_M_keepOne_1 : decode b_M_keepOne 1 = .ok (.invokevirtual 85, 3) := by decide +kernel
theorem d_M_keepOne_4 : decode b_M_keepOne 4 = .ok (.aload_n 0, 1) := by decide +kernel
theorem d_M_keepOne_5 : decode b_M_keepOne 5 = .ok (.iload_n 1, 1) := by decide +kernel
theorem d_M_keepOne_6 : decode b_M_keepOne 6 = .ok (.invokevirtual 88, 3) := by decide +kernel
theorem d_M_keepOne_9 : decode b_M_keepOne 9 = .ok (.return_, 1) := by decide +kernel
theorem d_M_isReduced_0 : decode b_M_isReduced 0 = .ok (.aload_n 0, 1) := by decide +kernel
theorem d_M_isReduced_1 : decode b_M_isReduced 1 = .ok (.getfield 9, 3) := by decide +kernel
theorem d_M_isReduced_4 : decode b_M_isReduced 4 = .ok (.lconst 0, 1) := by decide +kernel
theorem d_M_isReduced_5 : decode b_M_isReduced 5 = .ok (.lcmp, 1) := by decide +kernel
theorem d_M_isReduced_6 : decode b_M_isReduced 6 = .ok (.ifCond .ge 70, 3) := by decide +kernel
theorem d_M_isReduced_9 : decode b_M_isReduced 9 = .ok (.aload_n 0, 1) := by decide +kernel
theorem d_M_isReduced_10 : decode b_M_isReduced 10 = .ok (.getfield 76, 3) := by decide +kernel
theorem d_M_isReduced_13 : decode b_M_isReduced 13 = .ok (.invokestatic 41, 3) := by decide +kernel
theorem d_M_isReduced_16 : decode b_M_isReduced 16 = .ok (.aload_n 0, 1) := by decide +kernel
theorem d_M_isReduced_17 : decode b_M_isReduced 17 = .ok (.getfield 73, 3) := by decide +kernel
theorem d_M_isReduced_20 : decode b_M_isReduced 20 = .ok (.lcmp, 1) := by decide +kernel
theorem d_M_isReduced_21 : decode b_M_isReduced 21 = .ok (.ifCond .gt 53, 3) := by decide +kernel
theorem d_M_isReduced_24 : decode b_M_isReduced 24 = .ok (.aload_n 0, 1) := by decide +kernel
theorem d_M_isReduced_25 : decode b_M_isReduced 25 = .ok (.getfield 73, 3) := by decide +kernel
theorem d_M_isReduced_28 : decode b_M_isReduced 28 = .ok (.aload_n 0, 1) := by decide +kernel
theorem d_M_isReduced_29 : decode b_M_isReduced 29 = .ok (.getfield 79, 3) := by decide +kernel
theorem d_M_isReduced_32 : decode b_M_isReduced 32 = .ok (.lcmp, 1) := by decide +kernel
theorem d_M_isReduced_33 : decode b_M_isReduced 33 = .ok (.ifCond .gt 41, 3) := by decide +kernel
theorem d_M_isReduced_36 : decode b_M_isReduced 36 = .ok (.aload_n 0, 1) := by decide +kernel
theorem d_M_isReduced_37 : decode b_M_isReduced 37 = .ok (.getfield 76, 3) := by decide +kernel
theorem d_M_isReduced_40 : decode b_M_isReduced 40 = .ok (.lconst 0, 1) := by decide +kernel
theorem d_M_isReduced_41 : decode b_M_isReduced 41 = .ok (.lcmp, 1) := by decide +kernel
theorem d_M_isReduced_42 : decode b_M_isReduced 42 = .ok (.ifCond .ge 28, 3) := by decide +kernel
theorem d_M_isReduced_45 : decode b_M_isReduced 45 = .ok (.aload_n 0, 1) := by decide +kernel
theorem d_M_isReduced_46 : decode b_M_isReduced 46 = .ok (.getfield 76, 3) := by decide +kernel
theorem d_M_isReduced_49 : decode b_M_isReduced 49 = .ok (.lneg, 1) := by decide +kernel
theorem d_M_isReduced_50 : decode b_M_isReduced 50 = .ok (.aload_n 0, 1) := by decide +kernel
theorem d_M_isReduced_51 : decode b_M_isReduced 51 = .ok (.getfield 73, 3) := by decide +kernel
theorem d_M_isReduced_54 : decode b_M_isReduced 54 = .ok (.lcmp, 1) := by decide +kernel
theorem d_M_isReduced_55 : decode b_M_isReduced 55 = .ok (.ifCond .eq 19, 3) := by decide +kernel
theorem d_M_isReduced_58 : decode b_M_isReduced 58 = .ok (.aload_n 0, 1) := by decide +kernel
theorem d_M_isReduced_59 : decode b_M_isReduced 59 = .ok (.getfield 73, 3) := by decide +kernel
theorem d_M_isReduced_62 : decode b_M_isReduced 62 = .ok (.aload_n 0, 1) := by decide +kernel
theorem d_M_isReduced_63 : decode b_M_isReduced 63 = .ok (.getfield 79, 3) := by decide +kernel
theorem d_M_isReduced_66 : decode b_M_isReduced 66 = .ok (.lcmp, 1) := by decide +kernel
theorem d_M_isReduced_67 : decode b_M_isReduced 67 = .ok (.ifCond .eq 7, 3) := by decide +kernel
theorem d_M_isReduced_70 : decode b_M_isReduced 70 = .ok (.iconst 1, 1) := by decide +kernel
theorem d_M_isReduced_71 : decode b_M_isReduced 71 = .ok (.goto 4, 3) := by decide +kernel
theorem d_M_isReduced_74 : decode b_M_isReduced 74 = .ok (.iconst 0, 1) := by decide +kernel
theorem d_M_isReduced_75 : decode b_M_isReduced 75 = .ok (.ireturn, 1) := by decide +kernel
theorem d_M_isReduced_76 : decode b_M_isReduced 76 = .ok (.aload_n 0, 1) := by decide +kernel
theorem d_M_isReduced_77 : decode b_M_isReduced 77 = .ok (.getfield 76, 3) := by decide +kernel
theorem d_M_isReduced_80 : decode b_M_isReduced 80 = .ok (.lconst 0, 1) := by decide +kernel
theorem d_M_isReduced_81 : decode b_M_isReduced 81 = .ok (.lcmp, 1) := by decide +kernel
theorem d_M_isReduced_82 : decode b_M_isReduced 82 = .ok (.ifCond .le 72, 3) := by decide +kernel
theorem d_M_isReduced_85 : decode b_M_isReduced 85 = .ok (.aload_n 0, 1) := by decide +kernel
theorem d_M_isReduced_86 : decode b_M_isReduced 86 = .ok (.getfield 76, 3) := by decide +kernel
theorem d_M_isReduced_89 : decode b_M_isReduced 89 = .ok (.aload_n 0, 1) := by decide +kernel
theorem d_M_isReduced_90 : decode b_M_isReduced 90 = .ok (.getfield 76, 3) := by decide +kernel
theorem d_M_isReduced_93 : decode b_M_isReduced 93 = .ok (.lmul, 1) := by decide +kernel
theorem d_M_isReduced_94 : decode b_M_isReduced 94 = .ok (.aload_n 0, 1) := by decide +kernel
theorem d_M_isReduced_95 : decode b_M_isReduced 95 = .ok (.getfield 9, 3) := by decide +kernel
theorem d_M_isReduced_98 : decode b_M_isReduced 98 = .ok (.lcmp, 1) := by decide +kernel
theorem d_M_isReduced_99 : decode b_M_isReduced 99 = .ok (.ifCond .ge 55, 3) := by decide +kernel
theorem d_M_isReduced_102 : decode b_M_isReduced 102 = .ok (.ldc2_w 53, 3) := by decide +kernel
theorem d_M_isReduced_105 : decode b_M_isReduced 105 = .ok (.aload_n 0, 1) := by decide +kernel
theorem d_M_isReduced_106 : decode b_M_isReduced 106 = .ok (.getfield 73, 3) := by decide +kernel
theorem d_M_isReduced_109 : decode b_M_isReduced 109 = .ok (.invokestatic 41, 3) := by decide +kernel
theorem d_M_isReduced_112 : decode b_M_isReduced 112 = .ok (.lmul, 1) := by decide +kernel
theorem d_M_isReduced_113 : decode b_M_isReduced 113 = .ok (.aload_n 0, 1) := by decide +kernel
theorem d_M_isReduced_114 : decode b_M_isReduced 114 = .ok (.getfield 76, 3) := by decide +kernel
theorem d_M_isReduced_117 : decode b_M_isReduced 117 = .ok (.ladd, 1) := by decide +kernel
theorem d_M_isReduced_118 : decode b_M_isReduced 118 = .ok (.aload_n 0, 1) := by decide +kernel
theorem d_M_isReduced_119 : decode b_M_isReduced 119 = .ok (.getfield 17, 3) := by decide +kernel
theorem d_M_isReduced_122 : decode b_M_isReduced 122 = .ok (.lcmp, 1) := by decide +kernel
theorem d_M_isReduced_123 : decode b_M_isReduced 123 = .ok (.ifCond .le 31, 3) := by decide +kernel
theorem d_M_isReduced_126 : decode b_M_isReduced 126 = .ok (.ldc2_w 53, 3) := by decide +kernel
theorem d_M_isReduced_129 : decode b_M_isReduced 129 = .ok (.aload_n 0, 1) := by decide +kernel
theorem d_M_isReduced_130 : decode b_M_isReduced 130 = .ok (.getfield 73, 3) := by decide +kernel
theorem d_M_isReduced_133 : decode b_M_isReduced 133 = .ok (.invokestatic 41, 3) := by decide +kernel
theorem d_M_isReduced_136 : decode b_M_isReduced 136 = .ok (.lmul, 1) := by decide +kernel
theorem d_M_isReduced_137 : decode b_M_isReduced 137 = .ok (.aload_n 0, 1) := by decide +kernel
theorem d_M_isReduced_138 : decode b_M_isReduced 138 = .ok (.getfield 76, 3) := by decide +kernel
theorem d_M_isReduced_141 : decode b_M_isReduced 141 = .ok (.lsub, 1) := by decide +kernel
theorem d_M_isReduced_142 : decode b_M_isReduced 142 = .ok (.aload_n 0, 1) := by decide +kernel
theorem d_M_isReduced_143 : decode b_M_isReduced 143 = .ok (.getfield 17, 3) := by decide +kernel
theorem d_M_isReduced_146 : decode b_M_isReduced 146 = .ok (.lcmp, 1) := by decide +kernel
theorem d_M_isReduced_147 : decode b_M_isReduced 147 = .ok (.ifCond .gt 7, 3) := by decide +kernel
theorem d_M_isReduced_150 : decode b_M_isReduced 150 = .ok (.iconst 1, 1) := by decide +kernel
theorem d_M_isReduced_151 : decode b_M_isReduced 151 = .ok (.goto 4, 3) := by decide +kernel
theorem d_M_isReduced_154 : decode b_M_isReduced 154 = .ok (.iconst 0, 1) := by decide +kernel
theorem d_M_isReduced_155 : decode b_M_isReduced 155 = .ok (.ireturn, 1) := by decide +kernel
theorem d_M_step_0 : decode b_M_step 0 = .ok (.ldc2_w 53, 3) := by decide +kernel
theorem d_M_step_3 : decode b_M_step 3 = .ok (.aload_n 0, 1) := by decide +kernel
theorem d_M_step_4 : decode b_M_step 4 = .ok (.getfield 79, 3) := by decide +kernel
theorem d_M_step_7 : decode b_M_step 7 = .ok (.invokestatic 41, 3) := by decide +kernel
theorem d_M_step_10 : decode b_M_step 10 = .ok (.lmul, 1) := by decide +kernel
theorem d_M_step_11 : decode b_M_step 11 = .ok (.lstore_n 1, 1) := by decide +kernel
theorem d_M_step_12 : decode b_M_step 12 = .ok (.aload_n 0, 1) := by decide +kernel
theorem d_M_step_13 : decode b_M_step 13 = .ok (.getfield 9, 3) := by decide +kernel
theorem d_M_step_16 : decode b_M_step 16 = .ok (.lconst 0, 1) := by decide +kernel
theorem d_M_step_17 : decode b_M_step 17 = .ok (.lcmp, 1) := by decide +kernel
theorem d_M_step_18 : decode b_M_step 18 = .ok (.ifCond .lt 18, 3) := by decide +kernel
theorem d_M_step_21 : decode b_M_step 21 = .ok (.aload_n 0, 1) := by decide +kernel
theorem d_M_step_22 : decode b_M_step 22 = .ok (.getfield 79, 3) := by decide +kernel
theorem d_M_step_25 : decode b_M_step 25 = .ok (.invokestatic 41, 3) := by decide +kernel
theorem d_M_step_28 : decode b_M_step 28 = .ok (.aload_n 0, 1) := by decide +kernel
theorem d_M_step_29 : decode b_M_step 29 = .ok (.getfield 17, 3) := by decide +kernel
theorem d_M_step_32 : decode b_M_step 32 = .ok (.lcmp, 1) := by decide +kernel
theorem d_M_step_33 : decode b_M_step 33 = .ok (.ifCond .le 13, 3) := by decide +kernel
theorem d_M_step_36 : decode b_M_step 36 = .ok (.aload_n 0, 1) := by decide +kernel
theorem d_M_step_37 : decode b_M_step 37 = .ok (.getfield 79, 3) := by decide +kernel
theorem d_M_step_40 : decode b_M_step 40 = .ok (.invokestatic 41, 3) := by decide +kernel
theorem d_M_step_43 : decode b_M_step 43 = .ok (.goto 7, 3) := by decide +kernel
theorem d_M_step_46 : decode b_M_step 46 = .ok (.aload_n 0, 1) := by decide +kernel
theorem d_M_step_47 : decode b_M_step 47 = .ok (.getfield 17, 3) := by decide +kernel
theorem d_M_step_50 : decode b_M_step 50 = .ok (.lstore_n 3, 1) := by decide +kernel
theorem d_M_step_51 : decode b_M_step 51 = .ok (.lload_n 3, 1) := by decide +kernel
theorem d_M_step_52 : decode b_M_step 52 = .ok (.lload_n 3, 1) := by decide +kernel
theorem d_M_step_53 : decode b_M_step 53 = .ok (.aload_n 0, 1) := by decide +kernel
theorem d_M_step_54 : decode b_M_step 54 = .ok (.getfield 76, 3) := by decide +kernel
theorem d_M_step_57 : decode b_M_step 57 = .ok (.ladd, 1) := by decide +kernel
theorem d_M_step_58 : decode b_M_step 58 = .ok (.lload_n 1, 1) := by decide +kernel
theorem d_M_step_59 : decode b_M_step 59 = .ok (.invokestatic 69, 3) := by decide +kernel
theorem d_M_step_62 : decode b_M_step 62 = .ok (.lsub, 1) := by decide +kernel
theorem d_M_step_63 : decode b_M_step 63 = .ok (.lstore 5, 2) := by decide +kernel
theorem d_M_step_65 : decode b_M_step 65 = .ok (.lload 5, 2) := by decide +kernel
theorem d_M_step_67 : decode b_M_step 67 = .ok (.lload 5, 2) := by decide +kernel
theorem d_M_step_69 : decode b_M_step 69 = .ok (.lmul, 1) := by decide +kernel
theorem d_M_step_70 : decode b_M_step 70 = .ok (.aload_n 0, 1) := by decide +kernel
theorem d_M_step_71 : decode b_M_step 71 = .ok (.getfield 9, 3) := by decide +kernel
theorem d_M_step_74 : decode b_M_step 74 = .ok (.lsub, 1) := by decide +kernel
theorem d_M_step_75 : decode b_M_step 75 = .ok (.ldc2_w 67, 3) := by decide +kernel
theorem d_M_step_78 : decode b_M_step 78 = .ok (.aload_n 0, 1) := by decide +kernel
theorem d_M_step_79 : decode b_M_step 79 = .ok (.getfield 79, 3) := by decide +kernel
theorem d_M_step_82 : decode b_M_step 82 = .ok (.lmul, 1) := by decide +kernel
theorem d_M_step_83 : decode b_M_step 83 = .ok (.ldiv, 1) := by decide +kernel
theorem d_M_step_84 : decode b_M_step 84 = .ok (.lstore 7, 2) := by decide +kernel
theorem d_M_step_86 : decode b_M_step 86 = .ok (.aload_n 0, 1) := by decide +kernel
theorem d_M_step_87 : decode b_M_step 87 = .ok (.aload_n 0, 1) := by decide +kernel
theorem d_M_step_88 : decode b_M_step 88 = .ok (.getfield 79, 3) := by decide +kernel
theorem d_M_step_91 : decode b_M_step 91 = .ok (.putfield 73, 3) := by decide +kernel
theorem d_M_step_94 : decode b_M_step 94 = .ok (.aload_n 0, 1) := by decide +kernel
theorem d_M_step_95 : decode b_M_step 95 = .ok (.lload 5, 2) := by decide +kernel
theorem d_M_step_97 : decode b_M_step 97 = .ok (.putfield 76, 3) := by decide +kernel
theorem d_M_step_100 : decode b_M_step 100 = .ok (.aload_n 0, 1) := by decide +kernel
theorem d_M_step_101 : decode b_M_step 101 = .ok (.lload 7, 2) := by decide +kernel
theorem d_M_step_103 : decode b_M_step 103 = .ok (.putfield 79, 3) := by decide +kernel
theorem d_M_step_106 : decode b_M_step 106 = .ok (.return_, 1) := by decide +kernel
theorem d_M_toName_0 : decode b_M_toName 0 = .ok (.aload_n 0, 1) := by decide +kernel
theorem d_M_toName_1 : decode b_M_toName 1 = .ok (.invokevirtual 91, 3) := by decide +kernel
theorem d_M_toName_4 : decode b_M_toName 4 = .ok (.ifCond .ne 10, 3) := by decide +kernel
theorem d_M_toName_7 : decode b_M_toName 7 = .ok (.aload_n 0, 1) := by decide +kernel
theorem d_M_toName_8 : decode b_M_toName 8 = .ok (.invokevirtual 95, 3) := by decide +kernel
theorem d_M_toName_11 : decode b_M_toName 11 = .ok (.goto (-11), 3) := by decide +kernel
theorem d_M_toName_14 : decode b_M_toName 14 = .ok (.aload_n 0, 1) := by decide +kernel
theorem d_M_toName_15 : decode b_M_toName 15 = .ok (.getfield 9, 3) := by decide +kernel
theorem d_M_toName_18 : decode b_M_toName 18 = .ok (.lconst 0, 1) := by decide +kernel
theorem d_M_toName_19 : decode b_M_toName 19 = .ok (.lcmp, 1) := by decide +kernel
theorem d_M_toName_20 : decode b_M_toName 20 = .ok (.ifCond .ge 4, 3) := by decide +kernel
theorem d_M_toName_23 : decode b_M_toName 23 = .ok (.return_, 1) := by decide +kernel
theorem d_M_toName_24 : decode b_M_toName 24 = .ok (.aload_n 0, 1) := by decide +kernel
theorem d_M_toName_25 : decode b_M_toName 25 = .ok (.getfield 73, 3) := by decide +kernel
theorem d_M_toName_28 : decode b_M_toName 28 = .ok (.lstore_n 1, 1) := by decide +kernel
theorem d_M_toName_29 : decode b_M_toName 29 = .ok (.aload_n 0, 1) := by decide +kernel
theorem d_M_toName_30 : decode b_M_toName 30 = .ok (.getfield 76, 3) := by decide +kernel
theorem d_M_toName_33 : decode b_M_toName 33 = .ok (.lstore_n 3, 1) := by decide +kernel
theorem d_M_toName_34 : decode b_M_toName 34 = .ok (.aload_n 0, 1) := by decide +kernel
theorem d_M_toName_35 : decode b_M_toName 35 = .ok (.getfield 73, 3) := by decide +kernel
theorem d_M_toName_38 : decode b_M_toName 38 = .ok (.lstore 5, 2) := by decide +kernel
theorem d_M_toName_40 : decode b_M_toName 40 = .ok (.aload_n 0, 1) := by decide +kernel
theorem d_M_toName_41 : decode b_M_toName 41 = .ok (.getfield 76, 3) := by decide +kernel
theorem d_M_toName_44 : decode b_M_toName 44 = .ok (.lstore 7, 2) := by decide +kernel
theorem d_M_toName_46 : decode b_M_toName 46 = .ok (.iconst 1, 1) := by decide +kernel
theorem d_M_toName_47 : decode b_M_toName 47 = .ok (.istore 9, 2) := by decide +kernel
theorem d_M_toName_49 : decode b_M_toName 49 = .ok (.iload 9, 2) := by decide +kernel
theorem d_M_toName_51 : decode b_M_toName 51 = .ok (.ifCond .eq 77, 3) := by decide +kernel
theorem d_M_toName_54 : decode b_M_toName 54 = .ok (.aload_n 0, 1) := by decide +kernel
theorem d_M_toName_55 : decode b_M_toName 55 = .ok (.invokevirtual 95, 3) := by decide +kernel
theorem d_M_toName_58 : decode b_M_toName 58 = .ok (.aload_n 0, 1) := by decide +kernel
theorem d_M_toName_59 : decode b_M_toName 59 = .ok (.getfield 73, 3) := by decide +kernel
theorem d_M_toName_62 : decode b_M_toName 62 = .ok (.lload_n 1, 1) := by decide +kernel
theorem d_M_toName_63 : decode b_M_toName 63 = .ok (.lcmp, 1) := by decide +kernel
theorem d_M_toName_64 : decode b_M_toName 64 = .ok (.ifCond .ne 12, 3) := by decide +kernel
theorem d_M_toName_67 : decode b_M_toName 67 = .ok (.aload_n 0, 1) := by decide +kernel
theorem d_M_toName_68 : decode b_M_toName 68 = .ok (.getfield 76, 3) := by decide +kernel
theorem d_M_toName_71 : decode b_M_toName 71 = .ok (.lload_n 3, 1) := by decide +kernel
theorem d_M_toName_72 : decode b_M_toName 72 = .ok (.lcmp, 1) := by decide +kernel
theorem d_M_toName_73 : decode b_M_toName 73 = .ok (.ifCond .eq 7, 3) := by decide +kernel
theorem d_M_toName_76 : decode b_M_toName 76 = .ok (.iconst 1, 1) := by decide +kernel
theorem d_M_toName_77 : decode b_M_toName 77 = .ok (.goto 4, 3) := by decide +kernel
theorem d_M_toName_80 : decode b_M_toName 80 = .ok (.iconst 0, 1) := by decide +kernel
theorem d_M_toName_81 : decode b_M_toName 81 = .ok (.istore 9, 2) := by decide +kernel
theorem d_M_toName_83 : decode b_M_toName 83 = .ok (.aload_n 0, 1) := by decide +kernel
theorem d_M_toName_84 : decode b_M_toName 84 = .ok (.getfield 73, 3) := by decide +kernel
theorem d_M_toName_87 : decode b_M_toName 87 = .ok (.lload 5, 2) := by decide +kernel
theorem d_M_toName_89 : decode b_M_toName 89 = .ok (.lcmp, 1) := by decide +kernel
theorem d_M_toName_90 : decode b_M_toName 90 = .ok (.ifCond .lt 23, 3) := by decide +kernel
theorem d_M_toName_93 : decode b_M_toName 93 = .ok (.aload_n 0, 1) := by decide +kernel
theorem d_M_toName_94 : decode b_M_toName 94 = .ok (.getfield 73, 3) := by decide +kernel
theorem d_M_toName_97 : decode b_M_toName 97 = .ok (.lload 5, 2) := by decide +kernel
theorem d_M_toName_99 : decode b_M_toName 99 = .ok (.lcmp, 1) := by decide +kernel
theorem d_M_toName_100 : decode b_M_toName 100 = .ok (.ifCond .ne (-51), 3) := by decide +kernel
theorem d_M_toName_103 : decode b_M_toName 103 = .ok (.aload_n 0, 1) := by decide +kernel
theorem d_M_toName_104 : decode b_M_toName 104 = .ok (.getfield 76, 3) := by decide +kernel
theorem d_M_toName_107 : decode b_M_toName 107 = .ok (.lload 7, 2) := by decide +kernel
theorem d_M_toName_109 : decode b_M_toName 109 = .ok (.lcmp, 1) := by decide +kernel
theorem d_M_toName_110 : decode b_M_toName 110 = .ok (.ifCond .ge (-61), 3) := by decide +kernel
theorem d_M_toName_113 : decode b_M_toName 113 = .ok (.aload_n 0, 1) := by decide +kernel
theorem d_M_toName_114 : decode b_M_toName 114 = .ok (.getfield 73, 3) := by decide +kernel
theorem d_M_toName_117 : decode b_M_toName 117 = .ok (.lstore 5, 2) := by decide +kernel
theorem d_M_toName_119 : decode b_M_toName 119 = .ok (.aload_n 0, 1) := by decide +kernel
theorem d_M_toName_120 : decode b_M_toName 120 = .ok (.getfield 76, 3) := by decide +kernel
theorem d_M_toName_123 : decode b_M_toName 123 = .ok (.lstore 7, 2) := by decide +kernel
theorem d_M_toName_125 : decode b_M_toName 125 = .ok (.goto (-76), 3) := by decide +kernel
theorem d_M_toName_128 : decode b_M_toName 128 = .ok (.aload_n 0, 1) := by decide +kernel
theorem d_M_toName_129 : decode b_M_toName 129 = .ok (.lload 5, 2) := by decide +kernel
theorem d_M_toName_131 : decode b_M_toName 131 = .ok (.putfield 73, 3) := by decide +kernel
theorem d_M_toName_134 : decode b_M_toName 134 = .ok (.aload_n 0, 1) := by decide +kernel
theorem d_M_toName_135 : decode b_M_toName 135 = .ok (.lload 7, 2) := by decide +kernel
theorem d_M_toName_137 : decode b_M_toName 137 = .ok (.putfield 76, 3) := by decide +kernel
theorem d_M_toName_140 : decode b_M_toName 140 = .ok (.aload_n 0, 1) := by decide +kernel
theorem d_M_toName_141 : decode b_M_toName 141 = .ok (.aload_n 0, 1) := by decide +kernel
theorem d_M_toName_142 : decode b_M_toName 142 = .ok (.getfield 76, 3) := by decide +kernel
theorem d_M_toName_145 : decode b_M_toName 145 = .ok (.aload_n 0, 1) := by decide +kernel
theorem d_M_toName_146 : decode b_M_toName 146 = .ok (.getfield 76, 3) := by decide +kernel
theorem d_M_toName_149 : decode b_M_toName 149 = .ok (.lmul, 1) := by decide +kernel
theorem d_M_toName_150 : decode b_M_toName 150 = .ok (.aload_n 0, 1) := by decide +kernel
theorem d_M_toName_151 : decode b_M_toName 151 = .ok (.getfield 9, 3) := by decide +kernel
theorem d_M_toName_154 : decode b_M_toName 154 = .ok (.lsub, 1) := by decide +kernel
theorem d_M_toName_155 : decode b_M_toName 155 = .ok (.ldc2_w 67, 3) := by decide +kernel
theorem d_M_toName_158 : decode b_M_toName 158 = .ok (.aload_n 0, 1) := by decide +kernel
theorem d_M_toName_159 : decode b_M_toName 159 = .ok (.getfield 73, 3) := by decide +kernel
theorem d_M_toName_162 : decode b_M_toName 162 = .ok (.lmul, 1) := by decide +kernel
theorem d_M_toName_163 : decode b_M_toName 163 = .ok (.ldiv, 1) := by decide +kernel
theorem d_M_toName_164 : decode b_M_toName 164 = .ok (.putfield 79, 3) := by decide +kernel
theorem d_M_toName_167 : decode b_M_toName 167 = .ok (.return_, 1) := by decide +kernel
theorem d_M_formsOf_0 : decode b_M_formsOf 0 = .ok (.aload_n 0, 1) := by decide +kernel
theorem d_M_formsOf_1 : decode b_M_formsOf 1 = .ok (.getfield 9, 3) := by decide +kernel
theorem d_M_formsOf_4 : decode b_M_formsOf 4 = .ok (.lconst 0, 1) := by decide +kernel
theorem d_M_formsOf_5 : decode b_M_formsOf 5 = .ok (.lcmp, 1) := by decide +kernel
theorem d_M_formsOf_6 : decode b_M_formsOf 6 = .ok (.ifCond .ge 5, 3) := by decide +kernel
theorem d_M_formsOf_9 : decode b_M_formsOf 9 = .ok (.iconst 1, 1) := by decide +kernel
theorem d_M_formsOf_10 : decode b_M_formsOf 10 = .ok (.ireturn, 1) := by decide +kernel
theorem d_M_formsOf_11 : decode b_M_formsOf 11 = .ok (.aload_n 0, 1) := by decide +kernel
theorem d_M_formsOf_12 : decode b_M_formsOf 12 = .ok (.iload_n 1, 1) := by decide +kernel
theorem d_M_formsOf_13 : decode b_M_formsOf 13 = .ok (.invokevirtual 98, 3) := by decide +kernel
theorem d_M_formsOf_16 : decode b_M_formsOf 16 = .ok (.iconst 0, 1) := by decide +kernel
theorem d_M_formsOf_17 : decode b_M_formsOf 17 = .ok (.istore_n 2, 1) := by decide +kernel
theorem d_M_formsOf_18 : decode b_M_formsOf 18 = .ok (.aload_n 0, 1) := by decide +kernel
theorem d_M_formsOf_19 : decode b_M_formsOf 19 = .ok (.invokevirtual 95, 3) := by decide +kernel
theorem d_M_formsOf_22 : decode b_M_formsOf 22 = .ok (.iinc 2 1, 3) := by decide +kernel
theorem d_M_formsOf_25 : decode b_M_formsOf 25 = .ok (.aload_n 0, 1) := by decide +kernel
theorem d_M_formsOf_26 : decode b_M_formsOf 26 = .ok (.getfield 73, 3) := by decide +kernel
theorem d_M_formsOf_29 : decode b_M_formsOf 29 = .ok (.aload_n 0, 1) := by decide +kernel
theorem d_M_formsOf_30 : decode b_M_formsOf 30 = .ok (.getfield 20, 3) := by decide +kernel
theorem d_M_formsOf_33 : decode b_M_formsOf 33 = .ok (.iload_n 1, 1) := by decide +kernel
theorem d_M_formsOf_34 : decode b_M_formsOf 34 = .ok (.laload, 1) := by decide +kernel
theorem d_M_formsOf_35 : decode b_M_formsOf 35 = .ok (.lcmp, 1) := by decide +kernel
theorem d_M_formsOf_36 : decode b_M_formsOf 36 = .ok (.ifCond .ne (-18), 3) := by decide +kernel
theorem d_M_formsOf_39 : decode b_M_formsOf 39 = .ok (.aload_n 0, 1) := by decide +kernel
theorem d_M_formsOf_40 : decode b_M_formsOf 40 = .ok (.getfield 76, 3) := by decide +kernel
theorem d_M_formsOf_43 : decode b_M_formsOf 43 = .ok (.aload_n 0, 1) := by decide +kernel
theorem d_M_formsOf_44 : decode b_M_formsOf 44 = .ok (.getfield 24, 3) := by decide +kernel
theorem d_M_formsOf_47 : decode b_M_formsOf 47 = .ok (.iload_n 1, 1) := by decide +kernel
theorem d_M_formsOf_48 : decode b_M_formsOf 48 = .ok (.laload, 1) := by decide +kernel
theorem d_M_formsOf_49 : decode b_M_formsOf 49 = .ok (.lcmp, 1) := by decide +kernel
theorem d_M_formsOf_50 : decode b_M_formsOf 50 = .ok (.ifCond .ne (-32), 3) := by decide +kernel
theorem d_M_formsOf_53 : decode b_M_formsOf 53 = .ok (.iload_n 2, 1) := by decide +kernel
theorem d_M_formsOf_54 : decode b_M_formsOf 54 = .ok (.ireturn, 1) := by decide +kernel
theorem d_M_put_0 : decode b_M_put 0 = .ok (.aload_n 0, 1) := by decide +kernel
theorem d_M_put_1 : decode b_M_put 1 = .ok (.iload_n 1, 1) := by decide +kernel
theorem d_M_put_2 : decode b_M_put 2 = .ok (.i2l, 1) := by decide +kernel
theorem d_M_put_3 : decode b_M_put 3 = .ok (.lconst 0, 1) := by decide +kernel
theorem d_M_put_4 : decode b_M_put 4 = .ok (.ldc2_w 101, 3) := by decide +kernel
theorem d_M_put_7 : decode b_M_put 7 = .ok (.invokestatic 63, 3) := by decide +kernel
theorem d_M_put_10 : decode b_M_put 10 = .ok (.ifCond .eq 7, 3) := by decide +kernel
theorem d_M_put_13 : decode b_M_put 13 = .ok (.iconst 0, 1) := by decide +kernel
theorem d_M_put_14 : decode b_M_put 14 = .ok (.goto 4, 3) := by decide +kernel
theorem d_M_put_17 : decode b_M_put 17 = .ok (.iconst 1, 1) := by decide +kernel
theorem d_M_put_18 : decode b_M_put 18 = .ok (.putfield 37, 3) := by decide +kernel
theorem d_M_put_21 : decode b_M_put 21 = .ok (.aload_n 0, 1) := by decide +kernel
theorem d_M_put_22 : decode b_M_put 22 = .ok (.getfield 37, 3) := by decide +kernel
theorem d_M_put_25 : decode b_M_put 25 = .ok (.ifCond .le 4, 3) := by decide +kernel
theorem d_M_put_28 : decode b_M_put 28 = .ok (.return_, 1) := by decide +kernel
theorem d_M_put_29 : decode b_M_put 29 = .ok (.iload_n 2, 1) := by decide +kernel
theorem d_M_put_30 : decode b_M_put 30 = .ok (.i2l, 1) := by decide +kernel
theorem d_M_put_31 : decode b_M_put 31 = .ok (.ldc2_w 103, 3) := by decide +kernel
theorem d_M_put_34 : decode b_M_put 34 = .ok (.ldc2_w 105, 3) := by decide +kernel
theorem d_M_put_37 : decode b_M_put 37 = .ok (.invokestatic 63, 3) := by decide +kernel
theorem d_M_put_40 : decode b_M_put 40 = .ok (.ifCond .eq 36, 3) := by decide +kernel
theorem d_M_put_43 : decode b_M_put 43 = .ok (.iload_n 3, 1) := by decide +kernel
theorem d_M_put_44 : decode b_M_put 44 = .ok (.i2l, 1) := by decide +kernel
theorem d_M_put_45 : decode b_M_put 45 = .ok (.ldc2_w 103, 3) := by decide +kernel
theorem d_M_put_48 : decode b_M_put 48 = .ok (.ldc2_w 105, 3) := by decide +kernel
theorem d_M_put_51 : decode b_M_put 51 = .ok (.invokestatic 63, 3) := by decide +kernel
theorem d_M_put_54 : decode b_M_put 54 = .ok (.ifCond .eq 22, 3) := by decide +kernel
theorem d_M_put_57 : decode b_M_put 57 = .ok (.iload 4, 2) := by decide +kernel
theorem d_M_put_59 : decode b_M_put 59 = .ok (.i2l, 1) := by decide +kernel
theorem d_M_put_60 : decode b_M_put 60 = .ok (.ldc2_w 103, 3) := by decide +kernel
theorem d_M_put_63 : decode b_M_put 63 = .ok (.ldc2_w 105, 3) := by decide +kernel
theorem d_M_put_66 : decode b_M_put 66 = .ok (.invokestatic 63, 3) := by decide +kernel
theorem d_M_put_69 : decode b_M_put 69 = .ok (.ifCond .eq 7, 3) := by decide +kernel
theorem d_M_put_72 : decode b_M_put 72 = .ok (.iconst 1, 1) := by decide +kernel
theorem d_M_put_73 : decode b_M_put 73 = .ok (.goto 4, 3) := by decide +kernel
theorem d_M_put_76 : decode b_M_put 76 = .ok (.iconst 0, 1) := by decide +kernel
theorem d_M_put_77 : decode b_M_put 77 = .ok (.istore 5, 2) := by decide +kernel
theorem d_M_put_79 : decode b_M_put 79 = .ok (.iload 5, 2) := by decide +kernel
theorem d_M_put_81 : decode b_M_put 81 = .ok (.ifCond .eq 62, 3) := by decide +kernel
theorem d_M_put_84 : decode b_M_put 84 = .ok (.iload_n 3, 1) := by decide +kernel
theorem d_M_put_85 : decode b_M_put 85 = .ok (.i2l, 1) := by decide +kernel
theorem d_M_put_86 : decode b_M_put 86 = .ok (.iload_n 3, 1) := by decide +kernel
theorem d_M_put_87 : decode b_M_put 87 = .ok (.i2l, 1) := by decide +kernel
theorem d_M_put_88 : decode b_M_put 88 = .ok (.lmul, 1) := by decide +kernel
theorem d_M_put_89 : decode b_M_put 89 = .ok (.ldc2_w 67, 3) := by decide +kernel
theorem d_M_put_92 : decode b_M_put 92 = .ok (.iload_n 2, 1) := by decide +kernel
theorem d_M_put_93 : decode b_M_put 93 = .ok (.i2l, 1) := by decide +kernel
theorem d_M_put_94 : decode b_M_put 94 = .ok (.lmul, 1) := by decide +kernel
theorem d_M_put_95 : decode b_M_put 95 = .ok (.iload 4, 2) := by decide +kernel
theorem d_M_put_97 : decode b_M_put 97 = .ok (.i2l, 1) := by decide +kernel
theorem d_M_put_98 : decode b_M_put 98 = .ok (.lmul, 1) := by decide +kernel
theorem d_M_put_99 : decode b_M_put 99 = .ok (.lsub, 1) := by decide +kernel
theorem d_M_put_100 : decode b_M_put 100 = .ok (.aload_n 0, 1) := by decide +kernel
theorem d_M_put_101 : decode b_M_put 101 = .ok (.getfield 9, 3) := by decide +kernel
theorem d_M_put_104 : decode b_M_put 104 = .ok (.lcmp, 1) := by decide +kernel
theorem d_M_put_105 : decode b_M_put 105 = .ok (.ifCond .ne 38, 3) := by decide +kernel
theorem d_M_put_108 : decode b_M_put 108 = .ok (.aload_n 0, 1) := by decide +kernel
theorem d_M_put_109 : decode b_M_put 109 = .ok (.getfield 9, 3) := by decide +kernel
theorem d_M_put_112 : decode b_M_put 112 = .ok (.lconst 0, 1) := by decide +kernel
theorem d_M_put_113 : decode b_M_put 113 = .ok (.lcmp, 1) := by decide +kernel
theorem d_M_put_114 : decode b_M_put 114 = .ok (.ifCond .gt 7, 3) := by decide +kernel
theorem d_M_put_117 : decode b_M_put 117 = .ok (.iload_n 2, 1) := by decide +kernel
theorem d_M_put_118 : decode b_M_put 118 = .ok (.ifCond .le 25, 3) := by decide +kernel
theorem d_M_put_121 : decode b_M_put 121 = .ok (.iload_n 2, 1) := by decide +kernel
theorem d_M_put_122 : decode b_M_put 122 = .ok (.i2l, 1) := by decide +kernel
theorem d_M_put_123 : decode b_M_put 123 = .ok (.iload_n 3, 1) := by decide +kernel
theorem d_M_put_124 : decode b_M_put 124 = .ok (.i2l, 1) := by decide +kernel
theorem d_M_put_125 : decode b_M_put 125 = .ok (.invokestatic 107, 3) := by decide +kernel
theorem d_M_put_128 : decode b_M_put 128 = .ok (.iload 4, 2) := by decide +kernel
theorem d_M_put_130 : decode b_M_put 130 = .ok (.i2l, 1) := by decide +kernel
theorem d_M_put_131 : decode b_M_put 131 = .ok (.invokestatic 107, 3) := by decide +kernel
theorem d_M_put_134 : decode b_M_put 134 = .ok (.lconst 1, 1) := by decide +kernel
theorem d_M_put_135 : decode b_M_put 135 = .ok (.lcmp, 1) := by decide +kernel
theorem d_M_put_136 : decode b_M_put 136 = .ok (.ifCond .ne 7, 3) := by decide +kernel
theorem d_M_put_139 : decode b_M_put 139 = .ok (.iconst 1, 1) := by decide +kernel
theorem d_M_put_140 : decode b_M_put 140 = .ok (.goto 4, 3) := by decide +kernel
theorem d_M_put_143 : decode b_M_put 143 = .ok (.iconst 0, 1) := by decide +kernel
theorem d_M_put_144 : decode b_M_put 144 = .ok (.istore 6, 2) := by decide +kernel
theorem d_M_put_146 : decode b_M_put 146 = .ok (.aload_n 0, 1) := by decide +kernel
theorem d_M_put_147 : decode b_M_put 147 = .ok (.iload 6, 2) := by decide +kernel
theorem d_M_put_149 : decode b_M_put 149 = .ok (.ifCond .eq 7, 3) := by decide +kernel
theorem d_M_put_152 : decode b_M_put 152 = .ok (.iconst 0, 1) := by decide +kernel
theorem d_M_put_153 : decode b_M_put 153 = .ok (.goto 4, 3) := by decide +kernel
theorem d_M_put_156 : decode b_M_put 156 = .ok (.iconst 2, 1) := by decide +kernel
theorem d_M_put_157 : decode b_M_put 157 = .ok (.putfield 37, 3) := by decide +kernel
theorem d_M_put_160 : decode b_M_put 160 = .ok (.aload_n 0, 1) := by decide +kernel
theorem d_M_put_161 : decode b_M_put 161 = .ok (.getfield 37, 3) := by decide +kernel
theorem d_M_put_164 : decode b_M_put 164 = .ok (.ifCond .le 4, 3) := by decide +kernel
theorem d_M_put_167 : decode b_M_put 167 = .ok (.return_, 1) := by decide +kernel
theorem d_M_put_168 : decode b_M_put 168 = .ok (.aload_n 0, 1) := by decide +kernel
theorem d_M_put_169 : decode b_M_put 169 = .ok (.iload_n 2, 1) := by decide +kernel
theorem d_M_put_170 : decode b_M_put 170 = .ok (.i2l, 1) := by decide +kernel
theorem d_M_put_171 : decode b_M_put 171 = .ok (.putfield 73, 3) := by decide +kernel
theorem d_M_put_174 : decode b_M_put 174 = .ok (.aload_n 0, 1) := by decide +kernel
theorem d_M_put_175 : decode b_M_put 175 = .ok (.iload_n 3, 1) := by decide +kernel
theorem d_M_put_176 : decode b_M_put 176 = .ok (.i2l, 1) := by decide +kernel
theorem d_M_put_177 : decode b_M_put 177 = .ok (.putfield 76, 3) := by decide +kernel
theorem d_M_put_180 : decode b_M_put 180 = .ok (.aload_n 0, 1) := by decide +kernel
theorem d_M_put_181 : decode b_M_put 181 = .ok (.iload 4, 2) := by decide +kernel
theorem d_M_put_183 : decode b_M_put 183 = .ok (.i2l, 1) := by decide +kernel
theorem d_M_put_184 : decode b_M_put 184 = .ok (.putfield 79, 3) := by decide +kernel
theorem d_M_put_187 : decode b_M_put 187 = .ok (.aload_n 0, 1) := by decide +kernel
theorem d_M_put_188 : decode b_M_put 188 = .ok (.invokevirtual 82, 3) := by decide +kernel
theorem d_M_put_191 : decode b_M_put 191 = .ok (.aload_n 0, 1) := by decide +kernel
theorem d_M_put_192 : decode b_M_put 192 = .ok (.iload_n 1, 1) := by decide +kernel
theorem d_M_put_193 : decode b_M_put 193 = .ok (.invokevirtual 88, 3) := by decide +kernel
theorem d_M_put_196 : decode b_M_put 196 = .ok (.return_, 1) := by decide +kernel
theorem d_M_inverse_0 : decode b_M_inverse 0 = .ok (.lconst 1, 1) := by decide +kernel
theorem d_M_inverse_1 : decode b_M_inverse 1 = .ok (.lstore 4, 2) := by decide +kernel
theorem d_M_inverse_3 : decode b_M_inverse 3 = .ok (.lconst 0, 1) := by decide +kernel
theorem d_M_inverse_4 : decode b_M_inverse 4 = .ok (.lstore 6, 2) := by decide +kernel
theorem d_M_inverse_6 : decode b_M_inverse 6 = .ok (.lload_n 0, 1) := by decide +kernel
theorem d_M_inverse_7 : decode b_M_inverse 7 = .ok (.lload_n 2, 1) := by decide +kernel
theorem d_M_inverse_8 : decode b_M_inverse 8 = .ok (.invokestatic 69, 3) := by decide +kernel
theorem d_M_inverse_11 : decode b_M_inverse 11 = .ok (.lstore 8, 2) := by decide +kernel
theorem d_M_inverse_13 : decode b_M_inverse 13 = .ok (.lload_n 2, 1) := by decide +kernel
theorem d_M_inverse_14 : decode b_M_inverse 14 = .ok (.lstore 10, 2) := by decide +kernel
theorem d_M_inverse_16 : decode b_M_inverse 16 = .ok (.lload 10, 2) := by decide +kernel
theorem d_M_inverse_18 : decode b_M_inverse 18 = .ok (.lconst 0, 1) := by decide +kernel
theorem d_M_inverse_19 : decode b_M_inverse 19 = .ok (.lcmp, 1) := by decide +kernel
theorem d_M_inverse_20 : decode b_M_inverse 20 = .ok (.ifCond .le 49, 3) := by decide +kernel
theorem d_M_inverse_23 : decode b_M_inverse 23 = .ok (.lload 8, 2) := by decide +kernel
theorem d_M_inverse_25 : decode b_M_inverse 25 = .ok (.lload 10, 2) := by decide +kernel
theorem d_M_inverse_27 : decode b_M_inverse 27 = .ok (.ldiv, 1) := by decide +kernel
theorem d_M_inverse_28 : decode b_M_inverse 28 = .ok (.lstore 12, 2) := by decide +kernel
theorem d_M_inverse_30 : decode b_M_inverse 30 = .ok (.lload 8, 2) := by decide +kernel
theorem d_M_inverse_32 : decode b_M_inverse 32 = .ok (.lload 12, 2) := by decide +kernel
theorem d_M_inverse_34 : decode b_M_inverse 34 = .ok (.lload 10, 2) := by decide +kernel
theorem d_M_inverse_36 : decode b_M_inverse 36 = .ok (.lmul, 1) := by decide +kernel
theorem d_M_inverse_37 : decode b_M_inverse 37 = .ok (.lsub, 1) := by decide +kernel
theorem d_M_inverse_38 : decode b_M_inverse 38 = .ok (.lstore 14, 2) := by decide +kernel
theorem d_M_inverse_40 : decode b_M_inverse 40 = .ok (.lload 10, 2) := by decide +kernel
theorem d_M_inverse_42 : decode b_M_inverse 42 = .ok (.lstore 8, 2) := by decide +kernel
theorem d_M_inverse_44 : decode b_M_inverse 44 = .ok (.lload 14, 2) := by decide +kernel
theorem d_M_inverse_46 : decode b_M_inverse 46 = .ok (.lstore 10, 2) := by decide +kernel
theorem d_M_inverse_48 : decode b_M_inverse 48 = .ok (.lload 4, 2) := by decide +kernel
theorem d_M_inverse_50 : decode b_M_inverse 50 = .ok (.lload 12, 2) := by decide +kernel
theorem d_M_inverse_52 : decode b_M_inverse 52 = .ok (.lload 6, 2) := by decide +kernel
theorem d_M_inverse_54 : decode b_M_inverse 54 = .ok (.lmul, 1) := by decide +kernel
theorem d_M_inverse_55 : decode b_M_inverse 55 = .ok (.lsub, 1) := by decide +kernel
theorem d_M_inverse_56 : decode b_M_inverse 56 = .ok (.lstore 14, 2) := by decide +kernel
theorem d_M_inverse_58 : decode b_M_inverse 58 = .ok (.lload 6, 2) := by decide +kernel
theorem d_M_inverse_60 : decode b_M_inverse 60 = .ok (.lstore 4, 2) := by decide +kernel
theorem d_M_inverse_62 : decode b_M_inverse 62 = .ok (.lload 14, 2) := by decide +kernel
theorem d_M_inverse_64 : decode b_M_inverse 64 = .ok (.lstore 6, 2) := by decide +kernel
theorem d_M_inverse_66 : decode b_M_inverse 66 = .ok (.goto (-50), 3) := by decide +kernel
theorem d_M_inverse_69 : decode b_M_inverse 69 = .ok (.lload 4, 2) := by decide +kernel
theorem d_M_inverse_71 : decode b_M_inverse 71 = .ok (.lload_n 2, 1) := by decide +kernel
theorem d_M_inverse_72 : decode b_M_inverse 72 = .ok (.invokestatic 69, 3) := by decide +kernel
theorem d_M_inverse_75 : decode b_M_inverse 75 = .ok (.lreturn, 1) := by decide +kernel
theorem d_M_slide_0 : decode b_M_slide 0 = .ok (.aload_n 0, 1) := by decide +kernel
theorem d_M_slide_1 : decode b_M_slide 1 = .ok (.aload_n 0, 1) := by decide +kernel
theorem d_M_slide_2 : decode b_M_slide 2 = .ok (.getfield 73, 3) := by decide +kernel
theorem d_M_slide_5 : decode b_M_slide 5 = .ok (.lload_n 1, 1) := by decide +kernel
theorem d_M_slide_6 : decode b_M_slide 6 = .ok (.lmul, 1) := by decide +kernel
theorem d_M_slide_7 : decode b_M_slide 7 = .ok (.lload_n 1, 1) := by decide +kernel
theorem d_M_slide_8 : decode b_M_slide 8 = .ok (.lmul, 1) := by decide +kernel
theorem d_M_slide_9 : decode b_M_slide 9 = .ok (.aload_n 0, 1) := by decide +kernel
theorem d_M_slide_10 : decode b_M_slide 10 = .ok (.getfield 76, 3) := by decide +kernel
theorem d_M_slide_13 : decode b_M_slide 13 = .ok (.lload_n 1, 1) := by decide +kernel
theorem d_M_slide_14 : decode b_M_slide 14 = .ok (.lmul, 1) := by decide +kernel
theorem d_M_slide_15 : decode b_M_slide 15 = .ok (.ladd, 1) := by decide +kernel
theorem d_M_slide_16 : decode b_M_slide 16 = .ok (.aload_n 0, 1) := by decide +kernel
theorem d_M_slide_17 : decode b_M_slide 17 = .ok (.getfield 79, 3) := by decide +kernel
theorem d_M_slide_20 : decode b_M_slide 20 = .ok (.ladd, 1) := by decide +kernel
theorem d_M_slide_21 : decode b_M_slide 21 = .ok (.putfield 79, 3) := by decide +kernel
theorem d_M_slide_24 : decode b_M_slide 24 = .ok (.aload_n 0, 1) := by decide +kernel
theorem d_M_slide_25 : decode b_M_slide 25 = .ok (.aload_n 0, 1) := by decide +kernel
theorem d_M_slide_26 : decode b_M_slide 26 = .ok (.getfield 76, 3) := by decide +kernel
theorem d_M_slide_29 : decode b_M_slide 29 = .ok (.ldc2_w 53, 3) := by decide +kernel
theorem d_M_slide_32 : decode b_M_slide 32 = .ok (.aload_n 0, 1) := by decide +kernel
theorem d_M_slide_33 : decode b_M_slide 33 = .ok (.getfield 73, 3) := by decide +kernel
theorem d_M_slide_36 : decode b_M_slide 36 = .ok (.lmul, 1) := by decide +kernel
theorem d_M_slide_37 : decode b_M_slide 37 = .ok (.lload_n 1, 1) := by decide +kernel
theorem d_M_slide_38 : decode b_M_slide 38 = .ok (.lmul, 1) := by decide +kernel
theorem d_M_slide_39 : decode b_M_slide 39 = .ok (.ladd, 1) := by decide +kernel
theorem d_M_slide_40 : decode b_M_slide 40 = .ok (.putfield 76, 3) := by decide +kernel
theorem d_M_slide_43 : decode b_M_slide 43 = .ok (.return_, 1) := by decide +kernel
theorem d_M_turn_0 : decode b_M_turn 0 = .ok (.aload_n 0, 1) := by decide +kernel
theorem d_M_turn_1 : decode b_M_turn 1 = .ok (.getfield 73, 3) := by decide +kernel
theorem d_M_turn_4 : decode b_M_turn 4 = .ok (.lstore_n 1, 1) := by decide +kernel
theorem d_M_turn_5 : decode b_M_turn 5 = .ok (.aload_n 0, 1) := by decide +kernel
theorem d_M_turn_6 : decode b_M_turn 6 = .ok (.aload_n 0, 1) := by decide +kernel
theorem d_M_turn_7 : decode b_M_turn 7 = .ok (.getfield 79, 3) := by decide +kernel
theorem d_M_turn_10 : decode b_M_turn 10 = .ok (.putfield 73, 3) := by decide +kernel
theorem d_M_turn_13 : decode b_M_turn 13 = .ok (.aload_n 0, 1) := by decide +kernel
theorem d_M_turn_14 : decode b_M_turn 14 = .ok (.aload_n 0, 1) := by decide +kernel
theorem d_M_turn_15 : decode b_M_turn 15 = .ok (.getfield 76, 3) := by decide +kernel
theorem d_M_turn_18 : decode b_M_turn 18 = .ok (.lneg, 1) := by decide +kernel
theorem d_M_turn_19 : decode b_M_turn 19 = .ok (.putfield 76, 3) := by decide +kernel
theorem d_M_turn_22 : decode b_M_turn 22 = .ok (.aload_n 0, 1) := by decide +kernel
theorem d_M_turn_23 : decode b_M_turn 23 = .ok (.lload_n 1, 1) := by decide +kernel
theorem d_M_turn_24 : decode b_M_turn 24 = .ok (.putfield 79, 3) := by decide +kernel
theorem d_M_turn_27 : decode b_M_turn 27 = .ok (.return_, 1) := by decide +kernel
theorem d_M_freeOf_0 : decode b_M_freeOf 0 = .ok (.aload_n 0, 1) := by decide +kernel
theorem d_M_freeOf_1 : decode b_M_freeOf 1 = .ok (.getfield 73, 3) := by decide +kernel
theorem d_M_freeOf_4 : decode b_M_freeOf 4 = .ok (.lstore_n 3, 1) := by decide +kernel
theorem d_M_freeOf_5 : decode b_M_freeOf 5 = .ok (.aload_n 0, 1) := by decide +kernel
theorem d_M_freeOf_6 : decode b_M_freeOf 6 = .ok (.getfield 76, 3) := by decide +kernel
theorem d_M_freeOf_9 : decode b_M_freeOf 9 = .ok (.lstore 5, 2) := by decide +kernel
theorem d_M_freeOf_11 : decode b_M_freeOf 11 = .ok (.aload_n 0, 1) := by decide +kernel
theorem d_M_freeOf_12 : decode b_M_freeOf 12 = .ok (.getfield 79, 3) := by decide +kernel
theorem d_M_freeOf_15 : decode b_M_freeOf 15 = .ok (.lstore 7, 2) := by decide +kernel
theorem d_M_freeOf_17 : decode b_M_freeOf 17 = .ok (.lconst 0, 1) := by decide +kernel
theorem d_M_freeOf_18 : decode b_M_freeOf 18 = .ok (.lstore 9, 2) := by decide +kernel
theorem d_M_freeOf_20 : decode b_M_freeOf 20 = .ok (.aload_n 0, 1) := by decide +kernel
theorem d_M_freeOf_21 : decode b_M_freeOf 21 = .ok (.getfield 73, 3) := by decide +kernel
theorem d_M_freeOf_24 : decode b_M_freeOf 24 = .ok (.lload_n 1, 1) := by decide +kernel
theorem d_M_freeOf_25 : decode b_M_freeOf 25 = .ok (.invokestatic 107, 3) := by decide +kernel
theorem d_M_freeOf_28 : decode b_M_freeOf 28 = .ok (.lconst 1, 1) := by decide +kernel
theorem d_M_freeOf_29 : decode b_M_freeOf 29 = .ok (.lcmp, 1) := by decide +kernel
theorem d_M_freeOf_30 : decode b_M_freeOf 30 = .ok (.ifCond .eq 100, 3) := by decide +kernel
theorem d_M_freeOf_33 : decode b_M_freeOf 33 = .ok (.lload 9, 2) := by decide +kernel
theorem d_M_freeOf_35 : decode b_M_freeOf 35 = .ok (.lneg, 1) := by decide +kernel
theorem d_M_freeOf_36 : decode b_M_freeOf 36 = .ok (.lstore 11, 2) := by decide +kernel
theorem d_M_freeOf_38 : decode b_M_freeOf 38 = .ok (.lload 11, 2) := by decide +kernel
theorem d_M_freeOf_40 : decode b_M_freeOf 40 = .ok (.lload 9, 2) := by decide +kernel
theorem d_M_freeOf_42 : decode b_M_freeOf 42 = .ok (.lcmp, 1) := by decide +kernel
theorem d_M_freeOf_43 : decode b_M_freeOf 43 = .ok (.ifCond .gt 78, 3) := by decide +kernel
theorem d_M_freeOf_46 : decode b_M_freeOf 46 = .ok (.aload_n 0, 1) := by decide +kernel
theorem d_M_freeOf_47 : decode b_M_freeOf 47 = .ok (.getfield 73, 3) := by decide +kernel
theorem d_M_freeOf_50 : decode b_M_freeOf 50 = .ok (.lload_n 1, 1) := by decide +kernel
theorem d_M_freeOf_51 : decode b_M_freeOf 51 = .ok (.invokestatic 107, 3) := by decide +kernel
theorem d_M_freeOf_54 : decode b_M_freeOf 54 = .ok (.lconst 1, 1) := by decide +kernel
theorem d_M_freeOf_55 : decode b_M_freeOf 55 = .ok (.lcmp, 1) := by decide +kernel
theorem d_M_freeOf_56 : decode b_M_freeOf 56 = .ok (.ifCond .eq 65, 3) := by decide +kernel
theorem d_M_freeOf_59 : decode b_M_freeOf 59 = .ok (.aload_n 0, 1) := by decide +kernel
theorem d_M_freeOf_60 : decode b_M_freeOf 60 = .ok (.lload_n 3, 1) := by decide +kernel
theorem d_M_freeOf_61 : decode b_M_freeOf 61 = .ok (.putfield 73, 3) := by decide +kernel
theorem d_M_freeOf_64 : decode b_M_freeOf 64 = .ok (.aload_n 0, 1) := by decide +kernel
theorem d_M_freeOf_65 : decode b_M_freeOf 65 = .ok (.lload 5, 2) := by decide +kernel
theorem d_M_freeOf_67 : decode b_M_freeOf 67 = .ok (.putfield 76, 3) := by decide +kernel
theorem d_M_freeOf_70 : decode b_M_freeOf 70 = .ok (.aload_n 0, 1) := by decide +kernel
theorem d_M_freeOf_71 : decode b_M_freeOf 71 = .ok (.lload 7, 2) := by decide +kernel
theorem d_M_freeOf_73 : decode b_M_freeOf 73 = .ok (.putfield 79, 3) := by decide +kernel
theorem d_M_freeOf_76 : decode b_M_freeOf 76 = .ok (.aload_n 0, 1) := by decide +kernel
theorem d_M_freeOf_77 : decode b_M_freeOf 77 = .ok (.lload 11, 2) := by decide +kernel
theorem d_M_freeOf_79 : decode b_M_freeOf 79 = .ok (.invokevirtual 110, 3) := by decide +kernel
theorem d_M_freeOf_82 : decode b_M_freeOf 82 = .ok (.aload_n 0, 1) := by decide +kernel
theorem d_M_freeOf_83 : decode b_M_freeOf 83 = .ok (.invokevirtual 113, 3) := by decide +kernel
theorem d_M_freeOf_86 : decode b_M_freeOf 86 = .ok (.aload_n 0, 1) := by decide +kernel
theorem d_M_freeOf_87 : decode b_M_freeOf 87 = .ok (.getfield 73, 3) := by decide +kernel
theorem d_M_freeOf_90 : decode b_M_freeOf 90 = .ok (.lload_n 1, 1) := by decide +kernel
theorem d_M_freeOf_91 : decode b_M_freeOf 91 = .ok (.invokestatic 107, 3) := by decide +kernel
theorem d_M_freeOf_94 : decode b_M_freeOf 94 = .ok (.lconst 1, 1) := by decide +kernel
theorem d_M_freeOf_95 : decode b_M_freeOf 95 = .ok (.lcmp, 1) := by decide +kernel
theorem d_M_freeOf_96 : decode b_M_freeOf 96 = .ok (.ifCond .ne 6, 3) := by decide +kernel
theorem d_M_freeOf_99 : decode b_M_freeOf 99 = .ok (.goto 13, 3) := by decide +kernel
theorem d_M_freeOf_102 : decode b_M_freeOf 102 = .ok (.aload_n 0, 1) := by decide +kernel
theorem d_M_freeOf_103 : decode b_M_freeOf 103 = .ok (.lload 9, 2) := by decide +kernel
theorem d_M_freeOf_105 : decode b_M_freeOf 105 = .ok (.invokevirtual 110, 3) := by decide +kernel
theorem d_M_freeOf_108 : decode b_M_freeOf 108 = .ok (.aload_n 0, 1) := by decide +kernel
theorem d_M_freeOf_109 : decode b_M_freeOf 109 = .ok (.invokevirtual 113, 3) := by decide +kernel
theorem d_M_freeOf_112 : decode b_M_freeOf 112 = .ok (.lload 11, 2) := by decide +kernel
theorem d_M_freeOf_114 : decode b_M_freeOf 114 = .ok (.lconst 1, 1) := by decide +kernel
theorem d_M_freeOf_115 : decode b_M_freeOf 115 = .ok (.ladd, 1) := by decide +kernel
theorem d_M_freeOf_116 : decode b_M_freeOf 116 = .ok (.lstore 11, 2) := by decide +kernel
theorem d_M_freeOf_118 : decode b_M_freeOf 118 = .ok (.goto (-80), 3) := by decide +kernel
theorem d_M_freeOf_121 : decode b_M_freeOf 121 = .ok (.lload 9, 2) := by decide +kernel
theorem d_M_freeOf_123 : decode b_M_freeOf 123 = .ok (.lconst 1, 1) := by decide +kernel
theorem d_M_freeOf_124 : decode b_M_freeOf 124 = .ok (.ladd, 1) := by decide +kernel
theorem d_M_freeOf_125 : decode b_M_freeOf 125 = .ok (.lstore 9, 2) := by decide +kernel
theorem d_M_freeOf_127 : decode b_M_freeOf 127 = .ok (.goto (-107), 3) := by decide +kernel
theorem d_M_freeOf_130 : decode b_M_freeOf 130 = .ok (.return_, 1) := by decide +kernel
theorem d_M_times_0 : decode b_M_times 0 = .ok (.aload_n 0, 1) := by decide +kernel
theorem d_M_times_1 : decode b_M_times 1 = .ok (.getfield 73, 3) := by decide +kernel
theorem d_M_times_4 : decode b_M_times 4 = .ok (.lstore_n 2, 1) := by decide +kernel
theorem d_M_times_5 : decode b_M_times 5 = .ok (.aload_n 0, 1) := by decide +kernel
theorem d_M_times_6 : decode b_M_times 6 = .ok (.getfield 76, 3) := by decide +kernel
theorem d_M_times_9 : decode b_M_times 9 = .ok (.lstore 4, 2) := by decide +kernel
theorem d_M_times_11 : decode b_M_times 11 = .ok (.aload_n 0, 1) := by decide +kernel
theorem d_M_times_12 : decode b_M_times 12 = .ok (.getfield 79, 3) := by decide +kernel
theorem d_M_times_15 : decode b_M_times 15 = .ok (.lstore 6, 2) := by decide +kernel
theorem d_M_times_17 : decode b_M_times 17 = .ok (.aload_n 0, 1) := by decide +kernel
theorem d_M_times_18 : decode b_M_times 18 = .ok (.iload_n 1, 1) := by decide +kernel
theorem d_M_times_19 : decode b_M_times 19 = .ok (.invokevirtual 98, 3) := by decide +kernel
theorem d_M_times_22 : decode b_M_times 22 = .ok (.aload_n 0, 1) := by decide +kernel
theorem d_M_times_23 : decode b_M_times 23 = .ok (.lload_n 2, 1) := by decide +kernel
theorem d_M_times_24 : decode b_M_times 24 = .ok (.invokevirtual 116, 3) := by decide +kernel
theorem d_M_times_27 : decode b_M_times 27 = .ok (.aload_n 0, 1) := by decide +kernel
theorem d_M_times_28 : decode b_M_times 28 = .ok (.getfield 73, 3) := by decide +kernel
theorem d_M_times_31 : decode b_M_times 31 = .ok (.invokestatic 41, 3) := by decide +kernel
theorem d_M_times_34 : decode b_M_times 34 = .ok (.lstore 8, 2) := by decide +kernel
theorem d_M_times_36 : decode b_M_times 36 = .ok (.aload_n 0, 1) := by decide +kernel
theorem d_M_times_37 : decode b_M_times 37 = .ok (.getfield 76, 3) := by decide +kernel
theorem d_M_times_40 : decode b_M_times 40 = .ok (.lload 4, 2) := by decide +kernel
theorem d_M_times_42 : decode b_M_times 42 = .ok (.lsub, 1) := by decide +kernel
theorem d_M_times_43 : decode b_M_times 43 = .ok (.ldc2_w 53, 3) := by decide +kernel
theorem d_M_times_46 : decode b_M_times 46 = .ok (.ldiv, 1) := by decide +kernel
theorem d_M_times_47 : decode b_M_times 47 = .ok (.lload 8, 2) := by decide +kernel
theorem d_M_times_49 : decode b_M_times 49 = .ok (.invokestatic 69, 3) := by decide +kernel
theorem d_M_times_52 : decode b_M_times 52 = .ok (.lload_n 2, 1) := by decide +kernel
theorem d_M_times_53 : decode b_M_times 53 = .ok (.lload 8, 2) := by decide +kernel
theorem d_M_times_55 : decode b_M_times 55 = .ok (.invokestatic 119, 3) := by decide +kernel
theorem d_M_times_58 : decode b_M_times 58 = .ok (.lmul, 1) := by decide +kernel
theorem d_M_times_59 : decode b_M_times 59 = .ok (.lload 8, 2) := by decide +kernel
theorem d_M_times_61 : decode b_M_times 61 = .ok (.invokestatic 69, 3) := by decide +kernel
theorem d_M_times_64 : decode b_M_times 64 = .ok (.lstore 10, 2) := by decide +kernel
theorem d_M_times_66 : decode b_M_times 66 = .ok (.aload_n 0, 1) := by decide +kernel
theorem d_M_times_67 : decode b_M_times 67 = .ok (.lload 4, 2) := by decide +kernel
theorem d_M_times_69 : decode b_M_times 69 = .ok (.ldc2_w 53, 3) := by decide +kernel
theorem d_M_times_72 : decode b_M_times 72 = .ok (.lload_n 2, 1) := by decide +kernel
theorem d_M_times_73 : decode b_M_times 73 = .ok (.lmul, 1) := by decide +kernel
theorem d_M_times_74 : decode b_M_times 74 = .ok (.lload 10, 2) := by decide +kernel
theorem d_M_times_76 : decode b_M_times 76 = .ok (.lmul, 1) := by decide +kernel
theorem d_M_times_77 : decode b_M_times 77 = .ok (.ladd, 1) := by decide +kernel
theorem d_M_times_78 : decode b_M_times 78 = .ok (.putfield 76, 3) := by decide +kernel
theorem d_M_times_81 : decode b_M_times 81 = .ok (.aload_n 0, 1) := by decide +kernel
theorem d_M_times_82 : decode b_M_times 82 = .ok (.lload 6, 2) := by decide +kernel
theorem d_M_times_84 : decode b_M_times 84 = .ok (.lload 4, 2) := by decide +kernel
theorem d_M_times_86 : decode b_M_times 86 = .ok (.lload 10, 2) := by decide +kernel
theorem d_M_times_88 : decode b_M_times 88 = .ok (.lmul, 1) := by decide +kernel
theorem d_M_times_89 : decode b_M_times 89 = .ok (.ladd, 1) := by decide +kernel
theorem d_M_times_90 : decode b_M_times 90 = .ok (.lload_n 2, 1) := by decide +kernel
theorem d_M_times_91 : decode b_M_times 91 = .ok (.lload 10, 2) := by decide +kernel
theorem d_M_times_93 : decode b_M_times 93 = .ok (.lmul, 1) := by decide +kernel
theorem d_M_times_94 : decode b_M_times 94 = .ok (.lload 10, 2) := by decide +kernel
theorem d_M_times_96 : decode b_M_times 96 = .ok (.lmul, 1) := by decide +kernel
theorem d_M_times_97 : decode b_M_times 97 = .ok (.ladd, 1) := by decide +kernel
theorem d_M_times_98 : decode b_M_times 98 = .ok (.aload_n 0, 1) := by decide +kernel
theorem d_M_times_99 : decode b_M_times 99 = .ok (.getfield 73, 3) := by decide +kernel
theorem d_M_times_102 : decode b_M_times 102 = .ok (.ldiv, 1) := by decide +kernel
theorem d_M_times_103 : decode b_M_times 103 = .ok (.putfield 79, 3) := by decide +kernel
theorem d_M_times_106 : decode b_M_times 106 = .ok (.aload_n 0, 1) := by decide +kernel
theorem d_M_times_107 : decode b_M_times 107 = .ok (.lload_n 2, 1) := by decide +kernel
theorem d_M_times_108 : decode b_M_times 108 = .ok (.aload_n 0, 1) := by decide +kernel
theorem d_M_times_109 : decode b_M_times 109 = .ok (.getfield 73, 3) := by decide +kernel
theorem d_M_times_112 : decode b_M_times 112 = .ok (.lmul, 1) := by decide +kernel
theorem d_M_times_113 : decode b_M_times 113 = .ok (.putfield 73, 3) := by decide +kernel
theorem d_M_times_116 : decode b_M_times 116 = .ok (.ldc2_w 53, 3) := by decide +kernel
theorem d_M_times_119 : decode b_M_times 119 = .ok (.aload_n 0, 1) := by decide +kernel
theorem d_M_times_120 : decode b_M_times 120 = .ok (.getfield 73, 3) := by decide +kernel
theorem d_M_times_123 : decode b_M_times 123 = .ok (.invokestatic 41, 3) := by decide +kernel
theorem d_M_times_126 : decode b_M_times 126 = .ok (.lmul, 1) := by decide +kernel
theorem d_M_times_127 : decode b_M_times 127 = .ok (.lstore 12, 2) := by decide +kernel
theorem d_M_times_129 : decode b_M_times 129 = .ok (.aload_n 0, 1) := by decide +kernel
theorem d_M_times_130 : decode b_M_times 130 = .ok (.getfield 76, 3) := by decide +kernel
theorem d_M_times_133 : decode b_M_times 133 = .ok (.lload 12, 2) := by decide +kernel
theorem d_M_times_135 : decode b_M_times 135 = .ok (.invokestatic 69, 3) := by decide +kernel
theorem d_M_times_138 : decode b_M_times 138 = .ok (.lstore 14, 2) := by decide +kernel
theorem d_M_times_140 : decode b_M_times 140 = .ok (.ldc2_w 53, 3) := by decide +kernel
theorem d_M_times_143 : decode b_M_times 143 = .ok (.lload 14, 2) := by decide +kernel
theorem d_M_times_145 : decode b_M_times 145 = .ok (.lmul, 1) := by decide +kernel
theorem d_M_times_146 : decode b_M_times 146 = .ok (.lload 12, 2) := by decide +kernel
theorem d_M_times_148 : decode b_M_times 148 = .ok (.lcmp, 1) := by decide +kernel
theorem d_M_times_149 : decode b_M_times 149 = .ok (.ifCond .le 10, 3) := by decide +kernel
theorem d_M_times_152 : decode b_M_times 152 = .ok (.lload 14, 2) := by decide +kernel
theorem d_M_times_154 : decode b_M_times 154 = .ok (.lload 12, 2) := by decide +kernel
theorem d_M_times_156 : decode b_M_times 156 = .ok (.lsub, 1) := by decide +kernel
theorem d_M_times_157 : decode b_M_times 157 = .ok (.lstore 14, 2) := by decide +kernel
theorem d_M_times_159 : decode b_M_times 159 = .ok (.aload_n 0, 1) := by decide +kernel
theorem d_M_times_160 : decode b_M_times 160 = .ok (.lload 14, 2) := by decide +kernel
theorem d_M_times_162 : decode b_M_times 162 = .ok (.aload_n 0, 1) := by decide +kernel
theorem d_M_times_163 : decode b_M_times 163 = .ok (.getfield 76, 3) := by decide +kernel
theorem d_M_times_166 : decode b_M_times 166 = .ok (.lsub, 1) := by decide +kernel
theorem d_M_times_167 : decode b_M_times 167 = .ok (.ldc2_w 53, 3) := by decide +kernel
theorem d_M_times_170 : decode b_M_times 170 = .ok (.aload_n 0, 1) := by decide +kernel
theorem d_M_times_171 : decode b_M_times 171 = .ok (.getfield 73, 3) := by decide +kernel
theorem d_M_times_174 : decode b_M_times 174 = .ok (.lmul, 1) := by decide +kernel
theorem d_M_times_175 : decode b_M_times 175 = .ok (.ldiv, 1) := by decide +kernel
theorem d_M_times_176 : decode b_M_times 176 = .ok (.invokevirtual 110, 3) := by decide +kernel
theorem d_M_times_179 : decode b_M_times 179 = .ok (.aload_n 0, 1) := by decide +kernel
theorem d_M_times_180 : decode b_M_times 180 = .ok (.invokevirtual 82, 3) := by decide +kernel
theorem d_M_times_183 : decode b_M_times 183 = .ok (.return_, 1) := by decide +kernel
theorem d_M_isRegister_0 : decode b_M_isRegister 0 = .ok (.iload_n 0, 1) := by decide +kernel
theorem d_M_isRegister_1 : decode b_M_isRegister 1 = .ok (.i2l, 1) := by decide +kernel
theorem d_M_isRegister_2 : decode b_M_isRegister 2 = .ok (.lconst 0, 1) := by decide +kernel
theorem d_M_isRegister_3 : decode b_M_isRegister 3 = .ok (.ldc2_w 101, 3) := by decide +kernel
theorem d_M_isRegister_6 : decode b_M_isRegister 6 = .ok (.invokestatic 63, 3) := by decide +kernel
theorem d_M_isRegister_9 : decode b_M_isRegister 9 = .ok (.ireturn, 1) := by decide +kernel
theorem d_M_compose_0 : decode b_M_compose 0 = .ok (.aload_n 0, 1) := by decide +kernel
theorem d_M_compose_1 : decode b_M_compose 1 = .ok (.iload_n 1, 1) := by decide +kernel
theorem d_M_compose_2 : decode b_M_compose 2 = .ok (.invokestatic 122, 3) := by decide +kernel
theorem d_M_compose_5 : decode b_M_compose 5 = .ok (.ifCond .eq 21, 3) := by decide +kernel
theorem d_M_compose_8 : decode b_M_compose 8 = .ok (.iload_n 2, 1) := by decide +kernel
theorem d_M_compose_9 : decode b_M_compose 9 = .ok (.invokestatic 122, 3) := by decide +kernel
theorem d_M_compose_12 : decode b_M_compose 12 = .ok (.ifCond .eq 14, 3) := by decide +kernel
theorem d_M_compose_15 : decode b_M_compose 15 = .ok (.iload_n 3, 1) := by decide +kernel
theorem d_M_compose_16 : decode b_M_compose 16 = .ok (.invokestatic 122, 3) := by decide +kernel
theorem d_M_compose_19 : decode b_M_compose 19 = .ok (.ifCond .eq 7, 3) := by decide +kernel
theorem d_M_compose_22 : decode b_M_compose 22 = .ok (.iconst 0, 1) := by decide +kernel
theorem d_M_compose_23 : decode b_M_compose 23 = .ok (.goto 4, 3) := by decide +kernel
theorem d_M_compose_26 : decode b_M_compose 26 = .ok (.iconst 1, 1) := by decide +kernel
theorem d_M_compose_27 : decode b_M_compose 27 = .ok (.putfield 37, 3) := by decide +kernel
theorem d_M_compose_30 : decode b_M_compose 30 = .ok (.aload_n 0, 1) := by decide +kernel
theorem d_M_compose_31 : decode b_M_compose 31 = .ok (.getfield 37, 3) := by decide +kernel
theorem d_M_compose_34 : decode b_M_compose 34 = .ok (.ifCond .le 4, 3) := by decide +kernel
theorem d_M_compose_37 : decode b_M_compose 37 = .ok (.return_, 1) := by decide +kernel
theorem d_M_compose_38 : decode b_M_compose 38 = .ok (.aload_n 0, 1) := by decide +kernel
theorem d_M_compose_39 : decode b_M_compose 39 = .ok (.iload_n 2, 1) := by decide +kernel
theorem d_M_compose_40 : decode b_M_compose 40 = .ok (.invokevirtual 98, 3) := by decide +kernel
theorem d_M_compose_43 : decode b_M_compose 43 = .ok (.aload_n 0, 1) := by decide +kernel
theorem d_M_compose_44 : decode b_M_compose 44 = .ok (.iload_n 3, 1) := by decide +kernel
theorem d_M_compose_45 : decode b_M_compose 45 = .ok (.invokevirtual 126, 3) := by decide +kernel
theorem d_M_compose_48 : decode b_M_compose 48 = .ok (.aload_n 0, 1) := by decide +kernel
theorem d_M_compose_49 : decode b_M_compose 49 = .ok (.iload_n 1, 1) := by decide +kernel
theorem d_M_compose_50 : decode b_M_compose 50 = .ok (.invokevirtual 88, 3) := by decide +kernel
theorem d_M_compose_53 : decode b_M_compose 53 = .ok (.return_, 1) := by decide +kernel
theorem d_M_invert_0 : decode b_M_invert 0 = .ok (.aload_n 0, 1) := by decide +kernel
theorem d_M_invert_1 : decode b_M_invert 1 = .ok (.iload_n 1, 1) := by decide +kernel
theorem d_M_invert_2 : decode b_M_invert 2 = .ok (.invokestatic 122, 3) := by decide +kernel
theorem d_M_invert_5 : decode b_M_invert 5 = .ok (.ifCond .eq 14, 3) := by decide +kernel
theorem d_M_invert_8 : decode b_M_invert 8 = .ok (.iload_n 2, 1) := by decide +kernel
theorem d_M_invert_9 : decode b_M_invert 9 = .ok (.invokestatic 122, 3) := by decide +kernel
theorem d_M_invert_12 : decode b_M_invert 12 = .ok (.ifCond .eq 7, 3) := by decide +kernel
theorem d_M_invert_15 : decode b_M_invert 15 = .ok (.iconst 0, 1) := by decide +kernel
theorem d_M_invert_16 : decode b_M_invert 16 = .ok (.goto 4, 3) := by decide +kernel
theorem d_M_invert_19 : decode b_M_invert 19 = .ok (.iconst 1, 1) := by decide +kernel
theorem d_M_invert_20 : decode b_M_invert 20 = .ok (.putfield 37, 3) := by decide +kernel
theorem d_M_invert_23 : decode b_M_invert 23 = .ok (.aload_n 0, 1) := by decide +kernel
theorem d_M_invert_24 : decode b_M_invert 24 = .ok (.getfield 37, 3) := by decide +kernel
theorem d_M_invert_27 : decode b_M_invert 27 = .ok (.ifCond .le 4, 3) := by decide +kernel
theorem d_M_invert_30 : decode b_M_invert 30 = .ok (.return_, 1) := by decide +kernel
theorem d_M_invert_31 : decode b_M_invert 31 = .ok (.aload_n 0, 1) := by decide +kernel
theorem d_M_invert_32 : decode b_M_invert 32 = .ok (.iload_n 2, 1) := by decide +kernel
theorem d_M_invert_33 : decode b_M_invert 33 = .ok (.invokevirtual 98, 3) := by decide +kernel
theorem d_M_invert_36 : decode b_M_invert 36 = .ok (.aload_n 0, 1) := by decide +kernel
theorem d_M_invert_37 : decode b_M_invert 37 = .ok (.aload_n 0, 1) := by decide +kernel
theorem d_M_invert_38 : decode b_M_invert 38 = .ok (.getfield 76, 3) := by decide +kernel
theorem d_M_invert_41 : decode b_M_invert 41 = .ok (.lneg, 1) := by decide +kernel
theorem d_M_invert_42 : decode b_M_invert 42 = .ok (.putfield 76, 3) := by decide +kernel
theorem d_M_invert_45 : decode b_M_invert 45 = .ok (.aload_n 0, 1) := by decide +kernel
theorem d_M_invert_46 : decode b_M_invert 46 = .ok (.invokevirtual 82, 3) := by decide +kernel
theorem d_M_invert_49 : decode b_M_invert 49 = .ok (.aload_n 0, 1) := by decide +kernel
theorem d_M_invert_50 : decode b_M_invert 50 = .ok (.iload_n 1, 1) := by decide +kernel
theorem d_M_invert_51 : decode b_M_invert 51 = .ok (.invokevirtual 88, 3) := by decide +kernel
theorem d_M_invert_54 : decode b_M_invert 54 = .ok (.return_, 1) := by decide +kernel
theorem d_M_isAt_0 : decode b_M_isAt 0 = .ok (.aload_n 0, 1) := by decide +kernel
theorem d_M_isAt_1 : decode b_M_isAt 1 = .ok (.getfield 73, 3) := by decide +kernel
theorem d_M_isAt_4 : decode b_M_isAt 4 = .ok (.aload_n 0, 1) := by decide +kernel
theorem d_M_isAt_5 : decode b_M_isAt 5 = .ok (.getfield 20, 3) := by decide +kernel
theorem d_M_isAt_8 : decode b_M_isAt 8 = .ok (.iload_n 1, 1) := by decide +kernel
theorem d_M_isAt_9 : decode b_M_isAt 9 = .ok (.laload, 1) := by decide +kernel
theorem d_M_isAt_10 : decode b_M_isAt 10 = .ok (.lcmp, 1) := by decide +kernel
theorem d_M_isAt_11 : decode b_M_isAt 11 = .ok (.ifCond .ne 21, 3) := by decide +kernel
theorem d_M_isAt_14 : decode b_M_isAt 14 = .ok (.aload_n 0, 1) := by decide +kernel
theorem d_M_isAt_15 : decode b_M_isAt 15 = .ok (.getfield 76, 3) := by decide +kernel
theorem d_M_isAt_18 : decode b_M_isAt 18 = .ok (.aload_n 0, 1) := by decide +kernel
theorem d_M_isAt_19 : decode b_M_isAt 19 = .ok (.getfield 24, 3) := by decide +kernel
theorem d_M_isAt_22 : decode b_M_isAt 22 = .ok (.iload_n 1, 1) := by decide +kernel
theorem d_M_isAt_23 : decode b_M_isAt 23 = .ok (.laload, 1) := by decide +kernel
theorem d_M_isAt_24 : decode b_M_isAt 24 = .ok (.lcmp, 1) := by decide +kernel
theorem d_M_isAt_25 : decode b_M_isAt 25 = .ok (.ifCond .ne 7, 3) := by decide +kernel
theorem d_M_isAt_28 : decode b_M_isAt 28 = .ok (.iconst 1, 1) := by decide +kernel
theorem d_M_isAt_29 : decode b_M_isAt 29 = .ok (.goto 4, 3) := by decide +kernel
theorem d_M_isAt_32 : decode b_M_isAt 32 = .ok (.iconst 0, 1) := by decide +kernel
theorem d_M_isAt_33 : decode b_M_isAt 33 = .ok (.ireturn, 1) := by decide +kernel
theorem d_M_isOne_0 : decode b_M_isOne 0 = .ok (.aload_n 0, 1) := by decide +kernel
theorem d_M_isOne_1 : decode b_M_isOne 1 = .ok (.getfield 73, 3) := by decide +kernel
theorem d_M_isOne_4 : decode b_M_isOne 4 = .ok (.lstore_n 1, 1) := by decide +kernel
theorem d_M_isOne_5 : decode b_M_isOne 5 = .ok (.aload_n 0, 1) := by decide +kernel
theorem d_M_isOne_6 : decode b_M_isOne 6 = .ok (.getfield 76, 3) := by decide +kernel
theorem d_M_isOne_9 : decode b_M_isOne 9 = .ok (.lstore_n 3, 1) := by decide +kernel
theorem d_M_isOne_10 : decode b_M_isOne 10 = .ok (.aload_n 0, 1) := by decide +kernel
theorem d_M_isOne_11 : decode b_M_isOne 11 = .ok (.getfield 79, 3) := by decide +kernel
theorem d_M_isOne_14 : decode b_M_isOne 14 = .ok (.lstore 5, 2) := by decide +kernel
theorem d_M_isOne_16 : decode b_M_isOne 16 = .ok (.aload_n 0, 1) := by decide +kernel
theorem d_M_isOne_17 : decode b_M_isOne 17 = .ok (.invokevirtual 85, 3) := by decide +kernel
theorem d_M_isOne_20 : decode b_M_isOne 20 = .ok (.aload_n 0, 1) := by decide +kernel
theorem d_M_isOne_21 : decode b_M_isOne 21 = .ok (.getfield 73, 3) := by decide +kernel
theorem d_M_isOne_24 : decode b_M_isOne 24 = .ok (.lload_n 1, 1) := by decide +kernel
theorem d_M_isOne_25 : decode b_M_isOne 25 = .ok (.lcmp, 1) := by decide +kernel
theorem d_M_isOne_26 : decode b_M_isOne 26 = .ok (.ifCond .ne 16, 3) := by decide +kernel
theorem d_M_isOne_29 : decode b_M_isOne 29 = .ok (.aload_n 0, 1) := by decide +kernel
theorem d_M_isOne_30 : decode b_M_isOne 30 = .ok (.getfield 76, 3) := by decide +kernel
theorem d_M_isOne_33 : decode b_M_isOne 33 = .ok (.lload_n 3, 1) := by decide +kernel
theorem d_M_isOne_34 : decode b_M_isOne 34 = .ok (.lcmp, 1) := by decide +kernel
theorem d_M_isOne_35 : decode b_M_isOne 35 = .ok (.ifCond .ne 7, 3) := by decide +kernel
theorem d_M_isOne_38 : decode b_M_isOne 38 = .ok (.iconst 1, 1) := by decide +kernel
theorem d_M_isOne_39 : decode b_M_isOne 39 = .ok (.goto 4, 3) := by decide +kernel
theorem d_M_isOne_42 : decode b_M_isOne 42 = .ok (.iconst 0, 1) := by decide +kernel
theorem d_M_isOne_43 : decode b_M_isOne 43 = .ok (.istore 7, 2) := by decide +kernel
theorem d_M_isOne_45 : decode b_M_isOne 45 = .ok (.aload_n 0, 1) := by decide +kernel
theorem d_M_isOne_46 : decode b_M_isOne 46 = .ok (.lload_n 1, 1) := by decide +kernel
theorem d_M_isOne_47 : decode b_M_isOne 47 = .ok (.putfield 73, 3) := by decide +kernel
theorem d_M_isOne_50 : decode b_M_isOne 50 = .ok (.aload_n 0, 1) := by decide +kernel
theorem d_M_isOne_51 : decode b_M_isOne 51 = .ok (.lload_n 3, 1) := by decide +kernel
theorem d_M_isOne_52 : decode b_M_isOne 52 = .ok (.putfield 76, 3) := by decide +kernel
theorem d_M_isOne_55 : decode b_M_isOne 55 = .ok (.aload_n 0, 1) := by decide +kernel
theorem d_M_isOne_56 : decode b_M_isOne 56 = .ok (.lload 5, 2) := by decide +kernel
theorem d_M_isOne_58 : decode b_M_isOne 58 = .ok (.putfield 79, 3) := by decide +kernel
theorem d_M_isOne_61 : decode b_M_isOne 61 = .ok (.iload 7, 2) := by decide +kernel
theorem d_M_isOne_63 : decode b_M_isOne 63 = .ok (.ireturn, 1) := by decide +kernel
theorem d_M_orderOf_0 : decode b_M_orderOf 0 = .ok (.aload_n 0, 1) := by decide +kernel
theorem d_M_orderOf_1 : decode b_M_orderOf 1 = .ok (.iload_n 1, 1) := by decide +kernel
theorem d_M_orderOf_2 : decode b_M_orderOf 2 = .ok (.invokevirtual 98, 3) := by decide +kernel
theorem d_M_orderOf_5 : decode b_M_orderOf 5 = .ok (.iconst 1, 1) := by decide +kernel
theorem d_M_orderOf_6 : decode b_M_orderOf 6 = .ok (.istore_n 2, 1) := by decide +kernel
theorem d_M_orderOf_7 : decode b_M_orderOf 7 = .ok (.aload_n 0, 1) := by decide +kernel
theorem d_M_orderOf_8 : decode b_M_orderOf 8 = .ok (.invokevirtual 129, 3) := by decide +kernel
theorem d_M_orderOf_11 : decode b_M_orderOf 11 = .ok (.ifCond .ne 14, 3) := by decide +kernel
theorem d_M_orderOf_14 : decode b_M_orderOf 14 = .ok (.aload_n 0, 1) := by decide +kernel
theorem d_M_orderOf_15 : decode b_M_orderOf 15 = .ok (.iload_n 1, 1) := by decide +kernel
theorem d_M_orderOf_16 : decode b_M_orderOf 16 = .ok (.invokevirtual 126, 3) := by decide +kernel
theorem d_M_orderOf_19 : decode b_M_orderOf 19 = .ok (.iinc 2 1, 3) := by decide +kernel
theorem d_M_orderOf_22 : decode b_M_orderOf 22 = .ok (.goto (-15), 3) := by decide +kernel
theorem d_M_orderOf_25 : decode b_M_orderOf 25 = .ok (.iload_n 2, 1) := by decide +kernel
theorem d_M_orderOf_26 : decode b_M_orderOf 26 = .ok (.ireturn, 1) := by decide +kernel
theorem d_M_power_0 : decode b_M_power 0 = .ok (.aload_n 0, 1) := by decide +kernel
theorem d_M_power_1 : decode b_M_power 1 = .ok (.iload_n 1, 1) := by decide +kernel
theorem d_M_power_2 : decode b_M_power 2 = .ok (.invokestatic 122, 3) := by decide +kernel
theorem d_M_power_5 : decode b_M_power 5 = .ok (.ifCond .eq 14, 3) := by decide +kernel
theorem d_M_power_8 : decode b_M_power 8 = .ok (.iload_n 2, 1) := by decide +kernel
theorem d_M_power_9 : decode b_M_power 9 = .ok (.invokestatic 122, 3) := by decide +kernel
theorem d_M_power_12 : decode b_M_power 12 = .ok (.ifCond .eq 7, 3) := by decide +kernel
theorem d_M_power_15 : decode b_M_power 15 = .ok (.iconst 0, 1) := by decide +kernel
theorem d_M_power_16 : decode b_M_power 16 = .ok (.goto 4, 3) := by decide +kernel
theorem d_M_power_19 : decode b_M_power 19 = .ok (.iconst 1, 1) := by decide +kernel
theorem d_M_power_20 : decode b_M_power 20 = .ok (.putfield 37, 3) := by decide +kernel
theorem d_M_power_23 : decode b_M_power 23 = .ok (.aload_n 0, 1) := by decide +kernel
theorem d_M_power_24 : decode b_M_power 24 = .ok (.getfield 37, 3) := by decide +kernel
theorem d_M_power_27 : decode b_M_power 27 = .ok (.ifCond .le 4, 3) := by decide +kernel
theorem d_M_power_30 : decode b_M_power 30 = .ok (.return_, 1) := by decide +kernel
theorem d_M_power_31 : decode b_M_power 31 = .ok (.lload_n 3, 1) := by decide +kernel
theorem d_M_power_32 : decode b_M_power 32 = .ok (.aload_n 0, 1) := by decide +kernel
theorem d_M_power_33 : decode b_M_power 33 = .ok (.iload_n 2, 1) := by decide +kernel
theorem d_M_power_34 : decode b_M_power 34 = .ok (.invokevirtual 132, 3) := by decide +kernel
theorem d_M_power_37 : decode b_M_power 37 = .ok (.i2l, 1) := by decide +kernel
theorem d_M_power_38 : decode b_M_power 38 = .ok (.invokestatic 69, 3) := by decide +kernel
theorem d_M_power_41 : decode b_M_power 41 = .ok (.lstore 5, 2) := by decide +kernel
theorem d_M_power_43 : decode b_M_power 43 = .ok (.aload_n 0, 1) := by decide +kernel
theorem d_M_power_44 : decode b_M_power 44 = .ok (.invokevirtual 85, 3) := by decide +kernel
theorem d_M_power_47 : decode b_M_power 47 = .ok (.lload 5, 2) := by decide +kernel
theorem d_M_power_49 : decode b_M_power 49 = .ok (.lconst 0, 1) := by decide +kernel
theorem d_M_power_50 : decode b_M_power 50 = .ok (.lcmp, 1) := by decide +kernel
theorem d_M_power_51 : decode b_M_power 51 = .ok (.ifCond .le 17, 3) := by decide +kernel
theorem d_M_power_54 : decode b_M_power 54 = .ok (.aload_n 0, 1) := by decide +kernel
theorem d_M_power_55 : decode b_M_power 55 = .ok (.iload_n 2, 1) := by decide +kernel
theorem d_M_power_56 : decode b_M_power 56 = .ok (.invokevirtual 126, 3) := by decide +kernel
theorem d_M_power_59 : decode b_M_power 59 = .ok (.lload 5, 2) := by decide +kernel
theorem d_M_power_61 : decode b_M_power 61 = .ok (.lconst 1, 1) := by decide +kernel
theorem d_M_power_62 : decode b_M_power 62 = .ok (.lsub, 1) := by decide +kernel
theorem d_M_power_63 : decode b_M_power 63 = .ok (.lstore 5, 2) := by decide +kernel
theorem d_M_power_65 : decode b_M_power 65 = .ok (.goto (-18), 3) := by decide +kernel
theorem d_M_power_68 : decode b_M_power 68 = .ok (.aload_n 0, 1) := by decide +kernel
theorem d_M_power_69 : decode b_M_power 69 = .ok (.iload_n 1, 1) := by decide +kernel
theorem d_M_power_70 : decode b_M_power 70 = .ok (.invokevirtual 88, 3) := by decide +kernel
theorem d_M_power_73 : decode b_M_power 73 = .ok (.return_, 1) := by decide +kernel
theorem d_M_form_0 : decode b_M_form 0 = .ok (.aload_n 0, 1) := by decide +kernel
theorem d_M_form_1 : decode b_M_form 1 = .ok (.iload_n 1, 1) := by decide +kernel
theorem d_M_form_2 : decode b_M_form 2 = .ok (.invokestatic 122, 3) := by decide +kernel
theorem d_M_form_5 : decode b_M_form 5 = .ok (.ifCond .eq 19, 3) := by decide +kernel
theorem d_M_form_8 : decode b_M_form 8 = .ok (.iload_n 2, 1) := by decide +kernel
theorem d_M_form_9 : decode b_M_form 9 = .ok (.i2l, 1) := by decide +kernel
theorem d_M_form_10 : decode b_M_form 10 = .ok (.lconst 0, 1) := by decide +kernel
theorem d_M_form_11 : decode b_M_form 11 = .ok (.ldc2_w 53, 3) := by decide +kernel
theorem d_M_form_14 : decode b_M_form 14 = .ok (.invokestatic 63, 3) := by decide +kernel
theorem d_M_form_17 : decode b_M_form 17 = .ok (.ifCond .eq 7, 3) := by decide +kernel
theorem d_M_form_20 : decode b_M_form 20 = .ok (.iconst 0, 1) := by decide +kernel
theorem d_M_form_21 : decode b_M_form 21 = .ok (.goto 4, 3) := by decide +kernel
theorem d_M_form_24 : decode b_M_form 24 = .ok (.iconst 1, 1) := by decide +kernel
theorem d_M_form_25 : decode b_M_form 25 = .ok (.putfield 37, 3) := by decide +kernel
theorem d_M_form_28 : decode b_M_form 28 = .ok (.aload_n 0, 1) := by decide +kernel
theorem d_M_form_29 : decode b_M_form 29 = .ok (.getfield 37, 3) := by decide +kernel
theorem d_M_form_32 : decode b_M_form 32 = .ok (.ifCond .le 5, 3) := by decide +kernel
theorem d_M_form_35 : decode b_M_form 35 = .ok (.iconst 0, 1) := by decide +kernel
theorem d_M_form_36 : decode b_M_form 36 = .ok (.ireturn, 1) := by decide +kernel
theorem d_M_form_37 : decode b_M_form 37 = .ok (.iload_n 2, 1) := by decide +kernel
theorem d_M_form_38 : decode b_M_form 38 = .ok (.ifCond .ne 12, 3) := by decide +kernel
theorem d_M_form_41 : decode b_M_form 41 = .ok (.aload_n 0, 1) := by decide +kernel
theorem d_M_form_42 : decode b_M_form 42 = .ok (.getfield 20, 3) := by decide +kernel
theorem d_M_form_45 : decode b_M_form 45 = .ok (.iload_n 1, 1) := by decide +kernel
theorem d_M_form_46 : decode b_M_form 46 = .ok (.laload, 1) := by decide +kernel
theorem d_M_form_47 : decode b_M_form 47 = .ok (.goto 23, 3) := by decide +kernel
theorem d_M_form_50 : decode b_M_form 50 = .ok (.iload_n 2, 1) := by decide +kernel
theorem d_M_form_51 : decode b_M_form 51 = .ok (.iconst 1, 1) := by decide +kernel
theorem d_M_form_52 : decode b_M_form 52 = .ok (.if_icmp .ne 12, 3) := by decide +kernel
theorem d_M_form_55 : decode b_M_form 55 = .ok (.aload_n 0, 1) := by decide +kernel
theorem d_M_form_56 : decode b_M_form 56 = .ok (.getfield 24, 3) := by decide +kernel
theorem d_M_form_59 : decode b_M_form 59 = .ok (.iload_n 1, 1) := by decide +kernel
theorem d_M_form_60 : decode b_M_form 60 = .ok (.laload, 1) := by decide +kernel
theorem d_M_form_61 : decode b_M_form 61 = .ok (.goto 9, 3) := by decide +kernel
theorem d_M_form_64 : decode b_M_form 64 = .ok (.aload_n 0, 1) := by decide +kernel
theorem d_M_form_65 : decode b_M_form 65 = .ok (.getfield 27, 3) := by decide +kernel
theorem d_M_form_68 : decode b_M_form 68 = .ok (.iload_n 1, 1) := by decide +kernel
theorem d_M_form_69 : decode b_M_form 69 = .ok (.laload, 1) := by decide +kernel
theorem d_M_form_70 : decode b_M_form 70 = .ok (.l2i, 1) := by decide +kernel
theorem d_M_form_71 : decode b_M_form 71 = .ok (.ireturn, 1) := by decide +kernel
theorem d_M_same_0 : decode b_M_same 0 = .ok (.aload_n 0, 1) := by decide +kernel
theorem d_M_same_1 : decode b_M_same 1 = .ok (.iload_n 1, 1) := by decide +kernel
theorem d_M_same_2 : decode b_M_same 2 = .ok (.invokestatic 122, 3) := by decide +kernel
theorem d_M_same_5 : decode b_M_same 5 = .ok (.ifCond .eq 14, 3) := by decide +kernel
theorem d_M_same_8 : decode b_M_same 8 = .ok (.iload_n 2, 1) := by decide +kernel
theorem d_M_same_9 : decode b_M_same 9 = .ok (.invokestatic 122, 3) := by decide +kernel
theorem d_M_same_12 : decode b_M_same 12 = .ok (.ifCond .eq 7, 3) := by decide +kernel
theorem d_M_same_15 : decode b_M_same 15 = .ok (.iconst 0, 1) := by decide +kernel
theorem d_M_same_16 : decode b_M_same 16 = .ok (.goto 4, 3) := by decide +kernel
theorem d_M_same_19 : decode b_M_same 19 = .ok (.iconst 1, 1) := by decide +kernel
theorem d_M_same_20 : decode b_M_same 20 = .ok (.putfield 37, 3) := by decide +kernel
theorem d_M_same_23 : decode b_M_same 23 = .ok (.aload_n 0, 1) := by decide +kernel
theorem d_M_same_24 : decode b_M_same 24 = .ok (.getfield 37, 3) := by decide +kernel
theorem d_M_same_27 : decode b_M_same 27 = .ok (.ifCond .le 5, 3) := by decide +kernel
theorem d_M_same_30 : decode b_M_same 30 = .ok (.iconst 0, 1) := by decide +kernel
theorem d_M_same_31 : decode b_M_same 31 = .ok (.ireturn, 1) := by decide +kernel
theorem d_M_same_32 : decode b_M_same 32 = .ok (.aload_n 0, 1) := by decide +kernel
theorem d_M_same_33 : decode b_M_same 33 = .ok (.iload_n 1, 1) := by decide +kernel
theorem d_M_same_34 : decode b_M_same 34 = .ok (.invokevirtual 98, 3) := by decide +kernel
theorem d_M_same_37 : decode b_M_same 37 = .ok (.aload_n 0, 1) := by decide +kernel
theorem d_M_same_38 : decode b_M_same 38 = .ok (.iload_n 2, 1) := by decide +kernel
theorem d_M_same_39 : decode b_M_same 39 = .ok (.invokevirtual 136, 3) := by decide +kernel
theorem d_M_same_42 : decode b_M_same 42 = .ok (.ireturn, 1) := by decide +kernel
theorem d_M_order_0 : decode b_M_order 0 = .ok (.aload_n 0, 1) := by decide +kernel
theorem d_M_order_1 : decode b_M_order 1 = .ok (.iload_n 1, 1) := by decide +kernel
theorem d_M_order_2 : decode b_M_order 2 = .ok (.invokestatic 122, 3) := by decide +kernel
theorem d_M_order_5 : decode b_M_order 5 = .ok (.ifCond .eq 7, 3) := by decide +kernel
theorem d_M_order_8 : decode b_M_order 8 = .ok (.iconst 0, 1) := by decide +kernel
theorem d_M_order_9 : decode b_M_order 9 = .ok (.goto 4, 3) := by decide +kernel
theorem d_M_order_12 : decode b_M_order 12 = .ok (.iconst 1, 1) := by decide +kernel
theorem d_M_order_13 : decode b_M_order 13 = .ok (.putfield 37, 3) := by decide +kernel
theorem d_M_order_16 : decode b_M_order 16 = .ok (.aload_n 0, 1) := by decide +kernel
theorem d_M_order_17 : decode b_M_order 17 = .ok (.getfield 37, 3) := by decide +kernel
theorem d_M_order_20 : decode b_M_order 20 = .ok (.ifCond .le 7, 3) := by decide +kernel
theorem d_M_order_23 : decode b_M_order 23 = .ok (.iconst 0, 1) := by decide +kernel
theorem d_M_order_24 : decode b_M_order 24 = .ok (.goto 8, 3) := by decide +kernel
theorem d_M_order_27 : decode b_M_order 27 = .ok (.aload_n 0, 1) := by decide +kernel
theorem d_M_order_28 : decode b_M_order 28 = .ok (.iload_n 1, 1) := by decide +kernel
theorem d_M_order_29 : decode b_M_order 29 = .ok (.invokevirtual 132, 3) := by decide +kernel
theorem d_M_order_32 : decode b_M_order 32 = .ok (.ireturn, 1) := by decide +kernel
theorem d_M_exponent_0 : decode b_M_exponent 0 = .ok (.aload_n 0, 1) := by decide +kernel
theorem d_M_exponent_1 : decode b_M_exponent 1 = .ok (.iload_n 1, 1) := by decide +kernel
theorem d_M_exponent_2 : decode b_M_exponent 2 = .ok (.invokestatic 122, 3) := by decide +kernel
theorem d_M_exponent_5 : decode b_M_exponent 5 = .ok (.ifCond .eq 14, 3) := by decide +kernel
theorem d_M_exponent_8 : decode b_M_exponent 8 = .ok (.iload_n 2, 1) := by decide +kernel
theorem d_M_exponent_9 : decode b_M_exponent 9 = .ok (.invokestatic 122, 3) := by decide +kernel
theorem d_M_exponent_12 : decode b_M_exponent 12 = .ok (.ifCond .eq 7, 3) := by decide +kernel
theorem d_M_exponent_15 : decode b_M_exponent 15 = .ok (.iconst 0, 1) := by decide +kernel
theorem d_M_exponent_16 : decode b_M_exponent 16 = .ok (.goto 4, 3) := by decide +kernel
theorem d_M_exponent_19 : decode b_M_exponent 19 = .ok (.iconst 1, 1) := by decide +kernel
theorem d_M_exponent_20 : decode b_M_exponent 20 = .ok (.putfield 37, 3) := by decide +kernel
theorem d_M_exponent_23 : decode b_M_exponent 23 = .ok (.aload_n 0, 1) := by decide +kernel
theorem d_M_exponent_24 : decode b_M_exponent 24 = .ok (.getfield 37, 3) := by decide +kernel
theorem d_M_exponent_27 : decode b_M_exponent 27 = .ok (.ifCond .le 5, 3) := by decide +kernel
theorem d_M_exponent_30 : decode b_M_exponent 30 = .ok (.iconst 0, 1) := by decide +kernel
theorem d_M_exponent_31 : decode b_M_exponent 31 = .ok (.ireturn, 1) := by decide +kernel
theorem d_M_exponent_32 : decode b_M_exponent 32 = .ok (.aload_n 0, 1) := by decide +kernel
theorem d_M_exponent_33 : decode b_M_exponent 33 = .ok (.iload_n 1, 1) := by decide +kernel
theorem d_M_exponent_34 : decode b_M_exponent 34 = .ok (.invokevirtual 132, 3) := by decide +kernel
theorem d_M_exponent_37 : decode b_M_exponent 37 = .ok (.istore_n 3, 1) := by decide +kernel
theorem d_M_exponent_38 : decode b_M_exponent 38 = .ok (.aload_n 0, 1) := by decide +kernel
theorem d_M_exponent_39 : decode b_M_exponent 39 = .ok (.invokevirtual 85, 3) := by decide +kernel
theorem d_M_exponent_42 : decode b_M_exponent 42 = .ok (.iconst 0, 1) := by decide +kernel
theorem d_M_exponent_43 : decode b_M_exponent 43 = .ok (.istore 4, 2) := by decide +kernel
theorem d_M_exponent_45 : decode b_M_exponent 45 = .ok (.iload 4, 2) := by decide +kernel
theorem d_M_exponent_47 : decode b_M_exponent 47 = .ok (.iload_n 3, 1) := by decide +kernel
theorem d_M_exponent_48 : decode b_M_exponent 48 = .ok (.if_icmp .ge 25, 3) := by decide +kernel
theorem d_M_exponent_51 : decode b_M_exponent 51 = .ok (.aload_n 0, 1) := by decide +kernel
theorem d_M_exponent_52 : decode b_M_exponent 52 = .ok (.iload_n 2, 1) := by decide +kernel
theorem d_M_exponent_53 : decode b_M_exponent 53 = .ok (.invokevirtual 136, 3) := by decide +kernel
theorem d_M_exponent_56 : decode b_M_exponent 56 = .ok (.ifCond .eq 6, 3) := by decide +kernel
theorem d_M_exponent_59 : decode b_M_exponent 59 = .ok (.iload 4, 2) := by decide +kernel
theorem d_M_exponent_61 : decode b_M_exponent 61 = .ok (.ireturn, 1) := by decide +kernel
theorem d_M_exponent_62 : decode b_M_exponent 62 = .ok (.aload_n 0, 1) := by decide +kernel
theorem d_M_exponent_63 : decode b_M_exponent 63 = .ok (.iload_n 1, 1) := by decide +kernel
theorem d_M_exponent_64 : decode b_M_exponent 64 = .ok (.invokevirtual 126, 3) := by decide +kernel
theorem d_M_exponent_67 : decode b_M_exponent 67 = .ok (.iinc 4 1, 3) := by decide +kernel
theorem d_M_exponent_70 : decode b_M_exponent 70 = .ok (.goto (-25), 3) := by decide +kernel
theorem d_M_exponent_73 : decode b_M_exponent 73 = .ok (.iconst (-1), 1) := by decide +kernel
theorem d_M_exponent_74 : decode b_M_exponent 74 = .ok (.ireturn, 1) := by decide +kernel
theorem d_M_count_0 : decode b_M_count 0 = .ok (.aload_n 0, 1) := by decide +kernel
theorem d_M_count_1 : decode b_M_count 1 = .ok (.iconst 0, 1) := by decide +kernel
theorem d_M_count_2 : decode b_M_count 2 = .ok (.putfield 37, 3) := by decide +kernel
theorem d_M_count_5 : decode b_M_count 5 = .ok (.iload_n 1, 1) := by decide +kernel
theorem d_M_count_6 : decode b_M_count 6 = .ok (.ifCond .ne 11, 3) := by decide +kernel
theorem d_M_count_9 : decode b_M_count 9 = .ok (.aload_n 0, 1) := by decide +kernel
theorem d_M_count_10 : decode b_M_count 10 = .ok (.getfield 9, 3) := by decide +kernel
theorem d_M_count_13 : decode b_M_count 13 = .ok (.l2i, 1) := by decide +kernel
theorem d_M_count_14 : decode b_M_count 14 = .ok (.goto 42, 3) := by decide +kernel
theorem d_M_count_17 : decode b_M_count 17 = .ok (.iload_n 1, 1) := by decide +kernel
theorem d_M_count_18 : decode b_M_count 18 = .ok (.iconst 1, 1) := by decide +kernel
theorem d_M_count_19 : decode b_M_count 19 = .ok (.if_icmp .ne 11, 3) := by decide +kernel
theorem d_M_count_22 : decode b_M_count 22 = .ok (.aload_n 0, 1) := by decide +kernel
theorem d_M_count_23 : decode b_M_count 23 = .ok (.getfield 17, 3) := by decide +kernel
theorem d_M_count_26 : decode b_M_count 26 = .ok (.l2i, 1) := by decide +kernel
theorem d_M_count_27 : decode b_M_count 27 = .ok (.goto 29, 3) := by decide +kernel
theorem d_M_count_30 : decode b_M_count 30 = .ok (.iload_n 1, 1) := by decide +kernel
theorem d_M_count_31 : decode b_M_count 31 = .ok (.iconst 2, 1) := by decide +kernel
theorem d_M_count_32 : decode b_M_count 32 = .ok (.if_icmp .ne 10, 3) := by decide +kernel
theorem d_M_count_35 : decode b_M_count 35 = .ok (.aload_n 0, 1) := by decide +kernel
theorem d_M_count_36 : decode b_M_count 36 = .ok (.getfield 48, 3) := by decide +kernel
theorem d_M_count_39 : decode b_M_count 39 = .ok (.goto 17, 3) := by decide +kernel
theorem d_M_count_42 : decode b_M_count 42 = .ok (.iload_n 1, 1) := by decide +kernel
theorem d_M_count_43 : decode b_M_count 43 = .ok (.iconst 3, 1) := by decide +kernel
theorem d_M_count_44 : decode b_M_count 44 = .ok (.if_icmp .ne 11, 3) := by decide +kernel
theorem d_M_count_47 : decode b_M_count 47 = .ok (.aload_n 0, 1) := by decide +kernel
theorem d_M_count_48 : decode b_M_count 48 = .ok (.iconst 0, 1) := by decide +kernel
theorem d_M_count_49 : decode b_M_count 49 = .ok (.invokevirtual 139, 3) := by decide +kernel
theorem d_M_count_52 : decode b_M_count 52 = .ok (.goto 4, 3) := by decide +kernel
theorem d_M_count_55 : decode b_M_count 55 = .ok (.iconst (-1), 1) := by decide +kernel
theorem d_M_count_56 : decode b_M_count 56 = .ok (.ireturn, 1) := by decide +kernel
theorem d_M_prime_0 : decode b_M_prime 0 = .ok (.aload_n 0, 1) := by decide +kernel
theorem d_M_prime_1 : decode b_M_prime 1 = .ok (.iload_n 1, 1) := by decide +kernel
theorem d_M_prime_2 : decode b_M_prime 2 = .ok (.i2l, 1) := by decide +kernel
theorem d_M_prime_3 : decode b_M_prime 3 = .ok (.lconst 0, 1) := by decide +kernel
theorem d_M_prime_4 : decode b_M_prime 4 = .ok (.aload_n 0, 1) := by decide +kernel
theorem d_M_prime_5 : decode b_M_prime 5 = .ok (.getfield 48, 3) := by decide +kernel
theorem d_M_prime_8 : decode b_M_prime 8 = .ok (.iconst 1, 1) := by decide +kernel
theorem d_M_prime_9 : decode b_M_prime 9 = .ok (.isub, 1) := by decide +kernel
theorem d_M_prime_10 : decode b_M_prime 10 = .ok (.i2l, 1) := by decide +kernel
theorem d_M_prime_11 : decode b_M_prime 11 = .ok (.invokestatic 63, 3) := by decide +kernel
theorem d_M_prime_14 : decode b_M_prime 14 = .ok (.ifCond .eq 7, 3) := by decide +kernel
theorem d_M_prime_17 : decode b_M_prime 17 = .ok (.iconst 0, 1) := by decide +kernel
theorem d_M_prime_18 : decode b_M_prime 18 = .ok (.goto 4, 3) := by decide +kernel
theorem d_M_prime_21 : decode b_M_prime 21 = .ok (.iconst 1, 1) := by decide +kernel
theorem d_M_prime_22 : decode b_M_prime 22 = .ok (.putfield 37, 3) := by decide +kernel
theorem d_M_prime_25 : decode b_M_prime 25 = .ok (.aload_n 0, 1) := by decide +kernel
theorem d_M_prime_26 : decode b_M_prime 26 = .ok (.getfield 37, 3) := by decide +kernel
theorem d_M_prime_29 : decode b_M_prime 29 = .ok (.ifCond .le 7, 3) := by decide +kernel
theorem d_M_prime_32 : decode b_M_prime 32 = .ok (.iconst 0, 1) := by decide +kernel
theorem d_M_prime_33 : decode b_M_prime 33 = .ok (.goto 10, 3) := by decide +kernel
theorem d_M_prime_36 : decode b_M_prime 36 = .ok (.aload_n 0, 1) := by decide +kernel
theorem d_M_prime_37 : decode b_M_prime 37 = .ok (.getfield 30, 3) := by decide +kernel
theorem d_M_prime_40 : decode b_M_prime 40 = .ok (.iload_n 1, 1) := by decide +kernel
theorem d_M_prime_41 : decode b_M_prime 41 = .ok (.laload, 1) := by decide +kernel
theorem d_M_prime_42 : decode b_M_prime 42 = .ok (.l2i, 1) := by decide +kernel
theorem d_M_prime_43 : decode b_M_prime 43 = .ok (.ireturn, 1) := by decide +kernel
theorem d_M_isSquare_0 : decode b_M_isSquare 0 = .ok (.lconst 0, 1) := by decide +kernel
theorem d_M_isSquare_1 : decode b_M_isSquare 1 = .ok (.lstore 4, 2) := by decide +kernel
theorem d_M_isSquare_3 : decode b_M_isSquare 3 = .ok (.lconst 0, 1) := by decide +kernel
theorem d_M_isSquare_4 : decode b_M_isSquare 4 = .ok (.lstore 6, 2) := by decide +kernel
theorem d_M_isSquare_6 : decode b_M_isSquare 6 = .ok (.lload 6, 2) := by decide +kernel
theorem d_M_isSquare_8 : decode b_M_isSquare 8 = .ok (.lload_n 2, 1) := by decide +kernel
theorem d_M_isSquare_9 : decode b_M_isSquare 9 = .ok (.ldc2_w 53, 3) := by decide +kernel
theorem d_M_isSquare_12 : decode b_M_isSquare 12 = .ok (.ldiv, 1) := by decide +kernel
theorem d_M_isSquare_13 : decode b_M_isSquare 13 = .ok (.lcmp, 1) := by decide +kernel
theorem d_M_isSquare_14 : decode b_M_isSquare 14 = .ok (.ifCond .gt 36, 3) := by decide +kernel
theorem d_M_isSquare_17 : decode b_M_isSquare 17 = .ok (.lload 4, 2) := by decide +kernel
theorem d_M_isSquare_19 : decode b_M_isSquare 19 = .ok (.lload_n 0, 1) := by decide +kernel
theorem d_M_isSquare_20 : decode b_M_isSquare 20 = .ok (.lcmp, 1) := by decide +kernel
theorem d_M_isSquare_21 : decode b_M_isSquare 21 = .ok (.ifCond .ne 5, 3) := by decide +kernel
theorem d_M_isSquare_24 : decode b_M_isSquare 24 = .ok (.iconst 1, 1) := by decide +kernel
theorem d_M_isSquare_25 : decode b_M_isSquare 25 = .ok (.ireturn, 1) := by decide +kernel
theorem d_M_isSquare_26 : decode b_M_isSquare 26 = .ok (.lload 4, 2) := by decide +kernel
theorem d_M_isSquare_28 : decode b_M_isSquare 28 = .ok (.ldc2_w 53, 3) := by decide +kernel
theorem d_M_isSquare_31 : decode b_M_isSquare 31 = .ok (.lload 6, 2) := by decide +kernel
theorem d_M_isSquare_33 : decode b_M_isSquare 33 = .ok (.lmul, 1) := by decide +kernel
theorem d_M_isSquare_34 : decode b_M_isSquare 34 = .ok (.ladd, 1) := by decide +kernel
theorem d_M_isSquare_35 : decode b_M_isSquare 35 = .ok (.lconst 1, 1) := by decide +kernel
theorem d_M_isSquare_36 : decode b_M_isSquare 36 = .ok (.ladd, 1) := by decide +kernel
theorem d_M_isSquare_37 : decode b_M_isSquare 37 = .ok (.lload_n 2, 1) := by decide +kernel
theorem d_M_isSquare_38 : decode b_M_isSquare 38 = .ok (.lrem, 1) := by decide +kernel
theorem d_M_isSquare_39 : decode b_M_isSquare 39 = .ok (.lstore 4, 2) := by decide +kernel
theorem d_M_isSquare_41 : decode b_M_isSquare 41 = .ok (.lload 6, 2) := by decide +kernel
theorem d_M_isSquare_43 : decode b_M_isSquare 43 = .ok (.lconst 1, 1) := by decide +kernel
theorem d_M_isSquare_44 : decode b_M_isSquare 44 = .ok (.ladd, 1) := by decide +kernel
theorem d_M_isSquare_45 : decode b_M_isSquare 45 = .ok (.lstore 6, 2) := by decide +kernel
theorem d_M_isSquare_47 : decode b_M_isSquare 47 = .ok (.goto (-41), 3) := by decide +kernel
theorem d_M_isSquare_50 : decode b_M_isSquare 50 = .ok (.iconst 0, 1) := by decide +kernel
theorem d_M_isSquare_51 : decode b_M_isSquare 51 = .ok (.ireturn, 1) := by decide +kernel
theorem d_M_character_0 : decode b_M_character 0 = .ok (.aload_n 0, 1) := by decide +kernel
theorem d_M_character_1 : decode b_M_character 1 = .ok (.iload_n 1, 1) := by decide +kernel
theorem d_M_character_2 : decode b_M_character 2 = .ok (.invokestatic 122, 3) := by decide +kernel
theorem d_M_character_5 : decode b_M_character 5 = .ok (.ifCond .eq 23, 3) := by decide +kernel
theorem d_M_character_8 : decode b_M_character 8 = .ok (.iload_n 2, 1) := by decide +kernel
theorem d_M_character_9 : decode b_M_character 9 = .ok (.i2l, 1) := by decide +kernel
theorem d_M_character_10 : decode b_M_character 10 = .ok (.lconst 0, 1) := by decide +kernel
theorem d_M_character_11 : decode b_M_character 11 = .ok (.aload_n 0, 1) := by decide +kernel
theorem d_M_character_12 : decode b_M_character 12 = .ok (.getfield 48, 3) := by decide +kernel
theorem d_M_character_15 : decode b_M_character 15 = .ok (.iconst 1, 1) := by decide +kernel
theorem d_M_character_16 : decode b_M_character 16 = .ok (.isub, 1) := by decide +kernel
theorem d_M_character_17 : decode b_M_character 17 = .ok (.i2l, 1) := by decide +kernel
theorem d_M_character_18 : decode b_M_character 18 = .ok (.invokestatic 63, 3) := by decide +kernel
theorem d_M_character_21 : decode b_M_character 21 = .ok (.ifCond .eq 7, 3) := by decide +kernel
theorem d_M_character_24 : decode b_M_character 24 = .ok (.iconst 0, 1) := by decide +kernel
theorem d_M_character_25 : decode b_M_character 25 = .ok (.goto 4, 3) := by decide +kernel
theorem d_M_character_28 : decode b_M_character 28 = .ok (.iconst 1, 1) := by decide +kernel
theorem d_M_character_29 : decode b_M_character 29 = .ok (.putfield 37, 3) := by decide +kernel
theorem d_M_character_32 : decode b_M_character 32 = .ok (.aload_n 0, 1) := by decide +kernel
theorem d_M_character_33 : decode b_M_character 33 = .ok (.getfield 37, 3) := by decide +kernel
theorem d_M_character_36 : decode b_M_character 36 = .ok (.ifCond .le 5, 3) := by decide +kernel
theorem d_M_character_39 : decode b_M_character 39 = .ok (.iconst 0, 1) := by decide +kernel
theorem d_M_character_40 : decode b_M_character 40 = .ok (.ireturn, 1) := by decide +kernel
theorem d_M_character_41 : decode b_M_character 41 = .ok (.aload_n 0, 1) := by decide +kernel
theorem d_M_character_42 : decode b_M_character 42 = .ok (.iload_n 1, 1) := by decide +kernel
theorem d_M_character_43 : decode b_M_character 43 = .ok (.invokevirtual 98, 3) := by decide +kernel
theorem d_M_character_46 : decode b_M_character 46 = .ok (.aload_n 0, 1) := by decide +kernel
theorem d_M_character_47 : decode b_M_character 47 = .ok (.aload_n 0, 1) := by decide +kernel
theorem d_M_character_48 : decode b_M_character 48 = .ok (.getfield 30, 3) := by decide +kernel
theorem d_M_character_51 : decode b_M_character 51 = .ok (.iload_n 2, 1) := by decide +kernel
theorem d_M_character_52 : decode b_M_character 52 = .ok (.laload, 1) := by decide +kernel
theorem d_M_character_53 : decode b_M_character 53 = .ok (.invokevirtual 116, 3) := by decide +kernel
theorem d_M_character_56 : decode b_M_character 56 = .ok (.aload_n 0, 1) := by decide +kernel
theorem d_M_character_57 : decode b_M_character 57 = .ok (.getfield 73, 3) := by decide +kernel
theorem d_M_character_60 : decode b_M_character 60 = .ok (.aload_n 0, 1) := by decide +kernel
theorem d_M_character_61 : decode b_M_character 61 = .ok (.getfield 30, 3) := by decide +kernel
theorem d_M_character_64 : decode b_M_character 64 = .ok (.iload_n 2, 1) := by decide +kernel
theorem d_M_character_65 : decode b_M_character 65 = .ok (.laload, 1) := by decide +kernel
theorem d_M_character_66 : decode b_M_character 66 = .ok (.invokestatic 69, 3) := by decide +kernel
theorem d_M_character_69 : decode b_M_character 69 = .ok (.aload_n 0, 1) := by decide +kernel
theorem d_M_character_70 : decode b_M_character 70 = .ok (.getfield 30, 3) := by decide +kernel
theorem d_M_character_73 : decode b_M_character 73 = .ok (.iload_n 2, 1) := by decide +kernel
theorem d_M_character_74 : decode b_M_character 74 = .ok (.laload, 1) := by decide +kernel
theorem d_M_character_75 : decode b_M_character 75 = .ok (.invokestatic 142, 3) := by decide +kernel
theorem d_M_character_78 : decode b_M_character 78 = .ok (.ifCond .eq 7, 3) := by decide +kernel
theorem d_M_character_81 : decode b_M_character 81 = .ok (.iconst 1, 1) := by decide +kernel
theorem d_M_character_82 : decode b_M_character 82 = .ok (.goto 4, 3) := by decide +kernel
theorem d_M_character_85 : decode b_M_character 85 = .ok (.iconst (-1), 1) := by decide +kernel
theorem d_M_character_86 : decode b_M_character 86 = .ok (.ireturn, 1) := by decide +kernel
end
section
/-! What each instruction is (written by program). -/
theorem d_L_take_0 : decode b_L_take 0 = .ok (.aload_n 0, 1) := by decide +kernel
theorem d_L_take_1 : decode b_L_take 1 = .ok (.iload_n 1, 1) := by decide +kernel
theorem d_L_take_2 : decode b_L_take 2 = .ok (.invokevirtual 7, 3) := by decide +kernel
theorem d_L_take_5 : decode b_L_take 5 = .ok (.goto 6, 3) := by decide +kernel
theorem d_L_take_8 : decode b_L_take 8 = .ok (.astore_n 2, 1) := by decide +kernel
theorem d_L_take_9 : decode b_L_take 9 = .ok (.iconst 1, 1) := by decide +kernel
theorem d_L_take_10 : decode b_L_take 10 = .ok (.ireturn, 1) := by decide +kernel
theorem d_L_take_11 : decode b_L_take 11 = .ok (.iconst 0, 1) := by decide +kernel
theorem d_L_take_12 : decode b_L_take 12 = .ok (.ireturn, 1) := by decide +kernel
theorem d_L_put_0 : decode b_L_put 0 = .ok (.aload_n 0, 1) := by decide +kernel
theorem d_L_put_1 : decode b_L_put 1 = .ok (.iload_n 1, 1) := by decide +kernel
theorem d_L_put_2 : decode b_L_put 2 = .ok (.iload_n 2, 1) := by decide +kernel
theorem d_L_put_3 : decode b_L_put 3 = .ok (.iload_n 3, 1) := by decide +kernel
theorem d_L_put_4 : decode b_L_put 4 = .ok (.iload 4, 2) := by decide +kernel
theorem d_L_put_6 : decode b_L_put 6 = .ok (.invokevirtual 15, 3) := by decide +kernel
theorem d_L_put_9 : decode b_L_put 9 = .ok (.goto 11, 3) := by decide +kernel
theorem d_L_put_12 : decode b_L_put 12 = .ok (.astore 5, 2) := by decide +kernel
theorem d_L_put_14 : decode b_L_put 14 = .ok (.iconst 1, 1) := by decide +kernel
theorem d_L_put_15 : decode b_L_put 15 = .ok (.ireturn, 1) := by decide +kernel
theorem d_L_put_16 : decode b_L_put 16 = .ok (.astore 5, 2) := by decide +kernel
theorem d_L_put_18 : decode b_L_put 18 = .ok (.iconst 2, 1) := by decide +kernel
theorem d_L_put_19 : decode b_L_put 19 = .ok (.ireturn, 1) := by decide +kernel
theorem d_L_put_20 : decode b_L_put 20 = .ok (.iconst 0, 1) := by decide +kernel
theorem d_L_put_21 : decode b_L_put 21 = .ok (.ireturn, 1) := by decide +kernel
theorem d_L_compose_0 : decode b_L_compose 0 = .ok (.aload_n 0, 1) := by decide +kernel
theorem d_L_compose_1 : decode b_L_compose 1 = .ok (.iload_n 1, 1) := by decide +kernel
theorem d_L_compose_2 : decode b_L_compose 2 = .ok (.iload_n 2, 1) := by decide +kernel
theorem d_L_compose_3 : decode b_L_compose 3 = .ok (.iload_n 3, 1) := by decide +kernel
theorem d_L_compose_4 : decode b_L_compose 4 = .ok (.invokevirtual 21, 3) := by decide +kernel
theorem d_L_compose_7 : decode b_L_compose 7 = .ok (.goto 7, 3) := by decide +kernel
theorem d_L_compose_10 : decode b_L_compose 10 = .ok (.astore 4, 2) := by decide +kernel
theorem d_L_compose_12 : decode b_L_compose 12 = .ok (.iconst 1, 1) := by decide +kernel
theorem d_L_compose_13 : decode b_L_compose 13 = .ok (.ireturn, 1) := by decide +kernel
theorem d_L_compose_14 : decode b_L_compose 14 = .ok (.iconst 0, 1) := by decide +kernel
theorem d_L_compose_15 : decode b_L_compose 15 = .ok (.ireturn, 1) := by decide +kernel
theorem d_L_invert_0 : decode b_L_invert 0 = .ok (.aload_n 0, 1) := by decide +kernel
theorem d_L_invert_1 : decode b_L_invert 1 = .ok (.iload_n 1, 1) := by decide +kernel
theorem d_L_invert_2 : decode b_L_invert 2 = .ok (.iload_n 2, 1) := by decide +kernel
theorem d_L_invert_3 : decode b_L_invert 3 = .ok (.invokevirtual 25, 3) := by decide +kernel
theorem d_L_invert_6 : decode b_L_invert 6 = .ok (.goto 6, 3) := by decide +kernel
theorem d_L_invert_9 : decode b_L_invert 9 = .ok (.astore_n 3, 1) := by decide +kernel
theorem d_L_invert_10 : decode b_L_invert 10 = .ok (.iconst 1, 1) := by decide +kernel
theorem d_L_invert_11 : decode b_L_invert 11 = .ok (.ireturn, 1) := by decide +kernel
theorem d_L_invert_12 : decode b_L_invert 12 = .ok (.iconst 0, 1) := by decide +kernel
theorem d_L_invert_13 : decode b_L_invert 13 = .ok (.ireturn, 1) := by decide +kernel
theorem d_L_power_0 : decode b_L_power 0 = .ok (.aload_n 0, 1) := by decide +kernel
theorem d_L_power_1 : decode b_L_power 1 = .ok (.iload_n 1, 1) := by decide +kernel
theorem d_L_power_2 : decode b_L_power 2 = .ok (.iload_n 2, 1) := by decide +kernel
theorem d_L_power_3 : decode b_L_power 3 = .ok (.lload_n 3, 1) := by decide +kernel
theorem d_L_power_4 : decode b_L_power 4 = .ok (.invokevirtual 29, 3) := by decide +kernel
theorem d_L_power_7 : decode b_L_power 7 = .ok (.goto 7, 3) := by decide +kernel
theorem d_L_power_10 : decode b_L_power 10 = .ok (.astore 5, 2) := by decide +kernel
theorem d_L_power_12 : decode b_L_power 12 = .ok (.iconst 1, 1) := by decide +kernel
theorem d_L_power_13 : decode b_L_power 13 = .ok (.ireturn, 1) := by decide +kernel
theorem d_L_power_14 : decode b_L_power 14 = .ok (.iconst 0, 1) := by decide +kernel
theorem d_L_power_15 : decode b_L_power 15 = .ok (.ireturn, 1) := by decide +kernel
theorem d_L_form_0 : decode b_L_form 0 = .ok (.aload_n 3, 1) := by decide +kernel
theorem d_L_form_1 : decode b_L_form 1 = .ok (.iconst 0, 1) := by decide +kernel
theorem d_L_form_2 : decode b_L_form 2 = .ok (.aload_n 0, 1) := by decide +kernel
theorem d_L_form_3 : decode b_L_form 3 = .ok (.iload_n 1, 1) := by decide +kernel
theorem d_L_form_4 : decode b_L_form 4 = .ok (.iload_n 2, 1) := by decide +kernel
theorem d_L_form_5 : decode b_L_form 5 = .ok (.invokevirtual 33, 3) := by decide +kernel
theorem d_L_form_8 : decode b_L_form 8 = .ok (.i2l, 1) := by decide +kernel
theorem d_L_form_9 : decode b_L_form 9 = .ok (.lastore, 1) := by decide +kernel
theorem d_L_form_10 : decode b_L_form 10 = .ok (.goto 7, 3) := by decide +kernel
theorem d_L_form_13 : decode b_L_form 13 = .ok (.astore 4, 2) := by decide +kernel
theorem d_L_form_15 : decode b_L_form 15 = .ok (.iconst 1, 1) := by decide +kernel
theorem d_L_form_16 : decode b_L_form 16 = .ok (.ireturn, 1) := by decide +kernel
theorem d_L_form_17 : decode b_L_form 17 = .ok (.iconst 0, 1) := by decide +kernel
theorem d_L_form_18 : decode b_L_form 18 = .ok (.ireturn, 1) := by decide +kernel
theorem d_L_same_0 : decode b_L_same 0 = .ok (.aload_n 3, 1) := by decide +kernel
theorem d_L_same_1 : decode b_L_same 1 = .ok (.iconst 0, 1) := by decide +kernel
theorem d_L_same_2 : decode b_L_same 2 = .ok (.aload_n 0, 1) := by decide +kernel
theorem d_L_same_3 : decode b_L_same 3 = .ok (.iload_n 1, 1) := by decide +kernel
theorem d_L_same_4 : decode b_L_same 4 = .ok (.iload_n 2, 1) := by decide +kernel
theorem d_L_same_5 : decode b_L_same 5 = .ok (.invokevirtual 37, 3) := by decide +kernel
theorem d_L_same_8 : decode b_L_same 8 = .ok (.ifCond .eq 7, 3) := by decide +kernel
theorem d_L_same_11 : decode b_L_same 11 = .ok (.lconst 1, 1) := by decide +kernel
theorem d_L_same_12 : decode b_L_same 12 = .ok (.goto 4, 3) := by decide +kernel
theorem d_L_same_15 : decode b_L_same 15 = .ok (.lconst 0, 1) := by decide +kernel
theorem d_L_same_16 : decode b_L_same 16 = .ok (.lastore, 1) := by decide +kernel
theorem d_L_same_17 : decode b_L_same 17 = .ok (.goto 7, 3) := by decide +kernel
theorem d_L_same_20 : decode b_L_same 20 = .ok (.astore 4, 2) := by decide +kernel
theorem d_L_same_22 : decode b_L_same 22 = .ok (.iconst 1, 1) := by decide +kernel
theorem d_L_same_23 : decode b_L_same 23 = .ok (.ireturn, 1) := by decide +kernel
theorem d_L_same_24 : decode b_L_same 24 = .ok (.iconst 0, 1) := by decide +kernel
theorem d_L_same_25 : decode b_L_same 25 = .ok (.ireturn, 1) := by decide +kernel
theorem d_L_order_0 : decode b_L_order 0 = .ok (.aload_n 2, 1) := by decide +kernel
theorem d_L_order_1 : decode b_L_order 1 = .ok (.iconst 0, 1) := by decide +kernel
theorem d_L_order_2 : decode b_L_order 2 = .ok (.aload_n 0, 1) := by decide +kernel
theorem d_L_order_3 : decode b_L_order 3 = .ok (.iload_n 1, 1) := by decide +kernel
theorem d_L_order_4 : decode b_L_order 4 = .ok (.invokevirtual 41, 3) := by decide +kernel
theorem d_L_order_7 : decode b_L_order 7 = .ok (.i2l, 1) := by decide +kernel
theorem d_L_order_8 : decode b_L_order 8 = .ok (.lastore, 1) := by decide +kernel
theorem d_L_order_9 : decode b_L_order 9 = .ok (.goto 6, 3) := by decide +kernel
theorem d_L_order_12 : decode b_L_order 12 = .ok (.astore_n 3, 1) := by decide +kernel
theorem d_L_order_13 : decode b_L_order 13 = .ok (.iconst 1, 1) := by decide +kernel
theorem d_L_order_14 : decode b_L_order 14 = .ok (.ireturn, 1) := by decide +kernel
theorem d_L_order_15 : decode b_L_order 15 = .ok (.iconst 0, 1) := by decide +kernel
theorem d_L_order_16 : decode b_L_order 16 = .ok (.ireturn, 1) := by decide +kernel
theorem d_L_exponent_0 : decode b_L_exponent 0 = .ok (.aload_n 3, 1) := by decide +kernel
theorem d_L_exponent_1 : decode b_L_exponent 1 = .ok (.iconst 0, 1) := by decide +kernel
theorem d_L_exponent_2 : decode b_L_exponent 2 = .ok (.aload_n 0, 1) := by decide +kernel
theorem d_L_exponent_3 : decode b_L_exponent 3 = .ok (.iload_n 1, 1) := by decide +kernel
theorem d_L_exponent_4 : decode b_L_exponent 4 = .ok (.iload_n 2, 1) := by decide +kernel
theorem d_L_exponent_5 : decode b_L_exponent 5 = .ok (.invokevirtual 45, 3) := by decide +kernel
theorem d_L_exponent_8 : decode b_L_exponent 8 = .ok (.i2l, 1) := by decide +kernel
theorem d_L_exponent_9 : decode b_L_exponent 9 = .ok (.lastore, 1) := by decide +kernel
theorem d_L_exponent_10 : decode b_L_exponent 10 = .ok (.goto 7, 3) := by decide +kernel
theorem d_L_exponent_13 : decode b_L_exponent 13 = .ok (.astore 4, 2) := by decide +kernel
theorem d_L_exponent_15 : decode b_L_exponent 15 = .ok (.iconst 1, 1) := by decide +kernel
theorem d_L_exponent_16 : decode b_L_exponent 16 = .ok (.ireturn, 1) := by decide +kernel
theorem d_L_exponent_17 : decode b_L_exponent 17 = .ok (.iconst 0, 1) := by decide +kernel
theorem d_L_exponent_18 : decode b_L_exponent 18 = .ok (.ireturn, 1) := by decide +kernel
theorem d_L_prime_0 : decode b_L_prime 0 = .ok (.aload_n 2, 1) := by decide +kernel
theorem d_L_prime_1 : decode b_L_prime 1 = .ok (.iconst 0, 1) := by decide +kernel
theorem d_L_prime_2 : decode b_L_prime 2 = .ok (.aload_n 0, 1) := by decide +kernel
theorem d_L_prime_3 : decode b_L_prime 3 = .ok (.iload_n 1, 1) := by decide +kernel
theorem d_L_prime_4 : decode b_L_prime 4 = .ok (.invokevirtual 48, 3) := by decide +kernel
theorem d_L_prime_7 : decode b_L_prime 7 = .ok (.i2l, 1) := by decide +kernel
theorem d_L_prime_8 : decode b_L_prime 8 = .ok (.lastore, 1) := by decide +kernel
theorem d_L_prime_9 : decode b_L_prime 9 = .ok (.goto 6, 3) := by decide +kernel
theorem d_L_prime_12 : decode b_L_prime 12 = .ok (.astore_n 3, 1) := by decide +kernel
theorem d_L_prime_13 : decode b_L_prime 13 = .ok (.iconst 1, 1) := by decide +kernel
theorem d_L_prime_14 : decode b_L_prime 14 = .ok (.ireturn, 1) := by decide +kernel
theorem d_L_prime_15 : decode b_L_prime 15 = .ok (.iconst 0, 1) := by decide +kernel
theorem d_L_prime_16 : decode b_L_prime 16 = .ok (.ireturn, 1) := by decide +kernel
theorem d_L_character_0 : decode b_L_character 0 = .ok (.aload_n 3, 1) := by decide +kernel
theorem d_L_character_1 : decode b_L_character 1 = .ok (.iconst 0, 1) := by decide +kernel
theorem d_L_character_2 : decode b_L_character 2 = .ok (.aload_n 0, 1) := by decide +kernel
theorem d_L_character_3 : decode b_L_character 3 = .ok (.iload_n 1, 1) := by decide +kernel
theorem d_L_character_4 : decode b_L_character 4 = .ok (.iload_n 2, 1) := by decide +kernel
theorem d_L_character_5 : decode b_L_character 5 = .ok (.invokevirtual 51, 3) := by decide +kernel
theorem d_L_character_8 : decode b_L_character 8 = .ok (.i2l, 1) := by decide +kernel
theorem d_L_character_9 : decode b_L_character 9 = .ok (.lastore, 1) := by decide +kernel
theorem d_L_character_10 : decode b_L_character 10 = .ok (.goto 7, 3) := by decide +kernel
theorem d_L_character_13 : decode b_L_character 13 = .ok (.astore 4, 2) := by decide +kernel
theorem d_L_character_15 : decode b_L_character 15 = .ok (.iconst 1, 1) := by decide +kernel
theorem d_L_character_16 : decode b_L_character 16 = .ok (.ireturn, 1) := by decide +kernel
theorem d_L_character_17 : decode b_L_character 17 = .ok (.iconst 0, 1) := by decide +kernel
theorem d_L_character_18 : decode b_L_character 18 = .ok (.ireturn, 1) := by decide +kernel
theorem d_L_law_0 : decode code 0 = .ok (.new 8, 3) := by decide +kernel
theorem d_L_law_3 : decode code 3 = .ok (.dup, 1) := by decide +kernel
theorem d_L_law_4 : decode code 4 = .ok (.invokespecial 54, 3) := by decide +kernel
theorem d_L_law_7 : decode code 7 = .ok (.astore_n 1, 1) := by decide +kernel
theorem d_L_law_8 : decode code 8 = .ok (.new 55, 3) := by decide +kernel
theorem d_L_law_11 : decode code 11 = .ok (.dup, 1) := by decide +kernel
theorem d_L_law_12 : decode code 12 = .ok (.invokespecial 57, 3) := by decide +kernel
theorem d_L_law_15 : decode code 15 = .ok (.astore_n 2, 1) := by decide +kernel
theorem d_L_law_16 : decode code 16 = .ok (.iconst 1, 1) := by decide +kernel
theorem d_L_law_17 : decode code 17 = .ok (.newarray .long, 2) := by decide +kernel
theorem d_L_law_19 : decode code 19 = .ok (.astore_n 3, 1) := by decide +kernel
theorem d_L_law_20 : decode code 20 = .ok (.iconst 0, 1) := by decide +kernel
theorem d_L_law_21 : decode code 21 = .ok (.istore 4, 2) := by decide +kernel
theorem d_L_law_23 : decode code 23 = .ok (.iload 4, 2) := by decide +kernel
theorem d_L_law_25 : decode code 25 = .ok (.aload_n 0, 1) := by decide +kernel
theorem d_L_law_26 : decode code 26 = .ok (.arraylength, 1) := by decide +kernel
theorem d_L_law_27 : decode code 27 = .ok (.iconst 5, 1) := by decide +kernel
theorem d_L_law_28 : decode code 28 = .ok (.isub, 1) := by decide +kernel
theorem d_L_law_29 : decode code 29 = .ok (.if_icmp .gt 801, 3) := by decide +kernel
theorem d_L_law_32 : decode code 32 = .ok (.aload_n 0, 1) := by decide +kernel
theorem d_L_law_33 : decode code 33 = .ok (.iload 4, 2) := by decide +kernel
theorem d_L_law_35 : decode code 35 = .ok (.iaload, 1) := by decide +kernel
theorem d_L_law_36 : decode code 36 = .ok (.bipush 15, 2) := by decide +kernel
theorem d_L_law_38 : decode code 38 = .ok (.iand, 1) := by decide +kernel
theorem d_L_law_39 : decode code 39 = .ok (.tableswitch 785 0 11 #[61, 97, 169, 229, 277, 369, 437, 512, 568, 636, 661, 717], 61) := by decide +kernel
theorem d_L_law_100 : decode code 100 = .ok (.aload_n 1, 1) := by decide +kernel
theorem d_L_law_101 : decode code 101 = .ok (.aload_n 0, 1) := by decide +kernel
theorem d_L_law_102 : decode code 102 = .ok (.iload 4, 2) := by decide +kernel
theorem d_L_law_104 : decode code 104 = .ok (.iconst 1, 1) := by decide +kernel
theorem d_L_law_105 : decode code 105 = .ok (.iadd, 1) := by decide +kernel
theorem d_L_law_106 : decode code 106 = .ok (.iaload, 1) := by decide +kernel
theorem d_L_law_107 : decode code 107 = .ok (.invokestatic 58, 3) := by decide +kernel
theorem d_L_law_110 : decode code 110 = .ok (.istore 5, 2) := by decide +kernel
theorem d_L_law_112 : decode code 112 = .ok (.aload_n 2, 1) := by decide +kernel
theorem d_L_law_113 : decode code 113 = .ok (.aload_n 0, 1) := by decide +kernel
theorem d_L_law_114 : decode code 114 = .ok (.iload 4, 2) := by decide +kernel
theorem d_L_law_116 : decode code 116 = .ok (.iconst 1, 1) := by decide +kernel
theorem d_L_law_117 : decode code 117 = .ok (.iadd, 1) := by decide +kernel
theorem d_L_law_118 : decode code 118 = .ok (.iaload, 1) := by decide +kernel
theorem d_L_law_119 : decode code 119 = .ok (.invokevirtual 63, 3) := by decide +kernel
theorem d_L_law_122 : decode code 122 = .ok (.aload_n 2, 1) := by decide +kernel
theorem d_L_law_123 : decode code 123 = .ok (.invokevirtual 64, 3) := by decide +kernel
theorem d_L_law_126 : decode code 126 = .ok (.iload 5, 2) := by decide +kernel
theorem d_L_law_128 : decode code 128 = .ok (.if_icmp .eq 5, 3) := by decide +kernel
theorem d_L_law_131 : decode code 131 = .ok (.iconst 0, 1) := by decide +kernel
theorem d_L_law_132 : decode code 132 = .ok (.ireturn, 1) := by decide +kernel
theorem d_L_law_133 : decode code 133 = .ok (.goto 691, 3) := by decide +kernel
theorem d_L_law_136 : decode code 136 = .ok (.aload_n 1, 1) := by decide +kernel
theorem d_L_law_137 : decode code 137 = .ok (.aload_n 0, 1) := by decide +kernel
theorem d_L_law_138 : decode code 138 = .ok (.iload 4, 2) := by decide +kernel
theorem d_L_law_140 : decode code 140 = .ok (.iconst 1, 1) := by decide +kernel
theorem d_L_law_141 : decode code 141 = .ok (.iadd, 1) := by decide +kernel
theorem d_L_law_142 : decode code 142 = .ok (.iaload, 1) := by decide +kernel
theorem d_L_law_143 : decode code 143 = .ok (.aload_n 0, 1) := by decide +kernel
theorem d_L_law_144 : decode code 144 = .ok (.iload 4, 2) := by decide +kernel
theorem d_L_law_146 : decode code 146 = .ok (.iconst 2, 1) := by decide +kernel
theorem d_L_law_147 : decode code 147 = .ok (.iadd, 1) := by decide +kernel
theorem d_L_law_148 : decode code 148 = .ok (.iaload, 1) := by decide +kernel
theorem d_L_law_149 : decode code 149 = .ok (.aload_n 0, 1) := by decide +kernel
theorem d_L_law_150 : decode code 150 = .ok (.iload 4, 2) := by decide +kernel
theorem d_L_law_152 : decode code 152 = .ok (.iconst 3, 1) := by decide +kernel
theorem d_L_law_153 : decode code 153 = .ok (.iadd, 1) := by decide +kernel
theorem d_L_law_154 : decode code 154 = .ok (.iaload, 1) := by decide +kernel
theorem d_L_law_155 : decode code 155 = .ok (.aload_n 0, 1) := by decide +kernel
theorem d_L_law_156 : decode code 156 = .ok (.iload 4, 2) := by decide +kernel
theorem d_L_law_158 : decode code 158 = .ok (.iconst 4, 1) := by decide +kernel
theorem d_L_law_159 : decode code 159 = .ok (.iadd, 1) := by decide +kernel
theorem d_L_law_160 : decode code 160 = .ok (.iaload, 1) := by decide +kernel
theorem d_L_law_161 : decode code 161 = .ok (.invokestatic 68, 3) := by decide +kernel
theorem d_L_law_164 : decode code 164 = .ok (.istore 5, 2) := by decide +kernel
theorem d_L_law_166 : decode code 166 = .ok (.aload_n 2, 1) := by decide +kernel
theorem d_L_law_167 : decode code 167 = .ok (.aload_n 0, 1) := by decide +kernel
theorem d_L_law_168 : decode code 168 = .ok (.iload 4, 2) := by decide +kernel
theorem d_L_law_170 : decode code 170 = .ok (.iconst 1, 1) := by decide +kernel
theorem d_L_law_171 : decode code 171 = .ok (.iadd, 1) := by decide +kernel
theorem d_L_law_172 : decode code 172 = .ok (.iaload, 1) := by decide +kernel
theorem d_L_law_173 : decode code 173 = .ok (.aload_n 0, 1) := by decide +kernel
theorem d_L_law_174 : decode code 174 = .ok (.iload 4, 2) := by decide +kernel
theorem d_L_law_176 : decode code 176 = .ok (.iconst 2, 1) := by decide +kernel
theorem d_L_law_177 : decode code 177 = .ok (.iadd, 1) := by decide +kernel
theorem d_L_law_178 : decode code 178 = .ok (.iaload, 1) := by decide +kernel
theorem d_L_law_179 : decode code 179 = .ok (.aload_n 0, 1) := by decide +kernel
theorem d_L_law_180 : decode code 180 = .ok (.iload 4, 2) := by decide +kernel
theorem d_L_law_182 : decode code 182 = .ok (.iconst 3, 1) := by decide +kernel
theorem d_L_law_183 : decode code 183 = .ok (.iadd, 1) := by decide +kernel
theorem d_L_law_184 : decode code 184 = .ok (.iaload, 1) := by decide +kernel
theorem d_L_law_185 : decode code 185 = .ok (.aload_n 0, 1) := by decide +kernel
theorem d_L_law_186 : decode code 186 = .ok (.iload 4, 2) := by decide +kernel
theorem d_L_law_188 : decode code 188 = .ok (.iconst 4, 1) := by decide +kernel
theorem d_L_law_189 : decode code 189 = .ok (.iadd, 1) := by decide +kernel
theorem d_L_law_190 : decode code 190 = .ok (.iaload, 1) := by decide +kernel
theorem d_L_law_191 : decode code 191 = .ok (.invokevirtual 71, 3) := by decide +kernel
theorem d_L_law_194 : decode code 194 = .ok (.aload_n 2, 1) := by decide +kernel
theorem d_L_law_195 : decode code 195 = .ok (.invokevirtual 64, 3) := by decide +kernel
theorem d_L_law_198 : decode code 198 = .ok (.iload 5, 2) := by decide +kernel
theorem d_L_law_200 : decode code 200 = .ok (.if_icmp .eq 5, 3) := by decide +kernel
theorem d_L_law_203 : decode code 203 = .ok (.iconst 0, 1) := by decide +kernel
theorem d_L_law_204 : decode code 204 = .ok (.ireturn, 1) := by decide +kernel
theorem d_L_law_205 : decode code 205 = .ok (.goto 619, 3) := by decide +kernel
theorem d_L_law_208 : decode code 208 = .ok (.aload_n 1, 1) := by decide +kernel
theorem d_L_law_209 : decode code 209 = .ok (.aload_n 0, 1) := by decide +kernel
theorem d_L_law_210 : decode code 210 = .ok (.iload 4, 2) := by decide +kernel
theorem d_L_law_212 : decode code 212 = .ok (.iconst 1, 1) := by decide +kernel
theorem d_L_law_213 : decode code 213 = .ok (.iadd, 1) := by decide +kernel
theorem d_L_law_214 : decode code 214 = .ok (.iaload, 1) := by decide +kernel
theorem d_L_law_215 : decode code 215 = .ok (.aload_n 0, 1) := by decide +kernel
theorem d_L_law_216 : decode code 216 = .ok (.iload 4, 2) := by decide +kernel
theorem d_L_law_218 : decode code 218 = .ok (.iconst 2, 1) := by decide +kernel
theorem d_L_law_219 : decode code 219 = .ok (.iadd, 1) := by decide +kernel
theorem d_L_law_220 : decode code 220 = .ok (.iaload, 1) := by decide +kernel
theorem d_L_law_221 : decode code 221 = .ok (.aload_n 0, 1) := by decide +kernel
theorem d_L_law_222 : decode code 222 = .ok (.iload 4, 2) := by decide +kernel
theorem d_L_law_224 : decode code 224 = .ok (.iconst 3, 1) := by decide +kernel
theorem d_L_law_225 : decode code 225 = .ok (.iadd, 1) := by decide +kernel
theorem d_L_law_226 : decode code 226 = .ok (.iaload, 1) := by decide +kernel
theorem d_L_law_227 : decode code 227 = .ok (.invokestatic 72, 3) := by decide +kernel
theorem d_L_law_230 : decode code 230 = .ok (.istore 5, 2) := by decide +kernel
theorem d_L_law_232 : decode code 232 = .ok (.aload_n 2, 1) := by decide +kernel
theorem d_L_law_233 : decode code 233 = .ok (.aload_n 0, 1) := by decide +kernel
theorem d_L_law_234 : decode code 234 = .ok (.iload 4, 2) := by decide +kernel
theorem d_L_law_236 : decode code 236 = .ok (.iconst 1, 1) := by decide +kernel
theorem d_L_law_237 : decode code 237 = .ok (.iadd, 1) := by decide +kernel
theorem d_L_law_238 : decode code 238 = .ok (.iaload, 1) := by decide +kernel
theorem d_L_law_239 : decode code 239 = .ok (.aload_n 0, 1) := by decide +kernel
theorem d_L_law_240 : decode code 240 = .ok (.iload 4, 2) := by decide +kernel
theorem d_L_law_242 : decode code 242 = .ok (.iconst 2, 1) := by decide +kernel
theorem d_L_law_243 : decode code 243 = .ok (.iadd, 1) := by decide +kernel
theorem d_L_law_244 : decode code 244 = .ok (.iaload, 1) := by decide +kernel
theorem d_L_law_245 : decode code 245 = .ok (.aload_n 0, 1) := by decide +kernel
theorem d_L_law_246 : decode code 246 = .ok (.iload 4, 2) := by decide +kernel
theorem d_L_law_248 : decode code 248 = .ok (.iconst 3, 1) := by decide +kernel
theorem d_L_law_249 : decode code 249 = .ok (.iadd, 1) := by decide +kernel
theorem d_L_law_250 : decode code 250 = .ok (.iaload, 1) := by decide +kernel
theorem d_L_law_251 : decode code 251 = .ok (.invokevirtual 75, 3) := by decide +kernel
theorem d_L_law_254 : decode code 254 = .ok (.aload_n 2, 1) := by decide +kernel
theorem d_L_law_255 : decode code 255 = .ok (.invokevirtual 64, 3) := by decide +kernel
theorem d_L_law_258 : decode code 258 = .ok (.iload 5, 2) := by decide +kernel
theorem d_L_law_260 : decode code 260 = .ok (.if_icmp .eq 5, 3) := by decide +kernel
theorem d_L_law_263 : decode code 263 = .ok (.iconst 0, 1) := by decide +kernel
theorem d_L_law_264 : decode code 264 = .ok (.ireturn, 1) := by decide +kernel
theorem d_L_law_265 : decode code 265 = .ok (.goto 559, 3) := by decide +kernel
theorem d_L_law_268 : decode code 268 = .ok (.aload_n 1, 1) := by decide +kernel
theorem d_L_law_269 : decode code 269 = .ok (.aload_n 0, 1) := by decide +kernel
theorem d_L_law_270 : decode code 270 = .ok (.iload 4, 2) := by decide +kernel
theorem d_L_law_272 : decode code 272 = .ok (.iconst 1, 1) := by decide +kernel
theorem d_L_law_273 : decode code 273 = .ok (.iadd, 1) := by decide +kernel
theorem d_L_law_274 : decode code 274 = .ok (.iaload, 1) := by decide +kernel
theorem d_L_law_275 : decode code 275 = .ok (.aload_n 0, 1) := by decide +kernel
theorem d_L_law_276 : decode code 276 = .ok (.iload 4, 2) := by decide +kernel
theorem d_L_law_278 : decode code 278 = .ok (.iconst 2, 1) := by decide +kernel
theorem d_L_law_279 : decode code 279 = .ok (.iadd, 1) := by decide +kernel
theorem d_L_law_280 : decode code 280 = .ok (.iaload, 1) := by decide +kernel
theorem d_L_law_281 : decode code 281 = .ok (.invokestatic 76, 3) := by decide +kernel
theorem d_L_law_284 : decode code 284 = .ok (.istore 5, 2) := by decide +kernel
theorem d_L_law_286 : decode code 286 = .ok (.aload_n 2, 1) := by decide +kernel
theorem d_L_law_287 : decode code 287 = .ok (.aload_n 0, 1) := by decide +kernel
theorem d_L_law_288 : decode code 288 = .ok (.iload 4, 2) := by decide +kernel
theorem d_L_law_290 : decode code 290 = .ok (.iconst 1, 1) := by decide +kernel
theorem d_L_law_291 : decode code 291 = .ok (.iadd, 1) := by decide +kernel
theorem d_L_law_292 : decode code 292 = .ok (.iaload, 1) := by decide +kernel
theorem d_L_law_293 : decode code 293 = .ok (.aload_n 0, 1) := by decide +kernel
theorem d_L_law_294 : decode code 294 = .ok (.iload 4, 2) := by decide +kernel
theorem d_L_law_296 : decode code 296 = .ok (.iconst 2, 1) := by decide +kernel
theorem d_L_law_297 : decode code 297 = .ok (.iadd, 1) := by decide +kernel
theorem d_L_law_298 : decode code 298 = .ok (.iaload, 1) := by decide +kernel
theorem d_L_law_299 : decode code 299 = .ok (.invokevirtual 79, 3) := by decide +kernel
theorem d_L_law_302 : decode code 302 = .ok (.aload_n 2, 1) := by decide +kernel
theorem d_L_law_303 : decode code 303 = .ok (.invokevirtual 64, 3) := by decide +kernel
theorem d_L_law_306 : decode code 306 = .ok (.iload 5, 2) := by decide +kernel
theorem d_L_law_308 : decode code 308 = .ok (.if_icmp .eq 5, 3) := by decide +kernel
theorem d_L_law_311 : decode code 311 = .ok (.iconst 0, 1) := by decide +kernel
theorem d_L_law_312 : decode code 312 = .ok (.ireturn, 1) := by decide +kernel
theorem d_L_law_313 : decode code 313 = .ok (.goto 511, 3) := by decide +kernel
theorem d_L_law_316 : decode code 316 = .ok (.aload_n 1, 1) := by decide +kernel
theorem d_L_law_317 : decode code 317 = .ok (.aload_n 0, 1) := by decide +kernel
theorem d_L_law_318 : decode code 318 = .ok (.iload 4, 2) := by decide +kernel
theorem d_L_law_320 : decode code 320 = .ok (.iconst 1, 1) := by decide +kernel
theorem d_L_law_321 : decode code 321 = .ok (.iadd, 1) := by decide +kernel
theorem d_L_law_322 : decode code 322 = .ok (.iaload, 1) := by decide +kernel
theorem d_L_law_323 : decode code 323 = .ok (.aload_n 0, 1) := by decide +kernel
theorem d_L_law_324 : decode code 324 = .ok (.iload 4, 2) := by decide +kernel
theorem d_L_law_326 : decode code 326 = .ok (.iconst 2, 1) := by decide +kernel
theorem d_L_law_327 : decode code 327 = .ok (.iadd, 1) := by decide +kernel
theorem d_L_law_328 : decode code 328 = .ok (.iaload, 1) := by decide +kernel
theorem d_L_law_329 : decode code 329 = .ok (.aload_n 0, 1) := by decide +kernel
theorem d_L_law_330 : decode code 330 = .ok (.iload 4, 2) := by decide +kernel
theorem d_L_law_332 : decode code 332 = .ok (.iconst 3, 1) := by decide +kernel
theorem d_L_law_333 : decode code 333 = .ok (.iadd, 1) := by decide +kernel
theorem d_L_law_334 : decode code 334 = .ok (.iaload, 1) := by decide +kernel
theorem d_L_law_335 : decode code 335 = .ok (.i2l, 1) := by decide +kernel
theorem d_L_law_336 : decode code 336 = .ok (.bipush 32, 2) := by decide +kernel
theorem d_L_law_338 : decode code 338 = .ok (.lshl, 1) := by decide +kernel
theorem d_L_law_339 : decode code 339 = .ok (.aload_n 0, 1) := by decide +kernel
theorem d_L_law_340 : decode code 340 = .ok (.iload 4, 2) := by decide +kernel
theorem d_L_law_342 : decode code 342 = .ok (.iconst 4, 1) := by decide +kernel
theorem d_L_law_343 : decode code 343 = .ok (.iadd, 1) := by decide +kernel
theorem d_L_law_344 : decode code 344 = .ok (.iaload, 1) := by decide +kernel
theorem d_L_law_345 : decode code 345 = .ok (.i2l, 1) := by decide +kernel
theorem d_L_law_346 : decode code 346 = .ok (.ldc2_w 80, 3) := by decide +kernel
theorem d_L_law_349 : decode code 349 = .ok (.land, 1) := by decide +kernel
theorem d_L_law_350 : decode code 350 = .ok (.lor, 1) := by decide +kernel
theorem d_L_law_351 : decode code 351 = .ok (.invokestatic 82, 3) := by decide +kernel
theorem d_L_law_354 : decode code 354 = .ok (.istore 5, 2) := by decide +kernel
theorem d_L_law_356 : decode code 356 = .ok (.aload_n 2, 1) := by decide +kernel
theorem d_L_law_357 : decode code 357 = .ok (.aload_n 0, 1) := by decide +kernel
theorem d_L_law_358 : decode code 358 = .ok (.iload 4, 2) := by decide +kernel
theorem d_L_law_360 : decode code 360 = .ok (.iconst 1, 1) := by decide +kernel
theorem d_L_law_361 : decode code 361 = .ok (.iadd, 1) := by decide +kernel
theorem d_L_law_362 : decode code 362 = .ok (.iaload, 1) := by decide +kernel
theorem d_L_law_363 : decode code 363 = .ok (.aload_n 0, 1) := by decide +kernel
theorem d_L_law_364 : decode code 364 = .ok (.iload 4, 2) := by decide +kernel
theorem d_L_law_366 : decode code 366 = .ok (.iconst 2, 1) := by decide +kernel
theorem d_L_law_367 : decode code 367 = .ok (.iadd, 1) := by decide +kernel
theorem d_L_law_368 : decode code 368 = .ok (.iaload, 1) := by decide +kernel
theorem d_L_law_369 : decode code 369 = .ok (.aload_n 0, 1) := by decide +kernel
theorem d_L_law_370 : decode code 370 = .ok (.iload 4, 2) := by decide +kernel
theorem d_L_law_372 : decode code 372 = .ok (.iconst 3, 1) := by decide +kernel
theorem d_L_law_373 : decode code 373 = .ok (.iadd, 1) := by decide +kernel
theorem d_L_law_374 : decode code 374 = .ok (.iaload, 1) := by decide +kernel
theorem d_L_law_375 : decode code 375 = .ok (.i2l, 1) := by decide +kernel
theorem d_L_law_376 : decode code 376 = .ok (.bipush 32, 2) := by decide +kernel
theorem d_L_law_378 : decode code 378 = .ok (.lshl, 1) := by decide +kernel
theorem d_L_law_379 : decode code 379 = .ok (.aload_n 0, 1) := by decide +kernel
theorem d_L_law_380 : decode code 380 = .ok (.iload 4, 2) := by decide +kernel
theorem d_L_law_382 : decode code 382 = .ok (.iconst 4, 1) := by decide +kernel
theorem d_L_law_383 : decode code 383 = .ok (.iadd, 1) := by decide +kernel
theorem d_L_law_384 : decode code 384 = .ok (.iaload, 1) := by decide +kernel
theorem d_L_law_385 : decode code 385 = .ok (.i2l, 1) := by decide +kernel
theorem d_L_law_386 : decode code 386 = .ok (.ldc2_w 80, 3) := by decide +kernel
theorem d_L_law_389 : decode code 389 = .ok (.land, 1) := by decide +kernel
theorem d_L_law_390 : decode code 390 = .ok (.lor, 1) := by decide +kernel
theorem d_L_law_391 : decode code 391 = .ok (.invokevirtual 85, 3) := by decide +kernel
theorem d_L_law_394 : decode code 394 = .ok (.aload_n 2, 1) := by decide +kernel
theorem d_L_law_395 : decode code 395 = .ok (.invokevirtual 64, 3) := by decide +kernel
theorem d_L_law_398 : decode code 398 = .ok (.iload 5, 2) := by decide +kernel
theorem d_L_law_400 : decode code 400 = .ok (.if_icmp .eq 5, 3) := by decide +kernel
theorem d_L_law_403 : decode code 403 = .ok (.iconst 0, 1) := by decide +kernel
theorem d_L_law_404 : decode code 404 = .ok (.ireturn, 1) := by decide +kernel
theorem d_L_law_405 : decode code 405 = .ok (.goto 419, 3) := by decide +kernel
theorem d_L_law_408 : decode code 408 = .ok (.aload_n 1, 1) := by decide +kernel
theorem d_L_law_409 : decode code 409 = .ok (.aload_n 0, 1) := by decide +kernel
theorem d_L_law_410 : decode code 410 = .ok (.iload 4, 2) := by decide +kernel
theorem d_L_law_412 : decode code 412 = .ok (.iconst 1, 1) := by decide +kernel
theorem d_L_law_413 : decode code 413 = .ok (.iadd, 1) := by decide +kernel
theorem d_L_law_414 : decode code 414 = .ok (.iaload, 1) := by decide +kernel
theorem d_L_law_415 : decode code 415 = .ok (.aload_n 0, 1) := by decide +kernel
theorem d_L_law_416 : decode code 416 = .ok (.iload 4, 2) := by decide +kernel
theorem d_L_law_418 : decode code 418 = .ok (.iconst 2, 1) := by decide +kernel
theorem d_L_law_419 : decode code 419 = .ok (.iadd, 1) := by decide +kernel
theorem d_L_law_420 : decode code 420 = .ok (.iaload, 1) := by decide +kernel
theorem d_L_law_421 : decode code 421 = .ok (.aload_n 3, 1) := by decide +kernel
theorem d_L_law_422 : decode code 422 = .ok (.invokestatic 86, 3) := by decide +kernel
theorem d_L_law_425 : decode code 425 = .ok (.istore 5, 2) := by decide +kernel
theorem d_L_law_427 : decode code 427 = .ok (.aload_n 2, 1) := by decide +kernel
theorem d_L_law_428 : decode code 428 = .ok (.aload_n 0, 1) := by decide +kernel
theorem d_L_law_429 : decode code 429 = .ok (.iload 4, 2) := by decide +kernel
theorem d_L_law_431 : decode code 431 = .ok (.iconst 1, 1) := by decide +kernel
theorem d_L_law_432 : decode code 432 = .ok (.iadd, 1) := by decide +kernel
theorem d_L_law_433 : decode code 433 = .ok (.iaload, 1) := by decide +kernel
theorem d_L_law_434 : decode code 434 = .ok (.aload_n 0, 1) := by decide +kernel
theorem d_L_law_435 : decode code 435 = .ok (.iload 4, 2) := by decide +kernel
theorem d_L_law_437 : decode code 437 = .ok (.iconst 2, 1) := by decide +kernel
theorem d_L_law_438 : decode code 438 = .ok (.iadd, 1) := by decide +kernel
theorem d_L_law_439 : decode code 439 = .ok (.iaload, 1) := by decide +kernel
theorem d_L_law_440 : decode code 440 = .ok (.invokevirtual 89, 3) := by decide +kernel
theorem d_L_law_443 : decode code 443 = .ok (.istore 6, 2) := by decide +kernel
theorem d_L_law_445 : decode code 445 = .ok (.aload_n 2, 1) := by decide +kernel
theorem d_L_law_446 : decode code 446 = .ok (.invokevirtual 64, 3) := by decide +kernel
theorem d_L_law_449 : decode code 449 = .ok (.iload 5, 2) := by decide +kernel
theorem d_L_law_451 : decode code 451 = .ok (.if_icmp .eq 5, 3) := by decide +kernel
theorem d_L_law_454 : decode code 454 = .ok (.iconst 0, 1) := by decide +kernel
theorem d_L_law_455 : decode code 455 = .ok (.ireturn, 1) := by decide +kernel
theorem d_L_law_456 : decode code 456 = .ok (.iload 5, 2) := by decide +kernel
theorem d_L_law_458 : decode code 458 = .ok (.ifCond .ne 15, 3) := by decide +kernel
theorem d_L_law_461 : decode code 461 = .ok (.aload_n 3, 1) := by decide +kernel
theorem d_L_law_462 : decode code 462 = .ok (.iconst 0, 1) := by decide +kernel
theorem d_L_law_463 : decode code 463 = .ok (.laload, 1) := by decide +kernel
theorem d_L_law_464 : decode code 464 = .ok (.iload 6, 2) := by decide +kernel
theorem d_L_law_466 : decode code 466 = .ok (.i2l, 1) := by decide +kernel
theorem d_L_law_467 : decode code 467 = .ok (.lcmp, 1) := by decide +kernel
theorem d_L_law_468 : decode code 468 = .ok (.ifCond .eq 5, 3) := by decide +kernel
theorem d_L_law_471 : decode code 471 = .ok (.iconst 0, 1) := by decide +kernel
theorem d_L_law_472 : decode code 472 = .ok (.ireturn, 1) := by decide +kernel
theorem d_L_law_473 : decode code 473 = .ok (.goto 351, 3) := by decide +kernel
theorem d_L_law_476 : decode code 476 = .ok (.aload_n 1, 1) := by decide +kernel
theorem d_L_law_477 : decode code 477 = .ok (.aload_n 0, 1) := by decide +kernel
theorem d_L_law_478 : decode code 478 = .ok (.iload 4, 2) := by decide +kernel
theorem d_L_law_480 : decode code 480 = .ok (.iconst 1, 1) := by decide +kernel
theorem d_L_law_481 : decode code 481 = .ok (.iadd, 1) := by decide +kernel
theorem d_L_law_482 : decode code 482 = .ok (.iaload, 1) := by decide +kernel
theorem d_L_law_483 : decode code 483 = .ok (.aload_n 0, 1) := by decide +kernel
theorem d_L_law_484 : decode code 484 = .ok (.iload 4, 2) := by decide +kernel
theorem d_L_law_486 : decode code 486 = .ok (.iconst 2, 1) := by decide +kernel
theorem d_L_law_487 : decode code 487 = .ok (.iadd, 1) := by decide +kernel
theorem d_L_law_488 : decode code 488 = .ok (.iaload, 1) := by decide +kernel
theorem d_L_law_489 : decode code 489 = .ok (.aload_n 3, 1) := by decide +kernel
theorem d_L_law_490 : decode code 490 = .ok (.invokestatic 90, 3) := by decide +kernel
theorem d_L_law_493 : decode code 493 = .ok (.istore 5, 2) := by decide +kernel
theorem d_L_law_495 : decode code 495 = .ok (.aload_n 2, 1) := by decide +kernel
theorem d_L_law_496 : decode code 496 = .ok (.aload_n 0, 1) := by decide +kernel
theorem d_L_law_497 : decode code 497 = .ok (.iload 4, 2) := by decide +kernel
theorem d_L_law_499 : decode code 499 = .ok (.iconst 1, 1) := by decide +kernel
theorem d_L_law_500 : decode code 500 = .ok (.iadd, 1) := by decide +kernel
theorem d_L_law_501 : decode code 501 = .ok (.iaload, 1) := by decide +kernel
theorem d_L_law_502 : decode code 502 = .ok (.aload_n 0, 1) := by decide +kernel
theorem d_L_law_503 : decode code 503 = .ok (.iload 4, 2) := by decide +kernel
theorem d_L_law_505 : decode code 505 = .ok (.iconst 2, 1) := by decide +kernel
theorem d_L_law_506 : decode code 506 = .ok (.iadd, 1) := by decide +kernel
theorem d_L_law_507 : decode code 507 = .ok (.iaload, 1) := by decide +kernel
theorem d_L_law_508 : decode code 508 = .ok (.invokevirtual 92, 3) := by decide +kernel
theorem d_L_law_511 : decode code 511 = .ok (.istore 6, 2) := by decide +kernel
theorem d_L_law_513 : decode code 513 = .ok (.aload_n 2, 1) := by decide +kernel
theorem d_L_law_514 : decode code 514 = .ok (.invokevirtual 64, 3) := by decide +kernel
theorem d_L_law_517 : decode code 517 = .ok (.iload 5, 2) := by decide +kernel
theorem d_L_law_519 : decode code 519 = .ok (.if_icmp .eq 5, 3) := by decide +kernel
theorem d_L_law_522 : decode code 522 = .ok (.iconst 0, 1) := by decide +kernel
theorem d_L_law_523 : decode code 523 = .ok (.ireturn, 1) := by decide +kernel
theorem d_L_law_524 : decode code 524 = .ok (.iload 5, 2) := by decide +kernel
theorem d_L_law_526 : decode code 526 = .ok (.ifCond .ne 22, 3) := by decide +kernel
theorem d_L_law_529 : decode code 529 = .ok (.aload_n 3, 1) := by decide +kernel
theorem d_L_law_530 : decode code 530 = .ok (.iconst 0, 1) := by decide +kernel
theorem d_L_law_531 : decode code 531 = .ok (.laload, 1) := by decide +kernel
theorem d_L_law_532 : decode code 532 = .ok (.iload 6, 2) := by decide +kernel
theorem d_L_law_534 : decode code 534 = .ok (.ifCond .eq 7, 3) := by decide +kernel
theorem d_L_law_537 : decode code 537 = .ok (.lconst 1, 1) := by decide +kernel
theorem d_L_law_538 : decode code 538 = .ok (.goto 4, 3) := by decide +kernel
theorem d_L_law_541 : decode code 541 = .ok (.lconst 0, 1) := by decide +kernel
theorem d_L_law_542 : decode code 542 = .ok (.lcmp, 1) := by decide +kernel
theorem d_L_law_543 : decode code 543 = .ok (.ifCond .eq 5, 3) := by decide +kernel
theorem d_L_law_546 : decode code 546 = .ok (.iconst 0, 1) := by decide +kernel
theorem d_L_law_547 : decode code 547 = .ok (.ireturn, 1) := by decide +kernel
theorem d_L_law_548 : decode code 548 = .ok (.goto 276, 3) := by decide +kernel
theorem d_L_law_551 : decode code 551 = .ok (.aload_n 1, 1) := by decide +kernel
theorem d_L_law_552 : decode code 552 = .ok (.aload_n 0, 1) := by decide +kernel
theorem d_L_law_553 : decode code 553 = .ok (.iload 4, 2) := by decide +kernel
theorem d_L_law_555 : decode code 555 = .ok (.iconst 1, 1) := by decide +kernel
theorem d_L_law_556 : decode code 556 = .ok (.iadd, 1) := by decide +kernel
theorem d_L_law_557 : decode code 557 = .ok (.iaload, 1) := by decide +kernel
theorem d_L_law_558 : decode code 558 = .ok (.aload_n 3, 1) := by decide +kernel
theorem d_L_law_559 : decode code 559 = .ok (.invokestatic 93, 3) := by decide +kernel
theorem d_L_law_562 : decode code 562 = .ok (.istore 5, 2) := by decide +kernel
theorem d_L_law_564 : decode code 564 = .ok (.aload_n 2, 1) := by decide +kernel
theorem d_L_law_565 : decode code 565 = .ok (.aload_n 0, 1) := by decide +kernel
theorem d_L_law_566 : decode code 566 = .ok (.iload 4, 2) := by decide +kernel
theorem d_L_law_568 : decode code 568 = .ok (.iconst 1, 1) := by decide +kernel
theorem d_L_law_569 : decode code 569 = .ok (.iadd, 1) := by decide +kernel
theorem d_L_law_570 : decode code 570 = .ok (.iaload, 1) := by decide +kernel
theorem d_L_law_571 : decode code 571 = .ok (.invokevirtual 96, 3) := by decide +kernel
theorem d_L_law_574 : decode code 574 = .ok (.istore 6, 2) := by decide +kernel
theorem d_L_law_576 : decode code 576 = .ok (.aload_n 2, 1) := by decide +kernel
theorem d_L_law_577 : decode code 577 = .ok (.invokevirtual 64, 3) := by decide +kernel
theorem d_L_law_580 : decode code 580 = .ok (.iload 5, 2) := by decide +kernel
theorem d_L_law_582 : decode code 582 = .ok (.if_icmp .eq 5, 3) := by decide +kernel
theorem d_L_law_585 : decode code 585 = .ok (.iconst 0, 1) := by decide +kernel
theorem d_L_law_586 : decode code 586 = .ok (.ireturn, 1) := by decide +kernel
theorem d_L_law_587 : decode code 587 = .ok (.iload 5, 2) := by decide +kernel
theorem d_L_law_589 : decode code 589 = .ok (.ifCond .ne 15, 3) := by decide +kernel
theorem d_L_law_592 : decode code 592 = .ok (.aload_n 3, 1) := by decide +kernel
theorem d_L_law_593 : decode code 593 = .ok (.iconst 0, 1) := by decide +kernel
theorem d_L_law_594 : decode code 594 = .ok (.laload, 1) := by decide +kernel
theorem d_L_law_595 : decode code 595 = .ok (.iload 6, 2) := by decide +kernel
theorem d_L_law_597 : decode code 597 = .ok (.i2l, 1) := by decide +kernel
theorem d_L_law_598 : decode code 598 = .ok (.lcmp, 1) := by decide +kernel
theorem d_L_law_599 : decode code 599 = .ok (.ifCond .eq 5, 3) := by decide +kernel
theorem d_L_law_602 : decode code 602 = .ok (.iconst 0, 1) := by decide +kernel
theorem d_L_law_603 : decode code 603 = .ok (.ireturn, 1) := by decide +kernel
theorem d_L_law_604 : decode code 604 = .ok (.goto 220, 3) := by decide +kernel
theorem d_L_law_607 : decode code 607 = .ok (.aload_n 1, 1) := by decide +kernel
theorem d_L_law_608 : decode code 608 = .ok (.aload_n 0, 1) := by decide +kernel
theorem d_L_law_609 : decode code 609 = .ok (.iload 4, 2) := by decide +kernel
theorem d_L_law_611 : decode code 611 = .ok (.iconst 1, 1) := by decide +kernel
theorem d_L_law_612 : decode code 612 = .ok (.iadd, 1) := by decide +kernel
theorem d_L_law_613 : decode code 613 = .ok (.iaload, 1) := by decide +kernel
theorem d_L_law_614 : decode code 614 = .ok (.aload_n 0, 1) := by decide +kernel
theorem d_L_law_615 : decode code 615 = .ok (.iload 4, 2) := by decide +kernel
theorem d_L_law_617 : decode code 617 = .ok (.iconst 2, 1) := by decide +kernel
theorem d_L_law_618 : decode code 618 = .ok (.iadd, 1) := by decide +kernel
theorem d_L_law_619 : decode code 619 = .ok (.iaload, 1) := by decide +kernel
theorem d_L_law_620 : decode code 620 = .ok (.aload_n 3, 1) := by decide +kernel
theorem d_L_law_621 : decode code 621 = .ok (.invokestatic 97, 3) := by decide +kernel
theorem d_L_law_624 : decode code 624 = .ok (.istore 5, 2) := by decide +kernel
theorem d_L_law_626 : decode code 626 = .ok (.aload_n 2, 1) := by decide +kernel
theorem d_L_law_627 : decode code 627 = .ok (.aload_n 0, 1) := by decide +kernel
theorem d_L_law_628 : decode code 628 = .ok (.iload 4, 2) := by decide +kernel
theorem d_L_law_630 : decode code 630 = .ok (.iconst 1, 1) := by decide +kernel
theorem d_L_law_631 : decode code 631 = .ok (.iadd, 1) := by decide +kernel
theorem d_L_law_632 : decode code 632 = .ok (.iaload, 1) := by decide +kernel
theorem d_L_law_633 : decode code 633 = .ok (.aload_n 0, 1) := by decide +kernel
theorem d_L_law_634 : decode code 634 = .ok (.iload 4, 2) := by decide +kernel
theorem d_L_law_636 : decode code 636 = .ok (.iconst 2, 1) := by decide +kernel
theorem d_L_law_637 : decode code 637 = .ok (.iadd, 1) := by decide +kernel
theorem d_L_law_638 : decode code 638 = .ok (.iaload, 1) := by decide +kernel
theorem d_L_law_639 : decode code 639 = .ok (.invokevirtual 99, 3) := by decide +kernel
theorem d_L_law_642 : decode code 642 = .ok (.istore 6, 2) := by decide +kernel
theorem d_L_law_644 : decode code 644 = .ok (.aload_n 2, 1) := by decide +kernel
theorem d_L_law_645 : decode code 645 = .ok (.invokevirtual 64, 3) := by decide +kernel
theorem d_L_law_648 : decode code 648 = .ok (.iload 5, 2) := by decide +kernel
theorem d_L_law_650 : decode code 650 = .ok (.if_icmp .eq 5, 3) := by decide +kernel
theorem d_L_law_653 : decode code 653 = .ok (.iconst 0, 1) := by decide +kernel
theorem d_L_law_654 : decode code 654 = .ok (.ireturn, 1) := by decide +kernel
theorem d_L_law_655 : decode code 655 = .ok (.iload 5, 2) := by decide +kernel
theorem d_L_law_657 : decode code 657 = .ok (.ifCond .ne 15, 3) := by decide +kernel
theorem d_L_law_660 : decode code 660 = .ok (.aload_n 3, 1) := by decide +kernel
theorem d_L_law_661 : decode code 661 = .ok (.iconst 0, 1) := by decide +kernel
theorem d_L_law_662 : decode code 662 = .ok (.laload, 1) := by decide +kernel
theorem d_L_law_663 : decode code 663 = .ok (.iload 6, 2) := by decide +kernel
theorem d_L_law_665 : decode code 665 = .ok (.i2l, 1) := by decide +kernel
theorem d_L_law_666 : decode code 666 = .ok (.lcmp, 1) := by decide +kernel
theorem d_L_law_667 : decode code 667 = .ok (.ifCond .eq 5, 3) := by decide +kernel
theorem d_L_law_670 : decode code 670 = .ok (.iconst 0, 1) := by decide +kernel
theorem d_L_law_671 : decode code 671 = .ok (.ireturn, 1) := by decide +kernel
theorem d_L_law_672 : decode code 672 = .ok (.goto 152, 3) := by decide +kernel
theorem d_L_law_675 : decode code 675 = .ok (.aload_n 1, 1) := by decide +kernel
theorem d_L_law_676 : decode code 676 = .ok (.aload_n 0, 1) := by decide +kernel
theorem d_L_law_677 : decode code 677 = .ok (.iload 4, 2) := by decide +kernel
theorem d_L_law_679 : decode code 679 = .ok (.iconst 1, 1) := by decide +kernel
theorem d_L_law_680 : decode code 680 = .ok (.iadd, 1) := by decide +kernel
theorem d_L_law_681 : decode code 681 = .ok (.iaload, 1) := by decide +kernel
theorem d_L_law_682 : decode code 682 = .ok (.invokevirtual 100, 3) := by decide +kernel
theorem d_L_law_685 : decode code 685 = .ok (.aload_n 2, 1) := by decide +kernel
theorem d_L_law_686 : decode code 686 = .ok (.aload_n 0, 1) := by decide +kernel
theorem d_L_law_687 : decode code 687 = .ok (.iload 4, 2) := by decide +kernel
theorem d_L_law_689 : decode code 689 = .ok (.iconst 1, 1) := by decide +kernel
theorem d_L_law_690 : decode code 690 = .ok (.iadd, 1) := by decide +kernel
theorem d_L_law_691 : decode code 691 = .ok (.iaload, 1) := by decide +kernel
theorem d_L_law_692 : decode code 692 = .ok (.invokevirtual 103, 3) := by decide +kernel
theorem d_L_law_695 : decode code 695 = .ok (.if_icmp .eq 129, 3) := by decide +kernel
theorem d_L_law_698 : decode code 698 = .ok (.iconst 0, 1) := by decide +kernel
theorem d_L_law_699 : decode code 699 = .ok (.ireturn, 1) := by decide +kernel
theorem d_L_law_700 : decode code 700 = .ok (.aload_n 1, 1) := by decide +kernel
theorem d_L_law_701 : decode code 701 = .ok (.aload_n 0, 1) := by decide +kernel
theorem d_L_law_702 : decode code 702 = .ok (.iload 4, 2) := by decide +kernel
theorem d_L_law_704 : decode code 704 = .ok (.iconst 1, 1) := by decide +kernel
theorem d_L_law_705 : decode code 705 = .ok (.iadd, 1) := by decide +kernel
theorem d_L_law_706 : decode code 706 = .ok (.iaload, 1) := by decide +kernel
theorem d_L_law_707 : decode code 707 = .ok (.aload_n 3, 1) := by decide +kernel
theorem d_L_law_708 : decode code 708 = .ok (.invokestatic 104, 3) := by decide +kernel
theorem d_L_law_711 : decode code 711 = .ok (.istore 5, 2) := by decide +kernel
theorem d_L_law_713 : decode code 713 = .ok (.aload_n 2, 1) := by decide +kernel
theorem d_L_law_714 : decode code 714 = .ok (.aload_n 0, 1) := by decide +kernel
theorem d_L_law_715 : decode code 715 = .ok (.iload 4, 2) := by decide +kernel
theorem d_L_law_717 : decode code 717 = .ok (.iconst 1, 1) := by decide +kernel
theorem d_L_law_718 : decode code 718 = .ok (.iadd, 1) := by decide +kernel
theorem d_L_law_719 : decode code 719 = .ok (.iaload, 1) := by decide +kernel
theorem d_L_law_720 : decode code 720 = .ok (.invokevirtual 106, 3) := by decide +kernel
theorem d_L_law_723 : decode code 723 = .ok (.istore 6, 2) := by decide +kernel
theorem d_L_law_725 : decode code 725 = .ok (.aload_n 2, 1) := by decide +kernel
theorem d_L_law_726 : decode code 726 = .ok (.invokevirtual 64, 3) := by decide +kernel
theorem d_L_law_729 : decode code 729 = .ok (.iload 5, 2) := by decide +kernel
theorem d_L_law_731 : decode code 731 = .ok (.if_icmp .eq 5, 3) := by decide +kernel
theorem d_L_law_734 : decode code 734 = .ok (.iconst 0, 1) := by decide +kernel
theorem d_L_law_735 : decode code 735 = .ok (.ireturn, 1) := by decide +kernel
theorem d_L_law_736 : decode code 736 = .ok (.iload 5, 2) := by decide +kernel
theorem d_L_law_738 : decode code 738 = .ok (.ifCond .ne 15, 3) := by decide +kernel
theorem d_L_law_741 : decode code 741 = .ok (.aload_n 3, 1) := by decide +kernel
theorem d_L_law_742 : decode code 742 = .ok (.iconst 0, 1) := by decide +kernel
theorem d_L_law_743 : decode code 743 = .ok (.laload, 1) := by decide +kernel
theorem d_L_law_744 : decode code 744 = .ok (.iload 6, 2) := by decide +kernel
theorem d_L_law_746 : decode code 746 = .ok (.i2l, 1) := by decide +kernel
theorem d_L_law_747 : decode code 747 = .ok (.lcmp, 1) := by decide +kernel
theorem d_L_law_748 : decode code 748 = .ok (.ifCond .eq 5, 3) := by decide +kernel
theorem d_L_law_751 : decode code 751 = .ok (.iconst 0, 1) := by decide +kernel
theorem d_L_law_752 : decode code 752 = .ok (.ireturn, 1) := by decide +kernel
theorem d_L_law_753 : decode code 753 = .ok (.goto 71, 3) := by decide +kernel
theorem d_L_law_756 : decode code 756 = .ok (.aload_n 1, 1) := by decide +kernel
theorem d_L_law_757 : decode code 757 = .ok (.aload_n 0, 1) := by decide +kernel
theorem d_L_law_758 : decode code 758 = .ok (.iload 4, 2) := by decide +kernel
theorem d_L_law_760 : decode code 760 = .ok (.iconst 1, 1) := by decide +kernel
theorem d_L_law_761 : decode code 761 = .ok (.iadd, 1) := by decide +kernel
theorem d_L_law_762 : decode code 762 = .ok (.iaload, 1) := by decide +kernel
theorem d_L_law_763 : decode code 763 = .ok (.aload_n 0, 1) := by decide +kernel
theorem d_L_law_764 : decode code 764 = .ok (.iload 4, 2) := by decide +kernel
theorem d_L_law_766 : decode code 766 = .ok (.iconst 2, 1) := by decide +kernel
theorem d_L_law_767 : decode code 767 = .ok (.iadd, 1) := by decide +kernel
theorem d_L_law_768 : decode code 768 = .ok (.iaload, 1) := by decide +kernel
theorem d_L_law_769 : decode code 769 = .ok (.aload_n 3, 1) := by decide +kernel
theorem d_L_law_770 : decode code 770 = .ok (.invokestatic 107, 3) := by decide +kernel
theorem d_L_law_773 : decode code 773 = .ok (.istore 5, 2) := by decide +kernel
theorem d_L_law_775 : decode code 775 = .ok (.aload_n 2, 1) := by decide +kernel
theorem d_L_law_776 : decode code 776 = .ok (.aload_n 0, 1) := by decide +kernel
theorem d_L_law_777 : decode code 777 = .ok (.iload 4, 2) := by decide +kernel
theorem d_L_law_779 : decode code 779 = .ok (.iconst 1, 1) := by decide +kernel
theorem d_L_law_780 : decode code 780 = .ok (.iadd, 1) := by decide +kernel
theorem d_L_law_781 : decode code 781 = .ok (.iaload, 1) := by decide +kernel
theorem d_L_law_782 : decode code 782 = .ok (.aload_n 0, 1) := by decide +kernel
theorem d_L_law_783 : decode code 783 = .ok (.iload 4, 2) := by decide +kernel
theorem d_L_law_785 : decode code 785 = .ok (.iconst 2, 1) := by decide +kernel
theorem d_L_law_786 : decode code 786 = .ok (.iadd, 1) := by decide +kernel
theorem d_L_law_787 : decode code 787 = .ok (.iaload, 1) := by decide +kernel
theorem d_L_law_788 : decode code 788 = .ok (.invokevirtual 109, 3) := by decide +kernel
theorem d_L_law_791 : decode code 791 = .ok (.istore 6, 2) := by decide +kernel
theorem d_L_law_793 : decode code 793 = .ok (.aload_n 2, 1) := by decide +kernel
theorem d_L_law_794 : decode code 794 = .ok (.invokevirtual 64, 3) := by decide +kernel
theorem d_L_law_797 : decode code 797 = .ok (.iload 5, 2) := by decide +kernel
theorem d_L_law_799 : decode code 799 = .ok (.if_icmp .eq 5, 3) := by decide +kernel
theorem d_L_law_802 : decode code 802 = .ok (.iconst 0, 1) := by decide +kernel
theorem d_L_law_803 : decode code 803 = .ok (.ireturn, 1) := by decide +kernel
theorem d_L_law_804 : decode code 804 = .ok (.iload 5, 2) := by decide +kernel
theorem d_L_law_806 : decode code 806 = .ok (.ifCond .ne 15, 3) := by decide +kernel
theorem d_L_law_809 : decode code 809 = .ok (.aload_n 3, 1) := by decide +kernel
theorem d_L_law_810 : decode code 810 = .ok (.iconst 0, 1) := by decide +kernel
theorem d_L_law_811 : decode code 811 = .ok (.laload, 1) := by decide +kernel
theorem d_L_law_812 : decode code 812 = .ok (.iload 6, 2) := by decide +kernel
theorem d_L_law_814 : decode code 814 = .ok (.i2l, 1) := by decide +kernel
theorem d_L_law_815 : decode code 815 = .ok (.lcmp, 1) := by decide +kernel
theorem d_L_law_816 : decode code 816 = .ok (.ifCond .eq 5, 3) := by decide +kernel
theorem d_L_law_819 : decode code 819 = .ok (.iconst 0, 1) := by decide +kernel
theorem d_L_law_820 : decode code 820 = .ok (.ireturn, 1) := by decide +kernel
theorem d_L_law_821 : decode code 821 = .ok (.goto 3, 3) := by decide +kernel
theorem d_L_law_824 : decode code 824 = .ok (.iinc 4 5, 3) := by decide +kernel
theorem d_L_law_827 : decode code 827 = .ok (.goto (-804), 3) := by decide +kernel
theorem d_L_law_830 : decode code 830 = .ok (.iconst 1, 1) := by decide +kernel
theorem d_L_law_831 : decode code 831 = .ok (.ireturn, 1) := by decide +kernel
end
section
/-! Contracts of one shape, and calls that write their cells in place. -/
def wup : va_W → List Nat → va_W → va_W
  | ws, i :: is, x :: xs => wup (ws.set i x) is xs
  | ws, _, _ => ws
theorem wup_get : ∀ (is : List Nat) (ws xs : va_W), is.Nodup → is.length = xs.length → (∀ i ∈ is, i < ws.length) → ∀ (k : Nat) (q : Nat × va_E), (wup ws is xs)[k]? = some q → (k ∉ is ∧ ws[k]? = some q) ∨ ∃ j : Nat, is[j]? = some k ∧ xs[j]? = some q := by
  intro is
  induction is with
  | nil =>
    intro ws xs _ _ _ k q h
    refine Or.inl ⟨by simp, ?_⟩
    cases xs <;> exact h
  | cons i is ih =>
    intro ws xs hn hl hi k q h
    match xs, hl, h with
    | x :: xs, hl, h =>
      rw [List.nodup_cons] at hn
      rcases ih (ws.set i x) xs hn.2 (by simpa using hl) (fun j hj => by rw [List.length_set]; exact hi j (List.mem_cons_of_mem _ hj)) k q h with ⟨h1, h2⟩ | ⟨j, h1, h2⟩
      · by_cases e : k = i
        · right
          subst e
          rw [List.getElem?_set_self (hi k List.mem_cons_self)] at h2
          exact ⟨0, rfl, h2⟩
        · left
          rw [List.getElem?_set_ne (fun z => e z.symm)] at h2
          exact ⟨fun z => (List.mem_cons.mp z).elim e h1, h2⟩
      · exact Or.inr ⟨j + 1, h1, h2⟩
/-- behind a call: the callee's cells in place, the others unchanged -/
theorem va_upd {A0 : Nat → Prop} {D : va_G} {cl : List vw_C} {ws wc w1 : va_W} {H H1 : Heap} (hP : va_P D cl ws H) (hD : va_D A0 ws) (is : List Nat) (hC : is.map (fun i => ws[i]?) = wc.map some) (hn : is.Nodup) (hf : w1.map (fun q => q.1) = wc.map (fun q => q.1)) (hk : ∀ q : Nat, q < H.size → ¬ va_A wc H.size q → H1[q]? = H[q]?) (hP1 : va_P D cl w1 H1) : va_P D cl (wup ws is w1) H1 ∧ va_D A0 (wup ws is w1) := by
  have hlen : is.length = wc.length := by
    have := congrArg List.length hC
    simpa using this
  have hlen1 : w1.length = wc.length := by
    have := congrArg List.length hf
    simpa using this
  have at' : ∀ (j k : Nat), is[j]? = some k → ∃ q, wc[j]? = some q ∧ ws[k]? = some q := by
    intro j k hj
    have h1 : (is.map (fun i => ws[i]?))[j]? = some (ws[k]?) := by rw [List.getElem?_map, hj]; rfl
    rw [hC, List.getElem?_map] at h1
    cases hq : wc[j]? with
    | none => rw [hq] at h1; cases h1
    | some q => rw [hq] at h1; exact ⟨q, rfl, (Option.some.inj h1).symm⟩
  have hlt : ∀ i ∈ is, i < ws.length := by
    intro i hi
    obtain ⟨j, hj⟩ := List.getElem?_of_mem hi
    obtain ⟨q, -, h2⟩ := at' j i hj
    exact (List.getElem?_eq_some_iff.mp h2).1
  have get := wup_get is ws w1 hn (by omega) hlt
  have adr : ∀ (k : Nat) (q : Nat × va_E), (wup ws is w1)[k]? = some q → ∃ e, ws[k]? = some (q.1, e) := by
    intro k q h
    rcases get k q h with ⟨-, h2⟩ | ⟨j, h1, h2⟩
    · exact ⟨q.2, h2⟩
    · obtain ⟨r, h3, h4⟩ := at' j k h1
      have h5 : (w1.map (fun q => q.1))[j]? = (wc.map (fun q => q.1))[j]? := by rw [hf]
      rw [List.getElem?_map, List.getElem?_map, h2, h3] at h5
      have h6 : q.1 = r.1 := Option.some.inj h5
      exact ⟨r.2, by rw [h4, h6]⟩
  refine ⟨fun k q h => ?_, fun i j x y hx hy hxy => ?_, fun k q h => ?_⟩
  · rcases get k q h with ⟨h1, h2⟩ | ⟨j, h1, h2⟩
    · have hl := (hP k q h2).lt
      refine (hP k q h2).kept (hk q.1 hl (fun z => ?_))
      rcases z with ⟨k2, e, z⟩ | z
      · cases hi : is[k2]? with
        | none =>
          have := List.getElem?_eq_none_iff.mp hi
          have := (List.getElem?_eq_some_iff.mp z).1
          omega
        | some i =>
          obtain ⟨r, h3, h4⟩ := at' k2 i hi
          rw [z] at h3
          have h5 := hD.1 k i q r h2 h4 (by rw [← Option.some.inj h3])
          rw [h5] at h1
          exact h1 (List.mem_of_getElem? hi)
      · omega
    · exact hP1 j q h2
  · obtain ⟨e, h1⟩ := adr i x hx
    obtain ⟨e', h2⟩ := adr j y hy
    exact hD.1 i j _ _ h1 h2 hxy
  · obtain ⟨e, h1⟩ := adr k q h
    exact hD.2 k (q.1, e) h1
-- what all contracts take as given of the tables
abbrev tys3 (cI cJ cF : ClassId) : List (ClassId × FieldType) := [(cI, .int), (cJ, .long), (cF, .object "FormComposer$Form")]
def kq (D : va_G) (cI cJ cF : ClassId) (U : State) : Prop := va_K D classes (tys3 cI cJ cF) U ∧ nw U
def cpre (D : va_G) (cI cJ cF : ClassId) (ws : va_W) (sz : Nat) (U : State) : Prop := U.heap.size = sz ∧ va_P D classes ws U.heap ∧ kq D cI cJ cF U ∧ va_D (fun _ => True) ws
theorem kq.warm {D : va_G} {cI cJ cF : ClassId} {s U : State} (hW : s.WarmedH U.vm) (h : kq D cI cJ cF s) : kq D cI cJ cF U := ⟨va_K.moved hW.alike h.1, nw.warm hW h.2⟩
theorem cpre.blind {D : va_G} {cI cJ cF : ClassId} {ws : va_W} {sz : Nat} {As : List Value} : FrameBlind (va_Pc As (cpre D cI cJ cF ws sz)) := by
  intro a U g mk q
  obtain ⟨q0, q1, qP, ⟨qK, qN⟩, qD⟩ := q
  exact ⟨q0, q1, qP, ⟨va_K.moved (u := U) (U := U.calling g mk a) (Vm.Alike.refl U.vm) qK, nw.same (u := U) (U := U.calling g mk a) rfl qN⟩, qD⟩
theorem cpre.pre {D : va_G} {cI cJ cF : ClassId} {ws : va_W} {As : List Value} {s : State} {H : Heap} (hK : kq D cI cJ cF s) (hP : va_P D classes ws H) (hD : va_D (fun _ => True) ws) : PreS s H (va_Pc As (cpre D cI cJ cF ws H.size)) As :=
  ⟨cpre.blind, fun U hU hW => ⟨rfl, by rw [hU], by rw [hU]; exact hP, hK.warm hW, hD⟩⟩
theorem va_D.any {A : Nat → Prop} {ws : va_W} (h : va_D A ws) : va_D (fun _ => True) ws := h.weaken (fun _ _ _ _ => trivial)
/-- the part of a world at some places -/
theorem va_P.cut {D : va_G} {cl : List vw_C} {ws wc : va_W} {H : Heap} (h : va_P D cl ws H) (is : List Nat) (hC : is.map (fun i => ws[i]?) = wc.map some) : va_P D cl wc H := by
  intro k q hk
  have h1 : (is.map (fun i => ws[i]?))[k]? = some (some q) := by rw [hC, List.getElem?_map, hk]; rfl
  rw [List.getElem?_map] at h1
  cases hi : is[k]? with
  | none => rw [hi] at h1; cases h1
  | some i => rw [hi] at h1; exact h i q (Option.some.inj h1)
theorem va_D.cut {A : Nat → Prop} {ws wc : va_W} (h : va_D A ws) (is : List Nat) (hn : is.Nodup) (hC : is.map (fun i => ws[i]?) = wc.map some) : va_D A wc := by
  have at' : ∀ (k : Nat) (q : Nat × va_E), wc[k]? = some q → ∃ i, is[k]? = some i ∧ ws[i]? = some q := by
    intro k q hk
    have h1 : (is.map (fun i => ws[i]?))[k]? = some (some q) := by rw [hC, List.getElem?_map, hk]; rfl
    rw [List.getElem?_map] at h1
    cases hi : is[k]? with
    | none => rw [hi] at h1; cases h1
    | some i => rw [hi] at h1; exact ⟨i, rfl, Option.some.inj h1⟩
  refine ⟨fun i j x y hx hy e => ?_, fun k q hk => ?_⟩
  · obtain ⟨a, a1, a2⟩ := at' i x hx
    obtain ⟨b, b1, b2⟩ := at' j y hy
    have hab := h.1 a b x y a2 b2 e
    subst hab
    have l1 := (List.getElem?_eq_some_iff.mp a1).1
    have l2 := (List.getElem?_eq_some_iff.mp b1).1
    exact (List.getElem?_inj l1 hn).mp (a1.trans b1.symm)
  · obtain ⟨a, a1, a2⟩ := at' k q hk
    exact h.2 a q a2
section CL
variable {p : Program} {l : Launch} {e : Env} {R : Room} {s : State} {m : MethodId} {args : Array Value} {below : List Frame} {meth : Method} {c : Code} {H : Heap} {locs : List Loc} {cells slots : Nat} {Q : State → Prop}
variable {pc : Nat} {ls : Array Slot} {rest st0 : List Value} {a : Array Value} {A : Nat → Prop} {H0 : Heap} {D : va_G} {ws wc : va_W} {cI cJ cF : ClassId}
theorem cl_i {S : Type} {post : Int32 → S → Prop} {W1 : S → va_W} (hr : va_Run p l e R s m args below meth c H locs cells slots 0 0 (F0 m pc ls st0) rest (va_Qi post (fun u t => va_P D classes (W1 u) t.heap) (va_A wc H.size) a) (va_A wc H.size)) (hP : va_P D classes ws H) (hD : va_D A ws) (hS : va_S A H0 H locs) (hA : ∀ q, H0.size ≤ q → A q) (is : List Nat) (hC : is.map (fun i => ws[i]?) = wc.map some) (hn : is.Nodup) (hf : ∀ u, (W1 u).map (fun q => q.1) = wc.map (fun q => q.1))
    (kk : ∀ (r : Int32) (u : S) (H1 : Heap) (locs1 : List Loc), post r u → va_P D classes (wup ws is (W1 u)) H1 → va_D A (wup ws is (W1 u)) → va_S A H0 H1 locs1 → W p l e R s m args below meth c H1 locs1 cells slots Q (F0 m (pc + 3) ls (.int r :: rest))) : W p l e R s m args below meth c H locs cells slots Q (F0 m pc ls st0) := by
  have hF := va_free hD hS hA is hC
  refine va_calli hr hS (fun q _ h => hF q h) hF (fun r u t H1 locs1 ht _ hp hB _ hk hS1 => ?_)
  have hB' : va_P D classes (W1 u) H1 := by rw [← ht]; exact hB
  obtain ⟨h1, h2⟩ := va_upd hP hD is hC hn (hf u) hk hB'
  exact kk r u H1 locs1 hp h1 h2 hS1
theorem cl_l {S : Type} {post : Int64 → S → Prop} {W1 : S → va_W} (hr : va_Run p l e R s m args below meth c H locs cells slots 0 0 (F0 m pc ls st0) rest (va_Ql post (fun u t => va_P D classes (W1 u) t.heap) (va_A wc H.size) a) (va_A wc H.size)) (hP : va_P D classes ws H) (hD : va_D A ws) (hS : va_S A H0 H locs) (hA : ∀ q, H0.size ≤ q → A q) (is : List Nat) (hC : is.map (fun i => ws[i]?) = wc.map some) (hn : is.Nodup) (hf : ∀ u, (W1 u).map (fun q => q.1) = wc.map (fun q => q.1))
    (kk : ∀ (r : Int64) (u : S) (H1 : Heap) (locs1 : List Loc), post r u → va_P D classes (wup ws is (W1 u)) H1 → va_D A (wup ws is (W1 u)) → va_S A H0 H1 locs1 → W p l e R s m args below meth c H1 locs1 cells slots Q (F0 m (pc + 3) ls (.long r :: rest))) : W p l e R s m args below meth c H locs cells slots Q (F0 m pc ls st0) := by
  have hF := va_free hD hS hA is hC
  refine va_calll hr hS (fun q _ h => hF q h) hF (fun r u t H1 locs1 ht _ hp hB _ hk hS1 => ?_)
  have hB' : va_P D classes (W1 u) H1 := by rw [← ht]; exact hB
  obtain ⟨h1, h2⟩ := va_upd hP hD is hC hn (hf u) hk hB'
  exact kk r u H1 locs1 hp h1 h2 hS1
theorem cl_v {S : Type} {post : S → Prop} {W1 : S → va_W} (hr : va_Run p l e R s m args below meth c H locs cells slots 0 0 (F0 m pc ls st0) rest (va_Qv post (fun u t => va_P D classes (W1 u) t.heap) (va_A wc H.size) a) (va_A wc H.size)) (hP : va_P D classes ws H) (hD : va_D A ws) (hS : va_S A H0 H locs) (hA : ∀ q, H0.size ≤ q → A q) (is : List Nat) (hC : is.map (fun i => ws[i]?) = wc.map some) (hn : is.Nodup) (hf : ∀ u, (W1 u).map (fun q => q.1) = wc.map (fun q => q.1))
    (kk : ∀ (u : S) (H1 : Heap) (locs1 : List Loc), post u → va_P D classes (wup ws is (W1 u)) H1 → va_D A (wup ws is (W1 u)) → va_S A H0 H1 locs1 → W p l e R s m args below meth c H1 locs1 cells slots Q (F0 m (pc + 3) ls rest)) : W p l e R s m args below meth c H locs cells slots Q (F0 m pc ls st0) := by
  have hF := va_free hD hS hA is hC
  refine va_callv hr hS (fun q _ h => hF q h) hF (fun u t H1 locs1 ht _ hp hB _ hk hS1 => ?_)
  have hB' : va_P D classes (W1 u) H1 := by rw [← ht]; exact hB
  obtain ⟨h1, h2⟩ := va_upd hP hD is hC hn (hf u) hk hB'
  exact kk u H1 locs1 hp h1 h2 hS1
-- the four kinds of calls
variable {y : MethodName} {bytes cc : ByteArray} {maxL nL n index fr lo : Nat} {ret : Option FieldType} {Qc : Array Value → State → Outcome → State → Prop} {own C host : String} {As : List Value} {b : Addr}
/-- what a method's walk has at hand: the machine, its code, its class, the words -/
def cx (p : Program) (s : State) (m : MethodId) (args : Array Value) (meth : Method) (c : Code) (cc : ByteArray) (nL : Nat) (ret : Option FieldType) (own : String) : Prop :=
  p.tables.exec = Jvm.exec ∧ c.code = cc ∧ c.maxLocals = nL ∧ s.vm.findClass own = some m.cls ∧ meth.sig.returnType = ret ∧ meth.locks = false ∧ ∀ w ∈ wb, w.before args s = true
theorem rn_fix {rt : Option FieldType} (X : cx p s m args meth c cc nL rt own) (w : Cond) (hw : w ∈ wb) : CallFix p m c cc nL s args (w :: wb) own := ⟨X.1, X.2.1, X.2.2.1, X.2.2.2.1, fun z hz => (List.mem_cons.mp hz).elim (fun e => by rw [e]; exact X.2.2.2.2.2.2 _ hw) (X.2.2.2.2.2.2 z)⟩
theorem rn_S {rt : Option FieldType} (X : cx p s m args meth c cc nL rt own) (hK : kq D cI cJ cF s) (hM : Met l y (Cond.code y bytes maxL ret :: wb) { frames := fr, cells := 0, slots := 0, locals := lo } (va_Pc As (cpre D cI cJ cF wc H.size)) Qc 0 0 (va_A wc H.size)) (co : Cond.code y bytes maxL ret ∈ wb) (ini : Cond.initialized y.cls ∈ wb) (ml : Cond.methodLink own index y ∈ wb) (st : Cond.static y ∈ wb) (nA : Nat) (hnA : As.length = nA) (hd : y.cls ≠ "java/lang/invoke/MethodHandle" ∧ y.cls ≠ "java/lang/invoke/VarHandle" ∧ (parseMethodDescriptor y.desc).map (fun d => d.parameters.length) = some nA) (hR : fr + 1 ≤ R.frames ∧ 8 + (maxL + 11) + lo ≤ R.locals) (hP : va_P D classes ws H) (hD : va_D A ws) (is : List Nat) (hC : is.map (fun i => ws[i]?) = wc.map some) (hn : is.Nodup) (hsize : ls.size = nL) (hstack : st0 = As.reverse ++ rest) (hW : (rest.map fun v => v.category).sum ≤ 8) (hdg : decode cc pc = .ok (.invokestatic index, 3)) (hf : cells ≤ R.cells ∧ slots ≤ R.slots) :
    va_Run p l e R s m args below meth c H locs cells slots 0 0 (F0 m pc ls st0) rest (Qc As.toArray) (va_A wc H.size) := by
  have hts := X.2.2.2.2.2.2
  have F := rn_fix X _ co
  exact va_runS F hM ⟨callB_of (n := nA) F.2.2.2.2 (wb_G co) rfl rfl rfl (hts _ ini) (hts _ ml) hd hR, hts _ st⟩ (cpre.pre hK (hP.cut is hC) (hD.cut is hn hC).any) rfl hnA hsize hstack (lv_room (m := m) (pc := pc) (ls := ls) (rest := st0) hW) hdg hf
theorem rn_SN {rt : Option FieldType} (X : cx p s m args meth c cc nL rt own) (hK : kq D cI cJ cF s) (hM : Met l y (Cond.code y bytes maxL ret :: wb) { frames := fr, cells := 0, slots := 0, locals := lo } (va_Pc As (cpre D cI cJ cF wc H.size)) Qc 0 0 (va_A wc H.size)) (co : Cond.code y bytes maxL ret ∈ wb) (ini : Cond.initialized y.cls ∈ wb) (ml : Cond.methodLinkNest own index y host ∈ nb) (st : Cond.static y ∈ wb) (nA : Nat) (hnA : As.length = nA) (hd : y.cls ≠ "java/lang/invoke/MethodHandle" ∧ y.cls ≠ "java/lang/invoke/VarHandle" ∧ (parseMethodDescriptor y.desc).map (fun d => d.parameters.length) = some nA) (hR : fr + 1 ≤ R.frames ∧ 8 + (maxL + 11) + lo ≤ R.locals) (hP : va_P D classes ws H) (hD : va_D A ws) (is : List Nat) (hC : is.map (fun i => ws[i]?) = wc.map some) (hn : is.Nodup) (hsize : ls.size = nL) (hstack : st0 = As.reverse ++ rest) (hW : (rest.map fun v => v.category).sum ≤ 8) (hdg : decode cc pc = .ok (.invokestatic index, 3)) (hf : cells ≤ R.cells ∧ slots ≤ R.slots) :
    va_Run p l e R s m args below meth c H locs cells slots 0 0 (F0 m pc ls st0) rest (Qc As.toArray) (va_A wc H.size) := by
  have hts := X.2.2.2.2.2.2
  have F := rn_fix X _ co
  exact va_runSN F hM ⟨va_cnB nA F.2.2.2.2 (wb_G co) rfl rfl rfl (hK.2 _ ml) (hts _ ini) hd hR, hts _ st, trivial⟩ (cpre.pre hK (hP.cut is hC) (hD.cut is hn hC).any) rfl hnA hsize hstack (lv_room (m := m) (pc := pc) (ls := ls) (rest := st0) hW) hdg hf
theorem rn_V {rt : Option FieldType} (X : cx p s m args meth c cc nL rt own) (hK : kq D cI cJ cF s) (hM : Met l y (Cond.code y bytes maxL ret :: wb) { frames := fr, cells := 0, slots := 0, locals := lo } (va_Pc (.ref b :: As) (cpre D cI cJ cF wc H.size)) Qc 0 0 (va_A wc H.size)) (co : Cond.code y bytes maxL ret ∈ wb) (ini : Cond.initialized y.cls ∈ wb) (ml : Cond.methodLink own index y ∈ wb) (im : Cond.instanceMethod y ∈ wb) (se : Cond.selects y.cls y y ∈ wb) (nA : Nat) (hnA : As.length = nA) (hd : y.cls ≠ "java/lang/invoke/MethodHandle" ∧ y.cls ≠ "java/lang/invoke/VarHandle" ∧ (parseMethodDescriptor y.desc).map (fun d => d.parameters.length) = some nA) (hR : fr + 1 ≤ R.frames ∧ 8 + (maxL + 11) + lo ≤ R.locals) (hP : va_P D classes ws H) (hD : va_D A ws) (is : List Nat) (hC : is.map (fun i => ws[i]?) = wc.map some) (hn : is.Nodup) {ci q0 : Nat} {fs : List Value} {vc : vw_C} (hv : wc[q0]? = some (b, .inr (ci, fs))) (hc : classes[ci]? = some vc) (hcn : vc.1 = y.cls) (hsize : ls.size = nL) (hstack : st0 = As.reverse ++ .ref b :: rest) (hW : (rest.map fun v => v.category).sum ≤ 8) (hdg : decode cc pc = .ok (.invokevirtual index, 3)) (hf : cells ≤ R.cells ∧ slots ≤ R.slots) :
    va_Run p l e R s m args below meth c H locs cells slots 0 0 (F0 m pc ls st0) rest (Qc (Value.ref b :: As).toArray) (va_A wc H.size) := by
  have hts := X.2.2.2.2.2.2
  have F := rn_fix X _ co
  have hPc := hP.cut is hC
  have hrec := va_recv hK.1 hPc hc hv
  rw [hcn] at hrec
  have hpre := cpre.pre (As := .ref b :: As) hK hPc (hD.cut is hn hC).any
  exact va_runV F hM ⟨callB_of (n := nA) F.2.2.2.2 (wb_G co) rfl rfl rfl (hts _ ini) (hts _ ml) hd hR, hts _ im, hts _ se⟩ ⟨hpre.1, hrec, hpre.2⟩ rfl hnA hsize hstack (lv_room (m := m) (pc := pc) (ls := ls) (rest := st0) hW) hdg hf
theorem rn_VN {rt : Option FieldType} (X : cx p s m args meth c cc nL rt own) (hK : kq D cI cJ cF s) (hM : Met l y (Cond.code y bytes maxL ret :: wb) { frames := fr, cells := 0, slots := 0, locals := lo } (va_Pc (.ref b :: As) (cpre D cI cJ cF wc H.size)) Qc 0 0 (va_A wc H.size)) (co : Cond.code y bytes maxL ret ∈ wb) (ini : Cond.initialized y.cls ∈ wb) (ml : Cond.methodLinkNest own index y host ∈ nb) (im : Cond.instanceMethod y ∈ wb) (se : Cond.selects y.cls y y ∈ wb) (nA : Nat) (hnA : As.length = nA) (hd : y.cls ≠ "java/lang/invoke/MethodHandle" ∧ y.cls ≠ "java/lang/invoke/VarHandle" ∧ (parseMethodDescriptor y.desc).map (fun d => d.parameters.length) = some nA) (hR : fr + 1 ≤ R.frames ∧ 8 + (maxL + 11) + lo ≤ R.locals) (hP : va_P D classes ws H) (hD : va_D A ws) (is : List Nat) (hC : is.map (fun i => ws[i]?) = wc.map some) (hn : is.Nodup) {ci q0 : Nat} {fs : List Value} {vc : vw_C} (hv : wc[q0]? = some (b, .inr (ci, fs))) (hc : classes[ci]? = some vc) (hcn : vc.1 = y.cls) (hsize : ls.size = nL) (hstack : st0 = As.reverse ++ .ref b :: rest) (hW : (rest.map fun v => v.category).sum ≤ 8) (hdg : decode cc pc = .ok (.invokevirtual index, 3)) (hf : cells ≤ R.cells ∧ slots ≤ R.slots) :
    va_Run p l e R s m args below meth c H locs cells slots 0 0 (F0 m pc ls st0) rest (Qc (Value.ref b :: As).toArray) (va_A wc H.size) := by
  have hts := X.2.2.2.2.2.2
  have F := rn_fix X _ co
  have hPc := hP.cut is hC
  have hrec := va_recv hK.1 hPc hc hv
  rw [hcn] at hrec
  have hpre := cpre.pre (As := .ref b :: As) hK hPc (hD.cut is hn hC).any
  exact va_runVN F hM ⟨va_cnB nA F.2.2.2.2 (wb_G co) rfl rfl rfl (hK.2 _ ml) (hts _ ini) hd hR, hts _ im, hts _ se⟩ ⟨hpre.1, hrec, hpre.2⟩ rfl hnA hsize hstack (lv_room (m := m) (pc := pc) (ls := ls) (rest := st0) hW) hdg hf
end CL
/-- a contract by its walk -/
theorem c_of {l : Launch} {y : MethodName} {cc : ByteArray} {nL mc ms : Nat} {ret : Option FieldType} {rm : Room} {As : List Value} {ws : va_W} {D : va_G} {cI cJ cF : ClassId} {Qc : Nat → Array Value → State → Outcome → State → Prop} (hy : plainFor y = true) (co : Cond.code y cc nL ret ∈ wb) (hn : (lg_sl As).length ≤ nL)
    (body : ∀ (p : Program) (e : Env) (s : State) (m : MethodId) (below : List Frame) (meth : Method) (c : Code) (A : Nat → Prop), cx p s m As.toArray meth c cc nL ret y.cls → kq D cI cJ cF s → va_P D classes ws s.heap → va_D A ws → va_S A s.heap s.heap [] → (∀ q, s.heap.size ≤ q → A q) → A = va_A ws s.heap.size → ∀ ls : Array Slot, lv_has ls nL (lv_args 0 As) → W p l e rm s m As.toArray below meth c s.heap [] 0 0 (MQ below (Qc s.heap.size) As.toArray s mc ms A) (F0 m 0 ls [])) :
    ∀ sz : Nat, Met l y (Cond.code y cc nL ret :: wb) rm (va_Pc As (cpre D cI cJ cF ws sz)) (Qc sz) mc ms (va_A ws sz) := by
  intro sz
  refine va_MetF (cc := cc) (maxL := nL) (ret := ret) hy rfl ?_
  intro p e s m args below meth c s₁ B hml hv
  obtain ⟨rfl, hsz, hP, hK, hD0⟩ := hv
  subst hsz
  have hts := atoms_spec (ws := Cond.code y cc nL ret :: wb) B.pre
  rw [lg_entry_eq]
  exact body p e s m below meth c (va_A ws s.heap.size) ⟨B.exec, B.bytes, hml, findClass_of_methodNamed B.named, B.returns, B.notSynchronized, fun w hw => hts w (List.mem_cons_of_mem _ hw)⟩ hK hP hD0.self va_S.rf (fun q h => Or.inr h) rfl _ (lv_entry As hn)
end
section
/-! Ends of methods, for contracts of the one shape. -/
section RT
variable {p : Program} {l : Launch} {e : Env} {R : Room} {s : State} {m : MethodId} {args : Array Value} {below : List Frame} {meth : Method} {c : Code} {H : Heap} {locs : List Loc} {mc ms : Nat}
variable {pc : Nat} {ls : Array Slot} {A : Nat → Prop} {D : va_G} {ws : va_W} {cc : ByteArray} {nL : Nat} {own : String}
theorem rt_i {S : Type} {post : Int32 → S → Prop} {W1 : S → va_W} (X : cx p s m args meth c cc nL (some .int) own) (hAe : A = va_A ws s.heap.size) (hS : va_S A s.heap H locs) (u : S) {v : Int32} (hp : post v u) (hP : va_P D classes (W1 u) H) (hdg : decode cc pc = .ok (.ireturn, 1)) : W p l e R s m args below meth c H locs mc ms (MQ below (va_Qi post (fun u t => va_P D classes (W1 u) t.heap) (va_A ws s.heap.size)) args s mc ms A) (F0 m pc ls [.int v]) := by
  obtain ⟨hx, hb, hml, hown, hr, hlocks, hts⟩ := X
  subst hAe
  exact W.iret hx hb hr (fun t ht _ => ⟨⟨v, u, rfl, hp, by show va_P D classes (W1 u) t.heap; rw [ht]; exact hP⟩, hS.F ht⟩) hS.2.2 hdg
theorem rt_z {S : Type} {post : Int32 → S → Prop} {W1 : S → va_W} (X : cx p s m args meth c cc nL (some .boolean) own) (hAe : A = va_A ws s.heap.size) (hS : va_S A s.heap H locs) (u : S) {v : Int32} (hn : narrow .boolean (.int v) = .int v) (hp : post v u) (hP : va_P D classes (W1 u) H) (hdg : decode cc pc = .ok (.ireturn, 1)) : W p l e R s m args below meth c H locs mc ms (MQ below (va_Qi post (fun u t => va_P D classes (W1 u) t.heap) (va_A ws s.heap.size)) args s mc ms A) (F0 m pc ls [.int v]) := by
  obtain ⟨hx, hb, hml, hown, hr, hlocks, hts⟩ := X
  subst hAe
  exact W.zret hx hb hr hn (fun t ht _ => ⟨⟨v, u, rfl, hp, by show va_P D classes (W1 u) t.heap; rw [ht]; exact hP⟩, hS.F ht⟩) hS.2.2 hdg
theorem rt_l {S : Type} {post : Int64 → S → Prop} {W1 : S → va_W} (X : cx p s m args meth c cc nL (some .long) own) (hAe : A = va_A ws s.heap.size) (hS : va_S A s.heap H locs) (u : S) {v : Int64} (hp : post v u) (hP : va_P D classes (W1 u) H) (hdg : decode cc pc = .ok (.lreturn, 1)) : W p l e R s m args below meth c H locs mc ms (MQ below (va_Ql post (fun u t => va_P D classes (W1 u) t.heap) (va_A ws s.heap.size)) args s mc ms A) (F0 m pc ls [.long v]) := by
  obtain ⟨hx, hb, hml, hown, hr, hlocks, hts⟩ := X
  subst hAe
  exact W.lret hx hb hr (fun t ht _ => ⟨⟨v, u, rfl, hp, by show va_P D classes (W1 u) t.heap; rw [ht]; exact hP⟩, hS.F ht⟩) hS.2.2 hdg
theorem rt_v {S : Type} {post : S → Prop} {W1 : S → va_W} (X : cx p s m args meth c cc nL none own) (hAe : A = va_A ws s.heap.size) (hS : va_S A s.heap H locs) (u : S) (hp : post u) (hP : va_P D classes (W1 u) H) (hdg : decode cc pc = .ok (.return_, 1)) : W p l e R s m args below meth c H locs mc ms (MQ below (va_Qv post (fun u t => va_P D classes (W1 u) t.heap) (va_A ws s.heap.size)) args s mc ms A) (F0 m pc ls []) := by
  obtain ⟨hx, hb, hml, hown, hr, hlocks, hts⟩ := X
  subst hAe
  exact W.vret hx hb hr (fun t ht _ => ⟨⟨u, rfl, hp, by show va_P D classes (W1 u) t.heap; rw [ht]; exact hP⟩, hS.F ht⟩) hS.2.2 hdg
end RT
end
section
/-! Loops: an invariant with a number that falls. -/
section LPN
variable {p : Program} {l : Launch} {e : Env} {R : Room} {s : State} {m : MethodId} {args : Array Value} {below : List Frame} {meth : Method} {c : Code} {cells slots : Nat} {Q : State → Prop} {pc : Nat} {st : List Value}
theorem lpn (I : Nat → Heap → List Loc → Array Slot → Prop) (step : ∀ (n : Nat) (H : Heap) (locs : List Loc) (ls : Array Slot), I n H locs ls → (∀ (n' : Nat) (H' : Heap) (locs' : List Loc) (ls' : Array Slot), n' < n → I n' H' locs' ls' → W p l e R s m args below meth c H' locs' cells slots Q (F0 m pc ls' st)) → W p l e R s m args below meth c H locs cells slots Q (F0 m pc ls st)) : ∀ (n : Nat) (H : Heap) (locs : List Loc) (ls : Array Slot), I n H locs ls → W p l e R s m args below meth c H locs cells slots Q (F0 m pc ls st) := by
  have all : ∀ (k n : Nat), n < k → ∀ (H : Heap) (locs : List Loc) (ls : Array Slot), I n H locs ls → W p l e R s m args below meth c H locs cells slots Q (F0 m pc ls st) := by
    intro k
    induction k with
    | zero => intro n h; omega
    | succ k ih =>
      intro n _ H locs ls hi
      exact step n H locs ls hi (fun n' H' locs' ls' h hi' => ih n' (by omega) H' locs' ls' hi')
  exact fun n => all (n + 1) n (by omega)
end LPN
theorem jl_xor {x y : Int} (hx : jL x) (hy : jL y) (h : 0 ≤ y) : ∃ v : Int, jL v ∧ jl x ^^^ jl y = jl v ∧ (v < 0 ↔ x < 0) := by
  obtain ⟨v, hv, ev⟩ := jl_of (jl x ^^^ jl y)
  refine ⟨v, hv, ev, ?_⟩
  have m : ∀ z : Int64, z.toInt < 0 ↔ z.toBitVec.msb = true := by
    intro z
    rw [BitVec.msb_eq_toInt]
    simp
  have h1 := m (jl x ^^^ jl y)
  rw [Int64.toBitVec_xor, BitVec.msb_xor] at h1
  have h2 := m (jl x)
  have h3 := m (jl y)
  rw [ev, jl_int hv] at h1
  rw [jl_int hx] at h2
  rw [jl_int hy] at h3
  have h4 : (jl y).toBitVec.msb = false := by
    cases hb : (jl y).toBitVec.msb
    · rfl
    · have := h3.mpr hb
      omega
  rw [h4, Bool.xor_false] at h1
  rw [h1, h2]
theorem ji_xor {x y : Int} (hx : jI x) (hy : jI y) (h : 0 ≤ y) : ∃ v : Int, jI v ∧ ji x ^^^ ji y = ji v ∧ (v < 0 ↔ x < 0) := by
  obtain ⟨v, hv, ev⟩ := ji_of (ji x ^^^ ji y)
  refine ⟨v, hv, ev, ?_⟩
  have m : ∀ z : Int32, z.toInt < 0 ↔ z.toBitVec.msb = true := by
    intro z
    rw [BitVec.msb_eq_toInt]
    simp
  have h1 := m (ji x ^^^ ji y)
  rw [Int32.toBitVec_xor, BitVec.msb_xor] at h1
  have h2 := m (ji x)
  have h3 := m (ji y)
  rw [ev, ji_int hv] at h1
  rw [ji_int hx] at h2
  rw [ji_int hy] at h3
  have h4 : (ji y).toBitVec.msb = false := by
    cases hb : (ji y).toBitVec.msb
    · rfl
    · have := h3.mpr hb
      omega
  rw [h4, Bool.xor_false] at h1
  rw [h1, h2]
/-- the remainder from 0 on out of Java's -/
theorem jf_mod {x y : Int} (hy : 0 < y) : (x < 0 ∧ x.tmod y ≠ 0 → x.tmod y + y = x % y) ∧ (¬ (x < 0 ∧ x.tmod y ≠ 0) → x.tmod y = x % y) := by
  have h1 := Int.emod_nonneg x (show y ≠ 0 by omega)
  have h2 := Int.emod_lt_of_pos x hy
  have e := Int.tmod_eq_emod (a := x) (b := y)
  by_cases hx : 0 ≤ x
  · rw [if_pos (Or.inl hx)] at e
    omega
  · by_cases hd : y ∣ x
    · rw [if_pos (Or.inr hd)] at e
      have := Int.emod_eq_zero_of_dvd hd
      omega
    · rw [if_neg (fun q => q.elim hx hd)] at e
      have h3 : x % y ≠ 0 := fun q => hd (Int.dvd_of_emod_eq_zero q)
      omega
end
section
/-! Math.abs and Math.max over whole numbers. -/
theorem co_absJ : Cond.code Lib.MathLoose.abs_long.x Lib.MathLoose.abs_long.code 2 (some .long) ∈ wb := wb_t 156 (by decide +kernel) (by decide +kernel)
theorem co_maxJ : Cond.code Lib.MathLoose.max_long.x Lib.MathLoose.max_long.code 4 (some .long) ∈ wb := wb_t 163 (by decide +kernel) (by decide +kernel)
theorem co_absI : Cond.code Lib.Math.abs.name Lib.Math.abs.code 1 (some .int) ∈ wb := wb_t 187 (by decide +kernel) (by decide +kernel)
theorem jl_ab {x : Int} (hx : jL x) : (if 0 < jl x then jl x else -jl x) = jl (fm_ab x) := by
  have h0 : jl 0 = 0 := rfl
  rcases fm_ab_cases x with ⟨h, e⟩ | ⟨h, e⟩
  · rw [e]
    by_cases h1 : 0 < x
    · rw [if_pos (by rw [← h0]; exact (jl_lt ⟨by decide, by decide⟩ hx).mpr h1)]
    · have : x = 0 := by omega
      rw [this]
      decide
  · rw [e, if_neg (fun q => by rw [← h0] at q; have := (jl_lt ⟨by decide, by decide⟩ hx).mp q; omega), jl_neg]
theorem ji_ab {x : Int} (hx : jI x) : (if 0 ≤ ji x then ji x else 0 - ji x) = ji (fm_ab x) := by
  have h0 : ji 0 = 0 := rfl
  rcases fm_ab_cases x with ⟨h, e⟩ | ⟨h, e⟩
  · rw [e, if_pos (by rw [← h0]; exact (ji_le ⟨by decide, by decide⟩ hx).mpr h)]
  · rw [e, if_neg (fun q => by rw [← h0] at q; have := (ji_le ⟨by decide, by decide⟩ hx).mp q; omega), ← h0, ji_sub]
    congr 1
    omega
theorem jl_max {x y : Int} (hx : jL x) (hy : jL y) : (if jl y < jl x then jl x else jl y) = jl (if y < x then x else y) := by
  by_cases h : y < x
  · rw [if_pos h, if_pos ((jl_lt hy hx).mpr h)]
  · rw [if_neg h, if_neg (fun q => h ((jl_lt hy hx).mp q))]
section WMA
variable {p : Program} {l : Launch} {e : Env} {R : Room} {s : State} {m : MethodId} {args : Array Value} {below : List Frame} {meth : Method} {c : Code} {H : Heap} {locs : List Loc} {cells slots : Nat} {Q : State → Prop}
variable {cc : ByteArray} {pc : Nat} {ls : Array Slot} {rest : List Value} {nL : Nat} {rt : Option FieldType} {own : String} {index : Nat}
theorem w_absJ (X : cx p s m args meth c cc nL rt own) (hsz : ls.size = nL) {x : Int} (hx : jL x) (ml : Cond.methodLink own index Lib.MathLoose.abs_long.x ∈ wb) (hR : 1 ≤ R.frames ∧ (rest.map fun v => v.category).sum + 13 ≤ R.locals) (hf : cells ≤ R.cells ∧ slots ≤ R.slots) (hdg : decode cc pc = .ok (.invokestatic index, 3)) (k : W p l e R s m args below meth c H locs cells slots Q (F0 m (pc + 3) ls (.long (jl (fm_ab x)) :: rest))) : W p l e R s m args below meth c H locs cells slots Q (F0 m pc ls (.long (jl x) :: rest)) := by
  obtain ⟨hxx, hb, hml, hown, -, -, hts⟩ := X
  exact va_mabs_long hxx hb (hml.trans hsz.symm) hown (hts _ ml) (hts _ st_J_absJ) (hts _ in_J) (hts _ co_absJ) hR.1 hR.2 hf.1 hf.2 hdg (by rw [jl_ab hx]; exact k)
theorem w_absI (X : cx p s m args meth c cc nL rt own) (hsz : ls.size = nL) {x : Int} (hx : jI x) (ml : Cond.methodLink own index Lib.Math.abs.name ∈ wb) (hR : 1 ≤ R.frames ∧ (rest.map fun v => v.category).sum + 13 ≤ R.locals) (hf : cells ≤ R.cells ∧ slots ≤ R.slots) (hdg : decode cc pc = .ok (.invokestatic index, 3)) (k : W p l e R s m args below meth c H locs cells slots Q (F0 m (pc + 3) ls (.int (ji (fm_ab x)) :: rest))) : W p l e R s m args below meth c H locs cells slots Q (F0 m pc ls (.int (ji x) :: rest)) := by
  obtain ⟨hxx, hb, hml, hown, -, -, hts⟩ := X
  exact va_mabs hxx hb (hml.trans hsz.symm) hown (hts _ ml) (hts _ st_J_absI) (hts _ in_J) (hts _ co_absI) hR.1 hR.2 hf.1 hf.2 hdg (by rw [ji_ab hx]; exact k)
theorem w_maxJ (X : cx p s m args meth c cc nL rt own) (hsz : ls.size = nL) {x y : Int} (hx : jL x) (hy : jL y) (ml : Cond.methodLink own index Lib.MathLoose.max_long.x ∈ wb) (hR : 1 ≤ R.frames ∧ (rest.map fun v => v.category).sum + 15 ≤ R.locals) (hf : cells ≤ R.cells ∧ slots ≤ R.slots) (hdg : decode cc pc = .ok (.invokestatic index, 3)) (k : W p l e R s m args below meth c H locs cells slots Q (F0 m (pc + 3) ls (.long (jl (if y < x then x else y)) :: rest))) : W p l e R s m args below meth c H locs cells slots Q (F0 m pc ls (.long (jl y) :: .long (jl x) :: rest)) := by
  obtain ⟨hxx, hb, hml, hown, -, -, hts⟩ := X
  exact va_mmax_long hxx hb (hml.trans hsz.symm) hown (hts _ ml) (hts _ st_J_maxJ) (hts _ in_J) (hts _ co_maxJ) hR.1 hR.2 hf.1 hf.2 hdg (by rw [jl_max hx hy]; exact k)
end WMA
section WLD
variable {p : Program} {l : Launch} {e : Env} {R : Room} {s : State} {m : MethodId} {args : Array Value} {below : List Frame} {meth : Method} {c : Code} {H : Heap} {locs : List Loc} {cells slots : Nat} {Q : State → Prop}
variable {cc : ByteArray} {pc : Nat} {ls : Array Slot} {rest : List Value} {own : String} {index : Nat}
theorem w_ldc (hexec : p.tables.exec = Jvm.exec) (hb : c.code = cc) {v : Int32} {n : Int} (h : v = ji n) (hown : s.vm.findClass own = some m.cls) (hconst : (Cond.constant own index v).before args s = true) (hdg : decode cc pc = .ok (.ldc index, 2)) (k : W p l e R s m args below meth c H locs cells slots Q (F0 m (pc + 2) ls (.int (ji n) :: rest))) : W p l e R s m args below meth c H locs cells slots Q (F0 m pc ls rest) := by
  subst h
  exact lv_ldc hexec hb hown hconst hdg k
theorem w_ldc2 (hexec : p.tables.exec = Jvm.exec) (hb : c.code = cc) {v : Int64} {n : Int} (h : v = jl n) (hown : s.vm.findClass own = some m.cls) (hconst : (Cond.constantLong own index v).before args s = true) (hdg : decode cc pc = .ok (.ldc2_w index, 3)) (k : W p l e R s m args below meth c H locs cells slots Q (F0 m (pc + 3) ls (.long (jl n) :: rest))) : W p l e R s m args below meth c H locs cells slots Q (F0 m pc ls rest) := by
  subst h
  exact lv_ldc2 hexec hb hown hconst hdg k
end WLD
end
section
set_option maxHeartbeats 4000000 in
set_option maxRecDepth 100000 in
theorem c_X_quotient (l : Launch) (D : va_G) (cI cJ cF : ClassId) {n d : Int} (hn : jL n) (hd : jL d) : ∀ sz, Met l y_X_quotient (Cond.code y_X_quotient b_X_quotient 4 (some .long) :: wb) { frames := 0, cells := 0, slots := 0, locals := 0 } (va_Pc [.long (jl (n)), .long (jl (d))] (cpre D cI cJ cF [] sz)) (va_Ql (fun r (u : Unit) => r = jl (if (d) = 0 then 0 else (n).tdiv (d))) (fun (u : Unit) t => va_P D classes [] t.heap) (va_A [] sz)) 0 0 (va_A [] sz) := by
  refine c_of (Qc := fun sz => va_Ql (fun r (u : Unit) => r = jl (if (d) = 0 then 0 else (n).tdiv (d))) (fun (u : Unit) t => va_P D classes [] t.heap) (va_A [] sz)) (by decide +kernel) co_X_quotient (Nat.le_of_ble_eq_true rfl) ?_
  intro pq eq s mq below meth cq A X hK hP hD hS hA hAe ls hl
  obtain ⟨hx, hb, hml, hown, hr, hlocks, hts⟩ := id X
  have hl : lv_has ls 4 [(0, .long (jl (n))), (2, .long (jl (d)))] := hl
  refine lv_lload_n hx hb d_X_quotient_0 rfl (lv_at hl 1 rfl) ?_
  refine w_lconst (v := 0) hx hb rfl d_X_quotient_1 ?_
  refine wl_ceq hx hb hd ⟨by decide, by decide⟩ d_X_quotient_2 d_X_quotient_3 (tgt := 12) (by decide) (fun h_1 => ?_) (fun h_1 => ?_)
  · refine w_lconst (v := 0) hx hb rfl d_X_quotient_12 ?_
    exact rt_l X hAe hS () (by first | rw [if_pos h_1] | rw [if_neg h_1]) hP d_X_quotient_13
  · refine lv_lload_n hx hb d_X_quotient_6 rfl (lv_at hl 0 rfl) ?_
    refine lv_lload_n hx hb d_X_quotient_7 rfl (lv_at hl 1 rfl) ?_
    refine wl_div hx hb hn hd h_1 d_X_quotient_8 ?_
    refine lv_goto (tgt := 13) hx hb d_X_quotient_9 (by decide) ?_
    exact rt_l X hAe hS () (by first | rw [if_pos h_1] | rw [if_neg h_1]) hP d_X_quotient_13

set_option maxHeartbeats 4000000 in
set_option maxRecDepth 100000 in
theorem c_J_floorModJ (l : Launch) (D : va_G) (cI cJ cF : ClassId) {x y : Int} (hxx : jL x) (hy : jL y) (h0 : 0 < y) : ∀ sz, Met l y_J_floorModJ (Cond.code y_J_floorModJ b_J_floorModJ 6 (some .long) :: wb) { frames := 0, cells := 0, slots := 0, locals := 0 } (va_Pc [.long (jl (x)), .long (jl (y))] (cpre D cI cJ cF [] sz)) (va_Ql (fun r (u : Unit) => r = jl ((x) % (y))) (fun (u : Unit) t => va_P D classes [] t.heap) (va_A [] sz)) 0 0 (va_A [] sz) := by
  refine c_of (Qc := fun sz => va_Ql (fun r (u : Unit) => r = jl ((x) % (y))) (fun (u : Unit) t => va_P D classes [] t.heap) (va_A [] sz)) (by decide +kernel) co_J_floorModJ (Nat.le_of_ble_eq_true rfl) ?_
  intro pq eq s mq below meth cq A X hK hP hD hS hA hAe ls hl
  obtain ⟨hx, hb, hml, hown, hr, hlocks, hts⟩ := id X
  have hl : lv_has ls 6 [(0, .long (jl (x))), (2, .long (jl (y)))] := hl
  have t1 := Int.tmod_lt_of_pos x h0
  have t2 := Int.lt_tmod_of_pos x h0
  refine lv_lload_n hx hb d_J_floorModJ_0 rfl (lv_at hl 0 rfl) ?_
  refine lv_lload_n hx hb d_J_floorModJ_1 rfl (lv_at hl 1 rfl) ?_
  refine wl_rem hx hb hxx hy (by omega) d_J_floorModJ_2 ?_
  refine lv_lstore (lv' := [(4, .long (jl ((x).tmod (y)))), (0, .long (jl (x))), (2, .long (jl (y)))]) hx hb d_J_floorModJ_3 hl (by decide) rfl (fun ls hl => ?_)
  refine lv_lload_n hx hb d_J_floorModJ_5 rfl (lv_at hl 1 rfl) ?_
  refine lv_lload_n hx hb d_J_floorModJ_6 rfl (lv_at hl 2 rfl) ?_
  refine lv_lxor hx hb d_J_floorModJ_7 ?_
  obtain ⟨v, hv, ev, hv0⟩ := jl_xor hxx hy (by omega)
  rw [ev]
  refine w_lconst (v := 0) hx hb rfl d_J_floorModJ_8 ?_
  refine wl_cge hx hb hv ⟨by decide, by decide⟩ d_J_floorModJ_9 d_J_floorModJ_10 (tgt := 25) (by decide) (fun h_1 => ?_) (fun h_1 => ?_)
  · refine lv_lload hx hb d_J_floorModJ_25 (lv_at hl 0 rfl) ?_
    exact rt_l X hAe hS () (by first | rw [(jf_mod h0).1 ⟨by omega, by omega⟩] | rw [(jf_mod h0).2 (by omega)]) hP d_J_floorModJ_27
  · refine lv_lload hx hb d_J_floorModJ_13 (lv_at hl 0 rfl) ?_
    refine w_lconst (v := 0) hx hb rfl d_J_floorModJ_15 ?_
    refine wl_ceq hx hb ⟨by have := hy.2; omega, by have := hy.2; omega⟩ ⟨by decide, by decide⟩ d_J_floorModJ_16 d_J_floorModJ_17 (tgt := 25) (by decide) (fun h_2 => ?_) (fun h_2 => ?_)
    · refine lv_lload hx hb d_J_floorModJ_25 (lv_at hl 0 rfl) ?_
      exact rt_l X hAe hS () (by first | rw [(jf_mod h0).1 ⟨by omega, by omega⟩] | rw [(jf_mod h0).2 (by omega)]) hP d_J_floorModJ_27
    · refine lv_lload hx hb d_J_floorModJ_20 (lv_at hl 0 rfl) ?_
      refine lv_lload_n hx hb d_J_floorModJ_22 rfl (lv_at hl 2 rfl) ?_
      refine wl_add hx hb d_J_floorModJ_23 ?_
      exact rt_l X hAe hS () (by first | rw [(jf_mod h0).1 ⟨by omega, by omega⟩] | rw [(jf_mod h0).2 (by omega)]) hP d_J_floorModJ_24

set_option maxHeartbeats 4000000 in
set_option maxRecDepth 100000 in
theorem c_J_floorModI (l : Launch) (D : va_G) (cI cJ cF : ClassId) {x y : Int} (hxx : jI x) (hy : jI y) (h0 : 0 < y) : ∀ sz, Met l y_J_floorModI (Cond.code y_J_floorModI b_J_floorModI 3 (some .int) :: wb) { frames := 0, cells := 0, slots := 0, locals := 0 } (va_Pc [.int (ji (x)), .int (ji (y))] (cpre D cI cJ cF [] sz)) (va_Qi (fun r (u : Unit) => r = ji ((x) % (y))) (fun (u : Unit) t => va_P D classes [] t.heap) (va_A [] sz)) 0 0 (va_A [] sz) := by
  refine c_of (Qc := fun sz => va_Qi (fun r (u : Unit) => r = ji ((x) % (y))) (fun (u : Unit) t => va_P D classes [] t.heap) (va_A [] sz)) (by decide +kernel) co_J_floorModI (Nat.le_of_ble_eq_true rfl) ?_
  intro pq eq s mq below meth cq A X hK hP hD hS hA hAe ls hl
  obtain ⟨hx, hb, hml, hown, hr, hlocks, hts⟩ := id X
  have hl : lv_has ls 3 [(0, .int (ji (x))), (1, .int (ji (y)))] := hl
  have t1 := Int.tmod_lt_of_pos x h0
  have t2 := Int.lt_tmod_of_pos x h0
  refine lv_iload_n hx hb d_J_floorModI_0 rfl (lv_at hl 0 rfl) ?_
  refine lv_iload_n hx hb d_J_floorModI_1 rfl (lv_at hl 1 rfl) ?_
  refine wi_rem hx hb hxx hy (by omega) d_J_floorModI_2 ?_
  refine lv_istore_n (lv' := [(2, .int (ji ((x).tmod (y)))), (0, .int (ji (x))), (1, .int (ji (y)))]) hx hb d_J_floorModI_3 rfl hl (by decide) rfl (fun ls hl => ?_)
  refine lv_iload_n hx hb d_J_floorModI_4 rfl (lv_at hl 1 rfl) ?_
  refine lv_iload_n hx hb d_J_floorModI_5 rfl (lv_at hl 2 rfl) ?_
  refine lv_ixor hx hb d_J_floorModI_6 ?_
  obtain ⟨v, hv, ev, hv0⟩ := ji_xor hxx hy (by omega)
  rw [ev]
  refine wi_zge hx hb hv d_J_floorModI_7 (tgt := 18) (by decide) (fun h_1 => ?_) (fun h_1 => ?_)
  · refine lv_iload_n hx hb d_J_floorModI_18 rfl (lv_at hl 0 rfl) ?_
    exact rt_i X hAe hS () (by first | rw [(jf_mod h0).1 ⟨by omega, by omega⟩] | rw [(jf_mod h0).2 (by omega)]) hP d_J_floorModI_19
  · refine lv_iload_n hx hb d_J_floorModI_10 rfl (lv_at hl 0 rfl) ?_
    refine wi_zeq hx hb ⟨by have := hy.2; omega, by have := hy.2; omega⟩ d_J_floorModI_11 (tgt := 18) (by decide) (fun h_2 => ?_) (fun h_2 => ?_)
    · refine lv_iload_n hx hb d_J_floorModI_18 rfl (lv_at hl 0 rfl) ?_
      exact rt_i X hAe hS () (by first | rw [(jf_mod h0).1 ⟨by omega, by omega⟩] | rw [(jf_mod h0).2 (by omega)]) hP d_J_floorModI_19
    · refine lv_iload_n hx hb d_J_floorModI_14 rfl (lv_at hl 0 rfl) ?_
      refine lv_iload_n hx hb d_J_floorModI_15 rfl (lv_at hl 2 rfl) ?_
      refine wi_add hx hb d_J_floorModI_16 ?_
      exact rt_i X hAe hS () (by first | rw [(jf_mod h0).1 ⟨by omega, by omega⟩] | rw [(jf_mod h0).2 (by omega)]) hP d_J_floorModI_17

set_option maxHeartbeats 4000000 in
set_option maxRecDepth 100000 in
theorem c_X_remainder (l : Launch) (D : va_G) (cI cJ cF : ClassId) {n d : Int} (hn : jL n) (hd : jL d) : ∀ sz, Met l y_X_remainder (Cond.code y_X_remainder b_X_remainder 4 (some .long) :: wb) { frames := 1, cells := 0, slots := 0, locals := 25 } (va_Pc [.long (jl (n)), .long (jl (d))] (cpre D cI cJ cF [] sz)) (va_Ql (fun r (u : Unit) => r = jl (if 0 < (d) then (n) % (d) else 0)) (fun (u : Unit) t => va_P D classes [] t.heap) (va_A [] sz)) 0 0 (va_A [] sz) := by
  refine c_of (Qc := fun sz => va_Ql (fun r (u : Unit) => r = jl (if 0 < (d) then (n) % (d) else 0)) (fun (u : Unit) t => va_P D classes [] t.heap) (va_A [] sz)) (by decide +kernel) co_X_remainder (Nat.le_of_ble_eq_true rfl) ?_
  intro pq eq s mq below meth cq A X hK hP hD hS hA hAe ls hl
  obtain ⟨hx, hb, hml, hown, hr, hlocks, hts⟩ := id X
  have hl : lv_has ls 4 [(0, .long (jl (n))), (2, .long (jl (d)))] := hl
  refine lv_lload_n hx hb d_X_remainder_0 rfl (lv_at hl 1 rfl) ?_
  refine w_lconst (v := 0) hx hb rfl d_X_remainder_1 ?_
  refine wl_cle hx hb hd ⟨by decide, by decide⟩ d_X_remainder_2 d_X_remainder_3 (tgt := 14) (by decide) (fun h_1 => ?_) (fun h_1 => ?_)
  · refine w_lconst (v := 0) hx hb rfl d_X_remainder_14 ?_
    exact rt_l X hAe hS () (by first | rw [if_pos (by omega)] | rw [if_neg (by omega)]) hP d_X_remainder_15
  · refine lv_lload_n hx hb d_X_remainder_6 rfl (lv_at hl 0 rfl) ?_
    refine lv_lload_n hx hb d_X_remainder_7 rfl (lv_at hl 1 rfl) ?_
    refine cl_l (rn_S (wc := []) (As := [.long (jl (n)), .long (jl (d))]) (rest := []) X hK (c_J_floorModJ l D cI cJ cF hn hd (by omega) _) co_J_floorModJ in_J ml_X_163 st_J_floorModJ 2 rfl (by decide +kernel) ⟨Nat.le_of_ble_eq_true rfl, Nat.le_of_ble_eq_true rfl⟩ hP hD [] rfl (by decide) hl.1 rfl (Nat.le_of_ble_eq_true rfl) d_X_remainder_8 ⟨Nat.zero_le _, Nat.zero_le _⟩) hP hD hS hA [] rfl (by decide) (fun _ => rfl) (fun r_2 u_3 H locs hp hP hD hS => ?_)
    have hP : va_P D classes [] H := hP
    have hD : va_D A [] := hD
    obtain rfl : r_2 = jl ((n) % (d)) := hp
    refine lv_goto (tgt := 15) hx hb d_X_remainder_11 (by decide) ?_
    exact rt_l X hAe hS () (by first | rw [if_pos (by omega)] | rw [if_neg (by omega)]) hP d_X_remainder_15

set_option maxHeartbeats 4000000 in
set_option maxRecDepth 100000 in
theorem c_X_wholeRoot (l : Launch) (D : va_G) (cI cJ cF : ClassId) {d : Int} (hd : jI d) (hd2 : d ≤ 1048576) : ∀ sz, Met l y_X_wholeRoot (Cond.code y_X_wholeRoot b_X_wholeRoot 2 (some .int) :: wb) { frames := 0, cells := 0, slots := 0, locals := 0 } (va_Pc [.int (ji (d))] (cpre D cI cJ cF [] sz)) (va_Qi (fun r (u : Unit) => ∃ w : Int, r = ji w ∧ jI w ∧ ((d < 0 ∧ w = -1) ∨ (0 ≤ w ∧ w ≤ 1024 ∧ w * w ≤ d ∧ d < (w + 1) * (w + 1)))) (fun (u : Unit) t => va_P D classes [] t.heap) (va_A [] sz)) 0 0 (va_A [] sz) := by
  refine c_of (Qc := fun sz => va_Qi (fun r (u : Unit) => ∃ w : Int, r = ji w ∧ jI w ∧ ((d < 0 ∧ w = -1) ∨ (0 ≤ w ∧ w ≤ 1024 ∧ w * w ≤ d ∧ d < (w + 1) * (w + 1)))) (fun (u : Unit) t => va_P D classes [] t.heap) (va_A [] sz)) (by decide +kernel) co_X_wholeRoot (Nat.le_of_ble_eq_true rfl) ?_
  intro pq eq s mq below meth cq A X hK hP hD hS hA hAe ls hl
  obtain ⟨hx, hb, hml, hown, hr, hlocks, hts⟩ := id X
  have hl : lv_has ls 2 [(0, .int (ji (d)))] := hl
  refine lv_iload_n hx hb d_X_wholeRoot_0 rfl (lv_at hl 0 rfl) ?_
  refine wi_zge hx hb hd d_X_wholeRoot_1 (tgt := 6) (by decide) (fun h_1 => ?_) (fun h_1 => ?_)
  · refine w_iconst hx hb d_X_wholeRoot_6 ?_
    refine lv_istore_n (lv' := [(1, .int (ji (0))), (0, .int (ji (d)))]) hx hb d_X_wholeRoot_7 rfl hl (by decide) rfl (fun ls hl => ?_)
    refine lpn (I := fun n H locs ls => ∃ (w : Int), (1024 - w).toNat = n ∧ (0 ≤ w ∧ w ≤ 1024 ∧ w * w ≤ d) ∧ va_P D classes [] H ∧ va_D A [] ∧ va_S A s.heap H locs ∧ lv_has ls 2 [(0, .int (ji (d))), (1, .int (ji (w)))]) ?_ _ _ _ _ ⟨0, rfl, ⟨by decide, by decide, by omega⟩, hP, hD, hS, lv_sub hl [1, 0] rfl⟩
    rintro n H locs ls ⟨w, rfl, hi, hP, hD, hS, hl⟩ ih
    refine lv_iload_n hx hb d_X_wholeRoot_8 rfl (lv_at hl 1 rfl) ?_
    refine w_sipush hx hb rfl d_X_wholeRoot_9 ?_
    refine wi_cge hx hb ⟨by omega, by omega⟩ ⟨by omega, by omega⟩ d_X_wholeRoot_12 (tgt := 32) (by decide) (fun h_2 => ?_) (fun h_2 => ?_)
    · refine lv_iload_n hx hb d_X_wholeRoot_32 rfl (lv_at hl 1 rfl) ?_
      have hw2 : d < (w + 1) * (w + 1) := by first | omega | (have := Int.mul_le_mul (show (1025 : Int) ≤ w + 1 by omega) (show (1025 : Int) ≤ w + 1 by omega) (by decide) (by omega); omega)
      exact rt_i X hAe hS () ⟨w, rfl, ⟨by omega, by omega⟩, Or.inr ⟨by omega, by omega, hi.2.2, by omega⟩⟩ hP d_X_wholeRoot_33
    · refine lv_iload_n hx hb d_X_wholeRoot_15 rfl (lv_at hl 1 rfl) ?_
      refine w_iconst hx hb d_X_wholeRoot_16 ?_
      refine wi_add hx hb d_X_wholeRoot_17 ?_
      refine lv_iload_n hx hb d_X_wholeRoot_18 rfl (lv_at hl 1 rfl) ?_
      refine w_iconst hx hb d_X_wholeRoot_19 ?_
      refine wi_add hx hb d_X_wholeRoot_20 ?_
      refine wi_mul hx hb d_X_wholeRoot_21 ?_
      refine lv_iload_n hx hb d_X_wholeRoot_22 rfl (lv_at hl 0 rfl) ?_
      refine wi_cgt hx hb ⟨by have := Int.mul_nonneg (show 0 ≤ w + 1 by omega) (show 0 ≤ w + 1 by omega); omega, by have := Int.mul_le_mul (show w + 1 ≤ 1024 by omega) (show w + 1 ≤ 1024 by omega) (by omega) (by decide); omega⟩ hd d_X_wholeRoot_23 (tgt := 32) (by decide) (fun h_3 => ?_) (fun h_3 => ?_)
      · refine lv_iload_n hx hb d_X_wholeRoot_32 rfl (lv_at hl 1 rfl) ?_
        have hw2 : d < (w + 1) * (w + 1) := by first | omega | (have := Int.mul_le_mul (show (1025 : Int) ≤ w + 1 by omega) (show (1025 : Int) ≤ w + 1 by omega) (by decide) (by omega); omega)
        exact rt_i X hAe hS () ⟨w, rfl, ⟨by omega, by omega⟩, Or.inr ⟨by omega, by omega, hi.2.2, by omega⟩⟩ hP d_X_wholeRoot_33
      · refine lv_iinc (v := ji ((w) + (1))) (lv' := [(1, .int (ji ((w) + (1)))), (0, .int (ji (d)))]) hx hb d_X_wholeRoot_26 hl (k := 1) rfl (ji_add _ _) (by decide) rfl (fun ls hl => ?_)
        refine lv_goto (tgt := 8) hx hb d_X_wholeRoot_29 (by decide) ?_
        exact ih _ _ _ _ (by omega) ⟨w + 1, rfl, ⟨by omega, by omega, by omega⟩, hP, hD, hS, lv_sub hl [1, 0] rfl⟩
  · refine w_iconst hx hb d_X_wholeRoot_4 ?_
    exact rt_i X hAe hS () ⟨-1, rfl, ⟨by decide, by decide⟩, Or.inl ⟨by omega, rfl⟩⟩ hP d_X_wholeRoot_5

/-- a discriminant that can be taken -/
def dV (d : Int) : Prop := -1048576 ≤ d ∧ d ≤ 1048576 ∧ d % 4 ≤ 1 ∧ ∀ x : Int, x * x ≠ d
theorem dv_ns {d w : Int} (hw : (d < 0 ∧ w = -1) ∨ (0 ≤ w ∧ w ≤ 1024 ∧ w * w ≤ d ∧ d < (w + 1) * (w + 1))) (h : w < 0 ∨ w * w ≠ d) : ∀ x : Int, x * x ≠ d := by
  intro x hx
  have h0 := fm_ab_sq x
  have h1 : 0 ≤ fm_ab x := by rcases fm_ab_cases x with k | k <;> omega
  have h2 := fm_sq_le (Int.le_refl 0) h1
  rcases hw with ⟨a, b⟩ | ⟨a, b, c, e⟩
  · omega
  · rcases Int.lt_trichotomy (fm_ab x) w with k | k | k
    · have := Int.mul_le_mul (show fm_ab x + 1 ≤ w by omega) (show fm_ab x + 1 ≤ w by omega) (by omega) a
      have e2 : (fm_ab x + 1) * (fm_ab x + 1) = fm_ab x * fm_ab x + 2 * fm_ab x + 1 := by grind
      omega
    · rw [k] at h0
      omega
    · have := fm_sq_le (show 0 ≤ w + 1 by omega) (show w + 1 ≤ fm_ab x by omega)
      omega

set_option maxHeartbeats 4000000 in
set_option maxRecDepth 100000 in
theorem c_X_isDiscriminant (l : Launch) (D : va_G) (cI cJ cF : ClassId) {d : Int} (hd : jI d) : ∀ sz, Met l y_X_isDiscriminant (Cond.code y_X_isDiscriminant b_X_isDiscriminant 2 (some .boolean) :: wb) { frames := 1, cells := 0, slots := 0, locals := 22 } (va_Pc [.int (ji (d))] (cpre D cI cJ cF [] sz)) (va_Qi (fun r (u : Unit) => ∃ t : Int, r = ji t ∧ ((t = 1 ∧ (dV d)) ∨ (t = 0 ∧ ¬ (dV d)))) (fun (u : Unit) t => va_P D classes [] t.heap) (va_A [] sz)) 0 0 (va_A [] sz) := by
  refine c_of (Qc := fun sz => va_Qi (fun r (u : Unit) => ∃ t : Int, r = ji t ∧ ((t = 1 ∧ (dV d)) ∨ (t = 0 ∧ ¬ (dV d)))) (fun (u : Unit) t => va_P D classes [] t.heap) (va_A [] sz)) (by decide +kernel) co_X_isDiscriminant (Nat.le_of_ble_eq_true rfl) ?_
  intro pq eq s mq below meth cq A X hK hP hD hS hA hAe ls hl
  obtain ⟨hx, hb, hml, hown, hr, hlocks, hts⟩ := id X
  have hl : lv_has ls 2 [(0, .int (ji (d)))] := hl
  refine lv_iload_n hx hb d_X_isDiscriminant_0 rfl (lv_at hl 0 rfl) ?_
  refine w_ldc (v := -1048576) (n := -1048576) hx hb (by decide) hown (hts _ kc_X_152) d_X_isDiscriminant_1 ?_
  refine wi_clt hx hb hd ⟨by decide, by decide⟩ d_X_isDiscriminant_3 (tgt := 21) (by decide) (fun h_1 => ?_) (fun h_1 => ?_)
  · refine w_iconst hx hb d_X_isDiscriminant_21 ?_
    exact rt_z X hAe hS () rfl ⟨0, rfl, Or.inr ⟨rfl, fun h => by have z1 := h.1; have z2 := h.2.1; have z3 := h.2.2.1; omega⟩⟩ hP d_X_isDiscriminant_22
  · refine lv_iload_n hx hb d_X_isDiscriminant_6 rfl (lv_at hl 0 rfl) ?_
    refine w_ldc (v := 1048576) (n := 1048576) hx hb (by decide) hown (hts _ kc_X_153) d_X_isDiscriminant_7 ?_
    refine wi_cgt hx hb hd ⟨by decide, by decide⟩ d_X_isDiscriminant_9 (tgt := 21) (by decide) (fun h_2 => ?_) (fun h_2 => ?_)
    · refine w_iconst hx hb d_X_isDiscriminant_21 ?_
      exact rt_z X hAe hS () rfl ⟨0, rfl, Or.inr ⟨rfl, fun h => by have z1 := h.1; have z2 := h.2.1; have z3 := h.2.2.1; omega⟩⟩ hP d_X_isDiscriminant_22
    · refine lv_iload_n hx hb d_X_isDiscriminant_12 rfl (lv_at hl 0 rfl) ?_
      refine w_iconst hx hb d_X_isDiscriminant_13 ?_
      refine cl_i (rn_S (wc := []) (As := [.int (ji (d)), .int (ji (4))]) (rest := []) X hK (c_J_floorModI l D cI cJ cF hd ⟨by decide, by decide⟩ (by decide) _) co_J_floorModI in_J ml_X_154 st_J_floorModI 2 rfl (by decide +kernel) ⟨Nat.le_of_ble_eq_true rfl, Nat.le_of_ble_eq_true rfl⟩ hP hD [] rfl (by decide) hl.1 rfl (Nat.le_of_ble_eq_true rfl) d_X_isDiscriminant_14 ⟨Nat.zero_le _, Nat.zero_le _⟩) hP hD hS hA [] rfl (by decide) (fun _ => rfl) (fun r_3 u_4 H locs hp hP hD hS => ?_)
      have hP : va_P D classes [] H := hP
      have hD : va_D A [] := hD
      obtain rfl : r_3 = ji ((d) % (4)) := hp
      refine w_iconst hx hb d_X_isDiscriminant_17 ?_
      refine wi_cle hx hb ⟨by omega, by omega⟩ ⟨by omega, by omega⟩ d_X_isDiscriminant_18 (tgt := 23) (by decide) (fun h_5 => ?_) (fun h_5 => ?_)
      · refine lv_iload_n hx hb d_X_isDiscriminant_23 rfl (lv_at hl 0 rfl) ?_
        refine cl_i (rn_S (wc := []) (As := [.int (ji (d))]) (rest := []) X hK (c_X_wholeRoot l D cI cJ cF hd (by omega) _) co_X_wholeRoot in_X ml_X_160 st_X_wholeRoot 1 rfl (by decide +kernel) ⟨Nat.le_of_ble_eq_true rfl, Nat.le_of_ble_eq_true rfl⟩ hP hD [] rfl (by decide) hl.1 rfl (Nat.le_of_ble_eq_true rfl) d_X_isDiscriminant_24 ⟨Nat.zero_le _, Nat.zero_le _⟩) hP hD hS hA [] rfl (by decide) (fun _ => rfl) (fun r_6 u_7 H locs hp hP hD hS => ?_)
        obtain ⟨w, rfl, hw1, hw⟩ := hp
        have hP : va_P D classes [] H := hP
        have hD : va_D A [] := hD
        refine lv_istore_n (lv' := [(1, .int (ji (w))), (0, .int (ji (d)))]) hx hb d_X_isDiscriminant_27 rfl hl (by decide) rfl (fun ls hl => ?_)
        refine lv_iload_n hx hb d_X_isDiscriminant_28 rfl (lv_at hl 0 rfl) ?_
        refine wi_zlt hx hb hw1 d_X_isDiscriminant_29 (tgt := 39) (by decide) (fun h_8 => ?_) (fun h_8 => ?_)
        · refine w_iconst hx hb d_X_isDiscriminant_39 ?_
          refine lv_goto (tgt := 44) hx hb d_X_isDiscriminant_40 (by decide) ?_
          exact rt_z X hAe hS () rfl ⟨1, rfl, Or.inl ⟨rfl, by omega, by omega, by omega, dv_ns hw (by first | (left; omega) | (right; omega))⟩⟩ hP d_X_isDiscriminant_44
        · refine lv_iload_n hx hb d_X_isDiscriminant_32 rfl (lv_at hl 0 rfl) ?_
          refine lv_iload_n hx hb d_X_isDiscriminant_33 rfl (lv_at hl 0 rfl) ?_
          refine wi_mul hx hb d_X_isDiscriminant_34 ?_
          refine lv_iload_n hx hb d_X_isDiscriminant_35 rfl (lv_at hl 1 rfl) ?_
          refine wi_ceq hx hb ⟨by rcases hw with z | z; (rw [z.2]; decide); (have := Int.mul_nonneg z.1 z.1; omega), by rcases hw with z | z; (rw [z.2]; decide); (have := Int.mul_le_mul z.2.1 z.2.1 z.1 (by decide); omega)⟩ hd d_X_isDiscriminant_36 (tgt := 43) (by decide) (fun h_9 => ?_) (fun h_9 => ?_)
          · refine w_iconst hx hb d_X_isDiscriminant_43 ?_
            exact rt_z X hAe hS () rfl ⟨0, rfl, Or.inr ⟨rfl, fun h => h.2.2.2 w (by omega)⟩⟩ hP d_X_isDiscriminant_44
          · refine w_iconst hx hb d_X_isDiscriminant_39 ?_
            refine lv_goto (tgt := 44) hx hb d_X_isDiscriminant_40 (by decide) ?_
            exact rt_z X hAe hS () rfl ⟨1, rfl, Or.inl ⟨rfl, by omega, by omega, by omega, dv_ns hw (by first | (left; omega) | (right; omega))⟩⟩ hP d_X_isDiscriminant_44
      · refine w_iconst hx hb d_X_isDiscriminant_21 ?_
        exact rt_z X hAe hS () rfl ⟨0, rfl, Or.inr ⟨rfl, fun h => by have z1 := h.1; have z2 := h.2.1; have z3 := h.2.2.1; omega⟩⟩ hP d_X_isDiscriminant_22
end
section
set_option maxHeartbeats 4000000 in
set_option maxRecDepth 100000 in
theorem c_F_become (l : Launch) (D : va_G) (cI cJ cF : ClassId) {f : Nat} {a0 b0 c0 a b c : Int} : ∀ sz, Met l y_F_become (Cond.code y_F_become b_F_become 7 none :: wb) { frames := 0, cells := 0, slots := 0, locals := 0 } (va_Pc [.ref f, .long (jl (a)), .long (jl (b)), .long (jl (c))] (cpre D cI cJ cF [(f, .inr (1, [.long (jl (a0)), .long (jl (b0)), .long (jl (c0))]))] sz)) (va_Qv (fun (u : Unit) => True) (fun (u : Unit) t => va_P D classes [(f, .inr (1, [.long (jl (a)), .long (jl (b)), .long (jl (c))]))] t.heap) (va_A [(f, .inr (1, [.long (jl (a0)), .long (jl (b0)), .long (jl (c0))]))] sz)) 0 0 (va_A [(f, .inr (1, [.long (jl (a0)), .long (jl (b0)), .long (jl (c0))]))] sz) := by
  refine c_of (Qc := fun sz => va_Qv (fun (u : Unit) => True) (fun (u : Unit) t => va_P D classes [(f, .inr (1, [.long (jl (a)), .long (jl (b)), .long (jl (c))]))] t.heap) (va_A [(f, .inr (1, [.long (jl (a0)), .long (jl (b0)), .long (jl (c0))]))] sz)) (by decide +kernel) co_F_become (Nat.le_of_ble_eq_true rfl) ?_
  intro pq eq s mq below meth cq A X hK hP hD hS hA hAe ls hl
  obtain ⟨hx, hb, hml, hown, hr, hlocks, hts⟩ := id X
  have hl : lv_has ls 7 [(0, .ref f), (1, .long (jl (a))), (3, .long (jl (b))), (5, .long (jl (c)))] := hl
  refine lv_aload_n hx hb d_F_become_0 rfl (lv_at hl 0 rfl) ?_
  refine lv_lload_n hx hb d_F_become_1 rfl (lv_at hl 1 rfl) ?_
  refine va_put (D := D) (ci := 1) (v := .long (jl (a))) (ty := .long) (C := R_F) (T := T_F) (N := 3) hx hb hts uw_F ty_F ty_F_ok nm_F hown hK.1 hP hD hS 0 rfl rfl 0 (by decide) (hts _ fl_F_7) (fun _ h9 => h9) rfl (by decide +kernel) rfl rfl (Nat.le_of_ble_eq_true rfl) d_F_become_2 (fun H locs hP hD hS => ?_)
  have hP : va_P D classes [(f, .inr (1, [.long (jl (a)), .long (jl (b0)), .long (jl (c0))]))] H := hP
  have hD : va_D A [(f, .inr (1, [.long (jl (a)), .long (jl (b0)), .long (jl (c0))]))] := hD
  refine lv_aload_n hx hb d_F_become_5 rfl (lv_at hl 0 rfl) ?_
  refine lv_lload_n hx hb d_F_become_6 rfl (lv_at hl 2 rfl) ?_
  refine va_put (D := D) (ci := 1) (v := .long (jl (b))) (ty := .long) (C := R_F) (T := T_F) (N := 3) hx hb hts uw_F ty_F ty_F_ok nm_F hown hK.1 hP hD hS 0 rfl rfl 1 (by decide) (hts _ fl_F_13) (fun _ h9 => h9) rfl (by decide +kernel) rfl rfl (Nat.le_of_ble_eq_true rfl) d_F_become_7 (fun H locs hP hD hS => ?_)
  have hP : va_P D classes [(f, .inr (1, [.long (jl (a)), .long (jl (b)), .long (jl (c0))]))] H := hP
  have hD : va_D A [(f, .inr (1, [.long (jl (a)), .long (jl (b)), .long (jl (c0))]))] := hD
  refine lv_aload_n hx hb d_F_become_10 rfl (lv_at hl 0 rfl) ?_
  refine lv_lload hx hb d_F_become_11 (lv_at hl 3 rfl) ?_
  refine va_put (D := D) (ci := 1) (v := .long (jl (c))) (ty := .long) (C := R_F) (T := T_F) (N := 3) hx hb hts uw_F ty_F ty_F_ok nm_F hown hK.1 hP hD hS 0 rfl rfl 2 (by decide) (hts _ fl_F_16) (fun _ h9 => h9) rfl (by decide +kernel) rfl rfl (Nat.le_of_ble_eq_true rfl) d_F_become_13 (fun H locs hP hD hS => ?_)
  have hP : va_P D classes [(f, .inr (1, [.long (jl (a)), .long (jl (b)), .long (jl (c))]))] H := hP
  have hD : va_D A [(f, .inr (1, [.long (jl (a)), .long (jl (b)), .long (jl (c))]))] := hD
  exact rt_v X hAe hS () trivial hP d_F_become_16

set_option maxHeartbeats 4000000 in
set_option maxRecDepth 100000 in
theorem c_F_copy (l : Launch) (D : va_G) (cI cJ cF : ClassId) {f h : Nat} {a0 b0 c0 a b c : Int} : ∀ sz, Met l y_F_copy (Cond.code y_F_copy b_F_copy 2 none :: wb) { frames := 1, cells := 0, slots := 0, locals := 26 } (va_Pc [.ref f, .ref h] (cpre D cI cJ cF [(f, .inr (1, [.long (jl (a0)), .long (jl (b0)), .long (jl (c0))])), (h, .inr (1, [.long (jl (a)), .long (jl (b)), .long (jl (c))]))] sz)) (va_Qv (fun (u : Unit) => True) (fun (u : Unit) t => va_P D classes [(f, .inr (1, [.long (jl (a)), .long (jl (b)), .long (jl (c))])), (h, .inr (1, [.long (jl (a)), .long (jl (b)), .long (jl (c))]))] t.heap) (va_A [(f, .inr (1, [.long (jl (a0)), .long (jl (b0)), .long (jl (c0))])), (h, .inr (1, [.long (jl (a)), .long (jl (b)), .long (jl (c))]))] sz)) 0 0 (va_A [(f, .inr (1, [.long (jl (a0)), .long (jl (b0)), .long (jl (c0))])), (h, .inr (1, [.long (jl (a)), .long (jl (b)), .long (jl (c))]))] sz) := by
  refine c_of (Qc := fun sz => va_Qv (fun (u : Unit) => True) (fun (u : Unit) t => va_P D classes [(f, .inr (1, [.long (jl (a)), .long (jl (b)), .long (jl (c))])), (h, .inr (1, [.long (jl (a)), .long (jl (b)), .long (jl (c))]))] t.heap) (va_A [(f, .inr (1, [.long (jl (a0)), .long (jl (b0)), .long (jl (c0))])), (h, .inr (1, [.long (jl (a)), .long (jl (b)), .long (jl (c))]))] sz)) (by decide +kernel) co_F_copy (Nat.le_of_ble_eq_true rfl) ?_
  intro pq eq s mq below meth cq A X hK hP hD hS hA hAe ls hl
  obtain ⟨hx, hb, hml, hown, hr, hlocks, hts⟩ := id X
  have hl : lv_has ls 2 [(0, .ref f), (1, .ref h)] := hl
  refine lv_aload_n hx hb d_F_copy_0 rfl (lv_at hl 0 rfl) ?_
  refine lv_aload_n hx hb d_F_copy_1 rfl (lv_at hl 1 rfl) ?_
  refine va_get (D := D) (ci := 1) (v := .long (jl (a))) (C := R_F) (T := T_F) (N := 3) hx hb hts uw_F hown hK.1 hP 1 rfl rfl 0 (by decide) (hts _ fl_F_7) (fun _ h9 => h9) rfl d_F_copy_2 ?_
  refine lv_aload_n hx hb d_F_copy_5 rfl (lv_at hl 1 rfl) ?_
  refine va_get (D := D) (ci := 1) (v := .long (jl (b))) (C := R_F) (T := T_F) (N := 3) hx hb hts uw_F hown hK.1 hP 1 rfl rfl 1 (by decide) (hts _ fl_F_13) (fun _ h9 => h9) rfl d_F_copy_6 ?_
  refine lv_aload_n hx hb d_F_copy_9 rfl (lv_at hl 1 rfl) ?_
  refine va_get (D := D) (ci := 1) (v := .long (jl (c))) (C := R_F) (T := T_F) (N := 3) hx hb hts uw_F hown hK.1 hP 1 rfl rfl 2 (by decide) (hts _ fl_F_16) (fun _ h9 => h9) rfl d_F_copy_10 ?_
  refine cl_v (rn_V (wc := [(f, .inr (1, [.long (jl (a0)), .long (jl (b0)), .long (jl (c0))]))]) (As := [.long (jl (a)), .long (jl (b)), .long (jl (c))]) (rest := []) X hK (c_F_become l D cI cJ cF  _) co_F_become in_F ml_F_19 im_F_become se_F_become 3 rfl (by decide +kernel) ⟨Nat.le_of_ble_eq_true rfl, Nat.le_of_ble_eq_true rfl⟩ hP hD [0] rfl (by decide) (q0 := 0) (ci := 1) rfl rfl rfl hl.1 rfl (Nat.le_of_ble_eq_true rfl) d_F_copy_13 ⟨Nat.zero_le _, Nat.zero_le _⟩) hP hD hS hA [0] rfl (by decide) (fun _ => rfl) (fun u_1 H locs hp hP hD hS => ?_)
  have hP : va_P D classes [(f, .inr (1, [.long (jl (a)), .long (jl (b)), .long (jl (c))])), (h, .inr (1, [.long (jl (a)), .long (jl (b)), .long (jl (c))]))] H := hP
  have hD : va_D A [(f, .inr (1, [.long (jl (a)), .long (jl (b)), .long (jl (c))])), (h, .inr (1, [.long (jl (a)), .long (jl (b)), .long (jl (c))]))] := hD
  exact rt_v X hAe hS () trivial hP d_F_copy_16

set_option maxHeartbeats 4000000 in
set_option maxRecDepth 100000 in
theorem c_F_matches (l : Launch) (D : va_G) (cI cJ cF : ClassId) {f h : Nat} {a b c x y z : Int} (h1 : jL a) (h2 : jL b) (h3 : jL c) (h4 : jL x) (h5 : jL y) (h6 : jL z) : ∀ sz, Met l y_F_matches (Cond.code y_F_matches b_F_matches 2 (some .boolean) :: wb) { frames := 0, cells := 0, slots := 0, locals := 0 } (va_Pc [.ref f, .ref h] (cpre D cI cJ cF [(f, .inr (1, [.long (jl (a)), .long (jl (b)), .long (jl (c))])), (h, .inr (1, [.long (jl (x)), .long (jl (y)), .long (jl (z))]))] sz)) (va_Qi (fun r (u : Unit) => ∃ t : Int, r = ji t ∧ ((t = 1 ∧ (a = x ∧ b = y ∧ c = z)) ∨ (t = 0 ∧ ¬ (a = x ∧ b = y ∧ c = z)))) (fun (u : Unit) t => va_P D classes [(f, .inr (1, [.long (jl (a)), .long (jl (b)), .long (jl (c))])), (h, .inr (1, [.long (jl (x)), .long (jl (y)), .long (jl (z))]))] t.heap) (va_A [(f, .inr (1, [.long (jl (a)), .long (jl (b)), .long (jl (c))])), (h, .inr (1, [.long (jl (x)), .long (jl (y)), .long (jl (z))]))] sz)) 0 0 (va_A [(f, .inr (1, [.long (jl (a)), .long (jl (b)), .long (jl (c))])), (h, .inr (1, [.long (jl (x)), .long (jl (y)), .long (jl (z))]))] sz) := by
  refine c_of (Qc := fun sz => va_Qi (fun r (u : Unit) => ∃ t : Int, r = ji t ∧ ((t = 1 ∧ (a = x ∧ b = y ∧ c = z)) ∨ (t = 0 ∧ ¬ (a = x ∧ b = y ∧ c = z)))) (fun (u : Unit) t => va_P D classes [(f, .inr (1, [.long (jl (a)), .long (jl (b)), .long (jl (c))])), (h, .inr (1, [.long (jl (x)), .long (jl (y)), .long (jl (z))]))] t.heap) (va_A [(f, .inr (1, [.long (jl (a)), .long (jl (b)), .long (jl (c))])), (h, .inr (1, [.long (jl (x)), .long (jl (y)), .long (jl (z))]))] sz)) (by decide +kernel) co_F_matches (Nat.le_of_ble_eq_true rfl) ?_
  intro pq eq s mq below meth cq A X hK hP hD hS hA hAe ls hl
  obtain ⟨hx, hb, hml, hown, hr, hlocks, hts⟩ := id X
  have hl : lv_has ls 2 [(0, .ref f), (1, .ref h)] := hl
  refine lv_aload_n hx hb d_F_matches_0 rfl (lv_at hl 0 rfl) ?_
  refine va_get (D := D) (ci := 1) (v := .long (jl (a))) (C := R_F) (T := T_F) (N := 3) hx hb hts uw_F hown hK.1 hP 0 rfl rfl 0 (by decide) (hts _ fl_F_7) (fun _ h9 => h9) rfl d_F_matches_1 ?_
  refine lv_aload_n hx hb d_F_matches_4 rfl (lv_at hl 1 rfl) ?_
  refine va_get (D := D) (ci := 1) (v := .long (jl (x))) (C := R_F) (T := T_F) (N := 3) hx hb hts uw_F hown hK.1 hP 1 rfl rfl 0 (by decide) (hts _ fl_F_7) (fun _ h9 => h9) rfl d_F_matches_5 ?_
  refine wl_cne hx hb h1 h4 d_F_matches_8 d_F_matches_9 (tgt := 40) (by decide) (fun h_1 => ?_) (fun h_1 => ?_)
  · refine w_iconst hx hb d_F_matches_40 ?_
    exact rt_z X hAe hS () rfl ⟨0, rfl, Or.inr ⟨rfl, fun h => by have z1 := h.1; have z2 := h.2.1; have z3 := h.2.2; omega⟩⟩ hP d_F_matches_41
  · refine lv_aload_n hx hb d_F_matches_12 rfl (lv_at hl 0 rfl) ?_
    refine va_get (D := D) (ci := 1) (v := .long (jl (b))) (C := R_F) (T := T_F) (N := 3) hx hb hts uw_F hown hK.1 hP 0 rfl rfl 1 (by decide) (hts _ fl_F_13) (fun _ h9 => h9) rfl d_F_matches_13 ?_
    refine lv_aload_n hx hb d_F_matches_16 rfl (lv_at hl 1 rfl) ?_
    refine va_get (D := D) (ci := 1) (v := .long (jl (y))) (C := R_F) (T := T_F) (N := 3) hx hb hts uw_F hown hK.1 hP 1 rfl rfl 1 (by decide) (hts _ fl_F_13) (fun _ h9 => h9) rfl d_F_matches_17 ?_
    refine wl_cne hx hb h2 h5 d_F_matches_20 d_F_matches_21 (tgt := 40) (by decide) (fun h_2 => ?_) (fun h_2 => ?_)
    · refine w_iconst hx hb d_F_matches_40 ?_
      exact rt_z X hAe hS () rfl ⟨0, rfl, Or.inr ⟨rfl, fun h => by have z1 := h.1; have z2 := h.2.1; have z3 := h.2.2; omega⟩⟩ hP d_F_matches_41
    · refine lv_aload_n hx hb d_F_matches_24 rfl (lv_at hl 0 rfl) ?_
      refine va_get (D := D) (ci := 1) (v := .long (jl (c))) (C := R_F) (T := T_F) (N := 3) hx hb hts uw_F hown hK.1 hP 0 rfl rfl 2 (by decide) (hts _ fl_F_16) (fun _ h9 => h9) rfl d_F_matches_25 ?_
      refine lv_aload_n hx hb d_F_matches_28 rfl (lv_at hl 1 rfl) ?_
      refine va_get (D := D) (ci := 1) (v := .long (jl (z))) (C := R_F) (T := T_F) (N := 3) hx hb hts uw_F hown hK.1 hP 1 rfl rfl 2 (by decide) (hts _ fl_F_16) (fun _ h9 => h9) rfl d_F_matches_29 ?_
      refine wl_cne hx hb h3 h6 d_F_matches_32 d_F_matches_33 (tgt := 40) (by decide) (fun h_3 => ?_) (fun h_3 => ?_)
      · refine w_iconst hx hb d_F_matches_40 ?_
        exact rt_z X hAe hS () rfl ⟨0, rfl, Or.inr ⟨rfl, fun h => by have z1 := h.1; have z2 := h.2.1; have z3 := h.2.2; omega⟩⟩ hP d_F_matches_41
      · refine w_iconst hx hb d_F_matches_36 ?_
        refine lv_goto (tgt := 41) hx hb d_F_matches_37 (by decide) ?_
        exact rt_z X hAe hS () rfl ⟨1, rfl, Or.inl ⟨rfl, by omega, by omega, by omega⟩⟩ hP d_F_matches_41

set_option maxHeartbeats 4000000 in
set_option maxRecDepth 100000 in
theorem c_F_matches1 (l : Launch) (D : va_G) (cI cJ cF : ClassId) {f : Nat} {a b c : Int} (h1 : jL a) (h2 : jL b) (h3 : jL c) : ∀ sz, Met l y_F_matches (Cond.code y_F_matches b_F_matches 2 (some .boolean) :: wb) { frames := 0, cells := 0, slots := 0, locals := 0 } (va_Pc [.ref f, .ref f] (cpre D cI cJ cF [(f, .inr (1, [.long (jl (a)), .long (jl (b)), .long (jl (c))]))] sz)) (va_Qi (fun r (u : Unit) => ∃ t : Int, r = ji t ∧ t = 1) (fun (u : Unit) t => va_P D classes [(f, .inr (1, [.long (jl (a)), .long (jl (b)), .long (jl (c))]))] t.heap) (va_A [(f, .inr (1, [.long (jl (a)), .long (jl (b)), .long (jl (c))]))] sz)) 0 0 (va_A [(f, .inr (1, [.long (jl (a)), .long (jl (b)), .long (jl (c))]))] sz) := by
  refine c_of (Qc := fun sz => va_Qi (fun r (u : Unit) => ∃ t : Int, r = ji t ∧ t = 1) (fun (u : Unit) t => va_P D classes [(f, .inr (1, [.long (jl (a)), .long (jl (b)), .long (jl (c))]))] t.heap) (va_A [(f, .inr (1, [.long (jl (a)), .long (jl (b)), .long (jl (c))]))] sz)) (by decide +kernel) co_F_matches (Nat.le_of_ble_eq_true rfl) ?_
  intro pq eq s mq below meth cq A X hK hP hD hS hA hAe ls hl
  obtain ⟨hx, hb, hml, hown, hr, hlocks, hts⟩ := id X
  have hl : lv_has ls 2 [(0, .ref f), (1, .ref f)] := hl
  refine lv_aload_n hx hb d_F_matches_0 rfl (lv_at hl 0 rfl) ?_
  refine va_get (D := D) (ci := 1) (v := .long (jl (a))) (C := R_F) (T := T_F) (N := 3) hx hb hts uw_F hown hK.1 hP 0 rfl rfl 0 (by decide) (hts _ fl_F_7) (fun _ h9 => h9) rfl d_F_matches_1 ?_
  refine lv_aload_n hx hb d_F_matches_4 rfl (lv_at hl 1 rfl) ?_
  refine va_get (D := D) (ci := 1) (v := .long (jl (a))) (C := R_F) (T := T_F) (N := 3) hx hb hts uw_F hown hK.1 hP 0 rfl rfl 0 (by decide) (hts _ fl_F_7) (fun _ h9 => h9) rfl d_F_matches_5 ?_
  refine wl_cne hx hb h1 h1 d_F_matches_8 d_F_matches_9 (tgt := 40) (by decide) (fun h_1 => ?_) (fun h_1 => ?_)
  · refine w_iconst hx hb d_F_matches_40 ?_
    exact rt_z X hAe hS () rfl ⟨0, rfl, by omega⟩ hP d_F_matches_41
  · refine lv_aload_n hx hb d_F_matches_12 rfl (lv_at hl 0 rfl) ?_
    refine va_get (D := D) (ci := 1) (v := .long (jl (b))) (C := R_F) (T := T_F) (N := 3) hx hb hts uw_F hown hK.1 hP 0 rfl rfl 1 (by decide) (hts _ fl_F_13) (fun _ h9 => h9) rfl d_F_matches_13 ?_
    refine lv_aload_n hx hb d_F_matches_16 rfl (lv_at hl 1 rfl) ?_
    refine va_get (D := D) (ci := 1) (v := .long (jl (b))) (C := R_F) (T := T_F) (N := 3) hx hb hts uw_F hown hK.1 hP 0 rfl rfl 1 (by decide) (hts _ fl_F_13) (fun _ h9 => h9) rfl d_F_matches_17 ?_
    refine wl_cne hx hb h2 h2 d_F_matches_20 d_F_matches_21 (tgt := 40) (by decide) (fun h_2 => ?_) (fun h_2 => ?_)
    · refine w_iconst hx hb d_F_matches_40 ?_
      exact rt_z X hAe hS () rfl ⟨0, rfl, by omega⟩ hP d_F_matches_41
    · refine lv_aload_n hx hb d_F_matches_24 rfl (lv_at hl 0 rfl) ?_
      refine va_get (D := D) (ci := 1) (v := .long (jl (c))) (C := R_F) (T := T_F) (N := 3) hx hb hts uw_F hown hK.1 hP 0 rfl rfl 2 (by decide) (hts _ fl_F_16) (fun _ h9 => h9) rfl d_F_matches_25 ?_
      refine lv_aload_n hx hb d_F_matches_28 rfl (lv_at hl 1 rfl) ?_
      refine va_get (D := D) (ci := 1) (v := .long (jl (c))) (C := R_F) (T := T_F) (N := 3) hx hb hts uw_F hown hK.1 hP 0 rfl rfl 2 (by decide) (hts _ fl_F_16) (fun _ h9 => h9) rfl d_F_matches_29 ?_
      refine wl_cne hx hb h3 h3 d_F_matches_32 d_F_matches_33 (tgt := 40) (by decide) (fun h_3 => ?_) (fun h_3 => ?_)
      · refine w_iconst hx hb d_F_matches_40 ?_
        exact rt_z X hAe hS () rfl ⟨0, rfl, by omega⟩ hP d_F_matches_41
      · refine w_iconst hx hb d_F_matches_36 ?_
        refine lv_goto (tgt := 41) hx hb d_F_matches_37 (by decide) ?_
        exact rt_z X hAe hS () rfl ⟨1, rfl, rfl⟩ hP d_F_matches_41

set_option maxHeartbeats 4000000 in
set_option maxRecDepth 100000 in
theorem c_F_isBefore (l : Launch) (D : va_G) (cI cJ cF : ClassId) {f h : Nat} {a b c x y z : Int} (h1 : jL a) (h2 : jL b) (h4 : jL x) (h5 : jL y) : ∀ sz, Met l y_F_isBefore (Cond.code y_F_isBefore b_F_isBefore 2 (some .boolean) :: wb) { frames := 0, cells := 0, slots := 0, locals := 0 } (va_Pc [.ref f, .ref h] (cpre D cI cJ cF [(f, .inr (1, [.long (jl (a)), .long (jl (b)), .long (jl (c))])), (h, .inr (1, [.long (jl (x)), .long (jl (y)), .long (jl (z))]))] sz)) (va_Qi (fun r (u : Unit) => ∃ t : Int, r = ji t ∧ ((t = 1 ∧ (a < x ∨ (a = x ∧ b < y))) ∨ (t = 0 ∧ ¬ (a < x ∨ (a = x ∧ b < y))))) (fun (u : Unit) t => va_P D classes [(f, .inr (1, [.long (jl (a)), .long (jl (b)), .long (jl (c))])), (h, .inr (1, [.long (jl (x)), .long (jl (y)), .long (jl (z))]))] t.heap) (va_A [(f, .inr (1, [.long (jl (a)), .long (jl (b)), .long (jl (c))])), (h, .inr (1, [.long (jl (x)), .long (jl (y)), .long (jl (z))]))] sz)) 0 0 (va_A [(f, .inr (1, [.long (jl (a)), .long (jl (b)), .long (jl (c))])), (h, .inr (1, [.long (jl (x)), .long (jl (y)), .long (jl (z))]))] sz) := by
  refine c_of (Qc := fun sz => va_Qi (fun r (u : Unit) => ∃ t : Int, r = ji t ∧ ((t = 1 ∧ (a < x ∨ (a = x ∧ b < y))) ∨ (t = 0 ∧ ¬ (a < x ∨ (a = x ∧ b < y))))) (fun (u : Unit) t => va_P D classes [(f, .inr (1, [.long (jl (a)), .long (jl (b)), .long (jl (c))])), (h, .inr (1, [.long (jl (x)), .long (jl (y)), .long (jl (z))]))] t.heap) (va_A [(f, .inr (1, [.long (jl (a)), .long (jl (b)), .long (jl (c))])), (h, .inr (1, [.long (jl (x)), .long (jl (y)), .long (jl (z))]))] sz)) (by decide +kernel) co_F_isBefore (Nat.le_of_ble_eq_true rfl) ?_
  intro pq eq s mq below meth cq A X hK hP hD hS hA hAe ls hl
  obtain ⟨hx, hb, hml, hown, hr, hlocks, hts⟩ := id X
  have hl : lv_has ls 2 [(0, .ref f), (1, .ref h)] := hl
  refine lv_aload_n hx hb d_F_isBefore_0 rfl (lv_at hl 0 rfl) ?_
  refine va_get (D := D) (ci := 1) (v := .long (jl (a))) (C := R_F) (T := T_F) (N := 3) hx hb hts uw_F hown hK.1 hP 0 rfl rfl 0 (by decide) (hts _ fl_F_7) (fun _ h9 => h9) rfl d_F_isBefore_1 ?_
  refine lv_aload_n hx hb d_F_isBefore_4 rfl (lv_at hl 1 rfl) ?_
  refine va_get (D := D) (ci := 1) (v := .long (jl (x))) (C := R_F) (T := T_F) (N := 3) hx hb hts uw_F hown hK.1 hP 1 rfl rfl 0 (by decide) (hts _ fl_F_7) (fun _ h9 => h9) rfl d_F_isBefore_5 ?_
  refine wl_clt hx hb h1 h4 d_F_isBefore_8 d_F_isBefore_9 (tgt := 36) (by decide) (fun h_1 => ?_) (fun h_1 => ?_)
  · refine w_iconst hx hb d_F_isBefore_36 ?_
    refine lv_goto (tgt := 41) hx hb d_F_isBefore_37 (by decide) ?_
    exact rt_z X hAe hS () rfl ⟨1, rfl, Or.inl ⟨rfl, by omega⟩⟩ hP d_F_isBefore_41
  · refine lv_aload_n hx hb d_F_isBefore_12 rfl (lv_at hl 0 rfl) ?_
    refine va_get (D := D) (ci := 1) (v := .long (jl (a))) (C := R_F) (T := T_F) (N := 3) hx hb hts uw_F hown hK.1 hP 0 rfl rfl 0 (by decide) (hts _ fl_F_7) (fun _ h9 => h9) rfl d_F_isBefore_13 ?_
    refine lv_aload_n hx hb d_F_isBefore_16 rfl (lv_at hl 1 rfl) ?_
    refine va_get (D := D) (ci := 1) (v := .long (jl (x))) (C := R_F) (T := T_F) (N := 3) hx hb hts uw_F hown hK.1 hP 1 rfl rfl 0 (by decide) (hts _ fl_F_7) (fun _ h9 => h9) rfl d_F_isBefore_17 ?_
    refine wl_cne hx hb h1 h4 d_F_isBefore_20 d_F_isBefore_21 (tgt := 40) (by decide) (fun h_2 => ?_) (fun h_2 => ?_)
    · refine w_iconst hx hb d_F_isBefore_40 ?_
      exact rt_z X hAe hS () rfl ⟨0, rfl, Or.inr ⟨rfl, by omega⟩⟩ hP d_F_isBefore_41
    · refine lv_aload_n hx hb d_F_isBefore_24 rfl (lv_at hl 0 rfl) ?_
      refine va_get (D := D) (ci := 1) (v := .long (jl (b))) (C := R_F) (T := T_F) (N := 3) hx hb hts uw_F hown hK.1 hP 0 rfl rfl 1 (by decide) (hts _ fl_F_13) (fun _ h9 => h9) rfl d_F_isBefore_25 ?_
      refine lv_aload_n hx hb d_F_isBefore_28 rfl (lv_at hl 1 rfl) ?_
      refine va_get (D := D) (ci := 1) (v := .long (jl (y))) (C := R_F) (T := T_F) (N := 3) hx hb hts uw_F hown hK.1 hP 1 rfl rfl 1 (by decide) (hts _ fl_F_13) (fun _ h9 => h9) rfl d_F_isBefore_29 ?_
      refine wl_cge hx hb h2 h5 d_F_isBefore_32 d_F_isBefore_33 (tgt := 40) (by decide) (fun h_3 => ?_) (fun h_3 => ?_)
      · refine w_iconst hx hb d_F_isBefore_40 ?_
        exact rt_z X hAe hS () rfl ⟨0, rfl, Or.inr ⟨rfl, by omega⟩⟩ hP d_F_isBefore_41
      · refine w_iconst hx hb d_F_isBefore_36 ?_
        refine lv_goto (tgt := 41) hx hb d_F_isBefore_37 (by decide) ?_
        exact rt_z X hAe hS () rfl ⟨1, rfl, Or.inl ⟨rfl, by omega⟩⟩ hP d_F_isBefore_41

set_option maxHeartbeats 4000000 in
set_option maxRecDepth 100000 in
theorem c_G_becomeFrom (l : Launch) (D : va_G) (cI cJ cF : ClassId) {g o wk st bs eu : Nat} {Dd w : Int} {f : Nat} {a0 b0 c0 a b q : Int} (hD0 : jI Dd) (h1 : jL (b * b - Dd)) (h2 : jL (4 * a)) (h3 : a ≠ 0) (hq : (b * b - Dd).tdiv (4 * a) = q) : ∀ sz, Met l y_G_becomeFrom (Cond.code y_G_becomeFrom b_G_becomeFrom 6 none :: wb) { frames := 1, cells := 0, slots := 0, locals := 26 } (va_Pc [.ref g, .ref f, .long (jl (a)), .long (jl (b))] (cpre D cI cJ cF [(g, .inr (2, [.ref o, .ref wk, .ref st, .ref bs, .ref eu, .int (ji (Dd)), .int (ji (w))])), (f, .inr (1, [.long (jl (a0)), .long (jl (b0)), .long (jl (c0))]))] sz)) (va_Qv (fun (u : Unit) => True) (fun (u : Unit) t => va_P D classes [(g, .inr (2, [.ref o, .ref wk, .ref st, .ref bs, .ref eu, .int (ji (Dd)), .int (ji (w))])), (f, .inr (1, [.long (jl (a)), .long (jl (b)), .long (jl (q))]))] t.heap) (va_A [(g, .inr (2, [.ref o, .ref wk, .ref st, .ref bs, .ref eu, .int (ji (Dd)), .int (ji (w))])), (f, .inr (1, [.long (jl (a0)), .long (jl (b0)), .long (jl (c0))]))] sz)) 0 0 (va_A [(g, .inr (2, [.ref o, .ref wk, .ref st, .ref bs, .ref eu, .int (ji (Dd)), .int (ji (w))])), (f, .inr (1, [.long (jl (a0)), .long (jl (b0)), .long (jl (c0))]))] sz) := by
  refine c_of (Qc := fun sz => va_Qv (fun (u : Unit) => True) (fun (u : Unit) t => va_P D classes [(g, .inr (2, [.ref o, .ref wk, .ref st, .ref bs, .ref eu, .int (ji (Dd)), .int (ji (w))])), (f, .inr (1, [.long (jl (a)), .long (jl (b)), .long (jl (q))]))] t.heap) (va_A [(g, .inr (2, [.ref o, .ref wk, .ref st, .ref bs, .ref eu, .int (ji (Dd)), .int (ji (w))])), (f, .inr (1, [.long (jl (a0)), .long (jl (b0)), .long (jl (c0))]))] sz)) (by decide +kernel) co_G_becomeFrom (Nat.le_of_ble_eq_true rfl) ?_
  intro pq eq s mq below meth cq A X hK hP hD hS hA hAe ls hl
  obtain ⟨hx, hb, hml, hown, hr, hlocks, hts⟩ := id X
  have hl : lv_has ls 6 [(0, .ref g), (1, .ref f), (2, .long (jl (a))), (4, .long (jl (b)))] := hl
  subst hq
  refine lv_aload_n hx hb d_G_becomeFrom_0 rfl (lv_at hl 1 rfl) ?_
  refine lv_lload_n hx hb d_G_becomeFrom_1 rfl (lv_at hl 2 rfl) ?_
  refine lv_lload hx hb d_G_becomeFrom_2 (lv_at hl 3 rfl) ?_
  refine lv_lload hx hb d_G_becomeFrom_4 (lv_at hl 3 rfl) ?_
  refine lv_lload hx hb d_G_becomeFrom_6 (lv_at hl 3 rfl) ?_
  refine wl_mul hx hb d_G_becomeFrom_8 ?_
  refine lv_aload_n hx hb d_G_becomeFrom_9 rfl (lv_at hl 0 rfl) ?_
  refine va_get (D := D) (ci := 2) (v := .int (ji (Dd))) (C := R_G) (T := T_G) (N := 7) hx hb hts uw_G hown hK.1 hP 0 rfl rfl 5 (by decide) (hts _ fl_G_34) (fun _ h9 => h9) rfl d_G_becomeFrom_10 ?_
  refine w_i2l hx hb hD0 d_G_becomeFrom_13 ?_
  refine wl_sub hx hb d_G_becomeFrom_14 ?_
  refine w_ldc2 (v := 4) (n := 4) hx hb (by decide) hown (hts _ kc_G_61) d_G_becomeFrom_15 ?_
  refine lv_lload_n hx hb d_G_becomeFrom_18 rfl (lv_at hl 2 rfl) ?_
  refine wl_mul hx hb d_G_becomeFrom_19 ?_
  refine cl_l (rn_SN (wc := []) (As := [.long (jl (((b) * (b)) - (Dd))), .long (jl ((4) * (a)))]) (rest := [.long (jl (b)), .long (jl (a)), .ref f]) X hK (c_X_quotient l D cI cJ cF h1 h2 _) co_X_quotient in_X nm_G_75 st_X_quotient 2 rfl (by decide +kernel) ⟨Nat.le_of_ble_eq_true rfl, Nat.le_of_ble_eq_true rfl⟩ hP hD [] rfl (by decide) hl.1 rfl (Nat.le_of_ble_eq_true rfl) d_G_becomeFrom_20 ⟨Nat.zero_le _, Nat.zero_le _⟩) hP hD hS hA [] rfl (by decide) (fun _ => rfl) (fun r_1 u_2 H locs hp hP hD hS => ?_)
  have hp : r_1 = jl ((b * b - Dd).tdiv (4 * a)) := by rw [show r_1 = _ from hp]; rw [if_neg (by omega)]
  have hP : va_P D classes [(g, .inr (2, [.ref o, .ref wk, .ref st, .ref bs, .ref eu, .int (ji (Dd)), .int (ji (w))])), (f, .inr (1, [.long (jl (a0)), .long (jl (b0)), .long (jl (c0))]))] H := hP
  have hD : va_D A [(g, .inr (2, [.ref o, .ref wk, .ref st, .ref bs, .ref eu, .int (ji (Dd)), .int (ji (w))])), (f, .inr (1, [.long (jl (a0)), .long (jl (b0)), .long (jl (c0))]))] := hD
  obtain rfl : r_1 = jl ((b * b - Dd).tdiv (4 * a)) := hp
  refine cl_v (rn_VN (wc := [(f, .inr (1, [.long (jl (a0)), .long (jl (b0)), .long (jl (c0))]))]) (As := [.long (jl (a)), .long (jl (b)), .long (jl ((b * b - Dd).tdiv (4 * a)))]) (rest := []) X hK (c_F_become l D cI cJ cF  _) co_F_become in_F nm_G_79 im_F_become se_F_become 3 rfl (by decide +kernel) ⟨Nat.le_of_ble_eq_true rfl, Nat.le_of_ble_eq_true rfl⟩ hP hD [1] rfl (by decide) (q0 := 0) (ci := 1) rfl rfl rfl hl.1 rfl (Nat.le_of_ble_eq_true rfl) d_G_becomeFrom_23 ⟨Nat.zero_le _, Nat.zero_le _⟩) hP hD hS hA [1] rfl (by decide) (fun _ => rfl) (fun u_3 H locs hp hP hD hS => ?_)
  have hP : va_P D classes [(g, .inr (2, [.ref o, .ref wk, .ref st, .ref bs, .ref eu, .int (ji (Dd)), .int (ji (w))])), (f, .inr (1, [.long (jl (a)), .long (jl (b)), .long (jl ((b * b - Dd).tdiv (4 * a)))]))] H := hP
  have hD : va_D A [(g, .inr (2, [.ref o, .ref wk, .ref st, .ref bs, .ref eu, .int (ji (Dd)), .int (ji (w))])), (f, .inr (1, [.long (jl (a)), .long (jl (b)), .long (jl ((b * b - Dd).tdiv (4 * a)))]))] := hD
  exact rt_v X hAe hS () trivial hP d_G_becomeFrom_26

set_option maxHeartbeats 4000000 in
set_option maxRecDepth 100000 in
theorem c_G_isCoefficient (l : Launch) (D : va_G) (cI cJ cF : ClassId) {x : Int} (hx0 : jL x) : ∀ sz, Met l y_G_isCoefficient (Cond.code y_G_isCoefficient b_G_isCoefficient 2 (some .boolean) :: wb) { frames := 0, cells := 0, slots := 0, locals := 0 } (va_Pc [.long (jl (x))] (cpre D cI cJ cF [] sz)) (va_Qi (fun r (u : Unit) => ∃ t : Int, r = ji t ∧ ((t = 1 ∧ (-1073741824 ≤ x ∧ x ≤ 1073741824)) ∨ (t = 0 ∧ ¬ (-1073741824 ≤ x ∧ x ≤ 1073741824)))) (fun (u : Unit) t => va_P D classes [] t.heap) (va_A [] sz)) 0 0 (va_A [] sz) := by
  refine c_of (Qc := fun sz => va_Qi (fun r (u : Unit) => ∃ t : Int, r = ji t ∧ ((t = 1 ∧ (-1073741824 ≤ x ∧ x ≤ 1073741824)) ∨ (t = 0 ∧ ¬ (-1073741824 ≤ x ∧ x ≤ 1073741824)))) (fun (u : Unit) t => va_P D classes [] t.heap) (va_A [] sz)) (by decide +kernel) co_G_isCoefficient (Nat.le_of_ble_eq_true rfl) ?_
  intro pq eq s mq below meth cq A X hK hP hD hS hA hAe ls hl
  obtain ⟨hx, hb, hml, hown, hr, hlocks, hts⟩ := id X
  have hl : lv_has ls 2 [(0, .long (jl (x)))] := hl
  refine lv_lload_n hx hb d_G_isCoefficient_0 rfl (lv_at hl 0 rfl) ?_
  refine w_ldc2 (v := -1073741824) (n := -1073741824) hx hb (by decide) hown (hts _ kc_G_71) d_G_isCoefficient_1 ?_
  refine wl_clt hx hb hx0 ⟨by decide, by decide⟩ d_G_isCoefficient_4 d_G_isCoefficient_5 (tgt := 20) (by decide) (fun h_1 => ?_) (fun h_1 => ?_)
  · refine w_iconst hx hb d_G_isCoefficient_20 ?_
    exact rt_z X hAe hS () rfl ⟨0, rfl, Or.inr ⟨rfl, by omega⟩⟩ hP d_G_isCoefficient_21
  · refine lv_lload_n hx hb d_G_isCoefficient_8 rfl (lv_at hl 0 rfl) ?_
    refine w_ldc2 (v := 1073741824) (n := 1073741824) hx hb (by decide) hown (hts _ kc_G_73) d_G_isCoefficient_9 ?_
    refine wl_cgt hx hb hx0 ⟨by decide, by decide⟩ d_G_isCoefficient_12 d_G_isCoefficient_13 (tgt := 20) (by decide) (fun h_2 => ?_) (fun h_2 => ?_)
    · refine w_iconst hx hb d_G_isCoefficient_20 ?_
      exact rt_z X hAe hS () rfl ⟨0, rfl, Or.inr ⟨rfl, by omega⟩⟩ hP d_G_isCoefficient_21
    · refine w_iconst hx hb d_G_isCoefficient_16 ?_
      refine lv_goto (tgt := 21) hx hb d_G_isCoefficient_17 (by decide) ?_
      exact rt_z X hAe hS () rfl ⟨1, rfl, Or.inl ⟨rfl, by omega, by omega⟩⟩ hP d_G_isCoefficient_21
end
section
/-! What the class's reductions need of numbers. -/
def gD (D w : Int) : Prop := fm_ok D w ∧ -1048576 ≤ D ∧ D ≤ 1048576 ∧ w ≤ 1023
theorem gD.w {D w : Int} (h : gD D w) : -1 ≤ w := by
  rcases h.1 with k | k <;> omega
theorem gD.jD {D w : Int} (h : gD D w) : jI D := ⟨by have := h.2.1; omega, by have := h.2.2.1; omega⟩
theorem gD.jw {D w : Int} (h : gD D w) : jI w := ⟨by have := h.w; omega, by have := h.2.2.2; omega⟩
/-- not above 2 to the 30th in size -/
def b30 (x : Int) : Prop := -1073741824 ≤ x ∧ x ≤ 1073741824
theorem b30.j {x : Int} (h : b30 x) : jL x := ⟨by have := h.1; omega, by have := h.2; omega⟩
theorem b30.ab {x : Int} (h : b30 x) : 0 ≤ fm_ab x ∧ fm_ab x ≤ 1073741824 := by
  have h1 := h.1
  have h2 := h.2
  rcases fm_ab_cases x with k | k <;> omega
theorem sq_bd {B e : Int} (h1 : -B ≤ e) (h2 : e ≤ B) : 0 ≤ e * e ∧ e * e ≤ B * B := by
  have h3 : 0 ≤ fm_ab e := by rcases fm_ab_cases e with k | k <;> omega
  have h4 : fm_ab e ≤ B := by rcases fm_ab_cases e with k | k <;> omega
  have h5 := fm_sq_le (Int.le_refl 0) h3
  have h6 := fm_sq_le h3 h4
  rw [fm_ab_sq] at h5 h6
  exact ⟨by omega, h6⟩
theorem st_rho {D w a b c : Int} (hc : c ≠ 0) (hd : fm_disc D (a, b, c)) : fm_rho D w (a, b, c) = (c, fm_top w c - (fm_top w c + b) % (2 * fm_ab c), ((fm_top w c - (fm_top w c + b) % (2 * fm_ab c)) * (fm_top w c - (fm_top w c + b) % (2 * fm_ab c)) - D).tdiv (4 * c)) := by
  obtain ⟨-, -, k, hk⟩ := fm_e_spec w b hc
  have hk' : fm_top w c - (fm_top w c + b) % (2 * fm_ab c) = -b + 2 * c * k := hk
  unfold fm_rho
  dsimp only
  rw [Int.tdiv_eq_ediv_of_dvd]
  · rfl
  · rw [hk']
    unfold fm_disc at hd
    dsimp only at hd
    refine ⟨a - b * k + c * (k * k), ?_⟩
    grind
theorem nu_eq {D a b c : Int} (ha : 0 < a) (hd : fm_disc D (a, b, c)) : fm_nu D (a, b, c) = (a, a - (a - b) % (2 * a), ((a - (a - b) % (2 * a)) * (a - (a - b) % (2 * a)) - D).tdiv (4 * a)) := by
  obtain ⟨k, hk, -, -⟩ := fm_nu_ex ha hd
  have h2 : a - (a - b) % (2 * a) = b + 2 * a * k := congrArg (fun q => q.2.1) hk
  rw [Int.tdiv_eq_ediv_of_dvd]
  · rfl
  · rw [h2]
    unfold fm_disc at hd
    dsimp only at hd
    refine ⟨a * (k * k) + b * k + c, ?_⟩
    grind
theorem rho_bd {D w a b c : Int} (hg : gD D w) (hD : ¬ D < 0) (hd : fm_disc D (a, b, c)) (hc : b30 c) : b30 (fm_rho D w (a, b, c)).1 ∧ b30 (fm_rho D w (a, b, c)).2.1 ∧ b30 (fm_rho D w (a, b, c)).2.2 := by
  obtain ⟨ho, g1, g2, g3⟩ := hg
  obtain ⟨ha0, hc0⟩ := fm_ne ho hd
  have hC := fm_ab_pos hc0
  have hC2 := hc.ab
  obtain ⟨w0, w1, w2⟩ := fm_ok_pos ho hD
  have hdr := fm_rho_disc ho hd
  have hsh := fm_shrink (a := a) (b := b) (c := c) ho hD hd
  obtain ⟨k, hk, k1, k2⟩ := fm_rho_ex (w := w) hc0 hd
  rw [hk] at hdr hsh ⊢
  dsimp only at hsh ⊢
  generalize -b + 2 * c * k = e at k1 k2 hdr hsh ⊢
  generalize a - b * k + c * (k * k) = f at hdr hsh ⊢
  refine ⟨hc, ?_, ?_⟩
  · rcases fm_top_cases w c with q | q
    · exact ⟨by omega, by omega⟩
    · exact ⟨by omega, by omega⟩
  · by_cases q : w < fm_ab c
    · have := hsh q
      rcases fm_ab_cases f with z | z <;> exact ⟨by omega, by omega⟩
    · have htop : fm_top w c = w := by rcases fm_top_cases w c with z | z <;> omega
      rw [htop] at k1 k2
      have he := fm_opp ho hdr (by rcases fm_ab_cases e with z | z <;> omega)
      have h4 := he.2
      have h5 := sq_bd (B := 1073741824) (e := e) (by omega) (by omega)
      have h6 := Int.mul_le_mul_of_nonneg_right (show 1 ≤ fm_ab c by omega) (show 0 ≤ fm_ab f by rcases fm_ab_cases f with z | z <;> omega)
      rw [Int.one_mul] at h6
      rcases fm_ab_cases f with z | z <;> exact ⟨by omega, by omega⟩
theorem it_mod {D w : Int} {g : fm_F} {n : Nat} (hn : 0 < n) (he : fm_it D w n g = g) (j : Nat) : fm_it D w j g = fm_it D w (j % n) g := by
  have h1 : j = n * (j / n) + j % n := (Nat.div_add_mod j n).symm
  have h2 : fm_it D w (n * (j / n) + j % n) g = fm_it D w (j % n) g := by rw [fm_it_add, fm_it_mul he]
  rw [← h1] at h2
  exact h2
theorem le_rf (z : fm_F) : fm_le z z := Or.inr ⟨rfl, Int.le_refl _⟩
theorem le_tr {x y z : fm_F} (h1 : fm_le x y) (h2 : fm_le y z) : fm_le x z := by
  unfold fm_le at *
  omega
/-- how many reduced forms the class of a reduced form has -/
def fm_ct (D w : Int) (f : fm_F) (n : Int) : Prop := (D < 0 → n = 1) ∧ (¬ D < 0 → 0 < n ∧ fm_it D w n.toNat f = f ∧ ∀ j : Nat, 0 < j → (j : Int) < n → fm_it D w j f ≠ f)
theorem fm_ct.uniq {D w : Int} {f : fm_F} {n n' : Int} (h : fm_ct D w f n) (h' : fm_ct D w f n') : n = n' := by
  by_cases hD : D < 0
  · rw [h.1 hD, h'.1 hD]
  · obtain ⟨a1, a2, a3⟩ := h.2 hD
    obtain ⟨b1, b2, b3⟩ := h'.2 hD
    rcases Int.lt_trichotomy n n' with k | k | k
    · exact absurd a2 (b3 n.toNat (by omega) (by omega))
    · exact k
    · exact absurd b2 (a3 n'.toNat (by omega) (by omega))
theorem red_b30 {D w : Int} {f : fm_F} (hg : gD D w) (hd : fm_disc D f) (hr : fm_red D w f) : b30 f.1 ∧ b30 f.2.1 ∧ b30 f.2.2 := by
  obtain ⟨a, b, c⟩ := f
  obtain ⟨ho, g1, g2, g3⟩ := hg
  obtain ⟨ha0, hc0⟩ := fm_ne ho hd
  by_cases hD : D < 0
  · obtain ⟨h1, h2, h3⟩ := fm_neg_a hD g1 hd hr
    rw [fm_red_lt hD] at hr
    have hb := sq_bd (B := 591) (e := b) (by rcases fm_ab_cases b with z | z <;> omega) (by rcases fm_ab_cases b with z | z <;> omega)
    unfold fm_disc at hd
    dsimp only at hd
    have h6 := Int.mul_le_mul_of_nonneg_right (show 1 ≤ a by omega) (show 0 ≤ c by omega)
    rw [Int.one_mul] at h6
    refine ⟨⟨?_, ?_⟩, ⟨?_, ?_⟩, ⟨?_, ?_⟩⟩ <;> dsimp only <;> rcases fm_ab_cases b with z | z <;> omega
  · obtain ⟨c1, c2⟩ := fm_red_c ho hD hd hr
    rw [fm_red_ge hD] at hr
    refine ⟨⟨?_, ?_⟩, ⟨?_, ?_⟩, ⟨?_, ?_⟩⟩ <;> dsimp only <;> rcases fm_ab_cases a with z | z <;> rcases fm_ab_cases c with y | y <;> omega
end
section
set_option maxHeartbeats 4000000 in
set_option maxRecDepth 100000 in
theorem c_G_isReducedAbove (l : Launch) (D : va_G) (cI cJ cF : ClassId) {g o wk st bs eu : Nat} {Dd w : Int} {f : Nat} {a b c : Int} (hg : gD Dd w) (ha : b30 a) (hb0 : b30 b) : ∀ sz, Met l y_G_isReducedAbove (Cond.code y_G_isReducedAbove b_G_isReducedAbove 4 (some .boolean) :: wb) { frames := 1, cells := 0, slots := 0, locals := 20 } (va_Pc [.ref g, .ref f] (cpre D cI cJ cF [(g, .inr (2, [.ref o, .ref wk, .ref st, .ref bs, .ref eu, .int (ji (Dd)), .int (ji (w))])), (f, .inr (1, [.long (jl (a)), .long (jl (b)), .long (jl (c))]))] sz)) (va_Qi (fun r (u : Unit) => ∃ t : Int, r = ji t ∧ ((t = 1 ∧ (0 < b ∧ b ≤ w ∧ w < 2 * fm_ab a + b ∧ 2 * fm_ab a - b ≤ w)) ∨ (t = 0 ∧ ¬ (0 < b ∧ b ≤ w ∧ w < 2 * fm_ab a + b ∧ 2 * fm_ab a - b ≤ w)))) (fun (u : Unit) t => va_P D classes [(g, .inr (2, [.ref o, .ref wk, .ref st, .ref bs, .ref eu, .int (ji (Dd)), .int (ji (w))])), (f, .inr (1, [.long (jl (a)), .long (jl (b)), .long (jl (c))]))] t.heap) (va_A [(g, .inr (2, [.ref o, .ref wk, .ref st, .ref bs, .ref eu, .int (ji (Dd)), .int (ji (w))])), (f, .inr (1, [.long (jl (a)), .long (jl (b)), .long (jl (c))]))] sz)) 0 0 (va_A [(g, .inr (2, [.ref o, .ref wk, .ref st, .ref bs, .ref eu, .int (ji (Dd)), .int (ji (w))])), (f, .inr (1, [.long (jl (a)), .long (jl (b)), .long (jl (c))]))] sz) := by
  refine c_of (Qc := fun sz => va_Qi (fun r (u : Unit) => ∃ t : Int, r = ji t ∧ ((t = 1 ∧ (0 < b ∧ b ≤ w ∧ w < 2 * fm_ab a + b ∧ 2 * fm_ab a - b ≤ w)) ∨ (t = 0 ∧ ¬ (0 < b ∧ b ≤ w ∧ w < 2 * fm_ab a + b ∧ 2 * fm_ab a - b ≤ w)))) (fun (u : Unit) t => va_P D classes [(g, .inr (2, [.ref o, .ref wk, .ref st, .ref bs, .ref eu, .int (ji (Dd)), .int (ji (w))])), (f, .inr (1, [.long (jl (a)), .long (jl (b)), .long (jl (c))]))] t.heap) (va_A [(g, .inr (2, [.ref o, .ref wk, .ref st, .ref bs, .ref eu, .int (ji (Dd)), .int (ji (w))])), (f, .inr (1, [.long (jl (a)), .long (jl (b)), .long (jl (c))]))] sz)) (by decide +kernel) co_G_isReducedAbove (Nat.le_of_ble_eq_true rfl) ?_
  intro pq eq s mq below meth cq A X hK hP hD hS hA hAe ls hl
  obtain ⟨hx, hb, hml, hown, hr, hlocks, hts⟩ := id X
  have hl : lv_has ls 4 [(0, .ref g), (1, .ref f)] := hl
  have za := ha.ab
  have zb1 := hb0.1
  have zb2 := hb0.2
  have zw := hg.w
  have zw2 := hg.2.2.2
  refine w_ldc2 (v := 2) (n := 2) hx hb (by decide) hown (hts _ kc_G_100) d_G_isReducedAbove_0 ?_
  refine lv_aload_n hx hb d_G_isReducedAbove_3 rfl (lv_at hl 1 rfl) ?_
  refine va_getN (D := D) (ci := 1) (v := .long (jl (a))) (C := R_F) (T := T_F) (N := 3) hx hb hts uw_F hown hK.1 hP 1 rfl rfl 0 (by decide) ((hK.2 _ nf_G_94).use rfl) (fun _ h9 => h9) rfl d_G_isReducedAbove_4 ?_
  refine w_absJ X hl.1 ha.j ml_G_108 ⟨Nat.le_of_ble_eq_true rfl, Nat.le_of_ble_eq_true rfl⟩ ⟨Nat.zero_le _, Nat.zero_le _⟩ d_G_isReducedAbove_7 ?_
  refine wl_mul hx hb d_G_isReducedAbove_10 ?_
  refine lv_lstore_n (lv' := [(2, .long (jl ((2) * (fm_ab (a))))), (0, .ref g), (1, .ref f)]) hx hb d_G_isReducedAbove_11 rfl hl (by decide) rfl (fun ls hl => ?_)
  refine lv_aload_n hx hb d_G_isReducedAbove_12 rfl (lv_at hl 2 rfl) ?_
  refine va_getN (D := D) (ci := 1) (v := .long (jl (b))) (C := R_F) (T := T_F) (N := 3) hx hb hts uw_F hown hK.1 hP 1 rfl rfl 1 (by decide) ((hK.2 _ nf_G_97).use rfl) (fun _ h9 => h9) rfl d_G_isReducedAbove_13 ?_
  refine w_lconst (v := 0) hx hb rfl d_G_isReducedAbove_16 ?_
  refine wl_cle hx hb hb0.j ⟨by decide, by decide⟩ d_G_isReducedAbove_17 d_G_isReducedAbove_18 (tgt := 68) (by decide) (fun h_1 => ?_) (fun h_1 => ?_)
  · refine w_iconst hx hb d_G_isReducedAbove_68 ?_
    exact rt_z X hAe hS () rfl ⟨0, rfl, Or.inr ⟨rfl, by omega⟩⟩ hP d_G_isReducedAbove_69
  · refine lv_aload_n hx hb d_G_isReducedAbove_21 rfl (lv_at hl 2 rfl) ?_
    refine va_getN (D := D) (ci := 1) (v := .long (jl (b))) (C := R_F) (T := T_F) (N := 3) hx hb hts uw_F hown hK.1 hP 1 rfl rfl 1 (by decide) ((hK.2 _ nf_G_97).use rfl) (fun _ h9 => h9) rfl d_G_isReducedAbove_22 ?_
    refine lv_aload_n hx hb d_G_isReducedAbove_25 rfl (lv_at hl 1 rfl) ?_
    refine va_get (D := D) (ci := 2) (v := .int (ji (w))) (C := R_G) (T := T_G) (N := 7) hx hb hts uw_G hown hK.1 hP 0 rfl rfl 6 (by decide) (hts _ fl_G_42) (fun _ h9 => h9) rfl d_G_isReducedAbove_26 ?_
    refine w_i2l hx hb hg.jw d_G_isReducedAbove_29 ?_
    refine wl_cgt hx hb hb0.j ⟨by omega, by omega⟩ d_G_isReducedAbove_30 d_G_isReducedAbove_31 (tgt := 68) (by decide) (fun h_2 => ?_) (fun h_2 => ?_)
    · refine w_iconst hx hb d_G_isReducedAbove_68 ?_
      exact rt_z X hAe hS () rfl ⟨0, rfl, Or.inr ⟨rfl, by omega⟩⟩ hP d_G_isReducedAbove_69
    · refine lv_lload_n hx hb d_G_isReducedAbove_34 rfl (lv_at hl 0 rfl) ?_
      refine lv_aload_n hx hb d_G_isReducedAbove_35 rfl (lv_at hl 2 rfl) ?_
      refine va_getN (D := D) (ci := 1) (v := .long (jl (b))) (C := R_F) (T := T_F) (N := 3) hx hb hts uw_F hown hK.1 hP 1 rfl rfl 1 (by decide) ((hK.2 _ nf_G_97).use rfl) (fun _ h9 => h9) rfl d_G_isReducedAbove_36 ?_
      refine wl_add hx hb d_G_isReducedAbove_39 ?_
      refine lv_aload_n hx hb d_G_isReducedAbove_40 rfl (lv_at hl 1 rfl) ?_
      refine va_get (D := D) (ci := 2) (v := .int (ji (w))) (C := R_G) (T := T_G) (N := 7) hx hb hts uw_G hown hK.1 hP 0 rfl rfl 6 (by decide) (hts _ fl_G_42) (fun _ h9 => h9) rfl d_G_isReducedAbove_41 ?_
      refine w_i2l hx hb hg.jw d_G_isReducedAbove_44 ?_
      refine wl_cle hx hb ⟨by omega, by omega⟩ ⟨by omega, by omega⟩ d_G_isReducedAbove_45 d_G_isReducedAbove_46 (tgt := 68) (by decide) (fun h_3 => ?_) (fun h_3 => ?_)
      · refine w_iconst hx hb d_G_isReducedAbove_68 ?_
        exact rt_z X hAe hS () rfl ⟨0, rfl, Or.inr ⟨rfl, by omega⟩⟩ hP d_G_isReducedAbove_69
      · refine lv_lload_n hx hb d_G_isReducedAbove_49 rfl (lv_at hl 0 rfl) ?_
        refine lv_aload_n hx hb d_G_isReducedAbove_50 rfl (lv_at hl 2 rfl) ?_
        refine va_getN (D := D) (ci := 1) (v := .long (jl (b))) (C := R_F) (T := T_F) (N := 3) hx hb hts uw_F hown hK.1 hP 1 rfl rfl 1 (by decide) ((hK.2 _ nf_G_97).use rfl) (fun _ h9 => h9) rfl d_G_isReducedAbove_51 ?_
        refine wl_sub hx hb d_G_isReducedAbove_54 ?_
        refine lv_aload_n hx hb d_G_isReducedAbove_55 rfl (lv_at hl 1 rfl) ?_
        refine va_get (D := D) (ci := 2) (v := .int (ji (w))) (C := R_G) (T := T_G) (N := 7) hx hb hts uw_G hown hK.1 hP 0 rfl rfl 6 (by decide) (hts _ fl_G_42) (fun _ h9 => h9) rfl d_G_isReducedAbove_56 ?_
        refine w_i2l hx hb hg.jw d_G_isReducedAbove_59 ?_
        refine wl_cgt hx hb ⟨by omega, by omega⟩ ⟨by omega, by omega⟩ d_G_isReducedAbove_60 d_G_isReducedAbove_61 (tgt := 68) (by decide) (fun h_4 => ?_) (fun h_4 => ?_)
        · refine w_iconst hx hb d_G_isReducedAbove_68 ?_
          exact rt_z X hAe hS () rfl ⟨0, rfl, Or.inr ⟨rfl, by omega⟩⟩ hP d_G_isReducedAbove_69
        · refine w_iconst hx hb d_G_isReducedAbove_64 ?_
          refine lv_goto (tgt := 69) hx hb d_G_isReducedAbove_65 (by decide) ?_
          exact rt_z X hAe hS () rfl ⟨1, rfl, Or.inl ⟨rfl, by omega, by omega, by omega, by omega⟩⟩ hP d_G_isReducedAbove_69

set_option maxHeartbeats 4000000 in
set_option maxRecDepth 100000 in
theorem c_G_step (l : Launch) (D : va_G) (cI cJ cF : ClassId) {g o wk st bs eu : Nat} {Dd w : Int} {f : Nat} {a b c : Int} (hg : gD Dd w) (hd : fm_disc Dd (a, b, c)) (hb0 : b30 b) (hc : b30 c) : ∀ sz, Met l y_G_step (Cond.code y_G_step b_G_step 6 none :: wb) { frames := 2, cells := 0, slots := 0, locals := 51 } (va_Pc [.ref g, .ref f] (cpre D cI cJ cF [(g, .inr (2, [.ref o, .ref wk, .ref st, .ref bs, .ref eu, .int (ji (Dd)), .int (ji (w))])), (f, .inr (1, [.long (jl (a)), .long (jl (b)), .long (jl (c))]))] sz)) (va_Qv (fun (u : Unit) => True) (fun (u : Unit) t => va_P D classes [(g, .inr (2, [.ref o, .ref wk, .ref st, .ref bs, .ref eu, .int (ji (Dd)), .int (ji (w))])), (f, .inr (1, [.long (jl ((fm_rho Dd w (a, b, c)).1)), .long (jl ((fm_rho Dd w (a, b, c)).2.1)), .long (jl ((fm_rho Dd w (a, b, c)).2.2))]))] t.heap) (va_A [(g, .inr (2, [.ref o, .ref wk, .ref st, .ref bs, .ref eu, .int (ji (Dd)), .int (ji (w))])), (f, .inr (1, [.long (jl (a)), .long (jl (b)), .long (jl (c))]))] sz)) 0 0 (va_A [(g, .inr (2, [.ref o, .ref wk, .ref st, .ref bs, .ref eu, .int (ji (Dd)), .int (ji (w))])), (f, .inr (1, [.long (jl (a)), .long (jl (b)), .long (jl (c))]))] sz) := by
  refine c_of (Qc := fun sz => va_Qv (fun (u : Unit) => True) (fun (u : Unit) t => va_P D classes [(g, .inr (2, [.ref o, .ref wk, .ref st, .ref bs, .ref eu, .int (ji (Dd)), .int (ji (w))])), (f, .inr (1, [.long (jl ((fm_rho Dd w (a, b, c)).1)), .long (jl ((fm_rho Dd w (a, b, c)).2.1)), .long (jl ((fm_rho Dd w (a, b, c)).2.2))]))] t.heap) (va_A [(g, .inr (2, [.ref o, .ref wk, .ref st, .ref bs, .ref eu, .int (ji (Dd)), .int (ji (w))])), (f, .inr (1, [.long (jl (a)), .long (jl (b)), .long (jl (c))]))] sz)) (by decide +kernel) co_G_step (Nat.le_of_ble_eq_true rfl) ?_
  intro pq eq s mq below meth cq A X hK hP hD hS hA hAe ls hl
  obtain ⟨hx, hb, hml, hown, hr, hlocks, hts⟩ := id X
  have hl : lv_has ls 6 [(0, .ref g), (1, .ref f)] := hl
  have hc0 := (fm_ne hg.1 hd).2
  have zc0 := fm_ab_pos hc0
  have zc := hc.ab
  have zb1 := hb0.1
  have zb2 := hb0.2
  have zc1 := hc.1
  have zc2 := hc.2
  have zw := hg.w
  have zw2 := hg.2.2.2
  have zd1 := hg.2.1
  have zd2 := hg.2.2.1
  have zt : -1 ≤ fm_top w c ∧ fm_top w c ≤ 1073741824 := by rcases fm_top_cases w c with z | z <;> omega
  have r0 := Int.emod_nonneg (fm_top w c + b) (show 2 * fm_ab c ≠ 0 by omega)
  have r1 := Int.emod_lt_of_pos (fm_top w c + b) (show 0 < 2 * fm_ab c by omega)
  have zt2 : fm_top w c - 2 * fm_ab c ≥ -1073741824 := by rcases fm_top_cases w c with z | z <;> omega
  refine lv_aload_n hx hb d_G_step_0 rfl (lv_at hl 1 rfl) ?_
  refine va_getN (D := D) (ci := 1) (v := .long (jl (c))) (C := R_F) (T := T_F) (N := 3) hx hb hts uw_F hown hK.1 hP 1 rfl rfl 2 (by decide) ((hK.2 _ nf_G_105).use rfl) (fun _ h9 => h9) rfl d_G_step_1 ?_
  refine w_absJ X hl.1 hc.j ml_G_108 ⟨Nat.le_of_ble_eq_true rfl, Nat.le_of_ble_eq_true rfl⟩ ⟨Nat.zero_le _, Nat.zero_le _⟩ d_G_step_4 ?_
  refine lv_lstore_n (lv' := [(2, .long (jl (fm_ab (c)))), (0, .ref g), (1, .ref f)]) hx hb d_G_step_7 rfl hl (by decide) rfl (fun ls hl => ?_)
  refine lv_lload_n hx hb d_G_step_8 rfl (lv_at hl 0 rfl) ?_
  refine lv_aload_n hx hb d_G_step_9 rfl (lv_at hl 1 rfl) ?_
  refine va_get (D := D) (ci := 2) (v := .int (ji (w))) (C := R_G) (T := T_G) (N := 7) hx hb hts uw_G hown hK.1 hP 0 rfl rfl 6 (by decide) (hts _ fl_G_42) (fun _ h9 => h9) rfl d_G_step_10 ?_
  refine w_i2l hx hb hg.jw d_G_step_13 ?_
  refine w_maxJ X hl.1 ⟨by omega, by omega⟩ ⟨by omega, by omega⟩ ml_G_114 ⟨Nat.le_of_ble_eq_true rfl, Nat.le_of_ble_eq_true rfl⟩ ⟨Nat.zero_le _, Nat.zero_le _⟩ d_G_step_14 ?_
  refine lv_lstore (lv' := [(4, .long (jl (fm_top w c))), (2, .long (jl (fm_ab (c)))), (0, .ref g), (1, .ref f)]) hx hb d_G_step_17 hl (by decide) rfl (fun ls hl => ?_)
  refine lv_aload_n hx hb d_G_step_19 rfl (lv_at hl 2 rfl) ?_
  refine lv_aload_n hx hb d_G_step_20 rfl (lv_at hl 3 rfl) ?_
  refine lv_aload_n hx hb d_G_step_21 rfl (lv_at hl 3 rfl) ?_
  refine va_getN (D := D) (ci := 1) (v := .long (jl (c))) (C := R_F) (T := T_F) (N := 3) hx hb hts uw_F hown hK.1 hP 1 rfl rfl 2 (by decide) ((hK.2 _ nf_G_105).use rfl) (fun _ h9 => h9) rfl d_G_step_22 ?_
  refine lv_lload hx hb d_G_step_25 (lv_at hl 0 rfl) ?_
  refine lv_lload hx hb d_G_step_27 (lv_at hl 0 rfl) ?_
  refine lv_aload_n hx hb d_G_step_29 rfl (lv_at hl 3 rfl) ?_
  refine va_getN (D := D) (ci := 1) (v := .long (jl (b))) (C := R_F) (T := T_F) (N := 3) hx hb hts uw_F hown hK.1 hP 1 rfl rfl 1 (by decide) ((hK.2 _ nf_G_97).use rfl) (fun _ h9 => h9) rfl d_G_step_30 ?_
  refine wl_add hx hb d_G_step_33 ?_
  refine w_ldc2 (v := 2) (n := 2) hx hb (by decide) hown (hts _ kc_G_100) d_G_step_34 ?_
  refine lv_lload_n hx hb d_G_step_37 rfl (lv_at hl 1 rfl) ?_
  refine wl_mul hx hb d_G_step_38 ?_
  refine cl_l (rn_SN (wc := []) (As := [.long (jl ((fm_top w c) + (b))), .long (jl ((2) * (fm_ab (c))))]) (rest := [.long (jl (fm_top w c)), .long (jl (c)), .ref f, .ref g]) X hK (c_X_remainder l D cI cJ cF ⟨by omega, by omega⟩ ⟨by omega, by omega⟩ _) co_X_remainder in_X nm_G_102 st_X_remainder 2 rfl (by decide +kernel) ⟨Nat.le_of_ble_eq_true rfl, Nat.le_of_ble_eq_true rfl⟩ hP hD [] rfl (by decide) hl.1 rfl (Nat.le_of_ble_eq_true rfl) d_G_step_39 ⟨Nat.zero_le _, Nat.zero_le _⟩) hP hD hS hA [] rfl (by decide) (fun _ => rfl) (fun r_1 u_2 H locs hp hP hD hS => ?_)
  have hp : r_1 = jl ((fm_top w c + b) % (2 * fm_ab c)) := by rw [show r_1 = _ from hp]; rw [if_pos (by omega)]
  have hP : va_P D classes [(g, .inr (2, [.ref o, .ref wk, .ref st, .ref bs, .ref eu, .int (ji (Dd)), .int (ji (w))])), (f, .inr (1, [.long (jl (a)), .long (jl (b)), .long (jl (c))]))] H := hP
  have hD : va_D A [(g, .inr (2, [.ref o, .ref wk, .ref st, .ref bs, .ref eu, .int (ji (Dd)), .int (ji (w))])), (f, .inr (1, [.long (jl (a)), .long (jl (b)), .long (jl (c))]))] := hD
  obtain rfl : r_1 = jl ((fm_top w c + b) % (2 * fm_ab c)) := hp
  refine wl_sub hx hb d_G_step_42 ?_
  obtain ⟨e0, he0⟩ : ∃ t : Int, fm_top w c - (fm_top w c + b) % (2 * fm_ab c) = t := ⟨_, rfl⟩
  rw [he0]
  have hsq := sq_bd (B := 1073741824) (e := e0) (by omega) (by omega)
  obtain ⟨q0, hq⟩ : ∃ t : Int, (e0 * e0 - Dd).tdiv (4 * c) = t := ⟨_, rfl⟩
  refine cl_v (rn_V (wc := [(g, .inr (2, [.ref o, .ref wk, .ref st, .ref bs, .ref eu, .int (ji (Dd)), .int (ji (w))])), (f, .inr (1, [.long (jl (a)), .long (jl (b)), .long (jl (c))]))]) (As := [.ref f, .long (jl (c)), .long (jl (e0))]) (rest := []) X hK (c_G_becomeFrom l D cI cJ cF hg.jD ⟨by omega, by omega⟩ ⟨by omega, by omega⟩ hc0 hq _) co_G_becomeFrom in_G ml_G_45 im_G_becomeFrom se_G_becomeFrom 3 rfl (by decide +kernel) ⟨Nat.le_of_ble_eq_true rfl, Nat.le_of_ble_eq_true rfl⟩ hP hD [0, 1] rfl (by decide) (q0 := 0) (ci := 2) rfl rfl rfl hl.1 rfl (Nat.le_of_ble_eq_true rfl) d_G_step_43 ⟨Nat.zero_le _, Nat.zero_le _⟩) hP hD hS hA [0, 1] rfl (by decide) (fun _ => rfl) (fun u_3 H locs hp hP hD hS => ?_)
  have hP : va_P D classes [(g, .inr (2, [.ref o, .ref wk, .ref st, .ref bs, .ref eu, .int (ji (Dd)), .int (ji (w))])), (f, .inr (1, [.long (jl (c)), .long (jl (e0)), .long (jl (q0))]))] H := hP
  have hD : va_D A [(g, .inr (2, [.ref o, .ref wk, .ref st, .ref bs, .ref eu, .int (ji (Dd)), .int (ji (w))])), (f, .inr (1, [.long (jl (c)), .long (jl (e0)), .long (jl (q0))]))] := hD
  have hrho := st_rho (w := w) hc0 hd
  have hP : va_P D classes [(g, .inr (2, [.ref o, .ref wk, .ref st, .ref bs, .ref eu, .int (ji (Dd)), .int (ji (w))])), (f, .inr (1, [.long (jl ((fm_rho Dd w (a, b, c)).1)), .long (jl ((fm_rho Dd w (a, b, c)).2.1)), .long (jl ((fm_rho Dd w (a, b, c)).2.2))]))] H := by rw [hrho, he0, hq]; exact hP
  exact rt_v X hAe hS () trivial hP d_G_step_46

set_option maxHeartbeats 4000000 in
set_option maxRecDepth 100000 in
theorem c_G_reduceBelow (l : Launch) (D : va_G) (cI cJ cF : ClassId) {g o wk st bs eu : Nat} {Dd w : Int} {f : Nat} {a b c : Int} (hg : gD Dd w) (hD0 : Dd < 0) (hd : fm_disc Dd (a, b, c)) (ha : 0 < a) (ha2 : a ≤ 1073741824) (hb2 : -2147483648 ≤ b ∧ b ≤ 2147483648) : ∀ sz, Met l y_G_reduceBelow (Cond.code y_G_reduceBelow b_G_reduceBelow 3 none :: wb) { frames := 2, cells := 0, slots := 0, locals := 51 } (va_Pc [.ref g, .ref f] (cpre D cI cJ cF [(g, .inr (2, [.ref o, .ref wk, .ref st, .ref bs, .ref eu, .int (ji (Dd)), .int (ji (w))])), (f, .inr (1, [.long (jl (a)), .long (jl (b)), .long (jl (c))]))] sz)) (va_Qv (fun (u : fm_F) => fm_nm Dd w u (a, b, c)) (fun (u : fm_F) t => va_P D classes [(g, .inr (2, [.ref o, .ref wk, .ref st, .ref bs, .ref eu, .int (ji (Dd)), .int (ji (w))])), (f, .inr (1, [.long (jl ((u).1)), .long (jl ((u).2.1)), .long (jl ((u).2.2))]))] t.heap) (va_A [(g, .inr (2, [.ref o, .ref wk, .ref st, .ref bs, .ref eu, .int (ji (Dd)), .int (ji (w))])), (f, .inr (1, [.long (jl (a)), .long (jl (b)), .long (jl (c))]))] sz)) 0 0 (va_A [(g, .inr (2, [.ref o, .ref wk, .ref st, .ref bs, .ref eu, .int (ji (Dd)), .int (ji (w))])), (f, .inr (1, [.long (jl (a)), .long (jl (b)), .long (jl (c))]))] sz) := by
  refine c_of (Qc := fun sz => va_Qv (fun (u : fm_F) => fm_nm Dd w u (a, b, c)) (fun (u : fm_F) t => va_P D classes [(g, .inr (2, [.ref o, .ref wk, .ref st, .ref bs, .ref eu, .int (ji (Dd)), .int (ji (w))])), (f, .inr (1, [.long (jl ((u).1)), .long (jl ((u).2.1)), .long (jl ((u).2.2))]))] t.heap) (va_A [(g, .inr (2, [.ref o, .ref wk, .ref st, .ref bs, .ref eu, .int (ji (Dd)), .int (ji (w))])), (f, .inr (1, [.long (jl (a)), .long (jl (b)), .long (jl (c))]))] sz)) (by decide +kernel) co_G_reduceBelow (Nat.le_of_ble_eq_true rfl) ?_
  intro pq eq s mq below meth cq A X hK hP hD hS hA hAe ls hl
  obtain ⟨hx, hb, hml, hown, hr, hlocks, hts⟩ := id X
  have hl : lv_has ls 3 [(0, .ref g), (1, .ref f)] := hl
  have zd1 := hg.2.1
  have zd2 := hg.2.2.1
  obtain ⟨k0, rt0, hk0, hk⟩ := fm_dw_ex hg.1 hD0 hg.2.1 20 (a, b, c) hd ha (by show a ≤ 1024 * 2 ^ 20; omega)
  have hnm := fm_dw_red hg.1 hD0 hd ha hk
  refine w_iconst hx hb d_G_reduceBelow_0 ?_
  refine lv_istore_n (lv' := [(2, .int (ji (0))), (0, .ref g), (1, .ref f)]) hx hb d_G_reduceBelow_1 rfl hl (by decide) rfl (fun ls hl => ?_)
  refine lpn (I := fun n H locs ls => ∃ (i : Int) (xa : Int) (xb : Int) (xc : Int) (kk : Nat), kk = n ∧ (fm_dw Dd kk (xa, xb, xc) rt0 ∧ i + kk < 1000000 ∧ fm_disc Dd (xa, xb, xc) ∧ 0 < xa ∧ (0 ≤ i ∧ xa ≤ 1073741824) ∧ (-2147483648 ≤ xb ∧ xb ≤ 2147483648)) ∧ va_P D classes [(g, .inr (2, [.ref o, .ref wk, .ref st, .ref bs, .ref eu, .int (ji (Dd)), .int (ji (w))])), (f, .inr (1, [.long (jl (xa)), .long (jl (xb)), .long (jl (xc))]))] H ∧ va_D A [(g, .inr (2, [.ref o, .ref wk, .ref st, .ref bs, .ref eu, .int (ji (Dd)), .int (ji (w))])), (f, .inr (1, [.long (jl (xa)), .long (jl (xb)), .long (jl (xc))]))] ∧ va_S A s.heap H locs ∧ lv_has ls 3 [(0, .ref g), (1, .ref f), (2, .int (ji (i)))]) ?_ _ _ _ _ ⟨0, a, b, c, k0, rfl, ⟨hk, by omega, hd, ha, ⟨by decide, ha2⟩, hb2⟩, hP, hD, hS, lv_sub hl [1, 2, 0] rfl⟩
  rintro n H locs ls ⟨i, xa, xb, xc, kk, rfl, hi, hP, hD, hS, hl⟩ ih
  refine lv_iload_n hx hb d_G_reduceBelow_2 rfl (lv_at hl 2 rfl) ?_
  refine w_ldc (v := 1000000) (n := 1000000) hx hb (by decide) hown (hts _ kc_G_86) d_G_reduceBelow_3 ?_
  refine wi_cge hx hb ⟨by omega, by omega⟩ ⟨by decide, by decide⟩ d_G_reduceBelow_5 (tgt := 80) (by decide) (fun h_1 => ?_) (fun h_1 => ?_)
  · exact absurd hi.2.1 (by omega)
  · obtain ⟨i1, i2, i3, i4, i5, i6⟩ := hi
    have y1 := i6.1
    have y2 := i6.2
    have x1 := i5.2
    have r0 := Int.emod_nonneg (xa - xb) (show 2 * xa ≠ 0 by omega)
    have r1 := Int.emod_lt_of_pos (xa - xb) (show 0 < 2 * xa by omega)
    refine lv_aload_n hx hb d_G_reduceBelow_8 rfl (lv_at hl 0 rfl) ?_
    refine lv_aload_n hx hb d_G_reduceBelow_9 rfl (lv_at hl 1 rfl) ?_
    refine lv_aload_n hx hb d_G_reduceBelow_10 rfl (lv_at hl 1 rfl) ?_
    refine va_getN (D := D) (ci := 1) (v := .long (jl (xa))) (C := R_F) (T := T_F) (N := 3) hx hb hts uw_F hown hK.1 hP 1 rfl rfl 0 (by decide) ((hK.2 _ nf_G_94).use rfl) (fun _ h9 => h9) rfl d_G_reduceBelow_11 ?_
    refine lv_aload_n hx hb d_G_reduceBelow_14 rfl (lv_at hl 1 rfl) ?_
    refine va_getN (D := D) (ci := 1) (v := .long (jl (xa))) (C := R_F) (T := T_F) (N := 3) hx hb hts uw_F hown hK.1 hP 1 rfl rfl 0 (by decide) ((hK.2 _ nf_G_94).use rfl) (fun _ h9 => h9) rfl d_G_reduceBelow_15 ?_
    refine lv_aload_n hx hb d_G_reduceBelow_18 rfl (lv_at hl 1 rfl) ?_
    refine va_getN (D := D) (ci := 1) (v := .long (jl (xa))) (C := R_F) (T := T_F) (N := 3) hx hb hts uw_F hown hK.1 hP 1 rfl rfl 0 (by decide) ((hK.2 _ nf_G_94).use rfl) (fun _ h9 => h9) rfl d_G_reduceBelow_19 ?_
    refine lv_aload_n hx hb d_G_reduceBelow_22 rfl (lv_at hl 1 rfl) ?_
    refine va_getN (D := D) (ci := 1) (v := .long (jl (xb))) (C := R_F) (T := T_F) (N := 3) hx hb hts uw_F hown hK.1 hP 1 rfl rfl 1 (by decide) ((hK.2 _ nf_G_97).use rfl) (fun _ h9 => h9) rfl d_G_reduceBelow_23 ?_
    refine wl_sub hx hb d_G_reduceBelow_26 ?_
    refine w_ldc2 (v := 2) (n := 2) hx hb (by decide) hown (hts _ kc_G_100) d_G_reduceBelow_27 ?_
    refine lv_aload_n hx hb d_G_reduceBelow_30 rfl (lv_at hl 1 rfl) ?_
    refine va_getN (D := D) (ci := 1) (v := .long (jl (xa))) (C := R_F) (T := T_F) (N := 3) hx hb hts uw_F hown hK.1 hP 1 rfl rfl 0 (by decide) ((hK.2 _ nf_G_94).use rfl) (fun _ h9 => h9) rfl d_G_reduceBelow_31 ?_
    refine wl_mul hx hb d_G_reduceBelow_34 ?_
    refine cl_l (rn_SN (wc := []) (As := [.long (jl ((xa) - (xb))), .long (jl ((2) * (xa)))]) (rest := [.long (jl (xa)), .long (jl (xa)), .ref f, .ref g]) X hK (c_X_remainder l D cI cJ cF ⟨by omega, by omega⟩ ⟨by omega, by omega⟩ _) co_X_remainder in_X nm_G_102 st_X_remainder 2 rfl (by decide +kernel) ⟨Nat.le_of_ble_eq_true rfl, Nat.le_of_ble_eq_true rfl⟩ hP hD [] rfl (by decide) hl.1 rfl (Nat.le_of_ble_eq_true rfl) d_G_reduceBelow_35 ⟨Nat.zero_le _, Nat.zero_le _⟩) hP hD hS hA [] rfl (by decide) (fun _ => rfl) (fun r_2 u_3 H locs hp hP hD hS => ?_)
    have hp : r_2 = jl ((xa - xb) % (2 * xa)) := by rw [show r_2 = _ from hp]; rw [if_pos (by omega)]
    have hP : va_P D classes [(g, .inr (2, [.ref o, .ref wk, .ref st, .ref bs, .ref eu, .int (ji (Dd)), .int (ji (w))])), (f, .inr (1, [.long (jl (xa)), .long (jl (xb)), .long (jl (xc))]))] H := hP
    have hD : va_D A [(g, .inr (2, [.ref o, .ref wk, .ref st, .ref bs, .ref eu, .int (ji (Dd)), .int (ji (w))])), (f, .inr (1, [.long (jl (xa)), .long (jl (xb)), .long (jl (xc))]))] := hD
    obtain rfl : r_2 = jl ((xa - xb) % (2 * xa)) := hp
    refine wl_sub hx hb d_G_reduceBelow_38 ?_
    obtain ⟨e0, he0⟩ : ∃ t : Int, xa - (xa - xb) % (2 * xa) = t := ⟨_, rfl⟩
    rw [he0]
    have hsq := sq_bd (B := 1073741824) (e := e0) (by omega) (by omega)
    obtain ⟨q0, hq⟩ : ∃ t : Int, (e0 * e0 - Dd).tdiv (4 * xa) = t := ⟨_, rfl⟩
    have hqb : -4611686018427387904 ≤ q0 ∧ q0 ≤ 4611686018427387904 := by
      have hm := Int.mul_tdiv_add_tmod (e0 * e0 - Dd) (4 * xa)
      have ht1 := Int.tmod_lt_of_pos (e0 * e0 - Dd) (show 0 < 4 * xa by omega)
      have ht2 := Int.lt_tmod_of_pos (e0 * e0 - Dd) (show 0 < 4 * xa by omega)
      have ht3 := Int.tmod_nonneg (4 * xa) (show 0 ≤ e0 * e0 - Dd by omega)
      rw [hq] at hm
      constructor
      · rcases Int.lt_or_le q0 0 with z | z
        · have := Int.mul_le_mul_of_nonneg_left (show q0 ≤ -1 by omega) (show 0 ≤ 4 * xa by omega); omega
        · omega
      · rcases Int.lt_or_le 0 q0 with z | z
        · have := Int.mul_le_mul_of_nonneg_right (show 1 ≤ 4 * xa by omega) (show 0 ≤ q0 by omega); omega
        · omega
    refine cl_v (rn_V (wc := [(g, .inr (2, [.ref o, .ref wk, .ref st, .ref bs, .ref eu, .int (ji (Dd)), .int (ji (w))])), (f, .inr (1, [.long (jl (xa)), .long (jl (xb)), .long (jl (xc))]))]) (As := [.ref f, .long (jl (xa)), .long (jl (e0))]) (rest := []) X hK (c_G_becomeFrom l D cI cJ cF hg.jD ⟨by omega, by omega⟩ ⟨by omega, by omega⟩ (by omega) hq _) co_G_becomeFrom in_G ml_G_45 im_G_becomeFrom se_G_becomeFrom 3 rfl (by decide +kernel) ⟨Nat.le_of_ble_eq_true rfl, Nat.le_of_ble_eq_true rfl⟩ hP hD [0, 1] rfl (by decide) (q0 := 0) (ci := 2) rfl rfl rfl hl.1 rfl (Nat.le_of_ble_eq_true rfl) d_G_reduceBelow_39 ⟨Nat.zero_le _, Nat.zero_le _⟩) hP hD hS hA [0, 1] rfl (by decide) (fun _ => rfl) (fun u_4 H locs hp hP hD hS => ?_)
    have hP : va_P D classes [(g, .inr (2, [.ref o, .ref wk, .ref st, .ref bs, .ref eu, .int (ji (Dd)), .int (ji (w))])), (f, .inr (1, [.long (jl (xa)), .long (jl (e0)), .long (jl (q0))]))] H := hP
    have hD : va_D A [(g, .inr (2, [.ref o, .ref wk, .ref st, .ref bs, .ref eu, .int (ji (Dd)), .int (ji (w))])), (f, .inr (1, [.long (jl (xa)), .long (jl (e0)), .long (jl (q0))]))] := hD
    refine lv_aload_n hx hb d_G_reduceBelow_42 rfl (lv_at hl 1 rfl) ?_
    refine va_getN (D := D) (ci := 1) (v := .long (jl (xa))) (C := R_F) (T := T_F) (N := 3) hx hb hts uw_F hown hK.1 hP 1 rfl rfl 0 (by decide) ((hK.2 _ nf_G_94).use rfl) (fun _ h9 => h9) rfl d_G_reduceBelow_43 ?_
    refine lv_aload_n hx hb d_G_reduceBelow_46 rfl (lv_at hl 1 rfl) ?_
    refine va_getN (D := D) (ci := 1) (v := .long (jl (q0))) (C := R_F) (T := T_F) (N := 3) hx hb hts uw_F hown hK.1 hP 1 rfl rfl 2 (by decide) ((hK.2 _ nf_G_105).use rfl) (fun _ h9 => h9) rfl d_G_reduceBelow_47 ?_
    refine wl_cgt hx hb ⟨by omega, by omega⟩ ⟨by omega, by omega⟩ d_G_reduceBelow_50 d_G_reduceBelow_51 (tgt := 57) (by decide) (fun h_5 => ?_) (fun h_5 => ?_)
    · have hnu := nu_eq i4 i3
      rw [he0, hq] at hnu
      obtain ⟨o1, o2, o3, o4, o5⟩ := fm_nu_ok hg.1 i4 i3
      rw [hnu] at o1 o2 o3 o4 o5
      dsimp only at o3 o4 o5
      have hk2 : ∃ k2, kk = k2 + 1 ∧ fm_dw Dd k2 (q0, -e0, xa) rt0 := by
        cases kk with
        | zero => have z1 := i1.1; have z2 := i1.2; rw [← z1, hnu] at z2; dsimp only at z2; omega
        | succ k2 => have z2 := i1.2; rw [hnu] at z2; exact ⟨k2, rfl, z2⟩
      obtain ⟨k2, rfl, i1n⟩ := hk2
      have hq0 := fm_pp i4 (fm_neg_ac hD0 o1)
      refine lv_aload_n hx hb d_G_reduceBelow_57 rfl (lv_at hl 1 rfl) ?_
      refine lv_aload_n hx hb d_G_reduceBelow_58 rfl (lv_at hl 1 rfl) ?_
      refine va_getN (D := D) (ci := 1) (v := .long (jl (q0))) (C := R_F) (T := T_F) (N := 3) hx hb hts uw_F hown hK.1 hP 1 rfl rfl 2 (by decide) ((hK.2 _ nf_G_105).use rfl) (fun _ h9 => h9) rfl d_G_reduceBelow_59 ?_
      refine lv_aload_n hx hb d_G_reduceBelow_62 rfl (lv_at hl 1 rfl) ?_
      refine va_getN (D := D) (ci := 1) (v := .long (jl (e0))) (C := R_F) (T := T_F) (N := 3) hx hb hts uw_F hown hK.1 hP 1 rfl rfl 1 (by decide) ((hK.2 _ nf_G_97).use rfl) (fun _ h9 => h9) rfl d_G_reduceBelow_63 ?_
      refine wl_neg hx hb d_G_reduceBelow_66 ?_
      refine lv_aload_n hx hb d_G_reduceBelow_67 rfl (lv_at hl 1 rfl) ?_
      refine va_getN (D := D) (ci := 1) (v := .long (jl (xa))) (C := R_F) (T := T_F) (N := 3) hx hb hts uw_F hown hK.1 hP 1 rfl rfl 0 (by decide) ((hK.2 _ nf_G_94).use rfl) (fun _ h9 => h9) rfl d_G_reduceBelow_68 ?_
      refine cl_v (rn_VN (wc := [(f, .inr (1, [.long (jl (xa)), .long (jl (e0)), .long (jl (q0))]))]) (As := [.long (jl (q0)), .long (jl (-(e0))), .long (jl (xa))]) (rest := []) X hK (c_F_become l D cI cJ cF  _) co_F_become in_F nm_G_79 im_F_become se_F_become 3 rfl (by decide +kernel) ⟨Nat.le_of_ble_eq_true rfl, Nat.le_of_ble_eq_true rfl⟩ hP hD [1] rfl (by decide) (q0 := 0) (ci := 1) rfl rfl rfl hl.1 rfl (Nat.le_of_ble_eq_true rfl) d_G_reduceBelow_71 ⟨Nat.zero_le _, Nat.zero_le _⟩) hP hD hS hA [1] rfl (by decide) (fun _ => rfl) (fun u_6 H locs hp hP hD hS => ?_)
      have hP : va_P D classes [(g, .inr (2, [.ref o, .ref wk, .ref st, .ref bs, .ref eu, .int (ji (Dd)), .int (ji (w))])), (f, .inr (1, [.long (jl (q0)), .long (jl (-(e0))), .long (jl (xa))]))] H := hP
      have hD : va_D A [(g, .inr (2, [.ref o, .ref wk, .ref st, .ref bs, .ref eu, .int (ji (Dd)), .int (ji (w))])), (f, .inr (1, [.long (jl (q0)), .long (jl (-(e0))), .long (jl (xa))]))] := hD
      refine lv_iinc (v := ji ((i) + (1))) (lv' := [(2, .int (ji ((i) + (1)))), (0, .ref g), (1, .ref f)]) hx hb d_G_reduceBelow_74 hl (k := 2) rfl (ji_add _ _) (by decide) rfl (fun ls hl => ?_)
      refine lv_goto (tgt := 2) hx hb d_G_reduceBelow_77 (by decide) ?_
      exact ih _ _ _ _ (by omega) ⟨i + 1, q0, -e0, xa, k2, rfl, ⟨i1n, by omega, fm_S_disc o1, hq0, ⟨by omega, by omega⟩, ⟨by omega, by omega⟩⟩, hP, hD, hS, lv_sub hl [1, 2, 0] rfl⟩
    · have hnu := nu_eq i4 i3
      rw [he0, hq] at hnu
      obtain ⟨o1, o2, o3, o4, o5⟩ := fm_nu_ok hg.1 i4 i3
      rw [hnu] at o1 o2 o3 o4 o5
      dsimp only at o3 o4 o5
      have hr0 : rt0 = (xa, e0, q0) := by
        cases kk with
        | zero => rw [← hnu]; exact i1.1.symm
        | succ k2 => have := i1.1; rw [hnu] at this; dsimp only at this; omega
      rw [hr0] at hnm
      dsimp only at hnm
      refine lv_goto (tgt := 80) hx hb d_G_reduceBelow_54 (by decide) ?_
      refine lv_aload_n hx hb d_G_reduceBelow_80 rfl (lv_at hl 1 rfl) ?_
      refine va_getN (D := D) (ci := 1) (v := .long (jl (xa))) (C := R_F) (T := T_F) (N := 3) hx hb hts uw_F hown hK.1 hP 1 rfl rfl 0 (by decide) ((hK.2 _ nf_G_94).use rfl) (fun _ h9 => h9) rfl d_G_reduceBelow_81 ?_
      refine lv_aload_n hx hb d_G_reduceBelow_84 rfl (lv_at hl 1 rfl) ?_
      refine va_getN (D := D) (ci := 1) (v := .long (jl (q0))) (C := R_F) (T := T_F) (N := 3) hx hb hts uw_F hown hK.1 hP 1 rfl rfl 2 (by decide) ((hK.2 _ nf_G_105).use rfl) (fun _ h9 => h9) rfl d_G_reduceBelow_85 ?_
      refine wl_cne hx hb ⟨by omega, by omega⟩ ⟨by omega, by omega⟩ d_G_reduceBelow_88 d_G_reduceBelow_89 (tgt := 110) (by decide) (fun h_7 => ?_) (fun h_7 => ?_)
      · exact rt_v X hAe hS (xa, e0, q0) (by first | (rw [if_pos ⟨by omega, by omega⟩] at hnm; exact hnm) | (rw [if_neg (by omega)] at hnm; exact hnm)) hP d_G_reduceBelow_110
      · refine lv_aload_n hx hb d_G_reduceBelow_92 rfl (lv_at hl 1 rfl) ?_
        refine va_getN (D := D) (ci := 1) (v := .long (jl (e0))) (C := R_F) (T := T_F) (N := 3) hx hb hts uw_F hown hK.1 hP 1 rfl rfl 1 (by decide) ((hK.2 _ nf_G_97).use rfl) (fun _ h9 => h9) rfl d_G_reduceBelow_93 ?_
        refine w_lconst (v := 0) hx hb rfl d_G_reduceBelow_96 ?_
        refine wl_cge hx hb ⟨by omega, by omega⟩ ⟨by decide, by decide⟩ d_G_reduceBelow_97 d_G_reduceBelow_98 (tgt := 110) (by decide) (fun h_8 => ?_) (fun h_8 => ?_)
        · exact rt_v X hAe hS (xa, e0, q0) (by first | (rw [if_pos ⟨by omega, by omega⟩] at hnm; exact hnm) | (rw [if_neg (by omega)] at hnm; exact hnm)) hP d_G_reduceBelow_110
        · refine lv_aload_n hx hb d_G_reduceBelow_101 rfl (lv_at hl 1 rfl) ?_
          refine lv_aload_n hx hb d_G_reduceBelow_102 rfl (lv_at hl 1 rfl) ?_
          refine va_getN (D := D) (ci := 1) (v := .long (jl (e0))) (C := R_F) (T := T_F) (N := 3) hx hb hts uw_F hown hK.1 hP 1 rfl rfl 1 (by decide) ((hK.2 _ nf_G_97).use rfl) (fun _ h9 => h9) rfl d_G_reduceBelow_103 ?_
          refine wl_neg hx hb d_G_reduceBelow_106 ?_
          refine va_putN (D := D) (ci := 1) (v := .long (jl (-(e0)))) (ty := .long) (C := R_F) (T := T_F) (N := 3) hx hb hts uw_F ty_F ty_F_ok nm_F hown hK.1 hP hD hS 1 rfl rfl 1 (by decide) ((hK.2 _ nf_G_97).use rfl) (fun _ h9 => h9) rfl (by decide +kernel) rfl rfl (Nat.le_of_ble_eq_true rfl) d_G_reduceBelow_107 (fun H locs hP hD hS => ?_)
          have hP : va_P D classes [(g, .inr (2, [.ref o, .ref wk, .ref st, .ref bs, .ref eu, .int (ji (Dd)), .int (ji (w))])), (f, .inr (1, [.long (jl (xa)), .long (jl (-(e0))), .long (jl (q0))]))] H := hP
          have hD : va_D A [(g, .inr (2, [.ref o, .ref wk, .ref st, .ref bs, .ref eu, .int (ji (Dd)), .int (ji (w))])), (f, .inr (1, [.long (jl (xa)), .long (jl (-(e0))), .long (jl (q0))]))] := hD
          exact rt_v X hAe hS (xa, -(e0), q0) (by first | (rw [if_pos ⟨by omega, by omega⟩] at hnm; exact hnm) | (rw [if_neg (by omega)] at hnm; exact hnm)) hP d_G_reduceBelow_110
end
section
set_option maxHeartbeats 4000000 in
set_option maxRecDepth 100000 in
theorem c_G_reduce (l : Launch) (D : va_G) (cI cJ cF : ClassId) {g o wk st bs eu : Nat} {Dd w : Int} {f : Nat} {a b c : Int} (hg : gD Dd w) (hd : fm_disc Dd (a, b, c)) (hpos : Dd < 0 → 0 < a) (ha : -1073741824 ≤ a) (ha2 : a ≤ 1073741824) (hb2 : b30 b) (hc2 : ¬ Dd < 0 → b30 c) : ∀ sz, Met l y_G_reduce (Cond.code y_G_reduce b_G_reduce 3 none :: wb) { frames := 3, cells := 0, slots := 0, locals := 78 } (va_Pc [.ref g, .ref f] (cpre D cI cJ cF [(g, .inr (2, [.ref o, .ref wk, .ref st, .ref bs, .ref eu, .int (ji (Dd)), .int (ji (w))])), (f, .inr (1, [.long (jl (a)), .long (jl (b)), .long (jl (c))]))] sz)) (va_Qv (fun (u : fm_F) => fm_disc Dd u ∧ fm_red Dd w u ∧ fm_mg Dd w u (a, b, c)) (fun (u : fm_F) t => va_P D classes [(g, .inr (2, [.ref o, .ref wk, .ref st, .ref bs, .ref eu, .int (ji (Dd)), .int (ji (w))])), (f, .inr (1, [.long (jl ((u).1)), .long (jl ((u).2.1)), .long (jl ((u).2.2))]))] t.heap) (va_A [(g, .inr (2, [.ref o, .ref wk, .ref st, .ref bs, .ref eu, .int (ji (Dd)), .int (ji (w))])), (f, .inr (1, [.long (jl (a)), .long (jl (b)), .long (jl (c))]))] sz)) 0 0 (va_A [(g, .inr (2, [.ref o, .ref wk, .ref st, .ref bs, .ref eu, .int (ji (Dd)), .int (ji (w))])), (f, .inr (1, [.long (jl (a)), .long (jl (b)), .long (jl (c))]))] sz) := by
  refine c_of (Qc := fun sz => va_Qv (fun (u : fm_F) => fm_disc Dd u ∧ fm_red Dd w u ∧ fm_mg Dd w u (a, b, c)) (fun (u : fm_F) t => va_P D classes [(g, .inr (2, [.ref o, .ref wk, .ref st, .ref bs, .ref eu, .int (ji (Dd)), .int (ji (w))])), (f, .inr (1, [.long (jl ((u).1)), .long (jl ((u).2.1)), .long (jl ((u).2.2))]))] t.heap) (va_A [(g, .inr (2, [.ref o, .ref wk, .ref st, .ref bs, .ref eu, .int (ji (Dd)), .int (ji (w))])), (f, .inr (1, [.long (jl (a)), .long (jl (b)), .long (jl (c))]))] sz)) (by decide +kernel) co_G_reduce (Nat.le_of_ble_eq_true rfl) ?_
  intro pq eq s mq below meth cq A X hK hP hD hS hA hAe ls hl
  obtain ⟨hx, hb, hml, hown, hr, hlocks, hts⟩ := id X
  have hl : lv_has ls 3 [(0, .ref g), (1, .ref f)] := hl
  have zd1 := hg.2.1
  have zd2 := hg.2.2.1
  have zb1 := hb2.1
  have zb2 := hb2.2
  refine lv_aload_n hx hb d_G_reduce_0 rfl (lv_at hl 0 rfl) ?_
  refine va_get (D := D) (ci := 2) (v := .int (ji (Dd))) (C := R_G) (T := T_G) (N := 7) hx hb hts uw_G hown hK.1 hP 0 rfl rfl 5 (by decide) (hts _ fl_G_34) (fun _ h9 => h9) rfl d_G_reduce_1 ?_
  refine wi_zge hx hb hg.jD d_G_reduce_4 (tgt := 13) (by decide) (fun h_1 => ?_) (fun h_1 => ?_)
  · have hD0 : ¬ Dd < 0 := by omega
    have hc2 := hc2 hD0
    obtain ⟨k0, hk0, hk⟩ := fm_reach hg.1 hD0 16 a b c hd (by have := hc2.ab; show fm_ab c < 4 ^ 16; omega)
    refine w_iconst hx hb d_G_reduce_13 ?_
    refine lv_istore_n (lv' := [(2, .int (ji (0))), (0, .ref g), (1, .ref f)]) hx hb d_G_reduce_14 rfl hl (by decide) rfl (fun ls hl => ?_)
    refine lpn (I := fun n H locs ls => ∃ (i : Int) (xa : Int) (xb : Int) (xc : Int) (kk : Nat), kk = n ∧ (fm_red Dd w (fm_it Dd w kk (xa, xb, xc)) ∧ fm_mg Dd w (xa, xb, xc) (a, b, c) ∧ fm_disc Dd (xa, xb, xc) ∧ (b30 xa ∧ b30 xb ∧ b30 xc) ∧ (0 ≤ i ∧ i + kk < 1000000)) ∧ va_P D classes [(g, .inr (2, [.ref o, .ref wk, .ref st, .ref bs, .ref eu, .int (ji (Dd)), .int (ji (w))])), (f, .inr (1, [.long (jl (xa)), .long (jl (xb)), .long (jl (xc))]))] H ∧ va_D A [(g, .inr (2, [.ref o, .ref wk, .ref st, .ref bs, .ref eu, .int (ji (Dd)), .int (ji (w))])), (f, .inr (1, [.long (jl (xa)), .long (jl (xb)), .long (jl (xc))]))] ∧ va_S A s.heap H locs ∧ lv_has ls 3 [(0, .ref g), (1, .ref f), (2, .int (ji (i)))]) ?_ _ _ _ _ ⟨0, a, b, c, k0, rfl, ⟨hk, fm_mg.rf _, hd, ⟨⟨ha, ha2⟩, hb2, hc2⟩, ⟨by decide, by omega⟩⟩, hP, hD, hS, lv_sub hl [1, 2, 0] rfl⟩
    rintro n H locs ls ⟨i, xa, xb, xc, kk, rfl, hi, hP, hD, hS, hl⟩ ih
    refine lv_iload_n hx hb d_G_reduce_15 rfl (lv_at hl 2 rfl) ?_
    refine w_ldc (v := 1000000) (n := 1000000) hx hb (by decide) hown (hts _ kc_G_86) d_G_reduce_16 ?_
    refine wi_cge hx hb ⟨by omega, by omega⟩ ⟨by decide, by decide⟩ d_G_reduce_18 (tgt := 40) (by decide) (fun h_2 => ?_) (fun h_2 => ?_)
    · exact absurd hi.2.2.2.2 (by omega)
    · obtain ⟨i1, i2, i3, ⟨i4, i5, i6⟩, i7⟩ := hi
      refine lv_aload_n hx hb d_G_reduce_21 rfl (lv_at hl 0 rfl) ?_
      refine lv_aload_n hx hb d_G_reduce_22 rfl (lv_at hl 1 rfl) ?_
      refine cl_i (rn_V (wc := [(g, .inr (2, [.ref o, .ref wk, .ref st, .ref bs, .ref eu, .int (ji (Dd)), .int (ji (w))])), (f, .inr (1, [.long (jl (xa)), .long (jl (xb)), .long (jl (xc))]))]) (As := [.ref f]) (rest := []) X hK (c_G_isReducedAbove l D cI cJ cF hg i4 i5 _) co_G_isReducedAbove in_G ml_G_87 im_G_isReducedAbove se_G_isReducedAbove 1 rfl (by decide +kernel) ⟨Nat.le_of_ble_eq_true rfl, Nat.le_of_ble_eq_true rfl⟩ hP hD [0, 1] rfl (by decide) (q0 := 0) (ci := 2) rfl rfl rfl hl.1 rfl (Nat.le_of_ble_eq_true rfl) d_G_reduce_23 ⟨Nat.zero_le _, Nat.zero_le _⟩) hP hD hS hA [0, 1] rfl (by decide) (fun _ => rfl) (fun r_3 u_4 H locs hp hP hD hS => ?_)
      obtain ⟨t1, rfl, ht1⟩ := hp
      have hP : va_P D classes [(g, .inr (2, [.ref o, .ref wk, .ref st, .ref bs, .ref eu, .int (ji (Dd)), .int (ji (w))])), (f, .inr (1, [.long (jl (xa)), .long (jl (xb)), .long (jl (xc))]))] H := hP
      have hD : va_D A [(g, .inr (2, [.ref o, .ref wk, .ref st, .ref bs, .ref eu, .int (ji (Dd)), .int (ji (w))])), (f, .inr (1, [.long (jl (xa)), .long (jl (xb)), .long (jl (xc))]))] := hD
      refine wi_zne hx hb ⟨by omega, by omega⟩ d_G_reduce_26 (tgt := 40) (by decide) (fun h_5 => ?_) (fun h_5 => ?_)
      · have hred : fm_red Dd w (xa, xb, xc) := by rw [fm_red_ge hD0]; omega
        exact rt_v X hAe hS (xa, xb, xc) ⟨i3, hred, i2⟩ hP d_G_reduce_40
      · have hk2 : ∃ k2, kk = k2 + 1 ∧ fm_red Dd w (fm_it Dd w k2 (fm_rho Dd w (xa, xb, xc))) := by
          cases kk with
          | zero => exfalso; have z1 : fm_red Dd w (xa, xb, xc) := i1; rw [fm_red_ge hD0] at z1; omega
          | succ k2 => exact ⟨k2, rfl, i1⟩
        obtain ⟨k2, rfl, i1n⟩ := hk2
        have hbd := rho_bd hg hD0 i3 i6
        have hdr := fm_rho_disc hg.1 i3
        refine lv_aload_n hx hb d_G_reduce_29 rfl (lv_at hl 0 rfl) ?_
        refine lv_aload_n hx hb d_G_reduce_30 rfl (lv_at hl 1 rfl) ?_
        refine cl_v (rn_V (wc := [(g, .inr (2, [.ref o, .ref wk, .ref st, .ref bs, .ref eu, .int (ji (Dd)), .int (ji (w))])), (f, .inr (1, [.long (jl (xa)), .long (jl (xb)), .long (jl (xc))]))]) (As := [.ref f]) (rest := []) X hK (c_G_step l D cI cJ cF hg i3 i5 i6 _) co_G_step in_G ml_G_91 im_G_step se_G_step 1 rfl (by decide +kernel) ⟨Nat.le_of_ble_eq_true rfl, Nat.le_of_ble_eq_true rfl⟩ hP hD [0, 1] rfl (by decide) (q0 := 0) (ci := 2) rfl rfl rfl hl.1 rfl (Nat.le_of_ble_eq_true rfl) d_G_reduce_31 ⟨Nat.zero_le _, Nat.zero_le _⟩) hP hD hS hA [0, 1] rfl (by decide) (fun _ => rfl) (fun u_6 H locs hp hP hD hS => ?_)
        have hP : va_P D classes [(g, .inr (2, [.ref o, .ref wk, .ref st, .ref bs, .ref eu, .int (ji (Dd)), .int (ji (w))])), (f, .inr (1, [.long (jl ((fm_rho Dd w (xa, xb, xc)).1)), .long (jl ((fm_rho Dd w (xa, xb, xc)).2.1)), .long (jl ((fm_rho Dd w (xa, xb, xc)).2.2))]))] H := hP
        have hD : va_D A [(g, .inr (2, [.ref o, .ref wk, .ref st, .ref bs, .ref eu, .int (ji (Dd)), .int (ji (w))])), (f, .inr (1, [.long (jl ((fm_rho Dd w (xa, xb, xc)).1)), .long (jl ((fm_rho Dd w (xa, xb, xc)).2.1)), .long (jl ((fm_rho Dd w (xa, xb, xc)).2.2))]))] := hD
        refine lv_iinc (v := ji ((i) + (1))) (lv' := [(2, .int (ji ((i) + (1)))), (0, .ref g), (1, .ref f)]) hx hb d_G_reduce_34 hl (k := 2) rfl (ji_add _ _) (by decide) rfl (fun ls hl => ?_)
        refine lv_goto (tgt := 15) hx hb d_G_reduce_37 (by decide) ?_
        exact ih _ _ _ _ (by omega) ⟨i + 1, (fm_rho Dd w (xa, xb, xc)).1, (fm_rho Dd w (xa, xb, xc)).2.1, (fm_rho Dd w (xa, xb, xc)).2.2, k2, rfl, ⟨i1n, (fm_mg.step rfl).sy.tr i2, hdr, hbd, ⟨by omega, by omega⟩⟩, hP, hD, hS, lv_sub hl [1, 2, 0] rfl⟩
  · refine lv_aload_n hx hb d_G_reduce_7 rfl (lv_at hl 0 rfl) ?_
    refine lv_aload_n hx hb d_G_reduce_8 rfl (lv_at hl 1 rfl) ?_
    refine cl_v (rn_V (wc := [(g, .inr (2, [.ref o, .ref wk, .ref st, .ref bs, .ref eu, .int (ji (Dd)), .int (ji (w))])), (f, .inr (1, [.long (jl (a)), .long (jl (b)), .long (jl (c))]))]) (As := [.ref f]) (rest := []) X hK (c_G_reduceBelow l D cI cJ cF hg (by omega) hd (hpos (by omega)) ha2 ⟨by omega, by omega⟩ _) co_G_reduceBelow in_G ml_G_83 im_G_reduceBelow se_G_reduceBelow 1 rfl (by decide +kernel) ⟨Nat.le_of_ble_eq_true rfl, Nat.le_of_ble_eq_true rfl⟩ hP hD [0, 1] rfl (by decide) (q0 := 0) (ci := 2) rfl rfl rfl hl.1 rfl (Nat.le_of_ble_eq_true rfl) d_G_reduce_9 ⟨Nat.zero_le _, Nat.zero_le _⟩) hP hD hS hA [0, 1] rfl (by decide) (fun _ => rfl) (fun u_7 H locs hp hP hD hS => ?_)
    have hnmz : fm_nm Dd w u_7 (a, b, c) := hp
    have hP : va_P D classes [(g, .inr (2, [.ref o, .ref wk, .ref st, .ref bs, .ref eu, .int (ji (Dd)), .int (ji (w))])), (f, .inr (1, [.long (jl ((u_7).1)), .long (jl ((u_7).2.1)), .long (jl ((u_7).2.2))]))] H := hP
    have hD : va_D A [(g, .inr (2, [.ref o, .ref wk, .ref st, .ref bs, .ref eu, .int (ji (Dd)), .int (ji (w))])), (f, .inr (1, [.long (jl ((u_7).1)), .long (jl ((u_7).2.1)), .long (jl ((u_7).2.2))]))] := hD
    exact rt_v X hAe hS u_7 ⟨hnmz.1, hnmz.2.1, hnmz.2.2.1⟩ hP d_G_reduce_12
end
section
set_option maxHeartbeats 4000000 in
set_option maxRecDepth 100000 in
theorem c_G_turnIntoName (l : Launch) (D : va_G) (cI cJ cF : ClassId) {g o wk st bs eu : Nat} {Dd w : Int} {f : Nat} {a b c x1 x2 x3 y1 y2 y3 : Int} (hg : gD Dd w) (hd : fm_disc Dd (a, b, c)) (hrd : fm_red Dd w (a, b, c)) : ∀ sz, Met l y_G_turnIntoName (Cond.code y_G_turnIntoName b_G_turnIntoName 3 (some .int) :: wb) { frames := 3, cells := 0, slots := 0, locals := 76 } (va_Pc [.ref g, .ref f] (cpre D cI cJ cF [(g, .inr (2, [.ref o, .ref wk, .ref st, .ref bs, .ref eu, .int (ji (Dd)), .int (ji (w))])), (wk, .inr (1, [.long (jl (x1)), .long (jl (x2)), .long (jl (x3))])), (st, .inr (1, [.long (jl (y1)), .long (jl (y2)), .long (jl (y3))])), (f, .inr (1, [.long (jl (a)), .long (jl (b)), .long (jl (c))]))] sz)) (va_Qi (fun r (u : fm_F × fm_F × fm_F) => ∃ n : Int, r = ji n ∧ fm_nm Dd w u.1 (a, b, c) ∧ fm_ct Dd w (a, b, c) n ∧ 1 ≤ n ∧ n ≤ 1000000) (fun (u : fm_F × fm_F × fm_F) t => va_P D classes [(g, .inr (2, [.ref o, .ref wk, .ref st, .ref bs, .ref eu, .int (ji (Dd)), .int (ji (w))])), (wk, .inr (1, [.long (jl ((u.2.1).1)), .long (jl ((u.2.1).2.1)), .long (jl ((u.2.1).2.2))])), (st, .inr (1, [.long (jl ((u.2.2).1)), .long (jl ((u.2.2).2.1)), .long (jl ((u.2.2).2.2))])), (f, .inr (1, [.long (jl ((u.1).1)), .long (jl ((u.1).2.1)), .long (jl ((u.1).2.2))]))] t.heap) (va_A [(g, .inr (2, [.ref o, .ref wk, .ref st, .ref bs, .ref eu, .int (ji (Dd)), .int (ji (w))])), (wk, .inr (1, [.long (jl (x1)), .long (jl (x2)), .long (jl (x3))])), (st, .inr (1, [.long (jl (y1)), .long (jl (y2)), .long (jl (y3))])), (f, .inr (1, [.long (jl (a)), .long (jl (b)), .long (jl (c))]))] sz)) 0 0 (va_A [(g, .inr (2, [.ref o, .ref wk, .ref st, .ref bs, .ref eu, .int (ji (Dd)), .int (ji (w))])), (wk, .inr (1, [.long (jl (x1)), .long (jl (x2)), .long (jl (x3))])), (st, .inr (1, [.long (jl (y1)), .long (jl (y2)), .long (jl (y3))])), (f, .inr (1, [.long (jl (a)), .long (jl (b)), .long (jl (c))]))] sz) := by
  refine c_of (Qc := fun sz => va_Qi (fun r (u : fm_F × fm_F × fm_F) => ∃ n : Int, r = ji n ∧ fm_nm Dd w u.1 (a, b, c) ∧ fm_ct Dd w (a, b, c) n ∧ 1 ≤ n ∧ n ≤ 1000000) (fun (u : fm_F × fm_F × fm_F) t => va_P D classes [(g, .inr (2, [.ref o, .ref wk, .ref st, .ref bs, .ref eu, .int (ji (Dd)), .int (ji (w))])), (wk, .inr (1, [.long (jl ((u.2.1).1)), .long (jl ((u.2.1).2.1)), .long (jl ((u.2.1).2.2))])), (st, .inr (1, [.long (jl ((u.2.2).1)), .long (jl ((u.2.2).2.1)), .long (jl ((u.2.2).2.2))])), (f, .inr (1, [.long (jl ((u.1).1)), .long (jl ((u.1).2.1)), .long (jl ((u.1).2.2))]))] t.heap) (va_A [(g, .inr (2, [.ref o, .ref wk, .ref st, .ref bs, .ref eu, .int (ji (Dd)), .int (ji (w))])), (wk, .inr (1, [.long (jl (x1)), .long (jl (x2)), .long (jl (x3))])), (st, .inr (1, [.long (jl (y1)), .long (jl (y2)), .long (jl (y3))])), (f, .inr (1, [.long (jl (a)), .long (jl (b)), .long (jl (c))]))] sz)) (by decide +kernel) co_G_turnIntoName (Nat.le_of_ble_eq_true rfl) ?_
  intro pq eq s mq below meth cq A X hK hP hD hS hA hAe ls hl
  obtain ⟨hx, hb, hml, hown, hr, hlocks, hts⟩ := id X
  have hl : lv_has ls 3 [(0, .ref g), (1, .ref f)] := hl
  refine lv_aload_n hx hb d_G_turnIntoName_0 rfl (lv_at hl 0 rfl) ?_
  refine va_get (D := D) (ci := 2) (v := .int (ji (Dd))) (C := R_G) (T := T_G) (N := 7) hx hb hts uw_G hown hK.1 hP 0 rfl rfl 5 (by decide) (hts _ fl_G_34) (fun _ h9 => h9) rfl d_G_turnIntoName_1 ?_
  refine wi_zge hx hb hg.jD d_G_turnIntoName_4 (tgt := 9) (by decide) (fun h_1 => ?_) (fun h_1 => ?_)
  · have hD0 : ¬ Dd < 0 := by omega
    obtain ⟨mm, m0, m1, hmm⟩ := fm_period hg.1 hg.2.2.2 hD0 hd hrd
    have fb := red_b30 hg hd hrd
    obtain ⟨fb1, fb2, fb3⟩ := fb
    refine lv_aload_n hx hb d_G_turnIntoName_9 rfl (lv_at hl 0 rfl) ?_
    refine va_get (D := D) (ci := 2) (v := .ref st) (C := R_G) (T := T_G) (N := 7) hx hb hts uw_G hown hK.1 hP 0 rfl rfl 2 (by decide) (hts _ fl_G_21) (fun _ h9 => h9) rfl d_G_turnIntoName_10 ?_
    refine lv_aload_n hx hb d_G_turnIntoName_13 rfl (lv_at hl 1 rfl) ?_
    refine cl_v (rn_VN (wc := [(st, .inr (1, [.long (jl (y1)), .long (jl (y2)), .long (jl (y3))])), (f, .inr (1, [.long (jl (a)), .long (jl (b)), .long (jl (c))]))]) (As := [.ref f]) (rest := []) X hK (c_F_copy l D cI cJ cF  _) co_F_copy in_F nm_G_117 im_F_copy se_F_copy 1 rfl (by decide +kernel) ⟨Nat.le_of_ble_eq_true rfl, Nat.le_of_ble_eq_true rfl⟩ hP hD [2, 3] rfl (by decide) (q0 := 0) (ci := 1) rfl rfl rfl hl.1 rfl (Nat.le_of_ble_eq_true rfl) d_G_turnIntoName_14 ⟨Nat.zero_le _, Nat.zero_le _⟩) hP hD hS hA [2, 3] rfl (by decide) (fun _ => rfl) (fun u_2 H locs hp hP hD hS => ?_)
    have hP : va_P D classes [(g, .inr (2, [.ref o, .ref wk, .ref st, .ref bs, .ref eu, .int (ji (Dd)), .int (ji (w))])), (wk, .inr (1, [.long (jl (x1)), .long (jl (x2)), .long (jl (x3))])), (st, .inr (1, [.long (jl (a)), .long (jl (b)), .long (jl (c))])), (f, .inr (1, [.long (jl (a)), .long (jl (b)), .long (jl (c))]))] H := hP
    have hD : va_D A [(g, .inr (2, [.ref o, .ref wk, .ref st, .ref bs, .ref eu, .int (ji (Dd)), .int (ji (w))])), (wk, .inr (1, [.long (jl (x1)), .long (jl (x2)), .long (jl (x3))])), (st, .inr (1, [.long (jl (a)), .long (jl (b)), .long (jl (c))])), (f, .inr (1, [.long (jl (a)), .long (jl (b)), .long (jl (c))]))] := hD
    refine lv_aload_n hx hb d_G_turnIntoName_17 rfl (lv_at hl 0 rfl) ?_
    refine va_get (D := D) (ci := 2) (v := .ref wk) (C := R_G) (T := T_G) (N := 7) hx hb hts uw_G hown hK.1 hP 0 rfl rfl 1 (by decide) (hts _ fl_G_18) (fun _ h9 => h9) rfl d_G_turnIntoName_18 ?_
    refine lv_aload_n hx hb d_G_turnIntoName_21 rfl (lv_at hl 1 rfl) ?_
    refine cl_v (rn_VN (wc := [(wk, .inr (1, [.long (jl (x1)), .long (jl (x2)), .long (jl (x3))])), (f, .inr (1, [.long (jl (a)), .long (jl (b)), .long (jl (c))]))]) (As := [.ref f]) (rest := []) X hK (c_F_copy l D cI cJ cF  _) co_F_copy in_F nm_G_117 im_F_copy se_F_copy 1 rfl (by decide +kernel) ⟨Nat.le_of_ble_eq_true rfl, Nat.le_of_ble_eq_true rfl⟩ hP hD [1, 3] rfl (by decide) (q0 := 0) (ci := 1) rfl rfl rfl hl.1 rfl (Nat.le_of_ble_eq_true rfl) d_G_turnIntoName_22 ⟨Nat.zero_le _, Nat.zero_le _⟩) hP hD hS hA [1, 3] rfl (by decide) (fun _ => rfl) (fun u_3 H locs hp hP hD hS => ?_)
    have hP : va_P D classes [(g, .inr (2, [.ref o, .ref wk, .ref st, .ref bs, .ref eu, .int (ji (Dd)), .int (ji (w))])), (wk, .inr (1, [.long (jl (a)), .long (jl (b)), .long (jl (c))])), (st, .inr (1, [.long (jl (a)), .long (jl (b)), .long (jl (c))])), (f, .inr (1, [.long (jl (a)), .long (jl (b)), .long (jl (c))]))] H := hP
    have hD : va_D A [(g, .inr (2, [.ref o, .ref wk, .ref st, .ref bs, .ref eu, .int (ji (Dd)), .int (ji (w))])), (wk, .inr (1, [.long (jl (a)), .long (jl (b)), .long (jl (c))])), (st, .inr (1, [.long (jl (a)), .long (jl (b)), .long (jl (c))])), (f, .inr (1, [.long (jl (a)), .long (jl (b)), .long (jl (c))]))] := hD
    refine lv_aload_n hx hb d_G_turnIntoName_25 rfl (lv_at hl 0 rfl) ?_
    refine lv_aload_n hx hb d_G_turnIntoName_26 rfl (lv_at hl 0 rfl) ?_
    refine va_get (D := D) (ci := 2) (v := .ref wk) (C := R_G) (T := T_G) (N := 7) hx hb hts uw_G hown hK.1 hP 0 rfl rfl 1 (by decide) (hts _ fl_G_18) (fun _ h9 => h9) rfl d_G_turnIntoName_27 ?_
    refine cl_v (rn_V (wc := [(g, .inr (2, [.ref o, .ref wk, .ref st, .ref bs, .ref eu, .int (ji (Dd)), .int (ji (w))])), (wk, .inr (1, [.long (jl (a)), .long (jl (b)), .long (jl (c))]))]) (As := [.ref wk]) (rest := []) X hK (c_G_step l D cI cJ cF hg hd fb2 fb3 _) co_G_step in_G ml_G_91 im_G_step se_G_step 1 rfl (by decide +kernel) ⟨Nat.le_of_ble_eq_true rfl, Nat.le_of_ble_eq_true rfl⟩ hP hD [0, 1] rfl (by decide) (q0 := 0) (ci := 2) rfl rfl rfl hl.1 rfl (Nat.le_of_ble_eq_true rfl) d_G_turnIntoName_30 ⟨Nat.zero_le _, Nat.zero_le _⟩) hP hD hS hA [0, 1] rfl (by decide) (fun _ => rfl) (fun u_4 H locs hp hP hD hS => ?_)
    have hP : va_P D classes [(g, .inr (2, [.ref o, .ref wk, .ref st, .ref bs, .ref eu, .int (ji (Dd)), .int (ji (w))])), (wk, .inr (1, [.long (jl ((fm_rho Dd w (a, b, c)).1)), .long (jl ((fm_rho Dd w (a, b, c)).2.1)), .long (jl ((fm_rho Dd w (a, b, c)).2.2))])), (st, .inr (1, [.long (jl (a)), .long (jl (b)), .long (jl (c))])), (f, .inr (1, [.long (jl (a)), .long (jl (b)), .long (jl (c))]))] H := hP
    have hD : va_D A [(g, .inr (2, [.ref o, .ref wk, .ref st, .ref bs, .ref eu, .int (ji (Dd)), .int (ji (w))])), (wk, .inr (1, [.long (jl ((fm_rho Dd w (a, b, c)).1)), .long (jl ((fm_rho Dd w (a, b, c)).2.1)), .long (jl ((fm_rho Dd w (a, b, c)).2.2))])), (st, .inr (1, [.long (jl (a)), .long (jl (b)), .long (jl (c))])), (f, .inr (1, [.long (jl (a)), .long (jl (b)), .long (jl (c))]))] := hD
    refine w_iconst hx hb d_G_turnIntoName_33 ?_
    refine lv_istore_n (lv' := [(2, .int (ji (1))), (0, .ref g), (1, .ref f)]) hx hb d_G_turnIntoName_34 rfl hl (by decide) rfl (fun ls hl => ?_)
    refine lpn (I := fun n H locs ls => ∃ (nn : Nat) (za : Int) (zb : Int) (zc : Int), mm - nn = n ∧ (1 ≤ nn ∧ nn ≤ mm ∧ (∀ j : Nat, 0 < j → j < nn → fm_it Dd w j (a, b, c) ≠ (a, b, c)) ∧ (∃ i0 : Nat, i0 < nn ∧ fm_it Dd w i0 (a, b, c) = (za, zb, zc)) ∧ ∀ j : Nat, j < nn → fm_le (za, zb, zc) (fm_it Dd w j (a, b, c))) ∧ va_P D classes [(g, .inr (2, [.ref o, .ref wk, .ref st, .ref bs, .ref eu, .int (ji (Dd)), .int (ji (w))])), (wk, .inr (1, [.long (jl ((fm_it Dd w nn (a, b, c)).1)), .long (jl ((fm_it Dd w nn (a, b, c)).2.1)), .long (jl ((fm_it Dd w nn (a, b, c)).2.2))])), (st, .inr (1, [.long (jl (a)), .long (jl (b)), .long (jl (c))])), (f, .inr (1, [.long (jl (za)), .long (jl (zb)), .long (jl (zc))]))] H ∧ va_D A [(g, .inr (2, [.ref o, .ref wk, .ref st, .ref bs, .ref eu, .int (ji (Dd)), .int (ji (w))])), (wk, .inr (1, [.long (jl ((fm_it Dd w nn (a, b, c)).1)), .long (jl ((fm_it Dd w nn (a, b, c)).2.1)), .long (jl ((fm_it Dd w nn (a, b, c)).2.2))])), (st, .inr (1, [.long (jl (a)), .long (jl (b)), .long (jl (c))])), (f, .inr (1, [.long (jl (za)), .long (jl (zb)), .long (jl (zc))]))] ∧ va_S A s.heap H locs ∧ lv_has ls 3 [(0, .ref g), (1, .ref f), (2, .int (ji (nn)))]) ?_ _ _ _ _ ⟨1, a, b, c, rfl, ⟨by omega, by omega, fun j j1 j2 => by omega, ⟨0, by omega, rfl⟩, fun j j1 => by (have : j = 0 := by omega); rw [this]; exact le_rf _⟩, hP, hD, hS, lv_sub hl [1, 2, 0] rfl⟩
    rintro n H locs ls ⟨nn, za, zb, zc, rfl, hi, hP, hD, hS, hl⟩ ih
    refine lv_iload_n hx hb d_G_turnIntoName_35 rfl (lv_at hl 2 rfl) ?_
    refine w_ldc (v := 1000000) (n := 1000000) hx hb (by decide) hown (hts _ kc_G_86) d_G_turnIntoName_36 ?_
    refine wi_cge hx hb ⟨by omega, by omega⟩ ⟨by decide, by decide⟩ d_G_turnIntoName_38 (tgt := 88) (by decide) (fun h_5 => ?_) (fun h_5 => ?_)
    · exact absurd hi.2.1 (by omega)
    · obtain ⟨i1, i2, i3, ⟨i0, i4, i5⟩, i6⟩ := hi
      have xd := fm_it_disc hg.1 nn hd
      have xr := fm_red_it hg.1 hD0 nn hd hrd
      have xb := red_b30 hg xd xr
      have zb30 : b30 za ∧ b30 zb ∧ b30 zc := by have z0 := red_b30 hg (fm_it_disc hg.1 i0 hd) (fm_red_it hg.1 hD0 i0 hd hrd); rw [i5] at z0; exact z0
      refine lv_aload_n hx hb d_G_turnIntoName_41 rfl (lv_at hl 0 rfl) ?_
      refine va_get (D := D) (ci := 2) (v := .ref wk) (C := R_G) (T := T_G) (N := 7) hx hb hts uw_G hown hK.1 hP 0 rfl rfl 1 (by decide) (hts _ fl_G_18) (fun _ h9 => h9) rfl d_G_turnIntoName_42 ?_
      refine lv_aload_n hx hb d_G_turnIntoName_45 rfl (lv_at hl 0 rfl) ?_
      refine va_get (D := D) (ci := 2) (v := .ref st) (C := R_G) (T := T_G) (N := 7) hx hb hts uw_G hown hK.1 hP 0 rfl rfl 2 (by decide) (hts _ fl_G_21) (fun _ h9 => h9) rfl d_G_turnIntoName_46 ?_
      refine cl_i (rn_VN (wc := [(wk, .inr (1, [.long (jl ((fm_it Dd w nn (a, b, c)).1)), .long (jl ((fm_it Dd w nn (a, b, c)).2.1)), .long (jl ((fm_it Dd w nn (a, b, c)).2.2))])), (st, .inr (1, [.long (jl (a)), .long (jl (b)), .long (jl (c))]))]) (As := [.ref st]) (rest := []) X hK (c_F_matches l D cI cJ cF xb.1.j xb.2.1.j xb.2.2.j fb1.j fb2.j fb3.j _) co_F_matches in_F nm_G_120 im_F_matches se_F_matches 1 rfl (by decide +kernel) ⟨Nat.le_of_ble_eq_true rfl, Nat.le_of_ble_eq_true rfl⟩ hP hD [1, 2] rfl (by decide) (q0 := 0) (ci := 1) rfl rfl rfl hl.1 rfl (Nat.le_of_ble_eq_true rfl) d_G_turnIntoName_49 ⟨Nat.zero_le _, Nat.zero_le _⟩) hP hD hS hA [1, 2] rfl (by decide) (fun _ => rfl) (fun r_6 u_7 H locs hp hP hD hS => ?_)
      obtain ⟨t1, rfl, ht1⟩ := hp
      have hP : va_P D classes [(g, .inr (2, [.ref o, .ref wk, .ref st, .ref bs, .ref eu, .int (ji (Dd)), .int (ji (w))])), (wk, .inr (1, [.long (jl ((fm_it Dd w nn (a, b, c)).1)), .long (jl ((fm_it Dd w nn (a, b, c)).2.1)), .long (jl ((fm_it Dd w nn (a, b, c)).2.2))])), (st, .inr (1, [.long (jl (a)), .long (jl (b)), .long (jl (c))])), (f, .inr (1, [.long (jl (za)), .long (jl (zb)), .long (jl (zc))]))] H := hP
      have hD : va_D A [(g, .inr (2, [.ref o, .ref wk, .ref st, .ref bs, .ref eu, .int (ji (Dd)), .int (ji (w))])), (wk, .inr (1, [.long (jl ((fm_it Dd w nn (a, b, c)).1)), .long (jl ((fm_it Dd w nn (a, b, c)).2.1)), .long (jl ((fm_it Dd w nn (a, b, c)).2.2))])), (st, .inr (1, [.long (jl (a)), .long (jl (b)), .long (jl (c))])), (f, .inr (1, [.long (jl (za)), .long (jl (zb)), .long (jl (zc))]))] := hD
      refine wi_zne hx hb ⟨by omega, by omega⟩ d_G_turnIntoName_52 (tgt := 88) (by decide) (fun h_8 => ?_) (fun h_8 => ?_)
      · have hxf : fm_it Dd w nn (a, b, c) = (a, b, c) := by
          have h3 : (fm_it Dd w nn (a, b, c)).1 = a ∧ (fm_it Dd w nn (a, b, c)).2.1 = b ∧ (fm_it Dd w nn (a, b, c)).2.2 = c := by rcases ht1 with z | z; exact z.2; omega
          exact Prod.ext h3.1 (Prod.ext h3.2.1 h3.2.2)
        have hper : fm_it Dd w ((nn : Int)).toNat (a, b, c) = (a, b, c) := hxf
        have hnmf : fm_nm Dd w (za, zb, zc) (a, b, c) := fm_nm_pos hg.1 hg.2.2.2 hD0 hd hrd (fm_mg.rf _) i5 (fun j => by rw [it_mod (by omega) hxf j]; exact i6 _ (Nat.mod_lt _ (by omega)))
        refine lv_iload_n hx hb d_G_turnIntoName_88 rfl (lv_at hl 2 rfl) ?_
        exact rt_i X hAe hS ((za, zb, zc), fm_it Dd w nn (a, b, c), (a, b, c)) ⟨nn, rfl, hnmf, ⟨fun h => absurd h hD0, fun _ => ⟨by omega, hper, fun j j1 j2 => i3 j j1 (by omega)⟩⟩, by omega, by omega⟩ hP d_G_turnIntoName_89
      · have hxf : fm_it Dd w nn (a, b, c) ≠ (a, b, c) := by
          intro z
          rcases ht1 with y | y
          · omega
          · exact y.2 (by rw [z]; exact ⟨rfl, rfl, rfl⟩)
        have hnm1 : nn ≠ mm := fun z => hxf (by rw [z]; exact hmm)
        refine lv_aload_n hx hb d_G_turnIntoName_55 rfl (lv_at hl 0 rfl) ?_
        refine va_get (D := D) (ci := 2) (v := .ref wk) (C := R_G) (T := T_G) (N := 7) hx hb hts uw_G hown hK.1 hP 0 rfl rfl 1 (by decide) (hts _ fl_G_18) (fun _ h9 => h9) rfl d_G_turnIntoName_56 ?_
        refine lv_aload_n hx hb d_G_turnIntoName_59 rfl (lv_at hl 1 rfl) ?_
        refine cl_i (rn_VN (wc := [(wk, .inr (1, [.long (jl ((fm_it Dd w nn (a, b, c)).1)), .long (jl ((fm_it Dd w nn (a, b, c)).2.1)), .long (jl ((fm_it Dd w nn (a, b, c)).2.2))])), (f, .inr (1, [.long (jl (za)), .long (jl (zb)), .long (jl (zc))]))]) (As := [.ref f]) (rest := []) X hK (c_F_isBefore l D cI cJ cF xb.1.j xb.2.1.j zb30.1.j zb30.2.1.j _) co_F_isBefore in_F nm_G_123 im_F_isBefore se_F_isBefore 1 rfl (by decide +kernel) ⟨Nat.le_of_ble_eq_true rfl, Nat.le_of_ble_eq_true rfl⟩ hP hD [1, 3] rfl (by decide) (q0 := 0) (ci := 1) rfl rfl rfl hl.1 rfl (Nat.le_of_ble_eq_true rfl) d_G_turnIntoName_60 ⟨Nat.zero_le _, Nat.zero_le _⟩) hP hD hS hA [1, 3] rfl (by decide) (fun _ => rfl) (fun r_9 u_10 H locs hp hP hD hS => ?_)
        obtain ⟨t2, rfl, ht2⟩ := hp
        have hP : va_P D classes [(g, .inr (2, [.ref o, .ref wk, .ref st, .ref bs, .ref eu, .int (ji (Dd)), .int (ji (w))])), (wk, .inr (1, [.long (jl ((fm_it Dd w nn (a, b, c)).1)), .long (jl ((fm_it Dd w nn (a, b, c)).2.1)), .long (jl ((fm_it Dd w nn (a, b, c)).2.2))])), (st, .inr (1, [.long (jl (a)), .long (jl (b)), .long (jl (c))])), (f, .inr (1, [.long (jl (za)), .long (jl (zb)), .long (jl (zc))]))] H := hP
        have hD : va_D A [(g, .inr (2, [.ref o, .ref wk, .ref st, .ref bs, .ref eu, .int (ji (Dd)), .int (ji (w))])), (wk, .inr (1, [.long (jl ((fm_it Dd w nn (a, b, c)).1)), .long (jl ((fm_it Dd w nn (a, b, c)).2.1)), .long (jl ((fm_it Dd w nn (a, b, c)).2.2))])), (st, .inr (1, [.long (jl (a)), .long (jl (b)), .long (jl (c))])), (f, .inr (1, [.long (jl (za)), .long (jl (zb)), .long (jl (zc))]))] := hD
        refine wi_zeq hx hb ⟨by omega, by omega⟩ d_G_turnIntoName_63 (tgt := 74) (by decide) (fun h_11 => ?_) (fun h_11 => ?_)
        · have hle : fm_le (za, zb, zc) (fm_it Dd w nn (a, b, c)) := by unfold fm_le; dsimp only; rcases ht2 with z | z <;> omega
          refine lv_aload_n hx hb d_G_turnIntoName_74 rfl (lv_at hl 0 rfl) ?_
          refine lv_aload_n hx hb d_G_turnIntoName_75 rfl (lv_at hl 0 rfl) ?_
          refine va_get (D := D) (ci := 2) (v := .ref wk) (C := R_G) (T := T_G) (N := 7) hx hb hts uw_G hown hK.1 hP 0 rfl rfl 1 (by decide) (hts _ fl_G_18) (fun _ h9 => h9) rfl d_G_turnIntoName_76 ?_
          refine cl_v (rn_V (wc := [(g, .inr (2, [.ref o, .ref wk, .ref st, .ref bs, .ref eu, .int (ji (Dd)), .int (ji (w))])), (wk, .inr (1, [.long (jl ((fm_it Dd w nn (a, b, c)).1)), .long (jl ((fm_it Dd w nn (a, b, c)).2.1)), .long (jl ((fm_it Dd w nn (a, b, c)).2.2))]))]) (As := [.ref wk]) (rest := []) X hK (c_G_step l D cI cJ cF hg xd xb.2.1 xb.2.2 _) co_G_step in_G ml_G_91 im_G_step se_G_step 1 rfl (by decide +kernel) ⟨Nat.le_of_ble_eq_true rfl, Nat.le_of_ble_eq_true rfl⟩ hP hD [0, 1] rfl (by decide) (q0 := 0) (ci := 2) rfl rfl rfl hl.1 rfl (Nat.le_of_ble_eq_true rfl) d_G_turnIntoName_79 ⟨Nat.zero_le _, Nat.zero_le _⟩) hP hD hS hA [0, 1] rfl (by decide) (fun _ => rfl) (fun u_12 H locs hp hP hD hS => ?_)
          have hP : va_P D classes [(g, .inr (2, [.ref o, .ref wk, .ref st, .ref bs, .ref eu, .int (ji (Dd)), .int (ji (w))])), (wk, .inr (1, [.long (jl ((fm_rho Dd w ((fm_it Dd w nn (a, b, c)).1, (fm_it Dd w nn (a, b, c)).2.1, (fm_it Dd w nn (a, b, c)).2.2)).1)), .long (jl ((fm_rho Dd w ((fm_it Dd w nn (a, b, c)).1, (fm_it Dd w nn (a, b, c)).2.1, (fm_it Dd w nn (a, b, c)).2.2)).2.1)), .long (jl ((fm_rho Dd w ((fm_it Dd w nn (a, b, c)).1, (fm_it Dd w nn (a, b, c)).2.1, (fm_it Dd w nn (a, b, c)).2.2)).2.2))])), (st, .inr (1, [.long (jl (a)), .long (jl (b)), .long (jl (c))])), (f, .inr (1, [.long (jl (za)), .long (jl (zb)), .long (jl (zc))]))] H := hP
          have hD : va_D A [(g, .inr (2, [.ref o, .ref wk, .ref st, .ref bs, .ref eu, .int (ji (Dd)), .int (ji (w))])), (wk, .inr (1, [.long (jl ((fm_rho Dd w ((fm_it Dd w nn (a, b, c)).1, (fm_it Dd w nn (a, b, c)).2.1, (fm_it Dd w nn (a, b, c)).2.2)).1)), .long (jl ((fm_rho Dd w ((fm_it Dd w nn (a, b, c)).1, (fm_it Dd w nn (a, b, c)).2.1, (fm_it Dd w nn (a, b, c)).2.2)).2.1)), .long (jl ((fm_rho Dd w ((fm_it Dd w nn (a, b, c)).1, (fm_it Dd w nn (a, b, c)).2.1, (fm_it Dd w nn (a, b, c)).2.2)).2.2))])), (st, .inr (1, [.long (jl (a)), .long (jl (b)), .long (jl (c))])), (f, .inr (1, [.long (jl (za)), .long (jl (zb)), .long (jl (zc))]))] := hD
          refine lv_iinc (v := ji ((nn) + (1))) (lv' := [(2, .int (ji ((nn) + (1)))), (0, .ref g), (1, .ref f)]) hx hb d_G_turnIntoName_82 hl (k := 2) rfl (ji_add _ _) (by decide) rfl (fun ls hl => ?_)
          refine lv_goto (tgt := 35) hx hb d_G_turnIntoName_85 (by decide) ?_
          have e1 : fm_rho Dd w ((fm_it Dd w nn (a, b, c)).1, (fm_it Dd w nn (a, b, c)).2.1, (fm_it Dd w nn (a, b, c)).2.2) = fm_it Dd w (nn + 1) (a, b, c) := (fm_it_succ Dd w nn (a, b, c)).symm
          rw [e1] at hP hD
          exact ih _ _ _ _ (by omega) ⟨nn + 1, za, zb, zc, rfl, ⟨by omega, by omega, fun j j1 j2 => by rcases Nat.lt_or_ge j nn with z | z; exact i3 j j1 z; (have : j = nn := by omega); rw [this]; exact hxf, ⟨i0, by omega, i5⟩, fun j j1 => by rcases Nat.lt_or_ge j nn with z | z; exact i6 j z; (have : j = nn := by omega); rw [this]; exact hle⟩, hP, hD, hS, lv_sub hl [1, 2, 0] rfl⟩
        · have hle : fm_le (fm_it Dd w nn (a, b, c)) (za, zb, zc) := by unfold fm_le; dsimp only; rcases ht2 with z | z <;> omega
          refine lv_aload_n hx hb d_G_turnIntoName_66 rfl (lv_at hl 1 rfl) ?_
          refine lv_aload_n hx hb d_G_turnIntoName_67 rfl (lv_at hl 0 rfl) ?_
          refine va_get (D := D) (ci := 2) (v := .ref wk) (C := R_G) (T := T_G) (N := 7) hx hb hts uw_G hown hK.1 hP 0 rfl rfl 1 (by decide) (hts _ fl_G_18) (fun _ h9 => h9) rfl d_G_turnIntoName_68 ?_
          refine cl_v (rn_VN (wc := [(f, .inr (1, [.long (jl (za)), .long (jl (zb)), .long (jl (zc))])), (wk, .inr (1, [.long (jl ((fm_it Dd w nn (a, b, c)).1)), .long (jl ((fm_it Dd w nn (a, b, c)).2.1)), .long (jl ((fm_it Dd w nn (a, b, c)).2.2))]))]) (As := [.ref wk]) (rest := []) X hK (c_F_copy l D cI cJ cF  _) co_F_copy in_F nm_G_117 im_F_copy se_F_copy 1 rfl (by decide +kernel) ⟨Nat.le_of_ble_eq_true rfl, Nat.le_of_ble_eq_true rfl⟩ hP hD [3, 1] rfl (by decide) (q0 := 0) (ci := 1) rfl rfl rfl hl.1 rfl (Nat.le_of_ble_eq_true rfl) d_G_turnIntoName_71 ⟨Nat.zero_le _, Nat.zero_le _⟩) hP hD hS hA [3, 1] rfl (by decide) (fun _ => rfl) (fun u_13 H locs hp hP hD hS => ?_)
          have hP : va_P D classes [(g, .inr (2, [.ref o, .ref wk, .ref st, .ref bs, .ref eu, .int (ji (Dd)), .int (ji (w))])), (wk, .inr (1, [.long (jl ((fm_it Dd w nn (a, b, c)).1)), .long (jl ((fm_it Dd w nn (a, b, c)).2.1)), .long (jl ((fm_it Dd w nn (a, b, c)).2.2))])), (st, .inr (1, [.long (jl (a)), .long (jl (b)), .long (jl (c))])), (f, .inr (1, [.long (jl ((fm_it Dd w nn (a, b, c)).1)), .long (jl ((fm_it Dd w nn (a, b, c)).2.1)), .long (jl ((fm_it Dd w nn (a, b, c)).2.2))]))] H := hP
          have hD : va_D A [(g, .inr (2, [.ref o, .ref wk, .ref st, .ref bs, .ref eu, .int (ji (Dd)), .int (ji (w))])), (wk, .inr (1, [.long (jl ((fm_it Dd w nn (a, b, c)).1)), .long (jl ((fm_it Dd w nn (a, b, c)).2.1)), .long (jl ((fm_it Dd w nn (a, b, c)).2.2))])), (st, .inr (1, [.long (jl (a)), .long (jl (b)), .long (jl (c))])), (f, .inr (1, [.long (jl ((fm_it Dd w nn (a, b, c)).1)), .long (jl ((fm_it Dd w nn (a, b, c)).2.1)), .long (jl ((fm_it Dd w nn (a, b, c)).2.2))]))] := hD
          refine lv_aload_n hx hb d_G_turnIntoName_74 rfl (lv_at hl 0 rfl) ?_
          refine lv_aload_n hx hb d_G_turnIntoName_75 rfl (lv_at hl 0 rfl) ?_
          refine va_get (D := D) (ci := 2) (v := .ref wk) (C := R_G) (T := T_G) (N := 7) hx hb hts uw_G hown hK.1 hP 0 rfl rfl 1 (by decide) (hts _ fl_G_18) (fun _ h9 => h9) rfl d_G_turnIntoName_76 ?_
          refine cl_v (rn_V (wc := [(g, .inr (2, [.ref o, .ref wk, .ref st, .ref bs, .ref eu, .int (ji (Dd)), .int (ji (w))])), (wk, .inr (1, [.long (jl ((fm_it Dd w nn (a, b, c)).1)), .long (jl ((fm_it Dd w nn (a, b, c)).2.1)), .long (jl ((fm_it Dd w nn (a, b, c)).2.2))]))]) (As := [.ref wk]) (rest := []) X hK (c_G_step l D cI cJ cF hg xd xb.2.1 xb.2.2 _) co_G_step in_G ml_G_91 im_G_step se_G_step 1 rfl (by decide +kernel) ⟨Nat.le_of_ble_eq_true rfl, Nat.le_of_ble_eq_true rfl⟩ hP hD [0, 1] rfl (by decide) (q0 := 0) (ci := 2) rfl rfl rfl hl.1 rfl (Nat.le_of_ble_eq_true rfl) d_G_turnIntoName_79 ⟨Nat.zero_le _, Nat.zero_le _⟩) hP hD hS hA [0, 1] rfl (by decide) (fun _ => rfl) (fun u_14 H locs hp hP hD hS => ?_)
          have hP : va_P D classes [(g, .inr (2, [.ref o, .ref wk, .ref st, .ref bs, .ref eu, .int (ji (Dd)), .int (ji (w))])), (wk, .inr (1, [.long (jl ((fm_rho Dd w ((fm_it Dd w nn (a, b, c)).1, (fm_it Dd w nn (a, b, c)).2.1, (fm_it Dd w nn (a, b, c)).2.2)).1)), .long (jl ((fm_rho Dd w ((fm_it Dd w nn (a, b, c)).1, (fm_it Dd w nn (a, b, c)).2.1, (fm_it Dd w nn (a, b, c)).2.2)).2.1)), .long (jl ((fm_rho Dd w ((fm_it Dd w nn (a, b, c)).1, (fm_it Dd w nn (a, b, c)).2.1, (fm_it Dd w nn (a, b, c)).2.2)).2.2))])), (st, .inr (1, [.long (jl (a)), .long (jl (b)), .long (jl (c))])), (f, .inr (1, [.long (jl ((fm_it Dd w nn (a, b, c)).1)), .long (jl ((fm_it Dd w nn (a, b, c)).2.1)), .long (jl ((fm_it Dd w nn (a, b, c)).2.2))]))] H := hP
          have hD : va_D A [(g, .inr (2, [.ref o, .ref wk, .ref st, .ref bs, .ref eu, .int (ji (Dd)), .int (ji (w))])), (wk, .inr (1, [.long (jl ((fm_rho Dd w ((fm_it Dd w nn (a, b, c)).1, (fm_it Dd w nn (a, b, c)).2.1, (fm_it Dd w nn (a, b, c)).2.2)).1)), .long (jl ((fm_rho Dd w ((fm_it Dd w nn (a, b, c)).1, (fm_it Dd w nn (a, b, c)).2.1, (fm_it Dd w nn (a, b, c)).2.2)).2.1)), .long (jl ((fm_rho Dd w ((fm_it Dd w nn (a, b, c)).1, (fm_it Dd w nn (a, b, c)).2.1, (fm_it Dd w nn (a, b, c)).2.2)).2.2))])), (st, .inr (1, [.long (jl (a)), .long (jl (b)), .long (jl (c))])), (f, .inr (1, [.long (jl ((fm_it Dd w nn (a, b, c)).1)), .long (jl ((fm_it Dd w nn (a, b, c)).2.1)), .long (jl ((fm_it Dd w nn (a, b, c)).2.2))]))] := hD
          refine lv_iinc (v := ji ((nn) + (1))) (lv' := [(2, .int (ji ((nn) + (1)))), (0, .ref g), (1, .ref f)]) hx hb d_G_turnIntoName_82 hl (k := 2) rfl (ji_add _ _) (by decide) rfl (fun ls hl => ?_)
          refine lv_goto (tgt := 35) hx hb d_G_turnIntoName_85 (by decide) ?_
          have e1 : fm_rho Dd w ((fm_it Dd w nn (a, b, c)).1, (fm_it Dd w nn (a, b, c)).2.1, (fm_it Dd w nn (a, b, c)).2.2) = fm_it Dd w (nn + 1) (a, b, c) := (fm_it_succ Dd w nn (a, b, c)).symm
          rw [e1] at hP hD
          exact ih _ _ _ _ (by omega) ⟨nn + 1, (fm_it Dd w nn (a, b, c)).1, (fm_it Dd w nn (a, b, c)).2.1, (fm_it Dd w nn (a, b, c)).2.2, rfl, ⟨by omega, by omega, fun j j1 j2 => by rcases Nat.lt_or_ge j nn with z | z; exact i3 j j1 z; (have : j = nn := by omega); rw [this]; exact hxf, ⟨nn, by omega, rfl⟩, fun j j1 => by rcases Nat.lt_or_ge j nn with z | z; exact le_tr hle (i6 j z); (have : j = nn := by omega); rw [this]; exact le_rf _⟩, hP, hD, hS, lv_sub hl [1, 2, 0] rfl⟩
  · refine w_iconst hx hb d_G_turnIntoName_7 ?_
    exact rt_i X hAe hS ((a, b, c), (x1, x2, x3), (y1, y2, y3)) ⟨1, rfl, fm_nm_neg hg.1 (by omega) hd hrd (fm_mg.rf _), ⟨fun _ => rfl, fun h => absurd h (by omega)⟩, by decide, by decide⟩ hP d_G_turnIntoName_8

set_option maxHeartbeats 4000000 in
set_option maxRecDepth 100000 in
theorem c_G_turn (l : Launch) (D : va_G) (cI cJ cF : ClassId) {g o wk st bs eu : Nat} {Dd w : Int} {f : Nat} {a b c : Int} (hg : gD Dd w) (hd : fm_disc Dd (a, b, c)) (hpos : Dd < 0 → 0 < a) (ha : b30 a) (hb2 : b30 b) (hc2 : b30 c) : ∀ sz, Met l y_G_turn (Cond.code y_G_turn b_G_turn 2 none :: wb) { frames := 4, cells := 0, slots := 0, locals := 100 } (va_Pc [.ref g, .ref f] (cpre D cI cJ cF [(g, .inr (2, [.ref o, .ref wk, .ref st, .ref bs, .ref eu, .int (ji (Dd)), .int (ji (w))])), (f, .inr (1, [.long (jl (a)), .long (jl (b)), .long (jl (c))]))] sz)) (va_Qv (fun (u : fm_F) => fm_disc Dd u ∧ fm_red Dd w u ∧ fm_mg Dd w u (a, -b, c)) (fun (u : fm_F) t => va_P D classes [(g, .inr (2, [.ref o, .ref wk, .ref st, .ref bs, .ref eu, .int (ji (Dd)), .int (ji (w))])), (f, .inr (1, [.long (jl ((u).1)), .long (jl ((u).2.1)), .long (jl ((u).2.2))]))] t.heap) (va_A [(g, .inr (2, [.ref o, .ref wk, .ref st, .ref bs, .ref eu, .int (ji (Dd)), .int (ji (w))])), (f, .inr (1, [.long (jl (a)), .long (jl (b)), .long (jl (c))]))] sz)) 0 0 (va_A [(g, .inr (2, [.ref o, .ref wk, .ref st, .ref bs, .ref eu, .int (ji (Dd)), .int (ji (w))])), (f, .inr (1, [.long (jl (a)), .long (jl (b)), .long (jl (c))]))] sz) := by
  refine c_of (Qc := fun sz => va_Qv (fun (u : fm_F) => fm_disc Dd u ∧ fm_red Dd w u ∧ fm_mg Dd w u (a, -b, c)) (fun (u : fm_F) t => va_P D classes [(g, .inr (2, [.ref o, .ref wk, .ref st, .ref bs, .ref eu, .int (ji (Dd)), .int (ji (w))])), (f, .inr (1, [.long (jl ((u).1)), .long (jl ((u).2.1)), .long (jl ((u).2.2))]))] t.heap) (va_A [(g, .inr (2, [.ref o, .ref wk, .ref st, .ref bs, .ref eu, .int (ji (Dd)), .int (ji (w))])), (f, .inr (1, [.long (jl (a)), .long (jl (b)), .long (jl (c))]))] sz)) (by decide +kernel) co_G_turn (Nat.le_of_ble_eq_true rfl) ?_
  intro pq eq s mq below meth cq A X hK hP hD hS hA hAe ls hl
  obtain ⟨hx, hb, hml, hown, hr, hlocks, hts⟩ := id X
  have hl : lv_has ls 2 [(0, .ref g), (1, .ref f)] := hl
  have hbn : b30 (-b) := ⟨by have := hb2.2; omega, by have := hb2.1; omega⟩
  refine lv_aload_n hx hb d_G_turn_0 rfl (lv_at hl 1 rfl) ?_
  refine lv_aload_n hx hb d_G_turn_1 rfl (lv_at hl 1 rfl) ?_
  refine va_getN (D := D) (ci := 1) (v := .long (jl (b))) (C := R_F) (T := T_F) (N := 3) hx hb hts uw_F hown hK.1 hP 1 rfl rfl 1 (by decide) ((hK.2 _ nf_G_97).use rfl) (fun _ h9 => h9) rfl d_G_turn_2 ?_
  refine wl_neg hx hb d_G_turn_5 ?_
  refine va_putN (D := D) (ci := 1) (v := .long (jl (-(b)))) (ty := .long) (C := R_F) (T := T_F) (N := 3) hx hb hts uw_F ty_F ty_F_ok nm_F hown hK.1 hP hD hS 1 rfl rfl 1 (by decide) ((hK.2 _ nf_G_97).use rfl) (fun _ h9 => h9) rfl (by decide +kernel) rfl rfl (Nat.le_of_ble_eq_true rfl) d_G_turn_6 (fun H locs hP hD hS => ?_)
  have hP : va_P D classes [(g, .inr (2, [.ref o, .ref wk, .ref st, .ref bs, .ref eu, .int (ji (Dd)), .int (ji (w))])), (f, .inr (1, [.long (jl (a)), .long (jl (-(b))), .long (jl (c))]))] H := hP
  have hD : va_D A [(g, .inr (2, [.ref o, .ref wk, .ref st, .ref bs, .ref eu, .int (ji (Dd)), .int (ji (w))])), (f, .inr (1, [.long (jl (a)), .long (jl (-(b))), .long (jl (c))]))] := hD
  refine lv_aload_n hx hb d_G_turn_9 rfl (lv_at hl 0 rfl) ?_
  refine lv_aload_n hx hb d_G_turn_10 rfl (lv_at hl 1 rfl) ?_
  refine cl_v (rn_V (wc := [(g, .inr (2, [.ref o, .ref wk, .ref st, .ref bs, .ref eu, .int (ji (Dd)), .int (ji (w))])), (f, .inr (1, [.long (jl (a)), .long (jl (-(b))), .long (jl (c))]))]) (As := [.ref f]) (rest := []) X hK (c_G_reduce l D cI cJ cF hg (fm_inv_disc hd) hpos ha.1 ha.2 hbn (fun _ => hc2) _) co_G_reduce in_G ml_G_49 im_G_reduce se_G_reduce 1 rfl (by decide +kernel) ⟨Nat.le_of_ble_eq_true rfl, Nat.le_of_ble_eq_true rfl⟩ hP hD [0, 1] rfl (by decide) (q0 := 0) (ci := 2) rfl rfl rfl hl.1 rfl (Nat.le_of_ble_eq_true rfl) d_G_turn_11 ⟨Nat.zero_le _, Nat.zero_le _⟩) hP hD hS hA [0, 1] rfl (by decide) (fun _ => rfl) (fun u_1 H locs hp hP hD hS => ?_)
  have hred : fm_disc Dd u_1 ∧ fm_red Dd w u_1 ∧ fm_mg Dd w u_1 (a, -b, c) := hp
  have hP : va_P D classes [(g, .inr (2, [.ref o, .ref wk, .ref st, .ref bs, .ref eu, .int (ji (Dd)), .int (ji (w))])), (f, .inr (1, [.long (jl ((u_1).1)), .long (jl ((u_1).2.1)), .long (jl ((u_1).2.2))]))] H := hP
  have hD : va_D A [(g, .inr (2, [.ref o, .ref wk, .ref st, .ref bs, .ref eu, .int (ji (Dd)), .int (ji (w))])), (f, .inr (1, [.long (jl ((u_1).1)), .long (jl ((u_1).2.1)), .long (jl ((u_1).2.2))]))] := hD
  exact rt_v X hAe hS u_1 hred hP d_G_turn_14
end
section
/-! What Euclid's way and the product need of numbers. -/
/-- Euclid's way, k steps from its end at most: common, left, right, and the next ones -/
def eI (p q : Int) (k : Nat) (c l r nc nl nr : Int) : Prop :=
  l * p + r * q = c ∧ nl * p + nr * q = nc ∧ (∀ d : Int, d ∣ c → d ∣ nc → d ∣ p ∧ d ∣ q) ∧ (b30 c ∧ b30 nc) ∧
  (((0 ≤ l * nc ∧ nl * c ≤ 0) ∨ (l * nc ≤ 0 ∧ 0 ≤ nl * c)) ∧ (l * nc - nl * c = q ∨ l * nc - nl * c = -q)) ∧
  (((0 ≤ r * nc ∧ nr * c ≤ 0) ∨ (r * nc ≤ 0 ∧ 0 ≤ nr * c)) ∧ (r * nc - nr * c = p ∨ r * nc - nr * c = -p)) ∧
  (fm_ab l ≤ fm_ab q + 1 ∧ fm_ab r ≤ fm_ab p + 1) ∧ (c ≠ 0 ∨ (fm_ab nl ≤ 1 ∧ fm_ab nr ≤ 1)) ∧
  ((fm_ab nc ≤ fm_ab c ∧ fm_ab c * fm_ab nc < 2 ^ k) ∨ (fm_ab c < fm_ab nc ∧ ∃ k', k = k' + 1 ∧ fm_ab c * fm_ab nc < 2 ^ k'))
theorem eI_0 {p q : Int} (hp : b30 p) (hq : b30 q) : eI p q 62 p 1 0 q 0 1 := by
  have a1 := hp.ab
  have a2 := hq.ab
  have m := Int.mul_le_mul a1.2 a2.2 a2.1 (by decide)
  refine ⟨by omega, by omega, fun d h1 h2 => ⟨h1, h2⟩, ⟨hp, hq⟩, ⟨?_, ?_⟩, ⟨?_, ?_⟩, ⟨?_, ?_⟩, ?_, ?_⟩
  · rcases Int.le_total 0 q with z | z
    · left; omega
    · right; omega
  · left; omega
  · rcases Int.le_total 0 p with z | z
    · right; omega
    · left; omega
  · right; omega
  · have : fm_ab 1 = 1 := rfl
    omega
  · have : fm_ab 0 = 0 := rfl
    omega
  · right
    exact ⟨by decide, by decide⟩
  · rcases Int.lt_or_le (fm_ab p) (fm_ab q) with z | z
    · right
      exact ⟨z, 61, rfl, by have : (2 : Int) ^ 61 = 2305843009213693952 := by decide
                            omega⟩
    · left
      exact ⟨z, by have : (2 : Int) ^ 62 = 4611686018427387904 := by decide
                   omega⟩
theorem ab_mul_lt {x y B : Int} (hy : y ≠ 0) (h1 : -B ≤ x * y) (h2 : x * y ≤ B) : fm_ab x ≤ B := by
  have h3 := fm_ab_mul x y
  have h4 := fm_ab_pos hy
  have h5 : 0 ≤ fm_ab x := by rcases fm_ab_cases x with k | k <;> omega
  have h6 := Int.mul_le_mul_of_nonneg_left (show 1 ≤ fm_ab y by omega) h5
  rw [Int.mul_one] at h6
  rcases fm_ab_cases (x * y) with k | k <;> omega
/-- remainders of Java's: the sign of the dividend, smaller than the divisor -/
theorem tm_facts (c : Int) {n : Int} (hn : n ≠ 0) : fm_ab (c - c.tdiv n * n) < fm_ab n ∧ (0 ≤ c → 0 ≤ c - c.tdiv n * n ∧ 0 ≤ c.tdiv n * n) ∧ (c ≤ 0 → c - c.tdiv n * n ≤ 0 ∧ c.tdiv n * n ≤ 0) := by
  have e : c - c.tdiv n * n = c.tmod n := by
    have := Int.mul_tdiv_add_tmod c n
    have e2 : c.tdiv n * n = n * c.tdiv n := Int.mul_comm _ _
    omega
  have hab : fm_ab n = n.natAbs := by rcases fm_ab_cases n with k | k <;> omega
  have hnp := fm_ab_pos hn
  have key : ∀ c : Int, 0 ≤ c → 0 ≤ c.tmod n ∧ c.tmod n < fm_ab n ∧ c.tmod n ≤ c := by
    intro c hc
    have h1 := Int.tmod_nonneg n hc
    rw [Int.tmod_eq_emod_of_nonneg hc] at h1 ⊢
    have h2 := Int.emod_lt c hn
    refine ⟨h1, by omega, ?_⟩
    rcases Int.lt_or_le c (fm_ab n) with z | z
    · have : c % n = c := by
        rcases fm_ab_cases n with k | k
        · exact Int.emod_eq_of_lt hc (by omega)
        · rw [← Int.emod_neg]
          exact Int.emod_eq_of_lt hc (by omega)
      omega
    · omega
  rw [e]
  rcases Int.le_total 0 c with z | z
  · obtain ⟨k1, k2, k3⟩ := key c z
    refine ⟨by rcases fm_ab_cases (c.tmod n) with y | y <;> omega, fun _ => ⟨k1, by omega⟩, fun h => ?_⟩
    have : c = 0 := by omega
    subst this
    have e0 : (0 : Int).tmod n = 0 := Int.zero_tmod n
    omega
  · obtain ⟨k1, k2, k3⟩ := key (-c) (by omega)
    rw [Int.neg_tmod] at k1 k2 k3
    refine ⟨by rcases fm_ab_cases (c.tmod n) with y | y <;> omega, fun h => ?_, fun _ => ⟨by omega, by omega⟩⟩
    have : c = 0 := by omega
    subst this
    have e0 : (0 : Int).tmod n = 0 := Int.zero_tmod n
    omega
theorem sg_step {l nl c nc n1 t : Int} (h : (0 ≤ l * nc ∧ nl * c ≤ 0) ∨ (l * nc ≤ 0 ∧ 0 ≤ nl * c)) (f1 : 0 ≤ c → 0 ≤ n1 ∧ 0 ≤ t * nc) (f2 : c ≤ 0 → n1 ≤ 0 ∧ t * nc ≤ 0) : (0 ≤ nl * n1 ∧ (l - t * nl) * nc ≤ 0) ∨ (nl * n1 ≤ 0 ∧ 0 ≤ (l - t * nl) * nc) := by
  have e : (l - t * nl) * nc = l * nc - nl * (t * nc) := by grind
  rw [e]
  rcases Int.lt_trichotomy c 0 with k | k | k
  · obtain ⟨g1, g2⟩ := f2 (by omega)
    rcases h with ⟨h1, h2⟩ | ⟨h1, h2⟩
    · have hnl : 0 ≤ nl := by
        rcases Int.lt_or_le nl 0 with z | z
        · have := Int.mul_pos_of_neg_of_neg z k; omega
        · exact z
      right
      exact ⟨Int.mul_nonpos_of_nonneg_of_nonpos hnl g1, by have := Int.mul_nonpos_of_nonneg_of_nonpos hnl g2; omega⟩
    · have hnl : nl ≤ 0 := by
        rcases Int.lt_or_le 0 nl with z | z
        · have := Int.mul_neg_of_pos_of_neg z k; omega
        · exact z
      left
      exact ⟨Int.mul_nonneg_of_nonpos_of_nonpos hnl g1, by have := Int.mul_nonneg_of_nonpos_of_nonpos hnl g2; omega⟩
  · subst k
    obtain ⟨g1, g2⟩ := f1 (Int.le_refl 0)
    obtain ⟨g3, g4⟩ := f2 (Int.le_refl 0)
    have z1 : n1 = 0 := by omega
    have z2 : t * nc = 0 := by omega
    rw [z1, z2, Int.mul_zero]
    rcases h with ⟨h1, h2⟩ | ⟨h1, h2⟩
    · right; omega
    · left; omega
  · obtain ⟨g1, g2⟩ := f1 (by omega)
    rcases h with ⟨h1, h2⟩ | ⟨h1, h2⟩
    · have hnl : nl ≤ 0 := by
        rcases Int.lt_or_le 0 nl with z | z
        · have := Int.mul_pos z k; omega
        · exact z
      right
      exact ⟨Int.mul_nonpos_of_nonpos_of_nonneg hnl g1, by have := Int.mul_nonpos_of_nonpos_of_nonneg hnl g2; omega⟩
    · have hnl : 0 ≤ nl := by
        rcases Int.lt_or_le nl 0 with z | z
        · have := Int.mul_neg_of_neg_of_pos z k; omega
        · exact z
      left
      exact ⟨Int.mul_nonneg hnl g1, by have := Int.mul_nonneg hnl g2; omega⟩
theorem sg_bd {l nl c nc q : Int} (h : (0 ≤ l * nc ∧ nl * c ≤ 0) ∨ (l * nc ≤ 0 ∧ 0 ≤ nl * c)) (h7 : l * nc - nl * c = q ∨ l * nc - nl * c = -q) (h12 : c ≠ 0 ∨ fm_ab nl ≤ 1) : fm_ab nl ≤ fm_ab q + 1 := by
  rcases h12 with z | z
  · have := ab_mul_lt (x := nl) (y := c) (B := fm_ab q) z (by rcases fm_ab_cases q with y | y <;> omega) (by rcases fm_ab_cases q with y | y <;> omega)
    omega
  · have : 0 ≤ fm_ab q := by rcases fm_ab_cases q with y | y <;> omega
    omega
theorem eI_s {p q : Int} {k : Nat} {c l r nc nl nr : Int} (h : eI p q k c l r nc nl nr) (hn : nc ≠ 0) : ∃ k', k = k' + 1 ∧ eI p q k' nc nl nr (c - c.tdiv nc * nc) (l - c.tdiv nc * nl) (r - c.tdiv nc * nr) := by
  obtain ⟨h1, h2, h3, ⟨h4, h5⟩, ⟨h6, h7⟩, ⟨h8, h9⟩, ⟨h10, h11⟩, h12, h13⟩ := h
  obtain ⟨t1, t2, t3⟩ := tm_facts c hn
  have hN := fm_ab_pos hn
  have hn1 : 0 ≤ fm_ab (c - c.tdiv nc * nc) := by rcases fm_ab_cases (c - c.tdiv nc * nc) with z | z <;> omega
  have hfuel : ∃ k', k = k' + 1 ∧ (fm_ab nc * fm_ab (c - c.tdiv nc * nc) < 2 ^ k') := by
    rcases h13 with ⟨g1, g2⟩ | ⟨g1, k', rfl, g2⟩
    · have hc : c ≠ 0 := by
        intro z
        have : fm_ab c = 0 := by rw [z]; rfl
        omega
      have hC := fm_ab_pos hc
      have hk : k ≠ 0 := by
        intro z
        subst z
        have e : (2 : Int) ^ 0 = 1 := rfl
        have := Int.mul_le_mul (show 1 ≤ fm_ab c by omega) (show 1 ≤ fm_ab nc by omega) (by decide) (by omega)
        omega
      obtain ⟨k', rfl⟩ : ∃ k', k = k' + 1 := ⟨k - 1, by omega⟩
      refine ⟨k', rfl, ?_⟩
      have e : (2 : Int) ^ (k' + 1) = 2 ^ k' * 2 := Int.pow_succ 2 k'
      -- |c| is not below |nc| + |n1|
      have hsum : 2 * fm_ab (c - c.tdiv nc * nc) ≤ fm_ab c := by
        have hq : c.tdiv nc * nc ≠ 0 := by
          intro z
          rw [z, Int.sub_zero] at t1
          omega
        have hq2 : c.tdiv nc ≠ 0 := by
          intro z
          rw [z, Int.zero_mul] at hq
          exact hq rfl
        have hm := fm_ab_mul (c.tdiv nc) nc
        have hqp := fm_ab_pos hq2
        have h7 := Int.mul_le_mul_of_nonneg_right (show 1 ≤ fm_ab (c.tdiv nc) by omega) (show 0 ≤ fm_ab nc by omega)
        rw [Int.one_mul] at h7
        rcases Int.le_total 0 c with z | z
        · obtain ⟨s1, s2⟩ := t2 z
          rcases fm_ab_cases c with y | y <;> rcases fm_ab_cases (c - c.tdiv nc * nc) with x | x <;> rcases fm_ab_cases (c.tdiv nc * nc) with v | v <;> omega
        · obtain ⟨s1, s2⟩ := t3 z
          rcases fm_ab_cases c with y | y <;> rcases fm_ab_cases (c - c.tdiv nc * nc) with x | x <;> rcases fm_ab_cases (c.tdiv nc * nc) with v | v <;> omega
      have hm := Int.mul_le_mul_of_nonneg_left hsum (show 0 ≤ fm_ab nc by omega)
      have e2 : fm_ab nc * (2 * fm_ab (c - c.tdiv nc * nc)) = 2 * (fm_ab nc * fm_ab (c - c.tdiv nc * nc)) := by grind
      have e3 : fm_ab nc * fm_ab c = fm_ab c * fm_ab nc := Int.mul_comm _ _
      omega
    · refine ⟨k', rfl, ?_⟩
      have hle : fm_ab (c - c.tdiv nc * nc) ≤ fm_ab c := by
        rcases Int.le_total 0 c with z | z
        · obtain ⟨s1, s2⟩ := t2 z
          rcases fm_ab_cases c with y | y <;> rcases fm_ab_cases (c - c.tdiv nc * nc) with x | x <;> omega
        · obtain ⟨s1, s2⟩ := t3 z
          rcases fm_ab_cases c with y | y <;> rcases fm_ab_cases (c - c.tdiv nc * nc) with x | x <;> omega
      have hm := Int.mul_le_mul_of_nonneg_left hle (show 0 ≤ fm_ab nc by omega)
      have e3 : fm_ab nc * fm_ab c = fm_ab c * fm_ab nc := Int.mul_comm _ _
      omega
  obtain ⟨k', rfl, hf⟩ := hfuel
  refine ⟨k', rfl, h2, ?_, ?_, ⟨h5, ?_⟩, ⟨sg_step h6 t2 t3, ?_⟩, ⟨sg_step h8 t2 t3, ?_⟩, ⟨?_, ?_⟩, Or.inl hn, Or.inl ⟨by omega, hf⟩⟩
  · rw [← h1, ← h2]
    generalize (l * p + r * q).tdiv (nl * p + nr * q) = t
    grind
  · intro d d1 d2
    refine h3 d ?_ d1
    have e : c = (c - c.tdiv nc * nc) + c.tdiv nc * nc := by omega
    rw [e]
    exact Int.dvd_add d2 (Int.dvd_trans d1 (Int.dvd_mul_left _ _))
  · have := h5.ab
    rcases fm_ab_cases (c - c.tdiv nc * nc) with z | z <;> exact ⟨by omega, by omega⟩
  · have e : nl * (c - c.tdiv nc * nc) - (l - c.tdiv nc * nl) * nc = -(l * nc - nl * c) := by grind
    rw [e]
    rcases h7 with z | z
    · right; rw [z]
    · left; rw [z, Int.neg_neg]
  · have e : nr * (c - c.tdiv nc * nc) - (r - c.tdiv nc * nr) * nc = -(r * nc - nr * c) := by grind
    rw [e]
    rcases h9 with z | z
    · right; rw [z]
    · left; rw [z, Int.neg_neg]
  · exact sg_bd h6 h7 (h12.imp_right (fun z => z.1))
  · exact sg_bd h8 h9 (h12.imp_right (fun z => z.2))
/-- what Euclid's way leaves -/
def eP (p q g x y : Int) : Prop := x * p + y * q = g ∧ 0 ≤ g ∧ g ∣ p ∧ g ∣ q ∧ b30 g ∧ fm_ab x ≤ fm_ab q + 1 ∧ fm_ab y ≤ fm_ab p + 1
theorem eI_e {p q : Int} {k : Nat} {c l r nl nr : Int} (h : eI p q k c l r 0 nl nr) : (¬ c < 0 → eP p q c l r) ∧ (c < 0 → eP p q (-c) (-l) (-r)) := by
  obtain ⟨h1, h2, h3, ⟨h4, h5⟩, -, -, ⟨h10, h11⟩, h12, h13⟩ := h
  obtain ⟨d1, d2⟩ := h3 c (Int.dvd_refl c) (Int.dvd_zero c)
  refine ⟨fun z => ⟨h1, by omega, d1, d2, h4, h10, h11⟩, fun z => ⟨by rw [← h1]; grind, by omega, Int.neg_dvd.mpr d1, Int.neg_dvd.mpr d2, ⟨by have := h4.2; omega, by have := h4.1; omega⟩, by rw [fm_ab_neg]; exact h10, by rw [fm_ab_neg]; exact h11⟩⟩
end
section
/-! The product as the class works it out. -/
theorem pr_rho {D w : Int} {g : fm_F} (h : fm_ok D w) (hd : fm_disc D g) : fm_pr g ↔ fm_pr (fm_rho D w g) := by
  obtain ⟨a, b, c⟩ := g
  obtain ⟨k, hk, -, -⟩ := fm_rho_ex (w := w) (fm_ne h hd).2 hd
  rw [hk]
  constructor
  · rintro ⟨i, j, l, e⟩
    dsimp only at e
    refine ⟨l - i * (k * k) + 2 * k * (i * k + j), -(i * k + j), i, ?_⟩
    dsimp only
    rw [← e]
    grind
  · rintro ⟨i, j, l, e⟩
    dsimp only at e
    refine ⟨l, -j - l * k, i + 2 * j * k + l * (k * k), ?_⟩
    dsimp only
    rw [← e]
    grind
theorem pr_it {D w : Int} (h : fm_ok D w) (n : Nat) {g : fm_F} (hd : fm_disc D g) : fm_pr g ↔ fm_pr (fm_it D w n g) := by
  induction n generalizing g with
  | zero => exact Iff.rfl
  | succ n ih => exact (pr_rho h hd).trans (ih (fm_rho_disc h hd))
theorem pr_mg {D w : Int} {f g : fm_F} (h : fm_ok D w) (hf : fm_disc D f) (hg : fm_disc D g) (hm : fm_mg D w f g) : fm_pr f ↔ fm_pr g := by
  obtain ⟨i, j, e⟩ := hm
  rw [pr_it h i hf, e, ← pr_it h j hg]
/-- a reduced form of the class of a form that can be taken can be taken -/
theorem v_mg {D w : Int} {f u : fm_F} (h : fm_ok D w) (hf : fm_v D f) (hd : fm_disc D u) (hr : fm_red D w u) (hm : fm_mg D w u f) : fm_v D u := by
  refine ⟨hd, (pr_mg h hd hf.1 hm).mpr hf.2.1, fun hD => ?_⟩
  obtain ⟨a, b, c⟩ := u
  obtain ⟨ha, -⟩ := fm_ne h hd
  rw [fm_red_lt hD] at hr
  show 0 < a
  rcases fm_ab_cases b with z | z <;> omega
theorem red_1023 {D w : Int} {a b c : Int} (hg : gD D w) (hd : fm_disc D (a, b, c)) (hr : fm_red D w (a, b, c)) : fm_ab a ≤ 1023 ∧ fm_ab b ≤ 1023 := by
  obtain ⟨ho, g1, g2, g3⟩ := hg
  by_cases hD : D < 0
  · obtain ⟨h1, h2, h3⟩ := fm_neg_a hD g1 hd hr
    rcases fm_ab_cases a with z | z <;> exact ⟨by omega, by omega⟩
  · rw [fm_red_ge hD] at hr
    rcases fm_ab_cases a with z | z <;> rcases fm_ab_cases b with y | y <;> exact ⟨by omega, by omega⟩
theorem td_2 {x S : Int} (h : 2 * S = x) : x.tdiv 2 = S := by rw [← h]; exact Int.mul_tdiv_cancel_left S (by decide)
theorem td_e {x y e : Int} (h : x = e * y) (he : e ≠ 0) : x.tdiv e = y := by rw [h]; exact Int.mul_tdiv_cancel_left y he
theorem ab_prod {x y X Y : Int} (hx : fm_ab x ≤ X) (hy : fm_ab y ≤ Y) : fm_ab (x * y) ≤ X * Y := by
  rw [fm_ab_mul]
  have h1 : 0 ≤ fm_ab x := by rcases fm_ab_cases x with z | z <;> omega
  have h2 : 0 ≤ fm_ab y := by rcases fm_ab_cases y with z | z <;> omega
  exact Int.mul_le_mul hx hy h2 (by omega)
theorem ab_add {x y X Y : Int} (hx : fm_ab x ≤ X) (hy : fm_ab y ≤ Y) : fm_ab (x + y) ≤ X + Y := by
  rcases fm_ab_cases x with z | z <;> rcases fm_ab_cases y with v | v <;> rcases fm_ab_cases (x + y) with t | t <;> omega
theorem ab_range {x B : Int} (h : fm_ab x ≤ B) : -B ≤ x ∧ x ≤ B := by
  rcases fm_ab_cases x with z | z <;> omega
theorem halves {D s n a b c a' b' c' : Int} (hs : fm_sn D s n) (hf : fm_disc D (a, b, c)) (hg : fm_disc D (a', b', c')) : ∃ S T : Int, 2 * S = b + b' ∧ 2 * T = b * b' + D := by
  obtain ⟨hb, -⟩ := fm_half hs hf
  obtain ⟨hb', -⟩ := fm_half hs hg
  generalize fm_B s (a, b, c) = B at hb
  generalize fm_B s (a', b', c') = B' at hb'
  have hs2 : s * s = s := by rcases hs.1 with h | h <;> rw [h] <;> decide
  exact ⟨B + B' + s, 2 * (n + B * B') + s * (B + B' + s), by omega, (fm_TT hb hb' hs.2 hs2).mpr rfl⟩
theorem mul_core {D w s n a b c a' b' c' g1 x y e u v S T : Int} (hg : gD D w) (hs : fm_sn D s n) (hf : fm_v D (a, b, c)) (hh : fm_v D (a', b', c')) (ka : fm_ab a ≤ 1023) (kb : fm_ab b ≤ 1023) (ka' : fm_ab a' ≤ 1023) (kb' : fm_ab b' ≤ 1023) (E1 : eP a a' g1 x y) (E2 : eP g1 S e u v) (hS : 2 * S = b + b') (hT : 2 * T = b * b' + D) :
    0 < e ∧ e ≤ 1023 ∧ jL (u * (x * a * b' + y * a' * b) + v * T) ∧ ∃ a1 a1' M : Int, a.tdiv e = a1 ∧ a'.tdiv e = a1' ∧ (u * (x * a * b' + y * a' * b) + v * T).tdiv e = M ∧ jL M ∧ a1 * a1' ≠ 0 ∧ fm_ab (a1 * a1') ≤ 1046529 ∧
      fm_v D (a1 * a1', M % (2 * fm_ab (a1 * a1')), (M % (2 * fm_ab (a1 * a1')) * (M % (2 * fm_ab (a1 * a1'))) - D).tdiv (4 * (a1 * a1'))) ∧ fm_cp s n (a, b, c) (a', b', c') (a1 * a1', M % (2 * fm_ab (a1 * a1')), (M % (2 * fm_ab (a1 * a1')) * (M % (2 * fm_ab (a1 * a1'))) - D).tdiv (4 * (a1 * a1'))) := by
  obtain ⟨p1, p2, p3, p4, p5, p6, p7⟩ := E1
  obtain ⟨q1, q2, q3, q4, q5, q6, q7⟩ := E2
  obtain ⟨ha0, -⟩ := fm_ne hg.1 hf.1
  obtain ⟨ha0', -⟩ := fm_ne hg.1 hh.1
  have hg1 : g1 ≠ 0 := by
    intro z
    rw [z] at p3
    exact ha0 (Int.zero_dvd.mp p3)
  have he0 : e ≠ 0 := by
    intro z
    rw [z] at q3
    exact hg1 (Int.zero_dvd.mp q3)
  have hg1b : g1 ≤ 1023 := by
    have := Int.le_of_dvd (fm_ab_pos ha0) (show g1 ∣ fm_ab a by rcases fm_ab_cases a with z | z <;> rw [z.2]; exact p3; exact Int.dvd_neg.mpr p3)
    omega
  have heb : e ≤ 1023 := by
    have := Int.le_of_dvd (show 0 < g1 by omega) q3
    omega
  have he : (u * x) * a + (u * y) * a' + v * S = e := by rw [← q1, ← p1]; grind
  obtain ⟨a1, a1', T', M, Cx, h1, h2, h3, h4, h5⟩ := fm_formula_ex hg.1 hs hf hh hS he0 (Int.dvd_trans q3 p3) (Int.dvd_trans q3 p4) q4 he
  have hTT : T' = T := by omega
  subst hTT
  obtain ⟨S1, h6⟩ := q4
  have hsum : u * (x * a * b' + y * a' * b) + v * T' = e * M := by
    rw [← h4]
    grind
  have hA0 : a1 * a1' ≠ 0 := by
    intro z
    rcases Int.mul_eq_zero.mp z with q | q
    · rw [q, Int.mul_zero] at h1; exact ha0 h1
    · rw [q, Int.mul_zero] at h2; exact ha0' h2
  have hab1 : ∀ {t t1 : Int}, t = e * t1 → fm_ab t ≤ 1023 → fm_ab t1 ≤ 1023 := by
    intro t t1 ht hb
    have := fm_ab_mul e t1
    rw [← ht] at this
    have he1 : 1 ≤ fm_ab e := by have := fm_ab_pos he0; omega
    have ht1 : 0 ≤ fm_ab t1 := by rcases fm_ab_cases t1 with z | z <;> omega
    have := Int.mul_le_mul_of_nonneg_right he1 ht1
    omega
  have hAb := ab_prod (hab1 h1 ka) (hab1 h2 ka')
  -- sizes
  have hSb : fm_ab S ≤ 1023 := by rcases fm_ab_cases S with z | z <;> rcases fm_ab_cases b with z1 | z1 <;> rcases fm_ab_cases b' with z2 | z2 <;> omega
  have hbb := ab_prod kb kb'
  have hTb : fm_ab T' ≤ 1048576 := by
    have := hg.2.1
    have := hg.2.2.1
    rcases fm_ab_cases T' with z | z <;> rcases fm_ab_cases (b * b') with z1 | z1 <;> omega
  have hg1a : fm_ab g1 ≤ 1023 := by rcases fm_ab_cases g1 with z | z <;> omega
  have s1 := ab_prod (ab_prod (show fm_ab x ≤ 1024 by omega) ka) kb'
  have s2 := ab_prod (ab_prod (show fm_ab y ≤ 1024 by omega) ka') kb
  have s3 := ab_prod (show fm_ab u ≤ 1024 by omega) (ab_add s1 s2)
  have s4 := ab_prod (show fm_ab v ≤ 1024 by omega) hTb
  have s5 := ab_range (ab_add s3 s4)
  have hjs : jL (u * (x * a * b' + y * a' * b) + v * T') := ⟨by omega, by omega⟩
  have hjM : jL M := by
    have m1 := fm_ab_mul e M
    rw [← hsum] at m1
    have he1 : 1 ≤ fm_ab e := by have := fm_ab_pos he0; omega
    have hM1 : 0 ≤ fm_ab M := by rcases fm_ab_cases M with z | z <;> omega
    have := Int.mul_le_mul_of_nonneg_right he1 hM1
    rcases fm_ab_cases M with z | z <;> rcases fm_ab_cases (u * (x * a * b' + y * a' * b) + v * T') with z1 | z1 <;> exact ⟨by omega, by omega⟩
  refine ⟨by omega, heb, hjs, a1, a1', M, td_e h1 he0, td_e h2 he0, td_e hsum he0, hjM, hA0, by omega, ?_⟩
  -- the middle by its remainder
  obtain ⟨k, hk⟩ : ∃ k : Int, M % (2 * fm_ab (a1 * a1')) = M + 2 * (a1 * a1') * k := by
    have hm := Int.mul_ediv_add_emod M (2 * fm_ab (a1 * a1'))
    rcases fm_ab_cases (a1 * a1') with ⟨-, z⟩ | ⟨-, z⟩
    · refine ⟨-(M / (2 * fm_ab (a1 * a1'))), ?_⟩
      rw [z] at hm ⊢
      have : 2 * (a1 * a1') * -(M / (2 * (a1 * a1'))) = -(2 * (a1 * a1') * (M / (2 * (a1 * a1')))) := Int.mul_neg _ _
      omega
    · refine ⟨M / (2 * fm_ab (a1 * a1')), ?_⟩
      rw [z] at hm ⊢
      have : 2 * -(a1 * a1') * (M / (2 * -(a1 * a1'))) = -(2 * (a1 * a1') * (M / (2 * -(a1 * a1')))) := by rw [Int.mul_neg, Int.neg_mul]
      omega
  obtain ⟨C, hC⟩ := h5 k
  have hc : ((M + 2 * (a1 * a1') * k) * (M + 2 * (a1 * a1') * k) - D).tdiv (4 * (a1 * a1')) = C := by
    refine td_e ?_ (by omega)
    unfold fm_disc at hC
    dsimp only at hC
    have : 4 * (a1 * a1') * C = 4 * (a1 * a1' * C) := Int.mul_assoc _ _ _
    omega
  rw [hk, hc]
  exact fm_formula hg.1 hs hf hh hS he0 h1 h2 h6 he h3 h4 hC
theorem q_bd {D A B C : Int} (hd : fm_disc D (A, B, C)) (hA : A ≠ 0) (hAb : fm_ab A ≤ 1046529) (h0 : 0 ≤ B) (h1 : B < 2 * fm_ab A) (d1 : -1048576 ≤ D) (d2 : D ≤ 1048576) : b30 C := by
  unfold fm_disc at hd
  dsimp only at hd
  have hp := fm_ab_pos hA
  have hm := fm_ab_mul A C
  have hC : 0 ≤ fm_ab C := by rcases fm_ab_cases C with z | z <;> omega
  have s1 := fm_sq_le h0 (show B ≤ 2 * fm_ab A by omega)
  have s0 := fm_sq_le (Int.le_refl 0) h0
  have e1 : 2 * fm_ab A * (2 * fm_ab A) = 4 * (fm_ab A * fm_ab A) := by grind
  have s2 : fm_ab A * fm_ab C ≤ fm_ab A * (fm_ab A + 262144) := by
    have e2 : fm_ab A * (fm_ab A + 262144) = fm_ab A * fm_ab A + fm_ab A * 262144 := Int.mul_add _ _ _
    rcases fm_ab_cases (A * C) with z | z <;> omega
  have s3 := Int.le_of_mul_le_mul_left s2 hp
  rcases fm_ab_cases C with z | z <;> exact ⟨by omega, by omega⟩
end
section
set_option maxHeartbeats 4000000 in
set_option maxRecDepth 100000 in
theorem c_E_solve (l : Launch) (D : va_G) (cI cJ cF : ClassId) {eu : Nat} {j1 j2 j3 pp qq : Int} (hp0 : b30 pp) (hq0 : b30 qq) : ∀ sz, Met l y_E_solve (Cond.code y_E_solve b_E_solve 20 none :: wb) { frames := 1, cells := 0, slots := 0, locals := 23 } (va_Pc [.ref eu, .long (jl (pp)), .long (jl (qq))] (cpre D cI cJ cF [(eu, .inr (0, [.long (jl (j1)), .long (jl (j2)), .long (jl (j3))]))] sz)) (va_Qv (fun (u : Int × Int × Int) => eP pp qq u.1 u.2.1 u.2.2) (fun (u : Int × Int × Int) t => va_P D classes [(eu, .inr (0, [.long (jl (u.1)), .long (jl (u.2.1)), .long (jl (u.2.2))]))] t.heap) (va_A [(eu, .inr (0, [.long (jl (j1)), .long (jl (j2)), .long (jl (j3))]))] sz)) 0 0 (va_A [(eu, .inr (0, [.long (jl (j1)), .long (jl (j2)), .long (jl (j3))]))] sz) := by
  refine c_of (Qc := fun sz => va_Qv (fun (u : Int × Int × Int) => eP pp qq u.1 u.2.1 u.2.2) (fun (u : Int × Int × Int) t => va_P D classes [(eu, .inr (0, [.long (jl (u.1)), .long (jl (u.2.1)), .long (jl (u.2.2))]))] t.heap) (va_A [(eu, .inr (0, [.long (jl (j1)), .long (jl (j2)), .long (jl (j3))]))] sz)) (by decide +kernel) co_E_solve (Nat.le_of_ble_eq_true rfl) ?_
  intro pq eq s mq below meth cq A X hK hP hD hS hA hAe ls hl
  obtain ⟨hx, hb, hml, hown, hr, hlocks, hts⟩ := id X
  have hl : lv_has ls 20 [(0, .ref eu), (1, .long (jl (pp))), (3, .long (jl (qq)))] := hl
  refine lv_lload_n hx hb d_E_solve_0 rfl (lv_at hl 2 rfl) ?_
  refine lv_lstore (lv' := [(5, .long (jl (qq))), (0, .ref eu), (1, .long (jl (pp))), (3, .long (jl (qq)))]) hx hb d_E_solve_1 hl (by decide) rfl (fun ls hl => ?_)
  refine w_lconst (v := 0) hx hb rfl d_E_solve_3 ?_
  refine lv_lstore (lv' := [(7, .long (jl (0))), (5, .long (jl (qq))), (0, .ref eu), (1, .long (jl (pp))), (3, .long (jl (qq)))]) hx hb d_E_solve_4 hl (by decide) rfl (fun ls hl => ?_)
  refine w_lconst (v := 1) hx hb rfl d_E_solve_6 ?_
  refine lv_lstore (lv' := [(9, .long (jl (1))), (7, .long (jl (0))), (5, .long (jl (qq))), (0, .ref eu), (1, .long (jl (pp))), (3, .long (jl (qq)))]) hx hb d_E_solve_7 hl (by decide) rfl (fun ls hl => ?_)
  refine lv_aload_n hx hb d_E_solve_9 rfl (lv_at hl 3 rfl) ?_
  refine lv_lload_n hx hb d_E_solve_10 rfl (lv_at hl 4 rfl) ?_
  refine va_put (D := D) (ci := 0) (v := .long (jl (pp))) (ty := .long) (C := R_E) (T := T_E) (N := 3) hx hb hts uw_E ty_E ty_E_ok nm_E hown hK.1 hP hD hS 0 rfl rfl 0 (by decide) (hts _ fl_E_9) (fun _ h9 => h9) rfl (by decide +kernel) rfl rfl (Nat.le_of_ble_eq_true rfl) d_E_solve_11 (fun H locs hP hD hS => ?_)
  have hP : va_P D classes [(eu, .inr (0, [.long (jl (pp)), .long (jl (j2)), .long (jl (j3))]))] H := hP
  have hD : va_D A [(eu, .inr (0, [.long (jl (pp)), .long (jl (j2)), .long (jl (j3))]))] := hD
  refine lv_aload_n hx hb d_E_solve_14 rfl (lv_at hl 3 rfl) ?_
  refine w_lconst (v := 1) hx hb rfl d_E_solve_15 ?_
  refine va_put (D := D) (ci := 0) (v := .long (jl (1))) (ty := .long) (C := R_E) (T := T_E) (N := 3) hx hb hts uw_E ty_E ty_E_ok nm_E hown hK.1 hP hD hS 0 rfl rfl 1 (by decide) (hts _ fl_E_15) (fun _ h9 => h9) rfl (by decide +kernel) rfl rfl (Nat.le_of_ble_eq_true rfl) d_E_solve_16 (fun H locs hP hD hS => ?_)
  have hP : va_P D classes [(eu, .inr (0, [.long (jl (pp)), .long (jl (1)), .long (jl (j3))]))] H := hP
  have hD : va_D A [(eu, .inr (0, [.long (jl (pp)), .long (jl (1)), .long (jl (j3))]))] := hD
  refine lv_aload_n hx hb d_E_solve_19 rfl (lv_at hl 3 rfl) ?_
  refine w_lconst (v := 0) hx hb rfl d_E_solve_20 ?_
  refine va_put (D := D) (ci := 0) (v := .long (jl (0))) (ty := .long) (C := R_E) (T := T_E) (N := 3) hx hb hts uw_E ty_E ty_E_ok nm_E hown hK.1 hP hD hS 0 rfl rfl 2 (by decide) (hts _ fl_E_18) (fun _ h9 => h9) rfl (by decide +kernel) rfl rfl (Nat.le_of_ble_eq_true rfl) d_E_solve_21 (fun H locs hP hD hS => ?_)
  have hP : va_P D classes [(eu, .inr (0, [.long (jl (pp)), .long (jl (1)), .long (jl (0))]))] H := hP
  have hD : va_D A [(eu, .inr (0, [.long (jl (pp)), .long (jl (1)), .long (jl (0))]))] := hD
  refine w_iconst hx hb d_E_solve_24 ?_
  refine lv_istore (lv' := [(11, .int (ji (0))), (9, .long (jl (1))), (7, .long (jl (0))), (5, .long (jl (qq))), (0, .ref eu), (1, .long (jl (pp))), (3, .long (jl (qq)))]) hx hb d_E_solve_25 hl (by decide) rfl (fun ls hl => ?_)
  refine lpn (I := fun n H locs ls => ∃ (i : Int) (c0 : Int) (l0 : Int) (r0 : Int) (nc : Int) (nl : Int) (nr : Int) (kk : Nat), kk = n ∧ (eI pp qq kk c0 l0 r0 nc nl nr ∧ 0 ≤ i ∧ i + kk < 1000000) ∧ va_P D classes [(eu, .inr (0, [.long (jl (c0)), .long (jl (l0)), .long (jl (r0))]))] H ∧ va_D A [(eu, .inr (0, [.long (jl (c0)), .long (jl (l0)), .long (jl (r0))]))] ∧ va_S A s.heap H locs ∧ lv_has ls 20 [(0, .ref eu), (1, .long (jl (pp))), (3, .long (jl (qq))), (5, .long (jl (nc))), (7, .long (jl (nl))), (9, .long (jl (nr))), (11, .int (ji (i)))]) ?_ _ _ _ _ ⟨0, pp, 1, 0, qq, 0, 1, 62, rfl, ⟨eI_0 hp0 hq0, by decide, by decide⟩, hP, hD, hS, lv_sub hl [4, 5, 6, 3, 2, 1, 0] rfl⟩
  rintro n H locs ls ⟨i, c0, l0, r0, nc, nl, nr, kk, rfl, hi, hP, hD, hS, hl⟩ ih
  refine lv_iload hx hb d_E_solve_27 (lv_at hl 6 rfl) ?_
  refine w_ldc (v := 1000000) (n := 1000000) hx hb (by decide) hown (hts _ kc_E_21) d_E_solve_29 ?_
  refine wi_cge hx hb ⟨by omega, by omega⟩ ⟨by decide, by decide⟩ d_E_solve_31 (tgt := 124) (by decide) (fun h_1 => ?_) (fun h_1 => ?_)
  · exact absurd hi.2.2 (by omega)
  · obtain ⟨hE, i1, i2⟩ := hi
    have hcb := hE.2.2.2.1.1
    have hnb := hE.2.2.2.1.2
    have zc1 := hcb.1
    have zc2 := hcb.2
    have zn1 := hnb.1
    have zn2 := hnb.2
    refine lv_lload hx hb d_E_solve_34 (lv_at hl 3 rfl) ?_
    refine w_lconst (v := 0) hx hb rfl d_E_solve_36 ?_
    refine wl_ceq hx hb hnb.j ⟨by decide, by decide⟩ d_E_solve_37 d_E_solve_38 (tgt := 124) (by decide) (fun h_2 => ?_) (fun h_2 => ?_)
    · have hE0 := hE
      rw [h_2] at hE0
      refine lv_aload_n hx hb d_E_solve_124 rfl (lv_at hl 0 rfl) ?_
      refine va_get (D := D) (ci := 0) (v := .long (jl (c0))) (C := R_E) (T := T_E) (N := 3) hx hb hts uw_E hown hK.1 hP 0 rfl rfl 0 (by decide) (hts _ fl_E_9) (fun _ h9 => h9) rfl d_E_solve_125 ?_
      refine w_lconst (v := 0) hx hb rfl d_E_solve_128 ?_
      refine wl_cge hx hb hcb.j ⟨by decide, by decide⟩ d_E_solve_129 d_E_solve_130 (tgt := 160) (by decide) (fun h_3 => ?_) (fun h_3 => ?_)
      · exact rt_v X hAe hS (c0, l0, r0) ((eI_e hE0).1 (by omega)) hP d_E_solve_160
      · refine lv_aload_n hx hb d_E_solve_133 rfl (lv_at hl 0 rfl) ?_
        refine lv_aload_n hx hb d_E_solve_134 rfl (lv_at hl 0 rfl) ?_
        refine va_get (D := D) (ci := 0) (v := .long (jl (c0))) (C := R_E) (T := T_E) (N := 3) hx hb hts uw_E hown hK.1 hP 0 rfl rfl 0 (by decide) (hts _ fl_E_9) (fun _ h9 => h9) rfl d_E_solve_135 ?_
        refine wl_neg hx hb d_E_solve_138 ?_
        refine va_put (D := D) (ci := 0) (v := .long (jl (-(c0)))) (ty := .long) (C := R_E) (T := T_E) (N := 3) hx hb hts uw_E ty_E ty_E_ok nm_E hown hK.1 hP hD hS 0 rfl rfl 0 (by decide) (hts _ fl_E_9) (fun _ h9 => h9) rfl (by decide +kernel) rfl rfl (Nat.le_of_ble_eq_true rfl) d_E_solve_139 (fun H locs hP hD hS => ?_)
        have hP : va_P D classes [(eu, .inr (0, [.long (jl (-(c0))), .long (jl (l0)), .long (jl (r0))]))] H := hP
        have hD : va_D A [(eu, .inr (0, [.long (jl (-(c0))), .long (jl (l0)), .long (jl (r0))]))] := hD
        refine lv_aload_n hx hb d_E_solve_142 rfl (lv_at hl 0 rfl) ?_
        refine lv_aload_n hx hb d_E_solve_143 rfl (lv_at hl 0 rfl) ?_
        refine va_get (D := D) (ci := 0) (v := .long (jl (l0))) (C := R_E) (T := T_E) (N := 3) hx hb hts uw_E hown hK.1 hP 0 rfl rfl 1 (by decide) (hts _ fl_E_15) (fun _ h9 => h9) rfl d_E_solve_144 ?_
        refine wl_neg hx hb d_E_solve_147 ?_
        refine va_put (D := D) (ci := 0) (v := .long (jl (-(l0)))) (ty := .long) (C := R_E) (T := T_E) (N := 3) hx hb hts uw_E ty_E ty_E_ok nm_E hown hK.1 hP hD hS 0 rfl rfl 1 (by decide) (hts _ fl_E_15) (fun _ h9 => h9) rfl (by decide +kernel) rfl rfl (Nat.le_of_ble_eq_true rfl) d_E_solve_148 (fun H locs hP hD hS => ?_)
        have hP : va_P D classes [(eu, .inr (0, [.long (jl (-(c0))), .long (jl (-(l0))), .long (jl (r0))]))] H := hP
        have hD : va_D A [(eu, .inr (0, [.long (jl (-(c0))), .long (jl (-(l0))), .long (jl (r0))]))] := hD
        refine lv_aload_n hx hb d_E_solve_151 rfl (lv_at hl 0 rfl) ?_
        refine lv_aload_n hx hb d_E_solve_152 rfl (lv_at hl 0 rfl) ?_
        refine va_get (D := D) (ci := 0) (v := .long (jl (r0))) (C := R_E) (T := T_E) (N := 3) hx hb hts uw_E hown hK.1 hP 0 rfl rfl 2 (by decide) (hts _ fl_E_18) (fun _ h9 => h9) rfl d_E_solve_153 ?_
        refine wl_neg hx hb d_E_solve_156 ?_
        refine va_put (D := D) (ci := 0) (v := .long (jl (-(r0)))) (ty := .long) (C := R_E) (T := T_E) (N := 3) hx hb hts uw_E ty_E ty_E_ok nm_E hown hK.1 hP hD hS 0 rfl rfl 2 (by decide) (hts _ fl_E_18) (fun _ h9 => h9) rfl (by decide +kernel) rfl rfl (Nat.le_of_ble_eq_true rfl) d_E_solve_157 (fun H locs hP hD hS => ?_)
        have hP : va_P D classes [(eu, .inr (0, [.long (jl (-(c0))), .long (jl (-(l0))), .long (jl (-(r0)))]))] H := hP
        have hD : va_D A [(eu, .inr (0, [.long (jl (-(c0))), .long (jl (-(l0))), .long (jl (-(r0)))]))] := hD
        exact rt_v X hAe hS (-c0, -l0, -r0) ((eI_e hE0).2 (by omega)) hP d_E_solve_160
    · obtain ⟨k2, rfl, hE2⟩ := eI_s hE h_2
      refine lv_aload_n hx hb d_E_solve_41 rfl (lv_at hl 0 rfl) ?_
      refine va_get (D := D) (ci := 0) (v := .long (jl (c0))) (C := R_E) (T := T_E) (N := 3) hx hb hts uw_E hown hK.1 hP 0 rfl rfl 0 (by decide) (hts _ fl_E_9) (fun _ h9 => h9) rfl d_E_solve_42 ?_
      refine lv_lload hx hb d_E_solve_45 (lv_at hl 3 rfl) ?_
      refine cl_l (rn_SN (wc := []) (As := [.long (jl (c0)), .long (jl (nc))]) (rest := []) X hK (c_X_quotient l D cI cJ cF hcb.j hnb.j _) co_X_quotient in_X nm_E_22 st_X_quotient 2 rfl (by decide +kernel) ⟨Nat.le_of_ble_eq_true rfl, Nat.le_of_ble_eq_true rfl⟩ hP hD [] rfl (by decide) hl.1 rfl (Nat.le_of_ble_eq_true rfl) d_E_solve_47 ⟨Nat.zero_le _, Nat.zero_le _⟩) hP hD hS hA [] rfl (by decide) (fun _ => rfl) (fun r_4 u_5 H locs hp hP hD hS => ?_)
      have hp : r_4 = jl (c0.tdiv nc) := by rw [show r_4 = _ from hp]; rw [if_neg h_2]
      have hP : va_P D classes [(eu, .inr (0, [.long (jl (c0)), .long (jl (l0)), .long (jl (r0))]))] H := hP
      have hD : va_D A [(eu, .inr (0, [.long (jl (c0)), .long (jl (l0)), .long (jl (r0))]))] := hD
      obtain rfl : r_4 = jl (c0.tdiv nc) := hp
      refine lv_lstore (lv' := [(12, .long (jl (c0.tdiv nc))), (0, .ref eu), (1, .long (jl (pp))), (3, .long (jl (qq))), (5, .long (jl (nc))), (7, .long (jl (nl))), (9, .long (jl (nr))), (11, .int (ji (i)))]) hx hb d_E_solve_50 hl (by decide) rfl (fun ls hl => ?_)
      refine lv_aload_n hx hb d_E_solve_52 rfl (lv_at hl 1 rfl) ?_
      refine va_get (D := D) (ci := 0) (v := .long (jl (c0))) (C := R_E) (T := T_E) (N := 3) hx hb hts uw_E hown hK.1 hP 0 rfl rfl 0 (by decide) (hts _ fl_E_9) (fun _ h9 => h9) rfl d_E_solve_53 ?_
      refine lv_lload hx hb d_E_solve_56 (lv_at hl 0 rfl) ?_
      refine lv_lload hx hb d_E_solve_58 (lv_at hl 4 rfl) ?_
      refine wl_mul hx hb d_E_solve_60 ?_
      refine wl_sub hx hb d_E_solve_61 ?_
      refine lv_lstore (lv' := [(14, .long (jl ((c0) - ((c0.tdiv nc) * (nc))))), (12, .long (jl (c0.tdiv nc))), (0, .ref eu), (1, .long (jl (pp))), (3, .long (jl (qq))), (5, .long (jl (nc))), (7, .long (jl (nl))), (9, .long (jl (nr))), (11, .int (ji (i)))]) hx hb d_E_solve_62 hl (by decide) rfl (fun ls hl => ?_)
      refine lv_aload_n hx hb d_E_solve_64 rfl (lv_at hl 2 rfl) ?_
      refine va_get (D := D) (ci := 0) (v := .long (jl (l0))) (C := R_E) (T := T_E) (N := 3) hx hb hts uw_E hown hK.1 hP 0 rfl rfl 1 (by decide) (hts _ fl_E_15) (fun _ h9 => h9) rfl d_E_solve_65 ?_
      refine lv_lload hx hb d_E_solve_68 (lv_at hl 1 rfl) ?_
      refine lv_lload hx hb d_E_solve_70 (lv_at hl 6 rfl) ?_
      refine wl_mul hx hb d_E_solve_72 ?_
      refine wl_sub hx hb d_E_solve_73 ?_
      refine lv_lstore (lv' := [(16, .long (jl ((l0) - ((c0.tdiv nc) * (nl))))), (14, .long (jl ((c0) - ((c0.tdiv nc) * (nc))))), (12, .long (jl (c0.tdiv nc))), (0, .ref eu), (1, .long (jl (pp))), (3, .long (jl (qq))), (5, .long (jl (nc))), (7, .long (jl (nl))), (9, .long (jl (nr))), (11, .int (ji (i)))]) hx hb d_E_solve_74 hl (by decide) rfl (fun ls hl => ?_)
      refine lv_aload_n hx hb d_E_solve_76 rfl (lv_at hl 3 rfl) ?_
      refine va_get (D := D) (ci := 0) (v := .long (jl (r0))) (C := R_E) (T := T_E) (N := 3) hx hb hts uw_E hown hK.1 hP 0 rfl rfl 2 (by decide) (hts _ fl_E_18) (fun _ h9 => h9) rfl d_E_solve_77 ?_
      refine lv_lload hx hb d_E_solve_80 (lv_at hl 2 rfl) ?_
      refine lv_lload hx hb d_E_solve_82 (lv_at hl 8 rfl) ?_
      refine wl_mul hx hb d_E_solve_84 ?_
      refine wl_sub hx hb d_E_solve_85 ?_
      refine lv_lstore (lv' := [(18, .long (jl ((r0) - ((c0.tdiv nc) * (nr))))), (16, .long (jl ((l0) - ((c0.tdiv nc) * (nl))))), (14, .long (jl ((c0) - ((c0.tdiv nc) * (nc))))), (12, .long (jl (c0.tdiv nc))), (0, .ref eu), (1, .long (jl (pp))), (3, .long (jl (qq))), (5, .long (jl (nc))), (7, .long (jl (nl))), (9, .long (jl (nr))), (11, .int (ji (i)))]) hx hb d_E_solve_86 hl (by decide) rfl (fun ls hl => ?_)
      refine lv_aload_n hx hb d_E_solve_88 rfl (lv_at hl 4 rfl) ?_
      refine lv_lload hx hb d_E_solve_89 (lv_at hl 7 rfl) ?_
      refine va_put (D := D) (ci := 0) (v := .long (jl (nc))) (ty := .long) (C := R_E) (T := T_E) (N := 3) hx hb hts uw_E ty_E ty_E_ok nm_E hown hK.1 hP hD hS 0 rfl rfl 0 (by decide) (hts _ fl_E_9) (fun _ h9 => h9) rfl (by decide +kernel) rfl rfl (Nat.le_of_ble_eq_true rfl) d_E_solve_91 (fun H locs hP hD hS => ?_)
      have hP : va_P D classes [(eu, .inr (0, [.long (jl (nc)), .long (jl (l0)), .long (jl (r0))]))] H := hP
      have hD : va_D A [(eu, .inr (0, [.long (jl (nc)), .long (jl (l0)), .long (jl (r0))]))] := hD
      refine lv_aload_n hx hb d_E_solve_94 rfl (lv_at hl 4 rfl) ?_
      refine lv_lload hx hb d_E_solve_95 (lv_at hl 8 rfl) ?_
      refine va_put (D := D) (ci := 0) (v := .long (jl (nl))) (ty := .long) (C := R_E) (T := T_E) (N := 3) hx hb hts uw_E ty_E ty_E_ok nm_E hown hK.1 hP hD hS 0 rfl rfl 1 (by decide) (hts _ fl_E_15) (fun _ h9 => h9) rfl (by decide +kernel) rfl rfl (Nat.le_of_ble_eq_true rfl) d_E_solve_97 (fun H locs hP hD hS => ?_)
      have hP : va_P D classes [(eu, .inr (0, [.long (jl (nc)), .long (jl (nl)), .long (jl (r0))]))] H := hP
      have hD : va_D A [(eu, .inr (0, [.long (jl (nc)), .long (jl (nl)), .long (jl (r0))]))] := hD
      refine lv_aload_n hx hb d_E_solve_100 rfl (lv_at hl 4 rfl) ?_
      refine lv_lload hx hb d_E_solve_101 (lv_at hl 9 rfl) ?_
      refine va_put (D := D) (ci := 0) (v := .long (jl (nr))) (ty := .long) (C := R_E) (T := T_E) (N := 3) hx hb hts uw_E ty_E ty_E_ok nm_E hown hK.1 hP hD hS 0 rfl rfl 2 (by decide) (hts _ fl_E_18) (fun _ h9 => h9) rfl (by decide +kernel) rfl rfl (Nat.le_of_ble_eq_true rfl) d_E_solve_103 (fun H locs hP hD hS => ?_)
      have hP : va_P D classes [(eu, .inr (0, [.long (jl (nc)), .long (jl (nl)), .long (jl (nr))]))] H := hP
      have hD : va_D A [(eu, .inr (0, [.long (jl (nc)), .long (jl (nl)), .long (jl (nr))]))] := hD
      refine lv_lload hx hb d_E_solve_106 (lv_at hl 2 rfl) ?_
      refine lv_lstore (lv' := [(5, .long (jl ((c0) - ((c0.tdiv nc) * (nc))))), (18, .long (jl ((r0) - ((c0.tdiv nc) * (nr))))), (16, .long (jl ((l0) - ((c0.tdiv nc) * (nl))))), (14, .long (jl ((c0) - ((c0.tdiv nc) * (nc))))), (12, .long (jl (c0.tdiv nc))), (0, .ref eu), (1, .long (jl (pp))), (3, .long (jl (qq))), (7, .long (jl (nl))), (9, .long (jl (nr))), (11, .int (ji (i)))]) hx hb d_E_solve_108 hl (by decide) rfl (fun ls hl => ?_)
      refine lv_lload hx hb d_E_solve_110 (lv_at hl 2 rfl) ?_
      refine lv_lstore (lv' := [(7, .long (jl ((l0) - ((c0.tdiv nc) * (nl))))), (5, .long (jl ((c0) - ((c0.tdiv nc) * (nc))))), (18, .long (jl ((r0) - ((c0.tdiv nc) * (nr))))), (16, .long (jl ((l0) - ((c0.tdiv nc) * (nl))))), (14, .long (jl ((c0) - ((c0.tdiv nc) * (nc))))), (12, .long (jl (c0.tdiv nc))), (0, .ref eu), (1, .long (jl (pp))), (3, .long (jl (qq))), (9, .long (jl (nr))), (11, .int (ji (i)))]) hx hb d_E_solve_112 hl (by decide) rfl (fun ls hl => ?_)
      refine lv_lload hx hb d_E_solve_114 (lv_at hl 2 rfl) ?_
      refine lv_lstore (lv' := [(9, .long (jl ((r0) - ((c0.tdiv nc) * (nr))))), (7, .long (jl ((l0) - ((c0.tdiv nc) * (nl))))), (5, .long (jl ((c0) - ((c0.tdiv nc) * (nc))))), (18, .long (jl ((r0) - ((c0.tdiv nc) * (nr))))), (16, .long (jl ((l0) - ((c0.tdiv nc) * (nl))))), (14, .long (jl ((c0) - ((c0.tdiv nc) * (nc))))), (12, .long (jl (c0.tdiv nc))), (0, .ref eu), (1, .long (jl (pp))), (3, .long (jl (qq))), (11, .int (ji (i)))]) hx hb d_E_solve_116 hl (by decide) rfl (fun ls hl => ?_)
      refine lv_iinc (v := ji ((i) + (1))) (lv' := [(11, .int (ji ((i) + (1)))), (9, .long (jl ((r0) - ((c0.tdiv nc) * (nr))))), (7, .long (jl ((l0) - ((c0.tdiv nc) * (nl))))), (5, .long (jl ((c0) - ((c0.tdiv nc) * (nc))))), (18, .long (jl ((r0) - ((c0.tdiv nc) * (nr))))), (16, .long (jl ((l0) - ((c0.tdiv nc) * (nl))))), (14, .long (jl ((c0) - ((c0.tdiv nc) * (nc))))), (12, .long (jl (c0.tdiv nc))), (0, .ref eu), (1, .long (jl (pp))), (3, .long (jl (qq)))]) hx hb d_E_solve_118 hl (k := 10) rfl (ji_add _ _) (by decide) rfl (fun ls hl => ?_)
      refine lv_goto (tgt := 27) hx hb d_E_solve_121 (by decide) ?_
      exact ih _ _ _ _ (by omega) ⟨i + 1, nc, nl, nr, c0 - c0.tdiv nc * nc, l0 - c0.tdiv nc * nl, r0 - c0.tdiv nc * nr, k2, rfl, ⟨hE2, by omega, by omega⟩, hP, hD, hS, lv_sub hl [8, 9, 10, 3, 2, 1, 0] rfl⟩

set_option maxHeartbeats 4000000 in
set_option maxRecDepth 100000 in
theorem c_G_multiply (l : Launch) (D : va_G) (cI cJ cF : ClassId) {g o wk st bs eu : Nat} {Dd w : Int} {f h : Nat} {a b c a2 b2 c2 j1 j2 j3 s0 n0 : Int} (hg : gD Dd w) (hs : fm_sn Dd s0 n0) (hf : fm_v Dd (a, b, c)) (hfr : fm_red Dd w (a, b, c)) (hh : fm_v Dd (a2, b2, c2)) (hhr : fm_red Dd w (a2, b2, c2)) : ∀ sz, Met l y_G_multiply (Cond.code y_G_multiply b_G_multiply 15 none :: wb) { frames := 4, cells := 0, slots := 0, locals := 100 } (va_Pc [.ref g, .ref f, .ref h] (cpre D cI cJ cF [(g, .inr (2, [.ref o, .ref wk, .ref st, .ref bs, .ref eu, .int (ji (Dd)), .int (ji (w))])), (eu, .inr (0, [.long (jl (j1)), .long (jl (j2)), .long (jl (j3))])), (f, .inr (1, [.long (jl (a)), .long (jl (b)), .long (jl (c))])), (h, .inr (1, [.long (jl (a2)), .long (jl (b2)), .long (jl (c2))]))] sz)) (va_Qv (fun (u : fm_F × Int × Int × Int) => fm_v Dd u.1 ∧ fm_red Dd w u.1 ∧ fm_cp s0 n0 (a, b, c) (a2, b2, c2) u.1) (fun (u : fm_F × Int × Int × Int) t => va_P D classes [(g, .inr (2, [.ref o, .ref wk, .ref st, .ref bs, .ref eu, .int (ji (Dd)), .int (ji (w))])), (eu, .inr (0, [.long (jl (u.2.1)), .long (jl (u.2.2.1)), .long (jl (u.2.2.2))])), (f, .inr (1, [.long (jl ((u.1).1)), .long (jl ((u.1).2.1)), .long (jl ((u.1).2.2))])), (h, .inr (1, [.long (jl (a2)), .long (jl (b2)), .long (jl (c2))]))] t.heap) (va_A [(g, .inr (2, [.ref o, .ref wk, .ref st, .ref bs, .ref eu, .int (ji (Dd)), .int (ji (w))])), (eu, .inr (0, [.long (jl (j1)), .long (jl (j2)), .long (jl (j3))])), (f, .inr (1, [.long (jl (a)), .long (jl (b)), .long (jl (c))])), (h, .inr (1, [.long (jl (a2)), .long (jl (b2)), .long (jl (c2))]))] sz)) 0 0 (va_A [(g, .inr (2, [.ref o, .ref wk, .ref st, .ref bs, .ref eu, .int (ji (Dd)), .int (ji (w))])), (eu, .inr (0, [.long (jl (j1)), .long (jl (j2)), .long (jl (j3))])), (f, .inr (1, [.long (jl (a)), .long (jl (b)), .long (jl (c))])), (h, .inr (1, [.long (jl (a2)), .long (jl (b2)), .long (jl (c2))]))] sz) := by
  refine c_of (Qc := fun sz => va_Qv (fun (u : fm_F × Int × Int × Int) => fm_v Dd u.1 ∧ fm_red Dd w u.1 ∧ fm_cp s0 n0 (a, b, c) (a2, b2, c2) u.1) (fun (u : fm_F × Int × Int × Int) t => va_P D classes [(g, .inr (2, [.ref o, .ref wk, .ref st, .ref bs, .ref eu, .int (ji (Dd)), .int (ji (w))])), (eu, .inr (0, [.long (jl (u.2.1)), .long (jl (u.2.2.1)), .long (jl (u.2.2.2))])), (f, .inr (1, [.long (jl ((u.1).1)), .long (jl ((u.1).2.1)), .long (jl ((u.1).2.2))])), (h, .inr (1, [.long (jl (a2)), .long (jl (b2)), .long (jl (c2))]))] t.heap) (va_A [(g, .inr (2, [.ref o, .ref wk, .ref st, .ref bs, .ref eu, .int (ji (Dd)), .int (ji (w))])), (eu, .inr (0, [.long (jl (j1)), .long (jl (j2)), .long (jl (j3))])), (f, .inr (1, [.long (jl (a)), .long (jl (b)), .long (jl (c))])), (h, .inr (1, [.long (jl (a2)), .long (jl (b2)), .long (jl (c2))]))] sz)) (by decide +kernel) co_G_multiply (Nat.le_of_ble_eq_true rfl) ?_
  intro pq eq s mq below meth cq A X hK hP hD hS hA hAe ls hl
  obtain ⟨hx, hb, hml, hown, hr, hlocks, hts⟩ := id X
  have hl : lv_has ls 15 [(0, .ref g), (1, .ref f), (2, .ref h)] := hl
  have zd1 := hg.2.1
  have zd2 := hg.2.2.1
  obtain ⟨ka, kb⟩ := red_1023 hg hf.1 hfr
  have ra := ab_range ka
  have rb := ab_range kb
  have zA : b30 a := ⟨by omega, by omega⟩
  obtain ⟨ka2, kb2⟩ := red_1023 hg hh.1 hhr
  have ra2 := ab_range ka2
  have rb2 := ab_range kb2
  have zA2 : b30 a2 := ⟨by omega, by omega⟩
  obtain ⟨S, T, hSm, hTm⟩ := halves hs hf.1 hh.1
  have rbb := ab_range (ab_prod kb kb2)
  have zS : b30 S := ⟨by omega, by omega⟩
  refine lv_aload_n hx hb d_G_multiply_0 rfl (lv_at hl 1 rfl) ?_
  refine va_getN (D := D) (ci := 1) (v := .long (jl (b))) (C := R_F) (T := T_F) (N := 3) hx hb hts uw_F hown hK.1 hP 2 rfl rfl 1 (by decide) ((hK.2 _ nf_G_97).use rfl) (fun _ h9 => h9) rfl d_G_multiply_1 ?_
  refine lv_aload_n hx hb d_G_multiply_4 rfl (lv_at hl 2 rfl) ?_
  refine va_getN (D := D) (ci := 1) (v := .long (jl (b2))) (C := R_F) (T := T_F) (N := 3) hx hb hts uw_F hown hK.1 hP 3 rfl rfl 1 (by decide) ((hK.2 _ nf_G_97).use rfl) (fun _ h9 => h9) rfl d_G_multiply_5 ?_
  refine wl_add hx hb d_G_multiply_8 ?_
  refine w_ldc2 (v := 2) (n := 2) hx hb (by decide) hown (hts _ kc_G_100) d_G_multiply_9 ?_
  refine wl_div hx hb ⟨by omega, by omega⟩ ⟨by decide, by decide⟩ (by decide) d_G_multiply_12 ?_
  rw [td_2 hSm]
  refine lv_lstore_n (lv' := [(3, .long (jl (S))), (0, .ref g), (1, .ref f), (2, .ref h)]) hx hb d_G_multiply_13 rfl hl (by decide) rfl (fun ls hl => ?_)
  refine lv_aload_n hx hb d_G_multiply_14 rfl (lv_at hl 1 rfl) ?_
  refine va_get (D := D) (ci := 2) (v := .ref eu) (C := R_G) (T := T_G) (N := 7) hx hb hts uw_G hown hK.1 hP 0 rfl rfl 4 (by decide) (hts _ fl_G_30) (fun _ h9 => h9) rfl d_G_multiply_15 ?_
  refine lv_aload_n hx hb d_G_multiply_18 rfl (lv_at hl 2 rfl) ?_
  refine va_getN (D := D) (ci := 1) (v := .long (jl (a))) (C := R_F) (T := T_F) (N := 3) hx hb hts uw_F hown hK.1 hP 2 rfl rfl 0 (by decide) ((hK.2 _ nf_G_94).use rfl) (fun _ h9 => h9) rfl d_G_multiply_19 ?_
  refine lv_aload_n hx hb d_G_multiply_22 rfl (lv_at hl 3 rfl) ?_
  refine va_getN (D := D) (ci := 1) (v := .long (jl (a2))) (C := R_F) (T := T_F) (N := 3) hx hb hts uw_F hown hK.1 hP 3 rfl rfl 0 (by decide) ((hK.2 _ nf_G_94).use rfl) (fun _ h9 => h9) rfl d_G_multiply_23 ?_
  refine cl_v (rn_VN (wc := [(eu, .inr (0, [.long (jl (j1)), .long (jl (j2)), .long (jl (j3))]))]) (As := [.long (jl (a)), .long (jl (a2))]) (rest := []) X hK (c_E_solve l D cI cJ cF zA zA2 _) co_E_solve in_E nm_G_63 im_E_solve se_E_solve 2 rfl (by decide +kernel) ⟨Nat.le_of_ble_eq_true rfl, Nat.le_of_ble_eq_true rfl⟩ hP hD [1] rfl (by decide) (q0 := 0) (ci := 0) rfl rfl rfl hl.1 rfl (Nat.le_of_ble_eq_true rfl) d_G_multiply_26 ⟨Nat.zero_le _, Nat.zero_le _⟩) hP hD hS hA [1] rfl (by decide) (fun _ => rfl) (fun u_1 H locs hp hP hD hS => ?_)
  obtain ⟨g1, x1, y1⟩ := u_1
  have E1 : eP a a2 g1 x1 y1 := hp
  have hP : va_P D classes [(g, .inr (2, [.ref o, .ref wk, .ref st, .ref bs, .ref eu, .int (ji (Dd)), .int (ji (w))])), (eu, .inr (0, [.long (jl (g1)), .long (jl (x1)), .long (jl (y1))])), (f, .inr (1, [.long (jl (a)), .long (jl (b)), .long (jl (c))])), (h, .inr (1, [.long (jl (a2)), .long (jl (b2)), .long (jl (c2))]))] H := hP
  have hD : va_D A [(g, .inr (2, [.ref o, .ref wk, .ref st, .ref bs, .ref eu, .int (ji (Dd)), .int (ji (w))])), (eu, .inr (0, [.long (jl (g1)), .long (jl (x1)), .long (jl (y1))])), (f, .inr (1, [.long (jl (a)), .long (jl (b)), .long (jl (c))])), (h, .inr (1, [.long (jl (a2)), .long (jl (b2)), .long (jl (c2))]))] := hD
  refine lv_aload_n hx hb d_G_multiply_29 rfl (lv_at hl 1 rfl) ?_
  refine va_get (D := D) (ci := 2) (v := .ref eu) (C := R_G) (T := T_G) (N := 7) hx hb hts uw_G hown hK.1 hP 0 rfl rfl 4 (by decide) (hts _ fl_G_30) (fun _ h9 => h9) rfl d_G_multiply_30 ?_
  refine va_getN (D := D) (ci := 0) (v := .long (jl (x1))) (C := R_E) (T := T_E) (N := 3) hx hb hts uw_E hown hK.1 hP 1 rfl rfl 1 (by decide) ((hK.2 _ nf_G_126).use rfl) (fun _ h9 => h9) rfl d_G_multiply_33 ?_
  refine lv_lstore (lv' := [(5, .long (jl (x1))), (3, .long (jl (S))), (0, .ref g), (1, .ref f), (2, .ref h)]) hx hb d_G_multiply_36 hl (by decide) rfl (fun ls hl => ?_)
  refine lv_aload_n hx hb d_G_multiply_38 rfl (lv_at hl 2 rfl) ?_
  refine va_get (D := D) (ci := 2) (v := .ref eu) (C := R_G) (T := T_G) (N := 7) hx hb hts uw_G hown hK.1 hP 0 rfl rfl 4 (by decide) (hts _ fl_G_30) (fun _ h9 => h9) rfl d_G_multiply_39 ?_
  refine va_getN (D := D) (ci := 0) (v := .long (jl (y1))) (C := R_E) (T := T_E) (N := 3) hx hb hts uw_E hown hK.1 hP 1 rfl rfl 2 (by decide) ((hK.2 _ nf_G_129).use rfl) (fun _ h9 => h9) rfl d_G_multiply_42 ?_
  refine lv_lstore (lv' := [(7, .long (jl (y1))), (5, .long (jl (x1))), (3, .long (jl (S))), (0, .ref g), (1, .ref f), (2, .ref h)]) hx hb d_G_multiply_45 hl (by decide) rfl (fun ls hl => ?_)
  refine lv_aload_n hx hb d_G_multiply_47 rfl (lv_at hl 3 rfl) ?_
  refine va_get (D := D) (ci := 2) (v := .ref eu) (C := R_G) (T := T_G) (N := 7) hx hb hts uw_G hown hK.1 hP 0 rfl rfl 4 (by decide) (hts _ fl_G_30) (fun _ h9 => h9) rfl d_G_multiply_48 ?_
  refine lv_aload_n hx hb d_G_multiply_51 rfl (lv_at hl 3 rfl) ?_
  refine va_get (D := D) (ci := 2) (v := .ref eu) (C := R_G) (T := T_G) (N := 7) hx hb hts uw_G hown hK.1 hP 0 rfl rfl 4 (by decide) (hts _ fl_G_30) (fun _ h9 => h9) rfl d_G_multiply_52 ?_
  refine va_getN (D := D) (ci := 0) (v := .long (jl (g1))) (C := R_E) (T := T_E) (N := 3) hx hb hts uw_E hown hK.1 hP 1 rfl rfl 0 (by decide) ((hK.2 _ nf_G_67).use rfl) (fun _ h9 => h9) rfl d_G_multiply_55 ?_
  refine lv_lload_n hx hb d_G_multiply_58 rfl (lv_at hl 2 rfl) ?_
  refine cl_v (rn_VN (wc := [(eu, .inr (0, [.long (jl (g1)), .long (jl (x1)), .long (jl (y1))]))]) (As := [.long (jl (g1)), .long (jl (S))]) (rest := []) X hK (c_E_solve l D cI cJ cF E1.2.2.2.2.1 zS _) co_E_solve in_E nm_G_63 im_E_solve se_E_solve 2 rfl (by decide +kernel) ⟨Nat.le_of_ble_eq_true rfl, Nat.le_of_ble_eq_true rfl⟩ hP hD [1] rfl (by decide) (q0 := 0) (ci := 0) rfl rfl rfl hl.1 rfl (Nat.le_of_ble_eq_true rfl) d_G_multiply_59 ⟨Nat.zero_le _, Nat.zero_le _⟩) hP hD hS hA [1] rfl (by decide) (fun _ => rfl) (fun u_2 H locs hp hP hD hS => ?_)
  obtain ⟨ee, uu, vv⟩ := u_2
  have E2 : eP g1 S ee uu vv := hp
  have hP : va_P D classes [(g, .inr (2, [.ref o, .ref wk, .ref st, .ref bs, .ref eu, .int (ji (Dd)), .int (ji (w))])), (eu, .inr (0, [.long (jl (ee)), .long (jl (uu)), .long (jl (vv))])), (f, .inr (1, [.long (jl (a)), .long (jl (b)), .long (jl (c))])), (h, .inr (1, [.long (jl (a2)), .long (jl (b2)), .long (jl (c2))]))] H := hP
  have hD : va_D A [(g, .inr (2, [.ref o, .ref wk, .ref st, .ref bs, .ref eu, .int (ji (Dd)), .int (ji (w))])), (eu, .inr (0, [.long (jl (ee)), .long (jl (uu)), .long (jl (vv))])), (f, .inr (1, [.long (jl (a)), .long (jl (b)), .long (jl (c))])), (h, .inr (1, [.long (jl (a2)), .long (jl (b2)), .long (jl (c2))]))] := hD
  obtain ⟨k1, k2, k3, a1, a12, M, t1, t2, t3, k4, k5, k6, hv, hcp⟩ := mul_core hg hs hf hh ka kb ka2 kb2 E1 E2 hSm hTm
  have k7 := ab_range k6
  have k8 := fm_ab_pos k5
  have k9 : 0 < fm_ab (a1 * a12) ∧ fm_ab (a1 * a12) ≤ 1046529 := ⟨k8, k6⟩
  refine lv_aload_n hx hb d_G_multiply_62 rfl (lv_at hl 3 rfl) ?_
  refine va_get (D := D) (ci := 2) (v := .ref eu) (C := R_G) (T := T_G) (N := 7) hx hb hts uw_G hown hK.1 hP 0 rfl rfl 4 (by decide) (hts _ fl_G_30) (fun _ h9 => h9) rfl d_G_multiply_63 ?_
  refine va_getN (D := D) (ci := 0) (v := .long (jl (ee))) (C := R_E) (T := T_E) (N := 3) hx hb hts uw_E hown hK.1 hP 1 rfl rfl 0 (by decide) ((hK.2 _ nf_G_67).use rfl) (fun _ h9 => h9) rfl d_G_multiply_66 ?_
  refine lv_lstore (lv' := [(9, .long (jl (ee))), (7, .long (jl (y1))), (5, .long (jl (x1))), (3, .long (jl (S))), (0, .ref g), (1, .ref f), (2, .ref h)]) hx hb d_G_multiply_69 hl (by decide) rfl (fun ls hl => ?_)
  refine lv_aload_n hx hb d_G_multiply_71 rfl (lv_at hl 4 rfl) ?_
  refine va_get (D := D) (ci := 2) (v := .ref eu) (C := R_G) (T := T_G) (N := 7) hx hb hts uw_G hown hK.1 hP 0 rfl rfl 4 (by decide) (hts _ fl_G_30) (fun _ h9 => h9) rfl d_G_multiply_72 ?_
  refine va_getN (D := D) (ci := 0) (v := .long (jl (uu))) (C := R_E) (T := T_E) (N := 3) hx hb hts uw_E hown hK.1 hP 1 rfl rfl 1 (by decide) ((hK.2 _ nf_G_126).use rfl) (fun _ h9 => h9) rfl d_G_multiply_75 ?_
  refine lv_lload hx hb d_G_multiply_78 (lv_at hl 2 rfl) ?_
  refine lv_aload_n hx hb d_G_multiply_80 rfl (lv_at hl 5 rfl) ?_
  refine va_getN (D := D) (ci := 1) (v := .long (jl (a))) (C := R_F) (T := T_F) (N := 3) hx hb hts uw_F hown hK.1 hP 2 rfl rfl 0 (by decide) ((hK.2 _ nf_G_94).use rfl) (fun _ h9 => h9) rfl d_G_multiply_81 ?_
  refine wl_mul hx hb d_G_multiply_84 ?_
  refine lv_aload_n hx hb d_G_multiply_85 rfl (lv_at hl 6 rfl) ?_
  refine va_getN (D := D) (ci := 1) (v := .long (jl (b2))) (C := R_F) (T := T_F) (N := 3) hx hb hts uw_F hown hK.1 hP 3 rfl rfl 1 (by decide) ((hK.2 _ nf_G_97).use rfl) (fun _ h9 => h9) rfl d_G_multiply_86 ?_
  refine wl_mul hx hb d_G_multiply_89 ?_
  refine lv_lload hx hb d_G_multiply_90 (lv_at hl 1 rfl) ?_
  refine lv_aload_n hx hb d_G_multiply_92 rfl (lv_at hl 6 rfl) ?_
  refine va_getN (D := D) (ci := 1) (v := .long (jl (a2))) (C := R_F) (T := T_F) (N := 3) hx hb hts uw_F hown hK.1 hP 3 rfl rfl 0 (by decide) ((hK.2 _ nf_G_94).use rfl) (fun _ h9 => h9) rfl d_G_multiply_93 ?_
  refine wl_mul hx hb d_G_multiply_96 ?_
  refine lv_aload_n hx hb d_G_multiply_97 rfl (lv_at hl 5 rfl) ?_
  refine va_getN (D := D) (ci := 1) (v := .long (jl (b))) (C := R_F) (T := T_F) (N := 3) hx hb hts uw_F hown hK.1 hP 2 rfl rfl 1 (by decide) ((hK.2 _ nf_G_97).use rfl) (fun _ h9 => h9) rfl d_G_multiply_98 ?_
  refine wl_mul hx hb d_G_multiply_101 ?_
  refine wl_add hx hb d_G_multiply_102 ?_
  refine wl_mul hx hb d_G_multiply_103 ?_
  refine lv_aload_n hx hb d_G_multiply_104 rfl (lv_at hl 4 rfl) ?_
  refine va_get (D := D) (ci := 2) (v := .ref eu) (C := R_G) (T := T_G) (N := 7) hx hb hts uw_G hown hK.1 hP 0 rfl rfl 4 (by decide) (hts _ fl_G_30) (fun _ h9 => h9) rfl d_G_multiply_105 ?_
  refine va_getN (D := D) (ci := 0) (v := .long (jl (vv))) (C := R_E) (T := T_E) (N := 3) hx hb hts uw_E hown hK.1 hP 1 rfl rfl 2 (by decide) ((hK.2 _ nf_G_129).use rfl) (fun _ h9 => h9) rfl d_G_multiply_108 ?_
  refine lv_aload_n hx hb d_G_multiply_111 rfl (lv_at hl 5 rfl) ?_
  refine va_getN (D := D) (ci := 1) (v := .long (jl (b))) (C := R_F) (T := T_F) (N := 3) hx hb hts uw_F hown hK.1 hP 2 rfl rfl 1 (by decide) ((hK.2 _ nf_G_97).use rfl) (fun _ h9 => h9) rfl d_G_multiply_112 ?_
  refine lv_aload_n hx hb d_G_multiply_115 rfl (lv_at hl 6 rfl) ?_
  refine va_getN (D := D) (ci := 1) (v := .long (jl (b2))) (C := R_F) (T := T_F) (N := 3) hx hb hts uw_F hown hK.1 hP 3 rfl rfl 1 (by decide) ((hK.2 _ nf_G_97).use rfl) (fun _ h9 => h9) rfl d_G_multiply_116 ?_
  refine wl_mul hx hb d_G_multiply_119 ?_
  refine lv_aload_n hx hb d_G_multiply_120 rfl (lv_at hl 4 rfl) ?_
  refine va_get (D := D) (ci := 2) (v := .int (ji (Dd))) (C := R_G) (T := T_G) (N := 7) hx hb hts uw_G hown hK.1 hP 0 rfl rfl 5 (by decide) (hts _ fl_G_34) (fun _ h9 => h9) rfl d_G_multiply_121 ?_
  refine w_i2l hx hb hg.jD d_G_multiply_124 ?_
  refine wl_add hx hb d_G_multiply_125 ?_
  refine w_ldc2 (v := 2) (n := 2) hx hb (by decide) hown (hts _ kc_G_100) d_G_multiply_126 ?_
  refine wl_div hx hb ⟨by omega, by omega⟩ ⟨by decide, by decide⟩ (by decide) d_G_multiply_129 ?_
  rw [td_2 hTm]
  refine wl_mul hx hb d_G_multiply_130 ?_
  refine wl_add hx hb d_G_multiply_131 ?_
  refine lv_lstore (lv' := [(11, .long (jl (((uu) * ((((x1) * (a)) * (b2)) + (((y1) * (a2)) * (b)))) + ((vv) * (T))))), (9, .long (jl (ee))), (7, .long (jl (y1))), (5, .long (jl (x1))), (3, .long (jl (S))), (0, .ref g), (1, .ref f), (2, .ref h)]) hx hb d_G_multiply_132 hl (by decide) rfl (fun ls hl => ?_)
  refine lv_aload_n hx hb d_G_multiply_134 rfl (lv_at hl 6 rfl) ?_
  refine va_getN (D := D) (ci := 1) (v := .long (jl (a))) (C := R_F) (T := T_F) (N := 3) hx hb hts uw_F hown hK.1 hP 2 rfl rfl 0 (by decide) ((hK.2 _ nf_G_94).use rfl) (fun _ h9 => h9) rfl d_G_multiply_135 ?_
  refine lv_lload hx hb d_G_multiply_138 (lv_at hl 1 rfl) ?_
  refine cl_l (rn_SN (wc := []) (As := [.long (jl (a)), .long (jl (ee))]) (rest := []) X hK (c_X_quotient l D cI cJ cF zA.j ⟨by omega, by omega⟩ _) co_X_quotient in_X nm_G_75 st_X_quotient 2 rfl (by decide +kernel) ⟨Nat.le_of_ble_eq_true rfl, Nat.le_of_ble_eq_true rfl⟩ hP hD [] rfl (by decide) hl.1 rfl (Nat.le_of_ble_eq_true rfl) d_G_multiply_140 ⟨Nat.zero_le _, Nat.zero_le _⟩) hP hD hS hA [] rfl (by decide) (fun _ => rfl) (fun r_3 u_4 H locs hp hP hD hS => ?_)
  have hp : r_3 = jl (a1) := by rw [show r_3 = _ from hp]; rw [if_neg (by omega), t1]
  have hP : va_P D classes [(g, .inr (2, [.ref o, .ref wk, .ref st, .ref bs, .ref eu, .int (ji (Dd)), .int (ji (w))])), (eu, .inr (0, [.long (jl (ee)), .long (jl (uu)), .long (jl (vv))])), (f, .inr (1, [.long (jl (a)), .long (jl (b)), .long (jl (c))])), (h, .inr (1, [.long (jl (a2)), .long (jl (b2)), .long (jl (c2))]))] H := hP
  have hD : va_D A [(g, .inr (2, [.ref o, .ref wk, .ref st, .ref bs, .ref eu, .int (ji (Dd)), .int (ji (w))])), (eu, .inr (0, [.long (jl (ee)), .long (jl (uu)), .long (jl (vv))])), (f, .inr (1, [.long (jl (a)), .long (jl (b)), .long (jl (c))])), (h, .inr (1, [.long (jl (a2)), .long (jl (b2)), .long (jl (c2))]))] := hD
  obtain rfl : r_3 = jl (a1) := hp
  refine lv_aload_n hx hb d_G_multiply_143 rfl (lv_at hl 7 rfl) ?_
  refine va_getN (D := D) (ci := 1) (v := .long (jl (a2))) (C := R_F) (T := T_F) (N := 3) hx hb hts uw_F hown hK.1 hP 3 rfl rfl 0 (by decide) ((hK.2 _ nf_G_94).use rfl) (fun _ h9 => h9) rfl d_G_multiply_144 ?_
  refine lv_lload hx hb d_G_multiply_147 (lv_at hl 1 rfl) ?_
  refine cl_l (rn_SN (wc := []) (As := [.long (jl (a2)), .long (jl (ee))]) (rest := [.long (jl (a1))]) X hK (c_X_quotient l D cI cJ cF zA2.j ⟨by omega, by omega⟩ _) co_X_quotient in_X nm_G_75 st_X_quotient 2 rfl (by decide +kernel) ⟨Nat.le_of_ble_eq_true rfl, Nat.le_of_ble_eq_true rfl⟩ hP hD [] rfl (by decide) hl.1 rfl (Nat.le_of_ble_eq_true rfl) d_G_multiply_149 ⟨Nat.zero_le _, Nat.zero_le _⟩) hP hD hS hA [] rfl (by decide) (fun _ => rfl) (fun r_5 u_6 H locs hp hP hD hS => ?_)
  have hp : r_5 = jl (a12) := by rw [show r_5 = _ from hp]; rw [if_neg (by omega), t2]
  have hP : va_P D classes [(g, .inr (2, [.ref o, .ref wk, .ref st, .ref bs, .ref eu, .int (ji (Dd)), .int (ji (w))])), (eu, .inr (0, [.long (jl (ee)), .long (jl (uu)), .long (jl (vv))])), (f, .inr (1, [.long (jl (a)), .long (jl (b)), .long (jl (c))])), (h, .inr (1, [.long (jl (a2)), .long (jl (b2)), .long (jl (c2))]))] H := hP
  have hD : va_D A [(g, .inr (2, [.ref o, .ref wk, .ref st, .ref bs, .ref eu, .int (ji (Dd)), .int (ji (w))])), (eu, .inr (0, [.long (jl (ee)), .long (jl (uu)), .long (jl (vv))])), (f, .inr (1, [.long (jl (a)), .long (jl (b)), .long (jl (c))])), (h, .inr (1, [.long (jl (a2)), .long (jl (b2)), .long (jl (c2))]))] := hD
  obtain rfl : r_5 = jl (a12) := hp
  refine wl_mul hx hb d_G_multiply_152 ?_
  refine lv_lstore (lv' := [(13, .long (jl ((a1) * (a12)))), (11, .long (jl (((uu) * ((((x1) * (a)) * (b2)) + (((y1) * (a2)) * (b)))) + ((vv) * (T))))), (9, .long (jl (ee))), (7, .long (jl (y1))), (5, .long (jl (x1))), (3, .long (jl (S))), (0, .ref g), (1, .ref f), (2, .ref h)]) hx hb d_G_multiply_153 hl (by decide) rfl (fun ls hl => ?_)
  refine lv_aload_n hx hb d_G_multiply_155 rfl (lv_at hl 6 rfl) ?_
  refine lv_aload_n hx hb d_G_multiply_156 rfl (lv_at hl 7 rfl) ?_
  refine lv_lload hx hb d_G_multiply_157 (lv_at hl 0 rfl) ?_
  refine lv_lload hx hb d_G_multiply_159 (lv_at hl 1 rfl) ?_
  refine lv_lload hx hb d_G_multiply_161 (lv_at hl 2 rfl) ?_
  refine cl_l (rn_SN (wc := []) (As := [.long (jl (((uu) * ((((x1) * (a)) * (b2)) + (((y1) * (a2)) * (b)))) + ((vv) * (T)))), .long (jl (ee))]) (rest := [.long (jl ((a1) * (a12))), .ref f, .ref g]) X hK (c_X_quotient l D cI cJ cF k3 ⟨by omega, by omega⟩ _) co_X_quotient in_X nm_G_75 st_X_quotient 2 rfl (by decide +kernel) ⟨Nat.le_of_ble_eq_true rfl, Nat.le_of_ble_eq_true rfl⟩ hP hD [] rfl (by decide) hl.1 rfl (Nat.le_of_ble_eq_true rfl) d_G_multiply_163 ⟨Nat.zero_le _, Nat.zero_le _⟩) hP hD hS hA [] rfl (by decide) (fun _ => rfl) (fun r_7 u_8 H locs hp hP hD hS => ?_)
  have hp : r_7 = jl (M) := by rw [show r_7 = _ from hp]; rw [if_neg (by omega), t3]
  have hP : va_P D classes [(g, .inr (2, [.ref o, .ref wk, .ref st, .ref bs, .ref eu, .int (ji (Dd)), .int (ji (w))])), (eu, .inr (0, [.long (jl (ee)), .long (jl (uu)), .long (jl (vv))])), (f, .inr (1, [.long (jl (a)), .long (jl (b)), .long (jl (c))])), (h, .inr (1, [.long (jl (a2)), .long (jl (b2)), .long (jl (c2))]))] H := hP
  have hD : va_D A [(g, .inr (2, [.ref o, .ref wk, .ref st, .ref bs, .ref eu, .int (ji (Dd)), .int (ji (w))])), (eu, .inr (0, [.long (jl (ee)), .long (jl (uu)), .long (jl (vv))])), (f, .inr (1, [.long (jl (a)), .long (jl (b)), .long (jl (c))])), (h, .inr (1, [.long (jl (a2)), .long (jl (b2)), .long (jl (c2))]))] := hD
  obtain rfl : r_7 = jl (M) := hp
  refine w_ldc2 (v := 2) (n := 2) hx hb (by decide) hown (hts _ kc_G_100) d_G_multiply_166 ?_
  refine lv_lload hx hb d_G_multiply_169 (lv_at hl 0 rfl) ?_
  refine w_absJ X hl.1 ⟨by omega, by omega⟩ ml_G_108 ⟨Nat.le_of_ble_eq_true rfl, Nat.le_of_ble_eq_true rfl⟩ ⟨Nat.zero_le _, Nat.zero_le _⟩ d_G_multiply_171 ?_
  refine wl_mul hx hb d_G_multiply_174 ?_
  refine cl_l (rn_SN (wc := []) (As := [.long (jl (M)), .long (jl ((2) * (fm_ab ((a1) * (a12)))))]) (rest := [.long (jl ((a1) * (a12))), .ref f, .ref g]) X hK (c_X_remainder l D cI cJ cF k4 ⟨by omega, by omega⟩ _) co_X_remainder in_X nm_G_102 st_X_remainder 2 rfl (by decide +kernel) ⟨Nat.le_of_ble_eq_true rfl, Nat.le_of_ble_eq_true rfl⟩ hP hD [] rfl (by decide) hl.1 rfl (Nat.le_of_ble_eq_true rfl) d_G_multiply_175 ⟨Nat.zero_le _, Nat.zero_le _⟩) hP hD hS hA [] rfl (by decide) (fun _ => rfl) (fun r_9 u_10 H locs hp hP hD hS => ?_)
  have hp : r_9 = jl (M % (2 * fm_ab (a1 * a12))) := by rw [show r_9 = _ from hp]; rw [if_pos (by omega)]
  have hP : va_P D classes [(g, .inr (2, [.ref o, .ref wk, .ref st, .ref bs, .ref eu, .int (ji (Dd)), .int (ji (w))])), (eu, .inr (0, [.long (jl (ee)), .long (jl (uu)), .long (jl (vv))])), (f, .inr (1, [.long (jl (a)), .long (jl (b)), .long (jl (c))])), (h, .inr (1, [.long (jl (a2)), .long (jl (b2)), .long (jl (c2))]))] H := hP
  have hD : va_D A [(g, .inr (2, [.ref o, .ref wk, .ref st, .ref bs, .ref eu, .int (ji (Dd)), .int (ji (w))])), (eu, .inr (0, [.long (jl (ee)), .long (jl (uu)), .long (jl (vv))])), (f, .inr (1, [.long (jl (a)), .long (jl (b)), .long (jl (c))])), (h, .inr (1, [.long (jl (a2)), .long (jl (b2)), .long (jl (c2))]))] := hD
  obtain rfl : r_9 = jl (M % (2 * fm_ab (a1 * a12))) := hp
  obtain ⟨B0, hB⟩ : ∃ t : Int, M % (2 * fm_ab (a1 * a12)) = t := ⟨_, rfl⟩
  have B1 := Int.emod_nonneg M (show 2 * fm_ab (a1 * a12) ≠ 0 by omega)
  have B2 := Int.emod_lt_of_pos M (show 0 < 2 * fm_ab (a1 * a12) by omega)
  rw [hB] at hv hcp B1 B2 ⊢
  obtain ⟨q0, hq⟩ : ∃ t : Int, (B0 * B0 - Dd).tdiv (4 * (a1 * a12)) = t := ⟨_, rfl⟩
  rw [hq] at hv hcp
  have Bs := sq_bd (B := 2093058) (e := B0) (by omega) (by omega)
  have hqb := q_bd hv.1 k5 k6 B1 B2 hg.2.1 hg.2.2.1
  refine cl_v (rn_V (wc := [(g, .inr (2, [.ref o, .ref wk, .ref st, .ref bs, .ref eu, .int (ji (Dd)), .int (ji (w))])), (f, .inr (1, [.long (jl (a)), .long (jl (b)), .long (jl (c))]))]) (As := [.ref f, .long (jl ((a1) * (a12))), .long (jl (B0))]) (rest := []) X hK (c_G_becomeFrom l D cI cJ cF hg.jD ⟨by omega, by omega⟩ ⟨by omega, by omega⟩ k5 hq _) co_G_becomeFrom in_G ml_G_45 im_G_becomeFrom se_G_becomeFrom 3 rfl (by decide +kernel) ⟨Nat.le_of_ble_eq_true rfl, Nat.le_of_ble_eq_true rfl⟩ hP hD [0, 2] rfl (by decide) (q0 := 0) (ci := 2) rfl rfl rfl hl.1 rfl (Nat.le_of_ble_eq_true rfl) d_G_multiply_178 ⟨Nat.zero_le _, Nat.zero_le _⟩) hP hD hS hA [0, 2] rfl (by decide) (fun _ => rfl) (fun u_11 H locs hp hP hD hS => ?_)
  have hP : va_P D classes [(g, .inr (2, [.ref o, .ref wk, .ref st, .ref bs, .ref eu, .int (ji (Dd)), .int (ji (w))])), (eu, .inr (0, [.long (jl (ee)), .long (jl (uu)), .long (jl (vv))])), (f, .inr (1, [.long (jl (a1 * a12)), .long (jl (B0)), .long (jl (q0))])), (h, .inr (1, [.long (jl (a2)), .long (jl (b2)), .long (jl (c2))]))] H := hP
  have hD : va_D A [(g, .inr (2, [.ref o, .ref wk, .ref st, .ref bs, .ref eu, .int (ji (Dd)), .int (ji (w))])), (eu, .inr (0, [.long (jl (ee)), .long (jl (uu)), .long (jl (vv))])), (f, .inr (1, [.long (jl (a1 * a12)), .long (jl (B0)), .long (jl (q0))])), (h, .inr (1, [.long (jl (a2)), .long (jl (b2)), .long (jl (c2))]))] := hD
  refine lv_aload_n hx hb d_G_multiply_181 rfl (lv_at hl 6 rfl) ?_
  refine lv_aload_n hx hb d_G_multiply_182 rfl (lv_at hl 7 rfl) ?_
  refine cl_v (rn_V (wc := [(g, .inr (2, [.ref o, .ref wk, .ref st, .ref bs, .ref eu, .int (ji (Dd)), .int (ji (w))])), (f, .inr (1, [.long (jl (a1 * a12)), .long (jl (B0)), .long (jl (q0))]))]) (As := [.ref f]) (rest := []) X hK (c_G_reduce l D cI cJ cF hg hv.1 hv.2.2 (by omega) (by omega) ⟨by omega, by omega⟩ (fun _ => hqb) _) co_G_reduce in_G ml_G_49 im_G_reduce se_G_reduce 1 rfl (by decide +kernel) ⟨Nat.le_of_ble_eq_true rfl, Nat.le_of_ble_eq_true rfl⟩ hP hD [0, 2] rfl (by decide) (q0 := 0) (ci := 2) rfl rfl rfl hl.1 rfl (Nat.le_of_ble_eq_true rfl) d_G_multiply_183 ⟨Nat.zero_le _, Nat.zero_le _⟩) hP hD hS hA [0, 2] rfl (by decide) (fun _ => rfl) (fun u_12 H locs hp hP hD hS => ?_)
  have hred : fm_disc Dd u_12 ∧ fm_red Dd w u_12 ∧ fm_mg Dd w u_12 (a1 * a12, B0, q0) := hp
  have hP : va_P D classes [(g, .inr (2, [.ref o, .ref wk, .ref st, .ref bs, .ref eu, .int (ji (Dd)), .int (ji (w))])), (eu, .inr (0, [.long (jl (ee)), .long (jl (uu)), .long (jl (vv))])), (f, .inr (1, [.long (jl ((u_12).1)), .long (jl ((u_12).2.1)), .long (jl ((u_12).2.2))])), (h, .inr (1, [.long (jl (a2)), .long (jl (b2)), .long (jl (c2))]))] H := hP
  have hD : va_D A [(g, .inr (2, [.ref o, .ref wk, .ref st, .ref bs, .ref eu, .int (ji (Dd)), .int (ji (w))])), (eu, .inr (0, [.long (jl (ee)), .long (jl (uu)), .long (jl (vv))])), (f, .inr (1, [.long (jl ((u_12).1)), .long (jl ((u_12).2.1)), .long (jl ((u_12).2.2))])), (h, .inr (1, [.long (jl (a2)), .long (jl (b2)), .long (jl (c2))]))] := hD
  exact rt_v X hAe hS (u_12, ee, uu, vv) ⟨v_mg hg.1 hv hred.1 hred.2.1 hred.2.2, hred.2.1, hcp.r (fm_eq_mg hg.1 hs hv.1 hred.1 hred.2.2.sy)⟩ hP d_G_multiply_186

set_option maxHeartbeats 4000000 in
set_option maxRecDepth 100000 in
theorem c_G_multiply1 (l : Launch) (D : va_G) (cI cJ cF : ClassId) {g o wk st bs eu : Nat} {Dd w : Int} {f : Nat} {a b c j1 j2 j3 s0 n0 : Int} (hg : gD Dd w) (hs : fm_sn Dd s0 n0) (hf : fm_v Dd (a, b, c)) (hfr : fm_red Dd w (a, b, c)) : ∀ sz, Met l y_G_multiply (Cond.code y_G_multiply b_G_multiply 15 none :: wb) { frames := 4, cells := 0, slots := 0, locals := 100 } (va_Pc [.ref g, .ref f, .ref f] (cpre D cI cJ cF [(g, .inr (2, [.ref o, .ref wk, .ref st, .ref bs, .ref eu, .int (ji (Dd)), .int (ji (w))])), (eu, .inr (0, [.long (jl (j1)), .long (jl (j2)), .long (jl (j3))])), (f, .inr (1, [.long (jl (a)), .long (jl (b)), .long (jl (c))]))] sz)) (va_Qv (fun (u : fm_F × Int × Int × Int) => fm_v Dd u.1 ∧ fm_red Dd w u.1 ∧ fm_cp s0 n0 (a, b, c) (a, b, c) u.1) (fun (u : fm_F × Int × Int × Int) t => va_P D classes [(g, .inr (2, [.ref o, .ref wk, .ref st, .ref bs, .ref eu, .int (ji (Dd)), .int (ji (w))])), (eu, .inr (0, [.long (jl (u.2.1)), .long (jl (u.2.2.1)), .long (jl (u.2.2.2))])), (f, .inr (1, [.long (jl ((u.1).1)), .long (jl ((u.1).2.1)), .long (jl ((u.1).2.2))]))] t.heap) (va_A [(g, .inr (2, [.ref o, .ref wk, .ref st, .ref bs, .ref eu, .int (ji (Dd)), .int (ji (w))])), (eu, .inr (0, [.long (jl (j1)), .long (jl (j2)), .long (jl (j3))])), (f, .inr (1, [.long (jl (a)), .long (jl (b)), .long (jl (c))]))] sz)) 0 0 (va_A [(g, .inr (2, [.ref o, .ref wk, .ref st, .ref bs, .ref eu, .int (ji (Dd)), .int (ji (w))])), (eu, .inr (0, [.long (jl (j1)), .long (jl (j2)), .long (jl (j3))])), (f, .inr (1, [.long (jl (a)), .long (jl (b)), .long (jl (c))]))] sz) := by
  refine c_of (Qc := fun sz => va_Qv (fun (u : fm_F × Int × Int × Int) => fm_v Dd u.1 ∧ fm_red Dd w u.1 ∧ fm_cp s0 n0 (a, b, c) (a, b, c) u.1) (fun (u : fm_F × Int × Int × Int) t => va_P D classes [(g, .inr (2, [.ref o, .ref wk, .ref st, .ref bs, .ref eu, .int (ji (Dd)), .int (ji (w))])), (eu, .inr (0, [.long (jl (u.2.1)), .long (jl (u.2.2.1)), .long (jl (u.2.2.2))])), (f, .inr (1, [.long (jl ((u.1).1)), .long (jl ((u.1).2.1)), .long (jl ((u.1).2.2))]))] t.heap) (va_A [(g, .inr (2, [.ref o, .ref wk, .ref st, .ref bs, .ref eu, .int (ji (Dd)), .int (ji (w))])), (eu, .inr (0, [.long (jl (j1)), .long (jl (j2)), .long (jl (j3))])), (f, .inr (1, [.long (jl (a)), .long (jl (b)), .long (jl (c))]))] sz)) (by decide +kernel) co_G_multiply (Nat.le_of_ble_eq_true rfl) ?_
  intro pq eq s mq below meth cq A X hK hP hD hS hA hAe ls hl
  obtain ⟨hx, hb, hml, hown, hr, hlocks, hts⟩ := id X
  have hl : lv_has ls 15 [(0, .ref g), (1, .ref f), (2, .ref f)] := hl
  have zd1 := hg.2.1
  have zd2 := hg.2.2.1
  obtain ⟨ka, kb⟩ := red_1023 hg hf.1 hfr
  have ra := ab_range ka
  have rb := ab_range kb
  have zA : b30 a := ⟨by omega, by omega⟩
  obtain ⟨S, T, hSm, hTm⟩ := halves hs hf.1 hf.1
  have rbb := ab_range (ab_prod kb kb)
  have zS : b30 S := ⟨by omega, by omega⟩
  refine lv_aload_n hx hb d_G_multiply_0 rfl (lv_at hl 1 rfl) ?_
  refine va_getN (D := D) (ci := 1) (v := .long (jl (b))) (C := R_F) (T := T_F) (N := 3) hx hb hts uw_F hown hK.1 hP 2 rfl rfl 1 (by decide) ((hK.2 _ nf_G_97).use rfl) (fun _ h9 => h9) rfl d_G_multiply_1 ?_
  refine lv_aload_n hx hb d_G_multiply_4 rfl (lv_at hl 2 rfl) ?_
  refine va_getN (D := D) (ci := 1) (v := .long (jl (b))) (C := R_F) (T := T_F) (N := 3) hx hb hts uw_F hown hK.1 hP 2 rfl rfl 1 (by decide) ((hK.2 _ nf_G_97).use rfl) (fun _ h9 => h9) rfl d_G_multiply_5 ?_
  refine wl_add hx hb d_G_multiply_8 ?_
  refine w_ldc2 (v := 2) (n := 2) hx hb (by decide) hown (hts _ kc_G_100) d_G_multiply_9 ?_
  refine wl_div hx hb ⟨by omega, by omega⟩ ⟨by decide, by decide⟩ (by decide) d_G_multiply_12 ?_
  rw [td_2 hSm]
  refine lv_lstore_n (lv' := [(3, .long (jl (S))), (0, .ref g), (1, .ref f), (2, .ref f)]) hx hb d_G_multiply_13 rfl hl (by decide) rfl (fun ls hl => ?_)
  refine lv_aload_n hx hb d_G_multiply_14 rfl (lv_at hl 1 rfl) ?_
  refine va_get (D := D) (ci := 2) (v := .ref eu) (C := R_G) (T := T_G) (N := 7) hx hb hts uw_G hown hK.1 hP 0 rfl rfl 4 (by decide) (hts _ fl_G_30) (fun _ h9 => h9) rfl d_G_multiply_15 ?_
  refine lv_aload_n hx hb d_G_multiply_18 rfl (lv_at hl 2 rfl) ?_
  refine va_getN (D := D) (ci := 1) (v := .long (jl (a))) (C := R_F) (T := T_F) (N := 3) hx hb hts uw_F hown hK.1 hP 2 rfl rfl 0 (by decide) ((hK.2 _ nf_G_94).use rfl) (fun _ h9 => h9) rfl d_G_multiply_19 ?_
  refine lv_aload_n hx hb d_G_multiply_22 rfl (lv_at hl 3 rfl) ?_
  refine va_getN (D := D) (ci := 1) (v := .long (jl (a))) (C := R_F) (T := T_F) (N := 3) hx hb hts uw_F hown hK.1 hP 2 rfl rfl 0 (by decide) ((hK.2 _ nf_G_94).use rfl) (fun _ h9 => h9) rfl d_G_multiply_23 ?_
  refine cl_v (rn_VN (wc := [(eu, .inr (0, [.long (jl (j1)), .long (jl (j2)), .long (jl (j3))]))]) (As := [.long (jl (a)), .long (jl (a))]) (rest := []) X hK (c_E_solve l D cI cJ cF zA zA _) co_E_solve in_E nm_G_63 im_E_solve se_E_solve 2 rfl (by decide +kernel) ⟨Nat.le_of_ble_eq_true rfl, Nat.le_of_ble_eq_true rfl⟩ hP hD [1] rfl (by decide) (q0 := 0) (ci := 0) rfl rfl rfl hl.1 rfl (Nat.le_of_ble_eq_true rfl) d_G_multiply_26 ⟨Nat.zero_le _, Nat.zero_le _⟩) hP hD hS hA [1] rfl (by decide) (fun _ => rfl) (fun u_1 H locs hp hP hD hS => ?_)
  obtain ⟨g1, x1, y1⟩ := u_1
  have E1 : eP a a g1 x1 y1 := hp
  have hP : va_P D classes [(g, .inr (2, [.ref o, .ref wk, .ref st, .ref bs, .ref eu, .int (ji (Dd)), .int (ji (w))])), (eu, .inr (0, [.long (jl (g1)), .long (jl (x1)), .long (jl (y1))])), (f, .inr (1, [.long (jl (a)), .long (jl (b)), .long (jl (c))]))] H := hP
  have hD : va_D A [(g, .inr (2, [.ref o, .ref wk, .ref st, .ref bs, .ref eu, .int (ji (Dd)), .int (ji (w))])), (eu, .inr (0, [.long (jl (g1)), .long (jl (x1)), .long (jl (y1))])), (f, .inr (1, [.long (jl (a)), .long (jl (b)), .long (jl (c))]))] := hD
  refine lv_aload_n hx hb d_G_multiply_29 rfl (lv_at hl 1 rfl) ?_
  refine va_get (D := D) (ci := 2) (v := .ref eu) (C := R_G) (T := T_G) (N := 7) hx hb hts uw_G hown hK.1 hP 0 rfl rfl 4 (by decide) (hts _ fl_G_30) (fun _ h9 => h9) rfl d_G_multiply_30 ?_
  refine va_getN (D := D) (ci := 0) (v := .long (jl (x1))) (C := R_E) (T := T_E) (N := 3) hx hb hts uw_E hown hK.1 hP 1 rfl rfl 1 (by decide) ((hK.2 _ nf_G_126).use rfl) (fun _ h9 => h9) rfl d_G_multiply_33 ?_
  refine lv_lstore (lv' := [(5, .long (jl (x1))), (3, .long (jl (S))), (0, .ref g), (1, .ref f), (2, .ref f)]) hx hb d_G_multiply_36 hl (by decide) rfl (fun ls hl => ?_)
  refine lv_aload_n hx hb d_G_multiply_38 rfl (lv_at hl 2 rfl) ?_
  refine va_get (D := D) (ci := 2) (v := .ref eu) (C := R_G) (T := T_G) (N := 7) hx hb hts uw_G hown hK.1 hP 0 rfl rfl 4 (by decide) (hts _ fl_G_30) (fun _ h9 => h9) rfl d_G_multiply_39 ?_
  refine va_getN (D := D) (ci := 0) (v := .long (jl (y1))) (C := R_E) (T := T_E) (N := 3) hx hb hts uw_E hown hK.1 hP 1 rfl rfl 2 (by decide) ((hK.2 _ nf_G_129).use rfl) (fun _ h9 => h9) rfl d_G_multiply_42 ?_
  refine lv_lstore (lv' := [(7, .long (jl (y1))), (5, .long (jl (x1))), (3, .long (jl (S))), (0, .ref g), (1, .ref f), (2, .ref f)]) hx hb d_G_multiply_45 hl (by decide) rfl (fun ls hl => ?_)
  refine lv_aload_n hx hb d_G_multiply_47 rfl (lv_at hl 3 rfl) ?_
  refine va_get (D := D) (ci := 2) (v := .ref eu) (C := R_G) (T := T_G) (N := 7) hx hb hts uw_G hown hK.1 hP 0 rfl rfl 4 (by decide) (hts _ fl_G_30) (fun _ h9 => h9) rfl d_G_multiply_48 ?_
  refine lv_aload_n hx hb d_G_multiply_51 rfl (lv_at hl 3 rfl) ?_
  refine va_get (D := D) (ci := 2) (v := .ref eu) (C := R_G) (T := T_G) (N := 7) hx hb hts uw_G hown hK.1 hP 0 rfl rfl 4 (by decide) (hts _ fl_G_30) (fun _ h9 => h9) rfl d_G_multiply_52 ?_
  refine va_getN (D := D) (ci := 0) (v := .long (jl (g1))) (C := R_E) (T := T_E) (N := 3) hx hb hts uw_E hown hK.1 hP 1 rfl rfl 0 (by decide) ((hK.2 _ nf_G_67).use rfl) (fun _ h9 => h9) rfl d_G_multiply_55 ?_
  refine lv_lload_n hx hb d_G_multiply_58 rfl (lv_at hl 2 rfl) ?_
  refine cl_v (rn_VN (wc := [(eu, .inr (0, [.long (jl (g1)), .long (jl (x1)), .long (jl (y1))]))]) (As := [.long (jl (g1)), .long (jl (S))]) (rest := []) X hK (c_E_solve l D cI cJ cF E1.2.2.2.2.1 zS _) co_E_solve in_E nm_G_63 im_E_solve se_E_solve 2 rfl (by decide +kernel) ⟨Nat.le_of_ble_eq_true rfl, Nat.le_of_ble_eq_true rfl⟩ hP hD [1] rfl (by decide) (q0 := 0) (ci := 0) rfl rfl rfl hl.1 rfl (Nat.le_of_ble_eq_true rfl) d_G_multiply_59 ⟨Nat.zero_le _, Nat.zero_le _⟩) hP hD hS hA [1] rfl (by decide) (fun _ => rfl) (fun u_2 H locs hp hP hD hS => ?_)
  obtain ⟨ee, uu, vv⟩ := u_2
  have E2 : eP g1 S ee uu vv := hp
  have hP : va_P D classes [(g, .inr (2, [.ref o, .ref wk, .ref st, .ref bs, .ref eu, .int (ji (Dd)), .int (ji (w))])), (eu, .inr (0, [.long (jl (ee)), .long (jl (uu)), .long (jl (vv))])), (f, .inr (1, [.long (jl (a)), .long (jl (b)), .long (jl (c))]))] H := hP
  have hD : va_D A [(g, .inr (2, [.ref o, .ref wk, .ref st, .ref bs, .ref eu, .int (ji (Dd)), .int (ji (w))])), (eu, .inr (0, [.long (jl (ee)), .long (jl (uu)), .long (jl (vv))])), (f, .inr (1, [.long (jl (a)), .long (jl (b)), .long (jl (c))]))] := hD
  obtain ⟨k1, k2, k3, a1, a12, M, t1, t2, t3, k4, k5, k6, hv, hcp⟩ := mul_core hg hs hf hf ka kb ka kb E1 E2 hSm hTm
  have k7 := ab_range k6
  have k8 := fm_ab_pos k5
  have k9 : 0 < fm_ab (a1 * a12) ∧ fm_ab (a1 * a12) ≤ 1046529 := ⟨k8, k6⟩
  refine lv_aload_n hx hb d_G_multiply_62 rfl (lv_at hl 3 rfl) ?_
  refine va_get (D := D) (ci := 2) (v := .ref eu) (C := R_G) (T := T_G) (N := 7) hx hb hts uw_G hown hK.1 hP 0 rfl rfl 4 (by decide) (hts _ fl_G_30) (fun _ h9 => h9) rfl d_G_multiply_63 ?_
  refine va_getN (D := D) (ci := 0) (v := .long (jl (ee))) (C := R_E) (T := T_E) (N := 3) hx hb hts uw_E hown hK.1 hP 1 rfl rfl 0 (by decide) ((hK.2 _ nf_G_67).use rfl) (fun _ h9 => h9) rfl d_G_multiply_66 ?_
  refine lv_lstore (lv' := [(9, .long (jl (ee))), (7, .long (jl (y1))), (5, .long (jl (x1))), (3, .long (jl (S))), (0, .ref g), (1, .ref f), (2, .ref f)]) hx hb d_G_multiply_69 hl (by decide) rfl (fun ls hl => ?_)
  refine lv_aload_n hx hb d_G_multiply_71 rfl (lv_at hl 4 rfl) ?_
  refine va_get (D := D) (ci := 2) (v := .ref eu) (C := R_G) (T := T_G) (N := 7) hx hb hts uw_G hown hK.1 hP 0 rfl rfl 4 (by decide) (hts _ fl_G_30) (fun _ h9 => h9) rfl d_G_multiply_72 ?_
  refine va_getN (D := D) (ci := 0) (v := .long (jl (uu))) (C := R_E) (T := T_E) (N := 3) hx hb hts uw_E hown hK.1 hP 1 rfl rfl 1 (by decide) ((hK.2 _ nf_G_126).use rfl) (fun _ h9 => h9) rfl d_G_multiply_75 ?_
  refine lv_lload hx hb d_G_multiply_78 (lv_at hl 2 rfl) ?_
  refine lv_aload_n hx hb d_G_multiply_80 rfl (lv_at hl 5 rfl) ?_
  refine va_getN (D := D) (ci := 1) (v := .long (jl (a))) (C := R_F) (T := T_F) (N := 3) hx hb hts uw_F hown hK.1 hP 2 rfl rfl 0 (by decide) ((hK.2 _ nf_G_94).use rfl) (fun _ h9 => h9) rfl d_G_multiply_81 ?_
  refine wl_mul hx hb d_G_multiply_84 ?_
  refine lv_aload_n hx hb d_G_multiply_85 rfl (lv_at hl 6 rfl) ?_
  refine va_getN (D := D) (ci := 1) (v := .long (jl (b))) (C := R_F) (T := T_F) (N := 3) hx hb hts uw_F hown hK.1 hP 2 rfl rfl 1 (by decide) ((hK.2 _ nf_G_97).use rfl) (fun _ h9 => h9) rfl d_G_multiply_86 ?_
  refine wl_mul hx hb d_G_multiply_89 ?_
  refine lv_lload hx hb d_G_multiply_90 (lv_at hl 1 rfl) ?_
  refine lv_aload_n hx hb d_G_multiply_92 rfl (lv_at hl 6 rfl) ?_
  refine va_getN (D := D) (ci := 1) (v := .long (jl (a))) (C := R_F) (T := T_F) (N := 3) hx hb hts uw_F hown hK.1 hP 2 rfl rfl 0 (by decide) ((hK.2 _ nf_G_94).use rfl) (fun _ h9 => h9) rfl d_G_multiply_93 ?_
  refine wl_mul hx hb d_G_multiply_96 ?_
  refine lv_aload_n hx hb d_G_multiply_97 rfl (lv_at hl 5 rfl) ?_
  refine va_getN (D := D) (ci := 1) (v := .long (jl (b))) (C := R_F) (T := T_F) (N := 3) hx hb hts uw_F hown hK.1 hP 2 rfl rfl 1 (by decide) ((hK.2 _ nf_G_97).use rfl) (fun _ h9 => h9) rfl d_G_multiply_98 ?_
  refine wl_mul hx hb d_G_multiply_101 ?_
  refine wl_add hx hb d_G_multiply_102 ?_
  refine wl_mul hx hb d_G_multiply_103 ?_
  refine lv_aload_n hx hb d_G_multiply_104 rfl (lv_at hl 4 rfl) ?_
  refine va_get (D := D) (ci := 2) (v := .ref eu) (C := R_G) (T := T_G) (N := 7) hx hb hts uw_G hown hK.1 hP 0 rfl rfl 4 (by decide) (hts _ fl_G_30) (fun _ h9 => h9) rfl d_G_multiply_105 ?_
  refine va_getN (D := D) (ci := 0) (v := .long (jl (vv))) (C := R_E) (T := T_E) (N := 3) hx hb hts uw_E hown hK.1 hP 1 rfl rfl 2 (by decide) ((hK.2 _ nf_G_129).use rfl) (fun _ h9 => h9) rfl d_G_multiply_108 ?_
  refine lv_aload_n hx hb d_G_multiply_111 rfl (lv_at hl 5 rfl) ?_
  refine va_getN (D := D) (ci := 1) (v := .long (jl (b))) (C := R_F) (T := T_F) (N := 3) hx hb hts uw_F hown hK.1 hP 2 rfl rfl 1 (by decide) ((hK.2 _ nf_G_97).use rfl) (fun _ h9 => h9) rfl d_G_multiply_112 ?_
  refine lv_aload_n hx hb d_G_multiply_115 rfl (lv_at hl 6 rfl) ?_
  refine va_getN (D := D) (ci := 1) (v := .long (jl (b))) (C := R_F) (T := T_F) (N := 3) hx hb hts uw_F hown hK.1 hP 2 rfl rfl 1 (by decide) ((hK.2 _ nf_G_97).use rfl) (fun _ h9 => h9) rfl d_G_multiply_116 ?_
  refine wl_mul hx hb d_G_multiply_119 ?_
  refine lv_aload_n hx hb d_G_multiply_120 rfl (lv_at hl 4 rfl) ?_
  refine va_get (D := D) (ci := 2) (v := .int (ji (Dd))) (C := R_G) (T := T_G) (N := 7) hx hb hts uw_G hown hK.1 hP 0 rfl rfl 5 (by decide) (hts _ fl_G_34) (fun _ h9 => h9) rfl d_G_multiply_121 ?_
  refine w_i2l hx hb hg.jD d_G_multiply_124 ?_
  refine wl_add hx hb d_G_multiply_125 ?_
  refine w_ldc2 (v := 2) (n := 2) hx hb (by decide) hown (hts _ kc_G_100) d_G_multiply_126 ?_
  refine wl_div hx hb ⟨by omega, by omega⟩ ⟨by decide, by decide⟩ (by decide) d_G_multiply_129 ?_
  rw [td_2 hTm]
  refine wl_mul hx hb d_G_multiply_130 ?_
  refine wl_add hx hb d_G_multiply_131 ?_
  refine lv_lstore (lv' := [(11, .long (jl (((uu) * ((((x1) * (a)) * (b)) + (((y1) * (a)) * (b)))) + ((vv) * (T))))), (9, .long (jl (ee))), (7, .long (jl (y1))), (5, .long (jl (x1))), (3, .long (jl (S))), (0, .ref g), (1, .ref f), (2, .ref f)]) hx hb d_G_multiply_132 hl (by decide) rfl (fun ls hl => ?_)
  refine lv_aload_n hx hb d_G_multiply_134 rfl (lv_at hl 6 rfl) ?_
  refine va_getN (D := D) (ci := 1) (v := .long (jl (a))) (C := R_F) (T := T_F) (N := 3) hx hb hts uw_F hown hK.1 hP 2 rfl rfl 0 (by decide) ((hK.2 _ nf_G_94).use rfl) (fun _ h9 => h9) rfl d_G_multiply_135 ?_
  refine lv_lload hx hb d_G_multiply_138 (lv_at hl 1 rfl) ?_
  refine cl_l (rn_SN (wc := []) (As := [.long (jl (a)), .long (jl (ee))]) (rest := []) X hK (c_X_quotient l D cI cJ cF zA.j ⟨by omega, by omega⟩ _) co_X_quotient in_X nm_G_75 st_X_quotient 2 rfl (by decide +kernel) ⟨Nat.le_of_ble_eq_true rfl, Nat.le_of_ble_eq_true rfl⟩ hP hD [] rfl (by decide) hl.1 rfl (Nat.le_of_ble_eq_true rfl) d_G_multiply_140 ⟨Nat.zero_le _, Nat.zero_le _⟩) hP hD hS hA [] rfl (by decide) (fun _ => rfl) (fun r_3 u_4 H locs hp hP hD hS => ?_)
  have hp : r_3 = jl (a1) := by rw [show r_3 = _ from hp]; rw [if_neg (by omega), t1]
  have hP : va_P D classes [(g, .inr (2, [.ref o, .ref wk, .ref st, .ref bs, .ref eu, .int (ji (Dd)), .int (ji (w))])), (eu, .inr (0, [.long (jl (ee)), .long (jl (uu)), .long (jl (vv))])), (f, .inr (1, [.long (jl (a)), .long (jl (b)), .long (jl (c))]))] H := hP
  have hD : va_D A [(g, .inr (2, [.ref o, .ref wk, .ref st, .ref bs, .ref eu, .int (ji (Dd)), .int (ji (w))])), (eu, .inr (0, [.long (jl (ee)), .long (jl (uu)), .long (jl (vv))])), (f, .inr (1, [.long (jl (a)), .long (jl (b)), .long (jl (c))]))] := hD
  obtain rfl : r_3 = jl (a1) := hp
  refine lv_aload_n hx hb d_G_multiply_143 rfl (lv_at hl 7 rfl) ?_
  refine va_getN (D := D) (ci := 1) (v := .long (jl (a))) (C := R_F) (T := T_F) (N := 3) hx hb hts uw_F hown hK.1 hP 2 rfl rfl 0 (by decide) ((hK.2 _ nf_G_94).use rfl) (fun _ h9 => h9) rfl d_G_multiply_144 ?_
  refine lv_lload hx hb d_G_multiply_147 (lv_at hl 1 rfl) ?_
  refine cl_l (rn_SN (wc := []) (As := [.long (jl (a)), .long (jl (ee))]) (rest := [.long (jl (a1))]) X hK (c_X_quotient l D cI cJ cF zA.j ⟨by omega, by omega⟩ _) co_X_quotient in_X nm_G_75 st_X_quotient 2 rfl (by decide +kernel) ⟨Nat.le_of_ble_eq_true rfl, Nat.le_of_ble_eq_true rfl⟩ hP hD [] rfl (by decide) hl.1 rfl (Nat.le_of_ble_eq_true rfl) d_G_multiply_149 ⟨Nat.zero_le _, Nat.zero_le _⟩) hP hD hS hA [] rfl (by decide) (fun _ => rfl) (fun r_5 u_6 H locs hp hP hD hS => ?_)
  have hp : r_5 = jl (a12) := by rw [show r_5 = _ from hp]; rw [if_neg (by omega), t2]
  have hP : va_P D classes [(g, .inr (2, [.ref o, .ref wk, .ref st, .ref bs, .ref eu, .int (ji (Dd)), .int (ji (w))])), (eu, .inr (0, [.long (jl (ee)), .long (jl (uu)), .long (jl (vv))])), (f, .inr (1, [.long (jl (a)), .long (jl (b)), .long (jl (c))]))] H := hP
  have hD : va_D A [(g, .inr (2, [.ref o, .ref wk, .ref st, .ref bs, .ref eu, .int (ji (Dd)), .int (ji (w))])), (eu, .inr (0, [.long (jl (ee)), .long (jl (uu)), .long (jl (vv))])), (f, .inr (1, [.long (jl (a)), .long (jl (b)), .long (jl (c))]))] := hD
  obtain rfl : r_5 = jl (a12) := hp
  refine wl_mul hx hb d_G_multiply_152 ?_
  refine lv_lstore (lv' := [(13, .long (jl ((a1) * (a12)))), (11, .long (jl (((uu) * ((((x1) * (a)) * (b)) + (((y1) * (a)) * (b)))) + ((vv) * (T))))), (9, .long (jl (ee))), (7, .long (jl (y1))), (5, .long (jl (x1))), (3, .long (jl (S))), (0, .ref g), (1, .ref f), (2, .ref f)]) hx hb d_G_multiply_153 hl (by decide) rfl (fun ls hl => ?_)
  refine lv_aload_n hx hb d_G_multiply_155 rfl (lv_at hl 6 rfl) ?_
  refine lv_aload_n hx hb d_G_multiply_156 rfl (lv_at hl 7 rfl) ?_
  refine lv_lload hx hb d_G_multiply_157 (lv_at hl 0 rfl) ?_
  refine lv_lload hx hb d_G_multiply_159 (lv_at hl 1 rfl) ?_
  refine lv_lload hx hb d_G_multiply_161 (lv_at hl 2 rfl) ?_
  refine cl_l (rn_SN (wc := []) (As := [.long (jl (((uu) * ((((x1) * (a)) * (b)) + (((y1) * (a)) * (b)))) + ((vv) * (T)))), .long (jl (ee))]) (rest := [.long (jl ((a1) * (a12))), .ref f, .ref g]) X hK (c_X_quotient l D cI cJ cF k3 ⟨by omega, by omega⟩ _) co_X_quotient in_X nm_G_75 st_X_quotient 2 rfl (by decide +kernel) ⟨Nat.le_of_ble_eq_true rfl, Nat.le_of_ble_eq_true rfl⟩ hP hD [] rfl (by decide) hl.1 rfl (Nat.le_of_ble_eq_true rfl) d_G_multiply_163 ⟨Nat.zero_le _, Nat.zero_le _⟩) hP hD hS hA [] rfl (by decide) (fun _ => rfl) (fun r_7 u_8 H locs hp hP hD hS => ?_)
  have hp : r_7 = jl (M) := by rw [show r_7 = _ from hp]; rw [if_neg (by omega), t3]
  have hP : va_P D classes [(g, .inr (2, [.ref o, .ref wk, .ref st, .ref bs, .ref eu, .int (ji (Dd)), .int (ji (w))])), (eu, .inr (0, [.long (jl (ee)), .long (jl (uu)), .long (jl (vv))])), (f, .inr (1, [.long (jl (a)), .long (jl (b)), .long (jl (c))]))] H := hP
  have hD : va_D A [(g, .inr (2, [.ref o, .ref wk, .ref st, .ref bs, .ref eu, .int (ji (Dd)), .int (ji (w))])), (eu, .inr (0, [.long (jl (ee)), .long (jl (uu)), .long (jl (vv))])), (f, .inr (1, [.long (jl (a)), .long (jl (b)), .long (jl (c))]))] := hD
  obtain rfl : r_7 = jl (M) := hp
  refine w_ldc2 (v := 2) (n := 2) hx hb (by decide) hown (hts _ kc_G_100) d_G_multiply_166 ?_
  refine lv_lload hx hb d_G_multiply_169 (lv_at hl 0 rfl) ?_
  refine w_absJ X hl.1 ⟨by omega, by omega⟩ ml_G_108 ⟨Nat.le_of_ble_eq_true rfl, Nat.le_of_ble_eq_true rfl⟩ ⟨Nat.zero_le _, Nat.zero_le _⟩ d_G_multiply_171 ?_
  refine wl_mul hx hb d_G_multiply_174 ?_
  refine cl_l (rn_SN (wc := []) (As := [.long (jl (M)), .long (jl ((2) * (fm_ab ((a1) * (a12)))))]) (rest := [.long (jl ((a1) * (a12))), .ref f, .ref g]) X hK (c_X_remainder l D cI cJ cF k4 ⟨by omega, by omega⟩ _) co_X_remainder in_X nm_G_102 st_X_remainder 2 rfl (by decide +kernel) ⟨Nat.le_of_ble_eq_true rfl, Nat.le_of_ble_eq_true rfl⟩ hP hD [] rfl (by decide) hl.1 rfl (Nat.le_of_ble_eq_true rfl) d_G_multiply_175 ⟨Nat.zero_le _, Nat.zero_le _⟩) hP hD hS hA [] rfl (by decide) (fun _ => rfl) (fun r_9 u_10 H locs hp hP hD hS => ?_)
  have hp : r_9 = jl (M % (2 * fm_ab (a1 * a12))) := by rw [show r_9 = _ from hp]; rw [if_pos (by omega)]
  have hP : va_P D classes [(g, .inr (2, [.ref o, .ref wk, .ref st, .ref bs, .ref eu, .int (ji (Dd)), .int (ji (w))])), (eu, .inr (0, [.long (jl (ee)), .long (jl (uu)), .long (jl (vv))])), (f, .inr (1, [.long (jl (a)), .long (jl (b)), .long (jl (c))]))] H := hP
  have hD : va_D A [(g, .inr (2, [.ref o, .ref wk, .ref st, .ref bs, .ref eu, .int (ji (Dd)), .int (ji (w))])), (eu, .inr (0, [.long (jl (ee)), .long (jl (uu)), .long (jl (vv))])), (f, .inr (1, [.long (jl (a)), .long (jl (b)), .long (jl (c))]))] := hD
  obtain rfl : r_9 = jl (M % (2 * fm_ab (a1 * a12))) := hp
  obtain ⟨B0, hB⟩ : ∃ t : Int, M % (2 * fm_ab (a1 * a12)) = t := ⟨_, rfl⟩
  have B1 := Int.emod_nonneg M (show 2 * fm_ab (a1 * a12) ≠ 0 by omega)
  have B2 := Int.emod_lt_of_pos M (show 0 < 2 * fm_ab (a1 * a12) by omega)
  rw [hB] at hv hcp B1 B2 ⊢
  obtain ⟨q0, hq⟩ : ∃ t : Int, (B0 * B0 - Dd).tdiv (4 * (a1 * a12)) = t := ⟨_, rfl⟩
  rw [hq] at hv hcp
  have Bs := sq_bd (B := 2093058) (e := B0) (by omega) (by omega)
  have hqb := q_bd hv.1 k5 k6 B1 B2 hg.2.1 hg.2.2.1
  refine cl_v (rn_V (wc := [(g, .inr (2, [.ref o, .ref wk, .ref st, .ref bs, .ref eu, .int (ji (Dd)), .int (ji (w))])), (f, .inr (1, [.long (jl (a)), .long (jl (b)), .long (jl (c))]))]) (As := [.ref f, .long (jl ((a1) * (a12))), .long (jl (B0))]) (rest := []) X hK (c_G_becomeFrom l D cI cJ cF hg.jD ⟨by omega, by omega⟩ ⟨by omega, by omega⟩ k5 hq _) co_G_becomeFrom in_G ml_G_45 im_G_becomeFrom se_G_becomeFrom 3 rfl (by decide +kernel) ⟨Nat.le_of_ble_eq_true rfl, Nat.le_of_ble_eq_true rfl⟩ hP hD [0, 2] rfl (by decide) (q0 := 0) (ci := 2) rfl rfl rfl hl.1 rfl (Nat.le_of_ble_eq_true rfl) d_G_multiply_178 ⟨Nat.zero_le _, Nat.zero_le _⟩) hP hD hS hA [0, 2] rfl (by decide) (fun _ => rfl) (fun u_11 H locs hp hP hD hS => ?_)
  have hP : va_P D classes [(g, .inr (2, [.ref o, .ref wk, .ref st, .ref bs, .ref eu, .int (ji (Dd)), .int (ji (w))])), (eu, .inr (0, [.long (jl (ee)), .long (jl (uu)), .long (jl (vv))])), (f, .inr (1, [.long (jl (a1 * a12)), .long (jl (B0)), .long (jl (q0))]))] H := hP
  have hD : va_D A [(g, .inr (2, [.ref o, .ref wk, .ref st, .ref bs, .ref eu, .int (ji (Dd)), .int (ji (w))])), (eu, .inr (0, [.long (jl (ee)), .long (jl (uu)), .long (jl (vv))])), (f, .inr (1, [.long (jl (a1 * a12)), .long (jl (B0)), .long (jl (q0))]))] := hD
  refine lv_aload_n hx hb d_G_multiply_181 rfl (lv_at hl 6 rfl) ?_
  refine lv_aload_n hx hb d_G_multiply_182 rfl (lv_at hl 7 rfl) ?_
  refine cl_v (rn_V (wc := [(g, .inr (2, [.ref o, .ref wk, .ref st, .ref bs, .ref eu, .int (ji (Dd)), .int (ji (w))])), (f, .inr (1, [.long (jl (a1 * a12)), .long (jl (B0)), .long (jl (q0))]))]) (As := [.ref f]) (rest := []) X hK (c_G_reduce l D cI cJ cF hg hv.1 hv.2.2 (by omega) (by omega) ⟨by omega, by omega⟩ (fun _ => hqb) _) co_G_reduce in_G ml_G_49 im_G_reduce se_G_reduce 1 rfl (by decide +kernel) ⟨Nat.le_of_ble_eq_true rfl, Nat.le_of_ble_eq_true rfl⟩ hP hD [0, 2] rfl (by decide) (q0 := 0) (ci := 2) rfl rfl rfl hl.1 rfl (Nat.le_of_ble_eq_true rfl) d_G_multiply_183 ⟨Nat.zero_le _, Nat.zero_le _⟩) hP hD hS hA [0, 2] rfl (by decide) (fun _ => rfl) (fun u_12 H locs hp hP hD hS => ?_)
  have hred : fm_disc Dd u_12 ∧ fm_red Dd w u_12 ∧ fm_mg Dd w u_12 (a1 * a12, B0, q0) := hp
  have hP : va_P D classes [(g, .inr (2, [.ref o, .ref wk, .ref st, .ref bs, .ref eu, .int (ji (Dd)), .int (ji (w))])), (eu, .inr (0, [.long (jl (ee)), .long (jl (uu)), .long (jl (vv))])), (f, .inr (1, [.long (jl ((u_12).1)), .long (jl ((u_12).2.1)), .long (jl ((u_12).2.2))]))] H := hP
  have hD : va_D A [(g, .inr (2, [.ref o, .ref wk, .ref st, .ref bs, .ref eu, .int (ji (Dd)), .int (ji (w))])), (eu, .inr (0, [.long (jl (ee)), .long (jl (uu)), .long (jl (vv))])), (f, .inr (1, [.long (jl ((u_12).1)), .long (jl ((u_12).2.1)), .long (jl ((u_12).2.2))]))] := hD
  exact rt_v X hAe hS (u_12, ee, uu, vv) ⟨v_mg hg.1 hv hred.1 hred.2.1 hred.2.2, hred.2.1, hcp.r (fm_eq_mg hg.1 hs hv.1 hred.1 hred.2.2.sy)⟩ hP d_G_multiply_186
end
section
/-! Bits (the first rows are pasted from the kit's laws/BITS.to-paste). -/
theorem wb_tb (n : Nat) : (lN n).toBitVec = BitVec.ofNat 64 n := rfl
theorem wb_inj {a b : Int64} (h : a.toBitVec = b.toBitVec) : a = b := Int64.toBitVec_inj.mp h
theorem wb_tn {n : Nat} (h : n < 2 ^ 64) : (lN n).toBitVec.toNat = n := by rw [wb_tb, BitVec.toNat_ofNat, Nat.mod_eq_of_lt h]
theorem wb_cu : ∀ k, k < 64 → ((nI k).toInt64.toUInt64 &&& Int64.toUInt64 63) = UInt64.ofNat k := by decide +kernel
theorem wb_lt2 {a b : Nat} (h : a < b) : 2 ^ a < 2 ^ b := Nat.pow_lt_pow_right (by decide) h
theorem wb_shr {n k : Nat} (hn : n < 2 ^ 64) (hk : k < 64) : ((lN n).toUInt64 >>> ((nI k).toInt64.toUInt64 &&& Int64.toUInt64 63)).toInt64 = lN (n / 2 ^ k) := by
  rw [wb_cu k hk]
  apply wb_inj
  apply BitVec.eq_of_toNat_eq
  show ((lN n).toUInt64 >>> UInt64.ofNat k).toNat = (BitVec.ofNat 64 _).toNat
  have h1 : (UInt64.ofNat k).toNat = k := by
    show (BitVec.ofNat 64 k).toNat = k
    rw [BitVec.toNat_ofNat, Nat.mod_eq_of_lt (by omega)]
  have h2 : (lN n).toUInt64.toNat = n := wb_tn hn
  rw [UInt64.toNat_shiftRight, h1, h2, Nat.mod_eq_of_lt hk, Nat.shiftRight_eq_div_pow, BitVec.toNat_ofNat, Nat.mod_eq_of_lt (Nat.lt_of_le_of_lt (Nat.div_le_self _ _) hn)]
theorem wb_and {a b : Nat} (ha : a < 2 ^ 64) (hb : b < 2 ^ 64) : lN a &&& lN b = lN (a &&& b) := by
  apply wb_inj
  rw [Int64.toBitVec_and, wb_tb, wb_tb, wb_tb]
  apply BitVec.eq_of_toNat_eq
  rw [BitVec.toNat_and, BitVec.toNat_ofNat, BitVec.toNat_ofNat, BitVec.toNat_ofNat, Nat.mod_eq_of_lt ha, Nat.mod_eq_of_lt hb, Nat.mod_eq_of_lt (Nat.and_lt_two_pow _ hb)]
theorem wb_mask {n k : Nat} (hn : n < 2 ^ 64) (hk : k < 64) : lN n &&& lN (2 ^ k - 1) = lN (n % 2 ^ k) := by
  rw [wb_and hn (by have := wb_lt2 hk; omega), Nat.and_two_pow_sub_one_eq_mod]
theorem wb_a1 {n : Nat} (hn : n < 2 ^ 64) : lN n &&& 1 = lN (n % 2) := wb_mask (k := 1) hn (by decide)
theorem jl_nat (n : Nat) : jl (n : Int) = lN n := Int64.ofInt_eq_ofNat
theorem ji_nat (n : Nat) : ji (n : Int) = nI n := Int32.ofInt_eq_ofNat
theorem jl_u0 {n : Nat} (h : n < 2 ^ 64) : jl (n : Int) = jl 0 ↔ n = 0 := by
  constructor
  · intro e
    rw [jl_nat] at e
    have : (lN n).toBitVec.toNat = (jl 0).toBitVec.toNat := by rw [e]
    rw [wb_tn h] at this
    rw [this]
    rfl
  · rintro rfl
    rfl
theorem jl_and1 {n : Nat} (h : n < 2 ^ 64) : jl (n : Int) &&& jl 1 = jl ((n % 2 : Nat) : Int) := by
  rw [jl_nat, jl_nat]
  exact wb_a1 h
theorem jl_ushr1 {n : Nat} (h : n < 2 ^ 64) : ((jl (n : Int)).toUInt64 >>> ((ji 1).toInt64.toUInt64 &&& Int64.toUInt64 63)).toInt64 = jl ((n / 2 : Nat) : Int) := by
  rw [jl_nat, jl_nat]
  exact wb_shr (k := 1) h (by decide)
theorem ji_and1 {d : Int} (hd : jI d) : ji d &&& ji 1 = ji (d % 2) := by
  have h1 := pk_and (ji d) (m := ji 1) 1 (by decide)
  rw [h1]
  have h2 := ji_int hd
  have h3 : (ji d).toBitVec.toNat % 2 ^ 1 = (d % 2).toNat := by
    have h4 : (ji d).toInt = (ji d).toBitVec.toInt := rfl
    rw [h2, BitVec.toInt_eq_toNat_cond] at h4
    have h5 := (ji d).toBitVec.isLt
    split at h4 <;> omega
  rw [h3, ← ji_nat]
  congr 1
  omega
theorem ji_shr1 {d : Int} (h0 : 0 ≤ d) (hd : jI d) : ji d >>> (ji 1 &&& 31) = ji (d / 2) := by
  obtain ⟨n, rfl⟩ : ∃ n : Nat, d = n := ⟨d.toNat, by omega⟩
  rw [ji_nat, pk_shrN (k := 1) (by have := hd.2; omega) _ (by decide)]
  have : ((n : Int) / 2) = ((n / 2 ^ 1 : Nat) : Int) := by omega
  rw [this, ji_nat]
section WBT
variable {p : Program} {l : Launch} {e : Env} {R : Room} {s : State} {m : MethodId} {args : Array Value} {below : List Frame} {meth : Method} {c : Code} {H : Heap} {locs : List Loc} {cells slots : Nat} {Q : State → Prop}
variable {cc : ByteArray} {pc : Nat} {ls : Array Slot} {rest : List Value}
theorem wl_ceqU (hexec : p.tables.exec = Jvm.exec) (hb : c.code = cc) {x y : Int64} {P : Prop} {off : Int} {tgt : Nat} (h : x = y ↔ P) (hdg : decode cc pc = .ok (.lcmp, 1)) (hdg2 : decode cc (pc + 1) = .ok (.ifCond .eq off, 3)) (ht : ((pc + 1 : Nat) : Int) + off = (tgt : Int)) (kt : P → W p l e R s m args below meth c H locs cells slots Q (F0 m tgt ls rest)) (kf : ¬ P → W p l e R s m args below meth c H locs cells slots Q (F0 m (pc + 1 + 3) ls rest)) : W p l e R s m args below meth c H locs cells slots Q (F0 m pc ls (.long y :: .long x :: rest)) := by
  refine W.lcmp hexec hb hdg ?_
  have e1 : lg_cmp x y = 0 ↔ x = y := by
    unfold lg_cmp
    constructor
    · intro z
      by_cases h1 : x > y
      · rw [if_pos h1] at z; exact absurd z (by decide)
      · rw [if_neg h1] at z
        by_cases h2 : x = y
        · exact h2
        · rw [if_neg h2] at z; exact absurd z (by decide)
    · rintro rfl
      rw [if_neg (fun q => Int64.lt_irrefl q), if_pos rfl]
  exact lv_if_eq hexec hb hdg2 ht (fun q => kt (h.mp (e1.mp q))) (fun q => kf (fun z => q (e1.mpr (h.mpr z))))
end WBT
end
section
/-! Powers, orders and exponents as the class looks for them. -/
def fm_pz (D s n : Int) (f : fm_F) (k : Int) (u : fm_F) : Prop := (0 ≤ k → fm_pw D s n f k.toNat u) ∧ (k < 0 → fm_pw D s n (fm_inv f) (-k).toNat u)
/-- the order of the class of f -/
def fm_or (D s n : Int) (f : fm_F) (N : Int) : Prop := 0 < N ∧ fm_pw D s n f N.toNat (fm_one s n) ∧ ∀ j : Nat, 0 < j → (j : Int) < N → ¬ fm_pw D s n f j (fm_one s n)
theorem fm_or.uniq {D s n : Int} {f : fm_F} {N N' : Int} (h : fm_or D s n f N) (h' : fm_or D s n f N') : N = N' := by
  obtain ⟨a1, a2, a3⟩ := h
  obtain ⟨b1, b2, b3⟩ := h'
  rcases Int.lt_trichotomy N N' with k | k | k
  · exact absurd a2 (b3 N.toNat (by omega) (by omega))
  · exact k
  · exact absurd b2 (a3 N'.toNat (by omega) (by omega))
/-- the least exponent from 0 on, -1 if there is none -/
def fm_ex (D s n : Int) (f g : fm_F) (N : Int) : Prop := (0 ≤ N ∧ fm_pw D s n f N.toNat g ∧ ∀ j : Nat, (j : Int) < N → ¬ fm_pw D s n f j g) ∨ (N = -1 ∧ ∀ j : Nat, ¬ fm_pw D s n f j g)
theorem fm_ex.uniq {D s n : Int} {f g : fm_F} {N N' : Int} (h : fm_ex D s n f g N) (h' : fm_ex D s n f g N') : N = N' := by
  rcases h with ⟨a1, a2, a3⟩ | ⟨a1, a2⟩ <;> rcases h' with ⟨b1, b2, b3⟩ | ⟨b1, b2⟩
  · rcases Int.lt_trichotomy N N' with k | k | k
    · exact absurd a2 (b3 N.toNat (by omega))
    · exact k
    · exact absurd b2 (a3 N'.toNat (by omega))
  · exact absurd a2 (b2 _)
  · exact absurd b2 (a2 _)
  · omega
/-- names of one class are one form -/
theorem nm_eq {D w s n : Int} {x y : fm_F} (ho : fm_ok D w) (hs : fm_sn D s n) (hx : fm_nm D w x x) (hy : fm_nm D w y y) : x = y ↔ fm_eq s n x y := by
  constructor
  · intro e
    rw [e]
    exact fm_eq.rf _
  · intro e
    exact (hx.mg (fm_mg_eq ho hs hx.1 hy.1 e)).uniq ho hy
/-- the name of ONE and the powers that are ONE -/
theorem pw_one {D w s n : Int} {f x z : fm_F} (ho : fm_ok D w) (hs : fm_sn D s n) (hx : fm_nm D w x x) (hz : fm_nm D w z (fm_one s n)) {k : Nat} (hp : fm_pw D s n f k x) : x = z ↔ fm_pw D s n f k (fm_one s n) := by
  have h1 := fm_eq_mg ho hs hz.1 (fm_one_disc hs) hz.2.2.1
  rw [nm_eq ho hs hx hz.self]
  constructor
  · intro e
    exact hp.r (e.tr h1)
  · intro e
    exact (hp.fn e).tr h1.sy
theorem pw_goal {D w s n : Int} {f x z : fm_F} (ho : fm_ok D w) (hs : fm_sn D s n) (hx : fm_nm D w x x) (hz : fm_nm D w z z) {k : Nat} (hp : fm_pw D s n f k x) : x = z ↔ fm_pw D s n f k z := by
  rw [nm_eq ho hs hx hz]
  exact ⟨fun e => hp.r e, fun e => hp.fn e⟩
/-- if the m-th power is ONE and none of the first m is g, none is g -/
theorem pw_none {D w s n : Int} {f g : fm_F} (ho : fm_ok D w) (hs : fm_sn D s n) (hf : fm_v D f) {m : Nat} (hm : 0 < m) (h1 : fm_pw D s n f m (fm_one s n)) (h : ∀ j : Nat, j < m → ¬ fm_pw D s n f j g) (j : Nat) : ¬ fm_pw D s n f j g := by
  intro hj
  have e : j = j % m + m * (j / m) := by have := Nat.div_add_mod j m; omega
  obtain ⟨F, vF, pF⟩ := fm_pw.ex ho hs hf (j % m)
  have h2 := fm_pw.mod ho hs hf h1 (j / m) vF pF
  rw [← e] at h2
  exact h (j % m) (Nat.mod_lt _ hm) (pF.r (h2.fn hj))
/-- the class as one says it: D, the whole part of its root, its halves -/
theorem sn_of {d : Int} (h : d % 4 ≤ 1) : fm_sn d (d % 2) ((d - d % 2) / 4) := ⟨by omega, by omega⟩
theorem gD_of {d w : Int} (h : dV d) (hw : (d < 0 ∧ w = -1) ∨ (0 ≤ w ∧ w ≤ 1024 ∧ w * w ≤ d ∧ d < (w + 1) * (w + 1))) : gD d w := by
  obtain ⟨h1, h2, h3, h4⟩ := h
  refine ⟨?_, h1, h2, ?_⟩
  · rcases hw with z | z
    · exact Or.inl z
    · have := h4 w
      exact Or.inr ⟨z.1, by omega, z.2.2.2⟩
  · rcases hw with z | z
    · omega
    · rcases Int.lt_or_le w 1024 with q | q
      · omega
      · have e : w = 1024 := by omega
        subst e
        have := h4 1024
        omega
theorem pw_ar {RR k1 k2 R0 : Nat} (h : k1 + k2 * RR = R0) : (RR % 2 = 0 → k1 + (k2 + k2) * (RR / 2) = R0) ∧ (RR % 2 = 1 → k1 + k2 + (k2 + k2) * (RR / 2) = R0) := by
  have h1 : RR = 2 * (RR / 2) + RR % 2 := (Nat.div_add_mod RR 2).symm
  generalize RR / 2 = Q at h1 ⊢
  constructor
  · intro z
    rw [z, Nat.add_zero] at h1
    subst h1
    rw [← h]
    clear h z
    grind
  · intro z
    rw [z] at h1
    subst h1
    rw [← h]
    clear h z
    grind
end
section
set_option maxHeartbeats 4000000 in
set_option maxRecDepth 100000 in
theorem c_G_orderOf (l : Launch) (D : va_G) (cI cJ cF : ClassId) {g o wk st bs eu : Nat} {Dd w : Int} {f : Nat} {a b c o1 o2 o3 x1 x2 x3 y1 y2 y3 v1 v2 v3 j1 j2 j3 s0 n0 : Int} (hg : gD Dd w) (hs : fm_sn Dd s0 n0) (hone : fm_nm Dd w (o1, o2, o3) (fm_one s0 n0)) (hf : fm_v Dd (a, b, c)) (hfn : fm_nm Dd w (a, b, c) (a, b, c)) : ∀ sz, Met l y_G_orderOf (Cond.code y_G_orderOf b_G_orderOf 3 (some .int) :: wb) { frames := 5, cells := 0, slots := 0, locals := 134 } (va_Pc [.ref g, .ref f] (cpre D cI cJ cF [(g, .inr (2, [.ref o, .ref wk, .ref st, .ref bs, .ref eu, .int (ji (Dd)), .int (ji (w))])), (o, .inr (1, [.long (jl (o1)), .long (jl (o2)), .long (jl (o3))])), (wk, .inr (1, [.long (jl (x1)), .long (jl (x2)), .long (jl (x3))])), (st, .inr (1, [.long (jl (y1)), .long (jl (y2)), .long (jl (y3))])), (bs, .inr (1, [.long (jl (v1)), .long (jl (v2)), .long (jl (v3))])), (eu, .inr (0, [.long (jl (j1)), .long (jl (j2)), .long (jl (j3))])), (f, .inr (1, [.long (jl (a)), .long (jl (b)), .long (jl (c))]))] sz)) (va_Qi (fun r (u : fm_F × fm_F × fm_F × Int × Int × Int) => ∃ N : Int, r = ji N ∧ fm_or Dd s0 n0 (a, b, c) N ∧ N ≤ 720000) (fun (u : fm_F × fm_F × fm_F × Int × Int × Int) t => va_P D classes [(g, .inr (2, [.ref o, .ref wk, .ref st, .ref bs, .ref eu, .int (ji (Dd)), .int (ji (w))])), (o, .inr (1, [.long (jl (o1)), .long (jl (o2)), .long (jl (o3))])), (wk, .inr (1, [.long (jl ((u.1).1)), .long (jl ((u.1).2.1)), .long (jl ((u.1).2.2))])), (st, .inr (1, [.long (jl ((u.2.1).1)), .long (jl ((u.2.1).2.1)), .long (jl ((u.2.1).2.2))])), (bs, .inr (1, [.long (jl ((u.2.2.1).1)), .long (jl ((u.2.2.1).2.1)), .long (jl ((u.2.2.1).2.2))])), (eu, .inr (0, [.long (jl (u.2.2.2.1)), .long (jl (u.2.2.2.2.1)), .long (jl (u.2.2.2.2.2))])), (f, .inr (1, [.long (jl (a)), .long (jl (b)), .long (jl (c))]))] t.heap) (va_A [(g, .inr (2, [.ref o, .ref wk, .ref st, .ref bs, .ref eu, .int (ji (Dd)), .int (ji (w))])), (o, .inr (1, [.long (jl (o1)), .long (jl (o2)), .long (jl (o3))])), (wk, .inr (1, [.long (jl (x1)), .long (jl (x2)), .long (jl (x3))])), (st, .inr (1, [.long (jl (y1)), .long (jl (y2)), .long (jl (y3))])), (bs, .inr (1, [.long (jl (v1)), .long (jl (v2)), .long (jl (v3))])), (eu, .inr (0, [.long (jl (j1)), .long (jl (j2)), .long (jl (j3))])), (f, .inr (1, [.long (jl (a)), .long (jl (b)), .long (jl (c))]))] sz)) 0 0 (va_A [(g, .inr (2, [.ref o, .ref wk, .ref st, .ref bs, .ref eu, .int (ji (Dd)), .int (ji (w))])), (o, .inr (1, [.long (jl (o1)), .long (jl (o2)), .long (jl (o3))])), (wk, .inr (1, [.long (jl (x1)), .long (jl (x2)), .long (jl (x3))])), (st, .inr (1, [.long (jl (y1)), .long (jl (y2)), .long (jl (y3))])), (bs, .inr (1, [.long (jl (v1)), .long (jl (v2)), .long (jl (v3))])), (eu, .inr (0, [.long (jl (j1)), .long (jl (j2)), .long (jl (j3))])), (f, .inr (1, [.long (jl (a)), .long (jl (b)), .long (jl (c))]))] sz) := by
  refine c_of (Qc := fun sz => va_Qi (fun r (u : fm_F × fm_F × fm_F × Int × Int × Int) => ∃ N : Int, r = ji N ∧ fm_or Dd s0 n0 (a, b, c) N ∧ N ≤ 720000) (fun (u : fm_F × fm_F × fm_F × Int × Int × Int) t => va_P D classes [(g, .inr (2, [.ref o, .ref wk, .ref st, .ref bs, .ref eu, .int (ji (Dd)), .int (ji (w))])), (o, .inr (1, [.long (jl (o1)), .long (jl (o2)), .long (jl (o3))])), (wk, .inr (1, [.long (jl ((u.1).1)), .long (jl ((u.1).2.1)), .long (jl ((u.1).2.2))])), (st, .inr (1, [.long (jl ((u.2.1).1)), .long (jl ((u.2.1).2.1)), .long (jl ((u.2.1).2.2))])), (bs, .inr (1, [.long (jl ((u.2.2.1).1)), .long (jl ((u.2.2.1).2.1)), .long (jl ((u.2.2.1).2.2))])), (eu, .inr (0, [.long (jl (u.2.2.2.1)), .long (jl (u.2.2.2.2.1)), .long (jl (u.2.2.2.2.2))])), (f, .inr (1, [.long (jl (a)), .long (jl (b)), .long (jl (c))]))] t.heap) (va_A [(g, .inr (2, [.ref o, .ref wk, .ref st, .ref bs, .ref eu, .int (ji (Dd)), .int (ji (w))])), (o, .inr (1, [.long (jl (o1)), .long (jl (o2)), .long (jl (o3))])), (wk, .inr (1, [.long (jl (x1)), .long (jl (x2)), .long (jl (x3))])), (st, .inr (1, [.long (jl (y1)), .long (jl (y2)), .long (jl (y3))])), (bs, .inr (1, [.long (jl (v1)), .long (jl (v2)), .long (jl (v3))])), (eu, .inr (0, [.long (jl (j1)), .long (jl (j2)), .long (jl (j3))])), (f, .inr (1, [.long (jl (a)), .long (jl (b)), .long (jl (c))]))] sz)) (by decide +kernel) co_G_orderOf (Nat.le_of_ble_eq_true rfl) ?_
  intro pq eq s mq below meth cq A X hK hP hD hS hA hAe ls hl
  obtain ⟨hx, hb, hml, hown, hr, hlocks, hts⟩ := id X
  have hl : lv_has ls 3 [(0, .ref g), (1, .ref f)] := hl
  obtain ⟨mm, m0, m1, hmm⟩ := fm_ord_ex hg.1 hg.2.2.2 hg.2.1 hs hf
  have fb := red_b30 hg hf.1 hfn.2.1
  have ob := red_b30 hg hone.1 hone.2.1
  refine lv_aload_n hx hb d_G_orderOf_0 rfl (lv_at hl 0 rfl) ?_
  refine va_get (D := D) (ci := 2) (v := .ref bs) (C := R_G) (T := T_G) (N := 7) hx hb hts uw_G hown hK.1 hP 0 rfl rfl 3 (by decide) (hts _ fl_G_24) (fun _ h9 => h9) rfl d_G_orderOf_1 ?_
  refine lv_aload_n hx hb d_G_orderOf_4 rfl (lv_at hl 1 rfl) ?_
  refine cl_v (rn_VN (wc := [(bs, .inr (1, [.long (jl (v1)), .long (jl (v2)), .long (jl (v3))])), (f, .inr (1, [.long (jl (a)), .long (jl (b)), .long (jl (c))]))]) (As := [.ref f]) (rest := []) X hK (c_F_copy l D cI cJ cF  _) co_F_copy in_F nm_G_117 im_F_copy se_F_copy 1 rfl (by decide +kernel) ⟨Nat.le_of_ble_eq_true rfl, Nat.le_of_ble_eq_true rfl⟩ hP hD [4, 6] rfl (by decide) (q0 := 0) (ci := 1) rfl rfl rfl hl.1 rfl (Nat.le_of_ble_eq_true rfl) d_G_orderOf_5 ⟨Nat.zero_le _, Nat.zero_le _⟩) hP hD hS hA [4, 6] rfl (by decide) (fun _ => rfl) (fun u_1 H locs hp hP hD hS => ?_)
  have hP : va_P D classes [(g, .inr (2, [.ref o, .ref wk, .ref st, .ref bs, .ref eu, .int (ji (Dd)), .int (ji (w))])), (o, .inr (1, [.long (jl (o1)), .long (jl (o2)), .long (jl (o3))])), (wk, .inr (1, [.long (jl (x1)), .long (jl (x2)), .long (jl (x3))])), (st, .inr (1, [.long (jl (y1)), .long (jl (y2)), .long (jl (y3))])), (bs, .inr (1, [.long (jl (a)), .long (jl (b)), .long (jl (c))])), (eu, .inr (0, [.long (jl (j1)), .long (jl (j2)), .long (jl (j3))])), (f, .inr (1, [.long (jl (a)), .long (jl (b)), .long (jl (c))]))] H := hP
  have hD : va_D A [(g, .inr (2, [.ref o, .ref wk, .ref st, .ref bs, .ref eu, .int (ji (Dd)), .int (ji (w))])), (o, .inr (1, [.long (jl (o1)), .long (jl (o2)), .long (jl (o3))])), (wk, .inr (1, [.long (jl (x1)), .long (jl (x2)), .long (jl (x3))])), (st, .inr (1, [.long (jl (y1)), .long (jl (y2)), .long (jl (y3))])), (bs, .inr (1, [.long (jl (a)), .long (jl (b)), .long (jl (c))])), (eu, .inr (0, [.long (jl (j1)), .long (jl (j2)), .long (jl (j3))])), (f, .inr (1, [.long (jl (a)), .long (jl (b)), .long (jl (c))]))] := hD
  refine w_iconst hx hb d_G_orderOf_8 ?_
  refine lv_istore_n (lv' := [(2, .int (ji (1))), (0, .ref g), (1, .ref f)]) hx hb d_G_orderOf_9 rfl hl (by decide) rfl (fun ls hl => ?_)
  refine lpn (I := fun n H locs ls => ∃ (nn : Nat) (b1 : Int) (b2 : Int) (b3 : Int) (w1 : Int) (w2 : Int) (w3 : Int) (t1 : Int) (t2 : Int) (t3 : Int) (e1 : Int) (e2 : Int) (e3 : Int), mm - nn = n ∧ (1 ≤ nn ∧ nn ≤ mm ∧ (∀ j : Nat, 0 < j → j < nn → ¬ fm_pw Dd s0 n0 (a, b, c) j (fm_one s0 n0)) ∧ fm_v Dd (b1, b2, b3) ∧ fm_nm Dd w (b1, b2, b3) (b1, b2, b3) ∧ fm_pw Dd s0 n0 (a, b, c) nn (b1, b2, b3)) ∧ va_P D classes [(g, .inr (2, [.ref o, .ref wk, .ref st, .ref bs, .ref eu, .int (ji (Dd)), .int (ji (w))])), (o, .inr (1, [.long (jl (o1)), .long (jl (o2)), .long (jl (o3))])), (wk, .inr (1, [.long (jl (w1)), .long (jl (w2)), .long (jl (w3))])), (st, .inr (1, [.long (jl (t1)), .long (jl (t2)), .long (jl (t3))])), (bs, .inr (1, [.long (jl (b1)), .long (jl (b2)), .long (jl (b3))])), (eu, .inr (0, [.long (jl (e1)), .long (jl (e2)), .long (jl (e3))])), (f, .inr (1, [.long (jl (a)), .long (jl (b)), .long (jl (c))]))] H ∧ va_D A [(g, .inr (2, [.ref o, .ref wk, .ref st, .ref bs, .ref eu, .int (ji (Dd)), .int (ji (w))])), (o, .inr (1, [.long (jl (o1)), .long (jl (o2)), .long (jl (o3))])), (wk, .inr (1, [.long (jl (w1)), .long (jl (w2)), .long (jl (w3))])), (st, .inr (1, [.long (jl (t1)), .long (jl (t2)), .long (jl (t3))])), (bs, .inr (1, [.long (jl (b1)), .long (jl (b2)), .long (jl (b3))])), (eu, .inr (0, [.long (jl (e1)), .long (jl (e2)), .long (jl (e3))])), (f, .inr (1, [.long (jl (a)), .long (jl (b)), .long (jl (c))]))] ∧ va_S A s.heap H locs ∧ lv_has ls 3 [(0, .ref g), (1, .ref f), (2, .int (ji (nn)))]) ?_ _ _ _ _ ⟨1, a, b, c, x1, x2, x3, y1, y2, y3, j1, j2, j3, rfl, ⟨by omega, by omega, fun j z1 z2 => by omega, hf, hfn, fm_pw.one hs hf⟩, hP, hD, hS, lv_sub hl [1, 2, 0] rfl⟩
  rintro n H locs ls ⟨nn, b1, b2, b3, w1, w2, w3, t1, t2, t3, e1, e2, e3, rfl, hi, hP, hD, hS, hl⟩ ih
  refine lv_iload_n hx hb d_G_orderOf_10 rfl (lv_at hl 2 rfl) ?_
  refine w_ldc (v := 1000000) (n := 1000000) hx hb (by decide) hown (hts _ kc_G_86) d_G_orderOf_11 ?_
  refine wi_cge hx hb ⟨by omega, by omega⟩ ⟨by decide, by decide⟩ d_G_orderOf_13 (tgt := 54) (by decide) (fun h_2 => ?_) (fun h_2 => ?_)
  · exact absurd hi.2.1 (by omega)
  · obtain ⟨i1, i2, i3, i4, i5, i6⟩ := hi
    have bb := red_b30 hg i5.1 i5.2.1
    refine lv_aload_n hx hb d_G_orderOf_16 rfl (lv_at hl 0 rfl) ?_
    refine va_get (D := D) (ci := 2) (v := .ref bs) (C := R_G) (T := T_G) (N := 7) hx hb hts uw_G hown hK.1 hP 0 rfl rfl 3 (by decide) (hts _ fl_G_24) (fun _ h9 => h9) rfl d_G_orderOf_17 ?_
    refine lv_aload_n hx hb d_G_orderOf_20 rfl (lv_at hl 0 rfl) ?_
    refine va_get (D := D) (ci := 2) (v := .ref o) (C := R_G) (T := T_G) (N := 7) hx hb hts uw_G hown hK.1 hP 0 rfl rfl 0 (by decide) (hts _ fl_G_12) (fun _ h9 => h9) rfl d_G_orderOf_21 ?_
    refine cl_i (rn_VN (wc := [(bs, .inr (1, [.long (jl (b1)), .long (jl (b2)), .long (jl (b3))])), (o, .inr (1, [.long (jl (o1)), .long (jl (o2)), .long (jl (o3))]))]) (As := [.ref o]) (rest := []) X hK (c_F_matches l D cI cJ cF bb.1.j bb.2.1.j bb.2.2.j ob.1.j ob.2.1.j ob.2.2.j _) co_F_matches in_F nm_G_120 im_F_matches se_F_matches 1 rfl (by decide +kernel) ⟨Nat.le_of_ble_eq_true rfl, Nat.le_of_ble_eq_true rfl⟩ hP hD [4, 1] rfl (by decide) (q0 := 0) (ci := 1) rfl rfl rfl hl.1 rfl (Nat.le_of_ble_eq_true rfl) d_G_orderOf_24 ⟨Nat.zero_le _, Nat.zero_le _⟩) hP hD hS hA [4, 1] rfl (by decide) (fun _ => rfl) (fun r_3 u_4 H locs hp hP hD hS => ?_)
    obtain ⟨tt1, rfl, ht1⟩ := hp
    have hP : va_P D classes [(g, .inr (2, [.ref o, .ref wk, .ref st, .ref bs, .ref eu, .int (ji (Dd)), .int (ji (w))])), (o, .inr (1, [.long (jl (o1)), .long (jl (o2)), .long (jl (o3))])), (wk, .inr (1, [.long (jl (w1)), .long (jl (w2)), .long (jl (w3))])), (st, .inr (1, [.long (jl (t1)), .long (jl (t2)), .long (jl (t3))])), (bs, .inr (1, [.long (jl (b1)), .long (jl (b2)), .long (jl (b3))])), (eu, .inr (0, [.long (jl (e1)), .long (jl (e2)), .long (jl (e3))])), (f, .inr (1, [.long (jl (a)), .long (jl (b)), .long (jl (c))]))] H := hP
    have hD : va_D A [(g, .inr (2, [.ref o, .ref wk, .ref st, .ref bs, .ref eu, .int (ji (Dd)), .int (ji (w))])), (o, .inr (1, [.long (jl (o1)), .long (jl (o2)), .long (jl (o3))])), (wk, .inr (1, [.long (jl (w1)), .long (jl (w2)), .long (jl (w3))])), (st, .inr (1, [.long (jl (t1)), .long (jl (t2)), .long (jl (t3))])), (bs, .inr (1, [.long (jl (b1)), .long (jl (b2)), .long (jl (b3))])), (eu, .inr (0, [.long (jl (e1)), .long (jl (e2)), .long (jl (e3))])), (f, .inr (1, [.long (jl (a)), .long (jl (b)), .long (jl (c))]))] := hD
    refine wi_zne hx hb ⟨by omega, by omega⟩ d_G_orderOf_27 (tgt := 54) (by decide) (fun h_5 => ?_) (fun h_5 => ?_)
    · have hp1 : fm_pw Dd s0 n0 (a, b, c) ((nn : Int)).toNat (fm_one s0 n0) := (pw_one hg.1 hs i5 hone i6).mp (by rcases ht1 with z | z; exact fm_ext z.2.1 z.2.2.1 z.2.2.2; omega)
      refine lv_iload_n hx hb d_G_orderOf_54 rfl (lv_at hl 2 rfl) ?_
      exact rt_i X hAe hS ((w1, w2, w3), (t1, t2, t3), (b1, b2, b3), e1, e2, e3) ⟨nn, rfl, ⟨by omega, hp1, fun j z1 z2 => i3 j z1 (by omega)⟩, by omega⟩ hP d_G_orderOf_55
    · have hp1 : ¬ fm_pw Dd s0 n0 (a, b, c) nn (fm_one s0 n0) := by
        intro z
        have e := (pw_one hg.1 hs i5 hone i6).mpr z
        rcases ht1 with y | y
        · omega
        · exact y.2 ⟨congrArg (fun q => q.1) e, congrArg (fun q => q.2.1) e, congrArg (fun q => q.2.2) e⟩
      have hnm1 : nn ≠ mm := fun z => hp1 (by rw [z]; exact hmm)
      refine lv_aload_n hx hb d_G_orderOf_30 rfl (lv_at hl 0 rfl) ?_
      refine lv_aload_n hx hb d_G_orderOf_31 rfl (lv_at hl 0 rfl) ?_
      refine va_get (D := D) (ci := 2) (v := .ref bs) (C := R_G) (T := T_G) (N := 7) hx hb hts uw_G hown hK.1 hP 0 rfl rfl 3 (by decide) (hts _ fl_G_24) (fun _ h9 => h9) rfl d_G_orderOf_32 ?_
      refine lv_aload_n hx hb d_G_orderOf_35 rfl (lv_at hl 1 rfl) ?_
      refine cl_v (rn_V (wc := [(g, .inr (2, [.ref o, .ref wk, .ref st, .ref bs, .ref eu, .int (ji (Dd)), .int (ji (w))])), (eu, .inr (0, [.long (jl (e1)), .long (jl (e2)), .long (jl (e3))])), (bs, .inr (1, [.long (jl (b1)), .long (jl (b2)), .long (jl (b3))])), (f, .inr (1, [.long (jl (a)), .long (jl (b)), .long (jl (c))]))]) (As := [.ref bs, .ref f]) (rest := []) X hK (c_G_multiply l D cI cJ cF hg hs i4 i5.2.1 hf hfn.2.1 _) co_G_multiply in_G ml_G_135 im_G_multiply se_G_multiply 2 rfl (by decide +kernel) ⟨Nat.le_of_ble_eq_true rfl, Nat.le_of_ble_eq_true rfl⟩ hP hD [0, 5, 4, 6] rfl (by decide) (q0 := 0) (ci := 2) rfl rfl rfl hl.1 rfl (Nat.le_of_ble_eq_true rfl) d_G_orderOf_36 ⟨Nat.zero_le _, Nat.zero_le _⟩) hP hD hS hA [0, 5, 4, 6] rfl (by decide) (fun _ => rfl) (fun u_6 H locs hp hP hD hS => ?_)
      obtain ⟨hv1, hr1, hcp1⟩ : fm_v Dd (u_6).1 ∧ fm_red Dd w (u_6).1 ∧ fm_cp s0 n0 (b1, b2, b3) (a, b, c) (u_6).1 := hp
      have hP : va_P D classes [(g, .inr (2, [.ref o, .ref wk, .ref st, .ref bs, .ref eu, .int (ji (Dd)), .int (ji (w))])), (o, .inr (1, [.long (jl (o1)), .long (jl (o2)), .long (jl (o3))])), (wk, .inr (1, [.long (jl (w1)), .long (jl (w2)), .long (jl (w3))])), (st, .inr (1, [.long (jl (t1)), .long (jl (t2)), .long (jl (t3))])), (bs, .inr (1, [.long (jl ((u_6).1.1)), .long (jl ((u_6).1.2.1)), .long (jl ((u_6).1.2.2))])), (eu, .inr (0, [.long (jl ((u_6).2.1)), .long (jl ((u_6).2.2.1)), .long (jl ((u_6).2.2.2))])), (f, .inr (1, [.long (jl (a)), .long (jl (b)), .long (jl (c))]))] H := hP
      have hD : va_D A [(g, .inr (2, [.ref o, .ref wk, .ref st, .ref bs, .ref eu, .int (ji (Dd)), .int (ji (w))])), (o, .inr (1, [.long (jl (o1)), .long (jl (o2)), .long (jl (o3))])), (wk, .inr (1, [.long (jl (w1)), .long (jl (w2)), .long (jl (w3))])), (st, .inr (1, [.long (jl (t1)), .long (jl (t2)), .long (jl (t3))])), (bs, .inr (1, [.long (jl ((u_6).1.1)), .long (jl ((u_6).1.2.1)), .long (jl ((u_6).1.2.2))])), (eu, .inr (0, [.long (jl ((u_6).2.1)), .long (jl ((u_6).2.2.1)), .long (jl ((u_6).2.2.2))])), (f, .inr (1, [.long (jl (a)), .long (jl (b)), .long (jl (c))]))] := hD
      refine lv_aload_n hx hb d_G_orderOf_39 rfl (lv_at hl 0 rfl) ?_
      refine lv_aload_n hx hb d_G_orderOf_40 rfl (lv_at hl 0 rfl) ?_
      refine va_get (D := D) (ci := 2) (v := .ref bs) (C := R_G) (T := T_G) (N := 7) hx hb hts uw_G hown hK.1 hP 0 rfl rfl 3 (by decide) (hts _ fl_G_24) (fun _ h9 => h9) rfl d_G_orderOf_41 ?_
      refine cl_i (rn_V (wc := [(g, .inr (2, [.ref o, .ref wk, .ref st, .ref bs, .ref eu, .int (ji (Dd)), .int (ji (w))])), (wk, .inr (1, [.long (jl (w1)), .long (jl (w2)), .long (jl (w3))])), (st, .inr (1, [.long (jl (t1)), .long (jl (t2)), .long (jl (t3))])), (bs, .inr (1, [.long (jl ((u_6).1.1)), .long (jl ((u_6).1.2.1)), .long (jl ((u_6).1.2.2))]))]) (As := [.ref bs]) (rest := []) X hK (c_G_turnIntoName l D cI cJ cF hg hv1.1 hr1 _) co_G_turnIntoName in_G ml_G_53 im_G_turnIntoName se_G_turnIntoName 1 rfl (by decide +kernel) ⟨Nat.le_of_ble_eq_true rfl, Nat.le_of_ble_eq_true rfl⟩ hP hD [0, 2, 3, 4] rfl (by decide) (q0 := 0) (ci := 2) rfl rfl rfl hl.1 rfl (Nat.le_of_ble_eq_true rfl) d_G_orderOf_44 ⟨Nat.zero_le _, Nat.zero_le _⟩) hP hD hS hA [0, 2, 3, 4] rfl (by decide) (fun _ => rfl) (fun r_7 u_8 H locs hp hP hD hS => ?_)
      obtain ⟨cn, rfl, hnm2, -, -, -⟩ := hp
      have hcp2 := hcp1.r (fm_eq_mg hg.1 hs hv1.1 hnm2.1 hnm2.2.2.1.sy)
      have hv2 := v_mg hg.1 hv1 hnm2.1 hnm2.2.1 hnm2.2.2.1
      have hP : va_P D classes [(g, .inr (2, [.ref o, .ref wk, .ref st, .ref bs, .ref eu, .int (ji (Dd)), .int (ji (w))])), (o, .inr (1, [.long (jl (o1)), .long (jl (o2)), .long (jl (o3))])), (wk, .inr (1, [.long (jl ((u_8).2.1.1)), .long (jl ((u_8).2.1.2.1)), .long (jl ((u_8).2.1.2.2))])), (st, .inr (1, [.long (jl ((u_8).2.2.1)), .long (jl ((u_8).2.2.2.1)), .long (jl ((u_8).2.2.2.2))])), (bs, .inr (1, [.long (jl ((u_8).1.1)), .long (jl ((u_8).1.2.1)), .long (jl ((u_8).1.2.2))])), (eu, .inr (0, [.long (jl ((u_6).2.1)), .long (jl ((u_6).2.2.1)), .long (jl ((u_6).2.2.2))])), (f, .inr (1, [.long (jl (a)), .long (jl (b)), .long (jl (c))]))] H := hP
      have hD : va_D A [(g, .inr (2, [.ref o, .ref wk, .ref st, .ref bs, .ref eu, .int (ji (Dd)), .int (ji (w))])), (o, .inr (1, [.long (jl (o1)), .long (jl (o2)), .long (jl (o3))])), (wk, .inr (1, [.long (jl ((u_8).2.1.1)), .long (jl ((u_8).2.1.2.1)), .long (jl ((u_8).2.1.2.2))])), (st, .inr (1, [.long (jl ((u_8).2.2.1)), .long (jl ((u_8).2.2.2.1)), .long (jl ((u_8).2.2.2.2))])), (bs, .inr (1, [.long (jl ((u_8).1.1)), .long (jl ((u_8).1.2.1)), .long (jl ((u_8).1.2.2))])), (eu, .inr (0, [.long (jl ((u_6).2.1)), .long (jl ((u_6).2.2.1)), .long (jl ((u_6).2.2.2))])), (f, .inr (1, [.long (jl (a)), .long (jl (b)), .long (jl (c))]))] := hD
      refine lv_pop hx hb d_G_orderOf_47 rfl ?_
      refine lv_iinc (v := ji ((nn) + (1))) (lv' := [(2, .int (ji ((nn) + (1)))), (0, .ref g), (1, .ref f)]) hx hb d_G_orderOf_48 hl (k := 2) rfl (ji_add _ _) (by decide) rfl (fun ls hl => ?_)
      refine lv_goto (tgt := 10) hx hb d_G_orderOf_51 (by decide) ?_
      exact ih _ _ _ _ (by omega) ⟨nn + 1, ((u_8).1).1, ((u_8).1).2.1, ((u_8).1).2.2, (u_8).2.1.1, (u_8).2.1.2.1, (u_8).2.1.2.2, (u_8).2.2.1, (u_8).2.2.2.1, (u_8).2.2.2.2, (u_6).2.1, (u_6).2.2.1, (u_6).2.2.2, rfl, ⟨by omega, by omega, fun j z1 z2 => by rcases Nat.lt_or_ge j nn with z | z; exact i3 j z1 z; (have : j = nn := by omega); rw [this]; exact hp1, hv2, hnm2.self, ⟨_, i4, i6, hcp2⟩⟩, hP, hD, hS, lv_sub hl [1, 2, 0] rfl⟩
end
section
set_option maxHeartbeats 4000000 in
set_option maxRecDepth 100000 in
theorem c_G_exponentOf (l : Launch) (D : va_G) (cI cJ cF : ClassId) {g o wk st bs eu : Nat} {Dd w : Int} {f h : Nat} {a b c o1 o2 o3 x1 x2 x3 y1 y2 y3 v1 v2 v3 j1 j2 j3 s0 n0 : Int} (hg : gD Dd w) (hs : fm_sn Dd s0 n0) (hone : fm_nm Dd w (o1, o2, o3) (fm_one s0 n0)) (hf : fm_v Dd (a, b, c)) (hfn : fm_nm Dd w (a, b, c) (a, b, c)) {q1 q2 q3 : Int} (hgn : fm_nm Dd w (q1, q2, q3) (q1, q2, q3)) : ∀ sz, Met l y_G_exponentOf (Cond.code y_G_exponentOf b_G_exponentOf 4 (some .int) :: wb) { frames := 5, cells := 0, slots := 0, locals := 134 } (va_Pc [.ref g, .ref f, .ref h] (cpre D cI cJ cF [(g, .inr (2, [.ref o, .ref wk, .ref st, .ref bs, .ref eu, .int (ji (Dd)), .int (ji (w))])), (o, .inr (1, [.long (jl (o1)), .long (jl (o2)), .long (jl (o3))])), (wk, .inr (1, [.long (jl (x1)), .long (jl (x2)), .long (jl (x3))])), (st, .inr (1, [.long (jl (y1)), .long (jl (y2)), .long (jl (y3))])), (bs, .inr (1, [.long (jl (v1)), .long (jl (v2)), .long (jl (v3))])), (eu, .inr (0, [.long (jl (j1)), .long (jl (j2)), .long (jl (j3))])), (f, .inr (1, [.long (jl (a)), .long (jl (b)), .long (jl (c))])), (h, .inr (1, [.long (jl (q1)), .long (jl (q2)), .long (jl (q3))]))] sz)) (va_Qi (fun r (u : fm_F × fm_F × fm_F × Int × Int × Int) => ∃ N : Int, r = ji N ∧ fm_ex Dd s0 n0 (a, b, c) (q1, q2, q3) N ∧ -1 ≤ N ∧ N ≤ 720000) (fun (u : fm_F × fm_F × fm_F × Int × Int × Int) t => va_P D classes [(g, .inr (2, [.ref o, .ref wk, .ref st, .ref bs, .ref eu, .int (ji (Dd)), .int (ji (w))])), (o, .inr (1, [.long (jl (o1)), .long (jl (o2)), .long (jl (o3))])), (wk, .inr (1, [.long (jl ((u.1).1)), .long (jl ((u.1).2.1)), .long (jl ((u.1).2.2))])), (st, .inr (1, [.long (jl ((u.2.1).1)), .long (jl ((u.2.1).2.1)), .long (jl ((u.2.1).2.2))])), (bs, .inr (1, [.long (jl ((u.2.2.1).1)), .long (jl ((u.2.2.1).2.1)), .long (jl ((u.2.2.1).2.2))])), (eu, .inr (0, [.long (jl (u.2.2.2.1)), .long (jl (u.2.2.2.2.1)), .long (jl (u.2.2.2.2.2))])), (f, .inr (1, [.long (jl (a)), .long (jl (b)), .long (jl (c))])), (h, .inr (1, [.long (jl (q1)), .long (jl (q2)), .long (jl (q3))]))] t.heap) (va_A [(g, .inr (2, [.ref o, .ref wk, .ref st, .ref bs, .ref eu, .int (ji (Dd)), .int (ji (w))])), (o, .inr (1, [.long (jl (o1)), .long (jl (o2)), .long (jl (o3))])), (wk, .inr (1, [.long (jl (x1)), .long (jl (x2)), .long (jl (x3))])), (st, .inr (1, [.long (jl (y1)), .long (jl (y2)), .long (jl (y3))])), (bs, .inr (1, [.long (jl (v1)), .long (jl (v2)), .long (jl (v3))])), (eu, .inr (0, [.long (jl (j1)), .long (jl (j2)), .long (jl (j3))])), (f, .inr (1, [.long (jl (a)), .long (jl (b)), .long (jl (c))])), (h, .inr (1, [.long (jl (q1)), .long (jl (q2)), .long (jl (q3))]))] sz)) 0 0 (va_A [(g, .inr (2, [.ref o, .ref wk, .ref st, .ref bs, .ref eu, .int (ji (Dd)), .int (ji (w))])), (o, .inr (1, [.long (jl (o1)), .long (jl (o2)), .long (jl (o3))])), (wk, .inr (1, [.long (jl (x1)), .long (jl (x2)), .long (jl (x3))])), (st, .inr (1, [.long (jl (y1)), .long (jl (y2)), .long (jl (y3))])), (bs, .inr (1, [.long (jl (v1)), .long (jl (v2)), .long (jl (v3))])), (eu, .inr (0, [.long (jl (j1)), .long (jl (j2)), .long (jl (j3))])), (f, .inr (1, [.long (jl (a)), .long (jl (b)), .long (jl (c))])), (h, .inr (1, [.long (jl (q1)), .long (jl (q2)), .long (jl (q3))]))] sz) := by
  refine c_of (Qc := fun sz => va_Qi (fun r (u : fm_F × fm_F × fm_F × Int × Int × Int) => ∃ N : Int, r = ji N ∧ fm_ex Dd s0 n0 (a, b, c) (q1, q2, q3) N ∧ -1 ≤ N ∧ N ≤ 720000) (fun (u : fm_F × fm_F × fm_F × Int × Int × Int) t => va_P D classes [(g, .inr (2, [.ref o, .ref wk, .ref st, .ref bs, .ref eu, .int (ji (Dd)), .int (ji (w))])), (o, .inr (1, [.long (jl (o1)), .long (jl (o2)), .long (jl (o3))])), (wk, .inr (1, [.long (jl ((u.1).1)), .long (jl ((u.1).2.1)), .long (jl ((u.1).2.2))])), (st, .inr (1, [.long (jl ((u.2.1).1)), .long (jl ((u.2.1).2.1)), .long (jl ((u.2.1).2.2))])), (bs, .inr (1, [.long (jl ((u.2.2.1).1)), .long (jl ((u.2.2.1).2.1)), .long (jl ((u.2.2.1).2.2))])), (eu, .inr (0, [.long (jl (u.2.2.2.1)), .long (jl (u.2.2.2.2.1)), .long (jl (u.2.2.2.2.2))])), (f, .inr (1, [.long (jl (a)), .long (jl (b)), .long (jl (c))])), (h, .inr (1, [.long (jl (q1)), .long (jl (q2)), .long (jl (q3))]))] t.heap) (va_A [(g, .inr (2, [.ref o, .ref wk, .ref st, .ref bs, .ref eu, .int (ji (Dd)), .int (ji (w))])), (o, .inr (1, [.long (jl (o1)), .long (jl (o2)), .long (jl (o3))])), (wk, .inr (1, [.long (jl (x1)), .long (jl (x2)), .long (jl (x3))])), (st, .inr (1, [.long (jl (y1)), .long (jl (y2)), .long (jl (y3))])), (bs, .inr (1, [.long (jl (v1)), .long (jl (v2)), .long (jl (v3))])), (eu, .inr (0, [.long (jl (j1)), .long (jl (j2)), .long (jl (j3))])), (f, .inr (1, [.long (jl (a)), .long (jl (b)), .long (jl (c))])), (h, .inr (1, [.long (jl (q1)), .long (jl (q2)), .long (jl (q3))]))] sz)) (by decide +kernel) co_G_exponentOf (Nat.le_of_ble_eq_true rfl) ?_
  intro pq eq s mq below meth cq A X hK hP hD hS hA hAe ls hl
  obtain ⟨hx, hb, hml, hown, hr, hlocks, hts⟩ := id X
  have hl : lv_has ls 4 [(0, .ref g), (1, .ref f), (2, .ref h)] := hl
  obtain ⟨mm, m0, m1, hmm⟩ := fm_ord_ex hg.1 hg.2.2.2 hg.2.1 hs hf
  have fb := red_b30 hg hf.1 hfn.2.1
  have ob := red_b30 hg hone.1 hone.2.1
  have qb := red_b30 hg hgn.1 hgn.2.1
  refine lv_aload_n hx hb d_G_exponentOf_0 rfl (lv_at hl 2 rfl) ?_
  refine lv_aload_n hx hb d_G_exponentOf_1 rfl (lv_at hl 0 rfl) ?_
  refine va_get (D := D) (ci := 2) (v := .ref o) (C := R_G) (T := T_G) (N := 7) hx hb hts uw_G hown hK.1 hP 0 rfl rfl 0 (by decide) (hts _ fl_G_12) (fun _ h9 => h9) rfl d_G_exponentOf_2 ?_
  refine cl_i (rn_VN (wc := [(h, .inr (1, [.long (jl (q1)), .long (jl (q2)), .long (jl (q3))])), (o, .inr (1, [.long (jl (o1)), .long (jl (o2)), .long (jl (o3))]))]) (As := [.ref o]) (rest := []) X hK (c_F_matches l D cI cJ cF qb.1.j qb.2.1.j qb.2.2.j ob.1.j ob.2.1.j ob.2.2.j _) co_F_matches in_F nm_G_120 im_F_matches se_F_matches 1 rfl (by decide +kernel) ⟨Nat.le_of_ble_eq_true rfl, Nat.le_of_ble_eq_true rfl⟩ hP hD [7, 1] rfl (by decide) (q0 := 0) (ci := 1) rfl rfl rfl hl.1 rfl (Nat.le_of_ble_eq_true rfl) d_G_exponentOf_5 ⟨Nat.zero_le _, Nat.zero_le _⟩) hP hD hS hA [7, 1] rfl (by decide) (fun _ => rfl) (fun r_1 u_2 H locs hp hP hD hS => ?_)
  obtain ⟨tt0, rfl, ht0⟩ := hp
  have hP : va_P D classes [(g, .inr (2, [.ref o, .ref wk, .ref st, .ref bs, .ref eu, .int (ji (Dd)), .int (ji (w))])), (o, .inr (1, [.long (jl (o1)), .long (jl (o2)), .long (jl (o3))])), (wk, .inr (1, [.long (jl (x1)), .long (jl (x2)), .long (jl (x3))])), (st, .inr (1, [.long (jl (y1)), .long (jl (y2)), .long (jl (y3))])), (bs, .inr (1, [.long (jl (v1)), .long (jl (v2)), .long (jl (v3))])), (eu, .inr (0, [.long (jl (j1)), .long (jl (j2)), .long (jl (j3))])), (f, .inr (1, [.long (jl (a)), .long (jl (b)), .long (jl (c))])), (h, .inr (1, [.long (jl (q1)), .long (jl (q2)), .long (jl (q3))]))] H := hP
  have hD : va_D A [(g, .inr (2, [.ref o, .ref wk, .ref st, .ref bs, .ref eu, .int (ji (Dd)), .int (ji (w))])), (o, .inr (1, [.long (jl (o1)), .long (jl (o2)), .long (jl (o3))])), (wk, .inr (1, [.long (jl (x1)), .long (jl (x2)), .long (jl (x3))])), (st, .inr (1, [.long (jl (y1)), .long (jl (y2)), .long (jl (y3))])), (bs, .inr (1, [.long (jl (v1)), .long (jl (v2)), .long (jl (v3))])), (eu, .inr (0, [.long (jl (j1)), .long (jl (j2)), .long (jl (j3))])), (f, .inr (1, [.long (jl (a)), .long (jl (b)), .long (jl (c))])), (h, .inr (1, [.long (jl (q1)), .long (jl (q2)), .long (jl (q3))]))] := hD
  refine wi_zeq hx hb ⟨by omega, by omega⟩ d_G_exponentOf_8 (tgt := 13) (by decide) (fun h_3 => ?_) (fun h_3 => ?_)
  · have hp0 : ¬ fm_pw Dd s0 n0 (a, b, c) 0 (q1, q2, q3) := by
      intro z
      have e := (pw_goal hg.1 hs hone.self hgn (show fm_pw Dd s0 n0 (a, b, c) 0 (o1, o2, o3) from (fm_eq_mg hg.1 hs hone.1 (fm_one_disc hs) hone.2.2.1).sy)).mpr z
      rcases ht0 with y | y
      · omega
      · exact y.2 ⟨(congrArg (fun q => q.1) e).symm, (congrArg (fun q => q.2.1) e).symm, (congrArg (fun q => q.2.2) e).symm⟩
    refine lv_aload_n hx hb d_G_exponentOf_13 rfl (lv_at hl 0 rfl) ?_
    refine va_get (D := D) (ci := 2) (v := .ref bs) (C := R_G) (T := T_G) (N := 7) hx hb hts uw_G hown hK.1 hP 0 rfl rfl 3 (by decide) (hts _ fl_G_24) (fun _ h9 => h9) rfl d_G_exponentOf_14 ?_
    refine lv_aload_n hx hb d_G_exponentOf_17 rfl (lv_at hl 1 rfl) ?_
    refine cl_v (rn_VN (wc := [(bs, .inr (1, [.long (jl (v1)), .long (jl (v2)), .long (jl (v3))])), (f, .inr (1, [.long (jl (a)), .long (jl (b)), .long (jl (c))]))]) (As := [.ref f]) (rest := []) X hK (c_F_copy l D cI cJ cF  _) co_F_copy in_F nm_G_117 im_F_copy se_F_copy 1 rfl (by decide +kernel) ⟨Nat.le_of_ble_eq_true rfl, Nat.le_of_ble_eq_true rfl⟩ hP hD [4, 6] rfl (by decide) (q0 := 0) (ci := 1) rfl rfl rfl hl.1 rfl (Nat.le_of_ble_eq_true rfl) d_G_exponentOf_18 ⟨Nat.zero_le _, Nat.zero_le _⟩) hP hD hS hA [4, 6] rfl (by decide) (fun _ => rfl) (fun u_4 H locs hp hP hD hS => ?_)
    have hP : va_P D classes [(g, .inr (2, [.ref o, .ref wk, .ref st, .ref bs, .ref eu, .int (ji (Dd)), .int (ji (w))])), (o, .inr (1, [.long (jl (o1)), .long (jl (o2)), .long (jl (o3))])), (wk, .inr (1, [.long (jl (x1)), .long (jl (x2)), .long (jl (x3))])), (st, .inr (1, [.long (jl (y1)), .long (jl (y2)), .long (jl (y3))])), (bs, .inr (1, [.long (jl (a)), .long (jl (b)), .long (jl (c))])), (eu, .inr (0, [.long (jl (j1)), .long (jl (j2)), .long (jl (j3))])), (f, .inr (1, [.long (jl (a)), .long (jl (b)), .long (jl (c))])), (h, .inr (1, [.long (jl (q1)), .long (jl (q2)), .long (jl (q3))]))] H := hP
    have hD : va_D A [(g, .inr (2, [.ref o, .ref wk, .ref st, .ref bs, .ref eu, .int (ji (Dd)), .int (ji (w))])), (o, .inr (1, [.long (jl (o1)), .long (jl (o2)), .long (jl (o3))])), (wk, .inr (1, [.long (jl (x1)), .long (jl (x2)), .long (jl (x3))])), (st, .inr (1, [.long (jl (y1)), .long (jl (y2)), .long (jl (y3))])), (bs, .inr (1, [.long (jl (a)), .long (jl (b)), .long (jl (c))])), (eu, .inr (0, [.long (jl (j1)), .long (jl (j2)), .long (jl (j3))])), (f, .inr (1, [.long (jl (a)), .long (jl (b)), .long (jl (c))])), (h, .inr (1, [.long (jl (q1)), .long (jl (q2)), .long (jl (q3))]))] := hD
    refine w_iconst hx hb d_G_exponentOf_21 ?_
    refine lv_istore_n (lv' := [(3, .int (ji (1))), (0, .ref g), (1, .ref f), (2, .ref h)]) hx hb d_G_exponentOf_22 rfl hl (by decide) rfl (fun ls hl => ?_)
    refine lpn (I := fun n H locs ls => ∃ (nn : Nat) (b1 : Int) (b2 : Int) (b3 : Int) (w1 : Int) (w2 : Int) (w3 : Int) (t1 : Int) (t2 : Int) (t3 : Int) (e1 : Int) (e2 : Int) (e3 : Int), mm - nn = n ∧ (1 ≤ nn ∧ nn ≤ mm ∧ (∀ j : Nat, 0 < j → j < nn → ¬ fm_pw Dd s0 n0 (a, b, c) j (q1, q2, q3)) ∧ fm_v Dd (b1, b2, b3) ∧ fm_nm Dd w (b1, b2, b3) (b1, b2, b3) ∧ fm_pw Dd s0 n0 (a, b, c) nn (b1, b2, b3)) ∧ va_P D classes [(g, .inr (2, [.ref o, .ref wk, .ref st, .ref bs, .ref eu, .int (ji (Dd)), .int (ji (w))])), (o, .inr (1, [.long (jl (o1)), .long (jl (o2)), .long (jl (o3))])), (wk, .inr (1, [.long (jl (w1)), .long (jl (w2)), .long (jl (w3))])), (st, .inr (1, [.long (jl (t1)), .long (jl (t2)), .long (jl (t3))])), (bs, .inr (1, [.long (jl (b1)), .long (jl (b2)), .long (jl (b3))])), (eu, .inr (0, [.long (jl (e1)), .long (jl (e2)), .long (jl (e3))])), (f, .inr (1, [.long (jl (a)), .long (jl (b)), .long (jl (c))])), (h, .inr (1, [.long (jl (q1)), .long (jl (q2)), .long (jl (q3))]))] H ∧ va_D A [(g, .inr (2, [.ref o, .ref wk, .ref st, .ref bs, .ref eu, .int (ji (Dd)), .int (ji (w))])), (o, .inr (1, [.long (jl (o1)), .long (jl (o2)), .long (jl (o3))])), (wk, .inr (1, [.long (jl (w1)), .long (jl (w2)), .long (jl (w3))])), (st, .inr (1, [.long (jl (t1)), .long (jl (t2)), .long (jl (t3))])), (bs, .inr (1, [.long (jl (b1)), .long (jl (b2)), .long (jl (b3))])), (eu, .inr (0, [.long (jl (e1)), .long (jl (e2)), .long (jl (e3))])), (f, .inr (1, [.long (jl (a)), .long (jl (b)), .long (jl (c))])), (h, .inr (1, [.long (jl (q1)), .long (jl (q2)), .long (jl (q3))]))] ∧ va_S A s.heap H locs ∧ lv_has ls 4 [(0, .ref g), (1, .ref f), (2, .ref h), (3, .int (ji (nn)))]) ?_ _ _ _ _ ⟨1, a, b, c, x1, x2, x3, y1, y2, y3, j1, j2, j3, rfl, ⟨by omega, by omega, fun j z1 z2 => by omega, hf, hfn, fm_pw.one hs hf⟩, hP, hD, hS, lv_sub hl [1, 2, 3, 0] rfl⟩
    rintro n H locs ls ⟨nn, b1, b2, b3, w1, w2, w3, t1, t2, t3, e1, e2, e3, rfl, hi, hP, hD, hS, hl⟩ ih
    refine lv_iload_n hx hb d_G_exponentOf_23 rfl (lv_at hl 3 rfl) ?_
    refine w_ldc (v := 1000000) (n := 1000000) hx hb (by decide) hown (hts _ kc_G_86) d_G_exponentOf_24 ?_
    refine wi_cge hx hb ⟨by omega, by omega⟩ ⟨by decide, by decide⟩ d_G_exponentOf_26 (tgt := 80) (by decide) (fun h_5 => ?_) (fun h_5 => ?_)
    · exact absurd hi.2.1 (by omega)
    · obtain ⟨i1, i2, i3, i4, i5, i6⟩ := hi
      have bb := red_b30 hg i5.1 i5.2.1
      refine lv_aload_n hx hb d_G_exponentOf_29 rfl (lv_at hl 0 rfl) ?_
      refine va_get (D := D) (ci := 2) (v := .ref bs) (C := R_G) (T := T_G) (N := 7) hx hb hts uw_G hown hK.1 hP 0 rfl rfl 3 (by decide) (hts _ fl_G_24) (fun _ h9 => h9) rfl d_G_exponentOf_30 ?_
      refine lv_aload_n hx hb d_G_exponentOf_33 rfl (lv_at hl 2 rfl) ?_
      refine cl_i (rn_VN (wc := [(bs, .inr (1, [.long (jl (b1)), .long (jl (b2)), .long (jl (b3))])), (h, .inr (1, [.long (jl (q1)), .long (jl (q2)), .long (jl (q3))]))]) (As := [.ref h]) (rest := []) X hK (c_F_matches l D cI cJ cF bb.1.j bb.2.1.j bb.2.2.j qb.1.j qb.2.1.j qb.2.2.j _) co_F_matches in_F nm_G_120 im_F_matches se_F_matches 1 rfl (by decide +kernel) ⟨Nat.le_of_ble_eq_true rfl, Nat.le_of_ble_eq_true rfl⟩ hP hD [4, 7] rfl (by decide) (q0 := 0) (ci := 1) rfl rfl rfl hl.1 rfl (Nat.le_of_ble_eq_true rfl) d_G_exponentOf_34 ⟨Nat.zero_le _, Nat.zero_le _⟩) hP hD hS hA [4, 7] rfl (by decide) (fun _ => rfl) (fun r_6 u_7 H locs hp hP hD hS => ?_)
      obtain ⟨tt1, rfl, ht1⟩ := hp
      have hP : va_P D classes [(g, .inr (2, [.ref o, .ref wk, .ref st, .ref bs, .ref eu, .int (ji (Dd)), .int (ji (w))])), (o, .inr (1, [.long (jl (o1)), .long (jl (o2)), .long (jl (o3))])), (wk, .inr (1, [.long (jl (w1)), .long (jl (w2)), .long (jl (w3))])), (st, .inr (1, [.long (jl (t1)), .long (jl (t2)), .long (jl (t3))])), (bs, .inr (1, [.long (jl (b1)), .long (jl (b2)), .long (jl (b3))])), (eu, .inr (0, [.long (jl (e1)), .long (jl (e2)), .long (jl (e3))])), (f, .inr (1, [.long (jl (a)), .long (jl (b)), .long (jl (c))])), (h, .inr (1, [.long (jl (q1)), .long (jl (q2)), .long (jl (q3))]))] H := hP
      have hD : va_D A [(g, .inr (2, [.ref o, .ref wk, .ref st, .ref bs, .ref eu, .int (ji (Dd)), .int (ji (w))])), (o, .inr (1, [.long (jl (o1)), .long (jl (o2)), .long (jl (o3))])), (wk, .inr (1, [.long (jl (w1)), .long (jl (w2)), .long (jl (w3))])), (st, .inr (1, [.long (jl (t1)), .long (jl (t2)), .long (jl (t3))])), (bs, .inr (1, [.long (jl (b1)), .long (jl (b2)), .long (jl (b3))])), (eu, .inr (0, [.long (jl (e1)), .long (jl (e2)), .long (jl (e3))])), (f, .inr (1, [.long (jl (a)), .long (jl (b)), .long (jl (c))])), (h, .inr (1, [.long (jl (q1)), .long (jl (q2)), .long (jl (q3))]))] := hD
      refine wi_zne hx hb ⟨by omega, by omega⟩ d_G_exponentOf_37 (tgt := 80) (by decide) (fun h_8 => ?_) (fun h_8 => ?_)
      · have hp1 : fm_pw Dd s0 n0 (a, b, c) ((nn : Int)).toNat (q1, q2, q3) := (pw_goal hg.1 hs i5 hgn i6).mp (by rcases ht1 with z | z; exact fm_ext z.2.1 z.2.2.1 z.2.2.2; omega)
        refine lv_iload_n hx hb d_G_exponentOf_80 rfl (lv_at hl 3 rfl) ?_
        exact rt_i X hAe hS ((w1, w2, w3), (t1, t2, t3), (b1, b2, b3), e1, e2, e3) ⟨nn, rfl, Or.inl ⟨by omega, hp1, fun j z => by rcases Nat.eq_zero_or_pos j with y | y; (rw [y]; exact hp0); exact i3 j y (by omega)⟩, by omega, by omega⟩ hP d_G_exponentOf_81
      · have hp1 : ¬ fm_pw Dd s0 n0 (a, b, c) nn (q1, q2, q3) := by
          intro z
          have e := (pw_goal hg.1 hs i5 hgn i6).mpr z
          rcases ht1 with y | y
          · omega
          · exact y.2 ⟨congrArg (fun q => q.1) e, congrArg (fun q => q.2.1) e, congrArg (fun q => q.2.2) e⟩
        refine lv_aload_n hx hb d_G_exponentOf_40 rfl (lv_at hl 0 rfl) ?_
        refine va_get (D := D) (ci := 2) (v := .ref bs) (C := R_G) (T := T_G) (N := 7) hx hb hts uw_G hown hK.1 hP 0 rfl rfl 3 (by decide) (hts _ fl_G_24) (fun _ h9 => h9) rfl d_G_exponentOf_41 ?_
        refine lv_aload_n hx hb d_G_exponentOf_44 rfl (lv_at hl 0 rfl) ?_
        refine va_get (D := D) (ci := 2) (v := .ref o) (C := R_G) (T := T_G) (N := 7) hx hb hts uw_G hown hK.1 hP 0 rfl rfl 0 (by decide) (hts _ fl_G_12) (fun _ h9 => h9) rfl d_G_exponentOf_45 ?_
        refine cl_i (rn_VN (wc := [(bs, .inr (1, [.long (jl (b1)), .long (jl (b2)), .long (jl (b3))])), (o, .inr (1, [.long (jl (o1)), .long (jl (o2)), .long (jl (o3))]))]) (As := [.ref o]) (rest := []) X hK (c_F_matches l D cI cJ cF bb.1.j bb.2.1.j bb.2.2.j ob.1.j ob.2.1.j ob.2.2.j _) co_F_matches in_F nm_G_120 im_F_matches se_F_matches 1 rfl (by decide +kernel) ⟨Nat.le_of_ble_eq_true rfl, Nat.le_of_ble_eq_true rfl⟩ hP hD [4, 1] rfl (by decide) (q0 := 0) (ci := 1) rfl rfl rfl hl.1 rfl (Nat.le_of_ble_eq_true rfl) d_G_exponentOf_48 ⟨Nat.zero_le _, Nat.zero_le _⟩) hP hD hS hA [4, 1] rfl (by decide) (fun _ => rfl) (fun r_9 u_10 H locs hp hP hD hS => ?_)
        obtain ⟨tt2, rfl, ht2⟩ := hp
        have hP : va_P D classes [(g, .inr (2, [.ref o, .ref wk, .ref st, .ref bs, .ref eu, .int (ji (Dd)), .int (ji (w))])), (o, .inr (1, [.long (jl (o1)), .long (jl (o2)), .long (jl (o3))])), (wk, .inr (1, [.long (jl (w1)), .long (jl (w2)), .long (jl (w3))])), (st, .inr (1, [.long (jl (t1)), .long (jl (t2)), .long (jl (t3))])), (bs, .inr (1, [.long (jl (b1)), .long (jl (b2)), .long (jl (b3))])), (eu, .inr (0, [.long (jl (e1)), .long (jl (e2)), .long (jl (e3))])), (f, .inr (1, [.long (jl (a)), .long (jl (b)), .long (jl (c))])), (h, .inr (1, [.long (jl (q1)), .long (jl (q2)), .long (jl (q3))]))] H := hP
        have hD : va_D A [(g, .inr (2, [.ref o, .ref wk, .ref st, .ref bs, .ref eu, .int (ji (Dd)), .int (ji (w))])), (o, .inr (1, [.long (jl (o1)), .long (jl (o2)), .long (jl (o3))])), (wk, .inr (1, [.long (jl (w1)), .long (jl (w2)), .long (jl (w3))])), (st, .inr (1, [.long (jl (t1)), .long (jl (t2)), .long (jl (t3))])), (bs, .inr (1, [.long (jl (b1)), .long (jl (b2)), .long (jl (b3))])), (eu, .inr (0, [.long (jl (e1)), .long (jl (e2)), .long (jl (e3))])), (f, .inr (1, [.long (jl (a)), .long (jl (b)), .long (jl (c))])), (h, .inr (1, [.long (jl (q1)), .long (jl (q2)), .long (jl (q3))]))] := hD
        refine wi_zeq hx hb ⟨by omega, by omega⟩ d_G_exponentOf_51 (tgt := 56) (by decide) (fun h_11 => ?_) (fun h_11 => ?_)
        · have hp2 : ¬ fm_pw Dd s0 n0 (a, b, c) nn (fm_one s0 n0) := by
            intro z
            have e := (pw_one hg.1 hs i5 hone i6).mpr z
            rcases ht2 with y | y
            · omega
            · exact y.2 ⟨congrArg (fun q => q.1) e, congrArg (fun q => q.2.1) e, congrArg (fun q => q.2.2) e⟩
          have hnm1 : nn ≠ mm := fun z => hp2 (by rw [z]; exact hmm)
          refine lv_aload_n hx hb d_G_exponentOf_56 rfl (lv_at hl 0 rfl) ?_
          refine lv_aload_n hx hb d_G_exponentOf_57 rfl (lv_at hl 0 rfl) ?_
          refine va_get (D := D) (ci := 2) (v := .ref bs) (C := R_G) (T := T_G) (N := 7) hx hb hts uw_G hown hK.1 hP 0 rfl rfl 3 (by decide) (hts _ fl_G_24) (fun _ h9 => h9) rfl d_G_exponentOf_58 ?_
          refine lv_aload_n hx hb d_G_exponentOf_61 rfl (lv_at hl 1 rfl) ?_
          refine cl_v (rn_V (wc := [(g, .inr (2, [.ref o, .ref wk, .ref st, .ref bs, .ref eu, .int (ji (Dd)), .int (ji (w))])), (eu, .inr (0, [.long (jl (e1)), .long (jl (e2)), .long (jl (e3))])), (bs, .inr (1, [.long (jl (b1)), .long (jl (b2)), .long (jl (b3))])), (f, .inr (1, [.long (jl (a)), .long (jl (b)), .long (jl (c))]))]) (As := [.ref bs, .ref f]) (rest := []) X hK (c_G_multiply l D cI cJ cF hg hs i4 i5.2.1 hf hfn.2.1 _) co_G_multiply in_G ml_G_135 im_G_multiply se_G_multiply 2 rfl (by decide +kernel) ⟨Nat.le_of_ble_eq_true rfl, Nat.le_of_ble_eq_true rfl⟩ hP hD [0, 5, 4, 6] rfl (by decide) (q0 := 0) (ci := 2) rfl rfl rfl hl.1 rfl (Nat.le_of_ble_eq_true rfl) d_G_exponentOf_62 ⟨Nat.zero_le _, Nat.zero_le _⟩) hP hD hS hA [0, 5, 4, 6] rfl (by decide) (fun _ => rfl) (fun u_12 H locs hp hP hD hS => ?_)
          obtain ⟨hv1, hr1, hcp1⟩ : fm_v Dd (u_12).1 ∧ fm_red Dd w (u_12).1 ∧ fm_cp s0 n0 (b1, b2, b3) (a, b, c) (u_12).1 := hp
          have hP : va_P D classes [(g, .inr (2, [.ref o, .ref wk, .ref st, .ref bs, .ref eu, .int (ji (Dd)), .int (ji (w))])), (o, .inr (1, [.long (jl (o1)), .long (jl (o2)), .long (jl (o3))])), (wk, .inr (1, [.long (jl (w1)), .long (jl (w2)), .long (jl (w3))])), (st, .inr (1, [.long (jl (t1)), .long (jl (t2)), .long (jl (t3))])), (bs, .inr (1, [.long (jl ((u_12).1.1)), .long (jl ((u_12).1.2.1)), .long (jl ((u_12).1.2.2))])), (eu, .inr (0, [.long (jl ((u_12).2.1)), .long (jl ((u_12).2.2.1)), .long (jl ((u_12).2.2.2))])), (f, .inr (1, [.long (jl (a)), .long (jl (b)), .long (jl (c))])), (h, .inr (1, [.long (jl (q1)), .long (jl (q2)), .long (jl (q3))]))] H := hP
          have hD : va_D A [(g, .inr (2, [.ref o, .ref wk, .ref st, .ref bs, .ref eu, .int (ji (Dd)), .int (ji (w))])), (o, .inr (1, [.long (jl (o1)), .long (jl (o2)), .long (jl (o3))])), (wk, .inr (1, [.long (jl (w1)), .long (jl (w2)), .long (jl (w3))])), (st, .inr (1, [.long (jl (t1)), .long (jl (t2)), .long (jl (t3))])), (bs, .inr (1, [.long (jl ((u_12).1.1)), .long (jl ((u_12).1.2.1)), .long (jl ((u_12).1.2.2))])), (eu, .inr (0, [.long (jl ((u_12).2.1)), .long (jl ((u_12).2.2.1)), .long (jl ((u_12).2.2.2))])), (f, .inr (1, [.long (jl (a)), .long (jl (b)), .long (jl (c))])), (h, .inr (1, [.long (jl (q1)), .long (jl (q2)), .long (jl (q3))]))] := hD
          refine lv_aload_n hx hb d_G_exponentOf_65 rfl (lv_at hl 0 rfl) ?_
          refine lv_aload_n hx hb d_G_exponentOf_66 rfl (lv_at hl 0 rfl) ?_
          refine va_get (D := D) (ci := 2) (v := .ref bs) (C := R_G) (T := T_G) (N := 7) hx hb hts uw_G hown hK.1 hP 0 rfl rfl 3 (by decide) (hts _ fl_G_24) (fun _ h9 => h9) rfl d_G_exponentOf_67 ?_
          refine cl_i (rn_V (wc := [(g, .inr (2, [.ref o, .ref wk, .ref st, .ref bs, .ref eu, .int (ji (Dd)), .int (ji (w))])), (wk, .inr (1, [.long (jl (w1)), .long (jl (w2)), .long (jl (w3))])), (st, .inr (1, [.long (jl (t1)), .long (jl (t2)), .long (jl (t3))])), (bs, .inr (1, [.long (jl ((u_12).1.1)), .long (jl ((u_12).1.2.1)), .long (jl ((u_12).1.2.2))]))]) (As := [.ref bs]) (rest := []) X hK (c_G_turnIntoName l D cI cJ cF hg hv1.1 hr1 _) co_G_turnIntoName in_G ml_G_53 im_G_turnIntoName se_G_turnIntoName 1 rfl (by decide +kernel) ⟨Nat.le_of_ble_eq_true rfl, Nat.le_of_ble_eq_true rfl⟩ hP hD [0, 2, 3, 4] rfl (by decide) (q0 := 0) (ci := 2) rfl rfl rfl hl.1 rfl (Nat.le_of_ble_eq_true rfl) d_G_exponentOf_70 ⟨Nat.zero_le _, Nat.zero_le _⟩) hP hD hS hA [0, 2, 3, 4] rfl (by decide) (fun _ => rfl) (fun r_13 u_14 H locs hp hP hD hS => ?_)
          obtain ⟨cn, rfl, hnm2, -, -, -⟩ := hp
          have hcp2 := hcp1.r (fm_eq_mg hg.1 hs hv1.1 hnm2.1 hnm2.2.2.1.sy)
          have hv2 := v_mg hg.1 hv1 hnm2.1 hnm2.2.1 hnm2.2.2.1
          have hP : va_P D classes [(g, .inr (2, [.ref o, .ref wk, .ref st, .ref bs, .ref eu, .int (ji (Dd)), .int (ji (w))])), (o, .inr (1, [.long (jl (o1)), .long (jl (o2)), .long (jl (o3))])), (wk, .inr (1, [.long (jl ((u_14).2.1.1)), .long (jl ((u_14).2.1.2.1)), .long (jl ((u_14).2.1.2.2))])), (st, .inr (1, [.long (jl ((u_14).2.2.1)), .long (jl ((u_14).2.2.2.1)), .long (jl ((u_14).2.2.2.2))])), (bs, .inr (1, [.long (jl ((u_14).1.1)), .long (jl ((u_14).1.2.1)), .long (jl ((u_14).1.2.2))])), (eu, .inr (0, [.long (jl ((u_12).2.1)), .long (jl ((u_12).2.2.1)), .long (jl ((u_12).2.2.2))])), (f, .inr (1, [.long (jl (a)), .long (jl (b)), .long (jl (c))])), (h, .inr (1, [.long (jl (q1)), .long (jl (q2)), .long (jl (q3))]))] H := hP
          have hD : va_D A [(g, .inr (2, [.ref o, .ref wk, .ref st, .ref bs, .ref eu, .int (ji (Dd)), .int (ji (w))])), (o, .inr (1, [.long (jl (o1)), .long (jl (o2)), .long (jl (o3))])), (wk, .inr (1, [.long (jl ((u_14).2.1.1)), .long (jl ((u_14).2.1.2.1)), .long (jl ((u_14).2.1.2.2))])), (st, .inr (1, [.long (jl ((u_14).2.2.1)), .long (jl ((u_14).2.2.2.1)), .long (jl ((u_14).2.2.2.2))])), (bs, .inr (1, [.long (jl ((u_14).1.1)), .long (jl ((u_14).1.2.1)), .long (jl ((u_14).1.2.2))])), (eu, .inr (0, [.long (jl ((u_12).2.1)), .long (jl ((u_12).2.2.1)), .long (jl ((u_12).2.2.2))])), (f, .inr (1, [.long (jl (a)), .long (jl (b)), .long (jl (c))])), (h, .inr (1, [.long (jl (q1)), .long (jl (q2)), .long (jl (q3))]))] := hD
          refine lv_pop hx hb d_G_exponentOf_73 rfl ?_
          refine lv_iinc (v := ji ((nn) + (1))) (lv' := [(3, .int (ji ((nn) + (1)))), (0, .ref g), (1, .ref f), (2, .ref h)]) hx hb d_G_exponentOf_74 hl (k := 3) rfl (ji_add _ _) (by decide) rfl (fun ls hl => ?_)
          refine lv_goto (tgt := 23) hx hb d_G_exponentOf_77 (by decide) ?_
          exact ih _ _ _ _ (by omega) ⟨nn + 1, ((u_14).1).1, ((u_14).1).2.1, ((u_14).1).2.2, (u_14).2.1.1, (u_14).2.1.2.1, (u_14).2.1.2.2, (u_14).2.2.1, (u_14).2.2.2.1, (u_14).2.2.2.2, (u_12).2.1, (u_12).2.2.1, (u_12).2.2.2, rfl, ⟨by omega, by omega, fun j z1 z2 => by rcases Nat.lt_or_ge j nn with z | z; exact i3 j z1 z; (have : j = nn := by omega); rw [this]; exact hp1, hv2, hnm2.self, ⟨_, i4, i6, hcp2⟩⟩, hP, hD, hS, lv_sub hl [1, 2, 3, 0] rfl⟩
        · have hp2 : fm_pw Dd s0 n0 (a, b, c) nn (fm_one s0 n0) := (pw_one hg.1 hs i5 hone i6).mp (by rcases ht2 with z | z; exact fm_ext z.2.1 z.2.2.1 z.2.2.2; omega)
          refine w_iconst hx hb d_G_exponentOf_54 ?_
          exact rt_i X hAe hS ((w1, w2, w3), (t1, t2, t3), (b1, b2, b3), e1, e2, e3) ⟨-1, rfl, Or.inr ⟨rfl, pw_none hg.1 hs hf (m := nn) (by omega) hp2 (fun j z => by rcases Nat.eq_zero_or_pos j with y | y; (rw [y]; exact hp0); exact i3 j y z)⟩, by decide, by decide⟩ hP d_G_exponentOf_55
  · have hp0 : fm_pw Dd s0 n0 (a, b, c) (0 : Int).toNat (q1, q2, q3) := (pw_goal hg.1 hs hone.self hgn (show fm_pw Dd s0 n0 (a, b, c) 0 (o1, o2, o3) from (fm_eq_mg hg.1 hs hone.1 (fm_one_disc hs) hone.2.2.1).sy)).mp (by rcases ht0 with y | y; exact (fm_ext y.2.1 y.2.2.1 y.2.2.2).symm; omega)
    refine w_iconst hx hb d_G_exponentOf_11 ?_
    exact rt_i X hAe hS ((x1, x2, x3), (y1, y2, y3), (v1, v2, v3), j1, j2, j3) ⟨0, rfl, Or.inl ⟨by decide, hp0, fun j z => absurd z (by omega)⟩, by decide, by decide⟩ hP d_G_exponentOf_12

set_option maxHeartbeats 4000000 in
set_option maxRecDepth 100000 in
theorem c_G_exponentOf1 (l : Launch) (D : va_G) (cI cJ cF : ClassId) {g o wk st bs eu : Nat} {Dd w : Int} {f : Nat} {a b c o1 o2 o3 x1 x2 x3 y1 y2 y3 v1 v2 v3 j1 j2 j3 s0 n0 : Int} (hg : gD Dd w) (hs : fm_sn Dd s0 n0) (hone : fm_nm Dd w (o1, o2, o3) (fm_one s0 n0)) (hf : fm_v Dd (a, b, c)) (hfn : fm_nm Dd w (a, b, c) (a, b, c)) : ∀ sz, Met l y_G_exponentOf (Cond.code y_G_exponentOf b_G_exponentOf 4 (some .int) :: wb) { frames := 5, cells := 0, slots := 0, locals := 134 } (va_Pc [.ref g, .ref f, .ref f] (cpre D cI cJ cF [(g, .inr (2, [.ref o, .ref wk, .ref st, .ref bs, .ref eu, .int (ji (Dd)), .int (ji (w))])), (o, .inr (1, [.long (jl (o1)), .long (jl (o2)), .long (jl (o3))])), (wk, .inr (1, [.long (jl (x1)), .long (jl (x2)), .long (jl (x3))])), (st, .inr (1, [.long (jl (y1)), .long (jl (y2)), .long (jl (y3))])), (bs, .inr (1, [.long (jl (v1)), .long (jl (v2)), .long (jl (v3))])), (eu, .inr (0, [.long (jl (j1)), .long (jl (j2)), .long (jl (j3))])), (f, .inr (1, [.long (jl (a)), .long (jl (b)), .long (jl (c))]))] sz)) (va_Qi (fun r (u : fm_F × fm_F × fm_F × Int × Int × Int) => ∃ N : Int, r = ji N ∧ fm_ex Dd s0 n0 (a, b, c) (a, b, c) N ∧ -1 ≤ N ∧ N ≤ 720000) (fun (u : fm_F × fm_F × fm_F × Int × Int × Int) t => va_P D classes [(g, .inr (2, [.ref o, .ref wk, .ref st, .ref bs, .ref eu, .int (ji (Dd)), .int (ji (w))])), (o, .inr (1, [.long (jl (o1)), .long (jl (o2)), .long (jl (o3))])), (wk, .inr (1, [.long (jl ((u.1).1)), .long (jl ((u.1).2.1)), .long (jl ((u.1).2.2))])), (st, .inr (1, [.long (jl ((u.2.1).1)), .long (jl ((u.2.1).2.1)), .long (jl ((u.2.1).2.2))])), (bs, .inr (1, [.long (jl ((u.2.2.1).1)), .long (jl ((u.2.2.1).2.1)), .long (jl ((u.2.2.1).2.2))])), (eu, .inr (0, [.long (jl (u.2.2.2.1)), .long (jl (u.2.2.2.2.1)), .long (jl (u.2.2.2.2.2))])), (f, .inr (1, [.long (jl (a)), .long (jl (b)), .long (jl (c))]))] t.heap) (va_A [(g, .inr (2, [.ref o, .ref wk, .ref st, .ref bs, .ref eu, .int (ji (Dd)), .int (ji (w))])), (o, .inr (1, [.long (jl (o1)), .long (jl (o2)), .long (jl (o3))])), (wk, .inr (1, [.long (jl (x1)), .long (jl (x2)), .long (jl (x3))])), (st, .inr (1, [.long (jl (y1)), .long (jl (y2)), .long (jl (y3))])), (bs, .inr (1, [.long (jl (v1)), .long (jl (v2)), .long (jl (v3))])), (eu, .inr (0, [.long (jl (j1)), .long (jl (j2)), .long (jl (j3))])), (f, .inr (1, [.long (jl (a)), .long (jl (b)), .long (jl (c))]))] sz)) 0 0 (va_A [(g, .inr (2, [.ref o, .ref wk, .ref st, .ref bs, .ref eu, .int (ji (Dd)), .int (ji (w))])), (o, .inr (1, [.long (jl (o1)), .long (jl (o2)), .long (jl (o3))])), (wk, .inr (1, [.long (jl (x1)), .long (jl (x2)), .long (jl (x3))])), (st, .inr (1, [.long (jl (y1)), .long (jl (y2)), .long (jl (y3))])), (bs, .inr (1, [.long (jl (v1)), .long (jl (v2)), .long (jl (v3))])), (eu, .inr (0, [.long (jl (j1)), .long (jl (j2)), .long (jl (j3))])), (f, .inr (1, [.long (jl (a)), .long (jl (b)), .long (jl (c))]))] sz) := by
  refine c_of (Qc := fun sz => va_Qi (fun r (u : fm_F × fm_F × fm_F × Int × Int × Int) => ∃ N : Int, r = ji N ∧ fm_ex Dd s0 n0 (a, b, c) (a, b, c) N ∧ -1 ≤ N ∧ N ≤ 720000) (fun (u : fm_F × fm_F × fm_F × Int × Int × Int) t => va_P D classes [(g, .inr (2, [.ref o, .ref wk, .ref st, .ref bs, .ref eu, .int (ji (Dd)), .int (ji (w))])), (o, .inr (1, [.long (jl (o1)), .long (jl (o2)), .long (jl (o3))])), (wk, .inr (1, [.long (jl ((u.1).1)), .long (jl ((u.1).2.1)), .long (jl ((u.1).2.2))])), (st, .inr (1, [.long (jl ((u.2.1).1)), .long (jl ((u.2.1).2.1)), .long (jl ((u.2.1).2.2))])), (bs, .inr (1, [.long (jl ((u.2.2.1).1)), .long (jl ((u.2.2.1).2.1)), .long (jl ((u.2.2.1).2.2))])), (eu, .inr (0, [.long (jl (u.2.2.2.1)), .long (jl (u.2.2.2.2.1)), .long (jl (u.2.2.2.2.2))])), (f, .inr (1, [.long (jl (a)), .long (jl (b)), .long (jl (c))]))] t.heap) (va_A [(g, .inr (2, [.ref o, .ref wk, .ref st, .ref bs, .ref eu, .int (ji (Dd)), .int (ji (w))])), (o, .inr (1, [.long (jl (o1)), .long (jl (o2)), .long (jl (o3))])), (wk, .inr (1, [.long (jl (x1)), .long (jl (x2)), .long (jl (x3))])), (st, .inr (1, [.long (jl (y1)), .long (jl (y2)), .long (jl (y3))])), (bs, .inr (1, [.long (jl (v1)), .long (jl (v2)), .long (jl (v3))])), (eu, .inr (0, [.long (jl (j1)), .long (jl (j2)), .long (jl (j3))])), (f, .inr (1, [.long (jl (a)), .long (jl (b)), .long (jl (c))]))] sz)) (by decide +kernel) co_G_exponentOf (Nat.le_of_ble_eq_true rfl) ?_
  intro pq eq s mq below meth cq A X hK hP hD hS hA hAe ls hl
  obtain ⟨hx, hb, hml, hown, hr, hlocks, hts⟩ := id X
  have hl : lv_has ls 4 [(0, .ref g), (1, .ref f), (2, .ref f)] := hl
  obtain ⟨mm, m0, m1, hmm⟩ := fm_ord_ex hg.1 hg.2.2.2 hg.2.1 hs hf
  have fb := red_b30 hg hf.1 hfn.2.1
  have ob := red_b30 hg hone.1 hone.2.1
  refine lv_aload_n hx hb d_G_exponentOf_0 rfl (lv_at hl 2 rfl) ?_
  refine lv_aload_n hx hb d_G_exponentOf_1 rfl (lv_at hl 0 rfl) ?_
  refine va_get (D := D) (ci := 2) (v := .ref o) (C := R_G) (T := T_G) (N := 7) hx hb hts uw_G hown hK.1 hP 0 rfl rfl 0 (by decide) (hts _ fl_G_12) (fun _ h9 => h9) rfl d_G_exponentOf_2 ?_
  refine cl_i (rn_VN (wc := [(f, .inr (1, [.long (jl (a)), .long (jl (b)), .long (jl (c))])), (o, .inr (1, [.long (jl (o1)), .long (jl (o2)), .long (jl (o3))]))]) (As := [.ref o]) (rest := []) X hK (c_F_matches l D cI cJ cF fb.1.j fb.2.1.j fb.2.2.j ob.1.j ob.2.1.j ob.2.2.j _) co_F_matches in_F nm_G_120 im_F_matches se_F_matches 1 rfl (by decide +kernel) ⟨Nat.le_of_ble_eq_true rfl, Nat.le_of_ble_eq_true rfl⟩ hP hD [6, 1] rfl (by decide) (q0 := 0) (ci := 1) rfl rfl rfl hl.1 rfl (Nat.le_of_ble_eq_true rfl) d_G_exponentOf_5 ⟨Nat.zero_le _, Nat.zero_le _⟩) hP hD hS hA [6, 1] rfl (by decide) (fun _ => rfl) (fun r_1 u_2 H locs hp hP hD hS => ?_)
  obtain ⟨tt0, rfl, ht0⟩ := hp
  have hP : va_P D classes [(g, .inr (2, [.ref o, .ref wk, .ref st, .ref bs, .ref eu, .int (ji (Dd)), .int (ji (w))])), (o, .inr (1, [.long (jl (o1)), .long (jl (o2)), .long (jl (o3))])), (wk, .inr (1, [.long (jl (x1)), .long (jl (x2)), .long (jl (x3))])), (st, .inr (1, [.long (jl (y1)), .long (jl (y2)), .long (jl (y3))])), (bs, .inr (1, [.long (jl (v1)), .long (jl (v2)), .long (jl (v3))])), (eu, .inr (0, [.long (jl (j1)), .long (jl (j2)), .long (jl (j3))])), (f, .inr (1, [.long (jl (a)), .long (jl (b)), .long (jl (c))]))] H := hP
  have hD : va_D A [(g, .inr (2, [.ref o, .ref wk, .ref st, .ref bs, .ref eu, .int (ji (Dd)), .int (ji (w))])), (o, .inr (1, [.long (jl (o1)), .long (jl (o2)), .long (jl (o3))])), (wk, .inr (1, [.long (jl (x1)), .long (jl (x2)), .long (jl (x3))])), (st, .inr (1, [.long (jl (y1)), .long (jl (y2)), .long (jl (y3))])), (bs, .inr (1, [.long (jl (v1)), .long (jl (v2)), .long (jl (v3))])), (eu, .inr (0, [.long (jl (j1)), .long (jl (j2)), .long (jl (j3))])), (f, .inr (1, [.long (jl (a)), .long (jl (b)), .long (jl (c))]))] := hD
  refine wi_zeq hx hb ⟨by omega, by omega⟩ d_G_exponentOf_8 (tgt := 13) (by decide) (fun h_3 => ?_) (fun h_3 => ?_)
  · have hp0 : ¬ fm_pw Dd s0 n0 (a, b, c) 0 (a, b, c) := by
      intro z
      have e := (pw_goal hg.1 hs hone.self hfn (show fm_pw Dd s0 n0 (a, b, c) 0 (o1, o2, o3) from (fm_eq_mg hg.1 hs hone.1 (fm_one_disc hs) hone.2.2.1).sy)).mpr z
      rcases ht0 with y | y
      · omega
      · exact y.2 ⟨(congrArg (fun q => q.1) e).symm, (congrArg (fun q => q.2.1) e).symm, (congrArg (fun q => q.2.2) e).symm⟩
    refine lv_aload_n hx hb d_G_exponentOf_13 rfl (lv_at hl 0 rfl) ?_
    refine va_get (D := D) (ci := 2) (v := .ref bs) (C := R_G) (T := T_G) (N := 7) hx hb hts uw_G hown hK.1 hP 0 rfl rfl 3 (by decide) (hts _ fl_G_24) (fun _ h9 => h9) rfl d_G_exponentOf_14 ?_
    refine lv_aload_n hx hb d_G_exponentOf_17 rfl (lv_at hl 1 rfl) ?_
    refine cl_v (rn_VN (wc := [(bs, .inr (1, [.long (jl (v1)), .long (jl (v2)), .long (jl (v3))])), (f, .inr (1, [.long (jl (a)), .long (jl (b)), .long (jl (c))]))]) (As := [.ref f]) (rest := []) X hK (c_F_copy l D cI cJ cF  _) co_F_copy in_F nm_G_117 im_F_copy se_F_copy 1 rfl (by decide +kernel) ⟨Nat.le_of_ble_eq_true rfl, Nat.le_of_ble_eq_true rfl⟩ hP hD [4, 6] rfl (by decide) (q0 := 0) (ci := 1) rfl rfl rfl hl.1 rfl (Nat.le_of_ble_eq_true rfl) d_G_exponentOf_18 ⟨Nat.zero_le _, Nat.zero_le _⟩) hP hD hS hA [4, 6] rfl (by decide) (fun _ => rfl) (fun u_4 H locs hp hP hD hS => ?_)
    have hP : va_P D classes [(g, .inr (2, [.ref o, .ref wk, .ref st, .ref bs, .ref eu, .int (ji (Dd)), .int (ji (w))])), (o, .inr (1, [.long (jl (o1)), .long (jl (o2)), .long (jl (o3))])), (wk, .inr (1, [.long (jl (x1)), .long (jl (x2)), .long (jl (x3))])), (st, .inr (1, [.long (jl (y1)), .long (jl (y2)), .long (jl (y3))])), (bs, .inr (1, [.long (jl (a)), .long (jl (b)), .long (jl (c))])), (eu, .inr (0, [.long (jl (j1)), .long (jl (j2)), .long (jl (j3))])), (f, .inr (1, [.long (jl (a)), .long (jl (b)), .long (jl (c))]))] H := hP
    have hD : va_D A [(g, .inr (2, [.ref o, .ref wk, .ref st, .ref bs, .ref eu, .int (ji (Dd)), .int (ji (w))])), (o, .inr (1, [.long (jl (o1)), .long (jl (o2)), .long (jl (o3))])), (wk, .inr (1, [.long (jl (x1)), .long (jl (x2)), .long (jl (x3))])), (st, .inr (1, [.long (jl (y1)), .long (jl (y2)), .long (jl (y3))])), (bs, .inr (1, [.long (jl (a)), .long (jl (b)), .long (jl (c))])), (eu, .inr (0, [.long (jl (j1)), .long (jl (j2)), .long (jl (j3))])), (f, .inr (1, [.long (jl (a)), .long (jl (b)), .long (jl (c))]))] := hD
    refine w_iconst hx hb d_G_exponentOf_21 ?_
    refine lv_istore_n (lv' := [(3, .int (ji (1))), (0, .ref g), (1, .ref f), (2, .ref f)]) hx hb d_G_exponentOf_22 rfl hl (by decide) rfl (fun ls hl => ?_)
    refine lpn (I := fun n H locs ls => ∃ (nn : Nat) (b1 : Int) (b2 : Int) (b3 : Int) (w1 : Int) (w2 : Int) (w3 : Int) (t1 : Int) (t2 : Int) (t3 : Int) (e1 : Int) (e2 : Int) (e3 : Int), mm - nn = n ∧ (1 ≤ nn ∧ nn ≤ mm ∧ (∀ j : Nat, 0 < j → j < nn → ¬ fm_pw Dd s0 n0 (a, b, c) j (a, b, c)) ∧ fm_v Dd (b1, b2, b3) ∧ fm_nm Dd w (b1, b2, b3) (b1, b2, b3) ∧ fm_pw Dd s0 n0 (a, b, c) nn (b1, b2, b3)) ∧ va_P D classes [(g, .inr (2, [.ref o, .ref wk, .ref st, .ref bs, .ref eu, .int (ji (Dd)), .int (ji (w))])), (o, .inr (1, [.long (jl (o1)), .long (jl (o2)), .long (jl (o3))])), (wk, .inr (1, [.long (jl (w1)), .long (jl (w2)), .long (jl (w3))])), (st, .inr (1, [.long (jl (t1)), .long (jl (t2)), .long (jl (t3))])), (bs, .inr (1, [.long (jl (b1)), .long (jl (b2)), .long (jl (b3))])), (eu, .inr (0, [.long (jl (e1)), .long (jl (e2)), .long (jl (e3))])), (f, .inr (1, [.long (jl (a)), .long (jl (b)), .long (jl (c))]))] H ∧ va_D A [(g, .inr (2, [.ref o, .ref wk, .ref st, .ref bs, .ref eu, .int (ji (Dd)), .int (ji (w))])), (o, .inr (1, [.long (jl (o1)), .long (jl (o2)), .long (jl (o3))])), (wk, .inr (1, [.long (jl (w1)), .long (jl (w2)), .long (jl (w3))])), (st, .inr (1, [.long (jl (t1)), .long (jl (t2)), .long (jl (t3))])), (bs, .inr (1, [.long (jl (b1)), .long (jl (b2)), .long (jl (b3))])), (eu, .inr (0, [.long (jl (e1)), .long (jl (e2)), .long (jl (e3))])), (f, .inr (1, [.long (jl (a)), .long (jl (b)), .long (jl (c))]))] ∧ va_S A s.heap H locs ∧ lv_has ls 4 [(0, .ref g), (1, .ref f), (2, .ref f), (3, .int (ji (nn)))]) ?_ _ _ _ _ ⟨1, a, b, c, x1, x2, x3, y1, y2, y3, j1, j2, j3, rfl, ⟨by omega, by omega, fun j z1 z2 => by omega, hf, hfn, fm_pw.one hs hf⟩, hP, hD, hS, lv_sub hl [1, 2, 3, 0] rfl⟩
    rintro n H locs ls ⟨nn, b1, b2, b3, w1, w2, w3, t1, t2, t3, e1, e2, e3, rfl, hi, hP, hD, hS, hl⟩ ih
    refine lv_iload_n hx hb d_G_exponentOf_23 rfl (lv_at hl 3 rfl) ?_
    refine w_ldc (v := 1000000) (n := 1000000) hx hb (by decide) hown (hts _ kc_G_86) d_G_exponentOf_24 ?_
    refine wi_cge hx hb ⟨by omega, by omega⟩ ⟨by decide, by decide⟩ d_G_exponentOf_26 (tgt := 80) (by decide) (fun h_5 => ?_) (fun h_5 => ?_)
    · exact absurd hi.2.1 (by omega)
    · obtain ⟨i1, i2, i3, i4, i5, i6⟩ := hi
      have bb := red_b30 hg i5.1 i5.2.1
      refine lv_aload_n hx hb d_G_exponentOf_29 rfl (lv_at hl 0 rfl) ?_
      refine va_get (D := D) (ci := 2) (v := .ref bs) (C := R_G) (T := T_G) (N := 7) hx hb hts uw_G hown hK.1 hP 0 rfl rfl 3 (by decide) (hts _ fl_G_24) (fun _ h9 => h9) rfl d_G_exponentOf_30 ?_
      refine lv_aload_n hx hb d_G_exponentOf_33 rfl (lv_at hl 2 rfl) ?_
      refine cl_i (rn_VN (wc := [(bs, .inr (1, [.long (jl (b1)), .long (jl (b2)), .long (jl (b3))])), (f, .inr (1, [.long (jl (a)), .long (jl (b)), .long (jl (c))]))]) (As := [.ref f]) (rest := []) X hK (c_F_matches l D cI cJ cF bb.1.j bb.2.1.j bb.2.2.j fb.1.j fb.2.1.j fb.2.2.j _) co_F_matches in_F nm_G_120 im_F_matches se_F_matches 1 rfl (by decide +kernel) ⟨Nat.le_of_ble_eq_true rfl, Nat.le_of_ble_eq_true rfl⟩ hP hD [4, 6] rfl (by decide) (q0 := 0) (ci := 1) rfl rfl rfl hl.1 rfl (Nat.le_of_ble_eq_true rfl) d_G_exponentOf_34 ⟨Nat.zero_le _, Nat.zero_le _⟩) hP hD hS hA [4, 6] rfl (by decide) (fun _ => rfl) (fun r_6 u_7 H locs hp hP hD hS => ?_)
      obtain ⟨tt1, rfl, ht1⟩ := hp
      have hP : va_P D classes [(g, .inr (2, [.ref o, .ref wk, .ref st, .ref bs, .ref eu, .int (ji (Dd)), .int (ji (w))])), (o, .inr (1, [.long (jl (o1)), .long (jl (o2)), .long (jl (o3))])), (wk, .inr (1, [.long (jl (w1)), .long (jl (w2)), .long (jl (w3))])), (st, .inr (1, [.long (jl (t1)), .long (jl (t2)), .long (jl (t3))])), (bs, .inr (1, [.long (jl (b1)), .long (jl (b2)), .long (jl (b3))])), (eu, .inr (0, [.long (jl (e1)), .long (jl (e2)), .long (jl (e3))])), (f, .inr (1, [.long (jl (a)), .long (jl (b)), .long (jl (c))]))] H := hP
      have hD : va_D A [(g, .inr (2, [.ref o, .ref wk, .ref st, .ref bs, .ref eu, .int (ji (Dd)), .int (ji (w))])), (o, .inr (1, [.long (jl (o1)), .long (jl (o2)), .long (jl (o3))])), (wk, .inr (1, [.long (jl (w1)), .long (jl (w2)), .long (jl (w3))])), (st, .inr (1, [.long (jl (t1)), .long (jl (t2)), .long (jl (t3))])), (bs, .inr (1, [.long (jl (b1)), .long (jl (b2)), .long (jl (b3))])), (eu, .inr (0, [.long (jl (e1)), .long (jl (e2)), .long (jl (e3))])), (f, .inr (1, [.long (jl (a)), .long (jl (b)), .long (jl (c))]))] := hD
      refine wi_zne hx hb ⟨by omega, by omega⟩ d_G_exponentOf_37 (tgt := 80) (by decide) (fun h_8 => ?_) (fun h_8 => ?_)
      · have hp1 : fm_pw Dd s0 n0 (a, b, c) ((nn : Int)).toNat (a, b, c) := (pw_goal hg.1 hs i5 hfn i6).mp (by rcases ht1 with z | z; exact fm_ext z.2.1 z.2.2.1 z.2.2.2; omega)
        refine lv_iload_n hx hb d_G_exponentOf_80 rfl (lv_at hl 3 rfl) ?_
        exact rt_i X hAe hS ((w1, w2, w3), (t1, t2, t3), (b1, b2, b3), e1, e2, e3) ⟨nn, rfl, Or.inl ⟨by omega, hp1, fun j z => by rcases Nat.eq_zero_or_pos j with y | y; (rw [y]; exact hp0); exact i3 j y (by omega)⟩, by omega, by omega⟩ hP d_G_exponentOf_81
      · have hp1 : ¬ fm_pw Dd s0 n0 (a, b, c) nn (a, b, c) := by
          intro z
          have e := (pw_goal hg.1 hs i5 hfn i6).mpr z
          rcases ht1 with y | y
          · omega
          · exact y.2 ⟨congrArg (fun q => q.1) e, congrArg (fun q => q.2.1) e, congrArg (fun q => q.2.2) e⟩
        refine lv_aload_n hx hb d_G_exponentOf_40 rfl (lv_at hl 0 rfl) ?_
        refine va_get (D := D) (ci := 2) (v := .ref bs) (C := R_G) (T := T_G) (N := 7) hx hb hts uw_G hown hK.1 hP 0 rfl rfl 3 (by decide) (hts _ fl_G_24) (fun _ h9 => h9) rfl d_G_exponentOf_41 ?_
        refine lv_aload_n hx hb d_G_exponentOf_44 rfl (lv_at hl 0 rfl) ?_
        refine va_get (D := D) (ci := 2) (v := .ref o) (C := R_G) (T := T_G) (N := 7) hx hb hts uw_G hown hK.1 hP 0 rfl rfl 0 (by decide) (hts _ fl_G_12) (fun _ h9 => h9) rfl d_G_exponentOf_45 ?_
        refine cl_i (rn_VN (wc := [(bs, .inr (1, [.long (jl (b1)), .long (jl (b2)), .long (jl (b3))])), (o, .inr (1, [.long (jl (o1)), .long (jl (o2)), .long (jl (o3))]))]) (As := [.ref o]) (rest := []) X hK (c_F_matches l D cI cJ cF bb.1.j bb.2.1.j bb.2.2.j ob.1.j ob.2.1.j ob.2.2.j _) co_F_matches in_F nm_G_120 im_F_matches se_F_matches 1 rfl (by decide +kernel) ⟨Nat.le_of_ble_eq_true rfl, Nat.le_of_ble_eq_true rfl⟩ hP hD [4, 1] rfl (by decide) (q0 := 0) (ci := 1) rfl rfl rfl hl.1 rfl (Nat.le_of_ble_eq_true rfl) d_G_exponentOf_48 ⟨Nat.zero_le _, Nat.zero_le _⟩) hP hD hS hA [4, 1] rfl (by decide) (fun _ => rfl) (fun r_9 u_10 H locs hp hP hD hS => ?_)
        obtain ⟨tt2, rfl, ht2⟩ := hp
        have hP : va_P D classes [(g, .inr (2, [.ref o, .ref wk, .ref st, .ref bs, .ref eu, .int (ji (Dd)), .int (ji (w))])), (o, .inr (1, [.long (jl (o1)), .long (jl (o2)), .long (jl (o3))])), (wk, .inr (1, [.long (jl (w1)), .long (jl (w2)), .long (jl (w3))])), (st, .inr (1, [.long (jl (t1)), .long (jl (t2)), .long (jl (t3))])), (bs, .inr (1, [.long (jl (b1)), .long (jl (b2)), .long (jl (b3))])), (eu, .inr (0, [.long (jl (e1)), .long (jl (e2)), .long (jl (e3))])), (f, .inr (1, [.long (jl (a)), .long (jl (b)), .long (jl (c))]))] H := hP
        have hD : va_D A [(g, .inr (2, [.ref o, .ref wk, .ref st, .ref bs, .ref eu, .int (ji (Dd)), .int (ji (w))])), (o, .inr (1, [.long (jl (o1)), .long (jl (o2)), .long (jl (o3))])), (wk, .inr (1, [.long (jl (w1)), .long (jl (w2)), .long (jl (w3))])), (st, .inr (1, [.long (jl (t1)), .long (jl (t2)), .long (jl (t3))])), (bs, .inr (1, [.long (jl (b1)), .long (jl (b2)), .long (jl (b3))])), (eu, .inr (0, [.long (jl (e1)), .long (jl (e2)), .long (jl (e3))])), (f, .inr (1, [.long (jl (a)), .long (jl (b)), .long (jl (c))]))] := hD
        refine wi_zeq hx hb ⟨by omega, by omega⟩ d_G_exponentOf_51 (tgt := 56) (by decide) (fun h_11 => ?_) (fun h_11 => ?_)
        · have hp2 : ¬ fm_pw Dd s0 n0 (a, b, c) nn (fm_one s0 n0) := by
            intro z
            have e := (pw_one hg.1 hs i5 hone i6).mpr z
            rcases ht2 with y | y
            · omega
            · exact y.2 ⟨congrArg (fun q => q.1) e, congrArg (fun q => q.2.1) e, congrArg (fun q => q.2.2) e⟩
          have hnm1 : nn ≠ mm := fun z => hp2 (by rw [z]; exact hmm)
          refine lv_aload_n hx hb d_G_exponentOf_56 rfl (lv_at hl 0 rfl) ?_
          refine lv_aload_n hx hb d_G_exponentOf_57 rfl (lv_at hl 0 rfl) ?_
          refine va_get (D := D) (ci := 2) (v := .ref bs) (C := R_G) (T := T_G) (N := 7) hx hb hts uw_G hown hK.1 hP 0 rfl rfl 3 (by decide) (hts _ fl_G_24) (fun _ h9 => h9) rfl d_G_exponentOf_58 ?_
          refine lv_aload_n hx hb d_G_exponentOf_61 rfl (lv_at hl 1 rfl) ?_
          refine cl_v (rn_V (wc := [(g, .inr (2, [.ref o, .ref wk, .ref st, .ref bs, .ref eu, .int (ji (Dd)), .int (ji (w))])), (eu, .inr (0, [.long (jl (e1)), .long (jl (e2)), .long (jl (e3))])), (bs, .inr (1, [.long (jl (b1)), .long (jl (b2)), .long (jl (b3))])), (f, .inr (1, [.long (jl (a)), .long (jl (b)), .long (jl (c))]))]) (As := [.ref bs, .ref f]) (rest := []) X hK (c_G_multiply l D cI cJ cF hg hs i4 i5.2.1 hf hfn.2.1 _) co_G_multiply in_G ml_G_135 im_G_multiply se_G_multiply 2 rfl (by decide +kernel) ⟨Nat.le_of_ble_eq_true rfl, Nat.le_of_ble_eq_true rfl⟩ hP hD [0, 5, 4, 6] rfl (by decide) (q0 := 0) (ci := 2) rfl rfl rfl hl.1 rfl (Nat.le_of_ble_eq_true rfl) d_G_exponentOf_62 ⟨Nat.zero_le _, Nat.zero_le _⟩) hP hD hS hA [0, 5, 4, 6] rfl (by decide) (fun _ => rfl) (fun u_12 H locs hp hP hD hS => ?_)
          obtain ⟨hv1, hr1, hcp1⟩ : fm_v Dd (u_12).1 ∧ fm_red Dd w (u_12).1 ∧ fm_cp s0 n0 (b1, b2, b3) (a, b, c) (u_12).1 := hp
          have hP : va_P D classes [(g, .inr (2, [.ref o, .ref wk, .ref st, .ref bs, .ref eu, .int (ji (Dd)), .int (ji (w))])), (o, .inr (1, [.long (jl (o1)), .long (jl (o2)), .long (jl (o3))])), (wk, .inr (1, [.long (jl (w1)), .long (jl (w2)), .long (jl (w3))])), (st, .inr (1, [.long (jl (t1)), .long (jl (t2)), .long (jl (t3))])), (bs, .inr (1, [.long (jl ((u_12).1.1)), .long (jl ((u_12).1.2.1)), .long (jl ((u_12).1.2.2))])), (eu, .inr (0, [.long (jl ((u_12).2.1)), .long (jl ((u_12).2.2.1)), .long (jl ((u_12).2.2.2))])), (f, .inr (1, [.long (jl (a)), .long (jl (b)), .long (jl (c))]))] H := hP
          have hD : va_D A [(g, .inr (2, [.ref o, .ref wk, .ref st, .ref bs, .ref eu, .int (ji (Dd)), .int (ji (w))])), (o, .inr (1, [.long (jl (o1)), .long (jl (o2)), .long (jl (o3))])), (wk, .inr (1, [.long (jl (w1)), .long (jl (w2)), .long (jl (w3))])), (st, .inr (1, [.long (jl (t1)), .long (jl (t2)), .long (jl (t3))])), (bs, .inr (1, [.long (jl ((u_12).1.1)), .long (jl ((u_12).1.2.1)), .long (jl ((u_12).1.2.2))])), (eu, .inr (0, [.long (jl ((u_12).2.1)), .long (jl ((u_12).2.2.1)), .long (jl ((u_12).2.2.2))])), (f, .inr (1, [.long (jl (a)), .long (jl (b)), .long (jl (c))]))] := hD
          refine lv_aload_n hx hb d_G_exponentOf_65 rfl (lv_at hl 0 rfl) ?_
          refine lv_aload_n hx hb d_G_exponentOf_66 rfl (lv_at hl 0 rfl) ?_
          refine va_get (D := D) (ci := 2) (v := .ref bs) (C := R_G) (T := T_G) (N := 7) hx hb hts uw_G hown hK.1 hP 0 rfl rfl 3 (by decide) (hts _ fl_G_24) (fun _ h9 => h9) rfl d_G_exponentOf_67 ?_
          refine cl_i (rn_V (wc := [(g, .inr (2, [.ref o, .ref wk, .ref st, .ref bs, .ref eu, .int (ji (Dd)), .int (ji (w))])), (wk, .inr (1, [.long (jl (w1)), .long (jl (w2)), .long (jl (w3))])), (st, .inr (1, [.long (jl (t1)), .long (jl (t2)), .long (jl (t3))])), (bs, .inr (1, [.long (jl ((u_12).1.1)), .long (jl ((u_12).1.2.1)), .long (jl ((u_12).1.2.2))]))]) (As := [.ref bs]) (rest := []) X hK (c_G_turnIntoName l D cI cJ cF hg hv1.1 hr1 _) co_G_turnIntoName in_G ml_G_53 im_G_turnIntoName se_G_turnIntoName 1 rfl (by decide +kernel) ⟨Nat.le_of_ble_eq_true rfl, Nat.le_of_ble_eq_true rfl⟩ hP hD [0, 2, 3, 4] rfl (by decide) (q0 := 0) (ci := 2) rfl rfl rfl hl.1 rfl (Nat.le_of_ble_eq_true rfl) d_G_exponentOf_70 ⟨Nat.zero_le _, Nat.zero_le _⟩) hP hD hS hA [0, 2, 3, 4] rfl (by decide) (fun _ => rfl) (fun r_13 u_14 H locs hp hP hD hS => ?_)
          obtain ⟨cn, rfl, hnm2, -, -, -⟩ := hp
          have hcp2 := hcp1.r (fm_eq_mg hg.1 hs hv1.1 hnm2.1 hnm2.2.2.1.sy)
          have hv2 := v_mg hg.1 hv1 hnm2.1 hnm2.2.1 hnm2.2.2.1
          have hP : va_P D classes [(g, .inr (2, [.ref o, .ref wk, .ref st, .ref bs, .ref eu, .int (ji (Dd)), .int (ji (w))])), (o, .inr (1, [.long (jl (o1)), .long (jl (o2)), .long (jl (o3))])), (wk, .inr (1, [.long (jl ((u_14).2.1.1)), .long (jl ((u_14).2.1.2.1)), .long (jl ((u_14).2.1.2.2))])), (st, .inr (1, [.long (jl ((u_14).2.2.1)), .long (jl ((u_14).2.2.2.1)), .long (jl ((u_14).2.2.2.2))])), (bs, .inr (1, [.long (jl ((u_14).1.1)), .long (jl ((u_14).1.2.1)), .long (jl ((u_14).1.2.2))])), (eu, .inr (0, [.long (jl ((u_12).2.1)), .long (jl ((u_12).2.2.1)), .long (jl ((u_12).2.2.2))])), (f, .inr (1, [.long (jl (a)), .long (jl (b)), .long (jl (c))]))] H := hP
          have hD : va_D A [(g, .inr (2, [.ref o, .ref wk, .ref st, .ref bs, .ref eu, .int (ji (Dd)), .int (ji (w))])), (o, .inr (1, [.long (jl (o1)), .long (jl (o2)), .long (jl (o3))])), (wk, .inr (1, [.long (jl ((u_14).2.1.1)), .long (jl ((u_14).2.1.2.1)), .long (jl ((u_14).2.1.2.2))])), (st, .inr (1, [.long (jl ((u_14).2.2.1)), .long (jl ((u_14).2.2.2.1)), .long (jl ((u_14).2.2.2.2))])), (bs, .inr (1, [.long (jl ((u_14).1.1)), .long (jl ((u_14).1.2.1)), .long (jl ((u_14).1.2.2))])), (eu, .inr (0, [.long (jl ((u_12).2.1)), .long (jl ((u_12).2.2.1)), .long (jl ((u_12).2.2.2))])), (f, .inr (1, [.long (jl (a)), .long (jl (b)), .long (jl (c))]))] := hD
          refine lv_pop hx hb d_G_exponentOf_73 rfl ?_
          refine lv_iinc (v := ji ((nn) + (1))) (lv' := [(3, .int (ji ((nn) + (1)))), (0, .ref g), (1, .ref f), (2, .ref f)]) hx hb d_G_exponentOf_74 hl (k := 3) rfl (ji_add _ _) (by decide) rfl (fun ls hl => ?_)
          refine lv_goto (tgt := 23) hx hb d_G_exponentOf_77 (by decide) ?_
          exact ih _ _ _ _ (by omega) ⟨nn + 1, ((u_14).1).1, ((u_14).1).2.1, ((u_14).1).2.2, (u_14).2.1.1, (u_14).2.1.2.1, (u_14).2.1.2.2, (u_14).2.2.1, (u_14).2.2.2.1, (u_14).2.2.2.2, (u_12).2.1, (u_12).2.2.1, (u_12).2.2.2, rfl, ⟨by omega, by omega, fun j z1 z2 => by rcases Nat.lt_or_ge j nn with z | z; exact i3 j z1 z; (have : j = nn := by omega); rw [this]; exact hp1, hv2, hnm2.self, ⟨_, i4, i6, hcp2⟩⟩, hP, hD, hS, lv_sub hl [1, 2, 3, 0] rfl⟩
        · have hp2 : fm_pw Dd s0 n0 (a, b, c) nn (fm_one s0 n0) := (pw_one hg.1 hs i5 hone i6).mp (by rcases ht2 with z | z; exact fm_ext z.2.1 z.2.2.1 z.2.2.2; omega)
          refine w_iconst hx hb d_G_exponentOf_54 ?_
          exact rt_i X hAe hS ((w1, w2, w3), (t1, t2, t3), (b1, b2, b3), e1, e2, e3) ⟨-1, rfl, Or.inr ⟨rfl, pw_none hg.1 hs hf (m := nn) (by omega) hp2 (fun j z => by rcases Nat.eq_zero_or_pos j with y | y; (rw [y]; exact hp0); exact i3 j y z)⟩, by decide, by decide⟩ hP d_G_exponentOf_55
  · have hp0 : fm_pw Dd s0 n0 (a, b, c) (0 : Int).toNat (a, b, c) := (pw_goal hg.1 hs hone.self hfn (show fm_pw Dd s0 n0 (a, b, c) 0 (o1, o2, o3) from (fm_eq_mg hg.1 hs hone.1 (fm_one_disc hs) hone.2.2.1).sy)).mp (by rcases ht0 with y | y; exact (fm_ext y.2.1 y.2.2.1 y.2.2.2).symm; omega)
    refine w_iconst hx hb d_G_exponentOf_11 ?_
    exact rt_i X hAe hS ((x1, x2, x3), (y1, y2, y3), (v1, v2, v3), j1, j2, j3) ⟨0, rfl, Or.inl ⟨by decide, hp0, fun j z => absurd z (by omega)⟩, by decide, by decide⟩ hP d_G_exponentOf_12
end
section
set_option maxHeartbeats 4000000 in
set_option maxRecDepth 100000 in
theorem c_G_raise (l : Launch) (D : va_G) (cI cJ cF : ClassId) {g o wk st bs eu : Nat} {Dd w : Int} {f : Nat} {a b c o1 o2 o3 v1 v2 v3 j1 j2 j3 s0 n0 kx : Int} (hg : gD Dd w) (hs : fm_sn Dd s0 n0) (hone : fm_nm Dd w (o1, o2, o3) (fm_one s0 n0)) (hf : fm_v Dd (a, b, c)) (hfn : fm_nm Dd w (a, b, c) (a, b, c)) (hkx : jL kx) : ∀ sz, Met l y_G_raise (Cond.code y_G_raise b_G_raise 7 none :: wb) { frames := 5, cells := 0, slots := 0, locals := 134 } (va_Pc [.ref g, .ref f, .long (jl (kx))] (cpre D cI cJ cF [(g, .inr (2, [.ref o, .ref wk, .ref st, .ref bs, .ref eu, .int (ji (Dd)), .int (ji (w))])), (o, .inr (1, [.long (jl (o1)), .long (jl (o2)), .long (jl (o3))])), (bs, .inr (1, [.long (jl (v1)), .long (jl (v2)), .long (jl (v3))])), (eu, .inr (0, [.long (jl (j1)), .long (jl (j2)), .long (jl (j3))])), (f, .inr (1, [.long (jl (a)), .long (jl (b)), .long (jl (c))]))] sz)) (va_Qv (fun (u : fm_F × fm_F × Int × Int × Int) => fm_v Dd u.1 ∧ fm_red Dd w u.1 ∧ fm_pz Dd s0 n0 (a, b, c) kx u.1) (fun (u : fm_F × fm_F × Int × Int × Int) t => va_P D classes [(g, .inr (2, [.ref o, .ref wk, .ref st, .ref bs, .ref eu, .int (ji (Dd)), .int (ji (w))])), (o, .inr (1, [.long (jl (o1)), .long (jl (o2)), .long (jl (o3))])), (bs, .inr (1, [.long (jl ((u.2.1).1)), .long (jl ((u.2.1).2.1)), .long (jl ((u.2.1).2.2))])), (eu, .inr (0, [.long (jl (u.2.2.1)), .long (jl (u.2.2.2.1)), .long (jl (u.2.2.2.2))])), (f, .inr (1, [.long (jl ((u.1).1)), .long (jl ((u.1).2.1)), .long (jl ((u.1).2.2))]))] t.heap) (va_A [(g, .inr (2, [.ref o, .ref wk, .ref st, .ref bs, .ref eu, .int (ji (Dd)), .int (ji (w))])), (o, .inr (1, [.long (jl (o1)), .long (jl (o2)), .long (jl (o3))])), (bs, .inr (1, [.long (jl (v1)), .long (jl (v2)), .long (jl (v3))])), (eu, .inr (0, [.long (jl (j1)), .long (jl (j2)), .long (jl (j3))])), (f, .inr (1, [.long (jl (a)), .long (jl (b)), .long (jl (c))]))] sz)) 0 0 (va_A [(g, .inr (2, [.ref o, .ref wk, .ref st, .ref bs, .ref eu, .int (ji (Dd)), .int (ji (w))])), (o, .inr (1, [.long (jl (o1)), .long (jl (o2)), .long (jl (o3))])), (bs, .inr (1, [.long (jl (v1)), .long (jl (v2)), .long (jl (v3))])), (eu, .inr (0, [.long (jl (j1)), .long (jl (j2)), .long (jl (j3))])), (f, .inr (1, [.long (jl (a)), .long (jl (b)), .long (jl (c))]))] sz) := by
  refine c_of (Qc := fun sz => va_Qv (fun (u : fm_F × fm_F × Int × Int × Int) => fm_v Dd u.1 ∧ fm_red Dd w u.1 ∧ fm_pz Dd s0 n0 (a, b, c) kx u.1) (fun (u : fm_F × fm_F × Int × Int × Int) t => va_P D classes [(g, .inr (2, [.ref o, .ref wk, .ref st, .ref bs, .ref eu, .int (ji (Dd)), .int (ji (w))])), (o, .inr (1, [.long (jl (o1)), .long (jl (o2)), .long (jl (o3))])), (bs, .inr (1, [.long (jl ((u.2.1).1)), .long (jl ((u.2.1).2.1)), .long (jl ((u.2.1).2.2))])), (eu, .inr (0, [.long (jl (u.2.2.1)), .long (jl (u.2.2.2.1)), .long (jl (u.2.2.2.2))])), (f, .inr (1, [.long (jl ((u.1).1)), .long (jl ((u.1).2.1)), .long (jl ((u.1).2.2))]))] t.heap) (va_A [(g, .inr (2, [.ref o, .ref wk, .ref st, .ref bs, .ref eu, .int (ji (Dd)), .int (ji (w))])), (o, .inr (1, [.long (jl (o1)), .long (jl (o2)), .long (jl (o3))])), (bs, .inr (1, [.long (jl (v1)), .long (jl (v2)), .long (jl (v3))])), (eu, .inr (0, [.long (jl (j1)), .long (jl (j2)), .long (jl (j3))])), (f, .inr (1, [.long (jl (a)), .long (jl (b)), .long (jl (c))]))] sz)) (by decide +kernel) co_G_raise (Nat.le_of_ble_eq_true rfl) ?_
  intro pq eq s mq below meth cq A X hK hP hD hS hA hAe ls hl
  obtain ⟨hx, hb, hml, hown, hr, hlocks, hts⟩ := id X
  have hl : lv_has ls 7 [(0, .ref g), (1, .ref f), (2, .long (jl (kx)))] := hl
  have fb := red_b30 hg hf.1 hfn.2.1
  have hov := v_mg hg.1 (fm_one_v hs) hone.1 hone.2.1 hone.2.2.1
  refine lv_aload_n hx hb d_G_raise_0 rfl (lv_at hl 0 rfl) ?_
  refine va_get (D := D) (ci := 2) (v := .ref bs) (C := R_G) (T := T_G) (N := 7) hx hb hts uw_G hown hK.1 hP 0 rfl rfl 3 (by decide) (hts _ fl_G_24) (fun _ h9 => h9) rfl d_G_raise_1 ?_
  refine lv_aload_n hx hb d_G_raise_4 rfl (lv_at hl 1 rfl) ?_
  refine cl_v (rn_VN (wc := [(bs, .inr (1, [.long (jl (v1)), .long (jl (v2)), .long (jl (v3))])), (f, .inr (1, [.long (jl (a)), .long (jl (b)), .long (jl (c))]))]) (As := [.ref f]) (rest := []) X hK (c_F_copy l D cI cJ cF  _) co_F_copy in_F nm_G_117 im_F_copy se_F_copy 1 rfl (by decide +kernel) ⟨Nat.le_of_ble_eq_true rfl, Nat.le_of_ble_eq_true rfl⟩ hP hD [2, 4] rfl (by decide) (q0 := 0) (ci := 1) rfl rfl rfl hl.1 rfl (Nat.le_of_ble_eq_true rfl) d_G_raise_5 ⟨Nat.zero_le _, Nat.zero_le _⟩) hP hD hS hA [2, 4] rfl (by decide) (fun _ => rfl) (fun u_1 H locs hp hP hD hS => ?_)
  have hP : va_P D classes [(g, .inr (2, [.ref o, .ref wk, .ref st, .ref bs, .ref eu, .int (ji (Dd)), .int (ji (w))])), (o, .inr (1, [.long (jl (o1)), .long (jl (o2)), .long (jl (o3))])), (bs, .inr (1, [.long (jl (a)), .long (jl (b)), .long (jl (c))])), (eu, .inr (0, [.long (jl (j1)), .long (jl (j2)), .long (jl (j3))])), (f, .inr (1, [.long (jl (a)), .long (jl (b)), .long (jl (c))]))] H := hP
  have hD : va_D A [(g, .inr (2, [.ref o, .ref wk, .ref st, .ref bs, .ref eu, .int (ji (Dd)), .int (ji (w))])), (o, .inr (1, [.long (jl (o1)), .long (jl (o2)), .long (jl (o3))])), (bs, .inr (1, [.long (jl (a)), .long (jl (b)), .long (jl (c))])), (eu, .inr (0, [.long (jl (j1)), .long (jl (j2)), .long (jl (j3))])), (f, .inr (1, [.long (jl (a)), .long (jl (b)), .long (jl (c))]))] := hD
  refine lv_lload_n hx hb d_G_raise_8 rfl (lv_at hl 2 rfl) ?_
  refine w_lconst (v := 0) hx hb rfl d_G_raise_9 ?_
  refine wl_cge hx hb hkx ⟨by decide, by decide⟩ d_G_raise_10 d_G_raise_11 (tgt := 22) (by decide) (fun h_2 => ?_) (fun h_2 => ?_)
  · obtain ⟨F0, hF0⟩ : ∃ t : fm_F, t = (a, b, c) := ⟨_, rfl⟩
    have hFv : fm_v Dd F0 := by rw [hF0]; exact hf
    obtain ⟨R0, hR0⟩ : ∃ t : Nat, t = kx.toNat := ⟨_, rfl⟩
    have hR1 : R0 < 2 ^ 64 := by have := hkx.2; omega
    have hRk : jl kx = jl (R0 : Int) := by rw [hR0]; congr 1; omega
    have hbs : fm_v Dd (a, b, c) ∧ fm_red Dd w (a, b, c) ∧ fm_pw Dd s0 n0 F0 1 (a, b, c) := ⟨hf, hfn.2.1, by rw [hF0]; exact fm_pw.one hs hf⟩
    have hgoal : ∀ z : fm_F, fm_pw Dd s0 n0 F0 R0 z → fm_pz Dd s0 n0 (a, b, c) kx z := fun z hz => ⟨fun _ => by rw [hF0, hR0] at hz; exact hz, fun q => absurd q (by omega)⟩
    refine lv_aload_n hx hb d_G_raise_22 rfl (lv_at hl 1 rfl) ?_
    refine lv_aload_n hx hb d_G_raise_23 rfl (lv_at hl 0 rfl) ?_
    refine va_get (D := D) (ci := 2) (v := .ref o) (C := R_G) (T := T_G) (N := 7) hx hb hts uw_G hown hK.1 hP 0 rfl rfl 0 (by decide) (hts _ fl_G_12) (fun _ h9 => h9) rfl d_G_raise_24 ?_
    refine cl_v (rn_VN (wc := [(f, .inr (1, [.long (jl (a)), .long (jl (b)), .long (jl (c))])), (o, .inr (1, [.long (jl (o1)), .long (jl (o2)), .long (jl (o3))]))]) (As := [.ref o]) (rest := []) X hK (c_F_copy l D cI cJ cF  _) co_F_copy in_F nm_G_117 im_F_copy se_F_copy 1 rfl (by decide +kernel) ⟨Nat.le_of_ble_eq_true rfl, Nat.le_of_ble_eq_true rfl⟩ hP hD [4, 1] rfl (by decide) (q0 := 0) (ci := 1) rfl rfl rfl hl.1 rfl (Nat.le_of_ble_eq_true rfl) d_G_raise_27 ⟨Nat.zero_le _, Nat.zero_le _⟩) hP hD hS hA [4, 1] rfl (by decide) (fun _ => rfl) (fun u_3 H locs hp hP hD hS => ?_)
    have hP : va_P D classes [(g, .inr (2, [.ref o, .ref wk, .ref st, .ref bs, .ref eu, .int (ji (Dd)), .int (ji (w))])), (o, .inr (1, [.long (jl (o1)), .long (jl (o2)), .long (jl (o3))])), (bs, .inr (1, [.long (jl (a)), .long (jl (b)), .long (jl (c))])), (eu, .inr (0, [.long (jl (j1)), .long (jl (j2)), .long (jl (j3))])), (f, .inr (1, [.long (jl (o1)), .long (jl (o2)), .long (jl (o3))]))] H := hP
    have hD : va_D A [(g, .inr (2, [.ref o, .ref wk, .ref st, .ref bs, .ref eu, .int (ji (Dd)), .int (ji (w))])), (o, .inr (1, [.long (jl (o1)), .long (jl (o2)), .long (jl (o3))])), (bs, .inr (1, [.long (jl (a)), .long (jl (b)), .long (jl (c))])), (eu, .inr (0, [.long (jl (j1)), .long (jl (j2)), .long (jl (j3))])), (f, .inr (1, [.long (jl (o1)), .long (jl (o2)), .long (jl (o3))]))] := hD
    refine lv_lload_n hx hb d_G_raise_30 rfl (lv_at hl 2 rfl) ?_
    refine w_lconst (v := 0) hx hb rfl d_G_raise_31 ?_
    refine wl_cge hx hb hkx ⟨by decide, by decide⟩ d_G_raise_32 d_G_raise_33 (tgt := 41) (by decide) (fun h_4 => ?_) (fun h_4 => ?_)
    · refine lv_lload_n hx hb d_G_raise_41 rfl (lv_at hl 2 rfl) ?_
      refine lv_topl (fun yy hyy => ?_)
      obtain rfl : yy = jl (R0 : Int) := hyy.trans hRk
      refine lv_lstore (lv' := [(4, .long (jl (R0))), (0, .ref g), (1, .ref f), (2, .long (jl (kx)))]) hx hb d_G_raise_42 hl (by decide) rfl (fun ls hl => ?_)
      refine w_iconst hx hb d_G_raise_44 ?_
      refine lv_istore (lv' := [(6, .int (ji (0))), (4, .long (jl (R0))), (0, .ref g), (1, .ref f), (2, .long (jl (kx)))]) hx hb d_G_raise_45 hl (by decide) rfl (fun ls hl => ?_)
      refine lpn (I := fun n H locs ls => ∃ (i : Nat) (RR : Nat) (k1 : Nat) (k2 : Nat) (c1 : Int) (c2 : Int) (c3 : Int) (b1 : Int) (b2 : Int) (b3 : Int) (e1 : Int) (e2 : Int) (e3 : Int), 64 - i = n ∧ (i ≤ 64 ∧ RR < 2 ^ (64 - i) ∧ k1 + k2 * RR = R0 ∧ fm_v Dd (c1, c2, c3) ∧ fm_red Dd w (c1, c2, c3) ∧ fm_pw Dd s0 n0 F0 k1 (c1, c2, c3) ∧ fm_v Dd (b1, b2, b3) ∧ fm_red Dd w (b1, b2, b3) ∧ fm_pw Dd s0 n0 F0 k2 (b1, b2, b3) ∧ True) ∧ va_P D classes [(g, .inr (2, [.ref o, .ref wk, .ref st, .ref bs, .ref eu, .int (ji (Dd)), .int (ji (w))])), (o, .inr (1, [.long (jl (o1)), .long (jl (o2)), .long (jl (o3))])), (bs, .inr (1, [.long (jl (b1)), .long (jl (b2)), .long (jl (b3))])), (eu, .inr (0, [.long (jl (e1)), .long (jl (e2)), .long (jl (e3))])), (f, .inr (1, [.long (jl (c1)), .long (jl (c2)), .long (jl (c3))]))] H ∧ va_D A [(g, .inr (2, [.ref o, .ref wk, .ref st, .ref bs, .ref eu, .int (ji (Dd)), .int (ji (w))])), (o, .inr (1, [.long (jl (o1)), .long (jl (o2)), .long (jl (o3))])), (bs, .inr (1, [.long (jl (b1)), .long (jl (b2)), .long (jl (b3))])), (eu, .inr (0, [.long (jl (e1)), .long (jl (e2)), .long (jl (e3))])), (f, .inr (1, [.long (jl (c1)), .long (jl (c2)), .long (jl (c3))]))] ∧ va_S A s.heap H locs ∧ lv_has ls 7 [(0, .ref g), (1, .ref f), (2, .long (jl (kx))), (4, .long (jl (RR))), (6, .int (ji (i)))]) ?_ _ _ _ _ ⟨0, R0, 0, 1, o1, o2, o3, a, b, c, j1, j2, j3, rfl, ⟨by omega, by simpa using hR1, by omega, hov, hone.2.1, (fm_eq_mg hg.1 hs hone.1 (fm_one_disc hs) hone.2.2.1).sy, hbs.1, hbs.2.1, hbs.2.2, trivial⟩, hP, hD, hS, lv_sub hl [2, 3, 4, 1, 0] rfl⟩
      rintro n H locs ls ⟨i, RR, k1, k2, c1, c2, c3, b1, b2, b3, e1, e2, e3, rfl, hi, hP, hD, hS, hl⟩ ih
      refine lv_iload hx hb d_G_raise_47 (lv_at hl 4 rfl) ?_
      refine w_bipush hx hb rfl d_G_raise_49 ?_
      refine wi_cge hx hb ⟨by omega, by omega⟩ ⟨by decide, by decide⟩ d_G_raise_51 (tgt := 103) (by decide) (fun h_5 => ?_) (fun h_5 => ?_)
      · obtain ⟨i1, i2, i3, i4, i5, i6, i7, i8, i9, i10⟩ := hi
        have hR00 : RR = 0 := by
          have e : 64 - i = 0 := by omega
          rw [e] at i2
          have : (2 : Nat) ^ 0 = 1 := rfl
          omega
        have hfin := hgoal _ (show fm_pw Dd s0 n0 F0 R0 (c1, c2, c3) by rw [← i3, hR00, Nat.mul_zero, Nat.add_zero]; exact i6)
        exact rt_v X hAe hS ((c1, c2, c3), (b1, b2, b3), e1, e2, e3) ⟨i4, i5, hfin⟩ hP d_G_raise_103
      · obtain ⟨i1, i2, i3, i4, i5, i6, i7, i8, i9, i10⟩ := hi
        have hRR : RR < 2 ^ 64 := Nat.lt_of_lt_of_le i2 (Nat.pow_le_pow_right (by decide) (by omega))
        refine lv_lload hx hb d_G_raise_54 (lv_at hl 3 rfl) ?_
        refine w_lconst (v := 0) hx hb rfl d_G_raise_56 ?_
        refine wl_ceqU hx hb (jl_u0 hRR) d_G_raise_57 d_G_raise_58 (tgt := 103) (by decide) (fun hz => ?_) (fun hz => ?_)
        · have hfin := hgoal _ (show fm_pw Dd s0 n0 F0 R0 (c1, c2, c3) by rw [← i3, hz, Nat.mul_zero, Nat.add_zero]; exact i6)
          exact rt_v X hAe hS ((c1, c2, c3), (b1, b2, b3), e1, e2, e3) ⟨i4, i5, hfin⟩ hP d_G_raise_103
        · have hRp : 0 < RR := Nat.pos_of_ne_zero hz
          refine lv_lload hx hb d_G_raise_61 (lv_at hl 3 rfl) ?_
          refine w_lconst (v := 1) hx hb rfl d_G_raise_63 ?_
          refine lv_land hx hb d_G_raise_64 ?_
          rw [jl_and1 hRR]
          refine w_lconst (v := 1) hx hb rfl d_G_raise_65 ?_
          refine wl_cne hx hb ⟨by omega, by omega⟩ ⟨by decide, by decide⟩ d_G_raise_66 d_G_raise_67 (tgt := 79) (by decide) (fun h_6 => ?_) (fun h_6 => ?_)
          · refine lv_aload_n hx hb d_G_raise_79 rfl (lv_at hl 0 rfl) ?_
            refine lv_aload_n hx hb d_G_raise_80 rfl (lv_at hl 0 rfl) ?_
            refine va_get (D := D) (ci := 2) (v := .ref bs) (C := R_G) (T := T_G) (N := 7) hx hb hts uw_G hown hK.1 hP 0 rfl rfl 3 (by decide) (hts _ fl_G_24) (fun _ h9 => h9) rfl d_G_raise_81 ?_
            refine lv_aload_n hx hb d_G_raise_84 rfl (lv_at hl 0 rfl) ?_
            refine va_get (D := D) (ci := 2) (v := .ref bs) (C := R_G) (T := T_G) (N := 7) hx hb hts uw_G hown hK.1 hP 0 rfl rfl 3 (by decide) (hts _ fl_G_24) (fun _ h9 => h9) rfl d_G_raise_85 ?_
            refine cl_v (rn_V (wc := [(g, .inr (2, [.ref o, .ref wk, .ref st, .ref bs, .ref eu, .int (ji (Dd)), .int (ji (w))])), (eu, .inr (0, [.long (jl (e1)), .long (jl (e2)), .long (jl (e3))])), (bs, .inr (1, [.long (jl (b1)), .long (jl (b2)), .long (jl (b3))]))]) (As := [.ref bs, .ref bs]) (rest := []) X hK (c_G_multiply1 l D cI cJ cF hg hs i7 i8 _) co_G_multiply in_G ml_G_135 im_G_multiply se_G_multiply 2 rfl (by decide +kernel) ⟨Nat.le_of_ble_eq_true rfl, Nat.le_of_ble_eq_true rfl⟩ hP hD [0, 3, 2] rfl (by decide) (q0 := 0) (ci := 2) rfl rfl rfl hl.1 rfl (Nat.le_of_ble_eq_true rfl) d_G_raise_88 ⟨Nat.zero_le _, Nat.zero_le _⟩) hP hD hS hA [0, 3, 2] rfl (by decide) (fun _ => rfl) (fun u_7 H locs hp hP hD hS => ?_)
            obtain ⟨mv2, mr2, mc2⟩ : fm_v Dd (u_7).1 ∧ fm_red Dd w (u_7).1 ∧ fm_cp s0 n0 (b1, b2, b3) (b1, b2, b3) (u_7).1 := hp
            have mp2 := fm_pw.add hg.1 hs _ _ i7 i9 i9 mc2
            have hP : va_P D classes [(g, .inr (2, [.ref o, .ref wk, .ref st, .ref bs, .ref eu, .int (ji (Dd)), .int (ji (w))])), (o, .inr (1, [.long (jl (o1)), .long (jl (o2)), .long (jl (o3))])), (bs, .inr (1, [.long (jl ((u_7).1.1)), .long (jl ((u_7).1.2.1)), .long (jl ((u_7).1.2.2))])), (eu, .inr (0, [.long (jl ((u_7).2.1)), .long (jl ((u_7).2.2.1)), .long (jl ((u_7).2.2.2))])), (f, .inr (1, [.long (jl (c1)), .long (jl (c2)), .long (jl (c3))]))] H := hP
            have hD : va_D A [(g, .inr (2, [.ref o, .ref wk, .ref st, .ref bs, .ref eu, .int (ji (Dd)), .int (ji (w))])), (o, .inr (1, [.long (jl (o1)), .long (jl (o2)), .long (jl (o3))])), (bs, .inr (1, [.long (jl ((u_7).1.1)), .long (jl ((u_7).1.2.1)), .long (jl ((u_7).1.2.2))])), (eu, .inr (0, [.long (jl ((u_7).2.1)), .long (jl ((u_7).2.2.1)), .long (jl ((u_7).2.2.2))])), (f, .inr (1, [.long (jl (c1)), .long (jl (c2)), .long (jl (c3))]))] := hD
            refine lv_lload hx hb d_G_raise_91 (lv_at hl 3 rfl) ?_
            refine w_iconst hx hb d_G_raise_93 ?_
            refine lv_lushr (v := jl ((RR / 2 : Nat) : Int)) hx hb d_G_raise_94 (jl_ushr1 hRR) ?_
            refine lv_lstore (lv' := [(4, .long (jl ((RR / 2 : Nat)))), (0, .ref g), (1, .ref f), (2, .long (jl (kx))), (6, .int (ji (i)))]) hx hb d_G_raise_95 hl (by decide) rfl (fun ls hl => ?_)
            refine lv_iinc (v := ji ((i) + (1))) (lv' := [(6, .int (ji ((i) + (1)))), (4, .long (jl ((RR / 2 : Nat)))), (0, .ref g), (1, .ref f), (2, .long (jl (kx)))]) hx hb d_G_raise_97 hl (k := 4) rfl (ji_add _ _) (by decide) rfl (fun ls hl => ?_)
            refine lv_goto (tgt := 47) hx hb d_G_raise_100 (by decide) ?_
            have i2n : RR / 2 < 2 ^ (64 - (i + 1)) := by
              have e : 64 - i = (64 - (i + 1)) + 1 := by omega
              rw [e, Nat.pow_succ] at i2
              omega
            exact ih _ _ _ _ (by omega) ⟨i + 1, RR / 2, k1, k2 + k2, c1, c2, c3, (u_7).1.1, (u_7).1.2.1, (u_7).1.2.2, (u_7).2.1, (u_7).2.2.1, (u_7).2.2.2, rfl, ⟨by omega, i2n, ((pw_ar i3).1 (by omega)), i4, i5, i6, mv2, mr2, mp2, trivial⟩, hP, hD, hS, lv_sub hl [2, 3, 4, 1, 0] rfl⟩
          · refine lv_aload_n hx hb d_G_raise_70 rfl (lv_at hl 0 rfl) ?_
            refine lv_aload_n hx hb d_G_raise_71 rfl (lv_at hl 1 rfl) ?_
            refine lv_aload_n hx hb d_G_raise_72 rfl (lv_at hl 0 rfl) ?_
            refine va_get (D := D) (ci := 2) (v := .ref bs) (C := R_G) (T := T_G) (N := 7) hx hb hts uw_G hown hK.1 hP 0 rfl rfl 3 (by decide) (hts _ fl_G_24) (fun _ h9 => h9) rfl d_G_raise_73 ?_
            refine cl_v (rn_V (wc := [(g, .inr (2, [.ref o, .ref wk, .ref st, .ref bs, .ref eu, .int (ji (Dd)), .int (ji (w))])), (eu, .inr (0, [.long (jl (e1)), .long (jl (e2)), .long (jl (e3))])), (f, .inr (1, [.long (jl (c1)), .long (jl (c2)), .long (jl (c3))])), (bs, .inr (1, [.long (jl (b1)), .long (jl (b2)), .long (jl (b3))]))]) (As := [.ref f, .ref bs]) (rest := []) X hK (c_G_multiply l D cI cJ cF hg hs i4 i5 i7 i8 _) co_G_multiply in_G ml_G_135 im_G_multiply se_G_multiply 2 rfl (by decide +kernel) ⟨Nat.le_of_ble_eq_true rfl, Nat.le_of_ble_eq_true rfl⟩ hP hD [0, 3, 4, 2] rfl (by decide) (q0 := 0) (ci := 2) rfl rfl rfl hl.1 rfl (Nat.le_of_ble_eq_true rfl) d_G_raise_76 ⟨Nat.zero_le _, Nat.zero_le _⟩) hP hD hS hA [0, 3, 4, 2] rfl (by decide) (fun _ => rfl) (fun u_8 H locs hp hP hD hS => ?_)
            obtain ⟨mv1, mr1, mc1⟩ : fm_v Dd (u_8).1 ∧ fm_red Dd w (u_8).1 ∧ fm_cp s0 n0 (c1, c2, c3) (b1, b2, b3) (u_8).1 := hp
            have mp1 := fm_pw.add hg.1 hs _ _ i4 i6 i9 mc1
            have hP : va_P D classes [(g, .inr (2, [.ref o, .ref wk, .ref st, .ref bs, .ref eu, .int (ji (Dd)), .int (ji (w))])), (o, .inr (1, [.long (jl (o1)), .long (jl (o2)), .long (jl (o3))])), (bs, .inr (1, [.long (jl (b1)), .long (jl (b2)), .long (jl (b3))])), (eu, .inr (0, [.long (jl ((u_8).2.1)), .long (jl ((u_8).2.2.1)), .long (jl ((u_8).2.2.2))])), (f, .inr (1, [.long (jl ((u_8).1.1)), .long (jl ((u_8).1.2.1)), .long (jl ((u_8).1.2.2))]))] H := hP
            have hD : va_D A [(g, .inr (2, [.ref o, .ref wk, .ref st, .ref bs, .ref eu, .int (ji (Dd)), .int (ji (w))])), (o, .inr (1, [.long (jl (o1)), .long (jl (o2)), .long (jl (o3))])), (bs, .inr (1, [.long (jl (b1)), .long (jl (b2)), .long (jl (b3))])), (eu, .inr (0, [.long (jl ((u_8).2.1)), .long (jl ((u_8).2.2.1)), .long (jl ((u_8).2.2.2))])), (f, .inr (1, [.long (jl ((u_8).1.1)), .long (jl ((u_8).1.2.1)), .long (jl ((u_8).1.2.2))]))] := hD
            refine lv_aload_n hx hb d_G_raise_79 rfl (lv_at hl 0 rfl) ?_
            refine lv_aload_n hx hb d_G_raise_80 rfl (lv_at hl 0 rfl) ?_
            refine va_get (D := D) (ci := 2) (v := .ref bs) (C := R_G) (T := T_G) (N := 7) hx hb hts uw_G hown hK.1 hP 0 rfl rfl 3 (by decide) (hts _ fl_G_24) (fun _ h9 => h9) rfl d_G_raise_81 ?_
            refine lv_aload_n hx hb d_G_raise_84 rfl (lv_at hl 0 rfl) ?_
            refine va_get (D := D) (ci := 2) (v := .ref bs) (C := R_G) (T := T_G) (N := 7) hx hb hts uw_G hown hK.1 hP 0 rfl rfl 3 (by decide) (hts _ fl_G_24) (fun _ h9 => h9) rfl d_G_raise_85 ?_
            refine cl_v (rn_V (wc := [(g, .inr (2, [.ref o, .ref wk, .ref st, .ref bs, .ref eu, .int (ji (Dd)), .int (ji (w))])), (eu, .inr (0, [.long (jl ((u_8).2.1)), .long (jl ((u_8).2.2.1)), .long (jl ((u_8).2.2.2))])), (bs, .inr (1, [.long (jl (b1)), .long (jl (b2)), .long (jl (b3))]))]) (As := [.ref bs, .ref bs]) (rest := []) X hK (c_G_multiply1 l D cI cJ cF hg hs i7 i8 _) co_G_multiply in_G ml_G_135 im_G_multiply se_G_multiply 2 rfl (by decide +kernel) ⟨Nat.le_of_ble_eq_true rfl, Nat.le_of_ble_eq_true rfl⟩ hP hD [0, 3, 2] rfl (by decide) (q0 := 0) (ci := 2) rfl rfl rfl hl.1 rfl (Nat.le_of_ble_eq_true rfl) d_G_raise_88 ⟨Nat.zero_le _, Nat.zero_le _⟩) hP hD hS hA [0, 3, 2] rfl (by decide) (fun _ => rfl) (fun u_9 H locs hp hP hD hS => ?_)
            obtain ⟨mv2, mr2, mc2⟩ : fm_v Dd (u_9).1 ∧ fm_red Dd w (u_9).1 ∧ fm_cp s0 n0 (b1, b2, b3) (b1, b2, b3) (u_9).1 := hp
            have mp2 := fm_pw.add hg.1 hs _ _ i7 i9 i9 mc2
            have hP : va_P D classes [(g, .inr (2, [.ref o, .ref wk, .ref st, .ref bs, .ref eu, .int (ji (Dd)), .int (ji (w))])), (o, .inr (1, [.long (jl (o1)), .long (jl (o2)), .long (jl (o3))])), (bs, .inr (1, [.long (jl ((u_9).1.1)), .long (jl ((u_9).1.2.1)), .long (jl ((u_9).1.2.2))])), (eu, .inr (0, [.long (jl ((u_9).2.1)), .long (jl ((u_9).2.2.1)), .long (jl ((u_9).2.2.2))])), (f, .inr (1, [.long (jl ((u_8).1.1)), .long (jl ((u_8).1.2.1)), .long (jl ((u_8).1.2.2))]))] H := hP
            have hD : va_D A [(g, .inr (2, [.ref o, .ref wk, .ref st, .ref bs, .ref eu, .int (ji (Dd)), .int (ji (w))])), (o, .inr (1, [.long (jl (o1)), .long (jl (o2)), .long (jl (o3))])), (bs, .inr (1, [.long (jl ((u_9).1.1)), .long (jl ((u_9).1.2.1)), .long (jl ((u_9).1.2.2))])), (eu, .inr (0, [.long (jl ((u_9).2.1)), .long (jl ((u_9).2.2.1)), .long (jl ((u_9).2.2.2))])), (f, .inr (1, [.long (jl ((u_8).1.1)), .long (jl ((u_8).1.2.1)), .long (jl ((u_8).1.2.2))]))] := hD
            refine lv_lload hx hb d_G_raise_91 (lv_at hl 3 rfl) ?_
            refine w_iconst hx hb d_G_raise_93 ?_
            refine lv_lushr (v := jl ((RR / 2 : Nat) : Int)) hx hb d_G_raise_94 (jl_ushr1 hRR) ?_
            refine lv_lstore (lv' := [(4, .long (jl ((RR / 2 : Nat)))), (0, .ref g), (1, .ref f), (2, .long (jl (kx))), (6, .int (ji (i)))]) hx hb d_G_raise_95 hl (by decide) rfl (fun ls hl => ?_)
            refine lv_iinc (v := ji ((i) + (1))) (lv' := [(6, .int (ji ((i) + (1)))), (4, .long (jl ((RR / 2 : Nat)))), (0, .ref g), (1, .ref f), (2, .long (jl (kx)))]) hx hb d_G_raise_97 hl (k := 4) rfl (ji_add _ _) (by decide) rfl (fun ls hl => ?_)
            refine lv_goto (tgt := 47) hx hb d_G_raise_100 (by decide) ?_
            have i2n : RR / 2 < 2 ^ (64 - (i + 1)) := by
              have e : 64 - i = (64 - (i + 1)) + 1 := by omega
              rw [e, Nat.pow_succ] at i2
              omega
            exact ih _ _ _ _ (by omega) ⟨i + 1, RR / 2, k1 + k2, k2 + k2, (u_8).1.1, (u_8).1.2.1, (u_8).1.2.2, (u_9).1.1, (u_9).1.2.1, (u_9).1.2.2, (u_9).2.1, (u_9).2.2.1, (u_9).2.2.2, rfl, ⟨by omega, i2n, ((pw_ar i3).2 (by omega)), mv1, mr1, mp1, mv2, mr2, mp2, trivial⟩, hP, hD, hS, lv_sub hl [2, 3, 4, 1, 0] rfl⟩
    · omega
  · refine lv_aload_n hx hb d_G_raise_14 rfl (lv_at hl 0 rfl) ?_
    refine lv_aload_n hx hb d_G_raise_15 rfl (lv_at hl 0 rfl) ?_
    refine va_get (D := D) (ci := 2) (v := .ref bs) (C := R_G) (T := T_G) (N := 7) hx hb hts uw_G hown hK.1 hP 0 rfl rfl 3 (by decide) (hts _ fl_G_24) (fun _ h9 => h9) rfl d_G_raise_16 ?_
    refine cl_v (rn_V (wc := [(g, .inr (2, [.ref o, .ref wk, .ref st, .ref bs, .ref eu, .int (ji (Dd)), .int (ji (w))])), (bs, .inr (1, [.long (jl (a)), .long (jl (b)), .long (jl (c))]))]) (As := [.ref bs]) (rest := []) X hK (c_G_turn l D cI cJ cF hg hf.1 hf.2.2 fb.1 fb.2.1 fb.2.2 _) co_G_turn in_G ml_G_132 im_G_turn se_G_turn 1 rfl (by decide +kernel) ⟨Nat.le_of_ble_eq_true rfl, Nat.le_of_ble_eq_true rfl⟩ hP hD [0, 2] rfl (by decide) (q0 := 0) (ci := 2) rfl rfl rfl hl.1 rfl (Nat.le_of_ble_eq_true rfl) d_G_raise_19 ⟨Nat.zero_le _, Nat.zero_le _⟩) hP hD hS hA [0, 2] rfl (by decide) (fun _ => rfl) (fun u_10 H locs hp hP hD hS => ?_)
    obtain ⟨td1, td2, td3⟩ : fm_disc Dd u_10 ∧ fm_red Dd w u_10 ∧ fm_mg Dd w u_10 (a, -b, c) := hp
    have tv := v_mg hg.1 (fm_inv_v hf) td1 td2 td3
    obtain ⟨F0, hF0⟩ : ∃ t : fm_F, t = fm_inv (a, b, c) := ⟨_, rfl⟩
    have hFv : fm_v Dd F0 := by rw [hF0]; exact fm_inv_v hf
    obtain ⟨R0, hR0⟩ : ∃ t : Nat, t = (-kx).toNat := ⟨_, rfl⟩
    have hR1 : R0 < 2 ^ 64 := by have := hkx.1; omega
    have hRk : jl (-kx) = jl (R0 : Int) := by rw [hR0]; congr 1; omega
    have hbs : fm_v Dd u_10 ∧ fm_red Dd w u_10 ∧ fm_pw Dd s0 n0 F0 1 u_10 := ⟨tv, td2, by rw [hF0]; exact (fm_pw.one hs (fm_inv_v hf)).r (fm_eq_mg hg.1 hs (fm_inv_disc hf.1) td1 td3.sy)⟩
    have hgoal : ∀ z : fm_F, fm_pw Dd s0 n0 F0 R0 z → fm_pz Dd s0 n0 (a, b, c) kx z := fun z hz => ⟨fun q => absurd q (by omega), fun _ => by rw [hF0, hR0] at hz; exact hz⟩
    have hP : va_P D classes [(g, .inr (2, [.ref o, .ref wk, .ref st, .ref bs, .ref eu, .int (ji (Dd)), .int (ji (w))])), (o, .inr (1, [.long (jl (o1)), .long (jl (o2)), .long (jl (o3))])), (bs, .inr (1, [.long (jl ((u_10).1)), .long (jl ((u_10).2.1)), .long (jl ((u_10).2.2))])), (eu, .inr (0, [.long (jl (j1)), .long (jl (j2)), .long (jl (j3))])), (f, .inr (1, [.long (jl (a)), .long (jl (b)), .long (jl (c))]))] H := hP
    have hD : va_D A [(g, .inr (2, [.ref o, .ref wk, .ref st, .ref bs, .ref eu, .int (ji (Dd)), .int (ji (w))])), (o, .inr (1, [.long (jl (o1)), .long (jl (o2)), .long (jl (o3))])), (bs, .inr (1, [.long (jl ((u_10).1)), .long (jl ((u_10).2.1)), .long (jl ((u_10).2.2))])), (eu, .inr (0, [.long (jl (j1)), .long (jl (j2)), .long (jl (j3))])), (f, .inr (1, [.long (jl (a)), .long (jl (b)), .long (jl (c))]))] := hD
    refine lv_aload_n hx hb d_G_raise_22 rfl (lv_at hl 1 rfl) ?_
    refine lv_aload_n hx hb d_G_raise_23 rfl (lv_at hl 0 rfl) ?_
    refine va_get (D := D) (ci := 2) (v := .ref o) (C := R_G) (T := T_G) (N := 7) hx hb hts uw_G hown hK.1 hP 0 rfl rfl 0 (by decide) (hts _ fl_G_12) (fun _ h9 => h9) rfl d_G_raise_24 ?_
    refine cl_v (rn_VN (wc := [(f, .inr (1, [.long (jl (a)), .long (jl (b)), .long (jl (c))])), (o, .inr (1, [.long (jl (o1)), .long (jl (o2)), .long (jl (o3))]))]) (As := [.ref o]) (rest := []) X hK (c_F_copy l D cI cJ cF  _) co_F_copy in_F nm_G_117 im_F_copy se_F_copy 1 rfl (by decide +kernel) ⟨Nat.le_of_ble_eq_true rfl, Nat.le_of_ble_eq_true rfl⟩ hP hD [4, 1] rfl (by decide) (q0 := 0) (ci := 1) rfl rfl rfl hl.1 rfl (Nat.le_of_ble_eq_true rfl) d_G_raise_27 ⟨Nat.zero_le _, Nat.zero_le _⟩) hP hD hS hA [4, 1] rfl (by decide) (fun _ => rfl) (fun u_11 H locs hp hP hD hS => ?_)
    have hP : va_P D classes [(g, .inr (2, [.ref o, .ref wk, .ref st, .ref bs, .ref eu, .int (ji (Dd)), .int (ji (w))])), (o, .inr (1, [.long (jl (o1)), .long (jl (o2)), .long (jl (o3))])), (bs, .inr (1, [.long (jl ((u_10).1)), .long (jl ((u_10).2.1)), .long (jl ((u_10).2.2))])), (eu, .inr (0, [.long (jl (j1)), .long (jl (j2)), .long (jl (j3))])), (f, .inr (1, [.long (jl (o1)), .long (jl (o2)), .long (jl (o3))]))] H := hP
    have hD : va_D A [(g, .inr (2, [.ref o, .ref wk, .ref st, .ref bs, .ref eu, .int (ji (Dd)), .int (ji (w))])), (o, .inr (1, [.long (jl (o1)), .long (jl (o2)), .long (jl (o3))])), (bs, .inr (1, [.long (jl ((u_10).1)), .long (jl ((u_10).2.1)), .long (jl ((u_10).2.2))])), (eu, .inr (0, [.long (jl (j1)), .long (jl (j2)), .long (jl (j3))])), (f, .inr (1, [.long (jl (o1)), .long (jl (o2)), .long (jl (o3))]))] := hD
    refine lv_lload_n hx hb d_G_raise_30 rfl (lv_at hl 2 rfl) ?_
    refine w_lconst (v := 0) hx hb rfl d_G_raise_31 ?_
    refine wl_cge hx hb hkx ⟨by decide, by decide⟩ d_G_raise_32 d_G_raise_33 (tgt := 41) (by decide) (fun h_12 => ?_) (fun h_12 => ?_)
    · omega
    · refine lv_lload_n hx hb d_G_raise_36 rfl (lv_at hl 2 rfl) ?_
      refine wl_neg hx hb d_G_raise_37 ?_
      refine lv_goto (tgt := 42) hx hb d_G_raise_38 (by decide) ?_
      refine lv_topl (fun yy hyy => ?_)
      obtain rfl : yy = jl (R0 : Int) := hyy.trans hRk
      refine lv_lstore (lv' := [(4, .long (jl (R0))), (0, .ref g), (1, .ref f), (2, .long (jl (kx)))]) hx hb d_G_raise_42 hl (by decide) rfl (fun ls hl => ?_)
      refine w_iconst hx hb d_G_raise_44 ?_
      refine lv_istore (lv' := [(6, .int (ji (0))), (4, .long (jl (R0))), (0, .ref g), (1, .ref f), (2, .long (jl (kx)))]) hx hb d_G_raise_45 hl (by decide) rfl (fun ls hl => ?_)
      refine lpn (I := fun n H locs ls => ∃ (i : Nat) (RR : Nat) (k1 : Nat) (k2 : Nat) (c1 : Int) (c2 : Int) (c3 : Int) (b1 : Int) (b2 : Int) (b3 : Int) (e1 : Int) (e2 : Int) (e3 : Int), 64 - i = n ∧ (i ≤ 64 ∧ RR < 2 ^ (64 - i) ∧ k1 + k2 * RR = R0 ∧ fm_v Dd (c1, c2, c3) ∧ fm_red Dd w (c1, c2, c3) ∧ fm_pw Dd s0 n0 F0 k1 (c1, c2, c3) ∧ fm_v Dd (b1, b2, b3) ∧ fm_red Dd w (b1, b2, b3) ∧ fm_pw Dd s0 n0 F0 k2 (b1, b2, b3) ∧ True) ∧ va_P D classes [(g, .inr (2, [.ref o, .ref wk, .ref st, .ref bs, .ref eu, .int (ji (Dd)), .int (ji (w))])), (o, .inr (1, [.long (jl (o1)), .long (jl (o2)), .long (jl (o3))])), (bs, .inr (1, [.long (jl (b1)), .long (jl (b2)), .long (jl (b3))])), (eu, .inr (0, [.long (jl (e1)), .long (jl (e2)), .long (jl (e3))])), (f, .inr (1, [.long (jl (c1)), .long (jl (c2)), .long (jl (c3))]))] H ∧ va_D A [(g, .inr (2, [.ref o, .ref wk, .ref st, .ref bs, .ref eu, .int (ji (Dd)), .int (ji (w))])), (o, .inr (1, [.long (jl (o1)), .long (jl (o2)), .long (jl (o3))])), (bs, .inr (1, [.long (jl (b1)), .long (jl (b2)), .long (jl (b3))])), (eu, .inr (0, [.long (jl (e1)), .long (jl (e2)), .long (jl (e3))])), (f, .inr (1, [.long (jl (c1)), .long (jl (c2)), .long (jl (c3))]))] ∧ va_S A s.heap H locs ∧ lv_has ls 7 [(0, .ref g), (1, .ref f), (2, .long (jl (kx))), (4, .long (jl (RR))), (6, .int (ji (i)))]) ?_ _ _ _ _ ⟨0, R0, 0, 1, o1, o2, o3, (u_10).1, (u_10).2.1, (u_10).2.2, j1, j2, j3, rfl, ⟨by omega, by simpa using hR1, by omega, hov, hone.2.1, (fm_eq_mg hg.1 hs hone.1 (fm_one_disc hs) hone.2.2.1).sy, hbs.1, hbs.2.1, hbs.2.2, trivial⟩, hP, hD, hS, lv_sub hl [2, 3, 4, 1, 0] rfl⟩
      rintro n H locs ls ⟨i, RR, k1, k2, c1, c2, c3, b1, b2, b3, e1, e2, e3, rfl, hi, hP, hD, hS, hl⟩ ih
      refine lv_iload hx hb d_G_raise_47 (lv_at hl 4 rfl) ?_
      refine w_bipush hx hb rfl d_G_raise_49 ?_
      refine wi_cge hx hb ⟨by omega, by omega⟩ ⟨by decide, by decide⟩ d_G_raise_51 (tgt := 103) (by decide) (fun h_13 => ?_) (fun h_13 => ?_)
      · obtain ⟨i1, i2, i3, i4, i5, i6, i7, i8, i9, i10⟩ := hi
        have hR00 : RR = 0 := by
          have e : 64 - i = 0 := by omega
          rw [e] at i2
          have : (2 : Nat) ^ 0 = 1 := rfl
          omega
        have hfin := hgoal _ (show fm_pw Dd s0 n0 F0 R0 (c1, c2, c3) by rw [← i3, hR00, Nat.mul_zero, Nat.add_zero]; exact i6)
        exact rt_v X hAe hS ((c1, c2, c3), (b1, b2, b3), e1, e2, e3) ⟨i4, i5, hfin⟩ hP d_G_raise_103
      · obtain ⟨i1, i2, i3, i4, i5, i6, i7, i8, i9, i10⟩ := hi
        have hRR : RR < 2 ^ 64 := Nat.lt_of_lt_of_le i2 (Nat.pow_le_pow_right (by decide) (by omega))
        refine lv_lload hx hb d_G_raise_54 (lv_at hl 3 rfl) ?_
        refine w_lconst (v := 0) hx hb rfl d_G_raise_56 ?_
        refine wl_ceqU hx hb (jl_u0 hRR) d_G_raise_57 d_G_raise_58 (tgt := 103) (by decide) (fun hz => ?_) (fun hz => ?_)
        · have hfin := hgoal _ (show fm_pw Dd s0 n0 F0 R0 (c1, c2, c3) by rw [← i3, hz, Nat.mul_zero, Nat.add_zero]; exact i6)
          exact rt_v X hAe hS ((c1, c2, c3), (b1, b2, b3), e1, e2, e3) ⟨i4, i5, hfin⟩ hP d_G_raise_103
        · have hRp : 0 < RR := Nat.pos_of_ne_zero hz
          refine lv_lload hx hb d_G_raise_61 (lv_at hl 3 rfl) ?_
          refine w_lconst (v := 1) hx hb rfl d_G_raise_63 ?_
          refine lv_land hx hb d_G_raise_64 ?_
          rw [jl_and1 hRR]
          refine w_lconst (v := 1) hx hb rfl d_G_raise_65 ?_
          refine wl_cne hx hb ⟨by omega, by omega⟩ ⟨by decide, by decide⟩ d_G_raise_66 d_G_raise_67 (tgt := 79) (by decide) (fun h_14 => ?_) (fun h_14 => ?_)
          · refine lv_aload_n hx hb d_G_raise_79 rfl (lv_at hl 0 rfl) ?_
            refine lv_aload_n hx hb d_G_raise_80 rfl (lv_at hl 0 rfl) ?_
            refine va_get (D := D) (ci := 2) (v := .ref bs) (C := R_G) (T := T_G) (N := 7) hx hb hts uw_G hown hK.1 hP 0 rfl rfl 3 (by decide) (hts _ fl_G_24) (fun _ h9 => h9) rfl d_G_raise_81 ?_
            refine lv_aload_n hx hb d_G_raise_84 rfl (lv_at hl 0 rfl) ?_
            refine va_get (D := D) (ci := 2) (v := .ref bs) (C := R_G) (T := T_G) (N := 7) hx hb hts uw_G hown hK.1 hP 0 rfl rfl 3 (by decide) (hts _ fl_G_24) (fun _ h9 => h9) rfl d_G_raise_85 ?_
            refine cl_v (rn_V (wc := [(g, .inr (2, [.ref o, .ref wk, .ref st, .ref bs, .ref eu, .int (ji (Dd)), .int (ji (w))])), (eu, .inr (0, [.long (jl (e1)), .long (jl (e2)), .long (jl (e3))])), (bs, .inr (1, [.long (jl (b1)), .long (jl (b2)), .long (jl (b3))]))]) (As := [.ref bs, .ref bs]) (rest := []) X hK (c_G_multiply1 l D cI cJ cF hg hs i7 i8 _) co_G_multiply in_G ml_G_135 im_G_multiply se_G_multiply 2 rfl (by decide +kernel) ⟨Nat.le_of_ble_eq_true rfl, Nat.le_of_ble_eq_true rfl⟩ hP hD [0, 3, 2] rfl (by decide) (q0 := 0) (ci := 2) rfl rfl rfl hl.1 rfl (Nat.le_of_ble_eq_true rfl) d_G_raise_88 ⟨Nat.zero_le _, Nat.zero_le _⟩) hP hD hS hA [0, 3, 2] rfl (by decide) (fun _ => rfl) (fun u_15 H locs hp hP hD hS => ?_)
            obtain ⟨mv2, mr2, mc2⟩ : fm_v Dd (u_15).1 ∧ fm_red Dd w (u_15).1 ∧ fm_cp s0 n0 (b1, b2, b3) (b1, b2, b3) (u_15).1 := hp
            have mp2 := fm_pw.add hg.1 hs _ _ i7 i9 i9 mc2
            have hP : va_P D classes [(g, .inr (2, [.ref o, .ref wk, .ref st, .ref bs, .ref eu, .int (ji (Dd)), .int (ji (w))])), (o, .inr (1, [.long (jl (o1)), .long (jl (o2)), .long (jl (o3))])), (bs, .inr (1, [.long (jl ((u_15).1.1)), .long (jl ((u_15).1.2.1)), .long (jl ((u_15).1.2.2))])), (eu, .inr (0, [.long (jl ((u_15).2.1)), .long (jl ((u_15).2.2.1)), .long (jl ((u_15).2.2.2))])), (f, .inr (1, [.long (jl (c1)), .long (jl (c2)), .long (jl (c3))]))] H := hP
            have hD : va_D A [(g, .inr (2, [.ref o, .ref wk, .ref st, .ref bs, .ref eu, .int (ji (Dd)), .int (ji (w))])), (o, .inr (1, [.long (jl (o1)), .long (jl (o2)), .long (jl (o3))])), (bs, .inr (1, [.long (jl ((u_15).1.1)), .long (jl ((u_15).1.2.1)), .long (jl ((u_15).1.2.2))])), (eu, .inr (0, [.long (jl ((u_15).2.1)), .long (jl ((u_15).2.2.1)), .long (jl ((u_15).2.2.2))])), (f, .inr (1, [.long (jl (c1)), .long (jl (c2)), .long (jl (c3))]))] := hD
            refine lv_lload hx hb d_G_raise_91 (lv_at hl 3 rfl) ?_
            refine w_iconst hx hb d_G_raise_93 ?_
            refine lv_lushr (v := jl ((RR / 2 : Nat) : Int)) hx hb d_G_raise_94 (jl_ushr1 hRR) ?_
            refine lv_lstore (lv' := [(4, .long (jl ((RR / 2 : Nat)))), (0, .ref g), (1, .ref f), (2, .long (jl (kx))), (6, .int (ji (i)))]) hx hb d_G_raise_95 hl (by decide) rfl (fun ls hl => ?_)
            refine lv_iinc (v := ji ((i) + (1))) (lv' := [(6, .int (ji ((i) + (1)))), (4, .long (jl ((RR / 2 : Nat)))), (0, .ref g), (1, .ref f), (2, .long (jl (kx)))]) hx hb d_G_raise_97 hl (k := 4) rfl (ji_add _ _) (by decide) rfl (fun ls hl => ?_)
            refine lv_goto (tgt := 47) hx hb d_G_raise_100 (by decide) ?_
            have i2n : RR / 2 < 2 ^ (64 - (i + 1)) := by
              have e : 64 - i = (64 - (i + 1)) + 1 := by omega
              rw [e, Nat.pow_succ] at i2
              omega
            exact ih _ _ _ _ (by omega) ⟨i + 1, RR / 2, k1, k2 + k2, c1, c2, c3, (u_15).1.1, (u_15).1.2.1, (u_15).1.2.2, (u_15).2.1, (u_15).2.2.1, (u_15).2.2.2, rfl, ⟨by omega, i2n, ((pw_ar i3).1 (by omega)), i4, i5, i6, mv2, mr2, mp2, trivial⟩, hP, hD, hS, lv_sub hl [2, 3, 4, 1, 0] rfl⟩
          · refine lv_aload_n hx hb d_G_raise_70 rfl (lv_at hl 0 rfl) ?_
            refine lv_aload_n hx hb d_G_raise_71 rfl (lv_at hl 1 rfl) ?_
            refine lv_aload_n hx hb d_G_raise_72 rfl (lv_at hl 0 rfl) ?_
            refine va_get (D := D) (ci := 2) (v := .ref bs) (C := R_G) (T := T_G) (N := 7) hx hb hts uw_G hown hK.1 hP 0 rfl rfl 3 (by decide) (hts _ fl_G_24) (fun _ h9 => h9) rfl d_G_raise_73 ?_
            refine cl_v (rn_V (wc := [(g, .inr (2, [.ref o, .ref wk, .ref st, .ref bs, .ref eu, .int (ji (Dd)), .int (ji (w))])), (eu, .inr (0, [.long (jl (e1)), .long (jl (e2)), .long (jl (e3))])), (f, .inr (1, [.long (jl (c1)), .long (jl (c2)), .long (jl (c3))])), (bs, .inr (1, [.long (jl (b1)), .long (jl (b2)), .long (jl (b3))]))]) (As := [.ref f, .ref bs]) (rest := []) X hK (c_G_multiply l D cI cJ cF hg hs i4 i5 i7 i8 _) co_G_multiply in_G ml_G_135 im_G_multiply se_G_multiply 2 rfl (by decide +kernel) ⟨Nat.le_of_ble_eq_true rfl, Nat.le_of_ble_eq_true rfl⟩ hP hD [0, 3, 4, 2] rfl (by decide) (q0 := 0) (ci := 2) rfl rfl rfl hl.1 rfl (Nat.le_of_ble_eq_true rfl) d_G_raise_76 ⟨Nat.zero_le _, Nat.zero_le _⟩) hP hD hS hA [0, 3, 4, 2] rfl (by decide) (fun _ => rfl) (fun u_16 H locs hp hP hD hS => ?_)
            obtain ⟨mv1, mr1, mc1⟩ : fm_v Dd (u_16).1 ∧ fm_red Dd w (u_16).1 ∧ fm_cp s0 n0 (c1, c2, c3) (b1, b2, b3) (u_16).1 := hp
            have mp1 := fm_pw.add hg.1 hs _ _ i4 i6 i9 mc1
            have hP : va_P D classes [(g, .inr (2, [.ref o, .ref wk, .ref st, .ref bs, .ref eu, .int (ji (Dd)), .int (ji (w))])), (o, .inr (1, [.long (jl (o1)), .long (jl (o2)), .long (jl (o3))])), (bs, .inr (1, [.long (jl (b1)), .long (jl (b2)), .long (jl (b3))])), (eu, .inr (0, [.long (jl ((u_16).2.1)), .long (jl ((u_16).2.2.1)), .long (jl ((u_16).2.2.2))])), (f, .inr (1, [.long (jl ((u_16).1.1)), .long (jl ((u_16).1.2.1)), .long (jl ((u_16).1.2.2))]))] H := hP
            have hD : va_D A [(g, .inr (2, [.ref o, .ref wk, .ref st, .ref bs, .ref eu, .int (ji (Dd)), .int (ji (w))])), (o, .inr (1, [.long (jl (o1)), .long (jl (o2)), .long (jl (o3))])), (bs, .inr (1, [.long (jl (b1)), .long (jl (b2)), .long (jl (b3))])), (eu, .inr (0, [.long (jl ((u_16).2.1)), .long (jl ((u_16).2.2.1)), .long (jl ((u_16).2.2.2))])), (f, .inr (1, [.long (jl ((u_16).1.1)), .long (jl ((u_16).1.2.1)), .long (jl ((u_16).1.2.2))]))] := hD
            refine lv_aload_n hx hb d_G_raise_79 rfl (lv_at hl 0 rfl) ?_
            refine lv_aload_n hx hb d_G_raise_80 rfl (lv_at hl 0 rfl) ?_
            refine va_get (D := D) (ci := 2) (v := .ref bs) (C := R_G) (T := T_G) (N := 7) hx hb hts uw_G hown hK.1 hP 0 rfl rfl 3 (by decide) (hts _ fl_G_24) (fun _ h9 => h9) rfl d_G_raise_81 ?_
            refine lv_aload_n hx hb d_G_raise_84 rfl (lv_at hl 0 rfl) ?_
            refine va_get (D := D) (ci := 2) (v := .ref bs) (C := R_G) (T := T_G) (N := 7) hx hb hts uw_G hown hK.1 hP 0 rfl rfl 3 (by decide) (hts _ fl_G_24) (fun _ h9 => h9) rfl d_G_raise_85 ?_
            refine cl_v (rn_V (wc := [(g, .inr (2, [.ref o, .ref wk, .ref st, .ref bs, .ref eu, .int (ji (Dd)), .int (ji (w))])), (eu, .inr (0, [.long (jl ((u_16).2.1)), .long (jl ((u_16).2.2.1)), .long (jl ((u_16).2.2.2))])), (bs, .inr (1, [.long (jl (b1)), .long (jl (b2)), .long (jl (b3))]))]) (As := [.ref bs, .ref bs]) (rest := []) X hK (c_G_multiply1 l D cI cJ cF hg hs i7 i8 _) co_G_multiply in_G ml_G_135 im_G_multiply se_G_multiply 2 rfl (by decide +kernel) ⟨Nat.le_of_ble_eq_true rfl, Nat.le_of_ble_eq_true rfl⟩ hP hD [0, 3, 2] rfl (by decide) (q0 := 0) (ci := 2) rfl rfl rfl hl.1 rfl (Nat.le_of_ble_eq_true rfl) d_G_raise_88 ⟨Nat.zero_le _, Nat.zero_le _⟩) hP hD hS hA [0, 3, 2] rfl (by decide) (fun _ => rfl) (fun u_17 H locs hp hP hD hS => ?_)
            obtain ⟨mv2, mr2, mc2⟩ : fm_v Dd (u_17).1 ∧ fm_red Dd w (u_17).1 ∧ fm_cp s0 n0 (b1, b2, b3) (b1, b2, b3) (u_17).1 := hp
            have mp2 := fm_pw.add hg.1 hs _ _ i7 i9 i9 mc2
            have hP : va_P D classes [(g, .inr (2, [.ref o, .ref wk, .ref st, .ref bs, .ref eu, .int (ji (Dd)), .int (ji (w))])), (o, .inr (1, [.long (jl (o1)), .long (jl (o2)), .long (jl (o3))])), (bs, .inr (1, [.long (jl ((u_17).1.1)), .long (jl ((u_17).1.2.1)), .long (jl ((u_17).1.2.2))])), (eu, .inr (0, [.long (jl ((u_17).2.1)), .long (jl ((u_17).2.2.1)), .long (jl ((u_17).2.2.2))])), (f, .inr (1, [.long (jl ((u_16).1.1)), .long (jl ((u_16).1.2.1)), .long (jl ((u_16).1.2.2))]))] H := hP
            have hD : va_D A [(g, .inr (2, [.ref o, .ref wk, .ref st, .ref bs, .ref eu, .int (ji (Dd)), .int (ji (w))])), (o, .inr (1, [.long (jl (o1)), .long (jl (o2)), .long (jl (o3))])), (bs, .inr (1, [.long (jl ((u_17).1.1)), .long (jl ((u_17).1.2.1)), .long (jl ((u_17).1.2.2))])), (eu, .inr (0, [.long (jl ((u_17).2.1)), .long (jl ((u_17).2.2.1)), .long (jl ((u_17).2.2.2))])), (f, .inr (1, [.long (jl ((u_16).1.1)), .long (jl ((u_16).1.2.1)), .long (jl ((u_16).1.2.2))]))] := hD
            refine lv_lload hx hb d_G_raise_91 (lv_at hl 3 rfl) ?_
            refine w_iconst hx hb d_G_raise_93 ?_
            refine lv_lushr (v := jl ((RR / 2 : Nat) : Int)) hx hb d_G_raise_94 (jl_ushr1 hRR) ?_
            refine lv_lstore (lv' := [(4, .long (jl ((RR / 2 : Nat)))), (0, .ref g), (1, .ref f), (2, .long (jl (kx))), (6, .int (ji (i)))]) hx hb d_G_raise_95 hl (by decide) rfl (fun ls hl => ?_)
            refine lv_iinc (v := ji ((i) + (1))) (lv' := [(6, .int (ji ((i) + (1)))), (4, .long (jl ((RR / 2 : Nat)))), (0, .ref g), (1, .ref f), (2, .long (jl (kx)))]) hx hb d_G_raise_97 hl (k := 4) rfl (ji_add _ _) (by decide) rfl (fun ls hl => ?_)
            refine lv_goto (tgt := 47) hx hb d_G_raise_100 (by decide) ?_
            have i2n : RR / 2 < 2 ^ (64 - (i + 1)) := by
              have e : 64 - i = (64 - (i + 1)) + 1 := by omega
              rw [e, Nat.pow_succ] at i2
              omega
            exact ih _ _ _ _ (by omega) ⟨i + 1, RR / 2, k1 + k2, k2 + k2, (u_16).1.1, (u_16).1.2.1, (u_16).1.2.2, (u_17).1.1, (u_17).1.2.1, (u_17).1.2.2, (u_17).2.1, (u_17).2.2.1, (u_17).2.2.2, rfl, ⟨by omega, i2n, ((pw_ar i3).2 (by omega)), mv1, mr1, mp1, mv2, mr2, mp2, trivial⟩, hP, hD, hS, lv_sub hl [2, 3, 4, 1, 0] rfl⟩
end
section
/-! Which forms can be taken; ONE at the start. -/
def ftk (D a b c : Int) : Prop := (b30 a ∧ b30 b ∧ b30 c) ∧ fm_v D (a, b, c)
theorem pr_gcd {a b c g1 x y g2 u v : Int} (E1 : eP a b g1 x y) (E2 : eP g1 c g2 u v) : fm_pr (a, b, c) ↔ g2 = 1 := by
  obtain ⟨p1, p2, p3, p4, -, -, -⟩ := E1
  obtain ⟨q1, q2, q3, q4, -, -, -⟩ := E2
  constructor
  · intro h
    have := fm_pr_of (e := g2) h (Int.dvd_trans q3 p3) (Int.dvd_trans q3 p4) q4
    have := Int.le_of_dvd (by decide) this
    rcases Int.lt_or_le 0 g2 with z | z
    · omega
    · have e : g2 = 0 := by omega
      subst e
      have := Int.zero_dvd.mp (fm_pr_of (e := 0) h (Int.dvd_trans q3 p3) (Int.dvd_trans q3 p4) q4)
      omega
  · intro h
    refine ⟨u * x, u * y, v, ?_⟩
    dsimp only
    rw [← h, ← q1, ← p1]
    grind
theorem tk_no {D a b c : Int} (h : b * b - 4 * a * c ≠ D) : ¬ fm_disc D (a, b, c) := by
  intro z
  unfold fm_disc at z
  dsimp only at z
  have : 4 * a * c = 4 * (a * c) := Int.mul_assoc _ _ _
  omega
theorem tk_yes {D a b c : Int} (h : b * b - 4 * a * c = D) : fm_disc D (a, b, c) := by
  unfold fm_disc
  dsimp only
  have : 4 * a * c = 4 * (a * c) := Int.mul_assoc _ _ _
  omega
theorem tk_bd {a b c : Int} (ha : b30 a) (hb : b30 b) (hc : b30 c) : jL (b * b - 4 * a * c) := by
  have h1 := ab_range (ab_prod hb.ab.2 hb.ab.2)
  have h2 := ab_range (ab_prod ha.ab.2 hc.ab.2)
  have : 4 * a * c = 4 * (a * c) := Int.mul_assoc _ _ _
  exact ⟨by omega, by omega⟩
theorem one_q {d : Int} (h : d % 4 ≤ 1) : (d % 2 * (d % 2) - d).tdiv (4 * 1) = -((d - d % 2) / 4) := by
  rcases Int.emod_two_eq d with z | z <;> rw [z]
  · exact td_e (by omega) (by decide)
  · exact td_e (by omega) (by decide)
end
section
set_option maxHeartbeats 4000000 in
set_option maxRecDepth 100000 in
theorem c_G_canTake (l : Launch) (D : va_G) (cI cJ cF : ClassId) {g o wk st bs eu : Nat} {Dd w : Int} {a b c j1 j2 j3 : Int} (hg : gD Dd w) (ha : jI a) (hb0 : jI b) (hc : jI c) : ∀ sz, Met l y_G_canTake (Cond.code y_G_canTake b_G_canTake 7 (some .boolean) :: wb) { frames := 2, cells := 0, slots := 0, locals := 62 } (va_Pc [.ref g, .long (jl (a)), .long (jl (b)), .long (jl (c))] (cpre D cI cJ cF [(g, .inr (2, [.ref o, .ref wk, .ref st, .ref bs, .ref eu, .int (ji (Dd)), .int (ji (w))])), (eu, .inr (0, [.long (jl (j1)), .long (jl (j2)), .long (jl (j3))]))] sz)) (va_Qi (fun r (u : Int × Int × Int) => ∃ t : Int, r = ji t ∧ ((t = 1 ∧ (ftk Dd a b c)) ∨ (t = 0 ∧ ¬ (ftk Dd a b c)))) (fun (u : Int × Int × Int) t => va_P D classes [(g, .inr (2, [.ref o, .ref wk, .ref st, .ref bs, .ref eu, .int (ji (Dd)), .int (ji (w))])), (eu, .inr (0, [.long (jl (u.1)), .long (jl (u.2.1)), .long (jl (u.2.2))]))] t.heap) (va_A [(g, .inr (2, [.ref o, .ref wk, .ref st, .ref bs, .ref eu, .int (ji (Dd)), .int (ji (w))])), (eu, .inr (0, [.long (jl (j1)), .long (jl (j2)), .long (jl (j3))]))] sz)) 0 0 (va_A [(g, .inr (2, [.ref o, .ref wk, .ref st, .ref bs, .ref eu, .int (ji (Dd)), .int (ji (w))])), (eu, .inr (0, [.long (jl (j1)), .long (jl (j2)), .long (jl (j3))]))] sz) := by
  refine c_of (Qc := fun sz => va_Qi (fun r (u : Int × Int × Int) => ∃ t : Int, r = ji t ∧ ((t = 1 ∧ (ftk Dd a b c)) ∨ (t = 0 ∧ ¬ (ftk Dd a b c)))) (fun (u : Int × Int × Int) t => va_P D classes [(g, .inr (2, [.ref o, .ref wk, .ref st, .ref bs, .ref eu, .int (ji (Dd)), .int (ji (w))])), (eu, .inr (0, [.long (jl (u.1)), .long (jl (u.2.1)), .long (jl (u.2.2))]))] t.heap) (va_A [(g, .inr (2, [.ref o, .ref wk, .ref st, .ref bs, .ref eu, .int (ji (Dd)), .int (ji (w))])), (eu, .inr (0, [.long (jl (j1)), .long (jl (j2)), .long (jl (j3))]))] sz)) (by decide +kernel) co_G_canTake (Nat.le_of_ble_eq_true rfl) ?_
  intro pq eq s mq below meth cq A X hK hP hD hS hA hAe ls hl
  obtain ⟨hx, hb, hml, hown, hr, hlocks, hts⟩ := id X
  have hl : lv_has ls 7 [(0, .ref g), (1, .long (jl (a))), (3, .long (jl (b))), (5, .long (jl (c)))] := hl
  have zd1 := hg.2.1
  have zd2 := hg.2.2.1
  have ya := ha.1
  have ya2 := ha.2
  have yb := hb0.1
  have yb2 := hb0.2
  have yc := hc.1
  have yc2 := hc.2
  refine lv_lload_n hx hb d_G_canTake_0 rfl (lv_at hl 1 rfl) ?_
  refine cl_i (rn_S (wc := []) (As := [.long (jl (a))]) (rest := []) X hK (c_G_isCoefficient l D cI cJ cF ⟨by omega, by omega⟩ _) co_G_isCoefficient in_G ml_G_57 st_G_isCoefficient 1 rfl (by decide +kernel) ⟨Nat.le_of_ble_eq_true rfl, Nat.le_of_ble_eq_true rfl⟩ hP hD [] rfl (by decide) hl.1 rfl (Nat.le_of_ble_eq_true rfl) d_G_canTake_1 ⟨Nat.zero_le _, Nat.zero_le _⟩) hP hD hS hA [] rfl (by decide) (fun _ => rfl) (fun r_1 u_2 H locs hp hP hD hS => ?_)
  obtain ⟨c1, rfl, hc1⟩ := hp
  have hP : va_P D classes [(g, .inr (2, [.ref o, .ref wk, .ref st, .ref bs, .ref eu, .int (ji (Dd)), .int (ji (w))])), (eu, .inr (0, [.long (jl (j1)), .long (jl (j2)), .long (jl (j3))]))] H := hP
  have hD : va_D A [(g, .inr (2, [.ref o, .ref wk, .ref st, .ref bs, .ref eu, .int (ji (Dd)), .int (ji (w))])), (eu, .inr (0, [.long (jl (j1)), .long (jl (j2)), .long (jl (j3))]))] := hD
  refine wi_zeq hx hb ⟨by omega, by omega⟩ d_G_canTake_4 (tgt := 22) (by decide) (fun h_3 => ?_) (fun h_3 => ?_)
  · refine w_iconst hx hb d_G_canTake_22 ?_
    exact rt_z X hAe hS (j1, j2, j3) rfl ⟨0, rfl, Or.inr ⟨rfl, fun z => by have z1 := z.1; obtain ⟨⟨y1, y2⟩, ⟨y3, y4⟩, ⟨y5, y6⟩⟩ := z1; omega⟩⟩ hP d_G_canTake_23
  · refine lv_lload_n hx hb d_G_canTake_7 rfl (lv_at hl 2 rfl) ?_
    refine cl_i (rn_S (wc := []) (As := [.long (jl (b))]) (rest := []) X hK (c_G_isCoefficient l D cI cJ cF ⟨by omega, by omega⟩ _) co_G_isCoefficient in_G ml_G_57 st_G_isCoefficient 1 rfl (by decide +kernel) ⟨Nat.le_of_ble_eq_true rfl, Nat.le_of_ble_eq_true rfl⟩ hP hD [] rfl (by decide) hl.1 rfl (Nat.le_of_ble_eq_true rfl) d_G_canTake_8 ⟨Nat.zero_le _, Nat.zero_le _⟩) hP hD hS hA [] rfl (by decide) (fun _ => rfl) (fun r_4 u_5 H locs hp hP hD hS => ?_)
    obtain ⟨c2, rfl, hc2⟩ := hp
    have hP : va_P D classes [(g, .inr (2, [.ref o, .ref wk, .ref st, .ref bs, .ref eu, .int (ji (Dd)), .int (ji (w))])), (eu, .inr (0, [.long (jl (j1)), .long (jl (j2)), .long (jl (j3))]))] H := hP
    have hD : va_D A [(g, .inr (2, [.ref o, .ref wk, .ref st, .ref bs, .ref eu, .int (ji (Dd)), .int (ji (w))])), (eu, .inr (0, [.long (jl (j1)), .long (jl (j2)), .long (jl (j3))]))] := hD
    refine wi_zeq hx hb ⟨by omega, by omega⟩ d_G_canTake_11 (tgt := 22) (by decide) (fun h_6 => ?_) (fun h_6 => ?_)
    · refine w_iconst hx hb d_G_canTake_22 ?_
      exact rt_z X hAe hS (j1, j2, j3) rfl ⟨0, rfl, Or.inr ⟨rfl, fun z => by have z1 := z.1; obtain ⟨⟨y1, y2⟩, ⟨y3, y4⟩, ⟨y5, y6⟩⟩ := z1; omega⟩⟩ hP d_G_canTake_23
    · refine lv_lload hx hb d_G_canTake_14 (lv_at hl 3 rfl) ?_
      refine cl_i (rn_S (wc := []) (As := [.long (jl (c))]) (rest := []) X hK (c_G_isCoefficient l D cI cJ cF ⟨by omega, by omega⟩ _) co_G_isCoefficient in_G ml_G_57 st_G_isCoefficient 1 rfl (by decide +kernel) ⟨Nat.le_of_ble_eq_true rfl, Nat.le_of_ble_eq_true rfl⟩ hP hD [] rfl (by decide) hl.1 rfl (Nat.le_of_ble_eq_true rfl) d_G_canTake_16 ⟨Nat.zero_le _, Nat.zero_le _⟩) hP hD hS hA [] rfl (by decide) (fun _ => rfl) (fun r_7 u_8 H locs hp hP hD hS => ?_)
      obtain ⟨c3, rfl, hc3⟩ := hp
      have hP : va_P D classes [(g, .inr (2, [.ref o, .ref wk, .ref st, .ref bs, .ref eu, .int (ji (Dd)), .int (ji (w))])), (eu, .inr (0, [.long (jl (j1)), .long (jl (j2)), .long (jl (j3))]))] H := hP
      have hD : va_D A [(g, .inr (2, [.ref o, .ref wk, .ref st, .ref bs, .ref eu, .int (ji (Dd)), .int (ji (w))])), (eu, .inr (0, [.long (jl (j1)), .long (jl (j2)), .long (jl (j3))]))] := hD
      refine wi_zne hx hb ⟨by omega, by omega⟩ d_G_canTake_19 (tgt := 24) (by decide) (fun h_9 => ?_) (fun h_9 => ?_)
      · have hAA : b30 a := by rcases hc1 with z | z; exact z.2; omega
        have hBB : b30 b := by rcases hc2 with z | z; exact z.2; omega
        have hCC : b30 c := by rcases hc3 with z | z; exact z.2; omega
        refine lv_lload_n hx hb d_G_canTake_24 rfl (lv_at hl 2 rfl) ?_
        refine lv_lload_n hx hb d_G_canTake_25 rfl (lv_at hl 2 rfl) ?_
        refine wl_mul hx hb d_G_canTake_26 ?_
        refine w_ldc2 (v := 4) (n := 4) hx hb (by decide) hown (hts _ kc_G_61) d_G_canTake_27 ?_
        refine lv_lload_n hx hb d_G_canTake_30 rfl (lv_at hl 1 rfl) ?_
        refine wl_mul hx hb d_G_canTake_31 ?_
        refine lv_lload hx hb d_G_canTake_32 (lv_at hl 3 rfl) ?_
        refine wl_mul hx hb d_G_canTake_34 ?_
        refine wl_sub hx hb d_G_canTake_35 ?_
        refine lv_aload_n hx hb d_G_canTake_36 rfl (lv_at hl 0 rfl) ?_
        refine va_get (D := D) (ci := 2) (v := .int (ji (Dd))) (C := R_G) (T := T_G) (N := 7) hx hb hts uw_G hown hK.1 hP 0 rfl rfl 5 (by decide) (hts _ fl_G_34) (fun _ h9 => h9) rfl d_G_canTake_37 ?_
        refine w_i2l hx hb hg.jD d_G_canTake_40 ?_
        refine wl_cne hx hb (tk_bd hAA hBB hCC) ⟨by omega, by omega⟩ d_G_canTake_41 d_G_canTake_42 (tgt := 58) (by decide) (fun h_10 => ?_) (fun h_10 => ?_)
        · have hnd := tk_no h_10
          refine w_iconst hx hb d_G_canTake_58 ?_
          exact rt_z X hAe hS (j1, j2, j3) rfl ⟨0, rfl, Or.inr ⟨rfl, fun z => by first | exact hnd z.2.1 | (have := z.2.2.2 (by omega); dsimp only at this; omega)⟩⟩ hP d_G_canTake_59
        · have hdd := tk_yes h_10
          refine lv_aload_n hx hb d_G_canTake_45 rfl (lv_at hl 0 rfl) ?_
          refine va_get (D := D) (ci := 2) (v := .int (ji (Dd))) (C := R_G) (T := T_G) (N := 7) hx hb hts uw_G hown hK.1 hP 0 rfl rfl 5 (by decide) (hts _ fl_G_34) (fun _ h9 => h9) rfl d_G_canTake_46 ?_
          refine wi_zge hx hb hg.jD d_G_canTake_49 (tgt := 60) (by decide) (fun h_11 => ?_) (fun h_11 => ?_)
          · refine lv_aload_n hx hb d_G_canTake_60 rfl (lv_at hl 0 rfl) ?_
            refine va_get (D := D) (ci := 2) (v := .ref eu) (C := R_G) (T := T_G) (N := 7) hx hb hts uw_G hown hK.1 hP 0 rfl rfl 4 (by decide) (hts _ fl_G_30) (fun _ h9 => h9) rfl d_G_canTake_61 ?_
            refine lv_lload_n hx hb d_G_canTake_64 rfl (lv_at hl 1 rfl) ?_
            refine lv_lload_n hx hb d_G_canTake_65 rfl (lv_at hl 2 rfl) ?_
            refine cl_v (rn_VN (wc := [(eu, .inr (0, [.long (jl (j1)), .long (jl (j2)), .long (jl (j3))]))]) (As := [.long (jl (a)), .long (jl (b))]) (rest := []) X hK (c_E_solve l D cI cJ cF hAA hBB _) co_E_solve in_E nm_G_63 im_E_solve se_E_solve 2 rfl (by decide +kernel) ⟨Nat.le_of_ble_eq_true rfl, Nat.le_of_ble_eq_true rfl⟩ hP hD [1] rfl (by decide) (q0 := 0) (ci := 0) rfl rfl rfl hl.1 rfl (Nat.le_of_ble_eq_true rfl) d_G_canTake_66 ⟨Nat.zero_le _, Nat.zero_le _⟩) hP hD hS hA [1] rfl (by decide) (fun _ => rfl) (fun u_12 H locs hp hP hD hS => ?_)
            obtain ⟨g1, x1, y1⟩ := u_12
            have E1 : eP a b g1 x1 y1 := hp
            have hP : va_P D classes [(g, .inr (2, [.ref o, .ref wk, .ref st, .ref bs, .ref eu, .int (ji (Dd)), .int (ji (w))])), (eu, .inr (0, [.long (jl (g1)), .long (jl (x1)), .long (jl (y1))]))] H := hP
            have hD : va_D A [(g, .inr (2, [.ref o, .ref wk, .ref st, .ref bs, .ref eu, .int (ji (Dd)), .int (ji (w))])), (eu, .inr (0, [.long (jl (g1)), .long (jl (x1)), .long (jl (y1))]))] := hD
            refine lv_aload_n hx hb d_G_canTake_69 rfl (lv_at hl 0 rfl) ?_
            refine va_get (D := D) (ci := 2) (v := .ref eu) (C := R_G) (T := T_G) (N := 7) hx hb hts uw_G hown hK.1 hP 0 rfl rfl 4 (by decide) (hts _ fl_G_30) (fun _ h9 => h9) rfl d_G_canTake_70 ?_
            refine lv_aload_n hx hb d_G_canTake_73 rfl (lv_at hl 0 rfl) ?_
            refine va_get (D := D) (ci := 2) (v := .ref eu) (C := R_G) (T := T_G) (N := 7) hx hb hts uw_G hown hK.1 hP 0 rfl rfl 4 (by decide) (hts _ fl_G_30) (fun _ h9 => h9) rfl d_G_canTake_74 ?_
            refine va_getN (D := D) (ci := 0) (v := .long (jl (g1))) (C := R_E) (T := T_E) (N := 3) hx hb hts uw_E hown hK.1 hP 1 rfl rfl 0 (by decide) ((hK.2 _ nf_G_67).use rfl) (fun _ h9 => h9) rfl d_G_canTake_77 ?_
            refine lv_lload hx hb d_G_canTake_80 (lv_at hl 3 rfl) ?_
            refine cl_v (rn_VN (wc := [(eu, .inr (0, [.long (jl (g1)), .long (jl (x1)), .long (jl (y1))]))]) (As := [.long (jl (g1)), .long (jl (c))]) (rest := []) X hK (c_E_solve l D cI cJ cF E1.2.2.2.2.1 hCC _) co_E_solve in_E nm_G_63 im_E_solve se_E_solve 2 rfl (by decide +kernel) ⟨Nat.le_of_ble_eq_true rfl, Nat.le_of_ble_eq_true rfl⟩ hP hD [1] rfl (by decide) (q0 := 0) (ci := 0) rfl rfl rfl hl.1 rfl (Nat.le_of_ble_eq_true rfl) d_G_canTake_82 ⟨Nat.zero_le _, Nat.zero_le _⟩) hP hD hS hA [1] rfl (by decide) (fun _ => rfl) (fun u_13 H locs hp hP hD hS => ?_)
            obtain ⟨g2, x2, y2⟩ := u_13
            have E2 : eP g1 c g2 x2 y2 := hp
            have hP : va_P D classes [(g, .inr (2, [.ref o, .ref wk, .ref st, .ref bs, .ref eu, .int (ji (Dd)), .int (ji (w))])), (eu, .inr (0, [.long (jl (g2)), .long (jl (x2)), .long (jl (y2))]))] H := hP
            have hD : va_D A [(g, .inr (2, [.ref o, .ref wk, .ref st, .ref bs, .ref eu, .int (ji (Dd)), .int (ji (w))])), (eu, .inr (0, [.long (jl (g2)), .long (jl (x2)), .long (jl (y2))]))] := hD
            refine lv_aload_n hx hb d_G_canTake_85 rfl (lv_at hl 0 rfl) ?_
            refine va_get (D := D) (ci := 2) (v := .ref eu) (C := R_G) (T := T_G) (N := 7) hx hb hts uw_G hown hK.1 hP 0 rfl rfl 4 (by decide) (hts _ fl_G_30) (fun _ h9 => h9) rfl d_G_canTake_86 ?_
            refine va_getN (D := D) (ci := 0) (v := .long (jl (g2))) (C := R_E) (T := T_E) (N := 3) hx hb hts uw_E hown hK.1 hP 1 rfl rfl 0 (by decide) ((hK.2 _ nf_G_67).use rfl) (fun _ h9 => h9) rfl d_G_canTake_89 ?_
            refine w_lconst (v := 1) hx hb rfl d_G_canTake_92 ?_
            refine wl_cne hx hb E2.2.2.2.2.1.j ⟨by decide, by decide⟩ d_G_canTake_93 d_G_canTake_94 (tgt := 101) (by decide) (fun h_14 => ?_) (fun h_14 => ?_)
            · refine w_iconst hx hb d_G_canTake_101 ?_
              exact rt_z X hAe hS (g2, x2, y2) rfl ⟨0, rfl, Or.inr ⟨rfl, fun z => by have := (pr_gcd E1 E2).mp z.2.2.1; omega⟩⟩ hP d_G_canTake_102
            · refine w_iconst hx hb d_G_canTake_97 ?_
              refine lv_goto (tgt := 102) hx hb d_G_canTake_98 (by decide) ?_
              exact rt_z X hAe hS (g2, x2, y2) rfl ⟨1, rfl, Or.inl ⟨rfl, ⟨hAA, hBB, hCC⟩, hdd, (pr_gcd E1 E2).mpr (by omega), fun q => by show 0 < a; omega⟩⟩ hP d_G_canTake_102
          · refine lv_lload_n hx hb d_G_canTake_52 rfl (lv_at hl 1 rfl) ?_
            refine w_lconst (v := 0) hx hb rfl d_G_canTake_53 ?_
            refine wl_cgt hx hb hAA.j ⟨by decide, by decide⟩ d_G_canTake_54 d_G_canTake_55 (tgt := 60) (by decide) (fun h_15 => ?_) (fun h_15 => ?_)
            · refine lv_aload_n hx hb d_G_canTake_60 rfl (lv_at hl 0 rfl) ?_
              refine va_get (D := D) (ci := 2) (v := .ref eu) (C := R_G) (T := T_G) (N := 7) hx hb hts uw_G hown hK.1 hP 0 rfl rfl 4 (by decide) (hts _ fl_G_30) (fun _ h9 => h9) rfl d_G_canTake_61 ?_
              refine lv_lload_n hx hb d_G_canTake_64 rfl (lv_at hl 1 rfl) ?_
              refine lv_lload_n hx hb d_G_canTake_65 rfl (lv_at hl 2 rfl) ?_
              refine cl_v (rn_VN (wc := [(eu, .inr (0, [.long (jl (j1)), .long (jl (j2)), .long (jl (j3))]))]) (As := [.long (jl (a)), .long (jl (b))]) (rest := []) X hK (c_E_solve l D cI cJ cF hAA hBB _) co_E_solve in_E nm_G_63 im_E_solve se_E_solve 2 rfl (by decide +kernel) ⟨Nat.le_of_ble_eq_true rfl, Nat.le_of_ble_eq_true rfl⟩ hP hD [1] rfl (by decide) (q0 := 0) (ci := 0) rfl rfl rfl hl.1 rfl (Nat.le_of_ble_eq_true rfl) d_G_canTake_66 ⟨Nat.zero_le _, Nat.zero_le _⟩) hP hD hS hA [1] rfl (by decide) (fun _ => rfl) (fun u_16 H locs hp hP hD hS => ?_)
              obtain ⟨g1, x1, y1⟩ := u_16
              have E1 : eP a b g1 x1 y1 := hp
              have hP : va_P D classes [(g, .inr (2, [.ref o, .ref wk, .ref st, .ref bs, .ref eu, .int (ji (Dd)), .int (ji (w))])), (eu, .inr (0, [.long (jl (g1)), .long (jl (x1)), .long (jl (y1))]))] H := hP
              have hD : va_D A [(g, .inr (2, [.ref o, .ref wk, .ref st, .ref bs, .ref eu, .int (ji (Dd)), .int (ji (w))])), (eu, .inr (0, [.long (jl (g1)), .long (jl (x1)), .long (jl (y1))]))] := hD
              refine lv_aload_n hx hb d_G_canTake_69 rfl (lv_at hl 0 rfl) ?_
              refine va_get (D := D) (ci := 2) (v := .ref eu) (C := R_G) (T := T_G) (N := 7) hx hb hts uw_G hown hK.1 hP 0 rfl rfl 4 (by decide) (hts _ fl_G_30) (fun _ h9 => h9) rfl d_G_canTake_70 ?_
              refine lv_aload_n hx hb d_G_canTake_73 rfl (lv_at hl 0 rfl) ?_
              refine va_get (D := D) (ci := 2) (v := .ref eu) (C := R_G) (T := T_G) (N := 7) hx hb hts uw_G hown hK.1 hP 0 rfl rfl 4 (by decide) (hts _ fl_G_30) (fun _ h9 => h9) rfl d_G_canTake_74 ?_
              refine va_getN (D := D) (ci := 0) (v := .long (jl (g1))) (C := R_E) (T := T_E) (N := 3) hx hb hts uw_E hown hK.1 hP 1 rfl rfl 0 (by decide) ((hK.2 _ nf_G_67).use rfl) (fun _ h9 => h9) rfl d_G_canTake_77 ?_
              refine lv_lload hx hb d_G_canTake_80 (lv_at hl 3 rfl) ?_
              refine cl_v (rn_VN (wc := [(eu, .inr (0, [.long (jl (g1)), .long (jl (x1)), .long (jl (y1))]))]) (As := [.long (jl (g1)), .long (jl (c))]) (rest := []) X hK (c_E_solve l D cI cJ cF E1.2.2.2.2.1 hCC _) co_E_solve in_E nm_G_63 im_E_solve se_E_solve 2 rfl (by decide +kernel) ⟨Nat.le_of_ble_eq_true rfl, Nat.le_of_ble_eq_true rfl⟩ hP hD [1] rfl (by decide) (q0 := 0) (ci := 0) rfl rfl rfl hl.1 rfl (Nat.le_of_ble_eq_true rfl) d_G_canTake_82 ⟨Nat.zero_le _, Nat.zero_le _⟩) hP hD hS hA [1] rfl (by decide) (fun _ => rfl) (fun u_17 H locs hp hP hD hS => ?_)
              obtain ⟨g2, x2, y2⟩ := u_17
              have E2 : eP g1 c g2 x2 y2 := hp
              have hP : va_P D classes [(g, .inr (2, [.ref o, .ref wk, .ref st, .ref bs, .ref eu, .int (ji (Dd)), .int (ji (w))])), (eu, .inr (0, [.long (jl (g2)), .long (jl (x2)), .long (jl (y2))]))] H := hP
              have hD : va_D A [(g, .inr (2, [.ref o, .ref wk, .ref st, .ref bs, .ref eu, .int (ji (Dd)), .int (ji (w))])), (eu, .inr (0, [.long (jl (g2)), .long (jl (x2)), .long (jl (y2))]))] := hD
              refine lv_aload_n hx hb d_G_canTake_85 rfl (lv_at hl 0 rfl) ?_
              refine va_get (D := D) (ci := 2) (v := .ref eu) (C := R_G) (T := T_G) (N := 7) hx hb hts uw_G hown hK.1 hP 0 rfl rfl 4 (by decide) (hts _ fl_G_30) (fun _ h9 => h9) rfl d_G_canTake_86 ?_
              refine va_getN (D := D) (ci := 0) (v := .long (jl (g2))) (C := R_E) (T := T_E) (N := 3) hx hb hts uw_E hown hK.1 hP 1 rfl rfl 0 (by decide) ((hK.2 _ nf_G_67).use rfl) (fun _ h9 => h9) rfl d_G_canTake_89 ?_
              refine w_lconst (v := 1) hx hb rfl d_G_canTake_92 ?_
              refine wl_cne hx hb E2.2.2.2.2.1.j ⟨by decide, by decide⟩ d_G_canTake_93 d_G_canTake_94 (tgt := 101) (by decide) (fun h_18 => ?_) (fun h_18 => ?_)
              · refine w_iconst hx hb d_G_canTake_101 ?_
                exact rt_z X hAe hS (g2, x2, y2) rfl ⟨0, rfl, Or.inr ⟨rfl, fun z => by have := (pr_gcd E1 E2).mp z.2.2.1; omega⟩⟩ hP d_G_canTake_102
              · refine w_iconst hx hb d_G_canTake_97 ?_
                refine lv_goto (tgt := 102) hx hb d_G_canTake_98 (by decide) ?_
                exact rt_z X hAe hS (g2, x2, y2) rfl ⟨1, rfl, Or.inl ⟨rfl, ⟨hAA, hBB, hCC⟩, hdd, (pr_gcd E1 E2).mpr (by omega), fun q => by show 0 < a; omega⟩⟩ hP d_G_canTake_102
            · refine w_iconst hx hb d_G_canTake_58 ?_
              exact rt_z X hAe hS (j1, j2, j3) rfl ⟨0, rfl, Or.inr ⟨rfl, fun z => by first | exact hnd z.2.1 | (have := z.2.2.2 (by omega); dsimp only at this; omega)⟩⟩ hP d_G_canTake_59
      · refine w_iconst hx hb d_G_canTake_22 ?_
        exact rt_z X hAe hS (j1, j2, j3) rfl ⟨0, rfl, Or.inr ⟨rfl, fun z => by have z1 := z.1; obtain ⟨⟨y1, y2⟩, ⟨y3, y4⟩, ⟨y5, y6⟩⟩ := z1; omega⟩⟩ hP d_G_canTake_23

set_option maxHeartbeats 4000000 in
set_option maxRecDepth 100000 in
theorem c_G_settle (l : Launch) (D : va_G) (cI cJ cF : ClassId) {g o wk st bs eu : Nat} {D0 w0 d o1 o2 o3 x1 x2 x3 y1 y2 y3 : Int} (hd : jI d) (hdv : dV d) : ∀ sz, Met l y_G_settle (Cond.code y_G_settle b_G_settle 2 none :: wb) { frames := 4, cells := 0, slots := 0, locals := 100 } (va_Pc [.ref g, .int (ji (d))] (cpre D cI cJ cF [(g, .inr (2, [.ref o, .ref wk, .ref st, .ref bs, .ref eu, .int (ji (D0)), .int (ji (w0))])), (o, .inr (1, [.long (jl (o1)), .long (jl (o2)), .long (jl (o3))])), (wk, .inr (1, [.long (jl (x1)), .long (jl (x2)), .long (jl (x3))])), (st, .inr (1, [.long (jl (y1)), .long (jl (y2)), .long (jl (y3))]))] sz)) (va_Qv (fun (u : Int × fm_F × fm_F × fm_F) => gD d u.1 ∧ fm_nm d u.1 u.2.1 (fm_one (d % 2) ((d - d % 2) / 4))) (fun (u : Int × fm_F × fm_F × fm_F) t => va_P D classes [(g, .inr (2, [.ref o, .ref wk, .ref st, .ref bs, .ref eu, .int (ji (d)), .int (ji (u.1))])), (o, .inr (1, [.long (jl ((u.2.1).1)), .long (jl ((u.2.1).2.1)), .long (jl ((u.2.1).2.2))])), (wk, .inr (1, [.long (jl ((u.2.2.1).1)), .long (jl ((u.2.2.1).2.1)), .long (jl ((u.2.2.1).2.2))])), (st, .inr (1, [.long (jl ((u.2.2.2).1)), .long (jl ((u.2.2.2).2.1)), .long (jl ((u.2.2.2).2.2))]))] t.heap) (va_A [(g, .inr (2, [.ref o, .ref wk, .ref st, .ref bs, .ref eu, .int (ji (D0)), .int (ji (w0))])), (o, .inr (1, [.long (jl (o1)), .long (jl (o2)), .long (jl (o3))])), (wk, .inr (1, [.long (jl (x1)), .long (jl (x2)), .long (jl (x3))])), (st, .inr (1, [.long (jl (y1)), .long (jl (y2)), .long (jl (y3))]))] sz)) 0 0 (va_A [(g, .inr (2, [.ref o, .ref wk, .ref st, .ref bs, .ref eu, .int (ji (D0)), .int (ji (w0))])), (o, .inr (1, [.long (jl (o1)), .long (jl (o2)), .long (jl (o3))])), (wk, .inr (1, [.long (jl (x1)), .long (jl (x2)), .long (jl (x3))])), (st, .inr (1, [.long (jl (y1)), .long (jl (y2)), .long (jl (y3))]))] sz) := by
  refine c_of (Qc := fun sz => va_Qv (fun (u : Int × fm_F × fm_F × fm_F) => gD d u.1 ∧ fm_nm d u.1 u.2.1 (fm_one (d % 2) ((d - d % 2) / 4))) (fun (u : Int × fm_F × fm_F × fm_F) t => va_P D classes [(g, .inr (2, [.ref o, .ref wk, .ref st, .ref bs, .ref eu, .int (ji (d)), .int (ji (u.1))])), (o, .inr (1, [.long (jl ((u.2.1).1)), .long (jl ((u.2.1).2.1)), .long (jl ((u.2.1).2.2))])), (wk, .inr (1, [.long (jl ((u.2.2.1).1)), .long (jl ((u.2.2.1).2.1)), .long (jl ((u.2.2.1).2.2))])), (st, .inr (1, [.long (jl ((u.2.2.2).1)), .long (jl ((u.2.2.2).2.1)), .long (jl ((u.2.2.2).2.2))]))] t.heap) (va_A [(g, .inr (2, [.ref o, .ref wk, .ref st, .ref bs, .ref eu, .int (ji (D0)), .int (ji (w0))])), (o, .inr (1, [.long (jl (o1)), .long (jl (o2)), .long (jl (o3))])), (wk, .inr (1, [.long (jl (x1)), .long (jl (x2)), .long (jl (x3))])), (st, .inr (1, [.long (jl (y1)), .long (jl (y2)), .long (jl (y3))]))] sz)) (by decide +kernel) co_G_settle (Nat.le_of_ble_eq_true rfl) ?_
  intro pq eq s mq below meth cq A X hK hP hD hS hA hAe ls hl
  obtain ⟨hx, hb, hml, hown, hr, hlocks, hts⟩ := id X
  have hl : lv_has ls 2 [(0, .ref g), (1, .int (ji (d)))] := hl
  have hsn := sn_of hdv.2.2.1
  have hod := fm_one_disc hsn
  unfold fm_one at hod
  have yd1 := hdv.1
  have yd2 := hdv.2.1
  refine lv_aload_n hx hb d_G_settle_0 rfl (lv_at hl 0 rfl) ?_
  refine lv_iload_n hx hb d_G_settle_1 rfl (lv_at hl 1 rfl) ?_
  refine va_put (D := D) (ci := 2) (v := .int (ji (d))) (ty := .int) (C := R_G) (T := T_G) (N := 7) hx hb hts uw_G ty_G ty_G_ok nm_G hown hK.1 hP hD hS 0 rfl rfl 5 (by decide) (hts _ fl_G_34) (fun _ h9 => h9) rfl (by decide +kernel) rfl rfl (Nat.le_of_ble_eq_true rfl) d_G_settle_2 (fun H locs hP hD hS => ?_)
  have hP : va_P D classes [(g, .inr (2, [.ref o, .ref wk, .ref st, .ref bs, .ref eu, .int (ji (d)), .int (ji (w0))])), (o, .inr (1, [.long (jl (o1)), .long (jl (o2)), .long (jl (o3))])), (wk, .inr (1, [.long (jl (x1)), .long (jl (x2)), .long (jl (x3))])), (st, .inr (1, [.long (jl (y1)), .long (jl (y2)), .long (jl (y3))]))] H := hP
  have hD : va_D A [(g, .inr (2, [.ref o, .ref wk, .ref st, .ref bs, .ref eu, .int (ji (d)), .int (ji (w0))])), (o, .inr (1, [.long (jl (o1)), .long (jl (o2)), .long (jl (o3))])), (wk, .inr (1, [.long (jl (x1)), .long (jl (x2)), .long (jl (x3))])), (st, .inr (1, [.long (jl (y1)), .long (jl (y2)), .long (jl (y3))]))] := hD
  refine lv_aload_n hx hb d_G_settle_5 rfl (lv_at hl 0 rfl) ?_
  refine lv_iload_n hx hb d_G_settle_6 rfl (lv_at hl 1 rfl) ?_
  refine cl_i (rn_SN (wc := []) (As := [.int (ji (d))]) (rest := [.ref g]) X hK (c_X_wholeRoot l D cI cJ cF hd hdv.2.1 _) co_X_wholeRoot in_X nm_G_38 st_X_wholeRoot 1 rfl (by decide +kernel) ⟨Nat.le_of_ble_eq_true rfl, Nat.le_of_ble_eq_true rfl⟩ hP hD [] rfl (by decide) hl.1 rfl (Nat.le_of_ble_eq_true rfl) d_G_settle_7 ⟨Nat.zero_le _, Nat.zero_le _⟩) hP hD hS hA [] rfl (by decide) (fun _ => rfl) (fun r_1 u_2 H locs hp hP hD hS => ?_)
  obtain ⟨w, rfl, hw1, hw⟩ := hp
  have hgd := gD_of hdv hw
  have hP : va_P D classes [(g, .inr (2, [.ref o, .ref wk, .ref st, .ref bs, .ref eu, .int (ji (d)), .int (ji (w0))])), (o, .inr (1, [.long (jl (o1)), .long (jl (o2)), .long (jl (o3))])), (wk, .inr (1, [.long (jl (x1)), .long (jl (x2)), .long (jl (x3))])), (st, .inr (1, [.long (jl (y1)), .long (jl (y2)), .long (jl (y3))]))] H := hP
  have hD : va_D A [(g, .inr (2, [.ref o, .ref wk, .ref st, .ref bs, .ref eu, .int (ji (d)), .int (ji (w0))])), (o, .inr (1, [.long (jl (o1)), .long (jl (o2)), .long (jl (o3))])), (wk, .inr (1, [.long (jl (x1)), .long (jl (x2)), .long (jl (x3))])), (st, .inr (1, [.long (jl (y1)), .long (jl (y2)), .long (jl (y3))]))] := hD
  refine va_put (D := D) (ci := 2) (v := .int (ji (w))) (ty := .int) (C := R_G) (T := T_G) (N := 7) hx hb hts uw_G ty_G ty_G_ok nm_G hown hK.1 hP hD hS 0 rfl rfl 6 (by decide) (hts _ fl_G_42) (fun _ h9 => h9) rfl (by decide +kernel) rfl rfl (Nat.le_of_ble_eq_true rfl) d_G_settle_10 (fun H locs hP hD hS => ?_)
  have hP : va_P D classes [(g, .inr (2, [.ref o, .ref wk, .ref st, .ref bs, .ref eu, .int (ji (d)), .int (ji (w))])), (o, .inr (1, [.long (jl (o1)), .long (jl (o2)), .long (jl (o3))])), (wk, .inr (1, [.long (jl (x1)), .long (jl (x2)), .long (jl (x3))])), (st, .inr (1, [.long (jl (y1)), .long (jl (y2)), .long (jl (y3))]))] H := hP
  have hD : va_D A [(g, .inr (2, [.ref o, .ref wk, .ref st, .ref bs, .ref eu, .int (ji (d)), .int (ji (w))])), (o, .inr (1, [.long (jl (o1)), .long (jl (o2)), .long (jl (o3))])), (wk, .inr (1, [.long (jl (x1)), .long (jl (x2)), .long (jl (x3))])), (st, .inr (1, [.long (jl (y1)), .long (jl (y2)), .long (jl (y3))]))] := hD
  refine lv_aload_n hx hb d_G_settle_13 rfl (lv_at hl 0 rfl) ?_
  refine lv_aload_n hx hb d_G_settle_14 rfl (lv_at hl 0 rfl) ?_
  refine va_get (D := D) (ci := 2) (v := .ref o) (C := R_G) (T := T_G) (N := 7) hx hb hts uw_G hown hK.1 hP 0 rfl rfl 0 (by decide) (hts _ fl_G_12) (fun _ h9 => h9) rfl d_G_settle_15 ?_
  refine w_lconst (v := 1) hx hb rfl d_G_settle_18 ?_
  refine lv_iload_n hx hb d_G_settle_19 rfl (lv_at hl 1 rfl) ?_
  refine w_iconst hx hb d_G_settle_20 ?_
  refine lv_iand hx hb d_G_settle_21 ?_
  rw [ji_and1 hd]
  refine w_i2l hx hb ⟨by omega, by omega⟩ d_G_settle_22 ?_
  refine cl_v (rn_V (wc := [(g, .inr (2, [.ref o, .ref wk, .ref st, .ref bs, .ref eu, .int (ji (d)), .int (ji (w))])), (o, .inr (1, [.long (jl (o1)), .long (jl (o2)), .long (jl (o3))]))]) (As := [.ref o, .long (jl (1)), .long (jl ((d) % 2))]) (rest := []) X hK (c_G_becomeFrom l D cI cJ cF hd ⟨by rcases Int.emod_two_eq d with z | z <;> rw [z] <;> omega, by rcases Int.emod_two_eq d with z | z <;> rw [z] <;> omega⟩ ⟨by decide, by decide⟩ (by decide) (one_q hdv.2.2.1) _) co_G_becomeFrom in_G ml_G_45 im_G_becomeFrom se_G_becomeFrom 3 rfl (by decide +kernel) ⟨Nat.le_of_ble_eq_true rfl, Nat.le_of_ble_eq_true rfl⟩ hP hD [0, 1] rfl (by decide) (q0 := 0) (ci := 2) rfl rfl rfl hl.1 rfl (Nat.le_of_ble_eq_true rfl) d_G_settle_23 ⟨Nat.zero_le _, Nat.zero_le _⟩) hP hD hS hA [0, 1] rfl (by decide) (fun _ => rfl) (fun u_3 H locs hp hP hD hS => ?_)
  have hP : va_P D classes [(g, .inr (2, [.ref o, .ref wk, .ref st, .ref bs, .ref eu, .int (ji (d)), .int (ji (w))])), (o, .inr (1, [.long (jl (1)), .long (jl ((d) % 2)), .long (jl (-((d - d % 2) / 4)))])), (wk, .inr (1, [.long (jl (x1)), .long (jl (x2)), .long (jl (x3))])), (st, .inr (1, [.long (jl (y1)), .long (jl (y2)), .long (jl (y3))]))] H := hP
  have hD : va_D A [(g, .inr (2, [.ref o, .ref wk, .ref st, .ref bs, .ref eu, .int (ji (d)), .int (ji (w))])), (o, .inr (1, [.long (jl (1)), .long (jl ((d) % 2)), .long (jl (-((d - d % 2) / 4)))])), (wk, .inr (1, [.long (jl (x1)), .long (jl (x2)), .long (jl (x3))])), (st, .inr (1, [.long (jl (y1)), .long (jl (y2)), .long (jl (y3))]))] := hD
  refine lv_aload_n hx hb d_G_settle_26 rfl (lv_at hl 0 rfl) ?_
  refine lv_aload_n hx hb d_G_settle_27 rfl (lv_at hl 0 rfl) ?_
  refine va_get (D := D) (ci := 2) (v := .ref o) (C := R_G) (T := T_G) (N := 7) hx hb hts uw_G hown hK.1 hP 0 rfl rfl 0 (by decide) (hts _ fl_G_12) (fun _ h9 => h9) rfl d_G_settle_28 ?_
  refine cl_v (rn_V (wc := [(g, .inr (2, [.ref o, .ref wk, .ref st, .ref bs, .ref eu, .int (ji (d)), .int (ji (w))])), (o, .inr (1, [.long (jl (1)), .long (jl ((d) % 2)), .long (jl (-((d - d % 2) / 4)))]))]) (As := [.ref o]) (rest := []) X hK (c_G_reduce l D cI cJ cF hgd hod (fun _ => by decide) (by decide) (by decide) ⟨by omega, by omega⟩ (fun _ => ⟨by omega, by omega⟩) _) co_G_reduce in_G ml_G_49 im_G_reduce se_G_reduce 1 rfl (by decide +kernel) ⟨Nat.le_of_ble_eq_true rfl, Nat.le_of_ble_eq_true rfl⟩ hP hD [0, 1] rfl (by decide) (q0 := 0) (ci := 2) rfl rfl rfl hl.1 rfl (Nat.le_of_ble_eq_true rfl) d_G_settle_31 ⟨Nat.zero_le _, Nat.zero_le _⟩) hP hD hS hA [0, 1] rfl (by decide) (fun _ => rfl) (fun u_4 H locs hp hP hD hS => ?_)
  have hrd : fm_disc d u_4 ∧ fm_red d w u_4 ∧ fm_mg d w u_4 (1, d % 2, -((d - d % 2) / 4)) := hp
  have hP : va_P D classes [(g, .inr (2, [.ref o, .ref wk, .ref st, .ref bs, .ref eu, .int (ji (d)), .int (ji (w))])), (o, .inr (1, [.long (jl ((u_4).1)), .long (jl ((u_4).2.1)), .long (jl ((u_4).2.2))])), (wk, .inr (1, [.long (jl (x1)), .long (jl (x2)), .long (jl (x3))])), (st, .inr (1, [.long (jl (y1)), .long (jl (y2)), .long (jl (y3))]))] H := hP
  have hD : va_D A [(g, .inr (2, [.ref o, .ref wk, .ref st, .ref bs, .ref eu, .int (ji (d)), .int (ji (w))])), (o, .inr (1, [.long (jl ((u_4).1)), .long (jl ((u_4).2.1)), .long (jl ((u_4).2.2))])), (wk, .inr (1, [.long (jl (x1)), .long (jl (x2)), .long (jl (x3))])), (st, .inr (1, [.long (jl (y1)), .long (jl (y2)), .long (jl (y3))]))] := hD
  refine lv_aload_n hx hb d_G_settle_34 rfl (lv_at hl 0 rfl) ?_
  refine lv_aload_n hx hb d_G_settle_35 rfl (lv_at hl 0 rfl) ?_
  refine va_get (D := D) (ci := 2) (v := .ref o) (C := R_G) (T := T_G) (N := 7) hx hb hts uw_G hown hK.1 hP 0 rfl rfl 0 (by decide) (hts _ fl_G_12) (fun _ h9 => h9) rfl d_G_settle_36 ?_
  refine cl_i (rn_V (wc := [(g, .inr (2, [.ref o, .ref wk, .ref st, .ref bs, .ref eu, .int (ji (d)), .int (ji (w))])), (wk, .inr (1, [.long (jl (x1)), .long (jl (x2)), .long (jl (x3))])), (st, .inr (1, [.long (jl (y1)), .long (jl (y2)), .long (jl (y3))])), (o, .inr (1, [.long (jl ((u_4).1)), .long (jl ((u_4).2.1)), .long (jl ((u_4).2.2))]))]) (As := [.ref o]) (rest := []) X hK (c_G_turnIntoName l D cI cJ cF hgd hrd.1 hrd.2.1 _) co_G_turnIntoName in_G ml_G_53 im_G_turnIntoName se_G_turnIntoName 1 rfl (by decide +kernel) ⟨Nat.le_of_ble_eq_true rfl, Nat.le_of_ble_eq_true rfl⟩ hP hD [0, 2, 3, 1] rfl (by decide) (q0 := 0) (ci := 2) rfl rfl rfl hl.1 rfl (Nat.le_of_ble_eq_true rfl) d_G_settle_39 ⟨Nat.zero_le _, Nat.zero_le _⟩) hP hD hS hA [0, 2, 3, 1] rfl (by decide) (fun _ => rfl) (fun r_5 u_6 H locs hp hP hD hS => ?_)
  obtain ⟨cn, rfl, hnm2, -, -, -⟩ := hp
  have hP : va_P D classes [(g, .inr (2, [.ref o, .ref wk, .ref st, .ref bs, .ref eu, .int (ji (d)), .int (ji (w))])), (o, .inr (1, [.long (jl ((u_6).1.1)), .long (jl ((u_6).1.2.1)), .long (jl ((u_6).1.2.2))])), (wk, .inr (1, [.long (jl ((u_6).2.1.1)), .long (jl ((u_6).2.1.2.1)), .long (jl ((u_6).2.1.2.2))])), (st, .inr (1, [.long (jl ((u_6).2.2.1)), .long (jl ((u_6).2.2.2.1)), .long (jl ((u_6).2.2.2.2))]))] H := hP
  have hD : va_D A [(g, .inr (2, [.ref o, .ref wk, .ref st, .ref bs, .ref eu, .int (ji (d)), .int (ji (w))])), (o, .inr (1, [.long (jl ((u_6).1.1)), .long (jl ((u_6).1.2.1)), .long (jl ((u_6).1.2.2))])), (wk, .inr (1, [.long (jl ((u_6).2.1.1)), .long (jl ((u_6).2.1.2.1)), .long (jl ((u_6).2.1.2.2))])), (st, .inr (1, [.long (jl ((u_6).2.2.1)), .long (jl ((u_6).2.2.2.1)), .long (jl ((u_6).2.2.2.2))]))] := hD
  refine lv_pop hx hb d_G_settle_42 rfl ?_
  exact rt_v X hAe hS (w, ((u_6).1.1, (u_6).1.2.1, (u_6).1.2.2), ((u_6).2.1.1, (u_6).2.1.2.1, (u_6).2.1.2.2), ((u_6).2.2.1, (u_6).2.2.2.1, (u_6).2.2.2.2)) ⟨hgd, hnm2.mg (hrd.2.2)⟩ hP d_G_settle_43
end
section
/-! Arrays of whole numbers. -/
def fU (F : Nat → Int) (k : Nat) (x : Int) : Nat → Int := fun j => if j = k then x else F j
theorem fU_self (F : Nat → Int) (k : Nat) (x : Int) : fU F k x k = x := by simp [fU]
theorem fU_ne (F : Nat → Int) {k j : Nat} (x : Int) (h : j ≠ k) : fU F k x j = F j := by simp [fU, h]
theorem upd_ji (F : Nat → Int) (k : Nat) (x : Int) : upd (fun j => ji (F j)) k (ji x) = fun j => ji (fU F k x j) := by
  funext j
  unfold upd fU
  split <;> rfl
theorem upd_jl (F : Nat → Int) (k : Nat) (x : Int) : vp_updL (fun j => jl (F j)) k (jl x) = fun j => jl (fU F k x j) := by
  funext j
  unfold vp_updL fU
  split <;> rfl
theorem ji_clamp {i : Int} (h : jI i) : (ji i).toNatClampNeg = i.toNat := by
  show (ji i).toInt.toNat = i.toNat
  rw [ji_int h]
theorem ji_vin {i : Int} {n : Nat} (h0 : 0 ≤ i) (h1 : i < n) (hn : n ≤ 2147483647) : vp_in (ji i) n := by
  have hi : jI i := ⟨by omega, by omega⟩
  rintro (z | z)
  · have : ji i < ji 0 := z
    rw [ji_lt hi ⟨by decide, by decide⟩] at this
    omega
  · rw [ji_clamp hi] at z
    omega
section WAR
variable {p : Program} {l : Launch} {e : Env} {R : Room} {s : State} {m : MethodId} {args : Array Value} {below : List Frame} {meth : Method} {c : Code} {H : Heap} {locs : List Loc} {cells slots : Nat} {Q : State → Prop}
variable {cc : ByteArray} {pc : Nat} {ls : Array Slot} {rest : List Value} {D : va_G} {A : Nat → Prop} {a : Nat} {ws : va_W} {H0 : Heap} {cI cJ cF : ClassId}
theorem w_iald (hexec : p.tables.exec = Jvm.exec) (hb : c.code = cc) (hK : kq D cI cJ cF s) (hP : va_P D classes ws H) (q0 : Nat) {n : Nat} {F : Nat → Int} (ha : ws[q0]? = some (a, .inl (cI, n, .inl (fun j => ji (F j))))) {i : Int} (h : 0 ≤ i ∧ i < n ∧ n ≤ 2147483647) (hdg : decode cc pc = .ok (.iaload, 1)) (kk : W p l e R s m args below meth c H locs cells slots Q (F0 m (pc + 1) ls (.int (ji (F i.toNat)) :: rest))) : W p l e R s m args below meth c H locs cells slots Q (F0 m pc ls (.int (ji i) :: .ref a :: rest)) :=
  va_iald hexec hb hK.1 hP q0 0 ha rfl (ji_vin h.1 h.2.1 h.2.2) hdg (by rw [ji_clamp ⟨by omega, by omega⟩]; exact kk)
theorem w_lald (hexec : p.tables.exec = Jvm.exec) (hb : c.code = cc) (hK : kq D cI cJ cF s) (hP : va_P D classes ws H) (q0 : Nat) {n : Nat} {F : Nat → Int} (ha : ws[q0]? = some (a, .inl (cJ, n, .inr (.inl (fun j => jl (F j)))))) {i : Int} (h : 0 ≤ i ∧ i < n ∧ n ≤ 2147483647) (hdg : decode cc pc = .ok (.laload, 1)) (kk : W p l e R s m args below meth c H locs cells slots Q (F0 m (pc + 1) ls (.long (jl (F i.toNat)) :: rest))) : W p l e R s m args below meth c H locs cells slots Q (F0 m pc ls (.int (ji i) :: .ref a :: rest)) :=
  va_lald hexec hb hK.1 hP q0 1 ha rfl (ji_vin h.1 h.2.1 h.2.2) hdg (by rw [ji_clamp ⟨by omega, by omega⟩]; exact kk)
theorem w_iast (hexec : p.tables.exec = Jvm.exec) (hb : c.code = cc) (hK : kq D cI cJ cF s) (hP : va_P D classes ws H) (hD : va_D A ws) (hS : va_S A H0 H locs) (q0 : Nat) {n : Nat} {F : Nat → Int} (ha : ws[q0]? = some (a, .inl (cI, n, .inl (fun j => ji (F j))))) {i x : Int} (h : 0 ≤ i ∧ i < n ∧ n ≤ 2147483647) (hdg : decode cc pc = .ok (.iastore, 1))
    (kk : ∀ (H1 : Heap) (locs1 : List Loc), va_P D classes (ws.set q0 (a, .inl (cI, n, .inl (fun j => ji (fU F i.toNat x j))))) H1 → va_D A (ws.set q0 (a, .inl (cI, n, .inl (fun j => ji (fU F i.toNat x j))))) → va_S A H0 H1 locs1 → W p l e R s m args below meth c H1 locs1 cells slots Q (F0 m (pc + 1) ls rest)) : W p l e R s m args below meth c H locs cells slots Q (F0 m pc ls (.int (ji x) :: .int (ji i) :: .ref a :: rest)) := by
  refine va_iast hexec hb hK.1 hP hD hS q0 0 ha rfl (ji_vin h.1 h.2.1 h.2.2) hdg (fun H1 locs1 h1 h2 h3 => ?_)
  rw [upd_ji, ji_clamp ⟨by omega, by omega⟩] at h1 h2
  exact kk H1 locs1 h1 h2 h3
theorem w_last (hexec : p.tables.exec = Jvm.exec) (hb : c.code = cc) (hK : kq D cI cJ cF s) (hP : va_P D classes ws H) (hD : va_D A ws) (hS : va_S A H0 H locs) (q0 : Nat) {n : Nat} {F : Nat → Int} (ha : ws[q0]? = some (a, .inl (cJ, n, .inr (.inl (fun j => jl (F j)))))) {i x : Int} (h : 0 ≤ i ∧ i < n ∧ n ≤ 2147483647) (hdg : decode cc pc = .ok (.lastore, 1))
    (kk : ∀ (H1 : Heap) (locs1 : List Loc), va_P D classes (ws.set q0 (a, .inl (cJ, n, .inr (.inl (fun j => jl (fU F i.toNat x j)))))) H1 → va_D A (ws.set q0 (a, .inl (cJ, n, .inr (.inl (fun j => jl (fU F i.toNat x j)))))) → va_S A H0 H1 locs1 → W p l e R s m args below meth c H1 locs1 cells slots Q (F0 m (pc + 1) ls rest)) : W p l e R s m args below meth c H locs cells slots Q (F0 m pc ls (.long (jl x) :: .int (ji i) :: .ref a :: rest)) := by
  refine va_last hexec hb hK.1 hP hD hS q0 1 ha rfl (ji_vin h.1 h.2.1 h.2.2) hdg (fun H1 locs1 h1 h2 h3 => ?_)
  rw [upd_jl, ji_clamp ⟨by omega, by omega⟩] at h1 h2
  exact kk H1 locs1 h1 h2 h3
end WAR
end
section
/-! The odd primes that go into a number. -/
theorem np_euc {p : Nat} (hp : fr_P p) {x y : Nat} (h : p ∣ x * y) : p ∣ x ∨ p ∣ y := by
  rcases hp.2 (Nat.gcd p y) (Nat.gcd_dvd_left _ _) with k | k
  · exact Or.inl (Nat.Coprime.dvd_of_dvd_mul_right k h)
  · right
    have := Nat.gcd_dvd_right p y
    rw [k] at this
    exact this
theorem np_2 : fr_P 2 := ⟨by decide, fun d hd => by
  have : d ≤ 2 := Nat.le_of_dvd (by decide) hd
  match d, this, hd with
  | 0, _, hd => exact absurd (Nat.eq_zero_of_zero_dvd hd) (by decide)
  | 1, _, _ => exact Or.inl rfl
  | 2, _, _ => exact Or.inr rfl⟩
theorem np_eq {p q : Nat} (hp : fr_P p) (hq : fr_P q) (h : q ∣ p) : q = p := by
  rcases hp.2 q h with e | e
  · have := hq.1; omega
  · exact e
/-- n without the prime p -/
def wo (p n m : Nat) : Prop := 0 < m ∧ m ∣ n ∧ ¬ p ∣ m ∧ ∀ q, fr_P q → q ≠ p → q ∣ n → q ∣ m
theorem wo_step {p r : Nat} (hp : fr_P p) (hr : 0 < r) (h : p ∣ r) : 0 < r / p ∧ r / p ∣ r ∧ 2 * (r / p) ≤ r ∧ ∀ q, fr_P q → q ≠ p → q ∣ r → q ∣ r / p := by
  obtain ⟨k, rfl⟩ := h
  have hp0 := hp.1
  rw [Nat.mul_div_cancel_left k (by omega)]
  have hk : 0 < k := by
    rcases Nat.eq_zero_or_pos k with z | z
    · rw [z, Nat.mul_zero] at hr; omega
    · exact z
  refine ⟨hk, Nat.dvd_mul_left k p, Nat.mul_le_mul_right k hp0, fun q hq hne hd => ?_⟩
  rcases np_euc hq hd with z | z
  · exact absurd (np_eq hp hq z) hne
  · exact z
/-- a divisor that isn't the whole has a factor beside it -/
theorem wo_le {p r m : Nat} (hp : fr_P p) (hr : 0 < r) (hd : p ∣ r) (hm : m ∣ r) (hn : ¬ p ∣ m) : p * m ≤ r := by
  obtain ⟨k, rfl⟩ := hm
  rcases np_euc hp hd with z | z
  · exact absurd z hn
  · have hk : 0 < k := by
      rcases Nat.eq_zero_or_pos k with y | y
      · rw [y, Nat.mul_zero] at hr; omega
      · exact y
    have := Nat.le_of_dvd hk z
    rw [Nat.mul_comm p m]
    exact Nat.mul_le_mul_left m this
/-- the list of the odd primes of n, rising -/
def oL (n : Nat) (l : List Nat) : Prop := l.Pairwise (fun x y => x < y) ∧ ∀ p, p ∈ l ↔ fr_P p ∧ 3 ≤ p ∧ p ∣ n
theorem oL.uniq {n : Nat} {l l' : List Nat} (h : oL n l) (h' : oL n l') : l = l' := by
  have gen : ∀ (l l' : List Nat), l.Pairwise (fun x y => x < y) → l'.Pairwise (fun x y => x < y) → (∀ p, p ∈ l ↔ p ∈ l') → l = l' := by
    intro l
    induction l with
    | nil =>
      intro l' _ _ hm
      cases l' with
      | nil => rfl
      | cons a t => exact absurd ((hm a).mpr List.mem_cons_self) (by simp)
    | cons a t ih =>
      intro l' h1 h2 hm
      cases l' with
      | nil => exact absurd ((hm a).mp List.mem_cons_self) (by simp)
      | cons b t' =>
        rw [List.pairwise_cons] at h1 h2
        have hab : a = b := by
          rcases List.mem_cons.mp ((hm a).mp List.mem_cons_self) with z | z
          · exact z
          · rcases List.mem_cons.mp ((hm b).mpr List.mem_cons_self) with y | y
            · exact y.symm
            · have := h2.1 a z
              have := h1.1 b y
              omega
        subst hab
        congr 1
        refine ih t' h1.2 h2.2 (fun p => ?_)
        constructor
        · intro hp
          have hlt := h1.1 p hp
          rcases List.mem_cons.mp ((hm p).mp (List.mem_cons_of_mem _ hp)) with z | z
          · omega
          · exact z
        · intro hp
          have hlt := h2.1 p hp
          rcases List.mem_cons.mp ((hm p).mpr (List.mem_cons_of_mem _ hp)) with z | z
          · omega
          · exact z
  exact gen l l' h.1 h'.1 (fun p => (h.2 p).trans (h'.2 p).symm)
def np_pr : List Nat → Nat
  | [] => 1
  | x :: l => x * np_pr l
theorem np_pr_app (l : List Nat) (p : Nat) : np_pr (l ++ [p]) = np_pr l * p := by
  induction l with
  | nil => show p * 1 = 1 * p; omega
  | cons a t ih =>
    show a * np_pr (t ++ [p]) = a * np_pr t * p
    rw [ih, Nat.mul_assoc]
/-- so large is a product of t different odd numbers at least -/
def np_df (t : Nat) : Nat := match t with
  | 0 => 1
  | 1 => 3
  | 2 => 15
  | 3 => 105
  | 4 => 945
  | 5 => 10395
  | _ => 135135
/-- the search at p: found l, left over r -/
def oI (n : Nat) (l : List Nat) (p r : Nat) : Prop :=
  (l.Pairwise (fun x y => x < y) ∧ (∀ q ∈ l, fr_P q ∧ 3 ≤ q ∧ q ∣ n ∧ q < p)) ∧ (∀ q, fr_P q → 3 ≤ q → q ∣ n → q ∈ l ∨ q ∣ r) ∧ (∀ q, fr_P q → 3 ≤ q → q ∣ r → p ≤ q) ∧
  (r ∣ n ∧ 0 < r) ∧ (p % 2 = 1 ∧ 2 * l.length + 3 ≤ p) ∧ (l.length ≤ 6 ∧ np_df l.length ≤ np_pr l ∧ np_pr l * r ≤ 1048576)
theorem oI.few {n : Nat} {l : List Nat} {p r : Nat} (h : oI n l p r) (hr : p ≤ r) : l.length ≤ 5 := by
  obtain ⟨-, -, -, -, ⟨-, h5⟩, h6, h7, h8⟩ := h
  rcases Nat.lt_or_ge l.length 6 with z | z
  · omega
  · exfalso
    have e : l.length = 6 := by omega
    rw [e] at h7 h5
    have h9 : np_df 6 = 135135 := rfl
    have := Nat.mul_le_mul (show 135135 ≤ np_pr l by omega) (show 15 ≤ r by omega)
    omega
theorem np_df_s {t p : Nat} (h : t ≤ 5) (hp : 2 * t + 3 ≤ p) {x : Nat} (hx : np_df t ≤ x) : np_df (t + 1) ≤ x * p := by
  have hm := Nat.mul_le_mul hx hp
  have : t = 0 ∨ t = 1 ∨ t = 2 ∨ t = 3 ∨ t = 4 ∨ t = 5 := by omega
  rcases this with rfl | rfl | rfl | rfl | rfl | rfl <;> exact Nat.le_trans (by decide) hm
/-- p goes into the rest: it is a prime -/
theorem oI.prime {n : Nat} {l : List Nat} {p r : Nat} (h : oI n l p r) (hd : p ∣ r) (h3 : 3 ≤ p) : fr_P p := by
  obtain ⟨q, hq, hqp⟩ := fr_pd _ p (Nat.le_refl _) (by omega)
  have q3 : 3 ≤ q := by
    have h2 := hq.1
    rcases Nat.lt_or_ge 2 q with z | z
    · omega
    · exfalso
      have e : q = 2 := by omega
      subst e
      have := Nat.mod_eq_zero_of_dvd hqp
      have := h.2.2.2.2.1.1
      omega
  have h1 := h.2.2.1 q hq q3 (Nat.dvd_trans hqp hd)
  have h2 := Nat.le_of_dvd (by omega) hqp
  have e : p = q := by omega
  rw [e]
  exact hq
theorem oI.add {n : Nat} {l : List Nat} {p r r' : Nat} (h : oI n l p r) (hd : p ∣ r) (h3 : 3 ≤ p) (hw : wo p r r') : oI n (l ++ [p]) (p + 2) r' := by
  have hp := h.prime hd h3
  obtain ⟨⟨h1, h2⟩, h4, h5, ⟨h6, h7⟩, ⟨h8, h9⟩, h10, h11, h12⟩ := id h
  have hlen := h.few (Nat.le_of_dvd h7 hd)
  obtain ⟨w1, w2, w3, w4⟩ := hw
  have hnd := Nat.dvd_trans hd h6
  refine ⟨⟨?_, ?_⟩, ?_, ?_, ⟨Nat.dvd_trans w2 h6, w1⟩, ⟨by omega, by rw [List.length_append]; show 2 * (l.length + 1) + 3 ≤ p + 2; omega⟩, by rw [List.length_append]; show l.length + 1 ≤ 6; omega, ?_, ?_⟩
  · rw [List.pairwise_append]
    exact ⟨h1, by simp, fun a ha b hb => by rw [List.mem_singleton.mp hb]; exact (h2 a ha).2.2.2⟩
  · intro q hq
    rcases List.mem_append.mp hq with z | z
    · obtain ⟨a, b, c, d⟩ := h2 q z
      exact ⟨a, b, c, by omega⟩
    · rw [List.mem_singleton.mp z]
      exact ⟨hp, h3, hnd, by omega⟩
  · intro q a b c
    rcases h4 q a b c with z | z
    · exact Or.inl (List.mem_append_left _ z)
    · by_cases e : q = p
      · left
        rw [e]
        exact List.mem_append_right _ (List.mem_singleton.mpr rfl)
      · exact Or.inr (w4 q a e z)
  · intro q a b c
    have z1 := h5 q a b (Nat.dvd_trans c w2)
    have z2 : q ≠ p := fun e => w3 (by rw [← e]; exact c)
    have z3 : q % 2 = 1 := by
      rcases Nat.mod_two_eq_zero_or_one q with y | y
      · rcases a.2 2 (Nat.dvd_of_mod_eq_zero y) with e | e <;> omega
      · exact y
    omega
  · rw [List.length_append, np_pr_app]
    exact np_df_s hlen h9 h11
  · rw [np_pr_app, Nat.mul_assoc]
    exact Nat.le_trans (Nat.mul_le_mul_left _ (wo_le hp h7 hd w2 w3)) h12
theorem oI.skip {n : Nat} {l : List Nat} {p r : Nat} (h : oI n l p r) (hd : ¬ p ∣ r) : oI n l (p + 2) r := by
  obtain ⟨⟨h1, h2⟩, h4, h5, h67, ⟨h8, h9⟩, h10⟩ := h
  refine ⟨⟨h1, fun q hq => ?_⟩, h4, fun q a b c => ?_, h67, ⟨by omega, by omega⟩, h10⟩
  · obtain ⟨a, b, c, d⟩ := h2 q hq
    exact ⟨a, b, c, by omega⟩
  · have z1 := h5 q a b c
    have z2 : q ≠ p := fun e => hd (by rw [← e]; exact c)
    have z3 : q % 2 = 1 := by
      rcases Nat.mod_two_eq_zero_or_one q with y | y
      · rcases a.2 2 (Nat.dvd_of_mod_eq_zero y) with e | e <;> omega
      · exact y
    omega
theorem oI_0 {n r : Nat} (h0 : 0 < n) (hn : n ≤ 1048576) (hw : wo 2 n r) : oI n [] 3 r := by
  obtain ⟨w1, w2, w3, w4⟩ := hw
  refine ⟨⟨List.Pairwise.nil, by simp⟩, fun q a b c => Or.inr (w4 q a (by omega) c), fun q a b c => b, ⟨w2, w1⟩, ⟨by decide, by decide⟩, by decide, by decide, ?_⟩
  have := Nat.le_of_dvd h0 w2
  show 1 * r ≤ 1048576
  omega
theorem oI_0' {n : Nat} (h0 : 0 < n) (hn : n ≤ 1048576) : oI n [] 3 n := by
  refine ⟨⟨List.Pairwise.nil, by simp⟩, fun q a b c => Or.inr c, fun q a b c => b, ⟨Nat.dvd_refl n, h0⟩, ⟨by decide, by decide⟩, by decide, by decide, ?_⟩
  show 1 * n ≤ 1048576
  omega
/-- nothing is left over -/
theorem oI.one {n : Nat} {l : List Nat} {p r : Nat} (h : oI n l p r) (hr : ∀ q, fr_P q → 3 ≤ q → ¬ q ∣ r) : oL n l := by
  obtain ⟨⟨h1, h2⟩, h4, -⟩ := h
  refine ⟨h1, fun q => ⟨fun hq => ⟨(h2 q hq).1, (h2 q hq).2.1, (h2 q hq).2.2.1⟩, fun hq => ?_⟩⟩
  rcases h4 q hq.1 hq.2.1 hq.2.2 with z | z
  · exact z
  · exact absurd z (hr q hq.1 hq.2.1)
theorem no_p1 (q : Nat) (hq : fr_P q) (_ : 3 ≤ q) : ¬ q ∣ 1 := by
  intro h
  have := Nat.le_of_dvd (by decide) h
  omega
/-- an odd rest without small primes is a prime -/
theorem oI.last {n : Nat} {l : List Nat} {p r : Nat} (h : oI n l p r) (h2 : ¬ 2 ∣ r) (hr : 1 < r) (hpp : r < p * p) : fr_P r ∧ p ≤ r := by
  have h5 := h.2.2.1
  have big : ∀ d, d ∣ r → d ≠ 1 → p ≤ d := by
    intro d hd h1
    have d0 : d ≠ 0 := by
      intro z
      rw [z] at hd
      have := Nat.eq_zero_of_zero_dvd hd
      omega
    obtain ⟨q, hq, hqd⟩ := fr_pd _ d (Nat.le_refl _) (by omega)
    have q3 : 3 ≤ q := by
      have h2' := hq.1
      rcases Nat.lt_or_ge 2 q with z | z
      · omega
      · exfalso
        have e : q = 2 := by omega
        rw [e] at hqd
        exact h2 (Nat.dvd_trans hqd hd)
    have := h5 q hq q3 (Nat.dvd_trans hqd hd)
    have := Nat.le_of_dvd (by omega) hqd
    omega
  refine ⟨⟨by omega, fun d hd => ?_⟩, big r (Nat.dvd_refl r) (by omega)⟩
  by_cases e1 : d = 1
  · exact Or.inl e1
  · right
    obtain ⟨k, hk⟩ := hd
    by_cases ek : k = 1
    · rw [ek, Nat.mul_one] at hk
      exact hk.symm
    · exfalso
      have b1 := big d ⟨k, hk⟩ e1
      have b2 := big k ⟨d, by rw [hk, Nat.mul_comm]⟩ ek
      have := Nat.mul_le_mul b1 b2
      omega
theorem oI.fin {n : Nat} {l : List Nat} {p r : Nat} (h : oI n l p r) (hr : fr_P r) (h3 : 3 ≤ r) (hpr : p ≤ r) : oL n (l ++ [r]) ∧ l.length ≤ 5 := by
  have hlen := h.few hpr
  obtain ⟨⟨h1, h2⟩, h4, h5, ⟨h6, h7⟩, -⟩ := h
  refine ⟨⟨?_, fun q => ⟨fun hq => ?_, fun hq => ?_⟩⟩, hlen⟩
  · rw [List.pairwise_append]
    exact ⟨h1, by simp, fun a ha b hb => by rw [List.mem_singleton.mp hb]; have := (h2 a ha).2.2.2; omega⟩
  · rcases List.mem_append.mp hq with z | z
    · exact ⟨(h2 q z).1, (h2 q z).2.1, (h2 q z).2.2.1⟩
    · rw [List.mem_singleton.mp z]
      exact ⟨hr, h3, h6⟩
  · rcases h4 q hq.1 hq.2.1 hq.2.2 with z | z
    · exact List.mem_append_left _ z
    · rw [np_eq hr hq.1 z]
      exact List.mem_append_right _ (List.mem_singleton.mpr rfl)
/-- a row of numbers holds a list -/
def lH (F : Nat → Int) (l : List Nat) : Prop := ∀ i : Nat, i < l.length → F i = (l.getD i 0 : Nat)
theorem lH_add {F : Nat → Int} {l : List Nat} (h : lH F l) (p : Nat) : lH (fU F l.length p) (l ++ [p]) := by
  intro i hi
  rw [List.length_append] at hi
  have hi' : i < l.length + 1 := hi
  by_cases e : i = l.length
  · subst e
    rw [fU_self]
    simp [List.getD]
  · rw [fU_ne _ _ e, h i (by omega)]
    simp [List.getD, List.getElem?_append_left (show i < l.length by omega)]
theorem lH_0 (F : Nat → Int) : lH F [] := fun i h => absurd h (by simp)
end
