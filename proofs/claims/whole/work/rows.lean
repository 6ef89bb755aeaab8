section
/-! Forms (a, b, c) of one discriminant D; w is the whole part of D's root (-1 for D below 0). One step 'fm_rho' goes to the neighbour that begins with c. Two forms MERGE if their ways of steps come together. Here: a form merges with (c, -b, a), and with every (a, b + 2 a k, ..), so with all forms of its class. -/
abbrev fm_F : Type := Int × Int × Int
def fm_ab (x : Int) : Int := if x < 0 then -x else x
theorem fm_ab_cases (x : Int) : (0 ≤ x ∧ fm_ab x = x) ∨ (x < 0 ∧ fm_ab x = -x) := by
  unfold fm_ab
  split
  · exact Or.inr ⟨by omega, rfl⟩
  · exact Or.inl ⟨by omega, rfl⟩
theorem fm_ab_neg (x : Int) : fm_ab (-x) = fm_ab x := by
  rcases fm_ab_cases x with h | h <;> rcases fm_ab_cases (-x) with k | k <;> omega
theorem fm_ab_pos {x : Int} (h : x ≠ 0) : 0 < fm_ab x := by
  rcases fm_ab_cases x with k | k <;> omega
/-- what D and w have to do with each other -/
def fm_ok (D w : Int) : Prop := (D < 0 ∧ w = -1) ∨ (0 ≤ w ∧ w * w < D ∧ D < (w + 1) * (w + 1))
theorem fm_sq_le {x y : Int} (h0 : 0 ≤ x) (h : x ≤ y) : x * x ≤ y * y := Int.mul_le_mul h h h0 (by omega)
theorem fm_ab_sq (x : Int) : fm_ab x * fm_ab x = x * x := by
  rcases fm_ab_cases x with ⟨-, h⟩ | ⟨-, h⟩ <;> rw [h]
  rw [Int.neg_mul_neg]
theorem fm_in {D w x : Int} (h : fm_ok D w) (hx : fm_ab x ≤ w) : x * x < D := by
  have h0 : 0 ≤ fm_ab x := by rcases fm_ab_cases x with k | k <;> omega
  rcases h with ⟨h1, h2⟩ | ⟨h1, h2, h3⟩
  · omega
  · have := fm_sq_le h0 hx
    rw [fm_ab_sq] at this
    omega
theorem fm_out {D w x : Int} (h : fm_ok D w) (hx : w < fm_ab x) : D < x * x := by
  have h0 : 0 ≤ fm_ab x := by rcases fm_ab_cases x with k | k <;> omega
  rcases h with ⟨h1, h2⟩ | ⟨h1, h2, h3⟩
  · have := fm_sq_le (Int.le_refl 0) h0
    rw [fm_ab_sq] at this
    omega
  · have := fm_sq_le (x := w + 1) (y := fm_ab x) (by omega) (by omega)
    rw [fm_ab_sq] at this
    omega
theorem fm_in_of {D w x : Int} (h : fm_ok D w) (hx : x * x < D) : fm_ab x ≤ w := by
  rcases Int.lt_or_le w (fm_ab x) with k | k
  · have := fm_out h k; omega
  · exact k
theorem fm_out_of {D w x : Int} (h : fm_ok D w) (hx : D < x * x) : w < fm_ab x := by
  rcases Int.lt_or_le w (fm_ab x) with k | k
  · exact k
  · have := fm_in h k; omega
theorem fm_nsq {D w : Int} (h : fm_ok D w) (x : Int) : x * x ≠ D := by
  intro e
  rcases Int.lt_or_le w (fm_ab x) with k | k
  · have := fm_out h k; omega
  · have := fm_in h k; omega
def fm_top (w c : Int) : Int := if w < fm_ab c then fm_ab c else w
theorem fm_top_cases (w c : Int) : (w < fm_ab c ∧ fm_top w c = fm_ab c) ∨ (fm_ab c ≤ w ∧ fm_top w c = w) := by
  unfold fm_top
  split
  · exact Or.inl ⟨by assumption, rfl⟩
  · exact Or.inr ⟨by omega, rfl⟩
theorem fm_top_neg (w c : Int) : fm_top w (-c) = fm_top w c := by unfold fm_top; rw [fm_ab_neg]
def fm_e (w b c : Int) : Int := fm_top w c - (fm_top w c + b) % (2 * fm_ab c)
def fm_rho (D w : Int) (g : fm_F) : fm_F := (g.2.2, fm_e w g.2.1 g.2.2, (fm_e w g.2.1 g.2.2 * fm_e w g.2.1 g.2.2 - D) / (4 * g.2.2))
/-- the new middle lies in its window and differs from -b by a multiple of 2 c -/
theorem fm_e_spec (w b : Int) {c : Int} (hc : c ≠ 0) : fm_top w c - 2 * fm_ab c < fm_e w b c ∧ fm_e w b c ≤ fm_top w c ∧ ∃ k : Int, fm_e w b c = -b + 2 * c * k := by
  have h0 := fm_ab_pos hc
  have h1 := Int.emod_nonneg (fm_top w c + b) (show 2 * fm_ab c ≠ 0 by omega)
  have h2 := Int.emod_lt_of_pos (fm_top w c + b) (show 0 < 2 * fm_ab c by omega)
  have h3 := Int.mul_ediv_add_emod (fm_top w c + b) (2 * fm_ab c)
  unfold fm_e
  refine ⟨by omega, by omega, ?_⟩
  rcases fm_ab_cases c with ⟨-, h⟩ | ⟨-, h⟩
  · refine ⟨(fm_top w c + b) / (2 * fm_ab c), ?_⟩
    rw [h] at h3 ⊢
    omega
  · refine ⟨-((fm_top w c + b) / (2 * fm_ab c)), ?_⟩
    rw [h] at h3 ⊢
    have : 2 * c * -((fm_top w c + b) / (2 * -c)) = 2 * -c * ((fm_top w c + b) / (2 * -c)) := by grind
    omega
/-- a multiple of 2 c that is smaller than 2 |c| is 0 -/
theorem fm_small {c k : Int} (h1 : -(2 * fm_ab c) < 2 * c * k) (h2 : 2 * c * k < 2 * fm_ab c) : 2 * c * k = 0 := by
  rcases Int.lt_trichotomy k 0 with hk | hk | hk
  · exfalso
    rcases fm_ab_cases c with ⟨h0, h⟩ | ⟨h0, h⟩ <;> rw [h] at h1 h2
    · have := Int.mul_le_mul_of_nonneg_left (show k ≤ -1 by omega) (show (0:Int) ≤ 2 * c by omega)
      omega
    · have := Int.mul_le_mul_of_nonneg_left (show k ≤ -1 by omega) (show (0:Int) ≤ 2 * -c by omega)
      have e : 2 * -c * k = -(2 * c * k) := by grind
      omega
  · rw [hk]; simp
  · exfalso
    rcases fm_ab_cases c with ⟨h0, h⟩ | ⟨h0, h⟩ <;> rw [h] at h1 h2
    · have := Int.mul_le_mul_of_nonneg_left (show 1 ≤ k by omega) (show (0:Int) ≤ 2 * c by omega)
      omega
    · have := Int.mul_le_mul_of_nonneg_left (show 1 ≤ k by omega) (show (0:Int) ≤ 2 * -c by omega)
      have e : 2 * -c * k = -(2 * c * k) := by grind
      omega
theorem fm_e_uniq {w b c e k : Int} (hc : c ≠ 0) (h1 : fm_top w c - 2 * fm_ab c < e) (h2 : e ≤ fm_top w c) (h3 : e = -b + 2 * c * k) : fm_e w b c = e := by
  obtain ⟨g1, g2, k', g3⟩ := fm_e_spec w b hc
  have e1 : 2 * c * (k' - k) = fm_e w b c - e := by grind
  have := fm_small (c := c) (k := k' - k) (by omega) (by omega)
  omega
def fm_disc (D : Int) (g : fm_F) : Prop := g.2.1 * g.2.1 - 4 * (g.1 * g.2.2) = D
theorem fm_ne {D w a b c : Int} (h : fm_ok D w) (hd : fm_disc D (a, b, c)) : a ≠ 0 ∧ c ≠ 0 := by
  unfold fm_disc at hd
  dsimp only at hd
  constructor
  · intro e
    rw [e, Int.zero_mul] at hd
    exact fm_nsq h b (by omega)
  · intro e
    rw [e, Int.mul_zero] at hd
    exact fm_nsq h b (by omega)
/-- a step, told by the multiple that it takes -/
theorem fm_rho_of {D w a b c k : Int} (hc : c ≠ 0) (hd : fm_disc D (a, b, c)) (h1 : fm_top w c - 2 * fm_ab c < -b + 2 * c * k) (h2 : -b + 2 * c * k ≤ fm_top w c) : fm_rho D w (a, b, c) = (c, -b + 2 * c * k, a - b * k + c * (k * k)) := by
  have he := fm_e_uniq (w := w) (b := b) (k := k) hc h1 h2 rfl
  unfold fm_disc at hd
  dsimp only at hd
  unfold fm_rho
  dsimp only
  rw [he]
  have h4 : (-b + 2 * c * k) * (-b + 2 * c * k) - D = 4 * c * (a - b * k + c * (k * k)) := by grind
  rw [h4, Int.mul_ediv_cancel_left _ (show 4 * c ≠ 0 by omega)]
theorem fm_rho_ex {D w a b c : Int} (hc : c ≠ 0) (hd : fm_disc D (a, b, c)) : ∃ k : Int, fm_rho D w (a, b, c) = (c, -b + 2 * c * k, a - b * k + c * (k * k)) ∧ fm_top w c - 2 * fm_ab c < -b + 2 * c * k ∧ -b + 2 * c * k ≤ fm_top w c := by
  obtain ⟨g1, g2, k, g3⟩ := fm_e_spec w b hc
  exact ⟨k, fm_rho_of hc hd (by omega) (by omega), by omega, by omega⟩
theorem fm_rho_disc {D w : Int} {g : fm_F} (h : fm_ok D w) (hd : fm_disc D g) : fm_disc D (fm_rho D w g) := by
  obtain ⟨a, b, c⟩ := g
  obtain ⟨k, hk, -, -⟩ := fm_rho_ex (w := w) (fm_ne h hd).2 hd
  rw [hk]
  unfold fm_disc at hd ⊢
  dsimp only at hd ⊢
  grind
theorem fm_rho_congr {D w a b a' b' c k : Int} (hc : c ≠ 0) (hd : fm_disc D (a, b, c)) (hd' : fm_disc D (a', b', c)) (hb : b' = b + 2 * c * k) : fm_rho D w (a, b, c) = fm_rho D w (a', b', c) := by
  obtain ⟨j, hj, h1, h2⟩ := fm_rho_ex (w := w) hc hd
  have e1 : -b + 2 * c * j = -b' + 2 * c * (j + k) := by grind
  rw [hj, fm_rho_of (k := j + k) hc hd' (by omega) (by omega)]
  unfold fm_disc at hd hd'
  dsimp only at hd hd'
  have e2 : 4 * c * (a - b * j + c * (j * j)) = 4 * c * (a' - b' * (j + k) + c * ((j + k) * (j + k))) := by grind
  have e3 := Int.eq_of_mul_eq_mul_left (show 4 * c ≠ 0 by omega) e2
  rw [e3, e1]
-- ways of steps
def fm_it (D w : Int) : Nat → fm_F → fm_F
  | 0, g => g
  | n + 1, g => fm_it D w n (fm_rho D w g)
theorem fm_it_add (D w : Int) (i j : Nat) (g : fm_F) : fm_it D w (i + j) g = fm_it D w j (fm_it D w i g) := by
  induction i generalizing g with
  | zero => rw [Nat.zero_add]; rfl
  | succ i ih =>
    rw [Nat.succ_add]
    exact ih _
theorem fm_it_succ (D w : Int) (n : Nat) (g : fm_F) : fm_it D w (n + 1) g = fm_rho D w (fm_it D w n g) := fm_it_add D w n 1 g
theorem fm_it_disc {D w : Int} (h : fm_ok D w) (n : Nat) {g : fm_F} (hd : fm_disc D g) : fm_disc D (fm_it D w n g) := by
  induction n generalizing g with
  | zero => exact hd
  | succ n ih => exact ih (fm_rho_disc h hd)
def fm_mg (D w : Int) (g h : fm_F) : Prop := ∃ i j : Nat, fm_it D w i g = fm_it D w j h
theorem fm_mg.rf {D w : Int} (g : fm_F) : fm_mg D w g g := ⟨0, 0, rfl⟩
theorem fm_mg.sy {D w : Int} {g h : fm_F} (x : fm_mg D w g h) : fm_mg D w h g := by
  obtain ⟨i, j, e⟩ := x
  exact ⟨j, i, e.symm⟩
theorem fm_mg.tr {D w : Int} {g h k : fm_F} (x : fm_mg D w g h) (y : fm_mg D w h k) : fm_mg D w g k := by
  obtain ⟨i, j, e⟩ := x
  obtain ⟨i', j', e'⟩ := y
  refine ⟨i + i', j' + j, ?_⟩
  rw [fm_it_add, e, ← fm_it_add, Nat.add_comm j i', fm_it_add, e', ← fm_it_add]
theorem fm_mg.step {D w : Int} {g h : fm_F} (e : fm_rho D w g = h) : fm_mg D w g h := ⟨1, 0, e⟩
theorem fm_mg.same {D w : Int} {g h : fm_F} (e : fm_rho D w g = fm_rho D w h) : fm_mg D w g h := ⟨1, 1, e⟩
def fm_S (g : fm_F) : fm_F := (g.2.2, -g.2.1, g.1)
theorem fm_S_disc {D a b c : Int} (hd : fm_disc D (a, b, c)) : fm_disc D (c, -b, a) := by
  unfold fm_disc at hd ⊢
  dsimp only at hd ⊢
  grind
/-- downwards: t is the sign of a and c -/
theorem fm_down {D w a b c t : Int} (h : fm_ok D w) (hd : fm_disc D (a, b, c)) (ht : t * t = 1) (hd1 : fm_disc D (a, b - 2 * t * a, a - t * b + c)) (h1 : fm_mg D w (a, b - 2 * t * a, a - t * b + c) (a - t * b + c, -(b - 2 * t * a), a)) (h2 : fm_mg D w (c, -b + 2 * t * c, a - t * b + c) (a - t * b + c, -(-b + 2 * t * c), c)) : fm_mg D w (a, b, c) (c, -b, a) := by
  have hd2 : fm_disc D (c, -b + 2 * t * c, a - t * b + c) := by
    unfold fm_disc at hd ⊢
    dsimp only at hd ⊢
    grind
  obtain ⟨ha, hc⟩ := fm_ne h hd
  obtain ⟨-, he⟩ := fm_ne h hd1
  have s1 : fm_mg D w (a, b, c) (a - t * b + c, -(-b + 2 * t * c), c) := fm_mg.same (fm_rho_congr (k := -t) hc hd (fm_S_disc hd2) (by grind))
  have s2 : fm_mg D w (c, -b + 2 * t * c, a - t * b + c) (a, b - 2 * t * a, a - t * b + c) := fm_mg.same (fm_rho_congr (k := -t) he hd2 hd1 (by grind))
  have s3 : fm_mg D w (a - t * b + c, -(b - 2 * t * a), a) (c, -b, a) := fm_mg.same (fm_rho_congr (k := -t) ha (fm_S_disc hd1) (fm_S_disc hd) (by grind))
  exact s1.tr (h2.sy.tr (s2.tr (h1.tr s3)))
theorem fm_pp {a c : Int} (ha : 0 < a) (h : 0 < a * c) : 0 < c := by
  rcases Int.lt_or_le 0 c with k | k
  · exact k
  · have := Int.mul_le_mul_of_nonneg_left k (Int.le_of_lt ha)
    rw [Int.mul_zero] at this
    omega
theorem fm_nn {a c : Int} (ha : a < 0) (h : 0 < a * c) : c < 0 := by
  have := fm_pp (a := -a) (c := -c) (by omega) (by rw [Int.neg_mul_neg]; exact h)
  omega
theorem fm_pn {a c : Int} (ha : 0 < a) (h : a * c < 0) : c < 0 := by
  have := fm_pp (a := a) (c := -c) ha (by rw [Int.mul_neg]; omega)
  omega
theorem fm_np {a c : Int} (ha : a < 0) (h : a * c < 0) : 0 < c := by
  have := fm_pp (a := -a) (c := c) (by omega) (by rw [Int.neg_mul]; omega)
  omega
theorem fm_dn {D w : Int} (h : fm_ok D w) {n : Nat} (ih : ∀ a b c : Int, fm_ab b < n → fm_disc D (a, b, c) → fm_mg D w (a, b, c) (c, -b, a)) {a b c : Int} (hb : fm_ab b < (n + 1 : Nat)) (hd : fm_disc D (a, b, c)) (h0 : 0 < b) (ha : fm_ab a < b) (hc : fm_ab c < b) (hac : 0 < a * c) : fm_mg D w (a, b, c) (c, -b, a) := by
  have hbb : fm_ab b = b := by rcases fm_ab_cases b with k | k <;> omega
  rcases Int.lt_trichotomy a 0 with k | k | k
  · have hc0 := fm_nn k hac
    have hA : fm_ab a = -a := by rcases fm_ab_cases a with k | k <;> omega
    have hC : fm_ab c = -c := by rcases fm_ab_cases c with k | k <;> omega
    have hd1 : fm_disc D (a, b - 2 * (-1) * a, a - (-1) * b + c) := by
      unfold fm_disc at hd ⊢
      dsimp only at hd ⊢
      grind
    have hd2 : fm_disc D (c, -b + 2 * (-1) * c, a - (-1) * b + c) := by
      unfold fm_disc at hd ⊢
      dsimp only at hd ⊢
      grind
    refine fm_down (t := -1) h hd (by decide) hd1 (ih _ _ _ ?_ hd1) (ih _ _ _ ?_ hd2)
    · rcases fm_ab_cases (b - 2 * (-1) * a) with q | q <;> omega
    · rcases fm_ab_cases (-b + 2 * (-1) * c) with q | q <;> omega
  · rw [k, Int.zero_mul] at hac
    omega
  · have hc0 := fm_pp k hac
    have hA : fm_ab a = a := by rcases fm_ab_cases a with k | k <;> omega
    have hC : fm_ab c = c := by rcases fm_ab_cases c with k | k <;> omega
    have hd1 : fm_disc D (a, b - 2 * 1 * a, a - 1 * b + c) := by
      unfold fm_disc at hd ⊢
      dsimp only at hd ⊢
      grind
    have hd2 : fm_disc D (c, -b + 2 * 1 * c, a - 1 * b + c) := by
      unfold fm_disc at hd ⊢
      dsimp only at hd ⊢
      grind
    refine fm_down (t := 1) h hd (by decide) hd1 (ih _ _ _ ?_ hd1) (ih _ _ _ ?_ hd2)
    · rcases fm_ab_cases (b - 2 * 1 * a) with q | q <;> omega
    · rcases fm_ab_cases (-b + 2 * 1 * c) with q | q <;> omega
theorem fm_bd {D w : Int} (h : fm_ok D w) {n : Nat} (ih : ∀ a b c : Int, fm_ab b < n → fm_disc D (a, b, c) → fm_mg D w (a, b, c) (c, -b, a)) {a b c : Int} (hb : fm_ab b < (n + 1 : Nat)) (hd : fm_disc D (a, b, c)) (hw : w < fm_ab a) (hba : b = -fm_ab a) (hca : fm_ab c < fm_ab a) : fm_mg D w (a, b, c) (c, -b, a) := by
  obtain ⟨ha0, hc0⟩ := fm_ne h hd
  have ho := fm_out h hw
  have hbn : fm_ab b = fm_ab a := by rcases fm_ab_cases a with k | k <;> rcases fm_ab_cases b with q | q <;> omega
  have htop : fm_top w a = fm_ab a := by rcases fm_top_cases w a with k | k <;> omega
  have hac : 0 < a * c := by
    unfold fm_disc at hd
    dsimp only at hd
    have : b * b = a * a := by rw [hba, Int.neg_mul_neg, fm_ab_sq]
    omega
  rcases fm_ab_cases a with ⟨k, hA⟩ | ⟨k, hA⟩
  · have hc1 := fm_pp (show 0 < a by omega) hac
    have hC : fm_ab c = c := by rcases fm_ab_cases c with k | k <;> omega
    have hb' : b = -a := by omega
    subst hb'
    have hd2 : fm_disc D (c, a - 2 * c, c) := by
      unfold fm_disc at hd ⊢
      dsimp only at hd ⊢
      grind
    have hdh : fm_disc D (a, a, c) := by
      unfold fm_disc at hd ⊢
      dsimp only at hd ⊢
      grind
    have r1 : fm_rho D w (c, - -a, a) = (a, - - -a + 2 * a * 1, c - - -a * 1 + a * (1 * 1)) := fm_rho_of (k := 1) ha0 (fm_S_disc hd) (by omega) (by omega)
    have r2 : (a, - - -a + 2 * a * 1, c - - -a * 1 + a * (1 * 1)) = ((a, a, c) : fm_F) := by
      rw [show - - -a + 2 * a * 1 = a by omega, show c - - -a * 1 + a * (1 * 1) = c by omega]
    have s1 : fm_mg D w (a, -a, c) (c, -(a - 2 * c), c) := fm_mg.same (fm_rho_congr (k := 1) hc0 hd (fm_S_disc hd2) (by omega))
    have s2 : fm_mg D w (c, a - 2 * c, c) (a, a, c) := fm_mg.same (fm_rho_congr (k := 1) hc0 hd2 hdh (by omega))
    have s3 := ih c (a - 2 * c) c (by rcases fm_ab_cases (a - 2 * c) with q | q <;> omega) hd2
    exact s1.tr (s3.sy.tr (s2.tr (fm_mg.step (r1.trans r2)).sy))
  · have hc1 := fm_nn k hac
    have hC : fm_ab c = -c := by rcases fm_ab_cases c with k | k <;> omega
    have hb' : b = a := by omega
    subst hb'
    have hd2 : fm_disc D (c, -b + 2 * c, c) := by
      unfold fm_disc at hd ⊢
      dsimp only at hd ⊢
      grind
    have hdh : fm_disc D (b, -b, c) := by
      unfold fm_disc at hd ⊢
      dsimp only at hd ⊢
      grind
    have r1 : fm_rho D w (c, -b, b) = (b, - -b + 2 * b * (-1), c - -b * (-1) + b * ((-1) * (-1))) := fm_rho_of (k := -1) ha0 (fm_S_disc hd) (by omega) (by omega)
    have r2 : (b, - -b + 2 * b * (-1), c - -b * (-1) + b * ((-1) * (-1))) = ((b, -b, c) : fm_F) := by
      rw [show - -b + 2 * b * (-1) = -b by omega, show c - -b * (-1) + b * ((-1) * (-1)) = c by omega]
    have s1 : fm_mg D w (b, b, c) (c, -(-b + 2 * c), c) := fm_mg.same (fm_rho_congr (k := -1) hc0 hd (fm_S_disc hd2) (by omega))
    have s2 : fm_mg D w (c, -b + 2 * c, c) (b, -b, c) := fm_mg.same (fm_rho_congr (k := -1) hc0 hd2 hdh (by omega))
    have s3 := ih c (-b + 2 * c) c (by rcases fm_ab_cases (-b + 2 * c) with q | q <;> omega) hd2
    exact s1.tr (s3.sy.tr (s2.tr (fm_mg.step (r1.trans r2)).sy))
theorem fm_rho_back {D w a b c : Int} (ha : a ≠ 0) (hd : fm_disc D (a, b, c)) (h1 : fm_top w a - 2 * fm_ab a < b) (h2 : b ≤ fm_top w a) : fm_mg D w (a, b, c) (c, -b, a) := by
  have r1 : fm_rho D w (c, -b, a) = (a, - -b + 2 * a * 0, c - -b * 0 + a * (0 * 0)) := fm_rho_of (k := 0) ha (fm_S_disc hd) (by omega) (by omega)
  have r2 : (a, - -b + 2 * a * 0, c - -b * 0 + a * (0 * 0)) = ((a, b, c) : fm_F) := by
    rw [show - -b + 2 * a * 0 = b by omega, show c - -b * 0 + a * (0 * 0) = c by omega]
  exact (fm_mg.step (r1.trans r2)).sy
theorem fm_mgS {D w a b c : Int} (x : fm_mg D w (c, -b, a) (a, - -b, c)) : fm_mg D w (a, b, c) (c, -b, a) := by
  rw [Int.neg_neg] at x
  exact x.sy
theorem fm_rho_forth {D w a b c : Int} (hc : c ≠ 0) (hd : fm_disc D (a, b, c)) (h1 : fm_top w c - 2 * fm_ab c < -b) (h2 : -b ≤ fm_top w c) : fm_mg D w (a, b, c) (c, -b, a) := fm_mgS (fm_rho_back hc (fm_S_disc hd) h1 h2)
theorem fm_c2 {D w : Int} (h : fm_ok D w) {n : Nat} (ih : ∀ a b c : Int, fm_ab b < n → fm_disc D (a, b, c) → fm_mg D w (a, b, c) (c, -b, a)) {a b c : Int} (hb : fm_ab b < (n + 1 : Nat)) (hd : fm_disc D (a, b, c)) (hw : w < fm_ab a) : fm_mg D w (a, b, c) (c, -b, a) := by
  obtain ⟨ha0, hc0⟩ := fm_ne h hd
  have ho := fm_out h hw
  have htop : fm_top w a = fm_ab a := by rcases fm_top_cases w a with k | k <;> omega
  have hA0 := fm_ab_pos ha0
  have hC0 := fm_ab_pos hc0
  by_cases i1 : -fm_ab a < b ∧ b ≤ fm_ab a
  · exact fm_rho_back ha0 hd (by omega) (by omega)
  · by_cases i2 : b = -fm_ab a
    · by_cases i3 : fm_ab a ≤ fm_ab c
      · have htc : fm_top w c = fm_ab c := by rcases fm_top_cases w c with k | k <;> omega
        exact fm_rho_forth hc0 hd (by omega) (by omega)
      · exact fm_bd h ih hb hd hw i2 (by omega)
    · have hab : fm_ab a < fm_ab b := by rcases fm_ab_cases b with k | k <;> omega
      have hac : 0 < a * c := by
        have h1 := fm_sq_le (x := fm_ab a) (y := fm_ab b) (by omega) (by omega)
        rw [fm_ab_sq, fm_ab_sq] at h1
        unfold fm_disc at hd
        dsimp only at hd
        omega
      by_cases i4 : fm_ab c < fm_ab b
      · rcases fm_ab_cases b with k | k
        · exact fm_dn h ih hb hd (by omega) (by omega) (by omega) hac
        · refine fm_mgS (fm_dn h ih (by rw [fm_ab_neg]; exact hb) (fm_S_disc hd) (by omega) (by omega) (by omega) (by rw [Int.mul_comm]; exact hac))
      · have htc : fm_top w c = fm_ab c := by rcases fm_top_cases w c with k | k <;> omega
        by_cases i5 : b = fm_ab c
        · exact fm_mgS (fm_bd h ih (by rw [fm_ab_neg]; exact hb) (fm_S_disc hd) (by omega) (by omega) (by rcases fm_ab_cases b with k | k <;> omega))
        · exact fm_rho_forth hc0 hd (by rcases fm_ab_cases b with k | k <;> omega) (by rcases fm_ab_cases b with k | k <;> omega)
theorem fm_SS {D w : Int} (h : fm_ok D w) : ∀ (n : Nat) (a b c : Int), fm_ab b < n → fm_disc D (a, b, c) → fm_mg D w (a, b, c) (c, -b, a) := by
  intro n
  induction n with
  | zero =>
    intro a b c hb _
    rcases fm_ab_cases b with k | k <;> omega
  | succ n ih =>
    intro a b c hb hd
    obtain ⟨ha0, hc0⟩ := fm_ne h hd
    by_cases i1 : w < fm_ab a
    · exact fm_c2 h ih hb hd i1
    · by_cases i2 : w < fm_ab c
      · exact fm_mgS (fm_c2 h ih (by rw [fm_ab_neg]; exact hb) (fm_S_disc hd) i2)
      · have hta : fm_top w a = w := by rcases fm_top_cases w a with k | k <;> omega
        have htc : fm_top w c = w := by rcases fm_top_cases w c with k | k <;> omega
        have hA0 := fm_ab_pos ha0
        have hC0 := fm_ab_pos hc0
        have hd' := hd
        unfold fm_disc at hd'
        dsimp only at hd'
        rcases Int.lt_trichotomy (a * c) 0 with k | k | k
        · have hbw := fm_in_of (x := b) h (by omega)
          by_cases i3 : w - 2 * fm_ab a < b
          · exact fm_rho_back ha0 hd (by omega) (by rcases fm_ab_cases b with q | q <;> omega)
          · by_cases i4 : w - 2 * fm_ab c < -b
            · exact fm_rho_forth hc0 hd (by omega) (by rcases fm_ab_cases b with q | q <;> omega)
            · exfalso
              rcases fm_ab_cases a with ⟨p, hA⟩ | ⟨p, hA⟩
              · have hc1 := fm_pn (show 0 < a by omega) k
                have hC : fm_ab c = -c := by rcases fm_ab_cases c with q | q <;> omega
                have x1 := fm_in (x := b + 2 * a) h (by rcases fm_ab_cases b with q | q <;> rcases fm_ab_cases (b + 2 * a) with r | r <;> omega)
                have x2 := fm_in (x := b + 2 * c) h (by rcases fm_ab_cases b with q | q <;> rcases fm_ab_cases (b + 2 * c) with r | r <;> omega)
                have e1 : (b + 2 * a) * (b + 2 * a) = D + 4 * (a * (a + b + c)) := by grind
                have e2 : (b + 2 * c) * (b + 2 * c) = D + 4 * (c * (a + b + c)) := by grind
                have y1 := fm_pn (a := a) (c := a + b + c) (by omega) (by omega)
                have y2 := fm_np (a := c) (c := a + b + c) hc1 (by omega)
                omega
              · have hc1 := fm_np p k
                have hC : fm_ab c = c := by rcases fm_ab_cases c with q | q <;> omega
                have x1 := fm_in (x := b - 2 * a) h (by rcases fm_ab_cases b with q | q <;> rcases fm_ab_cases (b - 2 * a) with r | r <;> omega)
                have x2 := fm_in (x := b - 2 * c) h (by rcases fm_ab_cases b with q | q <;> rcases fm_ab_cases (b - 2 * c) with r | r <;> omega)
                have e1 : (b - 2 * a) * (b - 2 * a) = D + 4 * (a * (a - b + c)) := by grind
                have e2 : (b - 2 * c) * (b - 2 * c) = D + 4 * (c * (a - b + c)) := by grind
                have y1 := fm_np (a := a) (c := a - b + c) p (by omega)
                have y2 := fm_pn (a := c) (c := a - b + c) hc1 (by omega)
                omega
        · exact absurd k (fun e => (Int.mul_eq_zero.mp e).elim ha0 hc0)
        · have hbw := fm_out_of (x := b) h (by omega)
          rcases fm_ab_cases b with q | q
          · exact fm_dn h ih hb hd (by omega) (by omega) (by omega) k
          · exact fm_mgS (fm_dn h ih (by rw [fm_ab_neg]; exact hb) (fm_S_disc hd) (by omega) (by omega) (by omega) (by rw [Int.mul_comm]; exact k))
/-- a form merges with its turned one -/
theorem fm_mg_S {D w a b c : Int} (h : fm_ok D w) (hd : fm_disc D (a, b, c)) : fm_mg D w (a, b, c) (c, -b, a) := by
  refine fm_SS h ((fm_ab b).toNat + 1) a b c ?_ hd
  rcases fm_ab_cases b with k | k <;> omega
theorem fm_T_disc {D a b c : Int} (k : Int) (hd : fm_disc D (a, b, c)) : fm_disc D (a, b + 2 * a * k, a * (k * k) + b * k + c) := by
  unfold fm_disc at hd ⊢
  dsimp only at hd ⊢
  grind
/-- a form merges with its slid one -/
theorem fm_mg_T {D w a b c : Int} (k : Int) (h : fm_ok D w) (hd : fm_disc D (a, b, c)) : fm_mg D w (a, b, c) (a, b + 2 * a * k, a * (k * k) + b * k + c) := by
  have hT := fm_T_disc k hd
  refine (fm_mg_S h hd).tr (fm_mg.tr (fm_mg.same ?_) (fm_mg_S h hT).sy)
  exact fm_rho_congr (k := -k) (fm_ne h hd).1 (fm_S_disc hd) (fm_S_disc hT) (by grind)
/-- the form at p x + q y, r x + s y -/
def fm_at (g : fm_F) (p q r s : Int) : fm_F := (g.1 * (p * p) + g.2.1 * (p * r) + g.2.2 * (r * r), 2 * (g.1 * (p * q)) + g.2.1 * (p * s + q * r) + 2 * (g.2.2 * (r * s)), g.1 * (q * q) + g.2.1 * (q * s) + g.2.2 * (s * s))
theorem fm_ext {a b c a' b' c' : Int} (h1 : a = a') (h2 : b = b') (h3 : c = c') : ((a, b, c) : fm_F) = (a', b', c') := by rw [h1, h2, h3]
theorem fm_mg_at {D w : Int} (h : fm_ok D w) : ∀ (n : Nat) (a b c p q r s : Int), fm_ab r < n → p * s - q * r = 1 → fm_disc D (a, b, c) → fm_mg D w (a, b, c) (fm_at (a, b, c) p q r s) := by
  intro n
  induction n with
  | zero =>
    intro a b c p q r s hr
    rcases fm_ab_cases r with k | k <;> omega
  | succ n ih =>
    intro a b c p q r s hr hdet hd
    by_cases r0 : r = 0
    · subst r0
      have hps : p * s = 1 := by rw [Int.mul_zero] at hdet; omega
      have hp : p = s ∧ p * p = 1 := by
        rcases Int.le_total 0 p with k | k
        · have h1 := Int.eq_one_of_mul_eq_one_right k hps
          rw [h1] at hps ⊢
          omega
        · have h1 := Int.eq_one_of_mul_eq_one_right (a := -p) (b := -s) (by omega) (by rw [Int.neg_mul_neg]; exact hps)
          have h2 : p = -1 := by omega
          rw [h2] at hps ⊢
          omega
      obtain ⟨rfl, hp2⟩ := hp
      have e : fm_at (a, b, c) p q 0 p = (a, b + 2 * a * (p * q), a * ((p * q) * (p * q)) + b * (p * q) + c) := by
        unfold fm_at
        dsimp only
        have t1 : a * (p * p) + b * (p * 0) + c * (0 * 0) = a := by rw [hp2]; omega
        have t2 : 2 * (a * (p * q)) + b * (p * p + q * 0) + 2 * (c * (0 * p)) = b + 2 * a * (p * q) := by
          have x1 : b * (p * p + q * 0) = b := by rw [Int.mul_zero, Int.add_zero, hp2, Int.mul_one]
          rw [x1]
          grind
        have t3 : a * (q * q) + b * (q * p) + c * (p * p) = a * ((p * q) * (p * q)) + b * (p * q) + c := by
          have x1 : a * ((p * q) * (p * q)) = a * (q * q) := by
            have : (p * q) * (p * q) = (p * p) * (q * q) := by grind
            rw [this, hp2, Int.one_mul]
          rw [x1, hp2, Int.mul_one, Int.mul_comm q p]
        exact fm_ext t1 t2 t3
      rw [e]
      exact fm_mg_T (p * q) h hd
    · have hT := fm_T_disc (p / r) hd
      have hm := Int.mul_ediv_add_emod p r
      have m0 := Int.emod_nonneg p r0
      have m1 := Int.emod_lt p r0
      have m2 : fm_ab r = r.natAbs := by rcases fm_ab_cases r with k | k <;> omega
      obtain ⟨k, hk⟩ : ∃ k, k = p / r := ⟨_, rfl⟩
      rw [← hk] at hT hm
      have hp : p % r = p - k * r := by grind
      have e : fm_at (a, b, c) p q r s = fm_at (a * (k * k) + b * k + c, -(b + 2 * a * k), a) r s (-(p - k * r)) (-(q - k * s)) := by
        unfold fm_at
        dsimp only
        exact fm_ext (by grind) (by grind) (by grind)
      rw [e]
      refine ((fm_mg_T k h hd).tr (fm_mg_S h hT)).tr (ih _ _ _ r s (-(p - k * r)) (-(q - k * s)) ?_ (by grind) (fm_S_disc hT))
      rw [fm_ab_neg, ← hp]
      rcases fm_ab_cases (p % r) with q1 | q1 <;> omega
end
section
/-! Numbers u + v t with t t = s t + n (the order of discriminant 4 n + s, s being 0 or 1), as pairs; their additive sets as predicates; the set of a form (a, b, c) with b = 2 B + s: all a k + v (t + B). Products of such sets are products of classes. -/
abbrev el_E : Type := Int × Int
def el_m (s n : Int) (x y : el_E) : el_E := (x.1 * y.1 + n * (x.2 * y.2), x.1 * y.2 + x.2 * y.1 + s * (x.2 * y.2))
def el_s (x y : el_E) : el_E := (x.1 - y.1, x.2 - y.2)
def el_N (s n : Int) (x : el_E) : Int := x.1 * x.1 + s * (x.1 * x.2) - n * (x.2 * x.2)
def el_j (s : Int) (x : el_E) : el_E := (x.1 + s * x.2, -x.2)
theorem el_ext {a b a' b' : Int} (h1 : a = a') (h2 : b = b') : ((a, b) : el_E) = (a', b') := by rw [h1, h2]
theorem el_m_c (s n : Int) (x y : el_E) : el_m s n x y = el_m s n y x := by
  unfold el_m
  exact el_ext (by grind) (by grind)
theorem el_m_a (s n : Int) (x y z : el_E) : el_m s n (el_m s n x y) z = el_m s n x (el_m s n y z) := by
  unfold el_m
  exact el_ext (by grind) (by grind)
theorem el_m_l (s n : Int) (x y z : el_E) : el_m s n x (el_m s n y z) = el_m s n y (el_m s n x z) := by
  rw [← el_m_a, el_m_c s n x y, el_m_a]
theorem el_m_s (s n : Int) (x y z : el_E) : el_m s n x (el_s y z) = el_s (el_m s n x y) (el_m s n x z) := by
  unfold el_m el_s
  exact el_ext (by grind) (by grind)
theorem el_m_sl (s n : Int) (x y z : el_E) : el_m s n (el_s x y) z = el_s (el_m s n x z) (el_m s n y z) := by
  rw [el_m_c, el_m_s, el_m_c s n z x, el_m_c s n z y]
theorem el_m_0 (s n : Int) (x : el_E) : el_m s n x (0, 0) = (0, 0) := by
  unfold el_m
  exact el_ext (by grind) (by grind)
theorem el_m_0l (s n : Int) (x : el_E) : el_m s n (0, 0) x = (0, 0) := by rw [el_m_c, el_m_0]
theorem el_m_1 (s n : Int) (x : el_E) : el_m s n (1, 0) x = x := by
  unfold el_m
  exact el_ext (by grind) (by grind)
theorem el_N_m (s n : Int) (x y : el_E) : el_N s n (el_m s n x y) = el_N s n x * el_N s n y := by
  unfold el_N el_m
  grind
theorem el_N_i (s n k : Int) : el_N s n (k, 0) = k * k := by
  unfold el_N
  grind
theorem el_j_m (s n : Int) (x y : el_E) : el_j s (el_m s n x y) = el_m s n (el_j s x) (el_j s y) := by
  unfold el_j el_m
  exact el_ext (by grind) (by grind)
theorem el_j_s (s : Int) (x y : el_E) : el_j s (el_s x y) = el_s (el_j s x) (el_j s y) := by
  unfold el_j el_s
  exact el_ext (by grind) (by grind)
theorem el_j_j (s : Int) (x : el_E) : el_j s (el_j s x) = x := by
  unfold el_j
  exact el_ext (by grind) (by grind)
/-- an additive set -/
def la_C (S : el_E → Prop) : Prop := S (0, 0) ∧ ∀ x y, S x → S y → S (el_s x y)
theorem la_C.neg {S : el_E → Prop} (h : la_C S) {x : el_E} (hx : S x) : S (-x.1, -x.2) := by
  have := h.2 (0, 0) x h.1 hx
  unfold el_s at this
  dsimp only at this
  rw [Int.zero_sub, Int.zero_sub] at this
  exact this
theorem la_C.add {S : el_E → Prop} (h : la_C S) {x y : el_E} (hx : S x) (hy : S y) : S (x.1 + y.1, x.2 + y.2) := by
  have := h.2 x (-y.1, -y.2) hx (h.neg hy)
  unfold el_s at this
  dsimp only at this
  rw [Int.sub_neg, Int.sub_neg] at this
  exact this
theorem la_C.nat {S : el_E → Prop} (h : la_C S) {x : el_E} (hx : S x) (n : Nat) : S ((n : Int) * x.1, (n : Int) * x.2) := by
  induction n with
  | zero =>
    have e : (((0 : Nat) : Int) * x.1, ((0 : Nat) : Int) * x.2) = ((0, 0) : el_E) := el_ext (by simp) (by simp)
    rw [e]
    exact h.1
  | succ n ih =>
    have := h.add ih hx
    have e : (((n + 1 : Nat) : Int) * x.1, ((n + 1 : Nat) : Int) * x.2) = (((n : Int) * x.1 + x.1, (n : Int) * x.2 + x.2) : el_E) := el_ext (by grind) (by grind)
    rw [e]
    exact this
theorem la_C.mul {S : el_E → Prop} (h : la_C S) {x : el_E} (hx : S x) (k : Int) : S (k * x.1, k * x.2) := by
  rcases Int.le_total 0 k with hk | hk
  · have := h.nat hx k.toNat
    rw [Int.toNat_of_nonneg hk] at this
    exact this
  · have := h.neg (h.nat hx (-k).toNat)
    dsimp only at this
    rw [Int.toNat_of_nonneg (by omega)] at this
    have e : ((k * x.1, k * x.2) : el_E) = (-(-k * x.1), -(-k * x.2)) := el_ext (by grind) (by grind)
    rw [e]
    exact this
def la_m (s n : Int) (L M : el_E → Prop) : el_E → Prop := fun x => ∀ S : el_E → Prop, la_C S → (∀ l m, L l → M m → S (el_m s n l m)) → S x
theorem la_m_C (s n : Int) (L M : el_E → Prop) : la_C (la_m s n L M) :=
  ⟨fun S hS _ => hS.1, fun x y hx hy S hS h => hS.2 x y (hx S hS h) (hy S hS h)⟩
theorem la_m_in {s n : Int} {L M : el_E → Prop} {l m : el_E} (hl : L l) (hm : M m) : la_m s n L M (el_m s n l m) := fun _ _ h => h l m hl hm
theorem la_eq {L M : el_E → Prop} (h1 : ∀ x, L x → M x) (h2 : ∀ x, M x → L x) : L = M := funext fun x => propext ⟨h1 x, h2 x⟩
theorem la_m_c (s n : Int) (L M : el_E → Prop) : la_m s n L M = la_m s n M L := by
  refine la_eq (fun x h => ?_) (fun x h => ?_)
  · exact h _ (la_m_C s n M L) (fun l m hl hm => by rw [el_m_c]; exact la_m_in hm hl)
  · exact h _ (la_m_C s n L M) (fun l m hl hm => by rw [el_m_c]; exact la_m_in hm hl)
theorem la_m_a1 (s n : Int) (L M K : el_E → Prop) (x : el_E) (h : la_m s n (la_m s n L M) K x) : la_m s n L (la_m s n M K) x := by
  refine h _ (la_m_C s n L (la_m s n M K)) (fun y k hy hk => ?_)
  refine hy (fun z => la_m s n L (la_m s n M K) (el_m s n z k)) ⟨?_, fun a b ha hb => ?_⟩ (fun l m hl hm => ?_)
  · show la_m s n L (la_m s n M K) (el_m s n (0, 0) k)
    rw [el_m_0l]
    exact (la_m_C s n _ _).1
  · show la_m s n L (la_m s n M K) (el_m s n (el_s a b) k)
    rw [el_m_sl]
    exact (la_m_C s n _ _).2 _ _ ha hb
  · show la_m s n L (la_m s n M K) (el_m s n (el_m s n l m) k)
    rw [el_m_a]
    exact la_m_in hl (la_m_in hm hk)
theorem la_m_a (s n : Int) (L M K : el_E → Prop) : la_m s n (la_m s n L M) K = la_m s n L (la_m s n M K) := by
  refine la_eq (la_m_a1 s n L M K) (fun x h => ?_)
  rw [la_m_c, la_m_c s n M K] at h
  rw [la_m_c, la_m_c s n L M]
  exact la_m_a1 s n K M L x h
def la_s (s n : Int) (a : el_E) (L : el_E → Prop) : el_E → Prop := fun x => ∃ l, L l ∧ x = el_m s n a l
theorem la_s_C {s n : Int} (a : el_E) {L : el_E → Prop} (h : la_C L) : la_C (la_s s n a L) := by
  refine ⟨⟨(0, 0), h.1, (el_m_0 s n a).symm⟩, ?_⟩
  rintro x y ⟨l, hl, rfl⟩ ⟨k, hk, rfl⟩
  exact ⟨el_s l k, h.2 l k hl hk, (el_m_s s n a l k).symm⟩
theorem la_s_m (s n : Int) (a : el_E) (L M : el_E → Prop) : la_m s n (la_s s n a L) M = la_s s n a (la_m s n L M) := by
  refine la_eq (fun x h => ?_) (fun x h => ?_)
  · refine h _ (la_s_C a (la_m_C s n L M)) ?_
    rintro y m ⟨l, hl, rfl⟩ hm
    exact ⟨el_m s n l m, la_m_in hl hm, el_m_a s n a l m⟩
  · obtain ⟨y, hy, rfl⟩ := h
    refine hy (fun z => la_m s n (la_s s n a L) M (el_m s n a z)) ⟨?_, fun p q hp hq => ?_⟩ (fun l m hl hm => ?_)
    · show la_m s n (la_s s n a L) M (el_m s n a (0, 0))
      rw [el_m_0]
      exact (la_m_C s n _ _).1
    · show la_m s n (la_s s n a L) M (el_m s n a (el_s p q))
      rw [el_m_s]
      exact (la_m_C s n _ _).2 _ _ hp hq
    · show la_m s n (la_s s n a L) M (el_m s n a (el_m s n l m))
      rw [← el_m_a]
      exact la_m_in ⟨l, hl, rfl⟩ hm
theorem la_s_r (s n : Int) (a : el_E) (L M : el_E → Prop) : la_m s n L (la_s s n a M) = la_s s n a (la_m s n L M) := by
  rw [la_m_c, la_s_m, la_m_c]
theorem la_s_s (s n : Int) (a b : el_E) (L : el_E → Prop) : la_s s n a (la_s s n b L) = la_s s n (el_m s n a b) L := by
  refine la_eq ?_ ?_
  · rintro x ⟨y, ⟨l, hl, rfl⟩, rfl⟩
    exact ⟨l, hl, (el_m_a s n a b l).symm⟩
  · rintro x ⟨l, hl, rfl⟩
    exact ⟨el_m s n b l, ⟨l, hl, rfl⟩, el_m_a s n a b l⟩
theorem la_s_x (s n : Int) (a b : el_E) (L : el_E → Prop) : la_s s n a (la_s s n b L) = la_s s n b (la_s s n a L) := by
  rw [la_s_s, la_s_s, el_m_c]
theorem la_s_1 (s n : Int) (L : el_E → Prop) : la_s s n (1, 0) L = L := by
  refine la_eq ?_ (fun x hx => ⟨x, hx, (el_m_1 s n x).symm⟩)
  rintro x ⟨l, hl, rfl⟩
  rw [el_m_1]
  exact hl
theorem la_s_i {s n k : Int} {L M : el_E → Prop} (hk : k ≠ 0) (h : la_s s n (k, 0) L = la_s s n (k, 0) M) : L = M := by
  have one : ∀ {L M : el_E → Prop}, la_s s n (k, 0) L = la_s s n (k, 0) M → ∀ x, L x → M x := by
    intro L M h x hx
    have h1 : la_s s n (k, 0) M (el_m s n (k, 0) x) := by rw [← h]; exact ⟨x, hx, rfl⟩
    obtain ⟨y, hy, e⟩ := h1
    unfold el_m at e
    dsimp only at e
    have e1 := congrArg Prod.fst e
    have e2 := congrArg Prod.snd e
    dsimp only at e1 e2
    have f1 : x.1 = y.1 := Int.eq_of_mul_eq_mul_left hk (by grind)
    have f2 : x.2 = y.2 := Int.eq_of_mul_eq_mul_left hk (by grind)
    have f : x = y := Prod.ext f1 f2
    rw [f]
    exact hy
  exact la_eq (one h) (one h.symm)
/-- conjugates -/
def la_j (s : Int) (L : el_E → Prop) : el_E → Prop := fun x => L (el_j s x)
theorem la_j_m1 (s n : Int) (L M : el_E → Prop) (x : el_E) (h : la_m s n (la_j s L) (la_j s M) x) : la_j s (la_m s n L M) x := by
  refine h _ ⟨?_, fun a b ha hb => ?_⟩ (fun l m hl hm => ?_)
  · show la_m s n L M (el_j s (0, 0))
    have e : el_j s (0, 0) = (0, 0) := by
      unfold el_j
      exact el_ext (by grind) (by grind)
    rw [e]
    exact (la_m_C s n L M).1
  · show la_m s n L M (el_j s (el_s a b))
    rw [el_j_s]
    exact (la_m_C s n L M).2 _ _ ha hb
  · show la_m s n L M (el_j s (el_m s n l m))
    rw [el_j_m]
    exact la_m_in hl hm
theorem la_j_j (s : Int) (L : el_E → Prop) : la_j s (la_j s L) = L := by
  funext x
  show L (el_j s (el_j s x)) = L x
  rw [el_j_j]
theorem la_j_m (s n : Int) (L M : el_E → Prop) : la_m s n (la_j s L) (la_j s M) = la_j s (la_m s n L M) := by
  refine la_eq (la_j_m1 s n L M) (fun x h => ?_)
  have h1 := la_j_m1 s n (la_j s L) (la_j s M) (el_j s x)
  rw [la_j_j, la_j_j] at h1
  have h2 := h1 h
  show la_m s n (la_j s L) (la_j s M) x
  have h3 : la_m s n (la_j s L) (la_j s M) (el_j s (el_j s x)) := h2
  rw [el_j_j] at h3
  exact h3
theorem la_j_s (s n : Int) (a : el_E) (L : el_E → Prop) : la_j s (la_s s n a L) = la_s s n (el_j s a) (la_j s L) := by
  refine la_eq ?_ ?_
  · rintro x ⟨l, hl, e⟩
    refine ⟨el_j s l, ?_, ?_⟩
    · show L (el_j s (el_j s l))
      rw [el_j_j]
      exact hl
    · rw [← el_j_m, ← e, el_j_j]
  · rintro x ⟨l, hl, rfl⟩
    refine ⟨el_j s l, hl, ?_⟩
    rw [el_j_m, el_j_j]
/-- the set of a form: a, and B out of b = 2 B + s -/
def la_f (a B : Int) : el_E → Prop := fun x => ∃ k : Int, x.1 = a * k + B * x.2
theorem la_f_C (a B : Int) : la_C (la_f a B) := by
  refine ⟨⟨0, by simp⟩, ?_⟩
  rintro x y ⟨k, hk⟩ ⟨j, hj⟩
  exact ⟨k - j, by unfold el_s; dsimp only; grind⟩
theorem la_f_a (a B : Int) : la_f a B (a, 0) := ⟨1, by simp⟩
theorem la_f_t (a B : Int) : la_f a B (B, 1) := ⟨0, by simp⟩
theorem la_f_T (a B k : Int) : la_f a (B + a * k) = la_f a B := by
  refine la_eq ?_ ?_
  · rintro x ⟨j, hj⟩
    exact ⟨j + k * x.2, by grind⟩
  · rintro x ⟨j, hj⟩
    exact ⟨j - k * x.2, by grind⟩
/-- what generates the set of a form lies in an additive set: so does the set -/
theorem la_f_in {a B : Int} {S : el_E → Prop} (h : la_C S) (h1 : S (a, 0)) (h2 : S (B, 1)) (x : el_E) (hx : la_f a B x) : S x := by
  obtain ⟨k, hk⟩ := hx
  have h3 := h.add (h.mul h1 k) (h.mul h2 x.2)
  dsimp only at h3
  have e : x = (k * a + x.2 * B, k * 0 + x.2 * 1) := Prod.ext (by dsimp only; grind) (by dsimp only; grind)
  rw [e]
  exact h3
/-- the product of two forms' sets lies in an additive set if the four products do -/
theorem la_m_f {s n a B a' B' : Int} {S : el_E → Prop} (h : la_C S) (h1 : S (el_m s n (a, 0) (a', 0))) (h2 : S (el_m s n (a, 0) (B', 1))) (h3 : S (el_m s n (B, 1) (a', 0))) (h4 : S (el_m s n (B, 1) (B', 1))) (x : el_E) (hx : la_m s n (la_f a B) (la_f a' B') x) : S x := by
  refine hx S h (fun l m hl hm => ?_)
  refine la_f_in (S := fun z => S (el_m s n z m)) ⟨?_, fun p q hp hq => ?_⟩ ?_ ?_ l hl
  · show S (el_m s n (0, 0) m)
    rw [el_m_0l]
    exact h.1
  · show S (el_m s n (el_s p q) m)
    rw [el_m_sl]
    exact h.2 _ _ hp hq
  · refine la_f_in (S := fun z => S (el_m s n (a, 0) z)) ⟨?_, fun p q hp hq => ?_⟩ h1 h2 m hm
    · show S (el_m s n (a, 0) (0, 0))
      rw [el_m_0]
      exact h.1
    · show S (el_m s n (a, 0) (el_s p q))
      rw [el_m_s]
      exact h.2 _ _ hp hq
  · refine la_f_in (S := fun z => S (el_m s n (B, 1) z)) ⟨?_, fun p q hp hq => ?_⟩ h3 h4 m hm
    · show S (el_m s n (B, 1) (0, 0))
      rw [el_m_0]
      exact h.1
    · show S (el_m s n (B, 1) (el_s p q))
      rw [el_m_s]
      exact h.2 _ _ hp hq
end
section
/-! Classes of forms as sets of numbers up to a factor: equal classes merge and merging forms are of equal classes; products. -/
def fm_B (s : Int) (g : fm_F) : Int := (g.2.1 - s) / 2
def fm_L (s : Int) (g : fm_F) : el_E → Prop := la_f g.1 (fm_B s g)
/-- s is 0 or 1 and D is 4 n + s -/
def fm_sn (D s n : Int) : Prop := (s = 0 ∨ s = 1) ∧ D = 4 * n + s
theorem fm_half {D s n a b c : Int} (h : fm_sn D s n) (hd : fm_disc D (a, b, c)) : b = 2 * fm_B s (a, b, c) + s ∧ fm_B s (a, b, c) * fm_B s (a, b, c) + s * fm_B s (a, b, c) - n = a * c := by
  obtain ⟨h1, h2⟩ := h
  unfold fm_disc at hd
  dsimp only at hd
  unfold fm_B
  dsimp only
  obtain ⟨q, hq⟩ : ∃ q, q = b / 2 := ⟨_, rfl⟩
  have hb : b = 2 * ((b - s) / 2) + s := by
    rcases Int.emod_two_eq b with k | k
    · have e : b = 2 * q := by omega
      have e2 : b * b = 4 * (q * q) := by rw [e]; grind
      omega
    · have e : b = 2 * q + 1 := by omega
      have e2 : b * b = 4 * (q * q + q) + 1 := by rw [e]; grind
      omega
  refine ⟨hb, ?_⟩
  generalize (b - s) / 2 = B at hb ⊢
  subst hb
  rcases h1 with rfl | rfl <;> grind
theorem fm_B_of {s b B : Int} (a c : Int) (h : b = 2 * B + s) : fm_B s (a, b, c) = B := by
  unfold fm_B
  dsimp only
  omega
def fm_eq (s n : Int) (f g : fm_F) : Prop := ∃ x y : el_E, la_s s n x (fm_L s f) = la_s s n y (fm_L s g) ∧ el_N s n x * f.1 = el_N s n y * g.1 ∧ el_N s n x ≠ 0 ∧ el_N s n y ≠ 0
theorem fm_eq.rf {s n : Int} (f : fm_F) : fm_eq s n f f := ⟨(1, 0), (1, 0), rfl, rfl, by rw [el_N_i]; decide, by rw [el_N_i]; decide⟩
theorem fm_eq.sy {s n : Int} {f g : fm_F} (h : fm_eq s n f g) : fm_eq s n g f := by
  obtain ⟨x, y, h1, h2, h3, h4⟩ := h
  exact ⟨y, x, h1.symm, h2.symm, h4, h3⟩
theorem fm_eq.tr {s n : Int} {f g h : fm_F} (p : fm_eq s n f g) (q : fm_eq s n g h) : fm_eq s n f h := by
  obtain ⟨x, y, h1, h2, h3, h4⟩ := p
  obtain ⟨z, u, g1, g2, g3, g4⟩ := q
  refine ⟨el_m s n z x, el_m s n y u, ?_, ?_, ?_, ?_⟩
  · rw [← la_s_s, h1, la_s_x, g1, la_s_s]
  · rw [el_N_m, el_N_m, Int.mul_assoc, h2]
    rw [Int.mul_assoc, ← g2]
    grind
  · rw [el_N_m]; exact Int.mul_ne_zero g3 h3
  · rw [el_N_m]; exact Int.mul_ne_zero h4 g4
theorem fm_eq_S {D s n a b c : Int} (h : fm_sn D s n) (ha : a ≠ 0) (hc : c ≠ 0) (hd : fm_disc D (a, b, c)) : fm_eq s n (a, b, c) (c, -b, a) := by
  obtain ⟨hb, hac⟩ := fm_half h hd
  have hB : fm_B s (c, -b, a) = -fm_B s (a, b, c) - s := fm_B_of c a (by omega)
  unfold fm_eq fm_L
  rw [hB]
  generalize fm_B s (a, b, c) = B at hb hac ⊢
  have hN : el_N s n (B + s, -1) = a * c := by
    unfold el_N
    dsimp only
    grind
  refine ⟨(B + s, -1), (a, 0), la_eq ?_ ?_, ?_, ?_, ?_⟩
  · rintro x ⟨l, ⟨k, hk⟩, rfl⟩
    dsimp only at hk
    refine ⟨(k * (B + s) + l.2 * c, -k), ⟨l.2, by dsimp only; grind⟩, ?_⟩
    unfold el_m
    dsimp only
    rw [hk]
    exact el_ext (by grind) (by grind)
  · rintro x ⟨l, ⟨k, hk⟩, rfl⟩
    dsimp only at hk
    refine ⟨(a * (-l.2) + B * k, k), ⟨-l.2, rfl⟩, ?_⟩
    unfold el_m
    dsimp only
    rw [hk]
    exact el_ext (by grind) (by grind)
  · rw [hN, el_N_i]
    dsimp only
    grind
  · rw [hN]; exact Int.mul_ne_zero ha hc
  · rw [el_N_i]; exact Int.mul_ne_zero ha ha
theorem fm_eq_L {s n : Int} {f g : fm_F} (h1 : f.1 = g.1) (h2 : fm_L s f = fm_L s g) : fm_eq s n f g := ⟨(1, 0), (1, 0), by rw [h2], by rw [h1], by rw [el_N_i]; decide, by rw [el_N_i]; decide⟩
theorem fm_eq_T {D s n a b c : Int} (k : Int) (h : fm_sn D s n) (hd : fm_disc D (a, b, c)) (c' : Int) : fm_eq s n (a, b, c) (a, b + 2 * a * k, c') := by
  obtain ⟨hb, -⟩ := fm_half h hd
  have hB : fm_B s (a, b + 2 * a * k, c') = fm_B s (a, b, c) + a * k := fm_B_of a c' (by grind)
  refine fm_eq_L rfl ?_
  unfold fm_L
  rw [hB]
  exact (la_f_T _ _ _).symm
theorem fm_eq_rho {D w s n : Int} {g : fm_F} (ho : fm_ok D w) (h : fm_sn D s n) (hd : fm_disc D g) : fm_eq s n g (fm_rho D w g) := by
  obtain ⟨a, b, c⟩ := g
  obtain ⟨ha, hc⟩ := fm_ne ho hd
  obtain ⟨k, hk, -, -⟩ := fm_rho_ex (w := w) hc hd
  rw [hk]
  exact (fm_eq_S h ha hc hd).tr (fm_eq_T k h (fm_S_disc hd) _)
theorem fm_eq_it {D w s n : Int} (ho : fm_ok D w) (h : fm_sn D s n) (i : Nat) {g : fm_F} (hd : fm_disc D g) : fm_eq s n g (fm_it D w i g) := by
  induction i generalizing g with
  | zero => exact fm_eq.rf g
  | succ i ih => exact (fm_eq_rho ho h hd).tr (ih (fm_rho_disc ho hd))
/-- merging forms are of one class -/
theorem fm_eq_mg {D w s n : Int} {f g : fm_F} (ho : fm_ok D w) (h : fm_sn D s n) (hf : fm_disc D f) (hg : fm_disc D g) (hm : fm_mg D w f g) : fm_eq s n f g := by
  obtain ⟨i, j, e⟩ := hm
  have h1 := fm_eq_it ho h i hf
  rw [e] at h1
  exact h1.tr (fm_eq_it ho h j hg).sy
theorem el_det (s n : Int) (a x y : el_E) : (el_m s n a x).1 * (el_m s n a y).2 - (el_m s n a x).2 * (el_m s n a y).1 = el_N s n a * (x.1 * y.2 - x.2 * y.1) := by
  unfold el_m el_N
  dsimp only
  grind
theorem fm_cancel {x y z : Int} (hx : x ≠ 0) (h : x * y = x * z) : y = z := Int.eq_of_mul_eq_mul_left hx h
/-- forms of one class merge -/
theorem fm_mg_eq {D w s n : Int} {f g : fm_F} (ho : fm_ok D w) (h : fm_sn D s n) (hf : fm_disc D f) (hg : fm_disc D g) (he : fm_eq s n f g) : fm_mg D w f g := by
  obtain ⟨a, b, c⟩ := f
  obtain ⟨a', b', c'⟩ := g
  obtain ⟨ha, hc⟩ := fm_ne ho hf
  obtain ⟨hb, hac⟩ := fm_half h hf
  obtain ⟨hb', hac'⟩ := fm_half h hg
  obtain ⟨x, y, h1, h2, h3, h4⟩ := he
  unfold fm_L at h1
  dsimp only at h1 h2
  generalize fm_B s (a, b, c) = B at hb hac h1
  generalize fm_B s (a', b', c') = B' at hb' hac' h1
  have m1 : la_s s n x (la_f a B) (el_m s n y (a', 0)) := by rw [h1]; exact ⟨_, la_f_a a' B', rfl⟩
  have m2 : la_s s n x (la_f a B) (el_m s n y (B', 1)) := by rw [h1]; exact ⟨_, la_f_t a' B', rfl⟩
  obtain ⟨⟨l1, r⟩, ⟨p, hp⟩, e1⟩ := m1
  obtain ⟨⟨l2, t⟩, ⟨q, hq⟩, e2⟩ := m2
  dsimp only at hp hq
  subst hp
  subst hq
  have d1 := el_det s n y (a', 0) (B', 1)
  rw [e1, e2, el_det] at d1
  dsimp only at d1
  have n1 := congrArg (el_N s n) e1
  rw [el_N_m, el_N_m] at n1
  have n2 := congrArg (el_N s n) e2
  rw [el_N_m, el_N_m] at n2
  have e3 : el_m s n y (el_s (a', 0) (B', 1)) = el_m s n x (el_s (a * p + B * r, r) (a * q + B * t, t)) := by
    rw [el_m_s, el_m_s, e1, e2]
  have n3 := congrArg (el_N s n) e3
  rw [el_N_m, el_N_m] at n3
  generalize el_N s n x = X at h2 h3 d1 n1 n2 n3
  generalize el_N s n y = Y at h2 h4 d1 n1 n2 n3
  have hXa : X * a ≠ 0 := Int.mul_ne_zero h3 ha
  have hdet : p * t - q * r = 1 := by
    refine fm_cancel hXa ?_
    grind
  have E1 : el_N s n (a', 0) = a' * a' := el_N_i s n a'
  have E2 : el_N s n (B', 1) = a' * c' := by
    unfold el_N
    dsimp only
    grind
  have E3 : el_N s n (el_s (a', 0) (B', 1)) = a' * (a' - b' + c') := by
    unfold el_N el_s
    dsimp only
    grind
  have F1 : ∀ u v : Int, el_N s n (a * u + B * v, v) = a * (a * (u * u) + b * (u * v) + c * (v * v)) := by
    intro u v
    unfold el_N
    dsimp only
    grind
  have F3 : el_s (a * p + B * r, r) (a * q + B * t, t) = (a * (p - q) + B * (r - t), r - t) := by
    unfold el_s
    exact el_ext (by grind) (by grind)
  rw [E1, F1] at n1
  rw [E2, F1] at n2
  rw [E3, F3, F1] at n3
  have c1 : a' = a * (p * p) + b * (p * r) + c * (r * r) := fm_cancel hXa (by grind)
  have c2 : c' = a * (q * q) + b * (q * t) + c * (t * t) := fm_cancel hXa (by
    have z1 : X * a * c' = Y * (a' * c') := by rw [h2, Int.mul_assoc]
    rw [z1, n2, Int.mul_assoc])
  have c3 : a' - b' + c' = a * ((p - q) * (p - q)) + b * ((p - q) * (r - t)) + c * ((r - t) * (r - t)) := fm_cancel hXa (by
    have z1 : X * a * (a' - b' + c') = Y * (a' * (a' - b' + c')) := by rw [h2, Int.mul_assoc]
    rw [z1, n3, Int.mul_assoc])
  have hfin : ((a', b', c') : fm_F) = fm_at (a, b, c) p q r t := by
    unfold fm_at
    dsimp only
    exact fm_ext c1 (by grind) c2
  rw [hfin]
  refine fm_mg_at ho ((fm_ab r).toNat + 1) a b c p q r t ?_ hdet hf
  rcases fm_ab_cases r with k | k <;> omega
/-- F is of the product of the classes of f and g -/
def fm_cp (s n : Int) (f g F : fm_F) : Prop := ∃ x y : el_E, la_s s n x (la_m s n (fm_L s f) (fm_L s g)) = la_s s n y (fm_L s F) ∧ el_N s n x * (f.1 * g.1) = el_N s n y * F.1 ∧ el_N s n x ≠ 0 ∧ el_N s n y ≠ 0
theorem fm_cp.fn {s n : Int} {f g F G : fm_F} (h : fm_cp s n f g F) (k : fm_cp s n f g G) : fm_eq s n F G := by
  obtain ⟨x, y, h1, h2, h3, h4⟩ := h
  obtain ⟨z, u, g1, g2, g3, g4⟩ := k
  refine ⟨el_m s n z y, el_m s n x u, ?_, ?_, ?_, ?_⟩
  · rw [← la_s_s, ← h1, la_s_x, g1, la_s_s]
  · rw [el_N_m, el_N_m, Int.mul_assoc, ← h2, Int.mul_assoc, ← g2]
    grind
  · rw [el_N_m]; exact Int.mul_ne_zero g3 h4
  · rw [el_N_m]; exact Int.mul_ne_zero h3 g4
theorem fm_cp.cm {s n : Int} {f g F : fm_F} (h : fm_cp s n f g F) : fm_cp s n g f F := by
  obtain ⟨x, y, h1, h2, h3, h4⟩ := h
  exact ⟨x, y, by rw [la_m_c]; exact h1, by rw [Int.mul_comm g.1]; exact h2, h3, h4⟩
theorem fm_cp.r {s n : Int} {f g F G : fm_F} (h : fm_cp s n f g F) (k : fm_eq s n F G) : fm_cp s n f g G := by
  obtain ⟨x, y, h1, h2, h3, h4⟩ := h
  obtain ⟨z, u, g1, g2, g3, g4⟩ := k
  refine ⟨el_m s n z x, el_m s n y u, ?_, ?_, ?_, ?_⟩
  · rw [← la_s_s, h1, la_s_x, g1, la_s_s]
  · rw [el_N_m, el_N_m, Int.mul_assoc, h2, Int.mul_assoc, ← g2]
    grind
  · rw [el_N_m]; exact Int.mul_ne_zero g3 h3
  · rw [el_N_m]; exact Int.mul_ne_zero h4 g4
theorem fm_cp.l {s n : Int} {f f' g F : fm_F} (h : fm_cp s n f g F) (k : fm_eq s n f f') : fm_cp s n f' g F := by
  obtain ⟨x, y, h1, h2, h3, h4⟩ := h
  obtain ⟨z, u, g1, g2, g3, g4⟩ := k
  refine ⟨el_m s n u x, el_m s n z y, ?_, ?_, ?_, ?_⟩
  · rw [← la_s_s, la_s_x, ← la_s_m, ← g1, la_s_m, la_s_x, h1, la_s_s]
  · rw [el_N_m, el_N_m]
    grind
  · rw [el_N_m]; exact Int.mul_ne_zero g4 h3
  · rw [el_N_m]; exact Int.mul_ne_zero g3 h4
theorem fm_cp.m {s n : Int} {f g g' F : fm_F} (h : fm_cp s n f g F) (k : fm_eq s n g g') : fm_cp s n f g' F := (h.cm.l k).cm
theorem fm_cp.as {s n : Int} {f g h X Y Z : fm_F} (p : fm_cp s n f g X) (q : fm_cp s n X h Z) (r : fm_cp s n g h Y) : fm_cp s n f Y Z := by
  obtain ⟨x, y, h1, h2, h3, h4⟩ := p
  obtain ⟨z, u, g1, g2, g3, g4⟩ := q
  obtain ⟨v, t, k1, k2, k3, k4⟩ := r
  refine ⟨el_m s n z (el_m s n x t), el_m s n v (el_m s n y u), ?_, ?_, ?_, ?_⟩
  · rw [← la_s_s, ← la_s_s, ← la_s_r, ← k1, la_s_r, ← la_m_a, la_s_x s n x v, ← la_s_m s n x, h1, la_s_m, la_s_x s n v y, la_s_x s n z y, la_s_x s n z v, g1, la_s_s, la_s_s, el_m_l, el_m_a]
  · rw [el_N_m, el_N_m, el_N_m, el_N_m]
    grind
  · rw [el_N_m, el_N_m]; exact Int.mul_ne_zero g3 (Int.mul_ne_zero h3 k4)
  · rw [el_N_m, el_N_m]; exact Int.mul_ne_zero k3 (Int.mul_ne_zero h4 g4)
/-- ONE -/
def fm_one (s n : Int) : fm_F := (1, s, -n)
theorem fm_one_disc {D s n : Int} (h : fm_sn D s n) : fm_disc D (fm_one s n) := by
  obtain ⟨h1, h2⟩ := h
  unfold fm_disc fm_one
  dsimp only
  rcases h1 with rfl | rfl <;> omega
theorem fm_one_L (s n : Int) : fm_L s (fm_one s n) = fun _ => True := by
  unfold fm_L fm_one
  dsimp only
  rw [fm_B_of 1 (-n) (B := 0) (by omega)]
  exact la_eq (fun _ _ => trivial) (fun x _ => ⟨x.1, by simp⟩)
theorem fm_cp_one {D s n : Int} {f : fm_F} (h : fm_sn D s n) (hd : fm_disc D f) : fm_cp s n (fm_one s n) f f := by
  obtain ⟨a, b, c⟩ := f
  obtain ⟨hb, hac⟩ := fm_half h hd
  refine ⟨(1, 0), (1, 0), ?_, ?_, by rw [el_N_i]; decide, by rw [el_N_i]; decide⟩
  · rw [la_s_1, la_s_1, fm_one_L]
    unfold fm_L
    generalize fm_B s (a, b, c) = B at hb hac ⊢
    dsimp only
    refine la_eq (fun x hx => hx _ (la_f_C a B) ?_) (fun x hx => ?_)
    · rintro l m - ⟨k, hk⟩
      refine ⟨k * l.1 - k * (B * l.2) - c * (l.2 * m.2), ?_⟩
      unfold el_m
      dsimp only
      rw [hk]
      grind
    · have := la_m_in (s := s) (n := n) (L := fun _ => True) (M := la_f a B) (l := (1, 0)) (m := x) trivial hx
      rw [el_m_1] at this
      exact this
  · unfold fm_one
    dsimp only
    rw [Int.one_mul]
/-- the coefficients have only 1 in common -/
def fm_pr (f : fm_F) : Prop := ∃ i j k : Int, i * f.1 + j * f.2.1 + k * f.2.2 = 1
theorem la_comb {S : el_E → Prop} (h : la_C S) {p q r t : el_E} (hp : S p) (hq : S q) (hr : S r) (ht : S t) (i j k m : Int) : S (i * p.1 + j * q.1 + (k * r.1 + m * t.1), i * p.2 + j * q.2 + (k * r.2 + m * t.2)) :=
  h.add (h.add (h.mul hp i) (h.mul hq j)) (h.add (h.mul hr k) (h.mul ht m))
/-- the set of a form times the set of its inverse -/
theorem la_inv {s n a b c B i j k : Int} (hb : b = 2 * B + s) (hac : B * B + s * B - n = a * c) (hp : i * a + j * b + k * c = 1) : la_m s n (la_f a B) (la_f a (-B - s)) = la_s s n (a, 0) (fun _ => True) := by
  refine la_eq ?_ ?_
  · refine la_m_f (la_s_C (a, 0) ⟨trivial, fun _ _ _ _ => trivial⟩) ⟨(a, 0), trivial, rfl⟩ ⟨(-B - s, 1), trivial, rfl⟩ ⟨(B, 1), trivial, el_m_c s n _ _⟩ ⟨(-c, 0), trivial, ?_⟩
    unfold el_m
    dsimp only
    exact el_ext (by grind) (by grind)
  · rintro x ⟨l, -, rfl⟩
    have hC := la_m_C s n (la_f a B) (la_f a (-B - s))
    have p1 : la_m s n (la_f a B) (la_f a (-B - s)) (el_m s n (a, 0) (a, 0)) := la_m_in (la_f_a _ _) (la_f_a _ _)
    have p2 : la_m s n (la_f a B) (la_f a (-B - s)) (el_m s n (a, 0) (-B - s, 1)) := la_m_in (la_f_a _ _) (la_f_t _ _)
    have p3 : la_m s n (la_f a B) (la_f a (-B - s)) (el_m s n (B, 1) (a, 0)) := la_m_in (la_f_t _ _) (la_f_a _ _)
    have p4 : la_m s n (la_f a B) (la_f a (-B - s)) (el_m s n (B, 1) (-B - s, 1)) := la_m_in (la_f_t _ _) (la_f_t _ _)
    have q1 := la_comb hC p1 p2 p3 p4 i (-j) j (-k)
    unfold el_m at q1
    dsimp only at q1
    have e1 : ((i * (a * a + n * (0 * 0)) + -j * (a * (-B - s) + n * (0 * 1)) + (j * (B * a + n * (1 * 0)) + -k * (B * (-B - s) + n * (1 * 1))), i * (a * 0 + 0 * a + s * (0 * 0)) + -j * (a * 1 + 0 * (-B - s) + s * (0 * 1)) + (j * (B * 0 + 1 * a + s * (1 * 0)) + -k * (B * 1 + 1 * (-B - s) + s * (1 * 1)))) : el_E) = (a, 0) := el_ext (by grind) (by grind)
    rw [e1] at q1
    have q2 := hC.add (hC.mul q1 (l.1 - B * l.2)) (hC.mul p3 l.2)
    unfold el_m at q2 ⊢
    dsimp only at q2 ⊢
    have e2 : (((l.1 - B * l.2) * a + l.2 * (B * a + n * (1 * 0)), (l.1 - B * l.2) * 0 + l.2 * (B * 0 + 1 * a + s * (1 * 0))) : el_E) = (a * l.1 + n * (0 * l.2), a * l.2 + 0 * l.1 + s * (0 * l.2)) := el_ext (by grind) (by grind)
    rw [e2] at q2
    exact q2
def fm_inv (f : fm_F) : fm_F := (f.1, -f.2.1, f.2.2)
theorem fm_inv_disc {D : Int} {f : fm_F} (hd : fm_disc D f) : fm_disc D (fm_inv f) := by
  unfold fm_disc fm_inv at *
  dsimp only
  rw [Int.neg_mul_neg]
  exact hd
theorem fm_inv_pr {f : fm_F} (h : fm_pr f) : fm_pr (fm_inv f) := by
  obtain ⟨i, j, k, e⟩ := h
  exact ⟨i, -j, k, by unfold fm_inv; dsimp only; rw [Int.neg_mul_neg]; exact e⟩
theorem fm_inv_L {D s n : Int} {f : fm_F} (h : fm_sn D s n) (hd : fm_disc D f) : fm_L s (fm_inv f) = la_f f.1 (-fm_B s f - s) := by
  obtain ⟨a, b, c⟩ := f
  obtain ⟨hb, -⟩ := fm_half h hd
  unfold fm_L fm_inv
  dsimp only
  rw [fm_B_of a c (B := -fm_B s (a, b, c) - s) (by omega)]
theorem fm_cp_inv {D w s n : Int} {f : fm_F} (ho : fm_ok D w) (h : fm_sn D s n) (hd : fm_disc D f) (hp : fm_pr f) : fm_cp s n f (fm_inv f) (fm_one s n) := by
  have hL := fm_inv_L h hd
  obtain ⟨a, b, c⟩ := f
  obtain ⟨ha, -⟩ := fm_ne ho hd
  obtain ⟨hb, hac⟩ := fm_half h hd
  obtain ⟨i, j, k, e⟩ := hp
  refine ⟨(1, 0), (a, 0), ?_, ?_, by rw [el_N_i]; decide, by rw [el_N_i]; exact Int.mul_ne_zero ha ha⟩
  · rw [la_s_1, hL, fm_one_L]
    exact la_inv hb hac e
  · rw [el_N_i, el_N_i]
    unfold fm_inv fm_one
    dsimp only
    omega
/-- a factor may be taken away -/
theorem fm_cp_back {D w s n : Int} {f h X : fm_F} (ho : fm_ok D w) (hs : fm_sn D s n) (hf : fm_disc D f) (hd : fm_disc D h) (hp : fm_pr h) (k : fm_cp s n f h X) : fm_cp s n X (fm_inv h) f := by
  have h1 := fm_cp_inv ho hs hd hp
  have h2 := (fm_cp_one hs hf).cm
  -- (f h) h' = f (h h') = f ONE = f
  obtain ⟨x, y, a1, a2, a3, a4⟩ := k
  obtain ⟨z, u, b1, b2, b3, b4⟩ := h1
  obtain ⟨v, t, c1, c2, c3, c4⟩ := h2
  refine ⟨el_m s n v (el_m s n z y), el_m s n x (el_m s n u t), ?_, ?_, ?_, ?_⟩
  · rw [← la_s_s, ← la_s_s, ← la_s_m, ← a1, la_s_m, la_m_a, la_s_x s n z x, ← la_s_r s n z, b1, la_s_r, la_s_x s n v x, la_s_x s n v u, c1, la_s_s, la_s_s, el_m_a]
  · rw [el_N_m, el_N_m, el_N_m, el_N_m]
    unfold fm_one at b2 c2
    dsimp only at b2 c2
    grind
  · rw [el_N_m, el_N_m]; exact Int.mul_ne_zero c3 (Int.mul_ne_zero b3 a4)
  · rw [el_N_m, el_N_m]; exact Int.mul_ne_zero a3 (Int.mul_ne_zero b4 c4)
theorem fm_cp_cancel {D w s n : Int} {f f' h X : fm_F} (ho : fm_ok D w) (hs : fm_sn D s n) (hf : fm_disc D f) (hf' : fm_disc D f') (hd : fm_disc D h) (hp : fm_pr h) (k : fm_cp s n f h X) (k' : fm_cp s n f' h X) : fm_eq s n f f' :=
  (fm_cp_back ho hs hf hd hp k).fn (fm_cp_back ho hs hf' hd hp k')
theorem la_q2 {s n B a a' c' B' e x y z w1 : Int} (hac' : B' * B' + s * B' - n = a' * c') (he : x * a + y * a' + z * (B + B' + s) = e) (hw : x * a * B' + y * a' * B + z * (n + B * B') = e * w1) : e * (B' - w1) = a' * (y * (B' - B) + z * c') := by
  have h1 : e * (B' - w1) = (x * a + y * a' + z * (B + B' + s)) * B' - (x * a * B' + y * a' * B + z * (n + B * B')) := by rw [he, hw, Int.mul_sub]
  have h2 : (x * a + y * a' + z * (B + B' + s)) * B' - (x * a * B' + y * a' * B + z * (n + B * B')) = y * a' * (B' - B) + z * (B' * B' + s * B' - n) := by
    clear h1 he hw hac'
    grind
  rw [h1, h2, hac']
  clear h1 h2 he hw hac'
  grind
theorem la_q3 {s n B a c a' B' e x y z w1 : Int} (hac : B * B + s * B - n = a * c) (he : x * a + y * a' + z * (B + B' + s) = e) (hw : x * a * B' + y * a' * B + z * (n + B * B') = e * w1) : e * (B - w1) = a * (x * (B - B') + z * c) := by
  have h1 : e * (B - w1) = (x * a + y * a' + z * (B + B' + s)) * B - (x * a * B' + y * a' * B + z * (n + B * B')) := by rw [he, hw, Int.mul_sub]
  have h2 : (x * a + y * a' + z * (B + B' + s)) * B - (x * a * B' + y * a' * B + z * (n + B * B')) = x * a * (B - B') + z * (B * B + s * B - n) := by
    clear h1 he hw hac
    grind
  rw [h1, h2, hac]
  clear h1 h2 he hw hac
  grind
theorem la_q4 {s n B a c a' c' B' e x y z w1 : Int} (hac : B * B + s * B - n = a * c) (hac' : B' * B' + s * B' - n = a' * c') (he : x * a + y * a' + z * (B + B' + s) = e) (hw : x * a * B' + y * a' * B + z * (n + B * B') = e * w1) : e * (B * B' + n) = (B + B' + s) * (e * w1) - a * a' * (x * c' + y * c) := by
  have h1 : e * (B * B' + n) = (x * a + y * a' + z * (B + B' + s)) * (B * B' + n) := by rw [he]
  have h2 : (x * a + y * a' + z * (B + B' + s)) * (B * B' + n) = (B + B' + s) * (x * a * B' + y * a' * B + z * (n + B * B')) - x * a * (B' * B' + s * B' - n) - y * a' * (B * B + s * B - n) := by
    clear h1 he hw hac hac'
    grind
  rw [h1, h2, hac, hac', hw]
  clear h1 h2 he hw hac hac'
  grind
/-- the set of the product by its formula: e goes into a, a' and the half sum S of b and b' -/
theorem la_prod {s n a c B a' c' B' e x y z a1 a1' S1 w1 i j k : Int} (hac : B * B + s * B - n = a * c) (hac' : B' * B' + s * B' - n = a' * c') (ha : a = e * a1) (ha' : a' = e * a1') (hS : B + B' + s = e * S1) (he0 : e ≠ 0) (he : x * a + y * a' + z * (B + B' + s) = e) (hw : x * a * B' + y * a' * B + z * (n + B * B') = e * w1) (hp : i * a + j * (2 * B + s) + k * c = 1) : la_s s n (e, 0) (la_f (a1 * a1') w1) = la_m s n (la_f a B) (la_f a' B') := by
  have hC := la_m_C s n (la_f a B) (la_f a' B')
  have p1 : la_m s n (la_f a B) (la_f a' B') (el_m s n (a, 0) (a', 0)) := la_m_in (la_f_a _ _) (la_f_a _ _)
  have p2 : la_m s n (la_f a B) (la_f a' B') (el_m s n (a, 0) (B', 1)) := la_m_in (la_f_a _ _) (la_f_t _ _)
  have p3 : la_m s n (la_f a B) (la_f a' B') (el_m s n (B, 1) (a', 0)) := la_m_in (la_f_t _ _) (la_f_a _ _)
  have p4 : la_m s n (la_f a B) (la_f a' B') (el_m s n (B, 1) (B', 1)) := la_m_in (la_f_t _ _) (la_f_t _ _)
  have P1 : el_m s n (a, 0) (a', 0) = (a * a', 0) := by unfold el_m; exact el_ext (by simp) (by simp)
  have P2 : el_m s n (a, 0) (B', 1) = (a * B', a) := by unfold el_m; exact el_ext (by simp) (by simp)
  have P3 : el_m s n (B, 1) (a', 0) = (a' * B, a') := by unfold el_m; exact el_ext (by simp [Int.mul_comm]) (by simp)
  have P4 : el_m s n (B, 1) (B', 1) = (B * B' + n, B + B' + s) := by unfold el_m; exact el_ext (by simp) (by simp)
  have E0 : ∀ u v : Int, el_m s n (e, 0) (u, v) = (e * u, e * v) := by
    intro u v
    unfold el_m
    exact el_ext (by simp) (by simp)
  refine la_eq ?_ ?_
  · rintro q ⟨l, hl, rfl⟩
    refine la_f_in (S := fun z => la_m s n (la_f a B) (la_f a' B') (el_m s n (e, 0) z)) ⟨?_, fun p q hp hq => ?_⟩ ?_ ?_ l hl
    · show la_m s n _ _ (el_m s n (e, 0) (0, 0))
      rw [el_m_0]
      exact hC.1
    · show la_m s n _ _ (el_m s n (e, 0) (el_s p q))
      rw [el_m_s]
      exact hC.2 _ _ hp hq
    · have q1 := la_comb hC p1 p2 p3 p4 (i * a1 + j * S1) (-(j * a1')) (j * a1 + k * S1) (-(k * a1'))
      rw [P1, P2, P3, P4] at q1
      dsimp only at q1
      have e1 : (((i * a1 + j * S1) * (a * a') + -(j * a1') * (a * B') + ((j * a1 + k * S1) * (a' * B) + -(k * a1') * (B * B' + n)), (i * a1 + j * S1) * 0 + -(j * a1') * a + ((j * a1 + k * S1) * a' + -(k * a1') * (B + B' + s))) : el_E) = el_m s n (e, 0) (a1 * a1', 0) := by
        rw [E0]
        have t1 : e * (a1 * a1') = e * (a1 * a1') * (i * a + j * (2 * B + s) + k * c) := by rw [hp, Int.mul_one]
        have hB' : B' = e * S1 - B - s := by omega
        have hn : n = B * B + s * B - e * a1 * c := by rw [← ha]; omega
        refine el_ext ?_ ?_
        · rw [t1]
          clear t1 hp hw he hac hac' q1 p1 p2 p3 p4 P1 P2 P3 P4 E0 hC hS
          subst ha
          subst ha'
          subst hB'
          subst hn
          grind
        · clear t1 hp hw he hac hac' q1 p1 p2 p3 p4 P1 P2 P3 P4 E0 hC hn
          rw [hS]
          subst ha
          subst ha'
          clear hS hB'
          grind
      rw [e1] at q1
      exact q1
    · have q1 := la_comb hC p1 p2 p3 p4 0 x y z
      rw [P1, P2, P3, P4] at q1
      dsimp only at q1
      have e1 : ((0 * (a * a') + x * (a * B') + (y * (a' * B) + z * (B * B' + n)), 0 * 0 + x * a + (y * a' + z * (B + B' + s))) : el_E) = el_m s n (e, 0) (w1, 1) := by
        rw [E0, ← hw]
        refine el_ext ?_ ?_
        · clear hp hw he hac hac' q1 p1 p2 p3 p4 P1 P2 P3 P4 E0 hC hS ha ha'
          grind
        · omega
      rw [e1] at q1
      exact q1
  · have w2 : B' - w1 = a1' * (y * (B' - B) + z * c') := fm_cancel he0 (by
      rw [la_q2 hac' he hw, ha', Int.mul_assoc])
    have w3 : B - w1 = a1 * (x * (B - B') + z * c) := fm_cancel he0 (by
      rw [la_q3 hac he hw, ha, Int.mul_assoc])
    have w4 : B * B' + n = e * (S1 * w1 - a1 * a1' * (x * c' + y * c)) := fm_cancel he0 (by
      rw [la_q4 hac hac' he hw, hS, ha, ha']
      clear hp hw he hac hac' p1 p2 p3 p4 P1 P2 P3 P4 E0 hC hS ha ha' w2 w3
      grind)
    refine la_m_f (la_s_C (e, 0) (la_f_C _ _)) ?_ ?_ ?_ ?_
    · rw [P1]
      refine ⟨(a1 * a1' * e, 0), ⟨e, by dsimp only; omega⟩, ?_⟩
      rw [E0, ha, ha']
      clear hp hw he hac hac' p1 p2 p3 p4 P1 P2 P3 P4 E0 hC hS ha ha' w2 w3 w4
      exact el_ext (by grind) (by grind)
    · rw [P2]
      refine ⟨(a1 * B', a1), ⟨y * (B' - B) + z * c', ?_⟩, ?_⟩
      · dsimp only
        have : B' = w1 + a1' * (y * (B' - B) + z * c') := by omega
        generalize y * (B' - B) + z * c' = q at this ⊢
        rw [this]
        clear hp hw he hac hac' p1 p2 p3 p4 P1 P2 P3 P4 E0 hC hS ha ha' w2 w3 w4 this
        grind
      · rw [E0, ha]
        clear hp hw he hac hac' p1 p2 p3 p4 P1 P2 P3 P4 E0 hC hS ha ha' w2 w3 w4
        exact el_ext (by grind) (by grind)
    · rw [P3]
      refine ⟨(a1' * B, a1'), ⟨x * (B - B') + z * c, ?_⟩, ?_⟩
      · dsimp only
        have : B = w1 + a1 * (x * (B - B') + z * c) := by omega
        generalize x * (B - B') + z * c = q at this ⊢
        rw [this]
        clear hp hw he hac hac' p1 p2 p3 p4 P1 P2 P3 P4 E0 hC hS ha ha' w2 w3 w4 this
        grind
      · rw [E0, ha']
        clear hp hw he hac hac' p1 p2 p3 p4 P1 P2 P3 P4 E0 hC hS ha ha' w2 w3 w4
        exact el_ext (by grind) (by grind)
    · rw [P4]
      refine ⟨(S1 * w1 - a1 * a1' * (x * c' + y * c), S1), ⟨-(x * c' + y * c), ?_⟩, ?_⟩
      · dsimp only
        clear hp hw he hac hac' p1 p2 p3 p4 P1 P2 P3 P4 E0 hC hS ha ha' w2 w3 w4
        grind
      · rw [E0, ← w4, ← hS]
/-- the third coefficient of the product is whole -/
theorem fm_prod_c {s n a c B a' c' B' e x y z a1 a1' w1 : Int} (hac : B * B + s * B - n = a * c) (hac' : B' * B' + s * B' - n = a' * c') (ha : a = e * a1) (ha' : a' = e * a1') (he0 : e ≠ 0) (he : x * a + y * a' + z * (B + B' + s) = e) (hw : x * a * B' + y * a' * B + z * (n + B * B') = e * w1) : w1 * w1 + s * w1 - n = a1 * a1' * (x * x * (a * c') + y * y * (a' * c) + z * z * (c * c') + x * y * (2 * (B * B') + s * (B + B') - 2 * n) + x * z * (c' * (2 * B + s)) + y * z * (c * (2 * B' + s))) := by
  have h1 : (e * w1) * (e * w1) + s * ((e * w1) * e) - n * (e * e) = a * a' * (x * x * (a * c') + y * y * (a' * c) + z * z * (c * c') + x * y * (2 * (B * B') + s * (B + B') - 2 * n) + x * z * (c' * (2 * B + s)) + y * z * (c * (2 * B' + s))) := by
    rw [← hw]
    have hn : n = B * B + s * B - a * c := by omega
    clear hw ha ha' he0
    subst hn
    subst he
    grind
  refine fm_cancel (Int.mul_ne_zero he0 he0) ?_
  rw [ha, ha'] at h1
  rw [ha, ha']
  grind
/-- a product of forms whose coefficients have only 1 in common is such a form -/
theorem fm_pr_cp {D w s n : Int} {f g F : fm_F} (ho : fm_ok D w) (hs : fm_sn D s n) (hf : fm_disc D f) (hg : fm_disc D g) (hF : fm_disc D F) (pf : fm_pr f) (pg : fm_pr g) {e : Int} (he0 : e ≠ 0) (hL : la_s s n (e, 0) (fm_L s F) = la_m s n (fm_L s f) (fm_L s g)) (hA : F.1 * (e * e) = f.1 * g.1) : fm_pr F := by
  have jL : ∀ {q : fm_F}, fm_disc D q → la_j s (fm_L s q) = fm_L s (fm_inv q) := by
    intro q hq
    rw [fm_inv_L hs hq]
    unfold fm_L
    refine la_eq ?_ ?_
    · rintro x ⟨k, hk⟩
      unfold el_j at hk
      dsimp only at hk
      exact ⟨k, by grind⟩
    · rintro x ⟨k, hk⟩
      refine ⟨k, ?_⟩
      unfold el_j
      dsimp only
      grind
  have jc := la_j_m s n (fm_L s f) (fm_L s g)
  rw [← hL, la_j_s, jL hf, jL hg, jL hF] at jc
  have je : el_j s (e, 0) = (e, 0) := by
    unfold el_j
    exact el_ext (by grind) (by grind)
  rw [je] at jc
  have inv : ∀ {q : fm_F}, fm_disc D q → fm_pr q → la_m s n (fm_L s q) (fm_L s (fm_inv q)) = la_s s n (q.1, 0) (fun _ => True) := by
    intro q hq pq
    rw [fm_inv_L hs hq]
    obtain ⟨a, b, c⟩ := q
    obtain ⟨hb, hac⟩ := fm_half hs hq
    obtain ⟨i, j, k, e⟩ := pq
    exact la_inv hb hac e
  -- e e L_F L_F' = a a' O
  have all : la_m s n (fun _ => True) (fun _ => True) = fun _ => True := la_eq (fun _ _ => trivial) (fun x _ => by
    have := la_m_in (s := s) (n := n) (L := fun _ => True) (M := fun _ => True) (l := (1, 0)) (m := x) trivial trivial
    rw [el_m_1] at this
    exact this)
  have h1 : la_s s n (e, 0) (la_s s n (e, 0) (la_m s n (fm_L s F) (fm_L s (fm_inv F)))) = la_s s n (f.1, 0) (la_s s n (g.1, 0) (fun _ => True)) := by
    rw [← la_s_m, ← la_s_r, hL, ← jc, la_m_a, ← la_m_a s n (fm_L s g), la_m_c s n (fm_L s g), la_m_a s n (fm_L s (fm_inv f)), ← la_m_a, inv hf pf, inv hg pg, la_s_m, la_s_r, all]
  have h2 : la_s s n (f.1, 0) (la_s s n (g.1, 0) (fun _ => True)) = la_s s n (e, 0) (la_s s n (e, 0) (la_s s n (F.1, 0) (fun _ => True))) := by
    rw [la_s_s, la_s_s, la_s_s]
    refine congrArg (fun v => la_s s n v (fun _ => True)) ?_
    unfold el_m
    dsimp only
    exact el_ext (by grind) (by grind)
  have h3 := la_s_i he0 (la_s_i he0 (h1.trans h2))
  have h4 : la_m s n (fm_L s F) (fm_L s (fm_inv F)) (F.1, 0) := by
    rw [h3]
    refine ⟨(1, 0), trivial, ?_⟩
    unfold el_m
    dsimp only
    exact el_ext (by grind) (by grind)
  rw [fm_inv_L hs hF] at h4
  obtain ⟨A, b, C⟩ := F
  obtain ⟨hA0, -⟩ := fm_ne ho hF
  obtain ⟨hb, hac⟩ := fm_half hs hF
  unfold fm_L at h4
  generalize fm_B s (A, b, C) = B at hb hac h4
  dsimp only at h4
  have h5 := la_m_f (S := fun x => ∃ i j k l : Int, x = (A * A * i + A * B * j + A * (-B - s) * k - A * C * l, A * j + A * k)) ⟨⟨0, 0, 0, 0, el_ext (by grind) (by grind)⟩, ?_⟩ ⟨1, 0, 0, 0, ?_⟩ ⟨0, 0, 1, 0, ?_⟩ ⟨0, 1, 0, 0, ?_⟩ ⟨0, 0, 0, 1, ?_⟩ _ h4
  · obtain ⟨i, j, k, l, h6⟩ := h5
    have h7 := congrArg Prod.fst h6
    have h8 := congrArg Prod.snd h6
    dsimp only at h7 h8
    have hk : k = -j := by
      have : A * (j + k) = A * 0 := by grind
      have := fm_cancel hA0 this
      omega
    subst hk
    refine ⟨i, j, -l, ?_⟩
    dsimp only
    exact fm_cancel hA0 (by grind)
  · rintro x y ⟨i, j, k, l, rfl⟩ ⟨i', j', k', l', rfl⟩
    refine ⟨i - i', j - j', k - k', l - l', ?_⟩
    unfold el_s
    dsimp only
    exact el_ext (by grind) (by grind)
  · unfold el_m
    dsimp only
    exact el_ext (by grind) (by grind)
  · unfold el_m
    dsimp only
    exact el_ext (by grind) (by grind)
  · unfold el_m
    dsimp only
    exact el_ext (by grind) (by grind)
  · unfold el_m
    dsimp only
    exact el_ext (by grind) (by grind)
end
section
/-! Reduced forms: below 0 one in each class; above 0 a cycle of steps in each class; names. -/
def fm_red (D w : Int) (g : fm_F) : Prop := if D < 0 then fm_ab g.2.1 ≤ g.1 ∧ g.1 ≤ g.2.2 ∧ (0 ≤ g.2.1 ∨ (-g.2.1 ≠ g.1 ∧ g.1 ≠ g.2.2)) else 0 < g.2.1 ∧ g.2.1 ≤ w ∧ w < 2 * fm_ab g.1 + g.2.1 ∧ 2 * fm_ab g.1 - g.2.1 ≤ w
theorem fm_red_lt {D w a b c : Int} (h : D < 0) : fm_red D w (a, b, c) ↔ fm_ab b ≤ a ∧ a ≤ c ∧ (0 ≤ b ∨ (-b ≠ a ∧ a ≠ c)) := by
  unfold fm_red
  rw [if_pos h]
theorem fm_red_ge {D w a b c : Int} (h : ¬ D < 0) : fm_red D w (a, b, c) ↔ 0 < b ∧ b ≤ w ∧ w < 2 * fm_ab a + b ∧ 2 * fm_ab a - b ≤ w := by
  unfold fm_red
  rw [if_neg h]
theorem fm_ok_pos {D w : Int} (h : fm_ok D w) (hD : ¬ D < 0) : 0 ≤ w ∧ w * w < D ∧ D < (w + 1) * (w + 1) := by
  rcases h with h | h
  · exact absurd h.1 hD
  · exact h
theorem fm_ok_neg {D w : Int} (h : fm_ok D w) (hD : D < 0) : w = -1 := by
  rcases h with h | h
  · exact h.2
  · have := Int.mul_nonneg h.1 h.1
    omega
theorem fm_ab_mul (x y : Int) : fm_ab (x * y) = fm_ab x * fm_ab y := by
  rcases fm_ab_cases x with ⟨p, e⟩ | ⟨p, e⟩ <;> rcases fm_ab_cases y with ⟨q, f⟩ | ⟨q, f⟩ <;> rw [e, f] <;> rcases fm_ab_cases (x * y) with ⟨r, g⟩ | ⟨r, g⟩ <;> rw [g]
  · have := Int.mul_nonneg p q; omega
  · have := Int.mul_nonneg p (show 0 ≤ -y by omega)
    have h : x * -y = -(x * y) := Int.mul_neg x y
    have : x * y = 0 := by omega
    rw [h, this]; rfl
  · exact (Int.mul_neg x y).symm
  · have := Int.mul_nonneg (show 0 ≤ -x by omega) q
    have h : -x * y = -(x * y) := Int.neg_mul x y
    have : x * y = 0 := by omega
    rw [h, this]; rfl
  · exact (Int.neg_mul x y).symm
  · exact (Int.neg_mul_neg x y).symm
  · have := Int.mul_nonneg (show 0 ≤ -x by omega) (show 0 ≤ -y by omega)
    rw [Int.neg_mul_neg] at this
    omega
-- ===== above 0 =====
/-- in a form whose b is below the root a and c have different signs -/
theorem fm_opp {D w a b c : Int} (h : fm_ok D w) (hd : fm_disc D (a, b, c)) (hb : fm_ab b ≤ w) : a * c < 0 ∧ 4 * (fm_ab a * fm_ab c) = D - b * b := by
  have h1 := fm_in h hb
  unfold fm_disc at hd
  dsimp only at hd
  have h2 : a * c < 0 := by omega
  refine ⟨h2, ?_⟩
  rw [← fm_ab_mul]
  rcases fm_ab_cases (a * c) with k | k <;> omega
theorem fm_red_opp {D w a b c : Int} (h : fm_ok D w) (hD : ¬ D < 0) (hd : fm_disc D (a, b, c)) (hr : fm_red D w (a, b, c)) : a * c < 0 ∧ 4 * (fm_ab a * fm_ab c) = D - b * b := by
  rw [fm_red_ge hD] at hr
  exact fm_opp h hd (by rcases fm_ab_cases b with k | k <;> omega)
/-- c lies as a does -/
theorem fm_red_c {D w a b c : Int} (h : fm_ok D w) (hD : ¬ D < 0) (hd : fm_disc D (a, b, c)) (hr : fm_red D w (a, b, c)) : w < 2 * fm_ab c + b ∧ 2 * fm_ab c - b ≤ w := by
  obtain ⟨w0, w1, w2⟩ := fm_ok_pos h hD
  obtain ⟨-, h4⟩ := fm_red_opp h hD hd hr
  obtain ⟨ha0, hc0⟩ := fm_ne h hd
  rw [fm_red_ge hD] at hr
  obtain ⟨r1, r2, r3, r4⟩ := hr
  have hA := fm_ab_pos ha0
  have hC := fm_ab_pos hc0
  constructor
  · rcases Int.lt_or_le w (2 * fm_ab c + b) with k | k
    · exact k
    · exfalso
      have m := Int.mul_le_mul (show 2 * fm_ab a ≤ w + b by omega) (show 2 * fm_ab c ≤ w - b by omega) (by omega) (by omega)
      have e1 : 2 * fm_ab a * (2 * fm_ab c) = 4 * (fm_ab a * fm_ab c) := by grind
      have e2 : (w + b) * (w - b) = w * w - b * b := by grind
      omega
  · rcases Int.lt_or_le w (2 * fm_ab c - b) with k | k
    · exfalso
      have m := Int.mul_le_mul (show w + 1 - b ≤ 2 * fm_ab a by omega) (show w + 1 + b ≤ 2 * fm_ab c by omega) (by omega) (by omega)
      have e1 : 2 * fm_ab a * (2 * fm_ab c) = 4 * (fm_ab a * fm_ab c) := by grind
      have e2 : (w + 1 - b) * (w + 1 + b) = (w + 1) * (w + 1) - b * b := by grind
      omega
    · exact k
theorem fm_red_rho {D w : Int} {g : fm_F} (h : fm_ok D w) (hD : ¬ D < 0) (hd : fm_disc D g) (hr : fm_red D w g) : fm_red D w (fm_rho D w g) := by
  obtain ⟨a, b, c⟩ := g
  obtain ⟨ha0, hc0⟩ := fm_ne h hd
  have hC := fm_ab_pos hc0
  obtain ⟨c1, c2⟩ := fm_red_c h hD hd hr
  obtain ⟨k, hk, k1, k2⟩ := fm_rho_ex (w := w) hc0 hd
  rw [hk, fm_red_ge hD]
  rw [fm_red_ge hD] at hr
  have htop : fm_top w c = w := by rcases fm_top_cases w c with q | q <;> omega
  rw [htop] at k1 k2
  -- -b + 2 |c| is not above w, so the new middle is not below it
  have hge : 2 * fm_ab c - b ≤ -b + 2 * c * k := by
    rcases Int.lt_or_le (-b + 2 * c * k) (2 * fm_ab c - b) with q | q
    · exfalso
      have := fm_small (c := c) (k := k) (by omega) (by omega)
      omega
    · exact q
  refine ⟨?_, k2, by omega, by omega⟩
  rcases Int.lt_or_le b (2 * fm_ab c) with q | q <;> omega
theorem fm_red_inj {D w : Int} {g g' : fm_F} (h : fm_ok D w) (hD : ¬ D < 0) (hd : fm_disc D g) (hr : fm_red D w g) (hd' : fm_disc D g') (hr' : fm_red D w g') (he : fm_rho D w g = fm_rho D w g') : g = g' := by
  obtain ⟨a, b, c⟩ := g
  obtain ⟨a', b', c'⟩ := g'
  obtain ⟨ha0, hc0⟩ := fm_ne h hd
  have hC := fm_ab_pos hc0
  have hcc : c = c' := congrArg Prod.fst he
  subst hcc
  obtain ⟨c1, c2⟩ := fm_red_c h hD hd hr
  obtain ⟨c3, c4⟩ := fm_red_c h hD hd' hr'
  obtain ⟨k, hk, -, -⟩ := fm_rho_ex (w := w) hc0 hd
  obtain ⟨k', hk', -, -⟩ := fm_rho_ex (w := w) hc0 hd'
  rw [hk, hk'] at he
  have hbb : -b + 2 * c * k = -b' + 2 * c * k' := congrArg (fun x => x.2.1) he
  rw [fm_red_ge hD] at hr hr'
  have hb : b = b' := by
    have e : 2 * c * (k - k') = b - b' := by grind
    have := fm_small (c := c) (k := k - k') (by omega) (by omega)
    omega
  subst hb
  unfold fm_disc at hd hd'
  dsimp only at hd hd'
  have : c * a = c * a' := by grind
  rw [fm_cancel hc0 this]
theorem fm_red_it {D w : Int} (h : fm_ok D w) (hD : ¬ D < 0) (n : Nat) {g : fm_F} (hd : fm_disc D g) (hr : fm_red D w g) : fm_red D w (fm_it D w n g) := by
  induction n generalizing g with
  | zero => exact hr
  | succ n ih => exact ih (fm_rho_disc h hd) (fm_red_rho h hD hd hr)
theorem fm_red_it_inj {D w : Int} (h : fm_ok D w) (hD : ¬ D < 0) (n : Nat) {g g' : fm_F} (hd : fm_disc D g) (hr : fm_red D w g) (hd' : fm_disc D g') (hr' : fm_red D w g') (he : fm_it D w n g = fm_it D w n g') : g = g' := by
  induction n generalizing g g' with
  | zero => exact he
  | succ n ih => exact fm_red_inj h hD hd hr hd' hr' (ih (fm_rho_disc h hd) (fm_red_rho h hD hd hr) (fm_rho_disc h hd') (fm_red_rho h hD hd' hr') he)
/-- if all N + 1 first numbers are below N, two of them are equal -/
theorem fm_pigeon : ∀ (N : Nat) (f : Nat → Nat), (∀ i, i ≤ N → f i < N) → ∃ i j, i < j ∧ j ≤ N ∧ f i = f j := by
  intro N
  induction N with
  | zero =>
    intro f h
    exact absurd (h 0 (Nat.le_refl 0)) (by omega)
  | succ N ih =>
    intro f h
    by_cases hx : ∃ i, i ≤ N ∧ f i = f (N + 1)
    · obtain ⟨i, h1, h2⟩ := hx
      exact ⟨i, N + 1, by omega, Nat.le_refl _, h2⟩
    · have hne : ∀ i, i ≤ N → f i ≠ f (N + 1) := fun i hi e => hx ⟨i, hi, e⟩
      have hl := h (N + 1) (Nat.le_refl _)
      obtain ⟨i, j, h1, h2, h3⟩ := ih (fun i => if f (N + 1) < f i then f i - 1 else f i) (fun i hi => by
        have a1 := h i (by omega)
        have a2 := hne i hi
        split <;> omega)
      refine ⟨i, j, h1, by omega, ?_⟩
      have a1 := hne i (by omega)
      have a2 := hne j h2
      split at h3 <;> split at h3 <;> omega
/-- a number of a reduced form above 0 -/
def fm_cd (w : Int) (g : fm_F) : Int := 2 * (g.2.1 / 2 * (g.2.1 / 2 - 1) + (g.2.1 % 2) * (g.2.1 / 2) + (2 * fm_ab g.1 - (w - g.2.1) - 1) / 2) + (if g.1 < 0 then 1 else 0)
theorem fm_cd_lt {D w : Int} {g : fm_F} (hw : w ≤ 1023) (hD : ¬ D < 0) (hr : fm_red D w g) : 0 ≤ fm_cd w g ∧ fm_cd w g < 524288 := by
  obtain ⟨a, b, c⟩ := g
  rw [fm_red_ge hD] at hr
  unfold fm_cd
  dsimp only
  obtain ⟨i, hi⟩ : ∃ i, i = b / 2 := ⟨_, rfl⟩
  obtain ⟨j, hj⟩ : ∃ j, j = (2 * fm_ab a - (w - b) - 1) / 2 := ⟨_, rfl⟩
  rw [← hi, ← hj]
  have h1 : i * (i - 1) ≤ 511 * 510 := by
    rcases Int.lt_or_le 0 i with k | k
    · exact Int.mul_le_mul (by omega) (by omega) (by omega) (by omega)
    · have : i = 0 := by omega
      rw [this]; decide
  have h2 : 0 ≤ i * (i - 1) := by
    rcases Int.lt_or_le 0 i with k | k
    · exact Int.mul_nonneg (by omega) (by omega)
    · have : i = 0 := by omega
      rw [this]; decide
  rcases Int.emod_two_eq b with k | k <;> rw [k] <;> split <;> omega
theorem fm_cd_inj {D w : Int} {g g' : fm_F} (h : fm_ok D w) (hD : ¬ D < 0) (hd : fm_disc D g) (hd' : fm_disc D g') (hr : fm_red D w g) (hr' : fm_red D w g') (he : fm_cd w g = fm_cd w g') : g = g' := by
  obtain ⟨a, b, c⟩ := g
  obtain ⟨a', b', c'⟩ := g'
  obtain ⟨ha0, hc0⟩ := fm_ne h hd
  rw [fm_red_ge hD] at hr hr'
  unfold fm_cd at he
  dsimp only at he
  have hpar : b % 2 = b' % 2 := by
    unfold fm_disc at hd hd'
    dsimp only at hd hd'
    obtain ⟨q, hq⟩ : ∃ q, q = b / 2 := ⟨_, rfl⟩
    obtain ⟨q', hq'⟩ : ∃ q, q = b' / 2 := ⟨_, rfl⟩
    rcases Int.emod_two_eq b with k | k <;> rcases Int.emod_two_eq b' with k' | k'
    · omega
    · have e1 : b * b = 4 * (q * q) := by rw [show b = 2 * q by omega]; grind
      have e2 : b' * b' = 4 * (q' * q' + q') + 1 := by rw [show b' = 2 * q' + 1 by omega]; grind
      omega
    · have e1 : b * b = 4 * (q * q + q) + 1 := by rw [show b = 2 * q + 1 by omega]; grind
      have e2 : b' * b' = 4 * (q' * q') := by rw [show b' = 2 * q' by omega]; grind
      omega
    · omega
  obtain ⟨i, hi⟩ : ∃ i, i = b / 2 := ⟨_, rfl⟩
  obtain ⟨i', hi'⟩ : ∃ i, i = b' / 2 := ⟨_, rfl⟩
  obtain ⟨j, hj⟩ : ∃ j, j = (2 * fm_ab a - (w - b) - 1) / 2 := ⟨_, rfl⟩
  obtain ⟨j', hj'⟩ : ∃ j, j = (2 * fm_ab a' - (w - b') - 1) / 2 := ⟨_, rfl⟩
  obtain ⟨t, ht⟩ : ∃ t, t = b % 2 := ⟨_, rfl⟩
  rw [← hpar, ← hi, ← hi', ← hj, ← hj', ← ht] at he
  have hii : i = i' := by
    rcases Int.lt_trichotomy i i' with k | k | k
    · exfalso
      have m := Int.mul_le_mul (show i + 1 ≤ i' by omega) (show i ≤ i' - 1 by omega) (by omega) (by omega)
      have e1 : (i + 1) * i = i * (i - 1) + 2 * i := by grind
      have m2 := Int.mul_le_mul_of_nonneg_left (show i + 1 ≤ i' by omega) (show 0 ≤ t by omega)
      have e2 : t * (i + 1) = t * i + t := by grind
      split at he <;> split at he <;> omega
    · exact k
    · exfalso
      have m := Int.mul_le_mul (show i' + 1 ≤ i by omega) (show i' ≤ i - 1 by omega) (by omega) (by omega)
      have e1 : (i' + 1) * i' = i' * (i' - 1) + 2 * i' := by grind
      have m2 := Int.mul_le_mul_of_nonneg_left (show i' + 1 ≤ i by omega) (show 0 ≤ t by omega)
      have e2 : t * (i' + 1) = t * i' + t := by grind
      split at he <;> split at he <;> omega
  subst hii
  have hb : b = b' := by omega
  subst hb
  have hjt : fm_ab a = fm_ab a' ∧ (a < 0 ↔ a' < 0) := by
    split at he <;> split at he
    · exact ⟨by omega, by omega⟩
    · exfalso; omega
    · exfalso; omega
    · exact ⟨by omega, by omega⟩
  have ha : a = a' := by rcases fm_ab_cases a with k | k <;> rcases fm_ab_cases a' with k' | k' <;> omega
  subst ha
  unfold fm_disc at hd hd'
  dsimp only at hd hd'
  have : a * c = a * c' := by omega
  rw [fm_cancel ha0 this]
/-- the steps from a reduced form come back to it -/
theorem fm_period {D w : Int} {g : fm_F} (h : fm_ok D w) (hw : w ≤ 1023) (hD : ¬ D < 0) (hd : fm_disc D g) (hr : fm_red D w g) : ∃ m : Nat, 0 < m ∧ m ≤ 524288 ∧ fm_it D w m g = g := by
  obtain ⟨i, j, h1, h2, h3⟩ := fm_pigeon 524288 (fun i => (fm_cd w (fm_it D w i g)).toNat) (fun i _ => by
    have := fm_cd_lt hw hD (fm_red_it h hD i hd hr)
    omega)
  have e1 := fm_cd_lt hw hD (fm_red_it h hD i hd hr)
  have e2 := fm_cd_lt hw hD (fm_red_it h hD j hd hr)
  have e3 := fm_cd_inj h hD (fm_it_disc h i hd) (fm_it_disc h j hd) (fm_red_it h hD i hd hr) (fm_red_it h hD j hd hr) (by omega)
  refine ⟨j - i, by omega, by omega, ?_⟩
  have e4 : fm_it D w j g = fm_it D w i (fm_it D w (j - i) g) := by
    rw [← fm_it_add]
    congr 1
    omega
  rw [e4] at e3
  exact (fm_red_it_inj h hD i hd hr (fm_it_disc h _ hd) (fm_red_it h hD _ hd hr) e3).symm
theorem fm_it_mul {D w : Int} {m : Nat} {g : fm_F} (he : fm_it D w m g = g) (k : Nat) : fm_it D w (m * k) g = g := by
  induction k with
  | zero => rfl
  | succ k ih => rw [Nat.mul_succ, fm_it_add, ih, he]
/-- merging reduced forms above 0 lie on one cycle -/
theorem fm_cycle {D w : Int} {g h : fm_F} (ho : fm_ok D w) (hw : w ≤ 1023) (hD : ¬ D < 0) (hg : fm_disc D g) (rg : fm_red D w g) (hh : fm_disc D h) (rh : fm_red D w h) (hm : fm_mg D w g h) : ∃ i : Nat, fm_it D w i g = h := by
  obtain ⟨i, j, e⟩ := hm
  obtain ⟨m, m0, -, hmm⟩ := fm_period ho hw hD hh rh
  -- go on from both until the second one is at home
  have hj : j ≤ m * j := Nat.le_mul_of_pos_left j m0
  refine ⟨i + (m * j - j), ?_⟩
  rw [fm_it_add, e, ← fm_it_add, show j + (m * j - j) = m * j by omega, fm_it_mul hmm]
-- ===== below 0 =====
theorem fm_neg_ac {D a b c : Int} (hD : D < 0) (hd : fm_disc D (a, b, c)) : 0 < a * c := by
  unfold fm_disc at hd
  dsimp only at hd
  have := fm_sq_le (Int.le_refl 0) (show 0 ≤ fm_ab b by rcases fm_ab_cases b with k | k <;> omega)
  rw [fm_ab_sq] at this
  omega
theorem fm_neg_it {D w a b c : Int} (h : fm_ok D w) (hD : D < 0) (hd : fm_disc D (a, b, c)) (hr : fm_red D w (a, b, c)) (n : Nat) : fm_it D w n (a, b, c) = (a, b, c) ∨ fm_it D w n (a, b, c) = (c, -b, a) := by
  have hw := fm_ok_neg h hD
  obtain ⟨ha0, hc0⟩ := fm_ne h hd
  have hac := fm_neg_ac hD hd
  have hr' := hr
  rw [fm_red_lt hD] at hr'
  obtain ⟨r1, r2, r3⟩ := hr'
  have ha1 : 0 < a := by rcases fm_ab_cases b with k | k <;> omega
  have hA : fm_ab a = a := by rcases fm_ab_cases a with k | k <;> omega
  have hC : fm_ab c = c := by rcases fm_ab_cases c with k | k <;> omega
  have ta : fm_top w a = a := by rcases fm_top_cases w a with k | k <;> omega
  have tc : fm_top w c = c := by rcases fm_top_cases w c with k | k <;> omega
  have s1 : fm_rho D w (c, -b, a) = (a, b, c) := by
    have r1 : fm_rho D w (c, -b, a) = (a, - -b + 2 * a * 0, c - -b * 0 + a * (0 * 0)) := fm_rho_of (k := 0) ha0 (fm_S_disc hd) (by rcases fm_ab_cases b with k | k <;> omega) (by rcases fm_ab_cases b with k | k <;> omega)
    rw [r1]
    exact fm_ext rfl (by omega) (by omega)
  have s2 : fm_rho D w (a, b, c) = (a, b, c) ∨ fm_rho D w (a, b, c) = (c, -b, a) := by
    by_cases q : b = c
    · left
      have hab : a = b := by rcases fm_ab_cases b with k | k <;> omega
      have r1 : fm_rho D w (a, b, c) = (c, -b + 2 * c * 1, a - b * 1 + c * (1 * 1)) := fm_rho_of (k := 1) hc0 hd (by omega) (by omega)
      rw [r1]
      exact fm_ext (by omega) (by omega) (by omega)
    · right
      have r1 : fm_rho D w (a, b, c) = (c, -b + 2 * c * 0, a - b * 0 + c * (0 * 0)) := fm_rho_of (k := 0) hc0 hd (by rcases fm_ab_cases b with k | k <;> omega) (by rcases fm_ab_cases b with k | k <;> omega)
      rw [r1]
      exact fm_ext rfl (by omega) (by omega)
  induction n with
  | zero => exact Or.inl rfl
  | succ n ih =>
    rw [fm_it_succ]
    rcases ih with e | e
    · rw [e]; exact s2
    · rw [e]; exact Or.inl s1
/-- below 0 a class has one reduced form -/
theorem fm_neg_uniq {D w : Int} {g h : fm_F} (ho : fm_ok D w) (hD : D < 0) (hg : fm_disc D g) (rg : fm_red D w g) (hh : fm_disc D h) (rh : fm_red D w h) (hm : fm_mg D w g h) : g = h := by
  obtain ⟨a, b, c⟩ := g
  obtain ⟨a', b', c'⟩ := h
  obtain ⟨i, j, e⟩ := hm
  have x := fm_neg_it ho hD hg rg i
  have y := fm_neg_it ho hD hh rh j
  rw [fm_red_lt hD] at rg rh
  have fin : ∀ {x y z x' y' z' : Int}, ((x, y, z) : fm_F) = (x', y', z') → x = x' ∧ y = y' ∧ z = z' := by
    intro x y z x' y' z' e
    exact ⟨congrArg (fun q => q.1) e, congrArg (fun q => q.2.1) e, congrArg (fun q => q.2.2) e⟩
  rcases x with x | x <;> rcases y with y | y <;> rw [x, y] at e <;> obtain ⟨e1, e2, e3⟩ := fin e
  · exact fm_ext e1 e2 e3
  · exact fm_ext (by omega) (by omega) (by omega)
  · exact fm_ext (by omega) (by omega) (by omega)
  · exact fm_ext (by omega) (by omega) (by omega)
-- ===== names =====
def fm_le (z h : fm_F) : Prop := z.1 < h.1 ∨ (z.1 = h.1 ∧ z.2.1 ≤ h.2.1)
def fm_nm (D w : Int) (z g : fm_F) : Prop := fm_disc D z ∧ fm_red D w z ∧ fm_mg D w z g ∧ ∀ h, fm_disc D h → fm_red D w h → fm_mg D w h g → fm_le z h
theorem fm_nm.uniq {D w : Int} {z z' g : fm_F} (ho : fm_ok D w) (h : fm_nm D w z g) (h' : fm_nm D w z' g) : z = z' := by
  obtain ⟨d1, r1, m1, l1⟩ := h
  obtain ⟨d2, r2, m2, l2⟩ := h'
  have x := l1 z' d2 r2 m2
  have y := l2 z d1 r1 m1
  obtain ⟨a, b, c⟩ := z
  obtain ⟨a', b', c'⟩ := z'
  unfold fm_le at x y
  dsimp only at x y
  have e1 : a = a' := by omega
  have e2 : b = b' := by omega
  subst e1
  subst e2
  obtain ⟨ha0, -⟩ := fm_ne ho d1
  unfold fm_disc at d1 d2
  dsimp only at d1 d2
  have : a * c = a * c' := by omega
  rw [fm_cancel ha0 this]
theorem fm_nm.mg {D w : Int} {z g g' : fm_F} (h : fm_nm D w z g) (m : fm_mg D w g g') : fm_nm D w z g' := by
  obtain ⟨d1, r1, m1, l1⟩ := h
  exact ⟨d1, r1, m1.tr m, fun h hd hr hm => l1 h hd hr (hm.tr m.sy)⟩
theorem fm_nm.self {D w : Int} {z g : fm_F} (h : fm_nm D w z g) : fm_nm D w z z := h.mg h.2.2.1.sy
/-- below 0 the reduced form is the name -/
theorem fm_nm_neg {D w : Int} {z g : fm_F} (ho : fm_ok D w) (hD : D < 0) (hz : fm_disc D z) (hr : fm_red D w z) (hm : fm_mg D w z g) : fm_nm D w z g := by
  refine ⟨hz, hr, hm, fun h hd hr' hm' => ?_⟩
  rw [fm_neg_uniq ho hD hd hr' hz hr (hm'.tr hm.sy)]
  exact Or.inr ⟨rfl, Int.le_refl _⟩
/-- above 0 the least of the cycle is the name -/
theorem fm_nm_pos {D w : Int} {z r g : fm_F} (ho : fm_ok D w) (hw : w ≤ 1023) (hD : ¬ D < 0) (hr : fm_disc D r) (rr : fm_red D w r) (hm : fm_mg D w r g) {i : Nat} (hz : fm_it D w i r = z) (hl : ∀ j, fm_le z (fm_it D w j r)) : fm_nm D w z g := by
  subst hz
  refine ⟨fm_it_disc ho i hr, fm_red_it ho hD i hr rr, (fm_mg.tr ⟨0, i, rfl⟩ hm), fun h hd hr' hm' => ?_⟩
  obtain ⟨j, hj⟩ := fm_cycle ho hw hD hr rr hd hr' (hm.tr hm'.sy)
  rw [← hj]
  exact hl j
end
section
/-! The ways to a reduced form end, and soon. -/
-- ===== above 0 =====
theorem fm_win_red {D w a b c : Int} (hD : ¬ D < 0) (h1 : w - 2 * fm_ab a < b) (h2 : b ≤ w) (h3 : 2 * fm_ab a ≤ w) : fm_red D w (a, b, c) := by
  rw [fm_red_ge hD]
  exact ⟨by omega, h2, by omega, by omega⟩
theorem fm_win_next {D w a b c : Int} (h : fm_ok D w) (hD : ¬ D < 0) (hd : fm_disc D (a, b, c)) (ha : fm_ab a ≤ w) (h1 : w - 2 * fm_ab a < b) (h2 : b ≤ w) : fm_red D w (a, b, c) ∨ fm_red D w (fm_rho D w (a, b, c)) := by
  obtain ⟨w0, w1, w2⟩ := fm_ok_pos h hD
  obtain ⟨ha0, hc0⟩ := fm_ne h hd
  by_cases q : 2 * fm_ab a ≤ w
  · exact Or.inl (fm_win_red hD h1 h2 q)
  · right
    obtain ⟨-, h4⟩ := fm_opp h hd (by rcases fm_ab_cases b with k | k <;> omega)
    have hC := fm_ab_pos hc0
    have hbb := fm_sq_le (Int.le_refl 0) (show 0 ≤ fm_ab b by rcases fm_ab_cases b with k | k <;> omega)
    rw [fm_ab_sq] at hbb
    have hc : 2 * fm_ab c ≤ w := by
      rcases Int.lt_or_le w (2 * fm_ab c) with k | k
      · exfalso
        have m := Int.mul_le_mul (show w + 1 ≤ 2 * fm_ab a by omega) (show w + 1 ≤ 2 * fm_ab c by omega) (by omega) (by omega)
        have e1 : 2 * fm_ab a * (2 * fm_ab c) = 4 * (fm_ab a * fm_ab c) := by grind
        omega
      · exact k
    have tc : fm_top w c = w := by rcases fm_top_cases w c with k | k <;> omega
    obtain ⟨k, hk, k1, k2⟩ := fm_rho_ex (w := w) hc0 hd
    rw [tc] at k1 k2
    rw [hk]
    exact fm_win_red hD k1 k2 hc
theorem fm_near {D w a b c : Int} (h : fm_ok D w) (hD : ¬ D < 0) (hd : fm_disc D (a, b, c)) (hc : fm_ab c ≤ w) : ∃ i, i ≤ 2 ∧ fm_red D w (fm_it D w i (a, b, c)) := by
  obtain ⟨ha0, hc0⟩ := fm_ne h hd
  have tc : fm_top w c = w := by rcases fm_top_cases w c with k | k <;> omega
  obtain ⟨k, hk, k1, k2⟩ := fm_rho_ex (w := w) hc0 hd
  rw [tc] at k1 k2
  have hd1 := fm_rho_disc h hd
  rw [hk] at hd1
  rcases fm_win_next h hD hd1 hc k1 k2 with r | r
  · refine ⟨1, by omega, ?_⟩
    show fm_red D w (fm_rho D w (a, b, c))
    rw [hk]
    exact r
  · refine ⟨2, by omega, ?_⟩
    show fm_red D w (fm_rho D w (fm_rho D w (a, b, c)))
    rw [hk]
    exact r
theorem fm_shrink {D w a b c : Int} (h : fm_ok D w) (hD : ¬ D < 0) (hd : fm_disc D (a, b, c)) (hc : w < fm_ab c) : 4 * fm_ab (fm_rho D w (a, b, c)).2.2 ≤ fm_ab c := by
  obtain ⟨ha0, hc0⟩ := fm_ne h hd
  have hC := fm_ab_pos hc0
  have tc : fm_top w c = fm_ab c := by rcases fm_top_cases w c with k | k <;> omega
  obtain ⟨k, hk, k1, k2⟩ := fm_rho_ex (w := w) hc0 hd
  rw [tc] at k1 k2
  have hd1 := fm_rho_disc h hd
  rw [hk] at hd1 ⊢
  dsimp only
  generalize -b + 2 * c * k = e at k1 k2 hd1
  generalize a - b * k + c * (k * k) = f at hd1 ⊢
  have ho := fm_out h hc
  unfold fm_disc at hd1
  dsimp only at hd1
  have he : fm_ab e ≤ fm_ab c := by rcases fm_ab_cases e with q | q <;> omega
  have m := fm_sq_le (show 0 ≤ fm_ab e by rcases fm_ab_cases e with q | q <;> omega) he
  rw [fm_ab_sq, fm_ab_sq] at m
  have m0 := fm_sq_le (Int.le_refl 0) (show 0 ≤ fm_ab e by rcases fm_ab_cases e with q | q <;> omega)
  rw [fm_ab_sq] at m0
  have hcf : 4 * (fm_ab c * fm_ab f) ≤ fm_ab c * fm_ab c := by
    rw [← fm_ab_mul, fm_ab_sq]
    rcases fm_ab_cases (c * f) with q | q <;> omega
  have e2 : fm_ab c * (4 * fm_ab f) = 4 * (fm_ab c * fm_ab f) := by grind
  exact Int.le_of_mul_le_mul_left (by omega) hC
theorem fm_reach {D w : Int} (h : fm_ok D w) (hD : ¬ D < 0) : ∀ (n : Nat) (a b c : Int), fm_disc D (a, b, c) → fm_ab c < 4 ^ n → ∃ i, i ≤ n + 2 ∧ fm_red D w (fm_it D w i (a, b, c)) := by
  intro n
  induction n with
  | zero =>
    intro a b c hd hc
    obtain ⟨ha0, hc0⟩ := fm_ne h hd
    have := fm_ab_pos hc0
    have : (4 : Int) ^ 0 = 1 := rfl
    omega
  | succ n ih =>
    intro a b c hd hc
    by_cases q : fm_ab c ≤ w
    · obtain ⟨i, h1, h2⟩ := fm_near h hD hd q
      exact ⟨i, by omega, h2⟩
    · have hs := fm_shrink h hD hd (by omega)
      have hd1 := fm_rho_disc h hd
      have e : (4 : Int) ^ (n + 1) = 4 ^ n * 4 := Int.pow_succ 4 n
      rcases hx : fm_rho D w (a, b, c) with ⟨a', b', c'⟩
      rw [hx] at hs hd1
      dsimp only at hs
      obtain ⟨i, h1, h2⟩ := ih a' b' c' hd1 (by omega)
      refine ⟨i + 1, by omega, ?_⟩
      show fm_red D w (fm_it D w i (fm_rho D w (a, b, c)))
      rw [hx]
      exact h2
-- ===== below 0, by steps =====
theorem fm_neg_reach {D w : Int} (h : fm_ok D w) (hD : D < 0) : ∀ (n : Nat) (a b c : Int), fm_disc D (a, b, c) → 0 < a → a ≤ n → -a < b → b ≤ a → ∃ i, fm_red D w (fm_it D w i (a, b, c)) := by
  have hw := fm_ok_neg h hD
  intro n
  induction n with
  | zero => intro a b c _ h0 h1; omega
  | succ n ih =>
    intro a b c hd h0 h1 h2 h3
    obtain ⟨ha0, hc0⟩ := fm_ne h hd
    have hc1 := fm_pp h0 (fm_neg_ac hD hd)
    have hC : fm_ab c = c := by rcases fm_ab_cases c with k | k <;> omega
    have tc : fm_top w c = c := by rcases fm_top_cases w c with k | k <;> omega
    by_cases r : fm_red D w (a, b, c)
    · exact ⟨0, r⟩
    · obtain ⟨k, hk, k1, k2⟩ := fm_rho_ex (w := w) hc0 hd
      have hd1 := fm_rho_disc h hd
      rw [hk] at hd1
      rw [tc, hC] at k1
      rw [tc] at k2
      rw [fm_red_lt hD] at r
      by_cases q : c < a
      · obtain ⟨i, hi⟩ := ih c _ _ hd1 hc1 (by omega) (by omega) k2
        refine ⟨i + 1, ?_⟩
        show fm_red D w (fm_it D w i (fm_rho D w (a, b, c)))
        rw [hk]
        exact hi
      · have hca : a = c ∧ b < 0 := by
          rcases fm_ab_cases b with k | k <;> omega
        obtain ⟨rfl, hb⟩ := hca
        have r1 : fm_rho D w (a, b, a) = (a, -b + 2 * a * 0, a - b * 0 + a * (0 * 0)) := fm_rho_of (k := 0) ha0 hd (by omega) (by omega)
        refine ⟨1, ?_⟩
        show fm_red D w (fm_rho D w (a, b, a))
        rw [r1, fm_red_lt hD]
        refine ⟨?_, by omega, Or.inl (by omega)⟩
        rcases fm_ab_cases (-b + 2 * a * 0) with q | q <;> omega
theorem fm_neg_reach' {D w a b c : Int} (h : fm_ok D w) (hD : D < 0) (hd : fm_disc D (a, b, c)) (h0 : 0 < a) : ∃ i, fm_red D w (fm_it D w i (a, b, c)) := by
  have hw := fm_ok_neg h hD
  obtain ⟨ha0, hc0⟩ := fm_ne h hd
  have hc1 := fm_pp h0 (fm_neg_ac hD hd)
  have hC : fm_ab c = c := by rcases fm_ab_cases c with k | k <;> omega
  have tc : fm_top w c = c := by rcases fm_top_cases w c with k | k <;> omega
  obtain ⟨k, hk, k1, k2⟩ := fm_rho_ex (w := w) hc0 hd
  have hd1 := fm_rho_disc h hd
  rw [hk] at hd1
  rw [tc, hC] at k1
  rw [tc] at k2
  obtain ⟨i, hi⟩ := fm_neg_reach h hD c.toNat c _ _ hd1 hc1 (by omega) (by omega) k2
  refine ⟨i + 1, ?_⟩
  show fm_red D w (fm_it D w i (fm_rho D w (a, b, c)))
  rw [hk]
  exact hi
/-- every form has a reduced one ahead -/
theorem fm_ahead {D w a b c : Int} (h : fm_ok D w) (hd : fm_disc D (a, b, c)) (h0 : D < 0 → 0 < a) : ∃ i, fm_red D w (fm_it D w i (a, b, c)) := by
  by_cases hD : D < 0
  · exact fm_neg_reach' h hD hd (h0 hD)
  · have : ∃ n : Nat, fm_ab c < 4 ^ n := by
      refine ⟨(fm_ab c).toNat, ?_⟩
      have e : ∀ n : Nat, (n : Int) < 4 ^ n := by
        intro n
        induction n with
        | zero => decide
        | succ n ih =>
          rw [Int.pow_succ]
          omega
      have := e (fm_ab c).toNat
      rcases fm_ab_cases c with k | k <;> omega
    obtain ⟨n, hn⟩ := this
    obtain ⟨i, -, hi⟩ := fm_reach h hD n a b c hd hn
    exact ⟨i, hi⟩
-- ===== below 0, by turns of normal forms =====
/-- b comes above -a and up to a -/
def fm_nu (D : Int) (g : fm_F) : fm_F := (g.1, g.1 - (g.1 - g.2.1) % (2 * g.1), ((g.1 - (g.1 - g.2.1) % (2 * g.1)) * (g.1 - (g.1 - g.2.1) % (2 * g.1)) - D) / (4 * g.1))
theorem fm_nu_ex {D a b c : Int} (ha : 0 < a) (hd : fm_disc D (a, b, c)) : ∃ k : Int, fm_nu D (a, b, c) = (a, b + 2 * a * k, a * (k * k) + b * k + c) ∧ -a < b + 2 * a * k ∧ b + 2 * a * k ≤ a := by
  have h1 := Int.emod_nonneg (a - b) (show 2 * a ≠ 0 by omega)
  have h2 := Int.emod_lt_of_pos (a - b) (show 0 < 2 * a by omega)
  have h3 := Int.mul_ediv_add_emod (a - b) (2 * a)
  unfold fm_disc at hd
  dsimp only at hd
  obtain ⟨k, hk⟩ : ∃ k, k = (a - b) / (2 * a) := ⟨_, rfl⟩
  rw [← hk] at h3
  have e : a - (a - b) % (2 * a) = b + 2 * a * k := by omega
  refine ⟨k, ?_, by omega, by omega⟩
  unfold fm_nu
  dsimp only
  rw [e]
  have h4 : (b + 2 * a * k) * (b + 2 * a * k) - D = 4 * a * (a * (k * k) + b * k + c) := by grind
  rw [h4, Int.mul_ediv_cancel_left _ (show 4 * a ≠ 0 by omega)]
theorem fm_nu_ok {D w : Int} {g : fm_F} (h : fm_ok D w) (ha : 0 < g.1) (hd : fm_disc D g) : fm_disc D (fm_nu D g) ∧ fm_mg D w (fm_nu D g) g ∧ (fm_nu D g).1 = g.1 ∧ -g.1 < (fm_nu D g).2.1 ∧ (fm_nu D g).2.1 ≤ g.1 := by
  obtain ⟨a, b, c⟩ := g
  obtain ⟨k, hk, k1, k2⟩ := fm_nu_ex ha hd
  rw [hk]
  exact ⟨fm_T_disc k hd, (fm_mg_T k h hd).sy, rfl, k1, k2⟩
/-- k turns from g lead to the normal form h with a not above c -/
def fm_dw (D : Int) : Nat → fm_F → fm_F → Prop
  | 0, g, h => fm_nu D g = h ∧ h.1 ≤ h.2.2
  | k + 1, g, h => (fm_nu D g).2.2 < (fm_nu D g).1 ∧ fm_dw D k (fm_S (fm_nu D g)) h
theorem fm_dw_ok {D w : Int} (h : fm_ok D w) (hD : D < 0) : ∀ (k : Nat) (g r : fm_F), fm_disc D g → 0 < g.1 → fm_dw D k g r → fm_disc D r ∧ fm_mg D w r g ∧ 0 < r.1 ∧ -r.1 < r.2.1 ∧ r.2.1 ≤ r.1 ∧ r.1 ≤ r.2.2 := by
  intro k
  induction k with
  | zero =>
    intro g r hd ha hr
    obtain ⟨h1, h2⟩ := hr
    obtain ⟨n1, n2, n3, n4, n5⟩ := fm_nu_ok h ha hd
    rw [h1] at n1 n2 n3 n4 n5
    exact ⟨n1, n2, by omega, by omega, by omega, h2⟩
  | succ k ih =>
    intro g r hd ha hr
    obtain ⟨h1, h2⟩ := hr
    obtain ⟨n1, n2, n3, n4, n5⟩ := fm_nu_ok h ha hd
    generalize fm_nu D g = q at h1 h2 n1 n2 n3 n4 n5
    obtain ⟨a, b, c⟩ := q
    dsimp only at h1 n3 n4 n5
    have hc := fm_pp (show 0 < a by omega) (fm_neg_ac hD n1)
    obtain ⟨r1, r2, r3⟩ := ih (fm_S (a, b, c)) r (fm_S_disc n1) hc h2
    exact ⟨r1, r2.tr ((fm_mg_S h n1).sy.tr n2), r3⟩
theorem fm_nu_c {D w : Int} {g : fm_F} (h : fm_ok D w) (hD : D < 0) (hDl : -1048576 ≤ D) (ha : 1024 < g.1) (hd : fm_disc D g) : 2 * (fm_nu D g).2.2 < g.1 := by
  obtain ⟨n1, n2, n3, n4, n5⟩ := fm_nu_ok h (show 0 < g.1 by omega) hd
  generalize fm_nu D g = q at n1 n2 n3 n4 n5 ⊢
  obtain ⟨a, b, c⟩ := q
  dsimp only at n3 n4 n5 ⊢
  rw [← n3] at ha n4 n5 ⊢
  unfold fm_disc at n1
  dsimp only at n1
  have hb : fm_ab b ≤ a := by rcases fm_ab_cases b with k | k <;> omega
  have m := fm_sq_le (show 0 ≤ fm_ab b by rcases fm_ab_cases b with k | k <;> omega) hb
  rw [fm_ab_sq] at m
  have m2 := fm_sq_le (show (0 : Int) ≤ 1025 by decide) (show 1025 ≤ a by omega)
  have m3 : a * (2 * c) < a * a := by
    have : a * (2 * c) = 2 * (a * c) := by grind
    omega
  exact Int.lt_of_mul_lt_mul_left m3 (by omega)
theorem fm_dw_low {D w : Int} (h : fm_ok D w) (hD : D < 0) : ∀ (n : Nat) (g : fm_F), fm_disc D g → 0 < g.1 → g.1 ≤ n → ∃ k r, k < n ∧ fm_dw D k g r := by
  intro n
  induction n with
  | zero => intro g _ h0 h1; omega
  | succ n ih =>
    intro g hd h0 h1
    by_cases q : (fm_nu D g).1 ≤ (fm_nu D g).2.2
    · exact ⟨0, fm_nu D g, by omega, rfl, q⟩
    · obtain ⟨n1, n2, n3, n4, n5⟩ := fm_nu_ok h h0 hd
      rcases hx : fm_nu D g with ⟨a, b, c⟩
      rw [hx] at n1 n3 q
      dsimp only at n3 q
      have hc := fm_pp (show 0 < a by omega) (fm_neg_ac hD n1)
      obtain ⟨k, r, k1, k2⟩ := ih (fm_S (a, b, c)) (fm_S_disc n1) hc (show c ≤ n by omega)
      refine ⟨k + 1, r, by omega, ?_, ?_⟩
      · rw [hx]; show c < a; omega
      · rw [hx]; exact k2
theorem fm_dw_ex {D w : Int} (h : fm_ok D w) (hD : D < 0) (hDl : -1048576 ≤ D) : ∀ (n : Nat) (g : fm_F), fm_disc D g → 0 < g.1 → g.1 ≤ 1024 * 2 ^ n → ∃ k r, k < n + 1024 ∧ fm_dw D k g r := by
  intro n
  induction n with
  | zero =>
    intro g hd h0 h1
    obtain ⟨k, r, k1, k2⟩ := fm_dw_low h hD 1024 g hd h0 (by simpa using h1)
    exact ⟨k, r, by omega, k2⟩
  | succ n ih =>
    intro g hd h0 h1
    by_cases q : g.1 ≤ 1024
    · obtain ⟨k, r, k1, k2⟩ := fm_dw_low h hD 1024 g hd h0 q
      exact ⟨k, r, by omega, k2⟩
    · have hh := fm_nu_c h hD hDl (show 1024 < g.1 by omega) hd
      obtain ⟨n1, n2, n3, n4, n5⟩ := fm_nu_ok h h0 hd
      have e : (2 : Int) ^ (n + 1) = 2 ^ n * 2 := Int.pow_succ 2 n
      rcases hx : fm_nu D g with ⟨a, b, c⟩
      rw [hx] at n1 n3 hh
      dsimp only at n3 hh
      have hc := fm_pp (show 0 < a by omega) (fm_neg_ac hD n1)
      obtain ⟨k, r, k1, k2⟩ := ih (fm_S (a, b, c)) (fm_S_disc n1) hc (show c ≤ 1024 * 2 ^ n by omega)
      refine ⟨k + 1, r, by omega, ?_, ?_⟩
      · rw [hx]; show c < a; omega
      · rw [hx]; exact k2
/-- the last turn of the sign: a reduced form of the class -/
theorem fm_dw_red {D w : Int} {g r : fm_F} {k : Nat} (h : fm_ok D w) (hD : D < 0) (hd : fm_disc D g) (h0 : 0 < g.1) (hr : fm_dw D k g r) : fm_nm D w (if r.1 = r.2.2 ∧ r.2.1 < 0 then (r.1, -r.2.1, r.2.2) else r) g := by
  obtain ⟨r1, r2, r3, r4, r5, r6⟩ := fm_dw_ok h hD k g r hd h0 hr
  obtain ⟨a, b, c⟩ := r
  dsimp only at r3 r4 r5 r6 ⊢
  split
  · rename_i q
    obtain ⟨rfl, hb⟩ := q
    refine fm_nm_neg h hD (fm_inv_disc r1) ?_ ((fm_mg_S h r1).sy.tr r2)
    rw [fm_red_lt hD]
    exact ⟨by rcases fm_ab_cases (-b) with k | k <;> omega, Int.le_refl _, Or.inl (by omega)⟩
  · rename_i q
    refine fm_nm_neg h hD r1 ?_ r2
    rw [fm_red_lt hD]
    exact ⟨by rcases fm_ab_cases b with k | k <;> omega, r6, by omega⟩
end
section
/-! Powers of classes, and that every class has an order. -/
def fm_v (D : Int) (f : fm_F) : Prop := fm_disc D f ∧ fm_pr f ∧ (D < 0 → 0 < f.1)
theorem fm_bez : ∀ (m : Nat) (p q : Int), q.natAbs ≤ m → (p ≠ 0 ∨ q ≠ 0) → ∃ x y g : Int, g ≠ 0 ∧ x * p + y * q = g ∧ g ∣ p ∧ g ∣ q := by
  intro m
  induction m with
  | zero =>
    intro p q hq h0
    have e : q = 0 := by omega
    subst e
    exact ⟨1, 0, p, by omega, by omega, Int.dvd_refl p, Int.dvd_zero p⟩
  | succ m ih =>
    intro p q hq h0
    by_cases e : q = 0
    · subst e
      exact ⟨1, 0, p, by omega, by omega, Int.dvd_refl p, Int.dvd_zero p⟩
    · have h1 := Int.emod_nonneg p e
      have h2 := Int.emod_lt p e
      have h3 := Int.mul_ediv_add_emod p q
      obtain ⟨x, y, g, g0, g1, g2, g3⟩ := ih q (p % q) (by omega) (Or.inl e)
      refine ⟨y, x - y * (p / q), g, g0, ?_, ?_, g2⟩
      · grind
      · rw [← h3]
        exact Int.dvd_add (Int.dvd_trans g2 (Int.dvd_mul_right q _)) g3
theorem fm_pr_of {f : fm_F} {e : Int} (hp : fm_pr f) (h1 : e ∣ f.1) (h2 : e ∣ f.2.1) (h3 : e ∣ f.2.2) : e ∣ 1 := by
  obtain ⟨i, j, k, h⟩ := hp
  rw [← h]
  exact Int.dvd_add (Int.dvd_add (Int.dvd_trans h1 (Int.dvd_mul_left _ _)) (Int.dvd_trans h2 (Int.dvd_mul_left _ _))) (Int.dvd_trans h3 (Int.dvd_mul_left _ _))
theorem fm_TT {D s n b b' B B' T : Int} (hb : b = 2 * B + s) (hb' : b' = 2 * B' + s) (hD : D = 4 * n + s) (hs : s * s = s) : 2 * T = b * b' + D ↔ T = 2 * (n + B * B') + s * (B + B' + s) := by
  subst hb
  subst hb'
  subst hD
  have h1 : (2 * B + s) * (2 * B' + s) = 4 * (B * B') + 2 * (s * B) + 2 * (s * B') + s * s := by
    clear hs
    grind
  have h2 : s * (B + B' + s) = s * B + s * B' + s * s := by
    clear hs h1
    grind
  omega
theorem fm_hw {s n b b' B B' a a' x y z e M w1 : Int} (hb : b = 2 * B + s) (hb' : b' = 2 * B' + s) (he : x * a + y * a' + z * (B + B' + s) = e) (hM : M = 2 * w1 + s) : x * a * b' + y * a' * b + z * (2 * (n + B * B') + s * (B + B' + s)) = e * M ↔ x * a * B' + y * a' * B + z * (n + B * B') = e * w1 := by
  subst hb
  subst hb'
  subst hM
  have h1 : x * a * (2 * B' + s) + y * a' * (2 * B + s) + z * (2 * (n + B * B') + s * (B + B' + s)) = 2 * (x * a * B' + y * a' * B + z * (n + B * B')) + s * (x * a + y * a' + z * (B + B' + s)) := by
    clear he
    grind
  rw [he] at h1
  have h2 : e * (2 * w1 + s) = 2 * (e * w1) + s * e := by
    clear h1 he
    grind
  omega
theorem fm_hn {s n B B' a c e a1 S S1 : Int} (hac : B * B + s * B - n = a * c) (h1 : a = e * a1) (h3 : S = e * S1) (hSS : B + B' + s = S) : n + B * B' = e * (B * S1 - a1 * c) := by
  have t1 : e * (B * S1 - a1 * c) = B * (e * S1) - (e * a1) * c := by
    clear hac h1 h3 hSS
    grind
  rw [t1, ← h3, ← h1, ← hSS, ← hac]
  clear t1 hac h1 h3 hSS
  grind
/-- THE PRODUCT BY ITS FORMULA: x a + y a' + z S = e goes into a, a' and S, the half sum of the middles; the new a is a a' / (e e), the new middle M with e M = x a b' + y a' b + z (b b' + D) / 2, or one that differs from it by a multiple of twice the new a -/
theorem fm_formula {D w s n a b c a' b' c' e x y z a1 a1' S1 S T M k C : Int} (ho : fm_ok D w) (hs : fm_sn D s n) (hf : fm_v D (a, b, c)) (hg : fm_v D (a', b', c')) (hS : 2 * S = b + b') (he0 : e ≠ 0) (ha : a = e * a1) (ha' : a' = e * a1') (hS1 : S = e * S1) (he : x * a + y * a' + z * S = e) (hT : 2 * T = b * b' + D) (hM : x * a * b' + y * a' * b + z * T = e * M) (hF : fm_disc D (a1 * a1', M + 2 * (a1 * a1') * k, C)) : fm_v D (a1 * a1', M + 2 * (a1 * a1') * k, C) ∧ fm_cp s n (a, b, c) (a', b', c') (a1 * a1', M + 2 * (a1 * a1') * k, C) := by
  obtain ⟨df, pf, vf⟩ := hf
  obtain ⟨dg, pg, vg⟩ := hg
  obtain ⟨hb, hac⟩ := fm_half hs df
  obtain ⟨hb', hac'⟩ := fm_half hs dg
  have hBF := fm_half hs hF
  have hLf : fm_L s (a, b, c) = la_f a (fm_B s (a, b, c)) := rfl
  have hLg : fm_L s (a', b', c') = la_f a' (fm_B s (a', b', c')) := rfl
  have hLF : fm_L s (a1 * a1', M + 2 * (a1 * a1') * k, C) = la_f (a1 * a1') (fm_B s (a1 * a1', M + 2 * (a1 * a1') * k, C)) := rfl
  generalize fm_B s (a, b, c) = B at hb hac hLf
  generalize fm_B s (a', b', c') = B' at hb' hac' hLg
  generalize fm_B s (a1 * a1', M + 2 * (a1 * a1') * k, C) = BF at hBF hLF
  obtain ⟨hbF, hacF⟩ := hBF
  have hSS : B + B' + s = S := by omega
  have hs2 : s * s = s := by rcases hs.1 with h | h <;> rw [h] <;> decide
  have hTT : T = 2 * (n + B * B') + s * (B + B' + s) := (fm_TT hb hb' hs.2 hs2).mp hT
  -- M is 2 w1 + s with e w1 the middle in halves
  obtain ⟨w1, hw1⟩ : ∃ w1, w1 = BF - a1 * a1' * k := ⟨_, rfl⟩
  have hMw : M = 2 * w1 + s := by
    have t : 2 * (a1 * a1') * k = 2 * (a1 * a1' * k) := Int.mul_assoc _ _ _
    omega
  have hw : x * a * B' + y * a' * B + z * (n + B * B') = e * w1 := (fm_hw hb hb' (by rw [hSS]; exact he) hMw).mp (by rw [← hTT]; exact hM)
  obtain ⟨i, j, l, hp⟩ := pf
  dsimp only at hp
  have hlat := la_prod (s := s) (n := n) (S1 := S1) hac hac' ha ha' (by rw [hSS]; exact hS1) he0 (by rw [hSS]; exact he) hw (by rw [← hb]; exact hp)
  have hLF' : fm_L s (a1 * a1', M + 2 * (a1 * a1') * k, C) = la_f (a1 * a1') w1 := by
    rw [hLF, show BF = w1 + a1 * a1' * k by omega]
    exact la_f_T _ _ _
  rw [← hLF', ← hLf, ← hLg] at hlat
  have hA : a1 * a1' * (e * e) = a * a' := by rw [ha, ha']; grind
  refine ⟨⟨hF, fm_pr_cp ho hs df dg hF ⟨i, j, l, hp⟩ pg he0 hlat hA, fun hD => ?_⟩, (1, 0), (e, 0), ?_, ?_, ?_, ?_⟩
  · have h1 := vf hD
    have h2 := vg hD
    dsimp only at h1 h2 ⊢
    have h3 := Int.mul_pos h1 h2
    have h4 : 0 ≤ e * e := by rw [← fm_ab_sq]; exact fm_sq_le (Int.le_refl 0) (show 0 ≤ fm_ab e by rcases fm_ab_cases e with k | k <;> omega)
    rcases Int.lt_or_le 0 (a1 * a1') with q | q
    · exact q
    · have := Int.mul_le_mul_of_nonneg_right q h4
      rw [Int.zero_mul] at this
      omega
  · rw [la_s_1, hlat]
  · rw [el_N_i, el_N_i]
    dsimp only
    have : e * e * (a1 * a1') = a * a' := by rw [Int.mul_comm, hA]
    rw [this]
    omega
  · rw [el_N_i]; decide
  · rw [el_N_i]; exact Int.mul_ne_zero he0 he0
/-- the formula always works -/
theorem fm_formula_ex {D w s n a b c a' b' c' : Int} (ho : fm_ok D w) (hs : fm_sn D s n) (hf : fm_v D (a, b, c)) (hg : fm_v D (a', b', c')) {e x y z S : Int} (hS : 2 * S = b + b') (he0 : e ≠ 0) (ha : e ∣ a) (ha' : e ∣ a') (hS1 : e ∣ S) (he : x * a + y * a' + z * S = e) : ∃ a1 a1' T M Cx : Int, a = e * a1 ∧ a' = e * a1' ∧ 2 * T = b * b' + D ∧ x * a * b' + y * a' * b + z * T = e * M ∧ ∀ k, ∃ C, fm_disc D (a1 * a1', M + 2 * (a1 * a1') * k, C) := by
  obtain ⟨a1, h1⟩ := ha
  obtain ⟨a1', h2⟩ := ha'
  obtain ⟨S1, h3⟩ := hS1
  obtain ⟨hb, hac⟩ := fm_half hs hf.1
  obtain ⟨hb', hac'⟩ := fm_half hs hg.1
  generalize fm_B s (a, b, c) = B at hb hac
  generalize fm_B s (a', b', c') = B' at hb' hac'
  have hSS : B + B' + s = S := by omega
  have hs2 : s * s = s := by rcases hs.1 with h | h <;> rw [h] <;> decide
  have hD := hs.2
  -- e goes into n + B B'
  have hn : n + B * B' = e * (B * S1 - a1 * c) := fm_hn hac h1 h3 hSS
  obtain ⟨w1, hw1⟩ : ∃ w1, w1 = x * a1 * B' + y * a1' * B + z * (B * S1 - a1 * c) := ⟨_, rfl⟩
  have hw : x * a * B' + y * a' * B + z * (n + B * B') = e * w1 := by
    rw [hn, hw1, h1, h2]
    clear hn hw1 h1 h2 hac hac' hS he hSS hb hb' h3 he0 hs2 hD hf hg
    grind
  have hc := fm_prod_c hac hac' h1 h2 he0 (by rw [hSS]; exact he) hw
  refine ⟨a1, a1', 2 * (n + B * B') + s * S, 2 * w1 + s, 0, h1, h2, by rw [← hSS]; exact (fm_TT hb hb' hD hs2).mpr rfl, by rw [← hSS]; exact (fm_hw hb hb' (by rw [hSS]; exact he) rfl).mpr hw, fun k => ?_⟩
  obtain ⟨C0, hC0⟩ : ∃ C0, w1 * w1 + s * w1 - n = a1 * a1' * C0 := ⟨_, hc⟩
  refine ⟨a1 * a1' * (k * k) + (2 * w1 + s) * k + C0, fm_T_disc k ?_⟩
  unfold fm_disc
  dsimp only
  grind
theorem fm_prod_ex {D w s n : Int} {f g : fm_F} (ho : fm_ok D w) (hs : fm_sn D s n) (hf : fm_v D f) (hg : fm_v D g) : ∃ F, fm_v D F ∧ fm_cp s n f g F := by
  obtain ⟨a, b, c⟩ := f
  obtain ⟨a', b', c'⟩ := g
  obtain ⟨ha0, -⟩ := fm_ne ho hf.1
  obtain ⟨hb, -⟩ := fm_half hs hf.1
  obtain ⟨hb', -⟩ := fm_half hs hg.1
  obtain ⟨S, hS⟩ : ∃ S, 2 * S = b + b' := ⟨fm_B s (a, b, c) + fm_B s (a', b', c') + s, by omega⟩
  obtain ⟨x, y, g1, g0, e1, d1, d2⟩ := fm_bez _ a a' (Nat.le_refl _) (Or.inl ha0)
  obtain ⟨x', z, e, he0, e2, d3, d4⟩ := fm_bez _ g1 S (Nat.le_refl _) (Or.inl g0)
  have he : (x' * x) * a + (x' * y) * a' + z * S = e := by grind
  obtain ⟨a1, a1', T, M, -, h1, h2, h3, h4, h5⟩ := fm_formula_ex ho hs hf hg hS he0 (Int.dvd_trans d3 d1) (Int.dvd_trans d3 d2) d4 he
  obtain ⟨S1, h6⟩ := d4
  obtain ⟨C, hC⟩ := h5 0
  exact ⟨_, fm_formula ho hs hf hg hS he0 h1 h2 h6 he h3 h4 hC⟩
theorem fm_one_v {D s n : Int} (hs : fm_sn D s n) : fm_v D (fm_one s n) := ⟨fm_one_disc hs, ⟨1, 0, 0, by unfold fm_one; dsimp only; omega⟩, fun _ => by unfold fm_one; dsimp only; decide⟩
theorem fm_inv_v {D : Int} {f : fm_F} (h : fm_v D f) : fm_v D (fm_inv f) := ⟨fm_inv_disc h.1, fm_inv_pr h.2.1, h.2.2⟩
/-- F is of the k-th power of the class of f -/
def fm_pw (D s n : Int) (f : fm_F) : Nat → fm_F → Prop
  | 0, F => fm_eq s n (fm_one s n) F
  | k + 1, F => ∃ G, fm_v D G ∧ fm_pw D s n f k G ∧ fm_cp s n G f F
theorem fm_pw.r {D s n : Int} {f : fm_F} {k : Nat} {F G : fm_F} (h : fm_pw D s n f k F) (e : fm_eq s n F G) : fm_pw D s n f k G := by
  cases k with
  | zero => exact h.tr e
  | succ k =>
    obtain ⟨X, v, p, c⟩ := h
    exact ⟨X, v, p, c.r e⟩
theorem fm_pw.fn {D s n : Int} {f : fm_F} {k : Nat} {F G : fm_F} (h : fm_pw D s n f k F) (h' : fm_pw D s n f k G) : fm_eq s n F G := by
  induction k generalizing F G with
  | zero => exact (fm_eq.sy h).tr h'
  | succ k ih =>
    obtain ⟨X, v, p, c⟩ := h
    obtain ⟨Y, v', p', c'⟩ := h'
    exact (c.l (ih p p')).fn c'
theorem fm_pw.ex {D w s n : Int} {f : fm_F} (ho : fm_ok D w) (hs : fm_sn D s n) (hf : fm_v D f) (k : Nat) : ∃ F, fm_v D F ∧ fm_pw D s n f k F := by
  induction k with
  | zero => exact ⟨fm_one s n, fm_one_v hs, fm_eq.rf _⟩
  | succ k ih =>
    obtain ⟨G, v, p⟩ := ih
    obtain ⟨F, v', c⟩ := fm_prod_ex ho hs v hf
    exact ⟨F, v', G, v, p, c⟩
theorem fm_pw.one {D s n : Int} {f : fm_F} (hs : fm_sn D s n) (hf : fm_v D f) : fm_pw D s n f 1 f := ⟨fm_one s n, fm_one_v hs, fm_eq.rf _, fm_cp_one hs hf.1⟩
theorem fm_pw.add {D w s n : Int} {f : fm_F} (ho : fm_ok D w) (hs : fm_sn D s n) (i j : Nat) {F G H : fm_F} (hF : fm_v D F) (h1 : fm_pw D s n f i F) (h2 : fm_pw D s n f j G) (h3 : fm_cp s n F G H) : fm_pw D s n f (i + j) H := by
  induction j generalizing G H with
  | zero => exact h1.r ((fm_cp_one hs hF.1).cm.fn (h3.m (fm_eq.sy h2)))
  | succ j ih =>
    obtain ⟨G', v, p, c⟩ := h2
    obtain ⟨K, vK, cK⟩ := fm_prod_ex ho hs hF v
    exact ⟨K, vK, ih p cK, (fm_cp.as c.cm h3.cm cK.cm).cm⟩
theorem fm_pw.inv {D w s n : Int} {f : fm_F} (ho : fm_ok D w) (hs : fm_sn D s n) (hf : fm_v D f) (k : Nat) {F G : fm_F} (vF : fm_v D F) (vG : fm_v D G) (h1 : fm_pw D s n f k F) (h2 : fm_pw D s n (fm_inv f) k G) : fm_cp s n G F (fm_one s n) := by
  induction k generalizing F G with
  | zero => exact ((fm_cp_one hs (fm_one_v hs).1).l h2).m h1
  | succ k ih =>
    obtain ⟨X, vX, pX, cX⟩ := h1
    obtain ⟨Y, vY, pY, cY⟩ := h2
    obtain ⟨Z, vZ, cZ⟩ := fm_prod_ex ho hs vG vF
    have b := (fm_cp_back ho hs vX.1 hf.1 hf.2.1 cX).cm
    have q := fm_cp.as cY cZ b
    exact cZ.r (q.fn (ih vX vY pX pY))
/-- powers with equal classes -/
theorem fm_pw.sub {D w s n : Int} {f : fm_F} (ho : fm_ok D w) (hs : fm_sn D s n) (hf : fm_v D f) {i j : Nat} (hij : i ≤ j) {F : fm_F} (vF : fm_v D F) (h1 : fm_pw D s n f i F) (h2 : fm_pw D s n f j F) : fm_pw D s n f (j - i) (fm_one s n) := by
  obtain ⟨G, vG, pG⟩ := fm_pw.ex ho hs hf (j - i)
  obtain ⟨H, vH, cH⟩ := fm_prod_ex ho hs vG vF
  have h3 := fm_pw.add ho hs (j - i) i vG pG h1 cH
  rw [Nat.sub_add_cancel hij] at h3
  have h4 := cH.r (h3.fn h2)
  have h5 := fm_cp_one (s := s) (n := n) hs vF.1
  exact pG.r (fm_cp_cancel ho hs vG.1 (fm_one_v hs).1 vF.1 vF.2.1 h4 h5)
theorem fm_pw.mul {D w s n : Int} {f : fm_F} (ho : fm_ok D w) (hs : fm_sn D s n) (hf : fm_v D f) {m : Nat} (h : fm_pw D s n f m (fm_one s n)) (q : Nat) : fm_pw D s n f (m * q) (fm_one s n) := by
  induction q with
  | zero => exact fm_eq.rf _
  | succ q ih => exact fm_pw.add ho hs (m * q) m (fm_one_v hs) ih h (fm_cp_one hs (fm_one_v hs).1)
/-- powers whose exponents differ by a multiple of m, if the m-th one is ONE -/
theorem fm_pw.mod {D w s n : Int} {f : fm_F} (ho : fm_ok D w) (hs : fm_sn D s n) (hf : fm_v D f) {m : Nat} (h : fm_pw D s n f m (fm_one s n)) {i : Nat} (q : Nat) {F : fm_F} (vF : fm_v D F) (h1 : fm_pw D s n f i F) : fm_pw D s n f (i + m * q) F :=
  fm_pw.add ho hs i (m * q) vF h1 (fm_pw.mul ho hs hf h q) (fm_cp_one hs vF.1).cm
-- every class has an order
def fm_cn (g : fm_F) : Int := g.1 * 1200 + g.2.1 + 600
theorem fm_neg_a {D w a b c : Int} (hD : D < 0) (hDl : -1048576 ≤ D) (hd : fm_disc D (a, b, c)) (hr : fm_red D w (a, b, c)) : 0 ≤ a ∧ a ≤ 591 ∧ fm_ab b ≤ a := by
  rw [fm_red_lt hD] at hr
  obtain ⟨r1, r2, r3⟩ := hr
  have hb0 : 0 ≤ fm_ab b := by rcases fm_ab_cases b with k | k <;> omega
  have m1 := fm_sq_le hb0 r1
  rw [fm_ab_sq] at m1
  have m2 := Int.mul_le_mul_of_nonneg_left r2 (show 0 ≤ a by omega)
  unfold fm_disc at hd
  dsimp only at hd
  refine ⟨by omega, ?_, r1⟩
  rcases Int.lt_or_le 591 a with k | k
  · exfalso
    have := fm_sq_le (show (0 : Int) ≤ 592 by decide) (show 592 ≤ a by omega)
    omega
  · exact k
theorem fm_code {D w : Int} (h : fm_ok D w) (hw : w ≤ 1023) (hDl : -1048576 ≤ D) : ∃ cd : fm_F → Nat, (∀ g, fm_disc D g → fm_red D w g → cd g < 720000) ∧ ∀ g g', fm_disc D g → fm_red D w g → fm_disc D g' → fm_red D w g' → cd g = cd g' → g = g' := by
  by_cases hD : D < 0
  · refine ⟨fun g => (fm_cn g).toNat, ?_, ?_⟩
    · rintro ⟨a, b, c⟩ hd hr
      obtain ⟨h1, h2, h3⟩ := fm_neg_a hD hDl hd hr
      show (a * 1200 + b + 600).toNat < 720000
      rcases fm_ab_cases b with k | k <;> omega
    · rintro ⟨a, b, c⟩ ⟨a', b', c'⟩ hd hr hd' hr' he
      obtain ⟨h1, h2, h3⟩ := fm_neg_a hD hDl hd hr
      obtain ⟨h4, h5, h6⟩ := fm_neg_a hD hDl hd' hr'
      have he' : (a * 1200 + b + 600).toNat = (a' * 1200 + b' + 600).toNat := he
      have e1 : a = a' := by rcases fm_ab_cases b with k | k <;> rcases fm_ab_cases b' with k' | k' <;> omega
      have e2 : b = b' := by rcases fm_ab_cases b with k | k <;> rcases fm_ab_cases b' with k' | k' <;> omega
      subst e1
      subst e2
      obtain ⟨ha0, -⟩ := fm_ne h hd
      unfold fm_disc at hd hd'
      dsimp only at hd hd'
      have : a * c = a * c' := by omega
      rw [fm_cancel ha0 this]
  · refine ⟨fun g => (fm_cd w g).toNat, ?_, ?_⟩
    · intro g hd hr
      have := fm_cd_lt hw hD hr
      show (fm_cd w g).toNat < 720000
      omega
    · intro g g' hd hr hd' hr' he
      have h1 := fm_cd_lt hw hD hr
      have h2 := fm_cd_lt hw hD hr'
      have he' : (fm_cd w g).toNat = (fm_cd w g').toNat := he
      exact fm_cd_inj h hD hd hd' hr hr' (by omega)
theorem fm_ord_ex {D w s n : Int} {f : fm_F} (ho : fm_ok D w) (hw : w ≤ 1023) (hDl : -1048576 ≤ D) (hs : fm_sn D s n) (hf : fm_v D f) : ∃ m : Nat, 0 < m ∧ m ≤ 720000 ∧ fm_pw D s n f m (fm_one s n) := by
  obtain ⟨cd, c1, c2⟩ := fm_code ho hw hDl
  have hall : ∀ i : Nat, ∃ R : fm_F, ∃ F : fm_F, fm_v D F ∧ fm_pw D s n f i F ∧ fm_disc D R ∧ fm_red D w R ∧ fm_mg D w F R := by
    intro i
    obtain ⟨F, vF, pF⟩ := fm_pw.ex ho hs hf i
    obtain ⟨a, b, c⟩ := F
    obtain ⟨j, hj⟩ := fm_ahead ho vF.1 vF.2.2
    exact ⟨_, _, vF, pF, fm_it_disc ho j vF.1, hj, ⟨j, 0, rfl⟩⟩
  obtain ⟨R, hR⟩ := Classical.axiomOfChoice hall
  obtain ⟨i, j, h1, h2, h3⟩ := fm_pigeon 720000 (fun i => cd (R i)) (fun i _ => by
    obtain ⟨F, -, -, d, r, -⟩ := hR i
    exact c1 _ d r)
  obtain ⟨F, vF, pF, dF, rF, mF⟩ := hR i
  obtain ⟨G, vG, pG, dG, rG, mG⟩ := hR j
  have e := c2 _ _ dF rF dG rG h3
  rw [← e] at mG
  have e2 := fm_eq_mg ho hs vG.1 vF.1 (mG.tr mF.sy)
  exact ⟨j - i, by omega, by omega, fm_pw.sub ho hs hf (by omega) vF pF (pG.r e2)⟩
end
section
/-! The search for a number that a form takes and that has only 1 in common with n (at most 1024): it ends at y = 15 at the latest. -/
def fr_P (p : Nat) : Prop := 2 ≤ p ∧ ∀ d, d ∣ p → d = 1 ∨ d = p
theorem fr_euc {p : Nat} (hp : fr_P p) {x y : Int} (h : (p : Int) ∣ x * y) : (p : Int) ∣ x ∨ (p : Int) ∣ y := by
  rw [← Int.natAbs_dvd_natAbs, Int.natAbs_mul, Int.natAbs_natCast] at h
  rcases hp.2 (Nat.gcd p y.natAbs) (Nat.gcd_dvd_left _ _) with k | k
  · left
    rw [← Int.natAbs_dvd_natAbs, Int.natAbs_natCast]
    exact Nat.Coprime.dvd_of_dvd_mul_right k h
  · right
    rw [← Int.natAbs_dvd_natAbs, Int.natAbs_natCast]
    have := Nat.gcd_dvd_right p y.natAbs
    rw [k] at this
    exact this
/-- a polynomial of second degree has at most two roots modulo a prime -/
theorem fr_two {p : Nat} (hp : fr_P p) {A B C x y z : Int} (h0 : ¬ ((p : Int) ∣ A ∧ (p : Int) ∣ B ∧ (p : Int) ∣ C)) (hxy : ¬ (p : Int) ∣ x - y) (hxz : ¬ (p : Int) ∣ x - z) (hyz : ¬ (p : Int) ∣ y - z) (hx : (p : Int) ∣ A * (x * x) + B * x + C) (hy : (p : Int) ∣ A * (y * y) + B * y + C) (hz : (p : Int) ∣ A * (z * z) + B * z + C) : False := by
  have e1 : (x - y) * (A * (x + y) + B) = A * (x * x) + B * x + C - (A * (y * y) + B * y + C) := by grind
  have e2 : (x - z) * (A * (x + z) + B) = A * (x * x) + B * x + C - (A * (z * z) + B * z + C) := by grind
  have d1 := (fr_euc hp (by rw [e1]; exact Int.dvd_sub hx hy)).resolve_left hxy
  have d2 := (fr_euc hp (by rw [e2]; exact Int.dvd_sub hx hz)).resolve_left hxz
  have e3 : (y - z) * A = A * (x + y) + B - (A * (x + z) + B) := by grind
  have d3 := (fr_euc hp (by rw [e3]; exact Int.dvd_sub d1 d2)).resolve_left hyz
  have d4 : (p : Int) ∣ B := by
    have : B = A * (x + y) + B - A * (x + y) := by omega
    rw [this]
    exact Int.dvd_sub d1 (Int.dvd_trans d3 (Int.dvd_mul_right _ _))
  refine h0 ⟨d3, d4, ?_⟩
  have : C = A * (x * x) + B * x + C - A * (x * x) - B * x := by omega
  rw [this]
  exact Int.dvd_sub (Int.dvd_sub hx (Int.dvd_trans d3 (Int.dvd_mul_right _ _))) (Int.dvd_trans d4 (Int.dvd_mul_right _ _))
theorem fr_len {P Q R : Int → Bool} : ∀ (l : List Int), (∀ x ∈ l, P x = true ∨ Q x = true ∨ R x = true) → l.length ≤ (l.filter P).length + (l.filter Q).length + (l.filter R).length := by
  intro l
  induction l with
  | nil => intro _; simp
  | cons a l ih =>
    intro h
    have h1 := ih (fun x hx => h x (List.mem_cons_of_mem _ hx))
    have h2 := h a List.mem_cons_self
    simp only [List.filter_cons, List.length_cons]
    cases hP : P a <;> cases hQ : Q a <;> cases hR : R a <;> simp_all <;> omega
def fr_g (A B C x : Int) : Int := A * (x * x) + B * x + C
def fr_b (p : Nat) (A B C : Int) : Int → Bool := fun x => decide ((p : Int) ∣ fr_g A B C x)
theorem fr_le2 {p : Nat} (hp : fr_P p) {A B C : Int} (h0 : ¬ ((p : Int) ∣ A ∧ (p : Int) ∣ B ∧ (p : Int) ∣ C)) {l : List Int} (hl : l.Pairwise (fun x y => ¬ (p : Int) ∣ x - y)) : (l.filter (fr_b p A B C)).length ≤ 2 := by
  have hf := hl.filter (fr_b p A B C)
  have hm : ∀ x ∈ l.filter (fr_b p A B C), (p : Int) ∣ A * (x * x) + B * x + C := by
    intro x hx
    have := (List.mem_filter.mp hx).2
    unfold fr_b fr_g at this
    exact of_decide_eq_true this
  generalize l.filter (fr_b p A B C) = m at hf hm
  match m, hf, hm with
  | [], _, _ => simp
  | [_], _, _ => simp
  | [_, _], _, _ => simp
  | x :: y :: z :: t, hf, hm =>
    exfalso
    rw [List.pairwise_cons, List.pairwise_cons] at hf
    exact fr_two hp h0 (hf.1 y (by simp)) (hf.1 z (by simp)) (hf.2.1 z (by simp)) (hm x (by simp)) (hm y (by simp)) (hm z (by simp))
/-- a difference that is neither 0 nor as large as p -/
theorem fr_nd {p : Nat} {x : Int} (h0 : x ≠ 0) (h1 : -(p : Int) < x) (h2 : x < p) : ¬ (p : Int) ∣ x := by
  rintro ⟨k, hk⟩
  rcases Int.lt_trichotomy k 0 with q | q | q
  · have := Int.mul_le_mul_of_nonneg_left (show k ≤ -1 by omega) (show (0 : Int) ≤ p by omega)
    omega
  · rw [q, Int.mul_zero] at hk
    exact h0 hk
  · have := Int.mul_le_mul_of_nonneg_left (show 1 ≤ k by omega) (show (0 : Int) ≤ p by omega)
    omega
/-- 3 d, d from 1 to 4, isn't a multiple of a prime above 3 -/
theorem fr_nd3 {p : Nat} (hp : fr_P p) (h5 : 5 ≤ p) {x d : Int} (e : x = 3 * d) (h0 : d ≠ 0) (h1 : -4 ≤ d) (h2 : d ≤ 4) : ¬ (p : Int) ∣ x := by
  intro h
  rw [e] at h
  rcases fr_euc hp h with k | k
  · exact fr_nd (p := p) (x := 3) (by decide) (by omega) (by omega) k
  · exact fr_nd h0 (by omega) (by omega) k
/-- what takes at most two out of places of one class modulo 3; out of places near each other -/
def fr_w3 (P : Int → Bool) : Prop := ∀ l : List Int, l.Pairwise (fun x y => ∃ d, x - y = 3 * d ∧ d ≠ 0 ∧ -4 ≤ d ∧ d ≤ 4) → (l.filter P).length ≤ 2
def fr_w6 (P : Int → Bool) : Prop := ∀ l : List Int, l.Pairwise (fun x y => x - y ≠ 0 ∧ -6 ≤ x - y ∧ x - y ≤ 6) → (l.filter P).length ≤ 2
theorem fr_w3_p {p : Nat} (hp : fr_P p) (h5 : 5 ≤ p) {A B C : Int} (h0 : ¬ ((p : Int) ∣ A ∧ (p : Int) ∣ B ∧ (p : Int) ∣ C)) : fr_w3 (fr_b p A B C) := by
  intro l hl
  refine fr_le2 hp h0 (hl.imp ?_)
  rintro x y ⟨d, e, d0, d1, d2⟩
  exact fr_nd3 hp h5 e d0 d1 d2
theorem fr_w6_p {p : Nat} (hp : fr_P p) (h7 : 7 ≤ p) {A B C : Int} (h0 : ¬ ((p : Int) ∣ A ∧ (p : Int) ∣ B ∧ (p : Int) ∣ C)) : fr_w6 (fr_b p A B C) := by
  intro l hl
  refine fr_le2 hp h0 (hl.imp ?_)
  rintro x y ⟨d0, d1, d2⟩
  exact fr_nd d0 (by omega) (by omega)
theorem fr_f0 : ∀ l : List Int, l.filter (fun _ => false) = []
  | [] => rfl
  | _ :: l => fr_f0 l
theorem fr_w3_0 : fr_w3 (fun _ => false) := fun l _ => by rw [fr_f0]; simp
theorem fr_w6_0 : fr_w6 (fun _ => false) := fun l _ => by rw [fr_f0]; simp
theorem fr_pick {l : List Int} {P Q R : Int → Bool} (h : (l.filter P).length + (l.filter Q).length + (l.filter R).length < l.length) : ∃ x ∈ l, P x = false ∧ Q x = false ∧ R x = false := by
  apply Classical.byContradiction
  intro hn
  have := fr_len (P := P) (Q := Q) (R := R) l (fun x hx => by
    cases hP : P x
    · cases hQ : Q x
      · cases hR : R x
        · exact (hn ⟨x, hx, hP, hQ, hR⟩).elim
        · exact Or.inr (Or.inr rfl)
      · exact Or.inr (Or.inl rfl)
    · exact Or.inl rfl)
  omega
theorem fr_P3 : fr_P 3 := ⟨by decide, fun d hd => by
  have : d ≤ 3 := Nat.le_of_dvd (by decide) hd
  match d, this, hd with
  | 0, _, hd => exact absurd (Nat.eq_zero_of_zero_dvd hd) (by decide)
  | 1, _, _ => exact Or.inl rfl
  | 2, _, hd => exact absurd hd (by decide)
  | 3, _, _ => exact Or.inr rfl⟩
theorem fr_P5 : fr_P 5 := ⟨by decide, fun d hd => by
  have : d ≤ 5 := Nat.le_of_dvd (by decide) hd
  match d, this, hd with
  | 0, _, hd => exact absurd (Nat.eq_zero_of_zero_dvd hd) (by decide)
  | 1, _, _ => exact Or.inl rfl
  | 2, _, hd => exact absurd hd (by decide)
  | 3, _, hd => exact absurd hd (by decide)
  | 4, _, hd => exact absurd hd (by decide)
  | 5, _, _ => exact Or.inr rfl⟩
theorem fr_per {p : Nat} {A B C x : Int} (d : Int) (h : ¬ (p : Int) ∣ fr_g A B C x) : ¬ (p : Int) ∣ fr_g A B C (x + p * d) := by
  intro k
  apply h
  have e : fr_g A B C x = fr_g A B C (x + p * d) - p * (A * (2 * x * d + p * (d * d)) + B * d) := by
    unfold fr_g
    grind
  rw [e]
  exact Int.dvd_sub k (Int.dvd_mul_right _ _)
/-- 3 the least of the primes -/
theorem fr_c3 {Q R : Int → Bool} (hq : fr_w3 Q) (hr : fr_w3 R) {A B C : Int} (n3 : ¬ (((3 : Nat) : Int) ∣ A ∧ ((3 : Nat) : Int) ∣ B ∧ ((3 : Nat) : Int) ∣ C)) : ∃ x : Int, -7 ≤ x ∧ x ≤ 7 ∧ ¬ ((3 : Nat) : Int) ∣ fr_g A B C x ∧ Q x = false ∧ R x = false := by
  have hx : ∃ x0 : Int, -7 ≤ x0 ∧ x0 ≤ -5 ∧ ¬ ((3 : Nat) : Int) ∣ fr_g A B C x0 := by
    by_cases a1 : ((3 : Nat) : Int) ∣ fr_g A B C (-7)
    · by_cases a2 : ((3 : Nat) : Int) ∣ fr_g A B C (-6)
      · by_cases a3 : ((3 : Nat) : Int) ∣ fr_g A B C (-5)
        · exact (fr_two fr_P3 n3 (x := -7) (y := -6) (z := -5) (by decide) (by decide) (by decide) a1 a2 a3).elim
        · exact ⟨-5, by decide, by decide, a3⟩
      · exact ⟨-6, by decide, by decide, a2⟩
    · exact ⟨-7, by decide, by decide, a1⟩
  obtain ⟨x0, b1, b2, b3⟩ := hx
  have hcl : ∀ d : Int, ¬ ((3 : Nat) : Int) ∣ fr_g A B C (x0 + 3 * d) := fun d => fr_per (p := 3) d b3
  have pw : ([x0 + 3 * 0, x0 + 3 * 1, x0 + 3 * 2, x0 + 3 * 3, x0 + 3 * 4] : List Int).Pairwise (fun x y => ∃ d, x - y = 3 * d ∧ d ≠ 0 ∧ -4 ≤ d ∧ d ≤ 4) := by
    refine List.Pairwise.cons ?_ (List.Pairwise.cons ?_ (List.Pairwise.cons ?_ (List.Pairwise.cons ?_ (List.Pairwise.cons ?_ List.Pairwise.nil))))
    · intro y hy
      simp only [List.mem_cons, List.not_mem_nil, or_false] at hy
      rcases hy with rfl | rfl | rfl | rfl
      · exact ⟨-1, by omega, by omega, by omega, by omega⟩
      · exact ⟨-2, by omega, by omega, by omega, by omega⟩
      · exact ⟨-3, by omega, by omega, by omega, by omega⟩
      · exact ⟨-4, by omega, by omega, by omega, by omega⟩
    · intro y hy
      simp only [List.mem_cons, List.not_mem_nil, or_false] at hy
      rcases hy with rfl | rfl | rfl
      · exact ⟨-1, by omega, by omega, by omega, by omega⟩
      · exact ⟨-2, by omega, by omega, by omega, by omega⟩
      · exact ⟨-3, by omega, by omega, by omega, by omega⟩
    · intro y hy
      simp only [List.mem_cons, List.not_mem_nil, or_false] at hy
      rcases hy with rfl | rfl
      · exact ⟨-1, by omega, by omega, by omega, by omega⟩
      · exact ⟨-2, by omega, by omega, by omega, by omega⟩
    · intro y hy
      simp only [List.mem_cons, List.not_mem_nil, or_false] at hy
      subst hy
      exact ⟨-1, by omega, by omega, by omega, by omega⟩
    · intro y hy
      simp at hy
  have k1 := hq _ pw
  have k2 := hr _ pw
  have k3 := fr_w3_0 _ pw
  obtain ⟨x, hx, hQ, hR, -⟩ := fr_pick (P := Q) (Q := R) (R := fun _ => false) (l := [x0 + 3 * 0, x0 + 3 * 1, x0 + 3 * 2, x0 + 3 * 3, x0 + 3 * 4]) (by rw [fr_f0]; simp only [List.length_nil, List.length_cons]; omega)
  have hd : ∃ d : Int, 0 ≤ d ∧ d ≤ 4 ∧ x = x0 + 3 * d := by
    simp only [List.mem_cons, List.not_mem_nil, or_false] at hx
    rcases hx with h | h | h | h | h
    · exact ⟨0, by decide, by decide, h⟩
    · exact ⟨1, by decide, by decide, h⟩
    · exact ⟨2, by decide, by decide, h⟩
    · exact ⟨3, by decide, by decide, h⟩
    · exact ⟨4, by decide, by decide, h⟩
  obtain ⟨d, d1, d2, rfl⟩ := hd
  exact ⟨x0 + 3 * d, by omega, by omega, hcl d, hQ, hR⟩
/-- all primes are 7 or more -/
theorem fr_c7 {P Q R : Int → Bool} (hp : fr_w6 P) (hq : fr_w6 Q) (hr : fr_w6 R) : ∃ x : Int, -7 ≤ x ∧ x ≤ 7 ∧ P x = false ∧ Q x = false ∧ R x = false := by
  have pw : ([-3, -2, -1, 0, 1, 2, 3] : List Int).Pairwise (fun x y => x - y ≠ 0 ∧ -6 ≤ x - y ∧ x - y ≤ 6) := by decide
  have k1 := hp _ pw
  have k2 := hq _ pw
  have k3 := hr _ pw
  obtain ⟨x, hx, h1, h2, h3⟩ := fr_pick (P := P) (Q := Q) (R := R) (l := [-3, -2, -1, 0, 1, 2, 3]) (by simp only [List.length_cons, List.length_nil]; omega)
  simp only [List.mem_cons, List.not_mem_nil, or_false] at hx
  exact ⟨x, by omega, by omega, h1, h2, h3⟩
/-- five places near each other, none of them a root modulo 5 -/
theorem fr_five {Q R : Int → Bool} (hq : fr_w6 Q) (hr : fr_w6 R) {A B C x t : Int} (hx0 : -7 ≤ x) (hx1 : x ≤ 1) (h1 : ¬ ((5 : Nat) : Int) ∣ fr_g A B C x) (h2 : ¬ ((5 : Nat) : Int) ∣ fr_g A B C (x + 1)) (ht1 : x + 2 ≤ t) (ht2 : t ≤ x + 4) (h3 : ¬ ((5 : Nat) : Int) ∣ fr_g A B C t) : ∃ x : Int, -7 ≤ x ∧ x ≤ 7 ∧ ¬ ((5 : Nat) : Int) ∣ fr_g A B C x ∧ Q x = false ∧ R x = false := by
  have h4 : ¬ ((5 : Nat) : Int) ∣ fr_g A B C (x + 5 * 1) := fr_per (p := 5) 1 h1
  have h5 : ¬ ((5 : Nat) : Int) ∣ fr_g A B C (x + 1 + 5 * 1) := fr_per (p := 5) 1 h2
  have pw : ([x, x + 1, t, x + 5 * 1, x + 1 + 5 * 1] : List Int).Pairwise (fun x y => x - y ≠ 0 ∧ -6 ≤ x - y ∧ x - y ≤ 6) := by
    refine List.Pairwise.cons ?_ (List.Pairwise.cons ?_ (List.Pairwise.cons ?_ (List.Pairwise.cons ?_ (List.Pairwise.cons ?_ List.Pairwise.nil))))
    all_goals
      intro y hy
      simp only [List.mem_cons, List.not_mem_nil, or_false] at hy
      try omega
  have k1 := hq _ pw
  have k2 := hr _ pw
  have k3 := fr_w6_0 _ pw
  obtain ⟨z, hz, hQ, hR, -⟩ := fr_pick (P := Q) (Q := R) (R := fun _ => false) (l := [x, x + 1, t, x + 5 * 1, x + 1 + 5 * 1]) (by rw [fr_f0]; simp only [List.length_nil, List.length_cons]; omega)
  simp only [List.mem_cons, List.not_mem_nil, or_false] at hz
  refine ⟨z, by omega, by omega, ?_, hQ, hR⟩
  rcases hz with rfl | rfl | rfl | rfl | rfl
  · exact h1
  · exact h2
  · exact h3
  · exact h4
  · exact h5
theorem fr_c5 {Q R : Int → Bool} (hq : fr_w6 Q) (hr : fr_w6 R) {A B C : Int} (n5 : ¬ (((5 : Nat) : Int) ∣ A ∧ ((5 : Nat) : Int) ∣ B ∧ ((5 : Nat) : Int) ∣ C)) : ∃ x : Int, -7 ≤ x ∧ x ≤ 7 ∧ ¬ ((5 : Nat) : Int) ∣ fr_g A B C x ∧ Q x = false ∧ R x = false := by
  -- at most two of five places are roots
  have tw : ∀ x y z : Int, -7 ≤ x → x < y → y < z → z ≤ -3 → ((5 : Nat) : Int) ∣ fr_g A B C x → ((5 : Nat) : Int) ∣ fr_g A B C y → ((5 : Nat) : Int) ∣ fr_g A B C z → False := fun x y z a b c d hx hy hz =>
    fr_two fr_P5 n5 (x := x) (y := y) (z := z) (fr_nd (by omega) (by omega) (by omega)) (fr_nd (by omega) (by omega) (by omega)) (fr_nd (by omega) (by omega) (by omega)) hx hy hz
  have per : ∀ x : Int, ¬ ((5 : Nat) : Int) ∣ fr_g A B C x → ¬ ((5 : Nat) : Int) ∣ fr_g A B C (x + 5 * 1) := fun x h => fr_per (p := 5) 1 h
  by_cases a : ((5 : Nat) : Int) ∣ fr_g A B C (-7) <;> by_cases b : ((5 : Nat) : Int) ∣ fr_g A B C (-6) <;> by_cases c : ((5 : Nat) : Int) ∣ fr_g A B C (-5) <;> by_cases d : ((5 : Nat) : Int) ∣ fr_g A B C (-4) <;> by_cases e : ((5 : Nat) : Int) ∣ fr_g A B C (-3)
  all_goals first
    | exact (tw (-7) (-6) (-5) (by decide) (by decide) (by decide) (by decide) a b c).elim
    | exact (tw (-7) (-6) (-4) (by decide) (by decide) (by decide) (by decide) a b d).elim
    | exact (tw (-7) (-6) (-3) (by decide) (by decide) (by decide) (by decide) a b e).elim
    | exact (tw (-7) (-5) (-4) (by decide) (by decide) (by decide) (by decide) a c d).elim
    | exact (tw (-7) (-5) (-3) (by decide) (by decide) (by decide) (by decide) a c e).elim
    | exact (tw (-7) (-4) (-3) (by decide) (by decide) (by decide) (by decide) a d e).elim
    | exact (tw (-6) (-5) (-4) (by decide) (by decide) (by decide) (by decide) b c d).elim
    | exact (tw (-6) (-5) (-3) (by decide) (by decide) (by decide) (by decide) b c e).elim
    | exact (tw (-6) (-4) (-3) (by decide) (by decide) (by decide) (by decide) b d e).elim
    | exact (tw (-5) (-4) (-3) (by decide) (by decide) (by decide) (by decide) c d e).elim
    | exact fr_five hq hr (x := -7) (t := -5) (by decide) (by decide) a b (by decide) (by decide) c
    | exact fr_five hq hr (x := -7) (t := -4) (by decide) (by decide) a b (by decide) (by decide) d
    | exact fr_five hq hr (x := -7) (t := -3) (by decide) (by decide) a b (by decide) (by decide) e
    | exact fr_five hq hr (x := -6) (t := -4) (by decide) (by decide) b c (by decide) (by decide) d
    | exact fr_five hq hr (x := -6) (t := -3) (by decide) (by decide) b c (by decide) (by decide) e
    | exact fr_five hq hr (x := -5) (t := -3) (by decide) (by decide) c d (by decide) (by decide) e
    | exact fr_five hq hr (x := -5) (t := -2) (by decide) (by decide) c d (by decide) (by decide) (per (-7) a)
    | exact fr_five hq hr (x := -4) (t := -2) (by decide) (by decide) d e (by decide) (by decide) (per (-7) a)
    | exact fr_five hq hr (x := -4) (t := -1) (by decide) (by decide) d e (by decide) (by decide) (per (-6) b)
    | exact fr_five hq hr (x := -3) (t := -1) (by decide) (by decide) e (per (-7) a) (by decide) (by decide) (per (-6) b)
    | exact fr_five hq hr (x := -3) (t := 0) (by decide) (by decide) e (per (-7) a) (by decide) (by decide) (per (-5) c)
    | exact fr_five hq hr (x := -3) (t := 1) (by decide) (by decide) e (per (-7) a) (by decide) (by decide) (per (-4) d)
def fr_odds : List Nat := [3, 5, 7, 11, 13, 17, 19, 23, 29, 31, 37, 41, 43, 47, 53, 59, 61, 67, 71, 73, 79, 83, 89, 97, 101, 103, 107, 109, 113, 127, 131, 137, 139, 149, 151, 157, 163, 167, 173, 179, 181, 191, 193, 197, 199, 211, 223, 227, 229, 233, 239, 241, 251, 257, 263, 269, 271, 277, 281, 283, 293, 307, 311, 313, 317, 331, 337, 347, 349, 353, 359, 367, 373, 379, 383, 389, 397, 401, 409, 419, 421, 431, 433, 439, 443, 449, 457, 461, 463, 467, 479, 487, 491, 499, 503, 509, 521, 523, 541, 547, 557, 563, 569, 571, 577, 587, 593, 599, 601, 607, 613, 617, 619, 631, 641, 643, 647, 653, 659, 661, 673, 677, 683, 691, 701, 709, 719, 727, 733, 739, 743, 751, 757, 761, 769, 773, 787, 797, 809, 811, 821, 823, 827, 829, 839, 853, 857, 859, 863, 877, 881, 883, 887, 907, 911, 919, 929, 937, 941, 947, 953, 967, 971, 977, 983, 991, 997, 1009, 1013, 1019, 1021]
theorem fr_odds_3 : ((List.range 1025).all fun n => n == 0 || decide ((fr_odds.filter (fun p => n % p == 0)).length ≤ 3)) = true := by decide +kernel
theorem fr_odds_p : (fr_odds.all fun p => Nat.ble 3 p && (List.range p).all fun d => Nat.ble d 1 || p % d != 0) = true := by decide +kernel
theorem fr_odds_all : ((List.range 1025).all fun p => Nat.ble p 2 || fr_odds.contains p || (List.range 33).any fun d => Nat.ble 2 d && Nat.blt d p && p % d == 0) = true := by decide +kernel
theorem fr_odds_s : fr_odds.Pairwise (fun x y => x < y) := by decide +kernel
theorem fr_odds_ok {p : Nat} (h : p ∈ fr_odds) : fr_P p ∧ 3 ≤ p := by
  have h1 := List.all_eq_true.mp fr_odds_p p h
  rw [Bool.and_eq_true] at h1
  have h3 : 3 ≤ p := Nat.le_of_ble_eq_true h1.1
  refine ⟨⟨by omega, fun d hd => ?_⟩, h3⟩
  have hle := Nat.le_of_dvd (by omega) hd
  by_cases e : d = p
  · exact Or.inr e
  · left
    have h4 := List.all_eq_true.mp h1.2 d (List.mem_range.mpr (by omega))
    rw [Bool.or_eq_true] at h4
    rcases h4 with k | k
    · have := Nat.le_of_ble_eq_true k
      have : d ≠ 0 := by
        intro e0
        rw [e0] at hd
        have := Nat.eq_zero_of_zero_dvd hd
        omega
      omega
    · exfalso
      have := Nat.mod_eq_zero_of_dvd hd
      simp [this] at k
theorem fr_odds_in {p : Nat} (hp : fr_P p) (h3 : 3 ≤ p) (hl : p ≤ 1024) : p ∈ fr_odds := by
  have h1 := List.all_eq_true.mp fr_odds_all p (List.mem_range.mpr (by omega))
  rw [Bool.or_eq_true, Bool.or_eq_true] at h1
  rcases h1 with (k | k) | k
  · have := Nat.le_of_ble_eq_true k
    omega
  · exact List.contains_iff_mem.mp k
  · exfalso
    obtain ⟨d, -, hd⟩ := List.any_eq_true.mp k
    rw [Bool.and_eq_true, Bool.and_eq_true] at hd
    have d1 := Nat.le_of_ble_eq_true hd.1.1
    have d2 : d < p := Nat.le_of_ble_eq_true hd.1.2
    have d3 : p % d = 0 := by simpa using hd.2
    rcases hp.2 d (Nat.dvd_of_mod_eq_zero d3) with e | e <;> omega
theorem fr_pd : ∀ (m g : Nat), g ≤ m → 2 ≤ g → ∃ p, fr_P p ∧ p ∣ g := by
  intro m
  induction m with
  | zero => intro g h1 h2; omega
  | succ m ih =>
    intro g h1 h2
    by_cases hp : fr_P g
    · exact ⟨g, hp, Nat.dvd_refl g⟩
    · have : ∃ d, d ∣ g ∧ d ≠ 1 ∧ d ≠ g := by
        apply Classical.byContradiction
        intro hn
        apply hp
        refine ⟨h2, fun d hd => ?_⟩
        by_cases e : d = 1
        · exact Or.inl e
        · right
          apply Classical.byContradiction
          intro e'
          exact hn ⟨d, hd, e, e'⟩
      obtain ⟨d, hd, d1, d2⟩ := this
      have hle := Nat.le_of_dvd (by omega) hd
      have d0 : d ≠ 0 := by
        intro e0
        rw [e0] at hd
        have := Nat.eq_zero_of_zero_dvd hd
        omega
      obtain ⟨p, hp, hpd⟩ := ih d (by omega) (by omega)
      exact ⟨p, hp, Nat.dvd_trans hpd hd⟩
theorem fr_rest3 {A B C : Int} : ∀ (l : List Nat), l.length ≤ 2 → (∀ p ∈ l, fr_P p ∧ 5 ≤ p ∧ ¬ ((p : Int) ∣ A ∧ (p : Int) ∣ B ∧ (p : Int) ∣ C)) → ∃ Q R : Int → Bool, fr_w3 Q ∧ fr_w3 R ∧ ∀ x, Q x = false → R x = false → ∀ p ∈ l, ¬ (p : Int) ∣ fr_g A B C x := by
  have no : ∀ {p : Nat} {x : Int}, fr_b p A B C x = false → ¬ (p : Int) ∣ fr_g A B C x := by
    intro p x h
    unfold fr_b at h
    exact of_decide_eq_false h
  intro l
  match l with
  | [] => intro _ _; exact ⟨_, _, fr_w3_0, fr_w3_0, fun x _ _ p hp => by simp at hp⟩
  | [q] =>
    intro _ h
    obtain ⟨h1, h2, h3⟩ := h q (by simp)
    refine ⟨_, _, fr_w3_p h1 h2 h3, fr_w3_0, fun x hx _ p hp => ?_⟩
    simp only [List.mem_cons, List.not_mem_nil, or_false] at hp
    rw [hp]
    exact no hx
  | [q, r] =>
    intro _ h
    obtain ⟨h1, h2, h3⟩ := h q (by simp)
    obtain ⟨k1, k2, k3⟩ := h r (by simp)
    refine ⟨_, _, fr_w3_p h1 h2 h3, fr_w3_p k1 k2 k3, fun x hx hx' p hp => ?_⟩
    simp only [List.mem_cons, List.not_mem_nil, or_false] at hp
    rcases hp with hp | hp <;> rw [hp]
    · exact no hx
    · exact no hx'
  | _ :: _ :: _ :: _ => intro h; simp at h
theorem fr_rest6 {A B C : Int} : ∀ (l : List Nat), l.length ≤ 2 → (∀ p ∈ l, fr_P p ∧ 7 ≤ p ∧ ¬ ((p : Int) ∣ A ∧ (p : Int) ∣ B ∧ (p : Int) ∣ C)) → ∃ Q R : Int → Bool, fr_w6 Q ∧ fr_w6 R ∧ ∀ x, Q x = false → R x = false → ∀ p ∈ l, ¬ (p : Int) ∣ fr_g A B C x := by
  have no : ∀ {p : Nat} {x : Int}, fr_b p A B C x = false → ¬ (p : Int) ∣ fr_g A B C x := by
    intro p x h
    unfold fr_b at h
    exact of_decide_eq_false h
  intro l
  match l with
  | [] => intro _ _; exact ⟨_, _, fr_w6_0, fr_w6_0, fun x _ _ p hp => by simp at hp⟩
  | [q] =>
    intro _ h
    obtain ⟨h1, h2, h3⟩ := h q (by simp)
    refine ⟨_, _, fr_w6_p h1 h2 h3, fr_w6_0, fun x hx _ p hp => ?_⟩
    simp only [List.mem_cons, List.not_mem_nil, or_false] at hp
    rw [hp]
    exact no hx
  | [q, r] =>
    intro _ h
    obtain ⟨h1, h2, h3⟩ := h q (by simp)
    obtain ⟨k1, k2, k3⟩ := h r (by simp)
    refine ⟨_, _, fr_w6_p h1 h2 h3, fr_w6_p k1 k2 k3, fun x hx hx' p hp => ?_⟩
    simp only [List.mem_cons, List.not_mem_nil, or_false] at hp
    rcases hp with hp | hp <;> rw [hp]
    · exact no hx
    · exact no hx'
  | _ :: _ :: _ :: _ => intro h; simp at h
/-- a place from -7 to 7 where no odd prime of n goes into the polynomial's value -/
theorem fr_main {n : Nat} (h1 : 1 ≤ n) (h2 : n ≤ 1024) {A B C : Int} (h : ∀ p, fr_P p → 3 ≤ p → p ∣ n → ¬ ((p : Int) ∣ A ∧ (p : Int) ∣ B ∧ (p : Int) ∣ C)) : ∃ x : Int, -7 ≤ x ∧ x ≤ 7 ∧ ∀ p, fr_P p → 3 ≤ p → p ∣ n → ¬ (p : Int) ∣ fr_g A B C x := by
  have hm : ∀ p, p ∈ fr_odds.filter (fun p => n % p == 0) ↔ fr_P p ∧ 3 ≤ p ∧ p ∣ n := by
    intro p
    rw [List.mem_filter]
    constructor
    · rintro ⟨a, b⟩
      exact ⟨(fr_odds_ok a).1, (fr_odds_ok a).2, Nat.dvd_of_mod_eq_zero (by simpa using b)⟩
    · rintro ⟨a, b, c⟩
      exact ⟨fr_odds_in a b (Nat.le_trans (Nat.le_of_dvd (by omega) c) h2), by simpa using Nat.mod_eq_zero_of_dvd c⟩
  have hs := fr_odds_s.filter (fun p => n % p == 0)
  have hl : (fr_odds.filter (fun p => n % p == 0)).length ≤ 3 := by
    have := List.all_eq_true.mp fr_odds_3 n (List.mem_range.mpr (by omega))
    rw [Bool.or_eq_true] at this
    rcases this with k | k
    · have : n = 0 := by simpa using k
      omega
    · exact of_decide_eq_true k
  generalize fr_odds.filter (fun p => n % p == 0) = L at hm hs hl
  match L, hm, hs, hl with
  | [], hm, _, _ =>
    refine ⟨0, by decide, by decide, fun p a b c => ?_⟩
    have := (hm p).mpr ⟨a, b, c⟩
    simp at this
  | p :: l, hm, hs, hl =>
    rw [List.pairwise_cons] at hs
    have hp := (hm p).mp (by simp)
    have hl2 : l.length ≤ 2 := by simpa using hl
    have hin : ∀ q ∈ l, fr_P q ∧ p < q ∧ ¬ ((q : Int) ∣ A ∧ (q : Int) ∣ B ∧ (q : Int) ∣ C) := by
      intro q hq
      obtain ⟨a, b, c⟩ := (hm q).mp (List.mem_cons_of_mem _ hq)
      exact ⟨a, hs.1 q hq, h q a b c⟩
    have fin : ∀ x : Int, ¬ (p : Int) ∣ fr_g A B C x → (∀ q ∈ l, ¬ (q : Int) ∣ fr_g A B C x) → ∀ q, fr_P q → 3 ≤ q → q ∣ n → ¬ (q : Int) ∣ fr_g A B C x := by
      intro x a b q c d e
      rcases List.mem_cons.mp ((hm q).mpr ⟨c, d, e⟩) with k | k
      · rw [k]; exact a
      · exact b q k
    have np := h p hp.1 hp.2.1 hp.2.2
    have n4 : ∀ q, fr_P q → q ≠ 4 := by
      intro q hq e
      rw [e] at hq
      exact absurd (hq.2 2 (by decide)) (by decide)
    have n6 : ∀ q, fr_P q → q ≠ 6 := by
      intro q hq e
      rw [e] at hq
      exact absurd (hq.2 2 (by decide)) (by decide)
    by_cases e3 : p = 3
    · subst e3
      obtain ⟨Q, R, hQ, hR, hQR⟩ := fr_rest3 l hl2 (fun q hq => by
        obtain ⟨a, b, c⟩ := hin q hq
        exact ⟨a, by have := n4 q a; omega, c⟩)
      obtain ⟨x, x1, x2, x3, x4, x5⟩ := fr_c3 hQ hR np
      exact ⟨x, x1, x2, fin x x3 (hQR x x4 x5)⟩
    · by_cases e5 : p = 5
      · subst e5
        obtain ⟨Q, R, hQ, hR, hQR⟩ := fr_rest6 l hl2 (fun q hq => by
          obtain ⟨a, b, c⟩ := hin q hq
          exact ⟨a, by have := n6 q a; omega, c⟩)
        obtain ⟨x, x1, x2, x3, x4, x5⟩ := fr_c5 hQ hR np
        exact ⟨x, x1, x2, fin x x3 (hQR x x4 x5)⟩
      · have p7 : 7 ≤ p := by
          have := n4 p hp.1
          have := n6 p hp.1
          omega
        obtain ⟨Q, R, hQ, hR, hQR⟩ := fr_rest6 l hl2 (fun q hq => by
          obtain ⟨a, b, c⟩ := hin q hq
          exact ⟨a, by omega, c⟩)
        obtain ⟨x, x1, x2, x3, x4, x5⟩ := fr_c7 (fr_w6_p hp.1 p7 np) hQ hR
        unfold fr_b at x3
        exact ⟨x, x1, x2, fin x (of_decide_eq_false x3) (hQR x x4 x5)⟩
theorem fr_cop {n : Nat} (h1 : 1 ≤ n) {v : Int} (ho : n % 2 = 1 ∨ v % 2 = 1) (h : ∀ p, fr_P p → 3 ≤ p → p ∣ n → ¬ (p : Int) ∣ v) : Int.gcd v n = 1 := by
  apply Classical.byContradiction
  intro hg
  have d1 : Int.gcd v n ∣ n := by
    have := Int.gcd_dvd_natAbs_right v n
    simpa using this
  have d2 : ((Int.gcd v n : Nat) : Int) ∣ v := Int.gcd_dvd_left v n
  have hg0 : Int.gcd v n ≠ 0 := by
    intro e
    rw [e] at d1
    have := Nat.eq_zero_of_zero_dvd d1
    omega
  obtain ⟨p, hp, hpg⟩ := fr_pd _ (Int.gcd v n) (Nat.le_refl _) (by omega)
  have dn := Nat.dvd_trans hpg d1
  have dv : (p : Int) ∣ v := Int.dvd_trans (Int.natCast_dvd_natCast.mpr hpg) d2
  by_cases e : p = 2
  · subst e
    rcases ho with k | k
    · have := Nat.mod_eq_zero_of_dvd dn
      omega
    · have := Int.emod_eq_zero_of_dvd dv
      omega
  · exact h p hp (by have := hp.1; omega) dn dv
theorem fr_dvd2 {p : Nat} (hp : fr_P p) (h3 : 3 ≤ p) {x : Int} (h : (p : Int) ∣ 2 * x) : (p : Int) ∣ x :=
  (fr_euc hp h).resolve_left (fr_nd (by decide) (by omega) (by omega))
/-- the search in a form whose coefficients have only 1 in common -/
theorem fr_form {a b c n : Int} (hp : fm_pr (a, b, c)) (h0 : n ≠ 0) (hn : fm_ab n ≤ 1024) : ∃ y k : Int, 0 ≤ y ∧ y ≤ 15 ∧ -y ≤ k ∧ k ≤ y ∧ (Int.gcd (a * (k * k) + b * k + c) n = 1 ∨ Int.gcd (a * ((k * y - 1) * (k * y - 1)) + b * ((k * y - 1) * y) + c * (y * y)) n = 1) := by
  obtain ⟨m, hm⟩ : ∃ m : Nat, m = n.natAbs := ⟨_, rfl⟩
  have m1 : 1 ≤ m := by omega
  have m2 : m ≤ 1024 := by rcases fm_ab_cases n with k | k <;> omega
  have hg : ∀ v : Int, Int.gcd v m = 1 → Int.gcd v n = 1 := by
    intro v hv
    rw [hm] at hv
    rw [← hv]
    unfold Int.gcd
    simp
  have one : ∀ p, fr_P p → ¬ ((p : Int) ∣ a ∧ (p : Int) ∣ b ∧ (p : Int) ∣ c) := by
    rintro p hp' ⟨d1, d2, d3⟩
    have := fm_pr_of hp d1 d2 d3
    exact fr_nd (p := p) (x := 1) (by decide) (by have := hp'.1; omega) (by have := hp'.1; omega) this
  by_cases ev : m % 2 = 1
  · obtain ⟨x, x1, x2, x3⟩ := fr_main m1 m2 (A := a) (B := b) (C := c) (fun p hp' _ _ => one p hp')
    exact ⟨7, x, by decide, by decide, by omega, by omega, Or.inl (hg _ (fr_cop m1 (Or.inl ev) x3))⟩
  · by_cases c1 : c % 2 = 1
    · obtain ⟨x, x1, x2, x3⟩ := fr_main m1 m2 (A := 2 * (2 * a)) (B := 2 * b) (C := c) (fun p hp' h3 _ h => one p hp' ⟨fr_dvd2 hp' h3 (fr_dvd2 hp' h3 h.1), fr_dvd2 hp' h3 h.2.1, h.2.2⟩)
      have e : a * ((2 * x) * (2 * x)) + b * (2 * x) + c = fr_g (2 * (2 * a)) (2 * b) c x := by
        unfold fr_g
        grind
      refine ⟨14, 2 * x, by decide, by decide, by omega, by omega, Or.inl (hg _ (fr_cop m1 (Or.inr ?_) (by rw [e]; exact x3)))⟩
      have e2 : a * ((2 * x) * (2 * x)) + b * (2 * x) + c = 2 * (2 * (a * (x * x)) + b * x) + c := by grind
      omega
    · by_cases c2 : (a + b) % 2 = 1
      · obtain ⟨x, x1, x2, x3⟩ := fr_main m1 m2 (A := 2 * (2 * a)) (B := 2 * (2 * a + b)) (C := a + b + c) (fun p hp' h3 _ h => by
          have da := fr_dvd2 hp' h3 (fr_dvd2 hp' h3 h.1)
          have db : (p : Int) ∣ b := by
            have := Int.dvd_sub (fr_dvd2 hp' h3 h.2.1) (Int.dvd_trans da (Int.dvd_mul_left 2 a))
            have e : 2 * a + b - 2 * a = b := by omega
            rw [e] at this
            exact this
          have dc : (p : Int) ∣ c := by
            have := Int.dvd_sub (Int.dvd_sub h.2.2 da) db
            have e : a + b + c - a - b = c := by omega
            rw [e] at this
            exact this
          exact one p hp' ⟨da, db, dc⟩)
        have e : a * ((2 * x + 1) * (2 * x + 1)) + b * (2 * x + 1) + c = fr_g (2 * (2 * a)) (2 * (2 * a + b)) (a + b + c) x := by
          unfold fr_g
          grind
        refine ⟨15, 2 * x + 1, by decide, by decide, by omega, by omega, Or.inl (hg _ (fr_cop m1 (Or.inr ?_) (by rw [e]; exact x3)))⟩
        have e2 : a * ((2 * x + 1) * (2 * x + 1)) + b * (2 * x + 1) + c = 2 * (2 * (a * (x * x)) + 2 * (a * x) + b * x) + (a + b) + c := by grind
        omega
      · have a1 : a % 2 = 1 := by
          apply Classical.byContradiction
          intro a0
          have := fm_pr_of (e := 2) hp (by show (2 : Int) ∣ a; omega) (by show (2 : Int) ∣ b; omega) (by show (2 : Int) ∣ c; omega)
          omega
        obtain ⟨x, x1, x2, x3⟩ := fr_main m1 m2 (A := 2 * (2 * (2 * (2 * (2 * (2 * a)))))) (B := 2 * (2 * (2 * (2 * (4 * b - a))))) (C := a - 8 * b + 64 * c) (fun p hp' h3 _ h => by
          have da := fr_dvd2 hp' h3 (fr_dvd2 hp' h3 (fr_dvd2 hp' h3 (fr_dvd2 hp' h3 (fr_dvd2 hp' h3 (fr_dvd2 hp' h3 h.1)))))
          have db : (p : Int) ∣ b := by
            have t := fr_dvd2 hp' h3 (fr_dvd2 hp' h3 (fr_dvd2 hp' h3 (fr_dvd2 hp' h3 h.2.1)))
            have := Int.dvd_add t da
            have e : 4 * b - a + a = 2 * (2 * b) := by omega
            rw [e] at this
            exact fr_dvd2 hp' h3 (fr_dvd2 hp' h3 this)
          have dc : (p : Int) ∣ c := by
            have := Int.dvd_add (Int.dvd_sub h.2.2 da) (Int.dvd_trans db (Int.dvd_mul_left 8 b))
            have e : a - 8 * b + 64 * c - a + 8 * b = 2 * (2 * (2 * (2 * (2 * (2 * c))))) := by omega
            rw [e] at this
            exact fr_dvd2 hp' h3 (fr_dvd2 hp' h3 (fr_dvd2 hp' h3 (fr_dvd2 hp' h3 (fr_dvd2 hp' h3 (fr_dvd2 hp' h3 this)))))
          exact one p hp' ⟨da, db, dc⟩)
        have e : a * ((x * 8 - 1) * (x * 8 - 1)) + b * ((x * 8 - 1) * 8) + c * (8 * 8) = fr_g (2 * (2 * (2 * (2 * (2 * (2 * a)))))) (2 * (2 * (2 * (2 * (4 * b - a))))) (a - 8 * b + 64 * c) x := by
          unfold fr_g
          grind
        refine ⟨8, x, by decide, by decide, by omega, by omega, Or.inr (hg _ (fr_cop m1 (Or.inr ?_) (by rw [e]; exact x3)))⟩
        have e2 : a * ((x * 8 - 1) * (x * 8 - 1)) + b * ((x * 8 - 1) * 8) + c * (8 * 8) = 2 * (32 * (a * (x * x)) - 8 * (a * x) + 4 * (b * (x * 8 - 1)) + 32 * c) + a := by grind
        omega
end
section
/-! Euler's test: v to the power (p - 1) / 2 is 1 modulo an odd prime p just if v is like a square. -/
def eu_pr : List Int → Int
  | [] => 1
  | x :: l => x * eu_pr l
theorem eu_er {y : Int} : ∀ {l : List Int}, y ∈ l → eu_pr l = y * eu_pr (l.erase y) := by
  intro l
  induction l with
  | nil => intro h; simp at h
  | cons x l ih =>
    intro h
    by_cases e : x = y
    · subst e
      rw [List.erase_cons_head]
      rfl
    · have hy : y ∈ l := by
        rcases List.mem_cons.mp h with k | k
        · exact absurd k.symm e
        · exact k
      rw [List.erase_cons_tail (by simpa using e)]
      show x * eu_pr l = y * (x * eu_pr (l.erase y))
      rw [ih hy]
      grind
theorem eu_small {p : Nat} {x : Int} (h : (p : Int) ∣ x) (h1 : -(p : Int) < x) (h2 : x < p) : x = 0 := by
  apply Classical.byContradiction
  intro h0
  exact fr_nd h0 h1 h2 h
theorem eu_pair {p : Nat} (hp : fr_P p) {v : Int} : ∀ (n : Nat) (l : List Int), l.length ≤ n → l.Nodup → (∀ x ∈ l, 1 ≤ x ∧ x < p) → (∀ x ∈ l, ∃ y ∈ l, y ≠ x ∧ (p : Int) ∣ x * y - v) → ∃ m : Nat, l.length = 2 * m ∧ (p : Int) ∣ eu_pr l - v ^ m := by
  intro n
  induction n with
  | zero =>
    intro l hl _ _ _
    have : l = [] := List.length_eq_zero_iff.mp (by omega)
    subst this
    exact ⟨0, rfl, by simp [eu_pr]⟩
  | succ n ih =>
    intro l hl nd hb hc
    match l, hl, nd, hb, hc with
    | [], _, _, _, _ => exact ⟨0, rfl, by simp [eu_pr]⟩
    | x :: t, hl, nd, hb, hc =>
      obtain ⟨y, hy, hyx, hxy⟩ := hc x List.mem_cons_self
      have hyt : y ∈ t := by
        rcases List.mem_cons.mp hy with k | k
        · exact absurd k hyx
        · exact k
      rw [List.nodup_cons] at nd
      have hlen := List.length_erase_of_mem hyt
      have hpos : 0 < t.length := List.length_pos_of_mem hyt
      simp only [List.length_cons] at hl
      have hx1 := hb x List.mem_cons_self
      have hy1 := hb y hy
      have inj : ∀ z u : Int, 1 ≤ z → z < p → 1 ≤ u → u < p → ∀ q : Int, 1 ≤ q → q < p → (p : Int) ∣ q * z - v → (p : Int) ∣ q * u - v → z = u := by
        intro z u z1 z2 u1 u2 q q1 q2 d1 d2
        have d := Int.dvd_sub d1 d2
        have e : q * z - v - (q * u - v) = q * (z - u) := by grind
        rw [e] at d
        rcases fr_euc hp d with k | k
        · have := eu_small k (by omega) (by omega)
          omega
        · have := eu_small k (by omega) (by omega)
          omega
      obtain ⟨m, m1, m2⟩ := ih (t.erase y) (by omega) (nd.2.erase y) (fun z hz => hb z (List.mem_cons_of_mem _ (List.mem_of_mem_erase hz))) (by
        intro z hz
        have hzt := List.mem_of_mem_erase hz
        have hzl : z ∈ x :: t := List.mem_cons_of_mem _ hzt
        have hz1 := hb z hzl
        have hzy : z ≠ y := by
          intro e
          rw [e] at hz
          exact (List.Nodup.not_mem_erase nd.2) hz
        have hzx : z ≠ x := by
          intro e
          rw [e] at hzt
          exact nd.1 hzt
        obtain ⟨u, hu, huz, hd⟩ := hc z hzl
        have hu1 := hb u hu
        have hux : u ≠ x := by
          intro e
          rw [e] at hd
          rw [Int.mul_comm] at hd
          exact hzy (inj z y hz1.1 hz1.2 hy1.1 hy1.2 x hx1.1 hx1.2 hd hxy)
        have huy : u ≠ y := by
          intro e
          rw [e] at hd
          rw [Int.mul_comm] at hd
          rw [Int.mul_comm] at hxy
          exact hzx (inj z x hz1.1 hz1.2 hx1.1 hx1.2 y hy1.1 hy1.2 hd hxy)
        have hut : u ∈ t := by
          rcases List.mem_cons.mp hu with k | k
          · exact absurd k hux
          · exact k
        exact ⟨u, (List.mem_erase_of_ne huy).mpr hut, huz, hd⟩)
      refine ⟨m + 1, by simp only [List.length_cons]; omega, ?_⟩
      show (p : Int) ∣ x * eu_pr t - v ^ (m + 1)
      rw [eu_er hyt, Int.pow_succ]
      have e : x * (y * eu_pr (t.erase y)) - v ^ m * v = (x * y - v) * eu_pr (t.erase y) + v * (eu_pr (t.erase y) - v ^ m) := by grind
      rw [e]
      exact Int.dvd_add (Int.dvd_trans hxy (Int.dvd_mul_right _ _)) (Int.dvd_trans m2 (Int.dvd_mul_left _ _))
def eu_l (p : Nat) : List Int := (List.range (p - 1)).map (fun i : Nat => (i : Int) + 1)
theorem eu_l_len (p : Nat) : (eu_l p).length = p - 1 := by simp [eu_l]
theorem eu_l_mem {p : Nat} {x : Int} : x ∈ eu_l p ↔ 1 ≤ x ∧ x < p := by
  unfold eu_l
  rw [List.mem_map]
  constructor
  · rintro ⟨i, hi, rfl⟩
    have := List.mem_range.mp hi
    omega
  · rintro ⟨h1, h2⟩
    exact ⟨(x - 1).toNat, List.mem_range.mpr (by omega), by omega⟩
theorem eu_l_nd (p : Nat) : (eu_l p).Nodup := by
  unfold eu_l
  unfold List.Nodup
  rw [List.pairwise_map]
  exact (List.nodup_range).imp (fun {a b} h e => h (by omega))
/-- everything from 1 to p - 1 has a partner with the product v -/
theorem eu_part {p : Nat} (hp : fr_P p) {v x : Int} (hv1 : 1 ≤ v) (hv2 : v < p) (h1 : 1 ≤ x) (h2 : x < p) : ∃ y : Int, 1 ≤ y ∧ y < p ∧ (p : Int) ∣ x * y - v := by
  obtain ⟨u, t, g, g0, e, d1, d2⟩ := fm_bez _ x p (Nat.le_refl _) (Or.inl (by omega))
  have hp0 := hp.1
  have hg : g = 1 ∨ g = -1 := by
    have d3 : g.natAbs ∣ p := by
      have := Int.natAbs_dvd_natAbs.mpr d2
      simpa using this
    rcases hp.2 _ d3 with k | k
    · omega
    · exfalso
      have d4 : (p : Int) ∣ x := by
        rw [← Int.natAbs_dvd_natAbs, Int.natAbs_natCast, ← k]
        exact Int.natAbs_dvd_natAbs.mpr d1
      exact fr_nd (by omega) (by omega) h2 d4
  have hgg : g * g = 1 := by rcases hg with h | h <;> rw [h] <;> decide
  obtain ⟨y, hy⟩ : ∃ y, y = (v * g * u) % p := ⟨_, rfl⟩
  have y0 := Int.emod_nonneg (v * g * u) (show (p : Int) ≠ 0 by omega)
  have y1 := Int.emod_lt_of_pos (v * g * u) (show (0 : Int) < p by omega)
  have y2 := Int.mul_ediv_add_emod (v * g * u) p
  rw [← hy] at y0 y1 y2
  have hd : (p : Int) ∣ x * y - v := by
    refine ⟨-(v * g * t) - x * (v * g * u / p), ?_⟩
    have e1 : x * y = x * (v * g * u) - x * (p * (v * g * u / p)) := by
      have hy' : y = v * g * u - p * (v * g * u / p) := by omega
      rw [← Int.mul_sub, ← hy']
    have e2 : v * g * (u * x + t * p) = v := by
      rw [e]
      have : v * g * g = v * (g * g) := by grind
      rw [this, hgg, Int.mul_one]
    grind
  refine ⟨y, ?_, y1, hd⟩
  rcases Int.lt_or_le 0 y with k | k
  · omega
  · exfalso
    have : y = 0 := by omega
    rw [this, Int.mul_zero, Int.zero_sub] at hd
    exact fr_nd (by omega) (by omega) (by omega) hd
/-- v is no square: all numbers from 1 to p - 1 multiplied -/
theorem eu_no {p : Nat} (hp : fr_P p) {v : Int} (hv1 : 1 ≤ v) (hv2 : v < p) (h : ∀ x : Int, 1 ≤ x → x < p → ¬ (p : Int) ∣ x * x - v) : (p : Int) ∣ eu_pr (eu_l p) - v ^ ((p - 1) / 2) := by
  obtain ⟨m, m1, m2⟩ := eu_pair hp (v := v) _ (eu_l p) (Nat.le_refl _) (eu_l_nd p) (fun x hx => eu_l_mem.mp hx) (fun x hx => by
    obtain ⟨x1, x2⟩ := eu_l_mem.mp hx
    obtain ⟨y, y1, y2, y3⟩ := eu_part hp hv1 hv2 x1 x2
    exact ⟨y, eu_l_mem.mpr ⟨y1, y2⟩, fun e => h x x1 x2 (by rw [e] at y3; exact y3), y3⟩)
  rw [eu_l_len] at m1
  have : (p - 1) / 2 = m := by omega
  rw [this]
  exact m2
/-- v is the square of x -/
theorem eu_yes {p : Nat} (hp : fr_P p) (h3 : 3 ≤ p) (hodd : p % 2 = 1) {v x : Int} (hv1 : 1 ≤ v) (hv2 : v < p) (hx1 : 1 ≤ x) (hx2 : x < p) (hd : (p : Int) ∣ x * x - v) : (p : Int) ∣ eu_pr (eu_l p) + v ^ ((p - 1) / 2) := by
  have hxm : x ∈ eu_l p := eu_l_mem.mpr ⟨hx1, hx2⟩
  have hne : (p : Int) - x ≠ x := by omega
  have hym : (p : Int) - x ∈ (eu_l p).erase x := (List.mem_erase_of_ne hne).mpr (eu_l_mem.mpr ⟨by omega, by omega⟩)
  have nd1 := (eu_l_nd p).erase x
  have hin : ∀ z, z ∈ ((eu_l p).erase x).erase ((p : Int) - x) ↔ (1 ≤ z ∧ z < p) ∧ z ≠ x ∧ z ≠ (p : Int) - x := by
    intro z
    rw [nd1.mem_erase_iff, (eu_l_nd p).mem_erase_iff, eu_l_mem]
    constructor
    · rintro ⟨a, b, c⟩
      exact ⟨c, b, a⟩
    · rintro ⟨a, b, c⟩
      exact ⟨c, b, a⟩
  have roots : ∀ z : Int, 1 ≤ z → z < p → (p : Int) ∣ z * z - v → z = x ∨ z = (p : Int) - x := by
    intro z z1 z2 hz
    have d := Int.dvd_sub hz hd
    have e : z * z - v - (x * x - v) = (z - x) * (z + x) := by grind
    rw [e] at d
    rcases fr_euc hp d with k | k
    · left
      have := eu_small k (by omega) (by omega)
      omega
    · right
      have := eu_small (Int.dvd_sub k (Int.dvd_refl (p : Int))) (by omega) (by omega)
      omega
  obtain ⟨m, m1, m2⟩ := eu_pair hp (v := v) _ (((eu_l p).erase x).erase ((p : Int) - x)) (Nat.le_refl _) (nd1.erase _) (fun z hz => ((hin z).mp hz).1) (by
    intro z hz
    obtain ⟨⟨z1, z2⟩, z3, z4⟩ := (hin z).mp hz
    obtain ⟨y, y1, y2, y3⟩ := eu_part hp hv1 hv2 z1 z2
    have yz : y ≠ z := by
      intro e
      rw [e] at y3
      rcases roots z z1 z2 y3 with k | k
      · exact z3 k
      · exact z4 k
    have inj : ∀ q : Int, (p : Int) ∣ q * q - v → 1 ≤ q → q < p → y = q → z = q := by
      intro q hq q1 q2 e
      rw [e] at y3
      have d := Int.dvd_sub y3 hq
      have e2 : z * q - v - (q * q - v) = (z - q) * q := by grind
      rw [e2] at d
      rcases fr_euc hp d with k | k
      · have := eu_small k (by omega) (by omega)
        omega
      · exact absurd k (fr_nd (by omega) (by omega) q2)
    have hd2 : (p : Int) ∣ ((p : Int) - x) * ((p : Int) - x) - v := by
      have e2 : ((p : Int) - x) * ((p : Int) - x) - v = (x * x - v) + p * (p - 2 * x) := by grind
      rw [e2]
      exact Int.dvd_add hd (Int.dvd_mul_right _ _)
    refine ⟨y, (hin y).mpr ⟨⟨y1, y2⟩, fun e => z3 (inj x hd hx1 hx2 e), fun e => z4 (inj _ hd2 (by omega) (by omega) e)⟩, yz, y3⟩)
  rw [List.length_erase_of_mem hym, List.length_erase_of_mem hxm, eu_l_len] at m1
  have hm : (p - 1) / 2 = m + 1 := by omega
  rw [hm, Int.pow_succ, eu_er hxm, eu_er hym]
  generalize eu_pr (((eu_l p).erase x).erase ((p : Int) - x)) = T at m2 ⊢
  have e : x * (((p : Int) - x) * T) + v ^ m * v = p * (x * T) - (x * x - v) * T - v * (T - v ^ m) := by grind
  rw [e]
  exact Int.dvd_sub (Int.dvd_sub (Int.dvd_mul_right _ _) (Int.dvd_trans hd (Int.dvd_mul_right _ _))) (Int.dvd_trans m2 (Int.dvd_mul_left _ _))
theorem eu_test {p : Nat} (hp : fr_P p) (h3 : 3 ≤ p) {v : Int} (hv1 : 1 ≤ v) (hv2 : v < p) : (p : Int) ∣ v ^ ((p - 1) / 2) - 1 ↔ ∃ x : Int, 0 ≤ x ∧ x ≤ p / 2 ∧ (p : Int) ∣ x * x - v := by
  have hodd : p % 2 = 1 := by
    rcases Nat.mod_two_eq_zero_or_one p with k | k
    · rcases hp.2 2 (Nat.dvd_of_mod_eq_zero k) with e | e <;> omega
    · exact k
  have h1 := eu_yes hp h3 hodd (v := 1) (x := 1) (by decide) (by omega) (by decide) (by omega) (by simp)
  rw [Int.one_pow] at h1
  constructor
  · intro h
    apply Classical.byContradiction
    intro hn
    have h2 := eu_no hp hv1 hv2 (fun x x1 x2 hx => by
      by_cases e : x ≤ p / 2
      · exact hn ⟨x, by omega, e, hx⟩
      · refine hn ⟨(p : Int) - x, by omega, by omega, ?_⟩
        have e2 : ((p : Int) - x) * ((p : Int) - x) - v = (x * x - v) + p * (p - 2 * x) := by grind
        rw [e2]
        exact Int.dvd_add hx (Int.dvd_mul_right _ _))
    -- the product is both -1 and 1
    have d := Int.dvd_sub h1 (Int.dvd_add h2 h)
    have e : eu_pr (eu_l p) + 1 - (eu_pr (eu_l p) - v ^ ((p - 1) / 2) + (v ^ ((p - 1) / 2) - 1)) = 2 := by omega
    rw [e] at d
    exact fr_nd (by decide) (by omega) (by omega) d
  · rintro ⟨x, x0, x1, hx⟩
    have xne : x ≠ 0 := by
      intro e
      rw [e, Int.mul_zero, Int.zero_sub] at hx
      exact fr_nd (by omega) (by omega) (by omega) hx
    have h2 := eu_yes hp h3 hodd hv1 hv2 (by omega) (by omega) hx
    have d := Int.dvd_sub h2 h1
    have e : eu_pr (eu_l p) + v ^ ((p - 1) / 2) - (eu_pr (eu_l p) + 1) = v ^ ((p - 1) / 2) - 1 := by omega
    rw [e] at d
    exact d
end
section
/-! Whole numbers as longs and ints: sums and products need no bound; comparisons and quotients do. -/
def jl (x : Int) : Int64 := Int64.ofInt x
def ji (x : Int) : Int32 := Int32.ofInt x
theorem jl_add (x y : Int) : jl x + jl y = jl (x + y) := (Int64.ofInt_add x y).symm
theorem jl_sub (x y : Int) : jl x - jl y = jl (x - y) := (Int64.ofInt_sub x y).symm
theorem jl_mul (x y : Int) : jl x * jl y = jl (x * y) := (Int64.ofInt_mul x y).symm
theorem jl_neg (x : Int) : -jl x = jl (-x) := (Int64.ofInt_neg x).symm
theorem ji_add (x y : Int) : ji x + ji y = ji (x + y) := (Int32.ofInt_add x y).symm
theorem ji_sub (x y : Int) : ji x - ji y = ji (x - y) := (Int32.ofInt_sub x y).symm
theorem ji_mul (x y : Int) : ji x * ji y = ji (x * y) := (Int32.ofInt_mul x y).symm
theorem ji_neg (x : Int) : -ji x = ji (-x) := (Int32.ofInt_neg x).symm
/-- in the range of a long, of an int -/
def jL (x : Int) : Prop := -9223372036854775808 ≤ x ∧ x ≤ 9223372036854775807
def jI (x : Int) : Prop := -2147483648 ≤ x ∧ x ≤ 2147483647
theorem jl_int {x : Int} (h : jL x) : (jl x).toInt = x := Int64.toInt_ofInt_of_le (by have := h.1; omega) (by have := h.2; omega)
theorem ji_int {x : Int} (h : jI x) : (ji x).toInt = x := Int32.toInt_ofInt_of_le (by have := h.1; omega) (by have := h.2; omega)
theorem jl_lt {x y : Int} (hx : jL x) (hy : jL y) : jl x < jl y ↔ x < y := by rw [Int64.lt_iff_toInt_lt, jl_int hx, jl_int hy]
theorem jl_le {x y : Int} (hx : jL x) (hy : jL y) : jl x ≤ jl y ↔ x ≤ y := by rw [Int64.le_iff_toInt_le, jl_int hx, jl_int hy]
theorem jl_eq {x y : Int} (hx : jL x) (hy : jL y) : jl x = jl y ↔ x = y := by rw [← Int64.toInt_inj, jl_int hx, jl_int hy]
theorem ji_lt {x y : Int} (hx : jI x) (hy : jI y) : ji x < ji y ↔ x < y := by rw [Int32.lt_iff_toInt_lt, ji_int hx, ji_int hy]
theorem ji_le {x y : Int} (hx : jI x) (hy : jI y) : ji x ≤ ji y ↔ x ≤ y := by rw [Int32.le_iff_toInt_le, ji_int hx, ji_int hy]
theorem ji_eq {x y : Int} (hx : jI x) (hy : jI y) : ji x = ji y ↔ x = y := by rw [← Int32.toInt_inj, ji_int hx, ji_int hy]
theorem ji_of (x : Int32) : ∃ y : Int, jI y ∧ x = ji y := ⟨x.toInt, ⟨by have := Int32.le_toInt x; omega, by have := Int32.toInt_lt x; omega⟩, (Int32.ofInt_toInt x).symm⟩
theorem jl_of (x : Int64) : ∃ y : Int, jL y ∧ x = jl y := ⟨x.toInt, ⟨by have := Int64.le_toInt x; omega, by have := Int64.toInt_lt x; omega⟩, (Int64.ofInt_toInt x).symm⟩
theorem ji_l {x : Int} (h : jI x) : (ji x).toInt64 = jl x := by
  rw [← Int64.ofInt_int32ToInt, ji_int h]
  rfl
theorem jl_i (x : Int) : (jl x).toInt32 = ji x := Int64.toInt32_ofInt
theorem jl_div {x y : Int} (hx : jL x) (hy : jL y) : jl x / jl y = jl (x.tdiv y) := by
  unfold jl
  refine (Int64.ofInt_tdiv ?_ ?_ ?_ ?_).symm
  · rw [Int64.toInt_minValue]; have := hx.1; omega
  · rw [Int64.toInt_maxValue]; have := hx.2; omega
  · rw [Int64.toInt_minValue]; have := hy.1; omega
  · rw [Int64.toInt_maxValue]; have := hy.2; omega
theorem ji_div {x y : Int} (hx : jI x) (hy : jI y) : ji x / ji y = ji (x.tdiv y) := by
  unfold ji
  refine (Int32.ofInt_tdiv ?_ ?_ ?_ ?_).symm
  · rw [Int32.toInt_minValue]; have := hx.1; omega
  · rw [Int32.toInt_maxValue]; have := hx.2; omega
  · rw [Int32.toInt_minValue]; have := hy.1; omega
  · rw [Int32.toInt_maxValue]; have := hy.2; omega
theorem jl_rem {x y : Int} (hx : jL x) (hy : jL y) : jl x - jl x / jl y * jl y = jl (x.tmod y) := by
  rw [jl_div hx hy, jl_mul, jl_sub]
  congr 1
  have := Int.mul_tdiv_add_tmod x y
  have e : x.tdiv y * y = y * x.tdiv y := Int.mul_comm _ _
  omega
theorem ji_rem {x y : Int} (hx : jI x) (hy : jI y) : ji x - ji x / ji y * ji y = ji (x.tmod y) := by
  rw [ji_div hx hy, ji_mul, ji_sub]
  congr 1
  have := Int.mul_tdiv_add_tmod x y
  have e : x.tdiv y * y = y * x.tdiv y := Int.mul_comm _ _
  omega
end
section
/-! The kit's instruction rows over whole numbers: 'jl x' on the stack for a long, 'ji x' for an int. -/
section WJ
variable {p : Program} {l : Launch} {e : Env} {R : Room} {s : State} {m : MethodId} {args : Array Value} {below : List Frame} {meth : Method} {c : Code} {H : Heap} {locs : List Loc} {cells slots : Nat} {Q : State → Prop}
variable {cc : ByteArray} {pc : Nat} {ls : Array Slot} {rest : List Value}
theorem jl_ne0 {y : Int} (hy : jL y) (h0 : y ≠ 0) : ¬ jl y = 0 := fun h => h0 ((jl_eq hy ⟨by decide, by decide⟩).mp h)
theorem ji_ne0 {y : Int} (hy : jI y) (h0 : y ≠ 0) : ¬ ji y = 0 := fun h => h0 ((ji_eq hy ⟨by decide, by decide⟩).mp h)
theorem wl_add (hexec : p.tables.exec = Jvm.exec) (hb : c.code = cc) {x y : Int} (hdg : decode cc pc = .ok (.ladd, 1)) (k : W p l e R s m args below meth c H locs cells slots Q (F0 m (pc + 1) ls (.long (jl (x + y)) :: rest))) : W p l e R s m args below meth c H locs cells slots Q (F0 m pc ls (.long (jl y) :: .long (jl x) :: rest)) := lv_ladd hexec hb hdg (by rw [jl_add]; exact k)
theorem wl_sub (hexec : p.tables.exec = Jvm.exec) (hb : c.code = cc) {x y : Int} (hdg : decode cc pc = .ok (.lsub, 1)) (k : W p l e R s m args below meth c H locs cells slots Q (F0 m (pc + 1) ls (.long (jl (x - y)) :: rest))) : W p l e R s m args below meth c H locs cells slots Q (F0 m pc ls (.long (jl y) :: .long (jl x) :: rest)) := lv_lsub hexec hb hdg (by rw [jl_sub]; exact k)
theorem wl_mul (hexec : p.tables.exec = Jvm.exec) (hb : c.code = cc) {x y : Int} (hdg : decode cc pc = .ok (.lmul, 1)) (k : W p l e R s m args below meth c H locs cells slots Q (F0 m (pc + 1) ls (.long (jl (x * y)) :: rest))) : W p l e R s m args below meth c H locs cells slots Q (F0 m pc ls (.long (jl y) :: .long (jl x) :: rest)) := lv_lmul hexec hb hdg (by rw [jl_mul]; exact k)
theorem wl_neg (hexec : p.tables.exec = Jvm.exec) (hb : c.code = cc) {x : Int} (hdg : decode cc pc = .ok (.lneg, 1)) (k : W p l e R s m args below meth c H locs cells slots Q (F0 m (pc + 1) ls (.long (jl (-x)) :: rest))) : W p l e R s m args below meth c H locs cells slots Q (F0 m pc ls (.long (jl x) :: rest)) := lv_lneg hexec hb hdg (by rw [jl_neg]; exact k)
theorem wl_div (hexec : p.tables.exec = Jvm.exec) (hb : c.code = cc) {x y : Int} (hx : jL x) (hy : jL y) (h0 : y ≠ 0) (hdg : decode cc pc = .ok (.ldiv, 1)) (k : W p l e R s m args below meth c H locs cells slots Q (F0 m (pc + 1) ls (.long (jl (x.tdiv y)) :: rest))) : W p l e R s m args below meth c H locs cells slots Q (F0 m pc ls (.long (jl y) :: .long (jl x) :: rest)) := lv_ldiv hexec hb hdg (jl_ne0 hy h0) (by rw [jl_div hx hy]; exact k)
theorem wl_rem (hexec : p.tables.exec = Jvm.exec) (hb : c.code = cc) {x y : Int} (hx : jL x) (hy : jL y) (h0 : y ≠ 0) (hdg : decode cc pc = .ok (.lrem, 1)) (k : W p l e R s m args below meth c H locs cells slots Q (F0 m (pc + 1) ls (.long (jl (x.tmod y)) :: rest))) : W p l e R s m args below meth c H locs cells slots Q (F0 m pc ls (.long (jl y) :: .long (jl x) :: rest)) := lv_lrem hexec hb hdg (jl_ne0 hy h0) (by rw [jl_rem hx hy]; exact k)
theorem wi_add (hexec : p.tables.exec = Jvm.exec) (hb : c.code = cc) {x y : Int} (hdg : decode cc pc = .ok (.iadd, 1)) (k : W p l e R s m args below meth c H locs cells slots Q (F0 m (pc + 1) ls (.int (ji (x + y)) :: rest))) : W p l e R s m args below meth c H locs cells slots Q (F0 m pc ls (.int (ji y) :: .int (ji x) :: rest)) := lv_iadd hexec hb hdg (by rw [ji_add]; exact k)
theorem wi_sub (hexec : p.tables.exec = Jvm.exec) (hb : c.code = cc) {x y : Int} (hdg : decode cc pc = .ok (.isub, 1)) (k : W p l e R s m args below meth c H locs cells slots Q (F0 m (pc + 1) ls (.int (ji (x - y)) :: rest))) : W p l e R s m args below meth c H locs cells slots Q (F0 m pc ls (.int (ji y) :: .int (ji x) :: rest)) := lv_isub hexec hb hdg (by rw [ji_sub]; exact k)
theorem wi_mul (hexec : p.tables.exec = Jvm.exec) (hb : c.code = cc) {x y : Int} (hdg : decode cc pc = .ok (.imul, 1)) (k : W p l e R s m args below meth c H locs cells slots Q (F0 m (pc + 1) ls (.int (ji (x * y)) :: rest))) : W p l e R s m args below meth c H locs cells slots Q (F0 m pc ls (.int (ji y) :: .int (ji x) :: rest)) := lv_imul hexec hb hdg (by rw [ji_mul]; exact k)
theorem wi_neg (hexec : p.tables.exec = Jvm.exec) (hb : c.code = cc) {x : Int} (hdg : decode cc pc = .ok (.ineg, 1)) (k : W p l e R s m args below meth c H locs cells slots Q (F0 m (pc + 1) ls (.int (ji (-x)) :: rest))) : W p l e R s m args below meth c H locs cells slots Q (F0 m pc ls (.int (ji x) :: rest)) := lv_ineg hexec hb hdg (by rw [ji_neg]; exact k)
theorem wi_div (hexec : p.tables.exec = Jvm.exec) (hb : c.code = cc) {x y : Int} (hx : jI x) (hy : jI y) (h0 : y ≠ 0) (hdg : decode cc pc = .ok (.idiv, 1)) (k : W p l e R s m args below meth c H locs cells slots Q (F0 m (pc + 1) ls (.int (ji (x.tdiv y)) :: rest))) : W p l e R s m args below meth c H locs cells slots Q (F0 m pc ls (.int (ji y) :: .int (ji x) :: rest)) := lv_idiv hexec hb hdg (ji_ne0 hy h0) (by rw [ji_div hx hy]; exact k)
theorem wi_rem (hexec : p.tables.exec = Jvm.exec) (hb : c.code = cc) {x y : Int} (hx : jI x) (hy : jI y) (h0 : y ≠ 0) (hdg : decode cc pc = .ok (.irem, 1)) (k : W p l e R s m args below meth c H locs cells slots Q (F0 m (pc + 1) ls (.int (ji (x.tmod y)) :: rest))) : W p l e R s m args below meth c H locs cells slots Q (F0 m pc ls (.int (ji y) :: .int (ji x) :: rest)) := lv_irem hexec hb hdg (ji_ne0 hy h0) (by rw [ji_rem hx hy]; exact k)
theorem w_i2l (hexec : p.tables.exec = Jvm.exec) (hb : c.code = cc) {x : Int} (hx : jI x) (hdg : decode cc pc = .ok (.i2l, 1)) (k : W p l e R s m args below meth c H locs cells slots Q (F0 m (pc + 1) ls (.long (jl x) :: rest))) : W p l e R s m args below meth c H locs cells slots Q (F0 m pc ls (.int (ji x) :: rest)) := lv_i2l hexec hb hdg (ji_l hx) k
theorem w_l2i (hexec : p.tables.exec = Jvm.exec) (hb : c.code = cc) {x : Int} (hdg : decode cc pc = .ok (.l2i, 1)) (k : W p l e R s m args below meth c H locs cells slots Q (F0 m (pc + 1) ls (.int (ji x) :: rest))) : W p l e R s m args below meth c H locs cells slots Q (F0 m pc ls (.long (jl x) :: rest)) := lv_l2i hexec hb hdg (jl_i x) k
theorem w_iconst (hexec : p.tables.exec = Jvm.exec) (hb : c.code = cc) {n : Int} (hdg : decode cc pc = .ok (.iconst n, 1)) (k : W p l e R s m args below meth c H locs cells slots Q (F0 m (pc + 1) ls (.int (ji n) :: rest))) : W p l e R s m args below meth c H locs cells slots Q (F0 m pc ls rest) := lv_iconst hexec hb hdg rfl k
theorem w_bipush (hexec : p.tables.exec = Jvm.exec) (hb : c.code = cc) {n : Int} (h : (Int8.ofInt n).toInt32 = ji n) (hdg : decode cc pc = .ok (.bipush n, 2)) (k : W p l e R s m args below meth c H locs cells slots Q (F0 m (pc + 2) ls (.int (ji n) :: rest))) : W p l e R s m args below meth c H locs cells slots Q (F0 m pc ls rest) := lv_bipush hexec hb hdg h k
theorem w_sipush (hexec : p.tables.exec = Jvm.exec) (hb : c.code = cc) {n : Int} (h : (Int16.ofInt n).toInt32 = ji n) (hdg : decode cc pc = .ok (.sipush n, 3)) (k : W p l e R s m args below meth c H locs cells slots Q (F0 m (pc + 3) ls (.int (ji n) :: rest))) : W p l e R s m args below meth c H locs cells slots Q (F0 m pc ls rest) := lv_sipush hexec hb hdg h k
theorem w_lconst (hexec : p.tables.exec = Jvm.exec) (hb : c.code = cc) {n : Fin 2} {v : Int} (h : Int64.ofNat (n : Nat) = jl v) (hdg : decode cc pc = .ok (.lconst n, 1)) (k : W p l e R s m args below meth c H locs cells slots Q (F0 m (pc + 1) ls (.long (jl v) :: rest))) : W p l e R s m args below meth c H locs cells slots Q (F0 m pc ls rest) := lv_lconst hexec hb hdg h k
theorem wi_ceq (hexec : p.tables.exec = Jvm.exec) (hb : c.code = cc) {x y : Int} {off : Int} {tgt : Nat} (hx : jI x) (hy : jI y) (hdg : decode cc pc = .ok (.if_icmp .eq off, 3)) (ht : (pc : Int) + off = (tgt : Int)) (kt : x = y → W p l e R s m args below meth c H locs cells slots Q (F0 m tgt ls rest)) (kf : ¬ x = y → W p l e R s m args below meth c H locs cells slots Q (F0 m (pc + 3) ls rest)) : W p l e R s m args below meth c H locs cells slots Q (F0 m pc ls (.int (ji y) :: .int (ji x) :: rest)) := lv_icmp_eq hexec hb hdg ht (fun q => kt ((ji_eq hx hy).mp q)) (fun q => kf (fun z => q ((ji_eq hx hy).mpr z)))
theorem wi_zeq (hexec : p.tables.exec = Jvm.exec) (hb : c.code = cc) {x : Int} {off : Int} {tgt : Nat} (hx : jI x) (hdg : decode cc pc = .ok (.ifCond .eq off, 3)) (ht : (pc : Int) + off = (tgt : Int)) (kt : x = 0 → W p l e R s m args below meth c H locs cells slots Q (F0 m tgt ls rest)) (kf : ¬ x = 0 → W p l e R s m args below meth c H locs cells slots Q (F0 m (pc + 3) ls rest)) : W p l e R s m args below meth c H locs cells slots Q (F0 m pc ls (.int (ji x) :: rest)) := by
  have j0 : jI 0 := ⟨by decide, by decide⟩
  exact lv_if_eq hexec hb hdg ht (fun q => kt ((ji_eq hx j0).mp q)) (fun q => kf (fun z => q ((ji_eq hx j0).mpr z)))
theorem wi_cne (hexec : p.tables.exec = Jvm.exec) (hb : c.code = cc) {x y : Int} {off : Int} {tgt : Nat} (hx : jI x) (hy : jI y) (hdg : decode cc pc = .ok (.if_icmp .ne off, 3)) (ht : (pc : Int) + off = (tgt : Int)) (kt : ¬ x = y → W p l e R s m args below meth c H locs cells slots Q (F0 m tgt ls rest)) (kf : x = y → W p l e R s m args below meth c H locs cells slots Q (F0 m (pc + 3) ls rest)) : W p l e R s m args below meth c H locs cells slots Q (F0 m pc ls (.int (ji y) :: .int (ji x) :: rest)) := lv_icmp_ne hexec hb hdg ht (fun q => kt (fun z => q ((ji_eq hx hy).mpr z))) (fun q => kf ((ji_eq hx hy).mp q))
theorem wi_zne (hexec : p.tables.exec = Jvm.exec) (hb : c.code = cc) {x : Int} {off : Int} {tgt : Nat} (hx : jI x) (hdg : decode cc pc = .ok (.ifCond .ne off, 3)) (ht : (pc : Int) + off = (tgt : Int)) (kt : ¬ x = 0 → W p l e R s m args below meth c H locs cells slots Q (F0 m tgt ls rest)) (kf : x = 0 → W p l e R s m args below meth c H locs cells slots Q (F0 m (pc + 3) ls rest)) : W p l e R s m args below meth c H locs cells slots Q (F0 m pc ls (.int (ji x) :: rest)) := by
  have j0 : jI 0 := ⟨by decide, by decide⟩
  exact lv_if_ne hexec hb hdg ht (fun q => kt (fun z => q ((ji_eq hx j0).mpr z))) (fun q => kf ((ji_eq hx j0).mp q))
theorem wi_clt (hexec : p.tables.exec = Jvm.exec) (hb : c.code = cc) {x y : Int} {off : Int} {tgt : Nat} (hx : jI x) (hy : jI y) (hdg : decode cc pc = .ok (.if_icmp .lt off, 3)) (ht : (pc : Int) + off = (tgt : Int)) (kt : x < y → W p l e R s m args below meth c H locs cells slots Q (F0 m tgt ls rest)) (kf : ¬ x < y → W p l e R s m args below meth c H locs cells slots Q (F0 m (pc + 3) ls rest)) : W p l e R s m args below meth c H locs cells slots Q (F0 m pc ls (.int (ji y) :: .int (ji x) :: rest)) := lv_icmp_lt hexec hb hdg ht (fun q => kt ((ji_lt hx hy).mp q)) (fun q => kf (fun z => q ((ji_lt hx hy).mpr z)))
theorem wi_zlt (hexec : p.tables.exec = Jvm.exec) (hb : c.code = cc) {x : Int} {off : Int} {tgt : Nat} (hx : jI x) (hdg : decode cc pc = .ok (.ifCond .lt off, 3)) (ht : (pc : Int) + off = (tgt : Int)) (kt : x < 0 → W p l e R s m args below meth c H locs cells slots Q (F0 m tgt ls rest)) (kf : ¬ x < 0 → W p l e R s m args below meth c H locs cells slots Q (F0 m (pc + 3) ls rest)) : W p l e R s m args below meth c H locs cells slots Q (F0 m pc ls (.int (ji x) :: rest)) := by
  have j0 : jI 0 := ⟨by decide, by decide⟩
  exact lv_if_lt hexec hb hdg ht (fun q => kt ((ji_lt hx j0).mp q)) (fun q => kf (fun z => q ((ji_lt hx j0).mpr z)))
theorem wi_cge (hexec : p.tables.exec = Jvm.exec) (hb : c.code = cc) {x y : Int} {off : Int} {tgt : Nat} (hx : jI x) (hy : jI y) (hdg : decode cc pc = .ok (.if_icmp .ge off, 3)) (ht : (pc : Int) + off = (tgt : Int)) (kt : y ≤ x → W p l e R s m args below meth c H locs cells slots Q (F0 m tgt ls rest)) (kf : ¬ y ≤ x → W p l e R s m args below meth c H locs cells slots Q (F0 m (pc + 3) ls rest)) : W p l e R s m args below meth c H locs cells slots Q (F0 m pc ls (.int (ji y) :: .int (ji x) :: rest)) := lv_icmp_ge hexec hb hdg ht (fun q => kt ((ji_le hy hx).mp q)) (fun q => kf (fun z => q ((ji_le hy hx).mpr z)))
theorem wi_zge (hexec : p.tables.exec = Jvm.exec) (hb : c.code = cc) {x : Int} {off : Int} {tgt : Nat} (hx : jI x) (hdg : decode cc pc = .ok (.ifCond .ge off, 3)) (ht : (pc : Int) + off = (tgt : Int)) (kt : 0 ≤ x → W p l e R s m args below meth c H locs cells slots Q (F0 m tgt ls rest)) (kf : ¬ 0 ≤ x → W p l e R s m args below meth c H locs cells slots Q (F0 m (pc + 3) ls rest)) : W p l e R s m args below meth c H locs cells slots Q (F0 m pc ls (.int (ji x) :: rest)) := by
  have j0 : jI 0 := ⟨by decide, by decide⟩
  exact lv_if_ge hexec hb hdg ht (fun q => kt ((ji_le j0 hx).mp q)) (fun q => kf (fun z => q ((ji_le j0 hx).mpr z)))
theorem wi_cgt (hexec : p.tables.exec = Jvm.exec) (hb : c.code = cc) {x y : Int} {off : Int} {tgt : Nat} (hx : jI x) (hy : jI y) (hdg : decode cc pc = .ok (.if_icmp .gt off, 3)) (ht : (pc : Int) + off = (tgt : Int)) (kt : y < x → W p l e R s m args below meth c H locs cells slots Q (F0 m tgt ls rest)) (kf : ¬ y < x → W p l e R s m args below meth c H locs cells slots Q (F0 m (pc + 3) ls rest)) : W p l e R s m args below meth c H locs cells slots Q (F0 m pc ls (.int (ji y) :: .int (ji x) :: rest)) := lv_icmp_gt hexec hb hdg ht (fun q => kt ((ji_lt hy hx).mp q)) (fun q => kf (fun z => q ((ji_lt hy hx).mpr z)))
theorem wi_zgt (hexec : p.tables.exec = Jvm.exec) (hb : c.code = cc) {x : Int} {off : Int} {tgt : Nat} (hx : jI x) (hdg : decode cc pc = .ok (.ifCond .gt off, 3)) (ht : (pc : Int) + off = (tgt : Int)) (kt : 0 < x → W p l e R s m args below meth c H locs cells slots Q (F0 m tgt ls rest)) (kf : ¬ 0 < x → W p l e R s m args below meth c H locs cells slots Q (F0 m (pc + 3) ls rest)) : W p l e R s m args below meth c H locs cells slots Q (F0 m pc ls (.int (ji x) :: rest)) := by
  have j0 : jI 0 := ⟨by decide, by decide⟩
  exact lv_if_gt hexec hb hdg ht (fun q => kt ((ji_lt j0 hx).mp q)) (fun q => kf (fun z => q ((ji_lt j0 hx).mpr z)))
theorem wi_cle (hexec : p.tables.exec = Jvm.exec) (hb : c.code = cc) {x y : Int} {off : Int} {tgt : Nat} (hx : jI x) (hy : jI y) (hdg : decode cc pc = .ok (.if_icmp .le off, 3)) (ht : (pc : Int) + off = (tgt : Int)) (kt : x ≤ y → W p l e R s m args below meth c H locs cells slots Q (F0 m tgt ls rest)) (kf : ¬ x ≤ y → W p l e R s m args below meth c H locs cells slots Q (F0 m (pc + 3) ls rest)) : W p l e R s m args below meth c H locs cells slots Q (F0 m pc ls (.int (ji y) :: .int (ji x) :: rest)) := lv_icmp_le hexec hb hdg ht (fun q => kt ((ji_le hx hy).mp q)) (fun q => kf (fun z => q ((ji_le hx hy).mpr z)))
theorem wi_zle (hexec : p.tables.exec = Jvm.exec) (hb : c.code = cc) {x : Int} {off : Int} {tgt : Nat} (hx : jI x) (hdg : decode cc pc = .ok (.ifCond .le off, 3)) (ht : (pc : Int) + off = (tgt : Int)) (kt : x ≤ 0 → W p l e R s m args below meth c H locs cells slots Q (F0 m tgt ls rest)) (kf : ¬ x ≤ 0 → W p l e R s m args below meth c H locs cells slots Q (F0 m (pc + 3) ls rest)) : W p l e R s m args below meth c H locs cells slots Q (F0 m pc ls (.int (ji x) :: rest)) := by
  have j0 : jI 0 := ⟨by decide, by decide⟩
  exact lv_if_le hexec hb hdg ht (fun q => kt ((ji_le hx j0).mp q)) (fun q => kf (fun z => q ((ji_le hx j0).mpr z)))
theorem jl_cmp {x y : Int} (hx : jL x) (hy : jL y) : (y < x ∧ lg_cmp (jl x) (jl y) = 1) ∨ (x = y ∧ lg_cmp (jl x) (jl y) = 0) ∨ (x < y ∧ lg_cmp (jl x) (jl y) = -1) := by
  unfold lg_cmp
  rcases Int.lt_trichotomy x y with h | h | h
  · right; right
    refine ⟨h, ?_⟩
    rw [if_neg (fun q => by have := (jl_lt hy hx).mp q; omega), if_neg (fun q => by have := (jl_eq hx hy).mp q; omega)]
  · right; left
    subst h
    refine ⟨rfl, ?_⟩
    rw [if_neg (fun q => by have := (jl_lt hx hx).mp q; omega), if_pos rfl]
  · left
    refine ⟨h, ?_⟩
    rw [if_pos ((jl_lt hy hx).mpr h)]
theorem wl_ceq (hexec : p.tables.exec = Jvm.exec) (hb : c.code = cc) {x y : Int} {off : Int} {tgt : Nat} (hx : jL x) (hy : jL y) (hdg : decode cc pc = .ok (.lcmp, 1)) (hdg2 : decode cc (pc + 1) = .ok (.ifCond .eq off, 3)) (ht : ((pc + 1 : Nat) : Int) + off = (tgt : Int)) (kt : x = y → W p l e R s m args below meth c H locs cells slots Q (F0 m tgt ls rest)) (kf : ¬ x = y → W p l e R s m args below meth c H locs cells slots Q (F0 m (pc + 1 + 3) ls rest)) : W p l e R s m args below meth c H locs cells slots Q (F0 m pc ls (.long (jl y) :: .long (jl x) :: rest)) := by
  refine W.lcmp hexec hb hdg ?_
  refine lv_if_eq hexec hb hdg2 ht (fun q => kt ?_) (fun q => kf ?_)
  all_goals
    rcases jl_cmp hx hy with ⟨h1, h2⟩ | ⟨h1, h2⟩ | ⟨h1, h2⟩ <;> rw [h2] at q <;> first | omega | exact absurd q (by decide) | exact absurd (by decide) q
theorem wl_cne (hexec : p.tables.exec = Jvm.exec) (hb : c.code = cc) {x y : Int} {off : Int} {tgt : Nat} (hx : jL x) (hy : jL y) (hdg : decode cc pc = .ok (.lcmp, 1)) (hdg2 : decode cc (pc + 1) = .ok (.ifCond .ne off, 3)) (ht : ((pc + 1 : Nat) : Int) + off = (tgt : Int)) (kt : ¬ x = y → W p l e R s m args below meth c H locs cells slots Q (F0 m tgt ls rest)) (kf : x = y → W p l e R s m args below meth c H locs cells slots Q (F0 m (pc + 1 + 3) ls rest)) : W p l e R s m args below meth c H locs cells slots Q (F0 m pc ls (.long (jl y) :: .long (jl x) :: rest)) := by
  refine W.lcmp hexec hb hdg ?_
  refine lv_if_ne hexec hb hdg2 ht (fun q => kt ?_) (fun q => kf ?_)
  all_goals
    rcases jl_cmp hx hy with ⟨h1, h2⟩ | ⟨h1, h2⟩ | ⟨h1, h2⟩ <;> rw [h2] at q <;> first | omega | exact absurd q (by decide) | exact absurd (by decide) q
theorem wl_clt (hexec : p.tables.exec = Jvm.exec) (hb : c.code = cc) {x y : Int} {off : Int} {tgt : Nat} (hx : jL x) (hy : jL y) (hdg : decode cc pc = .ok (.lcmp, 1)) (hdg2 : decode cc (pc + 1) = .ok (.ifCond .lt off, 3)) (ht : ((pc + 1 : Nat) : Int) + off = (tgt : Int)) (kt : x < y → W p l e R s m args below meth c H locs cells slots Q (F0 m tgt ls rest)) (kf : ¬ x < y → W p l e R s m args below meth c H locs cells slots Q (F0 m (pc + 1 + 3) ls rest)) : W p l e R s m args below meth c H locs cells slots Q (F0 m pc ls (.long (jl y) :: .long (jl x) :: rest)) := by
  refine W.lcmp hexec hb hdg ?_
  refine lv_if_lt hexec hb hdg2 ht (fun q => kt ?_) (fun q => kf ?_)
  all_goals
    rcases jl_cmp hx hy with ⟨h1, h2⟩ | ⟨h1, h2⟩ | ⟨h1, h2⟩ <;> rw [h2] at q <;> first | omega | exact absurd q (by decide) | exact absurd (by decide) q
theorem wl_cge (hexec : p.tables.exec = Jvm.exec) (hb : c.code = cc) {x y : Int} {off : Int} {tgt : Nat} (hx : jL x) (hy : jL y) (hdg : decode cc pc = .ok (.lcmp, 1)) (hdg2 : decode cc (pc + 1) = .ok (.ifCond .ge off, 3)) (ht : ((pc + 1 : Nat) : Int) + off = (tgt : Int)) (kt : y ≤ x → W p l e R s m args below meth c H locs cells slots Q (F0 m tgt ls rest)) (kf : ¬ y ≤ x → W p l e R s m args below meth c H locs cells slots Q (F0 m (pc + 1 + 3) ls rest)) : W p l e R s m args below meth c H locs cells slots Q (F0 m pc ls (.long (jl y) :: .long (jl x) :: rest)) := by
  refine W.lcmp hexec hb hdg ?_
  refine lv_if_ge hexec hb hdg2 ht (fun q => kt ?_) (fun q => kf ?_)
  all_goals
    rcases jl_cmp hx hy with ⟨h1, h2⟩ | ⟨h1, h2⟩ | ⟨h1, h2⟩ <;> rw [h2] at q <;> first | omega | exact absurd q (by decide) | exact absurd (by decide) q
theorem wl_cgt (hexec : p.tables.exec = Jvm.exec) (hb : c.code = cc) {x y : Int} {off : Int} {tgt : Nat} (hx : jL x) (hy : jL y) (hdg : decode cc pc = .ok (.lcmp, 1)) (hdg2 : decode cc (pc + 1) = .ok (.ifCond .gt off, 3)) (ht : ((pc + 1 : Nat) : Int) + off = (tgt : Int)) (kt : y < x → W p l e R s m args below meth c H locs cells slots Q (F0 m tgt ls rest)) (kf : ¬ y < x → W p l e R s m args below meth c H locs cells slots Q (F0 m (pc + 1 + 3) ls rest)) : W p l e R s m args below meth c H locs cells slots Q (F0 m pc ls (.long (jl y) :: .long (jl x) :: rest)) := by
  refine W.lcmp hexec hb hdg ?_
  refine lv_if_gt hexec hb hdg2 ht (fun q => kt ?_) (fun q => kf ?_)
  all_goals
    rcases jl_cmp hx hy with ⟨h1, h2⟩ | ⟨h1, h2⟩ | ⟨h1, h2⟩ <;> rw [h2] at q <;> first | omega | exact absurd q (by decide) | exact absurd (by decide) q
theorem wl_cle (hexec : p.tables.exec = Jvm.exec) (hb : c.code = cc) {x y : Int} {off : Int} {tgt : Nat} (hx : jL x) (hy : jL y) (hdg : decode cc pc = .ok (.lcmp, 1)) (hdg2 : decode cc (pc + 1) = .ok (.ifCond .le off, 3)) (ht : ((pc + 1 : Nat) : Int) + off = (tgt : Int)) (kt : x ≤ y → W p l e R s m args below meth c H locs cells slots Q (F0 m tgt ls rest)) (kf : ¬ x ≤ y → W p l e R s m args below meth c H locs cells slots Q (F0 m (pc + 1 + 3) ls rest)) : W p l e R s m args below meth c H locs cells slots Q (F0 m pc ls (.long (jl y) :: .long (jl x) :: rest)) := by
  refine W.lcmp hexec hb hdg ?_
  refine lv_if_le hexec hb hdg2 ht (fun q => kt ?_) (fun q => kf ?_)
  all_goals
    rcases jl_cmp hx hy with ⟨h1, h2⟩ | ⟨h1, h2⟩ | ⟨h1, h2⟩ <;> rw [h2] at q <;> first | omega | exact absurd q (by decide) | exact absurd (by decide) q
end WJ
end
