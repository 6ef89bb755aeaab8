/-! Forms (a, b, c) of one discriminant D; w is the whole part of D's root (-1 for D below 0). One step 'fm_rho' goes to the neighbour that begins with c. Two forms MERGE if their ways of steps come together. Here: a form merges with (c, -b, a), and with every (a, b + 2 a k, ..), so with all forms of its class. -/
abbrev fm_F : Type := Int × Int × Int
def fm_ab (x : Int) : Int := if x < 0 then -x else x
theorem fm_ab_cases (x : Int) : (0 ≤ x ∧ fm_ab x = x) ∨ (x < 0 ∧ fm_ab x = -x) := by
  unfold fm_ab
  split
  · exact Or.inr ⟨by omega, rfl⟩
  · exact Or.inl ⟨by omega, rfl⟩
theorem fm_ab_neg (x : Int) : fm_ab (-x) = fm_ab x := by
  rcases fm_ab_cases x with h | h <;> rcases fm_ab_cases (-x) with k | k <;> omega
theorem fm_ab_pos {x : Int} (h : x ≠ 0) : 0 < fm_ab x := by
  rcases fm_ab_cases x with k | k <;> omega
/-- what D and w have to do with each other -/
def fm_ok (D w : Int) : Prop := (D < 0 ∧ w = -1) ∨ (0 ≤ w ∧ w * w < D ∧ D < (w + 1) * (w + 1))
theorem fm_sq_le {x y : Int} (h0 : 0 ≤ x) (h : x ≤ y) : x * x ≤ y * y := Int.mul_le_mul h h h0 (by omega)
theorem fm_ab_sq (x : Int) : fm_ab x * fm_ab x = x * x := by
  rcases fm_ab_cases x with ⟨-, h⟩ | ⟨-, h⟩ <;> rw [h]
  rw [Int.neg_mul_neg]
theorem fm_in {D w x : Int} (h : fm_ok D w) (hx : fm_ab x ≤ w) : x * x < D := by
  have h0 : 0 ≤ fm_ab x := by rcases fm_ab_cases x with k | k <;> omega
  rcases h with ⟨h1, h2⟩ | ⟨h1, h2, h3⟩
  · omega
  · have := fm_sq_le h0 hx
    rw [fm_ab_sq] at this
    omega
theorem fm_out {D w x : Int} (h : fm_ok D w) (hx : w < fm_ab x) : D < x * x := by
  have h0 : 0 ≤ fm_ab x := by rcases fm_ab_cases x with k | k <;> omega
  rcases h with ⟨h1, h2⟩ | ⟨h1, h2, h3⟩
  · have := fm_sq_le (Int.le_refl 0) h0
    rw [fm_ab_sq] at this
    omega
  · have := fm_sq_le (x := w + 1) (y := fm_ab x) (by omega) (by omega)
    rw [fm_ab_sq] at this
    omega
theorem fm_in_of {D w x : Int} (h : fm_ok D w) (hx : x * x < D) : fm_ab x ≤ w := by
  rcases Int.lt_or_le w (fm_ab x) with k | k
  · have := fm_out h k; omega
  · exact k
theorem fm_out_of {D w x : Int} (h : fm_ok D w) (hx : D < x * x) : w < fm_ab x := by
  rcases Int.lt_or_le w (fm_ab x) with k | k
  · exact k
  · have := fm_in h k; omega
theorem fm_nsq {D w : Int} (h : fm_ok D w) (x : Int) : x * x ≠ D := by
  intro e
  rcases Int.lt_or_le w (fm_ab x) with k | k
  · have := fm_out h k; omega
  · have := fm_in h k; omega
def fm_top (w c : Int) : Int := if w < fm_ab c then fm_ab c else w
theorem fm_top_cases (w c : Int) : (w < fm_ab c ∧ fm_top w c = fm_ab c) ∨ (fm_ab c ≤ w ∧ fm_top w c = w) := by
  unfold fm_top
  split
  · exact Or.inl ⟨by assumption, rfl⟩
  · exact Or.inr ⟨by omega, rfl⟩
theorem fm_top_neg (w c : Int) : fm_top w (-c) = fm_top w c := by unfold fm_top; rw [fm_ab_neg]
def fm_e (w b c : Int) : Int := fm_top w c - (fm_top w c + b) % (2 * fm_ab c)
def fm_rho (D w : Int) (g : fm_F) : fm_F := (g.2.2, fm_e w g.2.1 g.2.2, (fm_e w g.2.1 g.2.2 * fm_e w g.2.1 g.2.2 - D) / (4 * g.2.2))
/-- the new middle lies in its window and differs from -b by a multiple of 2 c -/
theorem fm_e_spec (w b : Int) {c : Int} (hc : c ≠ 0) : fm_top w c - 2 * fm_ab c < fm_e w b c ∧ fm_e w b c ≤ fm_top w c ∧ ∃ k : Int, fm_e w b c = -b + 2 * c * k := by
  have h0 := fm_ab_pos hc
  have h1 := Int.emod_nonneg (fm_top w c + b) (show 2 * fm_ab c ≠ 0 by omega)
  have h2 := Int.emod_lt_of_pos (fm_top w c + b) (show 0 < 2 * fm_ab c by omega)
  have h3 := Int.mul_ediv_add_emod (fm_top w c + b) (2 * fm_ab c)
  unfold fm_e
  refine ⟨by omega, by omega, ?_⟩
  rcases fm_ab_cases c with ⟨-, h⟩ | ⟨-, h⟩
  · refine ⟨(fm_top w c + b) / (2 * fm_ab c), ?_⟩
    rw [h] at h3 ⊢
    omega
  · refine ⟨-((fm_top w c + b) / (2 * fm_ab c)), ?_⟩
    rw [h] at h3 ⊢
    have : 2 * c * -((fm_top w c + b) / (2 * -c)) = 2 * -c * ((fm_top w c + b) / (2 * -c)) := by grind
    omega
/-- a multiple of 2 c that is smaller than 2 |c| is 0 -/
theorem fm_small {c k : Int} (h1 : -(2 * fm_ab c) < 2 * c * k) (h2 : 2 * c * k < 2 * fm_ab c) : 2 * c * k = 0 := by
  rcases Int.lt_trichotomy k 0 with hk | hk | hk
  · exfalso
    rcases fm_ab_cases c with ⟨h0, h⟩ | ⟨h0, h⟩ <;> rw [h] at h1 h2
    · have := Int.mul_le_mul_of_nonneg_left (show k ≤ -1 by omega) (show (0:Int) ≤ 2 * c by omega)
      omega
    · have := Int.mul_le_mul_of_nonneg_left (show k ≤ -1 by omega) (show (0:Int) ≤ 2 * -c by omega)
      have e : 2 * -c * k = -(2 * c * k) := by grind
      omega
  · rw [hk]; simp
  · exfalso
    rcases fm_ab_cases c with ⟨h0, h⟩ | ⟨h0, h⟩ <;> rw [h] at h1 h2
    · have := Int.mul_le_mul_of_nonneg_left (show 1 ≤ k by omega) (show (0:Int) ≤ 2 * c by omega)
      omega
    · have := Int.mul_le_mul_of_nonneg_left (show 1 ≤ k by omega) (show (0:Int) ≤ 2 * -c by omega)
      have e : 2 * -c * k = -(2 * c * k) := by grind
      omega
theorem fm_e_uniq {w b c e k : Int} (hc : c ≠ 0) (h1 : fm_top w c - 2 * fm_ab c < e) (h2 : e ≤ fm_top w c) (h3 : e = -b + 2 * c * k) : fm_e w b c = e := by
  obtain ⟨g1, g2, k', g3⟩ := fm_e_spec w b hc
  have e1 : 2 * c * (k' - k) = fm_e w b c - e := by grind
  have := fm_small (c := c) (k := k' - k) (by omega) (by omega)
  omega
def fm_disc (D : Int) (g : fm_F) : Prop := g.2.1 * g.2.1 - 4 * (g.1 * g.2.2) = D
theorem fm_ne {D w a b c : Int} (h : fm_ok D w) (hd : fm_disc D (a, b, c)) : a ≠ 0 ∧ c ≠ 0 := by
  unfold fm_disc at hd
  dsimp only at hd
  constructor
  · intro e
    rw [e, Int.zero_mul] at hd
    exact fm_nsq h b (by omega)
  · intro e
    rw [e, Int.mul_zero] at hd
    exact fm_nsq h b (by omega)
/-- a step, told by the multiple that it takes -/
theorem fm_rho_of {D w a b c k : Int} (hc : c ≠ 0) (hd : fm_disc D (a, b, c)) (h1 : fm_top w c - 2 * fm_ab c < -b + 2 * c * k) (h2 : -b + 2 * c * k ≤ fm_top w c) : fm_rho D w (a, b, c) = (c, -b + 2 * c * k, a - b * k + c * (k * k)) := by
  have he := fm_e_uniq (w := w) (b := b) (k := k) hc h1 h2 rfl
  unfold fm_disc at hd
  dsimp only at hd
  unfold fm_rho
  dsimp only
  rw [he]
  have h4 : (-b + 2 * c * k) * (-b + 2 * c * k) - D = 4 * c * (a - b * k + c * (k * k)) := by grind
  rw [h4, Int.mul_ediv_cancel_left _ (show 4 * c ≠ 0 by omega)]
theorem fm_rho_ex {D w a b c : Int} (hc : c ≠ 0) (hd : fm_disc D (a, b, c)) : ∃ k : Int, fm_rho D w (a, b, c) = (c, -b + 2 * c * k, a - b * k + c * (k * k)) ∧ fm_top w c - 2 * fm_ab c < -b + 2 * c * k ∧ -b + 2 * c * k ≤ fm_top w c := by
  obtain ⟨g1, g2, k, g3⟩ := fm_e_spec w b hc
  exact ⟨k, fm_rho_of hc hd (by omega) (by omega), by omega, by omega⟩
theorem fm_rho_disc {D w : Int} {g : fm_F} (h : fm_ok D w) (hd : fm_disc D g) : fm_disc D (fm_rho D w g) := by
  obtain ⟨a, b, c⟩ := g
  obtain ⟨k, hk, -, -⟩ := fm_rho_ex (w := w) (fm_ne h hd).2 hd
  rw [hk]
  unfold fm_disc at hd ⊢
  dsimp only at hd ⊢
  grind
theorem fm_rho_congr {D w a b a' b' c k : Int} (hc : c ≠ 0) (hd : fm_disc D (a, b, c)) (hd' : fm_disc D (a', b', c)) (hb : b' = b + 2 * c * k) : fm_rho D w (a, b, c) = fm_rho D w (a', b', c) := by
  obtain ⟨j, hj, h1, h2⟩ := fm_rho_ex (w := w) hc hd
  have e1 : -b + 2 * c * j = -b' + 2 * c * (j + k) := by grind
  rw [hj, fm_rho_of (k := j + k) hc hd' (by omega) (by omega)]
  unfold fm_disc at hd hd'
  dsimp only at hd hd'
  have e2 : 4 * c * (a - b * j + c * (j * j)) = 4 * c * (a' - b' * (j + k) + c * ((j + k) * (j + k))) := by grind
  have e3 := Int.eq_of_mul_eq_mul_left (show 4 * c ≠ 0 by omega) e2
  rw [e3, e1]
-- ways of steps
def fm_it (D w : Int) : Nat → fm_F → fm_F
  | 0, g => g
  | n + 1, g => fm_it D w n (fm_rho D w g)
theorem fm_it_add (D w : Int) (i j : Nat) (g : fm_F) : fm_it D w (i + j) g = fm_it D w j (fm_it D w i g) := by
  induction i generalizing g with
  | zero => rw [Nat.zero_add]; rfl
  | succ i ih =>
    rw [Nat.succ_add]
    exact ih _
theorem fm_it_succ (D w : Int) (n : Nat) (g : fm_F) : fm_it D w (n + 1) g = fm_rho D w (fm_it D w n g) := fm_it_add D w n 1 g
theorem fm_it_disc {D w : Int} (h : fm_ok D w) (n : Nat) {g : fm_F} (hd : fm_disc D g) : fm_disc D (fm_it D w n g) := by
  induction n generalizing g with
  | zero => exact hd
  | succ n ih => exact ih (fm_rho_disc h hd)
def fm_mg (D w : Int) (g h : fm_F) : Prop := ∃ i j : Nat, fm_it D w i g = fm_it D w j h
theorem fm_mg.rf {D w : Int} (g : fm_F) : fm_mg D w g g := ⟨0, 0, rfl⟩
theorem fm_mg.sy {D w : Int} {g h : fm_F} (x : fm_mg D w g h) : fm_mg D w h g := by
  obtain ⟨i, j, e⟩ := x
  exact ⟨j, i, e.symm⟩
theorem fm_mg.tr {D w : Int} {g h k : fm_F} (x : fm_mg D w g h) (y : fm_mg D w h k) : fm_mg D w g k := by
  obtain ⟨i, j, e⟩ := x
  obtain ⟨i', j', e'⟩ := y
  refine ⟨i + i', j' + j, ?_⟩
  rw [fm_it_add, e, ← fm_it_add, Nat.add_comm j i', fm_it_add, e', ← fm_it_add]
theorem fm_mg.step {D w : Int} {g h : fm_F} (e : fm_rho D w g = h) : fm_mg D w g h := ⟨1, 0, e⟩
theorem fm_mg.same {D w : Int} {g h : fm_F} (e : fm_rho D w g = fm_rho D w h) : fm_mg D w g h := ⟨1, 1, e⟩
def fm_S (g : fm_F) : fm_F := (g.2.2, -g.2.1, g.1)
theorem fm_S_disc {D a b c : Int} (hd : fm_disc D (a, b, c)) : fm_disc D (c, -b, a) := by
  unfold fm_disc at hd ⊢
  dsimp only at hd ⊢
  grind
/-- downwards: t is the sign of a and c -/
theorem fm_down {D w a b c t : Int} (h : fm_ok D w) (hd : fm_disc D (a, b, c)) (ht : t * t = 1) (hd1 : fm_disc D (a, b - 2 * t * a, a - t * b + c)) (h1 : fm_mg D w (a, b - 2 * t * a, a - t * b + c) (a - t * b + c, -(b - 2 * t * a), a)) (h2 : fm_mg D w (c, -b + 2 * t * c, a - t * b + c) (a - t * b + c, -(-b + 2 * t * c), c)) : fm_mg D w (a, b, c) (c, -b, a) := by
  have hd2 : fm_disc D (c, -b + 2 * t * c, a - t * b + c) := by
    unfold fm_disc at hd ⊢
    dsimp only at hd ⊢
    grind
  obtain ⟨ha, hc⟩ := fm_ne h hd
  obtain ⟨-, he⟩ := fm_ne h hd1
  have s1 : fm_mg D w (a, b, c) (a - t * b + c, -(-b + 2 * t * c), c) := fm_mg.same (fm_rho_congr (k := -t) hc hd (fm_S_disc hd2) (by grind))
  have s2 : fm_mg D w (c, -b + 2 * t * c, a - t * b + c) (a, b - 2 * t * a, a - t * b + c) := fm_mg.same (fm_rho_congr (k := -t) he hd2 hd1 (by grind))
  have s3 : fm_mg D w (a - t * b + c, -(b - 2 * t * a), a) (c, -b, a) := fm_mg.same (fm_rho_congr (k := -t) ha (fm_S_disc hd1) (fm_S_disc hd) (by grind))
  exact s1.tr (h2.sy.tr (s2.tr (h1.tr s3)))
theorem fm_pp {a c : Int} (ha : 0 < a) (h : 0 < a * c) : 0 < c := by
  rcases Int.lt_or_le 0 c with k | k
  · exact k
  · have := Int.mul_le_mul_of_nonneg_left k (Int.le_of_lt ha)
    rw [Int.mul_zero] at this
    omega
theorem fm_nn {a c : Int} (ha : a < 0) (h : 0 < a * c) : c < 0 := by
  have := fm_pp (a := -a) (c := -c) (by omega) (by rw [Int.neg_mul_neg]; exact h)
  omega
theorem fm_pn {a c : Int} (ha : 0 < a) (h : a * c < 0) : c < 0 := by
  have := fm_pp (a := a) (c := -c) ha (by rw [Int.mul_neg]; omega)
  omega
theorem fm_np {a c : Int} (ha : a < 0) (h : a * c < 0) : 0 < c := by
  have := fm_pp (a := -a) (c := c) (by omega) (by rw [Int.neg_mul]; omega)
  omega
theorem fm_dn {D w : Int} (h : fm_ok D w) {n : Nat} (ih : ∀ a b c : Int, fm_ab b < n → fm_disc D (a, b, c) → fm_mg D w (a, b, c) (c, -b, a)) {a b c : Int} (hb : fm_ab b < (n + 1 : Nat)) (hd : fm_disc D (a, b, c)) (h0 : 0 < b) (ha : fm_ab a < b) (hc : fm_ab c < b) (hac : 0 < a * c) : fm_mg D w (a, b, c) (c, -b, a) := by
  have hbb : fm_ab b = b := by rcases fm_ab_cases b with k | k <;> omega
  rcases Int.lt_trichotomy a 0 with k | k | k
  · have hc0 := fm_nn k hac
    have hA : fm_ab a = -a := by rcases fm_ab_cases a with k | k <;> omega
    have hC : fm_ab c = -c := by rcases fm_ab_cases c with k | k <;> omega
    have hd1 : fm_disc D (a, b - 2 * (-1) * a, a - (-1) * b + c) := by
      unfold fm_disc at hd ⊢
      dsimp only at hd ⊢
      grind
    have hd2 : fm_disc D (c, -b + 2 * (-1) * c, a - (-1) * b + c) := by
      unfold fm_disc at hd ⊢
      dsimp only at hd ⊢
      grind
    refine fm_down (t := -1) h hd (by decide) hd1 (ih _ _ _ ?_ hd1) (ih _ _ _ ?_ hd2)
    · rcases fm_ab_cases (b - 2 * (-1) * a) with q | q <;> omega
    · rcases fm_ab_cases (-b + 2 * (-1) * c) with q | q <;> omega
  · rw [k, Int.zero_mul] at hac
    omega
  · have hc0 := fm_pp k hac
    have hA : fm_ab a = a := by rcases fm_ab_cases a with k | k <;> omega
    have hC : fm_ab c = c := by rcases fm_ab_cases c with k | k <;> omega
    have hd1 : fm_disc D (a, b - 2 * 1 * a, a - 1 * b + c) := by
      unfold fm_disc at hd ⊢
      dsimp only at hd ⊢
      grind
    have hd2 : fm_disc D (c, -b + 2 * 1 * c, a - 1 * b + c) := by
      unfold fm_disc at hd ⊢
      dsimp only at hd ⊢
      grind
    refine fm_down (t := 1) h hd (by decide) hd1 (ih _ _ _ ?_ hd1) (ih _ _ _ ?_ hd2)
    · rcases fm_ab_cases (b - 2 * 1 * a) with q | q <;> omega
    · rcases fm_ab_cases (-b + 2 * 1 * c) with q | q <;> omega
theorem fm_bd {D w : Int} (h : fm_ok D w) {n : Nat} (ih : ∀ a b c : Int, fm_ab b < n → fm_disc D (a, b, c) → fm_mg D w (a, b, c) (c, -b, a)) {a b c : Int} (hb : fm_ab b < (n + 1 : Nat)) (hd : fm_disc D (a, b, c)) (hw : w < fm_ab a) (hba : b = -fm_ab a) (hca : fm_ab c < fm_ab a) : fm_mg D w (a, b, c) (c, -b, a) := by
  obtain ⟨ha0, hc0⟩ := fm_ne h hd
  have ho := fm_out h hw
  have hbn : fm_ab b = fm_ab a := by rcases fm_ab_cases a with k | k <;> rcases fm_ab_cases b with q | q <;> omega
  have htop : fm_top w a = fm_ab a := by rcases fm_top_cases w a with k | k <;> omega
  have hac : 0 < a * c := by
    unfold fm_disc at hd
    dsimp only at hd
    have : b * b = a * a := by rw [hba, Int.neg_mul_neg, fm_ab_sq]
    omega
  rcases fm_ab_cases a with ⟨k, hA⟩ | ⟨k, hA⟩
  · have hc1 := fm_pp (show 0 < a by omega) hac
    have hC : fm_ab c = c := by rcases fm_ab_cases c with k | k <;> omega
    have hb' : b = -a := by omega
    subst hb'
    have hd2 : fm_disc D (c, a - 2 * c, c) := by
      unfold fm_disc at hd ⊢
      dsimp only at hd ⊢
      grind
    have hdh : fm_disc D (a, a, c) := by
      unfold fm_disc at hd ⊢
      dsimp only at hd ⊢
      grind
    have r1 : fm_rho D w (c, - -a, a) = (a, - - -a + 2 * a * 1, c - - -a * 1 + a * (1 * 1)) := fm_rho_of (k := 1) ha0 (fm_S_disc hd) (by omega) (by omega)
    have r2 : (a, - - -a + 2 * a * 1, c - - -a * 1 + a * (1 * 1)) = ((a, a, c) : fm_F) := by
      rw [show - - -a + 2 * a * 1 = a by omega, show c - - -a * 1 + a * (1 * 1) = c by omega]
    have s1 : fm_mg D w (a, -a, c) (c, -(a - 2 * c), c) := fm_mg.same (fm_rho_congr (k := 1) hc0 hd (fm_S_disc hd2) (by omega))
    have s2 : fm_mg D w (c, a - 2 * c, c) (a, a, c) := fm_mg.same (fm_rho_congr (k := 1) hc0 hd2 hdh (by omega))
    have s3 := ih c (a - 2 * c) c (by rcases fm_ab_cases (a - 2 * c) with q | q <;> omega) hd2
    exact s1.tr (s3.sy.tr (s2.tr (fm_mg.step (r1.trans r2)).sy))
  · have hc1 := fm_nn k hac
    have hC : fm_ab c = -c := by rcases fm_ab_cases c with k | k <;> omega
    have hb' : b = a := by omega
    subst hb'
    have hd2 : fm_disc D (c, -b + 2 * c, c) := by
      unfold fm_disc at hd ⊢
      dsimp only at hd ⊢
      grind
    have hdh : fm_disc D (b, -b, c) := by
      unfold fm_disc at hd ⊢
      dsimp only at hd ⊢
      grind
    have r1 : fm_rho D w (c, -b, b) = (b, - -b + 2 * b * (-1), c - -b * (-1) + b * ((-1) * (-1))) := fm_rho_of (k := -1) ha0 (fm_S_disc hd) (by omega) (by omega)
    have r2 : (b, - -b + 2 * b * (-1), c - -b * (-1) + b * ((-1) * (-1))) = ((b, -b, c) : fm_F) := by
      rw [show - -b + 2 * b * (-1) = -b by omega, show c - -b * (-1) + b * ((-1) * (-1)) = c by omega]
    have s1 : fm_mg D w (b, b, c) (c, -(-b + 2 * c), c) := fm_mg.same (fm_rho_congr (k := -1) hc0 hd (fm_S_disc hd2) (by omega))
    have s2 : fm_mg D w (c, -b + 2 * c, c) (b, -b, c) := fm_mg.same (fm_rho_congr (k := -1) hc0 hd2 hdh (by omega))
    have s3 := ih c (-b + 2 * c) c (by rcases fm_ab_cases (-b + 2 * c) with q | q <;> omega) hd2
    exact s1.tr (s3.sy.tr (s2.tr (fm_mg.step (r1.trans r2)).sy))
theorem fm_rho_back {D w a b c : Int} (ha : a ≠ 0) (hd : fm_disc D (a, b, c)) (h1 : fm_top w a - 2 * fm_ab a < b) (h2 : b ≤ fm_top w a) : fm_mg D w (a, b, c) (c, -b, a) := by
  have r1 : fm_rho D w (c, -b, a) = (a, - -b + 2 * a * 0, c - -b * 0 + a * (0 * 0)) := fm_rho_of (k := 0) ha (fm_S_disc hd) (by omega) (by omega)
  have r2 : (a, - -b + 2 * a * 0, c - -b * 0 + a * (0 * 0)) = ((a, b, c) : fm_F) := by
    rw [show - -b + 2 * a * 0 = b by omega, show c - -b * 0 + a * (0 * 0) = c by omega]
  exact (fm_mg.step (r1.trans r2)).sy
theorem fm_mgS {D w a b c : Int} (x : fm_mg D w (c, -b, a) (a, - -b, c)) : fm_mg D w (a, b, c) (c, -b, a) := by
  rw [Int.neg_neg] at x
  exact x.sy
theorem fm_rho_forth {D w a b c : Int} (hc : c ≠ 0) (hd : fm_disc D (a, b, c)) (h1 : fm_top w c - 2 * fm_ab c < -b) (h2 : -b ≤ fm_top w c) : fm_mg D w (a, b, c) (c, -b, a) := fm_mgS (fm_rho_back hc (fm_S_disc hd) h1 h2)
theorem fm_c2 {D w : Int} (h : fm_ok D w) {n : Nat} (ih : ∀ a b c : Int, fm_ab b < n → fm_disc D (a, b, c) → fm_mg D w (a, b, c) (c, -b, a)) {a b c : Int} (hb : fm_ab b < (n + 1 : Nat)) (hd : fm_disc D (a, b, c)) (hw : w < fm_ab a) : fm_mg D w (a, b, c) (c, -b, a) := by
  obtain ⟨ha0, hc0⟩ := fm_ne h hd
  have ho := fm_out h hw
  have htop : fm_top w a = fm_ab a := by rcases fm_top_cases w a with k | k <;> omega
  have hA0 := fm_ab_pos ha0
  have hC0 := fm_ab_pos hc0
  by_cases i1 : -fm_ab a < b ∧ b ≤ fm_ab a
  · exact fm_rho_back ha0 hd (by omega) (by omega)
  · by_cases i2 : b = -fm_ab a
    · by_cases i3 : fm_ab a ≤ fm_ab c
      · have htc : fm_top w c = fm_ab c := by rcases fm_top_cases w c with k | k <;> omega
        exact fm_rho_forth hc0 hd (by omega) (by omega)
      · exact fm_bd h ih hb hd hw i2 (by omega)
    · have hab : fm_ab a < fm_ab b := by rcases fm_ab_cases b with k | k <;> omega
      have hac : 0 < a * c := by
        have h1 := fm_sq_le (x := fm_ab a) (y := fm_ab b) (by omega) (by omega)
        rw [fm_ab_sq, fm_ab_sq] at h1
        unfold fm_disc at hd
        dsimp only at hd
        omega
      by_cases i4 : fm_ab c < fm_ab b
      · rcases fm_ab_cases b with k | k
        · exact fm_dn h ih hb hd (by omega) (by omega) (by omega) hac
        · refine fm_mgS (fm_dn h ih (by rw [fm_ab_neg]; exact hb) (fm_S_disc hd) (by omega) (by omega) (by omega) (by rw [Int.mul_comm]; exact hac))
      · have htc : fm_top w c = fm_ab c := by rcases fm_top_cases w c with k | k <;> omega
        by_cases i5 : b = fm_ab c
        · exact fm_mgS (fm_bd h ih (by rw [fm_ab_neg]; exact hb) (fm_S_disc hd) (by omega) (by omega) (by rcases fm_ab_cases b with k | k <;> omega))
        · exact fm_rho_forth hc0 hd (by rcases fm_ab_cases b with k | k <;> omega) (by rcases fm_ab_cases b with k | k <;> omega)
theorem fm_SS {D w : Int} (h : fm_ok D w) : ∀ (n : Nat) (a b c : Int), fm_ab b < n → fm_disc D (a, b, c) → fm_mg D w (a, b, c) (c, -b, a) := by
  intro n
  induction n with
  | zero =>
    intro a b c hb _
    rcases fm_ab_cases b with k | k <;> omega
  | succ n ih =>
    intro a b c hb hd
    obtain ⟨ha0, hc0⟩ := fm_ne h hd
    by_cases i1 : w < fm_ab a
    · exact fm_c2 h ih hb hd i1
    · by_cases i2 : w < fm_ab c
      · exact fm_mgS (fm_c2 h ih (by rw [fm_ab_neg]; exact hb) (fm_S_disc hd) i2)
      · have hta : fm_top w a = w := by rcases fm_top_cases w a with k | k <;> omega
        have htc : fm_top w c = w := by rcases fm_top_cases w c with k | k <;> omega
        have hA0 := fm_ab_pos ha0
        have hC0 := fm_ab_pos hc0
        have hd' := hd
        unfold fm_disc at hd'
        dsimp only at hd'
        rcases Int.lt_trichotomy (a * c) 0 with k | k | k
        · have hbw := fm_in_of (x := b) h (by omega)
          by_cases i3 : w - 2 * fm_ab a < b
          · exact fm_rho_back ha0 hd (by omega) (by rcases fm_ab_cases b with q | q <;> omega)
          · by_cases i4 : w - 2 * fm_ab c < -b
            · exact fm_rho_forth hc0 hd (by omega) (by rcases fm_ab_cases b with q | q <;> omega)
            · exfalso
              rcases fm_ab_cases a with ⟨p, hA⟩ | ⟨p, hA⟩
              · have hc1 := fm_pn (show 0 < a by omega) k
                have hC : fm_ab c = -c := by rcases fm_ab_cases c with q | q <;> omega
                have x1 := fm_in (x := b + 2 * a) h (by rcases fm_ab_cases b with q | q <;> rcases fm_ab_cases (b + 2 * a) with r | r <;> omega)
                have x2 := fm_in (x := b + 2 * c) h (by rcases fm_ab_cases b with q | q <;> rcases fm_ab_cases (b + 2 * c) with r | r <;> omega)
                have e1 : (b + 2 * a) * (b + 2 * a) = D + 4 * (a * (a + b + c)) := by grind
                have e2 : (b + 2 * c) * (b + 2 * c) = D + 4 * (c * (a + b + c)) := by grind
                have y1 := fm_pn (a := a) (c := a + b + c) (by omega) (by omega)
                have y2 := fm_np (a := c) (c := a + b + c) hc1 (by omega)
                omega
              · have hc1 := fm_np p k
                have hC : fm_ab c = c := by rcases fm_ab_cases c with q | q <;> omega
                have x1 := fm_in (x := b - 2 * a) h (by rcases fm_ab_cases b with q | q <;> rcases fm_ab_cases (b - 2 * a) with r | r <;> omega)
                have x2 := fm_in (x := b - 2 * c) h (by rcases fm_ab_cases b with q | q <;> rcases fm_ab_cases (b - 2 * c) with r | r <;> omega)
                have e1 : (b - 2 * a) * (b - 2 * a) = D + 4 * (a * (a - b + c)) := by grind
                have e2 : (b - 2 * c) * (b - 2 * c) = D + 4 * (c * (a - b + c)) := by grind
                have y1 := fm_np (a := a) (c := a - b + c) p (by omega)
                have y2 := fm_pn (a := c) (c := a - b + c) hc1 (by omega)
                omega
        · exact absurd k (fun e => (Int.mul_eq_zero.mp e).elim ha0 hc0)
        · have hbw := fm_out_of (x := b) h (by omega)
          rcases fm_ab_cases b with q | q
          · exact fm_dn h ih hb hd (by omega) (by omega) (by omega) k
          · exact fm_mgS (fm_dn h ih (by rw [fm_ab_neg]; exact hb) (fm_S_disc hd) (by omega) (by omega) (by omega) (by rw [Int.mul_comm]; exact k))
/-- a form merges with its turned one -/
theorem fm_mg_S {D w a b c : Int} (h : fm_ok D w) (hd : fm_disc D (a, b, c)) : fm_mg D w (a, b, c) (c, -b, a) := by
  refine fm_SS h ((fm_ab b).toNat + 1) a b c ?_ hd
  rcases fm_ab_cases b with k | k <;> omega
theorem fm_T_disc {D a b c : Int} (k : Int) (hd : fm_disc D (a, b, c)) : fm_disc D (a, b + 2 * a * k, a * (k * k) + b * k + c) := by
  unfold fm_disc at hd ⊢
  dsimp only at hd ⊢
  grind
/-- a form merges with its slid one -/
theorem fm_mg_T {D w a b c : Int} (k : Int) (h : fm_ok D w) (hd : fm_disc D (a, b, c)) : fm_mg D w (a, b, c) (a, b + 2 * a * k, a * (k * k) + b * k + c) := by
  have hT := fm_T_disc k hd
  refine (fm_mg_S h hd).tr (fm_mg.tr (fm_mg.same ?_) (fm_mg_S h hT).sy)
  exact fm_rho_congr (k := -k) (fm_ne h hd).1 (fm_S_disc hd) (fm_S_disc hT) (by grind)
/-- the form at p x + q y, r x + s y -/
def fm_at (g : fm_F) (p q r s : Int) : fm_F := (g.1 * (p * p) + g.2.1 * (p * r) + g.2.2 * (r * r), 2 * (g.1 * (p * q)) + g.2.1 * (p * s + q * r) + 2 * (g.2.2 * (r * s)), g.1 * (q * q) + g.2.1 * (q * s) + g.2.2 * (s * s))
theorem fm_ext {a b c a' b' c' : Int} (h1 : a = a') (h2 : b = b') (h3 : c = c') : ((a, b, c) : fm_F) = (a', b', c') := by rw [h1, h2, h3]
theorem fm_mg_at {D w : Int} (h : fm_ok D w) : ∀ (n : Nat) (a b c p q r s : Int), fm_ab r < n → p * s - q * r = 1 → fm_disc D (a, b, c) → fm_mg D w (a, b, c) (fm_at (a, b, c) p q r s) := by
  intro n
  induction n with
  | zero =>
    intro a b c p q r s hr
    rcases fm_ab_cases r with k | k <;> omega
  | succ n ih =>
    intro a b c p q r s hr hdet hd
    by_cases r0 : r = 0
    · subst r0
      have hps : p * s = 1 := by rw [Int.mul_zero] at hdet; omega
      have hp : p = s ∧ p * p = 1 := by
        rcases Int.le_total 0 p with k | k
        · have h1 := Int.eq_one_of_mul_eq_one_right k hps
          rw [h1] at hps ⊢
          omega
        · have h1 := Int.eq_one_of_mul_eq_one_right (a := -p) (b := -s) (by omega) (by rw [Int.neg_mul_neg]; exact hps)
          have h2 : p = -1 := by omega
          rw [h2] at hps ⊢
          omega
      obtain ⟨rfl, hp2⟩ := hp
      have e : fm_at (a, b, c) p q 0 p = (a, b + 2 * a * (p * q), a * ((p * q) * (p * q)) + b * (p * q) + c) := by
        unfold fm_at
        dsimp only
        have t1 : a * (p * p) + b * (p * 0) + c * (0 * 0) = a := by rw [hp2]; omega
        have t2 : 2 * (a * (p * q)) + b * (p * p + q * 0) + 2 * (c * (0 * p)) = b + 2 * a * (p * q) := by
          have x1 : b * (p * p + q * 0) = b := by rw [Int.mul_zero, Int.add_zero, hp2, Int.mul_one]
          rw [x1]
          grind
        have t3 : a * (q * q) + b * (q * p) + c * (p * p) = a * ((p * q) * (p * q)) + b * (p * q) + c := by
          have x1 : a * ((p * q) * (p * q)) = a * (q * q) := by
            have : (p * q) * (p * q) = (p * p) * (q * q) := by grind
            rw [this, hp2, Int.one_mul]
          rw [x1, hp2, Int.mul_one, Int.mul_comm q p]
        exact fm_ext t1 t2 t3
      rw [e]
      exact fm_mg_T (p * q) h hd
    · have hT := fm_T_disc (p / r) hd
      have hm := Int.mul_ediv_add_emod p r
      have m0 := Int.emod_nonneg p r0
      have m1 := Int.emod_lt p r0
      have m2 : fm_ab r = r.natAbs := by rcases fm_ab_cases r with k | k <;> omega
      obtain ⟨k, hk⟩ : ∃ k, k = p / r := ⟨_, rfl⟩
      rw [← hk] at hT hm
      have hp : p % r = p - k * r := by grind
      have e : fm_at (a, b, c) p q r s = fm_at (a * (k * k) + b * k + c, -(b + 2 * a * k), a) r s (-(p - k * r)) (-(q - k * s)) := by
        unfold fm_at
        dsimp only
        exact fm_ext (by grind) (by grind) (by grind)
      rw [e]
      refine ((fm_mg_T k h hd).tr (fm_mg_S h hT)).tr (ih _ _ _ r s (-(p - k * r)) (-(q - k * s)) ?_ (by grind) (fm_S_disc hT))
      rw [fm_ab_neg, ← hp]
      rcases fm_ab_cases (p % r) with q1 | q1 <;> omega
