/-! Reduced forms: below 0 one in each class; above 0 a cycle of steps in each class; names. -/
def fm_red (D w : Int) (g : fm_F) : Prop := if D < 0 then fm_ab g.2.1 ≤ g.1 ∧ g.1 ≤ g.2.2 ∧ (0 ≤ g.2.1 ∨ (-g.2.1 ≠ g.1 ∧ g.1 ≠ g.2.2)) else 0 < g.2.1 ∧ g.2.1 ≤ w ∧ w < 2 * fm_ab g.1 + g.2.1 ∧ 2 * fm_ab g.1 - g.2.1 ≤ w
theorem fm_red_lt {D w a b c : Int} (h : D < 0) : fm_red D w (a, b, c) ↔ fm_ab b ≤ a ∧ a ≤ c ∧ (0 ≤ b ∨ (-b ≠ a ∧ a ≠ c)) := by
  unfold fm_red
  rw [if_pos h]
theorem fm_red_ge {D w a b c : Int} (h : ¬ D < 0) : fm_red D w (a, b, c) ↔ 0 < b ∧ b ≤ w ∧ w < 2 * fm_ab a + b ∧ 2 * fm_ab a - b ≤ w := by
  unfold fm_red
  rw [if_neg h]
theorem fm_ok_pos {D w : Int} (h : fm_ok D w) (hD : ¬ D < 0) : 0 ≤ w ∧ w * w < D ∧ D < (w + 1) * (w + 1) := by
  rcases h with h | h
  · exact absurd h.1 hD
  · exact h
theorem fm_ok_neg {D w : Int} (h : fm_ok D w) (hD : D < 0) : w = -1 := by
  rcases h with h | h
  · exact h.2
  · have := Int.mul_nonneg h.1 h.1
    omega
theorem fm_ab_mul (x y : Int) : fm_ab (x * y) = fm_ab x * fm_ab y := by
  rcases fm_ab_cases x with ⟨p, e⟩ | ⟨p, e⟩ <;> rcases fm_ab_cases y with ⟨q, f⟩ | ⟨q, f⟩ <;> rw [e, f] <;> rcases fm_ab_cases (x * y) with ⟨r, g⟩ | ⟨r, g⟩ <;> rw [g]
  · have := Int.mul_nonneg p q; omega
  · have := Int.mul_nonneg p (show 0 ≤ -y by omega)
    have h : x * -y = -(x * y) := Int.mul_neg x y
    have : x * y = 0 := by omega
    rw [h, this]; rfl
  · exact (Int.mul_neg x y).symm
  · have := Int.mul_nonneg (show 0 ≤ -x by omega) q
    have h : -x * y = -(x * y) := Int.neg_mul x y
    have : x * y = 0 := by omega
    rw [h, this]; rfl
  · exact (Int.neg_mul x y).symm
  · exact (Int.neg_mul_neg x y).symm
  · have := Int.mul_nonneg (show 0 ≤ -x by omega) (show 0 ≤ -y by omega)
    rw [Int.neg_mul_neg] at this
    omega
-- ===== above 0 =====
/-- in a form whose b is below the root a and c have different signs -/
theorem fm_opp {D w a b c : Int} (h : fm_ok D w) (hd : fm_disc D (a, b, c)) (hb : fm_ab b ≤ w) : a * c < 0 ∧ 4 * (fm_ab a * fm_ab c) = D - b * b := by
  have h1 := fm_in h hb
  unfold fm_disc at hd
  dsimp only at hd
  have h2 : a * c < 0 := by omega
  refine ⟨h2, ?_⟩
  rw [← fm_ab_mul]
  rcases fm_ab_cases (a * c) with k | k <;> omega
theorem fm_red_opp {D w a b c : Int} (h : fm_ok D w) (hD : ¬ D < 0) (hd : fm_disc D (a, b, c)) (hr : fm_red D w (a, b, c)) : a * c < 0 ∧ 4 * (fm_ab a * fm_ab c) = D - b * b := by
  rw [fm_red_ge hD] at hr
  exact fm_opp h hd (by rcases fm_ab_cases b with k | k <;> omega)
/-- c lies as a does -/
theorem fm_red_c {D w a b c : Int} (h : fm_ok D w) (hD : ¬ D < 0) (hd : fm_disc D (a, b, c)) (hr : fm_red D w (a, b, c)) : w < 2 * fm_ab c + b ∧ 2 * fm_ab c - b ≤ w := by
  obtain ⟨w0, w1, w2⟩ := fm_ok_pos h hD
  obtain ⟨-, h4⟩ := fm_red_opp h hD hd hr
  obtain ⟨ha0, hc0⟩ := fm_ne h hd
  rw [fm_red_ge hD] at hr
  obtain ⟨r1, r2, r3, r4⟩ := hr
  have hA := fm_ab_pos ha0
  have hC := fm_ab_pos hc0
  constructor
  · rcases Int.lt_or_le w (2 * fm_ab c + b) with k | k
    · exact k
    · exfalso
      have m := Int.mul_le_mul (show 2 * fm_ab a ≤ w + b by omega) (show 2 * fm_ab c ≤ w - b by omega) (by omega) (by omega)
      have e1 : 2 * fm_ab a * (2 * fm_ab c) = 4 * (fm_ab a * fm_ab c) := by grind
      have e2 : (w + b) * (w - b) = w * w - b * b := by grind
      omega
  · rcases Int.lt_or_le w (2 * fm_ab c - b) with k | k
    · exfalso
      have m := Int.mul_le_mul (show w + 1 - b ≤ 2 * fm_ab a by omega) (show w + 1 + b ≤ 2 * fm_ab c by omega) (by omega) (by omega)
      have e1 : 2 * fm_ab a * (2 * fm_ab c) = 4 * (fm_ab a * fm_ab c) := by grind
      have e2 : (w + 1 - b) * (w + 1 + b) = (w + 1) * (w + 1) - b * b := by grind
      omega
    · exact k
theorem fm_red_rho {D w : Int} {g : fm_F} (h : fm_ok D w) (hD : ¬ D < 0) (hd : fm_disc D g) (hr : fm_red D w g) : fm_red D w (fm_rho D w g) := by
  obtain ⟨a, b, c⟩ := g
  obtain ⟨ha0, hc0⟩ := fm_ne h hd
  have hC := fm_ab_pos hc0
  obtain ⟨c1, c2⟩ := fm_red_c h hD hd hr
  obtain ⟨k, hk, k1, k2⟩ := fm_rho_ex (w := w) hc0 hd
  rw [hk, fm_red_ge hD]
  rw [fm_red_ge hD] at hr
  have htop : fm_top w c = w := by rcases fm_top_cases w c with q | q <;> omega
  rw [htop] at k1 k2
  -- -b + 2 |c| is not above w, so the new middle is not below it
  have hge : 2 * fm_ab c - b ≤ -b + 2 * c * k := by
    rcases Int.lt_or_le (-b + 2 * c * k) (2 * fm_ab c - b) with q | q
    · exfalso
      have := fm_small (c := c) (k := k) (by omega) (by omega)
      omega
    · exact q
  refine ⟨?_, k2, by omega, by omega⟩
  rcases Int.lt_or_le b (2 * fm_ab c) with q | q <;> omega
theorem fm_red_inj {D w : Int} {g g' : fm_F} (h : fm_ok D w) (hD : ¬ D < 0) (hd : fm_disc D g) (hr : fm_red D w g) (hd' : fm_disc D g') (hr' : fm_red D w g') (he : fm_rho D w g = fm_rho D w g') : g = g' := by
  obtain ⟨a, b, c⟩ := g
  obtain ⟨a', b', c'⟩ := g'
  obtain ⟨ha0, hc0⟩ := fm_ne h hd
  have hC := fm_ab_pos hc0
  have hcc : c = c' := congrArg Prod.fst he
  subst hcc
  obtain ⟨c1, c2⟩ := fm_red_c h hD hd hr
  obtain ⟨c3, c4⟩ := fm_red_c h hD hd' hr'
  obtain ⟨k, hk, -, -⟩ := fm_rho_ex (w := w) hc0 hd
  obtain ⟨k', hk', -, -⟩ := fm_rho_ex (w := w) hc0 hd'
  rw [hk, hk'] at he
  have hbb : -b + 2 * c * k = -b' + 2 * c * k' := congrArg (fun x => x.2.1) he
  rw [fm_red_ge hD] at hr hr'
  have hb : b = b' := by
    have e : 2 * c * (k - k') = b - b' := by grind
    have := fm_small (c := c) (k := k - k') (by omega) (by omega)
    omega
  subst hb
  unfold fm_disc at hd hd'
  dsimp only at hd hd'
  have : c * a = c * a' := by grind
  rw [fm_cancel hc0 this]
theorem fm_red_it {D w : Int} (h : fm_ok D w) (hD : ¬ D < 0) (n : Nat) {g : fm_F} (hd : fm_disc D g) (hr : fm_red D w g) : fm_red D w (fm_it D w n g) := by
  induction n generalizing g with
  | zero => exact hr
  | succ n ih => exact ih (fm_rho_disc h hd) (fm_red_rho h hD hd hr)
theorem fm_red_it_inj {D w : Int} (h : fm_ok D w) (hD : ¬ D < 0) (n : Nat) {g g' : fm_F} (hd : fm_disc D g) (hr : fm_red D w g) (hd' : fm_disc D g') (hr' : fm_red D w g') (he : fm_it D w n g = fm_it D w n g') : g = g' := by
  induction n generalizing g g' with
  | zero => exact he
  | succ n ih => exact fm_red_inj h hD hd hr hd' hr' (ih (fm_rho_disc h hd) (fm_red_rho h hD hd hr) (fm_rho_disc h hd') (fm_red_rho h hD hd' hr') he)
/-- if all N + 1 first numbers are below N, two of them are equal -/
theorem fm_pigeon : ∀ (N : Nat) (f : Nat → Nat), (∀ i, i ≤ N → f i < N) → ∃ i j, i < j ∧ j ≤ N ∧ f i = f j := by
  intro N
  induction N with
  | zero =>
    intro f h
    exact absurd (h 0 (Nat.le_refl 0)) (by omega)
  | succ N ih =>
    intro f h
    by_cases hx : ∃ i, i ≤ N ∧ f i = f (N + 1)
    · obtain ⟨i, h1, h2⟩ := hx
      exact ⟨i, N + 1, by omega, Nat.le_refl _, h2⟩
    · have hne : ∀ i, i ≤ N → f i ≠ f (N + 1) := fun i hi e => hx ⟨i, hi, e⟩
      have hl := h (N + 1) (Nat.le_refl _)
      obtain ⟨i, j, h1, h2, h3⟩ := ih (fun i => if f (N + 1) < f i then f i - 1 else f i) (fun i hi => by
        have a1 := h i (by omega)
        have a2 := hne i hi
        split <;> omega)
      refine ⟨i, j, h1, by omega, ?_⟩
      have a1 := hne i (by omega)
      have a2 := hne j h2
      split at h3 <;> split at h3 <;> omega
/-- a number of a reduced form above 0 -/
def fm_cd (w : Int) (g : fm_F) : Int := 2 * (g.2.1 / 2 * (g.2.1 / 2 - 1) + (g.2.1 % 2) * (g.2.1 / 2) + (2 * fm_ab g.1 - (w - g.2.1) - 1) / 2) + (if g.1 < 0 then 1 else 0)
theorem fm_cd_lt {D w : Int} {g : fm_F} (hw : w ≤ 1023) (hD : ¬ D < 0) (hr : fm_red D w g) : 0 ≤ fm_cd w g ∧ fm_cd w g < 524288 := by
  obtain ⟨a, b, c⟩ := g
  rw [fm_red_ge hD] at hr
  unfold fm_cd
  dsimp only
  obtain ⟨i, hi⟩ : ∃ i, i = b / 2 := ⟨_, rfl⟩
  obtain ⟨j, hj⟩ : ∃ j, j = (2 * fm_ab a - (w - b) - 1) / 2 := ⟨_, rfl⟩
  rw [← hi, ← hj]
  have h1 : i * (i - 1) ≤ 511 * 510 := by
    rcases Int.lt_or_le 0 i with k | k
    · exact Int.mul_le_mul (by omega) (by omega) (by omega) (by omega)
    · have : i = 0 := by omega
      rw [this]; decide
  have h2 : 0 ≤ i * (i - 1) := by
    rcases Int.lt_or_le 0 i with k | k
    · exact Int.mul_nonneg (by omega) (by omega)
    · have : i = 0 := by omega
      rw [this]; decide
  rcases Int.emod_two_eq b with k | k <;> rw [k] <;> split <;> omega
theorem fm_cd_inj {D w : Int} {g g' : fm_F} (h : fm_ok D w) (hD : ¬ D < 0) (hd : fm_disc D g) (hd' : fm_disc D g') (hr : fm_red D w g) (hr' : fm_red D w g') (he : fm_cd w g = fm_cd w g') : g = g' := by
  obtain ⟨a, b, c⟩ := g
  obtain ⟨a', b', c'⟩ := g'
  obtain ⟨ha0, hc0⟩ := fm_ne h hd
  rw [fm_red_ge hD] at hr hr'
  unfold fm_cd at he
  dsimp only at he
  have hpar : b % 2 = b' % 2 := by
    unfold fm_disc at hd hd'
    dsimp only at hd hd'
    obtain ⟨q, hq⟩ : ∃ q, q = b / 2 := ⟨_, rfl⟩
    obtain ⟨q', hq'⟩ : ∃ q, q = b' / 2 := ⟨_, rfl⟩
    rcases Int.emod_two_eq b with k | k <;> rcases Int.emod_two_eq b' with k' | k'
    · omega
    · have e1 : b * b = 4 * (q * q) := by rw [show b = 2 * q by omega]; grind
      have e2 : b' * b' = 4 * (q' * q' + q') + 1 := by rw [show b' = 2 * q' + 1 by omega]; grind
      omega
    · have e1 : b * b = 4 * (q * q + q) + 1 := by rw [show b = 2 * q + 1 by omega]; grind
      have e2 : b' * b' = 4 * (q' * q') := by rw [show b' = 2 * q' by omega]; grind
      omega
    · omega
  obtain ⟨i, hi⟩ : ∃ i, i = b / 2 := ⟨_, rfl⟩
  obtain ⟨i', hi'⟩ : ∃ i, i = b' / 2 := ⟨_, rfl⟩
  obtain ⟨j, hj⟩ : ∃ j, j = (2 * fm_ab a - (w - b) - 1) / 2 := ⟨_, rfl⟩
  obtain ⟨j', hj'⟩ : ∃ j, j = (2 * fm_ab a' - (w - b') - 1) / 2 := ⟨_, rfl⟩
  obtain ⟨t, ht⟩ : ∃ t, t = b % 2 := ⟨_, rfl⟩
  rw [← hpar, ← hi, ← hi', ← hj, ← hj', ← ht] at he
  have hii : i = i' := by
    rcases Int.lt_trichotomy i i' with k | k | k
    · exfalso
      have m := Int.mul_le_mul (show i + 1 ≤ i' by omega) (show i ≤ i' - 1 by omega) (by omega) (by omega)
      have e1 : (i + 1) * i = i * (i - 1) + 2 * i := by grind
      have m2 := Int.mul_le_mul_of_nonneg_left (show i + 1 ≤ i' by omega) (show 0 ≤ t by omega)
      have e2 : t * (i + 1) = t * i + t := by grind
      split at he <;> split at he <;> omega
    · exact k
    · exfalso
      have m := Int.mul_le_mul (show i' + 1 ≤ i by omega) (show i' ≤ i - 1 by omega) (by omega) (by omega)
      have e1 : (i' + 1) * i' = i' * (i' - 1) + 2 * i' := by grind
      have m2 := Int.mul_le_mul_of_nonneg_left (show i' + 1 ≤ i by omega) (show 0 ≤ t by omega)
      have e2 : t * (i' + 1) = t * i' + t := by grind
      split at he <;> split at he <;> omega
  subst hii
  have hb : b = b' := by omega
  subst hb
  have hjt : fm_ab a = fm_ab a' ∧ (a < 0 ↔ a' < 0) := by
    split at he <;> split at he
    · exact ⟨by omega, by omega⟩
    · exfalso; omega
    · exfalso; omega
    · exact ⟨by omega, by omega⟩
  have ha : a = a' := by rcases fm_ab_cases a with k | k <;> rcases fm_ab_cases a' with k' | k' <;> omega
  subst ha
  unfold fm_disc at hd hd'
  dsimp only at hd hd'
  have : a * c = a * c' := by omega
  rw [fm_cancel ha0 this]
/-- the steps from a reduced form come back to it -/
theorem fm_period {D w : Int} {g : fm_F} (h : fm_ok D w) (hw : w ≤ 1023) (hD : ¬ D < 0) (hd : fm_disc D g) (hr : fm_red D w g) : ∃ m : Nat, 0 < m ∧ m ≤ 524288 ∧ fm_it D w m g = g := by
  obtain ⟨i, j, h1, h2, h3⟩ := fm_pigeon 524288 (fun i => (fm_cd w (fm_it D w i g)).toNat) (fun i _ => by
    have := fm_cd_lt hw hD (fm_red_it h hD i hd hr)
    omega)
  have e1 := fm_cd_lt hw hD (fm_red_it h hD i hd hr)
  have e2 := fm_cd_lt hw hD (fm_red_it h hD j hd hr)
  have e3 := fm_cd_inj h hD (fm_it_disc h i hd) (fm_it_disc h j hd) (fm_red_it h hD i hd hr) (fm_red_it h hD j hd hr) (by omega)
  refine ⟨j - i, by omega, by omega, ?_⟩
  have e4 : fm_it D w j g = fm_it D w i (fm_it D w (j - i) g) := by
    rw [← fm_it_add]
    congr 1
    omega
  rw [e4] at e3
  exact (fm_red_it_inj h hD i hd hr (fm_it_disc h _ hd) (fm_red_it h hD _ hd hr) e3).symm
theorem fm_it_mul {D w : Int} {m : Nat} {g : fm_F} (he : fm_it D w m g = g) (k : Nat) : fm_it D w (m * k) g = g := by
  induction k with
  | zero => rfl
  | succ k ih => rw [Nat.mul_succ, fm_it_add, ih, he]
/-- merging reduced forms above 0 lie on one cycle -/
theorem fm_cycle {D w : Int} {g h : fm_F} (ho : fm_ok D w) (hw : w ≤ 1023) (hD : ¬ D < 0) (hg : fm_disc D g) (rg : fm_red D w g) (hh : fm_disc D h) (rh : fm_red D w h) (hm : fm_mg D w g h) : ∃ i : Nat, fm_it D w i g = h := by
  obtain ⟨i, j, e⟩ := hm
  obtain ⟨m, m0, -, hmm⟩ := fm_period ho hw hD hh rh
  -- go on from both until the second one is at home
  have hj : j ≤ m * j := Nat.le_mul_of_pos_left j m0
  refine ⟨i + (m * j - j), ?_⟩
  rw [fm_it_add, e, ← fm_it_add, show j + (m * j - j) = m * j by omega, fm_it_mul hmm]
-- ===== below 0 =====
theorem fm_neg_ac {D a b c : Int} (hD : D < 0) (hd : fm_disc D (a, b, c)) : 0 < a * c := by
  unfold fm_disc at hd
  dsimp only at hd
  have := fm_sq_le (Int.le_refl 0) (show 0 ≤ fm_ab b by rcases fm_ab_cases b with k | k <;> omega)
  rw [fm_ab_sq] at this
  omega
theorem fm_neg_it {D w a b c : Int} (h : fm_ok D w) (hD : D < 0) (hd : fm_disc D (a, b, c)) (hr : fm_red D w (a, b, c)) (n : Nat) : fm_it D w n (a, b, c) = (a, b, c) ∨ fm_it D w n (a, b, c) = (c, -b, a) := by
  have hw := fm_ok_neg h hD
  obtain ⟨ha0, hc0⟩ := fm_ne h hd
  have hac := fm_neg_ac hD hd
  have hr' := hr
  rw [fm_red_lt hD] at hr'
  obtain ⟨r1, r2, r3⟩ := hr'
  have ha1 : 0 < a := by rcases fm_ab_cases b with k | k <;> omega
  have hA : fm_ab a = a := by rcases fm_ab_cases a with k | k <;> omega
  have hC : fm_ab c = c := by rcases fm_ab_cases c with k | k <;> omega
  have ta : fm_top w a = a := by rcases fm_top_cases w a with k | k <;> omega
  have tc : fm_top w c = c := by rcases fm_top_cases w c with k | k <;> omega
  have s1 : fm_rho D w (c, -b, a) = (a, b, c) := by
    have r1 : fm_rho D w (c, -b, a) = (a, - -b + 2 * a * 0, c - -b * 0 + a * (0 * 0)) := fm_rho_of (k := 0) ha0 (fm_S_disc hd) (by rcases fm_ab_cases b with k | k <;> omega) (by rcases fm_ab_cases b with k | k <;> omega)
    rw [r1]
    exact fm_ext rfl (by omega) (by omega)
  have s2 : fm_rho D w (a, b, c) = (a, b, c) ∨ fm_rho D w (a, b, c) = (c, -b, a) := by
    by_cases q : b = c
    · left
      have hab : a = b := by rcases fm_ab_cases b with k | k <;> omega
      have r1 : fm_rho D w (a, b, c) = (c, -b + 2 * c * 1, a - b * 1 + c * (1 * 1)) := fm_rho_of (k := 1) hc0 hd (by omega) (by omega)
      rw [r1]
      exact fm_ext (by omega) (by omega) (by omega)
    · right
      have r1 : fm_rho D w (a, b, c) = (c, -b + 2 * c * 0, a - b * 0 + c * (0 * 0)) := fm_rho_of (k := 0) hc0 hd (by rcases fm_ab_cases b with k | k <;> omega) (by rcases fm_ab_cases b with k | k <;> omega)
      rw [r1]
      exact fm_ext rfl (by omega) (by omega)
  induction n with
  | zero => exact Or.inl rfl
  | succ n ih =>
    rw [fm_it_succ]
    rcases ih with e | e
    · rw [e]; exact s2
    · rw [e]; exact Or.inl s1
/-- below 0 a class has one reduced form -/
theorem fm_neg_uniq {D w : Int} {g h : fm_F} (ho : fm_ok D w) (hD : D < 0) (hg : fm_disc D g) (rg : fm_red D w g) (hh : fm_disc D h) (rh : fm_red D w h) (hm : fm_mg D w g h) : g = h := by
  obtain ⟨a, b, c⟩ := g
  obtain ⟨a', b', c'⟩ := h
  obtain ⟨i, j, e⟩ := hm
  have x := fm_neg_it ho hD hg rg i
  have y := fm_neg_it ho hD hh rh j
  rw [fm_red_lt hD] at rg rh
  have fin : ∀ {x y z x' y' z' : Int}, ((x, y, z) : fm_F) = (x', y', z') → x = x' ∧ y = y' ∧ z = z' := by
    intro x y z x' y' z' e
    exact ⟨congrArg (fun q => q.1) e, congrArg (fun q => q.2.1) e, congrArg (fun q => q.2.2) e⟩
  rcases x with x | x <;> rcases y with y | y <;> rw [x, y] at e <;> obtain ⟨e1, e2, e3⟩ := fin e
  · exact fm_ext e1 e2 e3
  · exact fm_ext (by omega) (by omega) (by omega)
  · exact fm_ext (by omega) (by omega) (by omega)
  · exact fm_ext (by omega) (by omega) (by omega)
-- ===== names =====
def fm_le (z h : fm_F) : Prop := z.1 < h.1 ∨ (z.1 = h.1 ∧ z.2.1 ≤ h.2.1)
def fm_nm (D w : Int) (z g : fm_F) : Prop := fm_disc D z ∧ fm_red D w z ∧ fm_mg D w z g ∧ ∀ h, fm_disc D h → fm_red D w h → fm_mg D w h g → fm_le z h
theorem fm_nm.uniq {D w : Int} {z z' g : fm_F} (ho : fm_ok D w) (h : fm_nm D w z g) (h' : fm_nm D w z' g) : z = z' := by
  obtain ⟨d1, r1, m1, l1⟩ := h
  obtain ⟨d2, r2, m2, l2⟩ := h'
  have x := l1 z' d2 r2 m2
  have y := l2 z d1 r1 m1
  obtain ⟨a, b, c⟩ := z
  obtain ⟨a', b', c'⟩ := z'
  unfold fm_le at x y
  dsimp only at x y
  have e1 : a = a' := by omega
  have e2 : b = b' := by omega
  subst e1
  subst e2
  obtain ⟨ha0, -⟩ := fm_ne ho d1
  unfold fm_disc at d1 d2
  dsimp only at d1 d2
  have : a * c = a * c' := by omega
  rw [fm_cancel ha0 this]
theorem fm_nm.mg {D w : Int} {z g g' : fm_F} (h : fm_nm D w z g) (m : fm_mg D w g g') : fm_nm D w z g' := by
  obtain ⟨d1, r1, m1, l1⟩ := h
  exact ⟨d1, r1, m1.tr m, fun h hd hr hm => l1 h hd hr (hm.tr m.sy)⟩
theorem fm_nm.self {D w : Int} {z g : fm_F} (h : fm_nm D w z g) : fm_nm D w z z := h.mg h.2.2.1.sy
/-- below 0 the reduced form is the name -/
theorem fm_nm_neg {D w : Int} {z g : fm_F} (ho : fm_ok D w) (hD : D < 0) (hz : fm_disc D z) (hr : fm_red D w z) (hm : fm_mg D w z g) : fm_nm D w z g := by
  refine ⟨hz, hr, hm, fun h hd hr' hm' => ?_⟩
  rw [fm_neg_uniq ho hD hd hr' hz hr (hm'.tr hm.sy)]
  exact Or.inr ⟨rfl, Int.le_refl _⟩
/-- above 0 the least of the cycle is the name -/
theorem fm_nm_pos {D w : Int} {z r g : fm_F} (ho : fm_ok D w) (hw : w ≤ 1023) (hD : ¬ D < 0) (hr : fm_disc D r) (rr : fm_red D w r) (hm : fm_mg D w r g) {i : Nat} (hz : fm_it D w i r = z) (hl : ∀ j, fm_le z (fm_it D w j r)) : fm_nm D w z g := by
  subst hz
  refine ⟨fm_it_disc ho i hr, fm_red_it ho hD i hr rr, (fm_mg.tr ⟨0, i, rfl⟩ hm), fun h hd hr' hm' => ?_⟩
  obtain ⟨j, hj⟩ := fm_cycle ho hw hD hr rr hd hr' (hm.tr hm'.sy)
  rw [← hj]
  exact hl j
