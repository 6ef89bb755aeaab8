/-! Powers of classes, and that every class has an order. -/
def fm_v (D : Int) (f : fm_F) : Prop := fm_disc D f ∧ fm_pr f ∧ (D < 0 → 0 < f.1)
theorem fm_bez : ∀ (m : Nat) (p q : Int), q.natAbs ≤ m → (p ≠ 0 ∨ q ≠ 0) → ∃ x y g : Int, g ≠ 0 ∧ x * p + y * q = g ∧ g ∣ p ∧ g ∣ q := by
  intro m
  induction m with
  | zero =>
    intro p q hq h0
    have e : q = 0 := by omega
    subst e
    exact ⟨1, 0, p, by omega, by omega, Int.dvd_refl p, Int.dvd_zero p⟩
  | succ m ih =>
    intro p q hq h0
    by_cases e : q = 0
    · subst e
      exact ⟨1, 0, p, by omega, by omega, Int.dvd_refl p, Int.dvd_zero p⟩
    · have h1 := Int.emod_nonneg p e
      have h2 := Int.emod_lt p e
      have h3 := Int.mul_ediv_add_emod p q
      obtain ⟨x, y, g, g0, g1, g2, g3⟩ := ih q (p % q) (by omega) (Or.inl e)
      refine ⟨y, x - y * (p / q), g, g0, ?_, ?_, g2⟩
      · grind
      · rw [← h3]
        exact Int.dvd_add (Int.dvd_trans g2 (Int.dvd_mul_right q _)) g3
theorem fm_pr_of {f : fm_F} {e : Int} (hp : fm_pr f) (h1 : e ∣ f.1) (h2 : e ∣ f.2.1) (h3 : e ∣ f.2.2) : e ∣ 1 := by
  obtain ⟨i, j, k, h⟩ := hp
  rw [← h]
  exact Int.dvd_add (Int.dvd_add (Int.dvd_trans h1 (Int.dvd_mul_left _ _)) (Int.dvd_trans h2 (Int.dvd_mul_left _ _))) (Int.dvd_trans h3 (Int.dvd_mul_left _ _))
theorem fm_TT {D s n b b' B B' T : Int} (hb : b = 2 * B + s) (hb' : b' = 2 * B' + s) (hD : D = 4 * n + s) (hs : s * s = s) : 2 * T = b * b' + D ↔ T = 2 * (n + B * B') + s * (B + B' + s) := by
  subst hb
  subst hb'
  subst hD
  have h1 : (2 * B + s) * (2 * B' + s) = 4 * (B * B') + 2 * (s * B) + 2 * (s * B') + s * s := by
    clear hs
    grind
  have h2 : s * (B + B' + s) = s * B + s * B' + s * s := by
    clear hs h1
    grind
  omega
theorem fm_hw {s n b b' B B' a a' x y z e M w1 : Int} (hb : b = 2 * B + s) (hb' : b' = 2 * B' + s) (he : x * a + y * a' + z * (B + B' + s) = e) (hM : M = 2 * w1 + s) : x * a * b' + y * a' * b + z * (2 * (n + B * B') + s * (B + B' + s)) = e * M ↔ x * a * B' + y * a' * B + z * (n + B * B') = e * w1 := by
  subst hb
  subst hb'
  subst hM
  have h1 : x * a * (2 * B' + s) + y * a' * (2 * B + s) + z * (2 * (n + B * B') + s * (B + B' + s)) = 2 * (x * a * B' + y * a' * B + z * (n + B * B')) + s * (x * a + y * a' + z * (B + B' + s)) := by
    clear he
    grind
  rw [he] at h1
  have h2 : e * (2 * w1 + s) = 2 * (e * w1) + s * e := by
    clear h1 he
    grind
  omega
theorem fm_hn {s n B B' a c e a1 S S1 : Int} (hac : B * B + s * B - n = a * c) (h1 : a = e * a1) (h3 : S = e * S1) (hSS : B + B' + s = S) : n + B * B' = e * (B * S1 - a1 * c) := by
  have t1 : e * (B * S1 - a1 * c) = B * (e * S1) - (e * a1) * c := by
    clear hac h1 h3 hSS
    grind
  rw [t1, ← h3, ← h1, ← hSS, ← hac]
  clear t1 hac h1 h3 hSS
  grind
/-- THE PRODUCT BY ITS FORMULA: x a + y a' + z S = e goes into a, a' and S, the half sum of the middles; the new a is a a' / (e e), the new middle M with e M = x a b' + y a' b + z (b b' + D) / 2, or one that differs from it by a multiple of twice the new a -/
theorem fm_formula {D w s n a b c a' b' c' e x y z a1 a1' S1 S T M k C : Int} (ho : fm_ok D w) (hs : fm_sn D s n) (hf : fm_v D (a, b, c)) (hg : fm_v D (a', b', c')) (hS : 2 * S = b + b') (he0 : e ≠ 0) (ha : a = e * a1) (ha' : a' = e * a1') (hS1 : S = e * S1) (he : x * a + y * a' + z * S = e) (hT : 2 * T = b * b' + D) (hM : x * a * b' + y * a' * b + z * T = e * M) (hF : fm_disc D (a1 * a1', M + 2 * (a1 * a1') * k, C)) : fm_v D (a1 * a1', M + 2 * (a1 * a1') * k, C) ∧ fm_cp s n (a, b, c) (a', b', c') (a1 * a1', M + 2 * (a1 * a1') * k, C) := by
  obtain ⟨df, pf, vf⟩ := hf
  obtain ⟨dg, pg, vg⟩ := hg
  obtain ⟨hb, hac⟩ := fm_half hs df
  obtain ⟨hb', hac'⟩ := fm_half hs dg
  have hBF := fm_half hs hF
  have hLf : fm_L s (a, b, c) = la_f a (fm_B s (a, b, c)) := rfl
  have hLg : fm_L s (a', b', c') = la_f a' (fm_B s (a', b', c')) := rfl
  have hLF : fm_L s (a1 * a1', M + 2 * (a1 * a1') * k, C) = la_f (a1 * a1') (fm_B s (a1 * a1', M + 2 * (a1 * a1') * k, C)) := rfl
  generalize fm_B s (a, b, c) = B at hb hac hLf
  generalize fm_B s (a', b', c') = B' at hb' hac' hLg
  generalize fm_B s (a1 * a1', M + 2 * (a1 * a1') * k, C) = BF at hBF hLF
  obtain ⟨hbF, hacF⟩ := hBF
  have hSS : B + B' + s = S := by omega
  have hs2 : s * s = s := by rcases hs.1 with h | h <;> rw [h] <;> decide
  have hTT : T = 2 * (n + B * B') + s * (B + B' + s) := (fm_TT hb hb' hs.2 hs2).mp hT
  -- M is 2 w1 + s with e w1 the middle in halves
  obtain ⟨w1, hw1⟩ : ∃ w1, w1 = BF - a1 * a1' * k := ⟨_, rfl⟩
  have hMw : M = 2 * w1 + s := by
    have t : 2 * (a1 * a1') * k = 2 * (a1 * a1' * k) := Int.mul_assoc _ _ _
    omega
  have hw : x * a * B' + y * a' * B + z * (n + B * B') = e * w1 := (fm_hw hb hb' (by rw [hSS]; exact he) hMw).mp (by rw [← hTT]; exact hM)
  obtain ⟨i, j, l, hp⟩ := pf
  dsimp only at hp
  have hlat := la_prod (s := s) (n := n) (S1 := S1) hac hac' ha ha' (by rw [hSS]; exact hS1) he0 (by rw [hSS]; exact he) hw (by rw [← hb]; exact hp)
  have hLF' : fm_L s (a1 * a1', M + 2 * (a1 * a1') * k, C) = la_f (a1 * a1') w1 := by
    rw [hLF, show BF = w1 + a1 * a1' * k by omega]
    exact la_f_T _ _ _
  rw [← hLF', ← hLf, ← hLg] at hlat
  have hA : a1 * a1' * (e * e) = a * a' := by rw [ha, ha']; grind
  refine ⟨⟨hF, fm_pr_cp ho hs df dg hF ⟨i, j, l, hp⟩ pg he0 hlat hA, fun hD => ?_⟩, (1, 0), (e, 0), ?_, ?_, ?_, ?_⟩
  · have h1 := vf hD
    have h2 := vg hD
    dsimp only at h1 h2 ⊢
    have h3 := Int.mul_pos h1 h2
    have h4 : 0 ≤ e * e := by rw [← fm_ab_sq]; exact fm_sq_le (Int.le_refl 0) (show 0 ≤ fm_ab e by rcases fm_ab_cases e with k | k <;> omega)
    rcases Int.lt_or_le 0 (a1 * a1') with q | q
    · exact q
    · have := Int.mul_le_mul_of_nonneg_right q h4
      rw [Int.zero_mul] at this
      omega
  · rw [la_s_1, hlat]
  · rw [el_N_i, el_N_i]
    dsimp only
    have : e * e * (a1 * a1') = a * a' := by rw [Int.mul_comm, hA]
    rw [this]
    omega
  · rw [el_N_i]; decide
  · rw [el_N_i]; exact Int.mul_ne_zero he0 he0
/-- the formula always works -/
theorem fm_formula_ex {D w s n a b c a' b' c' : Int} (ho : fm_ok D w) (hs : fm_sn D s n) (hf : fm_v D (a, b, c)) (hg : fm_v D (a', b', c')) {e x y z S : Int} (hS : 2 * S = b + b') (he0 : e ≠ 0) (ha : e ∣ a) (ha' : e ∣ a') (hS1 : e ∣ S) (he : x * a + y * a' + z * S = e) : ∃ a1 a1' T M Cx : Int, a = e * a1 ∧ a' = e * a1' ∧ 2 * T = b * b' + D ∧ x * a * b' + y * a' * b + z * T = e * M ∧ ∀ k, ∃ C, fm_disc D (a1 * a1', M + 2 * (a1 * a1') * k, C) := by
  obtain ⟨a1, h1⟩ := ha
  obtain ⟨a1', h2⟩ := ha'
  obtain ⟨S1, h3⟩ := hS1
  obtain ⟨hb, hac⟩ := fm_half hs hf.1
  obtain ⟨hb', hac'⟩ := fm_half hs hg.1
  generalize fm_B s (a, b, c) = B at hb hac
  generalize fm_B s (a', b', c') = B' at hb' hac'
  have hSS : B + B' + s = S := by omega
  have hs2 : s * s = s := by rcases hs.1 with h | h <;> rw [h] <;> decide
  have hD := hs.2
  -- e goes into n + B B'
  have hn : n + B * B' = e * (B * S1 - a1 * c) := fm_hn hac h1 h3 hSS
  obtain ⟨w1, hw1⟩ : ∃ w1, w1 = x * a1 * B' + y * a1' * B + z * (B * S1 - a1 * c) := ⟨_, rfl⟩
  have hw : x * a * B' + y * a' * B + z * (n + B * B') = e * w1 := by
    rw [hn, hw1, h1, h2]
    clear hn hw1 h1 h2 hac hac' hS he hSS hb hb' h3 he0 hs2 hD hf hg
    grind
  have hc := fm_prod_c hac hac' h1 h2 he0 (by rw [hSS]; exact he) hw
  refine ⟨a1, a1', 2 * (n + B * B') + s * S, 2 * w1 + s, 0, h1, h2, by rw [← hSS]; exact (fm_TT hb hb' hD hs2).mpr rfl, by rw [← hSS]; exact (fm_hw hb hb' (by rw [hSS]; exact he) rfl).mpr hw, fun k => ?_⟩
  obtain ⟨C0, hC0⟩ : ∃ C0, w1 * w1 + s * w1 - n = a1 * a1' * C0 := ⟨_, hc⟩
  refine ⟨a1 * a1' * (k * k) + (2 * w1 + s) * k + C0, fm_T_disc k ?_⟩
  unfold fm_disc
  dsimp only
  grind
theorem fm_prod_ex {D w s n : Int} {f g : fm_F} (ho : fm_ok D w) (hs : fm_sn D s n) (hf : fm_v D f) (hg : fm_v D g) : ∃ F, fm_v D F ∧ fm_cp s n f g F := by
  obtain ⟨a, b, c⟩ := f
  obtain ⟨a', b', c'⟩ := g
  obtain ⟨ha0, -⟩ := fm_ne ho hf.1
  obtain ⟨hb, -⟩ := fm_half hs hf.1
  obtain ⟨hb', -⟩ := fm_half hs hg.1
  obtain ⟨S, hS⟩ : ∃ S, 2 * S = b + b' := ⟨fm_B s (a, b, c) + fm_B s (a', b', c') + s, by omega⟩
  obtain ⟨x, y, g1, g0, e1, d1, d2⟩ := fm_bez _ a a' (Nat.le_refl _) (Or.inl ha0)
  obtain ⟨x', z, e, he0, e2, d3, d4⟩ := fm_bez _ g1 S (Nat.le_refl _) (Or.inl g0)
  have he : (x' * x) * a + (x' * y) * a' + z * S = e := by grind
  obtain ⟨a1, a1', T, M, -, h1, h2, h3, h4, h5⟩ := fm_formula_ex ho hs hf hg hS he0 (Int.dvd_trans d3 d1) (Int.dvd_trans d3 d2) d4 he
  obtain ⟨S1, h6⟩ := d4
  obtain ⟨C, hC⟩ := h5 0
  exact ⟨_, fm_formula ho hs hf hg hS he0 h1 h2 h6 he h3 h4 hC⟩
theorem fm_one_v {D s n : Int} (hs : fm_sn D s n) : fm_v D (fm_one s n) := ⟨fm_one_disc hs, ⟨1, 0, 0, by unfold fm_one; dsimp only; omega⟩, fun _ => by unfold fm_one; dsimp only; decide⟩
theorem fm_inv_v {D : Int} {f : fm_F} (h : fm_v D f) : fm_v D (fm_inv f) := ⟨fm_inv_disc h.1, fm_inv_pr h.2.1, h.2.2⟩
/-- F is of the k-th power of the class of f -/
def fm_pw (D s n : Int) (f : fm_F) : Nat → fm_F → Prop
  | 0, F => fm_eq s n (fm_one s n) F
  | k + 1, F => ∃ G, fm_v D G ∧ fm_pw D s n f k G ∧ fm_cp s n G f F
theorem fm_pw.r {D s n : Int} {f : fm_F} {k : Nat} {F G : fm_F} (h : fm_pw D s n f k F) (e : fm_eq s n F G) : fm_pw D s n f k G := by
  cases k with
  | zero => exact h.tr e
  | succ k =>
    obtain ⟨X, v, p, c⟩ := h
    exact ⟨X, v, p, c.r e⟩
theorem fm_pw.fn {D s n : Int} {f : fm_F} {k : Nat} {F G : fm_F} (h : fm_pw D s n f k F) (h' : fm_pw D s n f k G) : fm_eq s n F G := by
  induction k generalizing F G with
  | zero => exact (fm_eq.sy h).tr h'
  | succ k ih =>
    obtain ⟨X, v, p, c⟩ := h
    obtain ⟨Y, v', p', c'⟩ := h'
    exact (c.l (ih p p')).fn c'
theorem fm_pw.ex {D w s n : Int} {f : fm_F} (ho : fm_ok D w) (hs : fm_sn D s n) (hf : fm_v D f) (k : Nat) : ∃ F, fm_v D F ∧ fm_pw D s n f k F := by
  induction k with
  | zero => exact ⟨fm_one s n, fm_one_v hs, fm_eq.rf _⟩
  | succ k ih =>
    obtain ⟨G, v, p⟩ := ih
    obtain ⟨F, v', c⟩ := fm_prod_ex ho hs v hf
    exact ⟨F, v', G, v, p, c⟩
theorem fm_pw.one {D s n : Int} {f : fm_F} (hs : fm_sn D s n) (hf : fm_v D f) : fm_pw D s n f 1 f := ⟨fm_one s n, fm_one_v hs, fm_eq.rf _, fm_cp_one hs hf.1⟩
theorem fm_pw.add {D w s n : Int} {f : fm_F} (ho : fm_ok D w) (hs : fm_sn D s n) (i j : Nat) {F G H : fm_F} (hF : fm_v D F) (h1 : fm_pw D s n f i F) (h2 : fm_pw D s n f j G) (h3 : fm_cp s n F G H) : fm_pw D s n f (i + j) H := by
  induction j generalizing G H with
  | zero => exact h1.r ((fm_cp_one hs hF.1).cm.fn (h3.m (fm_eq.sy h2)))
  | succ j ih =>
    obtain ⟨G', v, p, c⟩ := h2
    obtain ⟨K, vK, cK⟩ := fm_prod_ex ho hs hF v
    exact ⟨K, vK, ih p cK, (fm_cp.as c.cm h3.cm cK.cm).cm⟩
theorem fm_pw.inv {D w s n : Int} {f : fm_F} (ho : fm_ok D w) (hs : fm_sn D s n) (hf : fm_v D f) (k : Nat) {F G : fm_F} (vF : fm_v D F) (vG : fm_v D G) (h1 : fm_pw D s n f k F) (h2 : fm_pw D s n (fm_inv f) k G) : fm_cp s n G F (fm_one s n) := by
  induction k generalizing F G with
  | zero => exact ((fm_cp_one hs (fm_one_v hs).1).l h2).m h1
  | succ k ih =>
    obtain ⟨X, vX, pX, cX⟩ := h1
    obtain ⟨Y, vY, pY, cY⟩ := h2
    obtain ⟨Z, vZ, cZ⟩ := fm_prod_ex ho hs vG vF
    have b := (fm_cp_back ho hs vX.1 hf.1 hf.2.1 cX).cm
    have q := fm_cp.as cY cZ b
    exact cZ.r (q.fn (ih vX vY pX pY))
/-- powers with equal classes -/
theorem fm_pw.sub {D w s n : Int} {f : fm_F} (ho : fm_ok D w) (hs : fm_sn D s n) (hf : fm_v D f) {i j : Nat} (hij : i ≤ j) {F : fm_F} (vF : fm_v D F) (h1 : fm_pw D s n f i F) (h2 : fm_pw D s n f j F) : fm_pw D s n f (j - i) (fm_one s n) := by
  obtain ⟨G, vG, pG⟩ := fm_pw.ex ho hs hf (j - i)
  obtain ⟨H, vH, cH⟩ := fm_prod_ex ho hs vG vF
  have h3 := fm_pw.add ho hs (j - i) i vG pG h1 cH
  rw [Nat.sub_add_cancel hij] at h3
  have h4 := cH.r (h3.fn h2)
  have h5 := fm_cp_one (s := s) (n := n) hs vF.1
  exact pG.r (fm_cp_cancel ho hs vG.1 (fm_one_v hs).1 vF.1 vF.2.1 h4 h5)
theorem fm_pw.mul {D w s n : Int} {f : fm_F} (ho : fm_ok D w) (hs : fm_sn D s n) (hf : fm_v D f) {m : Nat} (h : fm_pw D s n f m (fm_one s n)) (q : Nat) : fm_pw D s n f (m * q) (fm_one s n) := by
  induction q with
  | zero => exact fm_eq.rf _
  | succ q ih => exact fm_pw.add ho hs (m * q) m (fm_one_v hs) ih h (fm_cp_one hs (fm_one_v hs).1)
/-- powers whose exponents differ by a multiple of m, if the m-th one is ONE -/
theorem fm_pw.mod {D w s n : Int} {f : fm_F} (ho : fm_ok D w) (hs : fm_sn D s n) (hf : fm_v D f) {m : Nat} (h : fm_pw D s n f m (fm_one s n)) {i : Nat} (q : Nat) {F : fm_F} (vF : fm_v D F) (h1 : fm_pw D s n f i F) : fm_pw D s n f (i + m * q) F :=
  fm_pw.add ho hs i (m * q) vF h1 (fm_pw.mul ho hs hf h q) (fm_cp_one hs vF.1).cm
-- every class has an order
def fm_cn (g : fm_F) : Int := g.1 * 1200 + g.2.1 + 600
theorem fm_neg_a {D w a b c : Int} (hD : D < 0) (hDl : -1048576 ≤ D) (hd : fm_disc D (a, b, c)) (hr : fm_red D w (a, b, c)) : 0 ≤ a ∧ a ≤ 591 ∧ fm_ab b ≤ a := by
  rw [fm_red_lt hD] at hr
  obtain ⟨r1, r2, r3⟩ := hr
  have hb0 : 0 ≤ fm_ab b := by rcases fm_ab_cases b with k | k <;> omega
  have m1 := fm_sq_le hb0 r1
  rw [fm_ab_sq] at m1
  have m2 := Int.mul_le_mul_of_nonneg_left r2 (show 0 ≤ a by omega)
  unfold fm_disc at hd
  dsimp only at hd
  refine ⟨by omega, ?_, r1⟩
  rcases Int.lt_or_le 591 a with k | k
  · exfalso
    have := fm_sq_le (show (0 : Int) ≤ 592 by decide) (show 592 ≤ a by omega)
    omega
  · exact k
theorem fm_code {D w : Int} (h : fm_ok D w) (hw : w ≤ 1023) (hDl : -1048576 ≤ D) : ∃ cd : fm_F → Nat, (∀ g, fm_disc D g → fm_red D w g → cd g < 720000) ∧ ∀ g g', fm_disc D g → fm_red D w g → fm_disc D g' → fm_red D w g' → cd g = cd g' → g = g' := by
  by_cases hD : D < 0
  · refine ⟨fun g => (fm_cn g).toNat, ?_, ?_⟩
    · rintro ⟨a, b, c⟩ hd hr
      obtain ⟨h1, h2, h3⟩ := fm_neg_a hD hDl hd hr
      show (a * 1200 + b + 600).toNat < 720000
      rcases fm_ab_cases b with k | k <;> omega
    · rintro ⟨a, b, c⟩ ⟨a', b', c'⟩ hd hr hd' hr' he
      obtain ⟨h1, h2, h3⟩ := fm_neg_a hD hDl hd hr
      obtain ⟨h4, h5, h6⟩ := fm_neg_a hD hDl hd' hr'
      have he' : (a * 1200 + b + 600).toNat = (a' * 1200 + b' + 600).toNat := he
      have e1 : a = a' := by rcases fm_ab_cases b with k | k <;> rcases fm_ab_cases b' with k' | k' <;> omega
      have e2 : b = b' := by rcases fm_ab_cases b with k | k <;> rcases fm_ab_cases b' with k' | k' <;> omega
      subst e1
      subst e2
      obtain ⟨ha0, -⟩ := fm_ne h hd
      unfold fm_disc at hd hd'
      dsimp only at hd hd'
      have : a * c = a * c' := by omega
      rw [fm_cancel ha0 this]
  · refine ⟨fun g => (fm_cd w g).toNat, ?_, ?_⟩
    · intro g hd hr
      have := fm_cd_lt hw hD hr
      show (fm_cd w g).toNat < 720000
      omega
    · intro g g' hd hr hd' hr' he
      have h1 := fm_cd_lt hw hD hr
      have h2 := fm_cd_lt hw hD hr'
      have he' : (fm_cd w g).toNat = (fm_cd w g').toNat := he
      exact fm_cd_inj h hD hd hd' hr hr' (by omega)
theorem fm_ord_ex {D w s n : Int} {f : fm_F} (ho : fm_ok D w) (hw : w ≤ 1023) (hDl : -1048576 ≤ D) (hs : fm_sn D s n) (hf : fm_v D f) : ∃ m : Nat, 0 < m ∧ m ≤ 720000 ∧ fm_pw D s n f m (fm_one s n) := by
  obtain ⟨cd, c1, c2⟩ := fm_code ho hw hDl
  have hall : ∀ i : Nat, ∃ R : fm_F, ∃ F : fm_F, fm_v D F ∧ fm_pw D s n f i F ∧ fm_disc D R ∧ fm_red D w R ∧ fm_mg D w F R := by
    intro i
    obtain ⟨F, vF, pF⟩ := fm_pw.ex ho hs hf i
    obtain ⟨a, b, c⟩ := F
    obtain ⟨j, hj⟩ := fm_ahead ho vF.1 vF.2.2
    exact ⟨_, _, vF, pF, fm_it_disc ho j vF.1, hj, ⟨j, 0, rfl⟩⟩
  obtain ⟨R, hR⟩ := Classical.axiomOfChoice hall
  obtain ⟨i, j, h1, h2, h3⟩ := fm_pigeon 720000 (fun i => cd (R i)) (fun i _ => by
    obtain ⟨F, -, -, d, r, -⟩ := hR i
    exact c1 _ d r)
  obtain ⟨F, vF, pF, dF, rF, mF⟩ := hR i
  obtain ⟨G, vG, pG, dG, rG, mG⟩ := hR j
  have e := c2 _ _ dF rF dG rG h3
  rw [← e] at mG
  have e2 := fm_eq_mg ho hs vG.1 vF.1 (mG.tr mF.sy)
  exact ⟨j - i, by omega, by omega, fm_pw.sub ho hs hf (by omega) vF pF (pG.r e2)⟩
