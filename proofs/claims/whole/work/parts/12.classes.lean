/-! Classes of forms as sets of numbers up to a factor: equal classes merge and merging forms are of equal classes; products. -/
def fm_B (s : Int) (g : fm_F) : Int := (g.2.1 - s) / 2
def fm_L (s : Int) (g : fm_F) : el_E → Prop := la_f g.1 (fm_B s g)
/-- s is 0 or 1 and D is 4 n + s -/
def fm_sn (D s n : Int) : Prop := (s = 0 ∨ s = 1) ∧ D = 4 * n + s
theorem fm_half {D s n a b c : Int} (h : fm_sn D s n) (hd : fm_disc D (a, b, c)) : b = 2 * fm_B s (a, b, c) + s ∧ fm_B s (a, b, c) * fm_B s (a, b, c) + s * fm_B s (a, b, c) - n = a * c := by
  obtain ⟨h1, h2⟩ := h
  unfold fm_disc at hd
  dsimp only at hd
  unfold fm_B
  dsimp only
  obtain ⟨q, hq⟩ : ∃ q, q = b / 2 := ⟨_, rfl⟩
  have hb : b = 2 * ((b - s) / 2) + s := by
    rcases Int.emod_two_eq b with k | k
    · have e : b = 2 * q := by omega
      have e2 : b * b = 4 * (q * q) := by rw [e]; grind
      omega
    · have e : b = 2 * q + 1 := by omega
      have e2 : b * b = 4 * (q * q + q) + 1 := by rw [e]; grind
      omega
  refine ⟨hb, ?_⟩
  generalize (b - s) / 2 = B at hb ⊢
  subst hb
  rcases h1 with rfl | rfl <;> grind
theorem fm_B_of {s b B : Int} (a c : Int) (h : b = 2 * B + s) : fm_B s (a, b, c) = B := by
  unfold fm_B
  dsimp only
  omega
def fm_eq (s n : Int) (f g : fm_F) : Prop := ∃ x y : el_E, la_s s n x (fm_L s f) = la_s s n y (fm_L s g) ∧ el_N s n x * f.1 = el_N s n y * g.1 ∧ el_N s n x ≠ 0 ∧ el_N s n y ≠ 0
theorem fm_eq.rf {s n : Int} (f : fm_F) : fm_eq s n f f := ⟨(1, 0), (1, 0), rfl, rfl, by rw [el_N_i]; decide, by rw [el_N_i]; decide⟩
theorem fm_eq.sy {s n : Int} {f g : fm_F} (h : fm_eq s n f g) : fm_eq s n g f := by
  obtain ⟨x, y, h1, h2, h3, h4⟩ := h
  exact ⟨y, x, h1.symm, h2.symm, h4, h3⟩
theorem fm_eq.tr {s n : Int} {f g h : fm_F} (p : fm_eq s n f g) (q : fm_eq s n g h) : fm_eq s n f h := by
  obtain ⟨x, y, h1, h2, h3, h4⟩ := p
  obtain ⟨z, u, g1, g2, g3, g4⟩ := q
  refine ⟨el_m s n z x, el_m s n y u, ?_, ?_, ?_, ?_⟩
  · rw [← la_s_s, h1, la_s_x, g1, la_s_s]
  · rw [el_N_m, el_N_m, Int.mul_assoc, h2]
    rw [Int.mul_assoc, ← g2]
    grind
  · rw [el_N_m]; exact Int.mul_ne_zero g3 h3
  · rw [el_N_m]; exact Int.mul_ne_zero h4 g4
theorem fm_eq_S {D s n a b c : Int} (h : fm_sn D s n) (ha : a ≠ 0) (hc : c ≠ 0) (hd : fm_disc D (a, b, c)) : fm_eq s n (a, b, c) (c, -b, a) := by
  obtain ⟨hb, hac⟩ := fm_half h hd
  have hB : fm_B s (c, -b, a) = -fm_B s (a, b, c) - s := fm_B_of c a (by omega)
  unfold fm_eq fm_L
  rw [hB]
  generalize fm_B s (a, b, c) = B at hb hac ⊢
  have hN : el_N s n (B + s, -1) = a * c := by
    unfold el_N
    dsimp only
    grind
  refine ⟨(B + s, -1), (a, 0), la_eq ?_ ?_, ?_, ?_, ?_⟩
  · rintro x ⟨l, ⟨k, hk⟩, rfl⟩
    dsimp only at hk
    refine ⟨(k * (B + s) + l.2 * c, -k), ⟨l.2, by dsimp only; grind⟩, ?_⟩
    unfold el_m
    dsimp only
    rw [hk]
    exact el_ext (by grind) (by grind)
  · rintro x ⟨l, ⟨k, hk⟩, rfl⟩
    dsimp only at hk
    refine ⟨(a * (-l.2) + B * k, k), ⟨-l.2, rfl⟩, ?_⟩
    unfold el_m
    dsimp only
    rw [hk]
    exact el_ext (by grind) (by grind)
  · rw [hN, el_N_i]
    dsimp only
    grind
  · rw [hN]; exact Int.mul_ne_zero ha hc
  · rw [el_N_i]; exact Int.mul_ne_zero ha ha
theorem fm_eq_L {s n : Int} {f g : fm_F} (h1 : f.1 = g.1) (h2 : fm_L s f = fm_L s g) : fm_eq s n f g := ⟨(1, 0), (1, 0), by rw [h2], by rw [h1], by rw [el_N_i]; decide, by rw [el_N_i]; decide⟩
theorem fm_eq_T {D s n a b c : Int} (k : Int) (h : fm_sn D s n) (hd : fm_disc D (a, b, c)) (c' : Int) : fm_eq s n (a, b, c) (a, b + 2 * a * k, c') := by
  obtain ⟨hb, -⟩ := fm_half h hd
  have hB : fm_B s (a, b + 2 * a * k, c') = fm_B s (a, b, c) + a * k := fm_B_of a c' (by grind)
  refine fm_eq_L rfl ?_
  unfold fm_L
  rw [hB]
  exact (la_f_T _ _ _).symm
theorem fm_eq_rho {D w s n : Int} {g : fm_F} (ho : fm_ok D w) (h : fm_sn D s n) (hd : fm_disc D g) : fm_eq s n g (fm_rho D w g) := by
  obtain ⟨a, b, c⟩ := g
  obtain ⟨ha, hc⟩ := fm_ne ho hd
  obtain ⟨k, hk, -, -⟩ := fm_rho_ex (w := w) hc hd
  rw [hk]
  exact (fm_eq_S h ha hc hd).tr (fm_eq_T k h (fm_S_disc hd) _)
theorem fm_eq_it {D w s n : Int} (ho : fm_ok D w) (h : fm_sn D s n) (i : Nat) {g : fm_F} (hd : fm_disc D g) : fm_eq s n g (fm_it D w i g) := by
  induction i generalizing g with
  | zero => exact fm_eq.rf g
  | succ i ih => exact (fm_eq_rho ho h hd).tr (ih (fm_rho_disc ho hd))
/-- merging forms are of one class -/
theorem fm_eq_mg {D w s n : Int} {f g : fm_F} (ho : fm_ok D w) (h : fm_sn D s n) (hf : fm_disc D f) (hg : fm_disc D g) (hm : fm_mg D w f g) : fm_eq s n f g := by
  obtain ⟨i, j, e⟩ := hm
  have h1 := fm_eq_it ho h i hf
  rw [e] at h1
  exact h1.tr (fm_eq_it ho h j hg).sy
theorem el_det (s n : Int) (a x y : el_E) : (el_m s n a x).1 * (el_m s n a y).2 - (el_m s n a x).2 * (el_m s n a y).1 = el_N s n a * (x.1 * y.2 - x.2 * y.1) := by
  unfold el_m el_N
  dsimp only
  grind
theorem fm_cancel {x y z : Int} (hx : x ≠ 0) (h : x * y = x * z) : y = z := Int.eq_of_mul_eq_mul_left hx h
/-- forms of one class merge -/
theorem fm_mg_eq {D w s n : Int} {f g : fm_F} (ho : fm_ok D w) (h : fm_sn D s n) (hf : fm_disc D f) (hg : fm_disc D g) (he : fm_eq s n f g) : fm_mg D w f g := by
  obtain ⟨a, b, c⟩ := f
  obtain ⟨a', b', c'⟩ := g
  obtain ⟨ha, hc⟩ := fm_ne ho hf
  obtain ⟨hb, hac⟩ := fm_half h hf
  obtain ⟨hb', hac'⟩ := fm_half h hg
  obtain ⟨x, y, h1, h2, h3, h4⟩ := he
  unfold fm_L at h1
  dsimp only at h1 h2
  generalize fm_B s (a, b, c) = B at hb hac h1
  generalize fm_B s (a', b', c') = B' at hb' hac' h1
  have m1 : la_s s n x (la_f a B) (el_m s n y (a', 0)) := by rw [h1]; exact ⟨_, la_f_a a' B', rfl⟩
  have m2 : la_s s n x (la_f a B) (el_m s n y (B', 1)) := by rw [h1]; exact ⟨_, la_f_t a' B', rfl⟩
  obtain ⟨⟨l1, r⟩, ⟨p, hp⟩, e1⟩ := m1
  obtain ⟨⟨l2, t⟩, ⟨q, hq⟩, e2⟩ := m2
  dsimp only at hp hq
  subst hp
  subst hq
  have d1 := el_det s n y (a', 0) (B', 1)
  rw [e1, e2, el_det] at d1
  dsimp only at d1
  have n1 := congrArg (el_N s n) e1
  rw [el_N_m, el_N_m] at n1
  have n2 := congrArg (el_N s n) e2
  rw [el_N_m, el_N_m] at n2
  have e3 : el_m s n y (el_s (a', 0) (B', 1)) = el_m s n x (el_s (a * p + B * r, r) (a * q + B * t, t)) := by
    rw [el_m_s, el_m_s, e1, e2]
  have n3 := congrArg (el_N s n) e3
  rw [el_N_m, el_N_m] at n3
  generalize el_N s n x = X at h2 h3 d1 n1 n2 n3
  generalize el_N s n y = Y at h2 h4 d1 n1 n2 n3
  have hXa : X * a ≠ 0 := Int.mul_ne_zero h3 ha
  have hdet : p * t - q * r = 1 := by
    refine fm_cancel hXa ?_
    grind
  have E1 : el_N s n (a', 0) = a' * a' := el_N_i s n a'
  have E2 : el_N s n (B', 1) = a' * c' := by
    unfold el_N
    dsimp only
    grind
  have E3 : el_N s n (el_s (a', 0) (B', 1)) = a' * (a' - b' + c') := by
    unfold el_N el_s
    dsimp only
    grind
  have F1 : ∀ u v : Int, el_N s n (a * u + B * v, v) = a * (a * (u * u) + b * (u * v) + c * (v * v)) := by
    intro u v
    unfold el_N
    dsimp only
    grind
  have F3 : el_s (a * p + B * r, r) (a * q + B * t, t) = (a * (p - q) + B * (r - t), r - t) := by
    unfold el_s
    exact el_ext (by grind) (by grind)
  rw [E1, F1] at n1
  rw [E2, F1] at n2
  rw [E3, F3, F1] at n3
  have c1 : a' = a * (p * p) + b * (p * r) + c * (r * r) := fm_cancel hXa (by grind)
  have c2 : c' = a * (q * q) + b * (q * t) + c * (t * t) := fm_cancel hXa (by
    have z1 : X * a * c' = Y * (a' * c') := by rw [h2, Int.mul_assoc]
    rw [z1, n2, Int.mul_assoc])
  have c3 : a' - b' + c' = a * ((p - q) * (p - q)) + b * ((p - q) * (r - t)) + c * ((r - t) * (r - t)) := fm_cancel hXa (by
    have z1 : X * a * (a' - b' + c') = Y * (a' * (a' - b' + c')) := by rw [h2, Int.mul_assoc]
    rw [z1, n3, Int.mul_assoc])
  have hfin : ((a', b', c') : fm_F) = fm_at (a, b, c) p q r t := by
    unfold fm_at
    dsimp only
    exact fm_ext c1 (by grind) c2
  rw [hfin]
  refine fm_mg_at ho ((fm_ab r).toNat + 1) a b c p q r t ?_ hdet hf
  rcases fm_ab_cases r with k | k <;> omega
/-- F is of the product of the classes of f and g -/
def fm_cp (s n : Int) (f g F : fm_F) : Prop := ∃ x y : el_E, la_s s n x (la_m s n (fm_L s f) (fm_L s g)) = la_s s n y (fm_L s F) ∧ el_N s n x * (f.1 * g.1) = el_N s n y * F.1 ∧ el_N s n x ≠ 0 ∧ el_N s n y ≠ 0
theorem fm_cp.fn {s n : Int} {f g F G : fm_F} (h : fm_cp s n f g F) (k : fm_cp s n f g G) : fm_eq s n F G := by
  obtain ⟨x, y, h1, h2, h3, h4⟩ := h
  obtain ⟨z, u, g1, g2, g3, g4⟩ := k
  refine ⟨el_m s n z y, el_m s n x u, ?_, ?_, ?_, ?_⟩
  · rw [← la_s_s, ← h1, la_s_x, g1, la_s_s]
  · rw [el_N_m, el_N_m, Int.mul_assoc, ← h2, Int.mul_assoc, ← g2]
    grind
  · rw [el_N_m]; exact Int.mul_ne_zero g3 h4
  · rw [el_N_m]; exact Int.mul_ne_zero h3 g4
theorem fm_cp.cm {s n : Int} {f g F : fm_F} (h : fm_cp s n f g F) : fm_cp s n g f F := by
  obtain ⟨x, y, h1, h2, h3, h4⟩ := h
  exact ⟨x, y, by rw [la_m_c]; exact h1, by rw [Int.mul_comm g.1]; exact h2, h3, h4⟩
theorem fm_cp.r {s n : Int} {f g F G : fm_F} (h : fm_cp s n f g F) (k : fm_eq s n F G) : fm_cp s n f g G := by
  obtain ⟨x, y, h1, h2, h3, h4⟩ := h
  obtain ⟨z, u, g1, g2, g3, g4⟩ := k
  refine ⟨el_m s n z x, el_m s n y u, ?_, ?_, ?_, ?_⟩
  · rw [← la_s_s, h1, la_s_x, g1, la_s_s]
  · rw [el_N_m, el_N_m, Int.mul_assoc, h2, Int.mul_assoc, ← g2]
    grind
  · rw [el_N_m]; exact Int.mul_ne_zero g3 h3
  · rw [el_N_m]; exact Int.mul_ne_zero h4 g4
theorem fm_cp.l {s n : Int} {f f' g F : fm_F} (h : fm_cp s n f g F) (k : fm_eq s n f f') : fm_cp s n f' g F := by
  obtain ⟨x, y, h1, h2, h3, h4⟩ := h
  obtain ⟨z, u, g1, g2, g3, g4⟩ := k
  refine ⟨el_m s n u x, el_m s n z y, ?_, ?_, ?_, ?_⟩
  · rw [← la_s_s, la_s_x, ← la_s_m, ← g1, la_s_m, la_s_x, h1, la_s_s]
  · rw [el_N_m, el_N_m]
    grind
  · rw [el_N_m]; exact Int.mul_ne_zero g4 h3
  · rw [el_N_m]; exact Int.mul_ne_zero g3 h4
theorem fm_cp.m {s n : Int} {f g g' F : fm_F} (h : fm_cp s n f g F) (k : fm_eq s n g g') : fm_cp s n f g' F := (h.cm.l k).cm
theorem fm_cp.as {s n : Int} {f g h X Y Z : fm_F} (p : fm_cp s n f g X) (q : fm_cp s n X h Z) (r : fm_cp s n g h Y) : fm_cp s n f Y Z := by
  obtain ⟨x, y, h1, h2, h3, h4⟩ := p
  obtain ⟨z, u, g1, g2, g3, g4⟩ := q
  obtain ⟨v, t, k1, k2, k3, k4⟩ := r
  refine ⟨el_m s n z (el_m s n x t), el_m s n v (el_m s n y u), ?_, ?_, ?_, ?_⟩
  · rw [← la_s_s, ← la_s_s, ← la_s_r, ← k1, la_s_r, ← la_m_a, la_s_x s n x v, ← la_s_m s n x, h1, la_s_m, la_s_x s n v y, la_s_x s n z y, la_s_x s n z v, g1, la_s_s, la_s_s, el_m_l, el_m_a]
  · rw [el_N_m, el_N_m, el_N_m, el_N_m]
    grind
  · rw [el_N_m, el_N_m]; exact Int.mul_ne_zero g3 (Int.mul_ne_zero h3 k4)
  · rw [el_N_m, el_N_m]; exact Int.mul_ne_zero k3 (Int.mul_ne_zero h4 g4)
/-- ONE -/
def fm_one (s n : Int) : fm_F := (1, s, -n)
theorem fm_one_disc {D s n : Int} (h : fm_sn D s n) : fm_disc D (fm_one s n) := by
  obtain ⟨h1, h2⟩ := h
  unfold fm_disc fm_one
  dsimp only
  rcases h1 with rfl | rfl <;> omega
theorem fm_one_L (s n : Int) : fm_L s (fm_one s n) = fun _ => True := by
  unfold fm_L fm_one
  dsimp only
  rw [fm_B_of 1 (-n) (B := 0) (by omega)]
  exact la_eq (fun _ _ => trivial) (fun x _ => ⟨x.1, by simp⟩)
theorem fm_cp_one {D s n : Int} {f : fm_F} (h : fm_sn D s n) (hd : fm_disc D f) : fm_cp s n (fm_one s n) f f := by
  obtain ⟨a, b, c⟩ := f
  obtain ⟨hb, hac⟩ := fm_half h hd
  refine ⟨(1, 0), (1, 0), ?_, ?_, by rw [el_N_i]; decide, by rw [el_N_i]; decide⟩
  · rw [la_s_1, la_s_1, fm_one_L]
    unfold fm_L
    generalize fm_B s (a, b, c) = B at hb hac ⊢
    dsimp only
    refine la_eq (fun x hx => hx _ (la_f_C a B) ?_) (fun x hx => ?_)
    · rintro l m - ⟨k, hk⟩
      refine ⟨k * l.1 - k * (B * l.2) - c * (l.2 * m.2), ?_⟩
      unfold el_m
      dsimp only
      rw [hk]
      grind
    · have := la_m_in (s := s) (n := n) (L := fun _ => True) (M := la_f a B) (l := (1, 0)) (m := x) trivial hx
      rw [el_m_1] at this
      exact this
  · unfold fm_one
    dsimp only
    rw [Int.one_mul]
/-- the coefficients have only 1 in common -/
def fm_pr (f : fm_F) : Prop := ∃ i j k : Int, i * f.1 + j * f.2.1 + k * f.2.2 = 1
theorem la_comb {S : el_E → Prop} (h : la_C S) {p q r t : el_E} (hp : S p) (hq : S q) (hr : S r) (ht : S t) (i j k m : Int) : S (i * p.1 + j * q.1 + (k * r.1 + m * t.1), i * p.2 + j * q.2 + (k * r.2 + m * t.2)) :=
  h.add (h.add (h.mul hp i) (h.mul hq j)) (h.add (h.mul hr k) (h.mul ht m))
/-- the set of a form times the set of its inverse -/
theorem la_inv {s n a b c B i j k : Int} (hb : b = 2 * B + s) (hac : B * B + s * B - n = a * c) (hp : i * a + j * b + k * c = 1) : la_m s n (la_f a B) (la_f a (-B - s)) = la_s s n (a, 0) (fun _ => True) := by
  refine la_eq ?_ ?_
  · refine la_m_f (la_s_C (a, 0) ⟨trivial, fun _ _ _ _ => trivial⟩) ⟨(a, 0), trivial, rfl⟩ ⟨(-B - s, 1), trivial, rfl⟩ ⟨(B, 1), trivial, el_m_c s n _ _⟩ ⟨(-c, 0), trivial, ?_⟩
    unfold el_m
    dsimp only
    exact el_ext (by grind) (by grind)
  · rintro x ⟨l, -, rfl⟩
    have hC := la_m_C s n (la_f a B) (la_f a (-B - s))
    have p1 : la_m s n (la_f a B) (la_f a (-B - s)) (el_m s n (a, 0) (a, 0)) := la_m_in (la_f_a _ _) (la_f_a _ _)
    have p2 : la_m s n (la_f a B) (la_f a (-B - s)) (el_m s n (a, 0) (-B - s, 1)) := la_m_in (la_f_a _ _) (la_f_t _ _)
    have p3 : la_m s n (la_f a B) (la_f a (-B - s)) (el_m s n (B, 1) (a, 0)) := la_m_in (la_f_t _ _) (la_f_a _ _)
    have p4 : la_m s n (la_f a B) (la_f a (-B - s)) (el_m s n (B, 1) (-B - s, 1)) := la_m_in (la_f_t _ _) (la_f_t _ _)
    have q1 := la_comb hC p1 p2 p3 p4 i (-j) j (-k)
    unfold el_m at q1
    dsimp only at q1
    have e1 : ((i * (a * a + n * (0 * 0)) + -j * (a * (-B - s) + n * (0 * 1)) + (j * (B * a + n * (1 * 0)) + -k * (B * (-B - s) + n * (1 * 1))), i * (a * 0 + 0 * a + s * (0 * 0)) + -j * (a * 1 + 0 * (-B - s) + s * (0 * 1)) + (j * (B * 0 + 1 * a + s * (1 * 0)) + -k * (B * 1 + 1 * (-B - s) + s * (1 * 1)))) : el_E) = (a, 0) := el_ext (by grind) (by grind)
    rw [e1] at q1
    have q2 := hC.add (hC.mul q1 (l.1 - B * l.2)) (hC.mul p3 l.2)
    unfold el_m at q2 ⊢
    dsimp only at q2 ⊢
    have e2 : (((l.1 - B * l.2) * a + l.2 * (B * a + n * (1 * 0)), (l.1 - B * l.2) * 0 + l.2 * (B * 0 + 1 * a + s * (1 * 0))) : el_E) = (a * l.1 + n * (0 * l.2), a * l.2 + 0 * l.1 + s * (0 * l.2)) := el_ext (by grind) (by grind)
    rw [e2] at q2
    exact q2
def fm_inv (f : fm_F) : fm_F := (f.1, -f.2.1, f.2.2)
theorem fm_inv_disc {D : Int} {f : fm_F} (hd : fm_disc D f) : fm_disc D (fm_inv f) := by
  unfold fm_disc fm_inv at *
  dsimp only
  rw [Int.neg_mul_neg]
  exact hd
theorem fm_inv_pr {f : fm_F} (h : fm_pr f) : fm_pr (fm_inv f) := by
  obtain ⟨i, j, k, e⟩ := h
  exact ⟨i, -j, k, by unfold fm_inv; dsimp only; rw [Int.neg_mul_neg]; exact e⟩
theorem fm_inv_L {D s n : Int} {f : fm_F} (h : fm_sn D s n) (hd : fm_disc D f) : fm_L s (fm_inv f) = la_f f.1 (-fm_B s f - s) := by
  obtain ⟨a, b, c⟩ := f
  obtain ⟨hb, -⟩ := fm_half h hd
  unfold fm_L fm_inv
  dsimp only
  rw [fm_B_of a c (B := -fm_B s (a, b, c) - s) (by omega)]
theorem fm_cp_inv {D w s n : Int} {f : fm_F} (ho : fm_ok D w) (h : fm_sn D s n) (hd : fm_disc D f) (hp : fm_pr f) : fm_cp s n f (fm_inv f) (fm_one s n) := by
  have hL := fm_inv_L h hd
  obtain ⟨a, b, c⟩ := f
  obtain ⟨ha, -⟩ := fm_ne ho hd
  obtain ⟨hb, hac⟩ := fm_half h hd
  obtain ⟨i, j, k, e⟩ := hp
  refine ⟨(1, 0), (a, 0), ?_, ?_, by rw [el_N_i]; decide, by rw [el_N_i]; exact Int.mul_ne_zero ha ha⟩
  · rw [la_s_1, hL, fm_one_L]
    exact la_inv hb hac e
  · rw [el_N_i, el_N_i]
    unfold fm_inv fm_one
    dsimp only
    omega
/-- a factor may be taken away -/
theorem fm_cp_back {D w s n : Int} {f h X : fm_F} (ho : fm_ok D w) (hs : fm_sn D s n) (hf : fm_disc D f) (hd : fm_disc D h) (hp : fm_pr h) (k : fm_cp s n f h X) : fm_cp s n X (fm_inv h) f := by
  have h1 := fm_cp_inv ho hs hd hp
  have h2 := (fm_cp_one hs hf).cm
  -- (f h) h' = f (h h') = f ONE = f
  obtain ⟨x, y, a1, a2, a3, a4⟩ := k
  obtain ⟨z, u, b1, b2, b3, b4⟩ := h1
  obtain ⟨v, t, c1, c2, c3, c4⟩ := h2
  refine ⟨el_m s n v (el_m s n z y), el_m s n x (el_m s n u t), ?_, ?_, ?_, ?_⟩
  · rw [← la_s_s, ← la_s_s, ← la_s_m, ← a1, la_s_m, la_m_a, la_s_x s n z x, ← la_s_r s n z, b1, la_s_r, la_s_x s n v x, la_s_x s n v u, c1, la_s_s, la_s_s, el_m_a]
  · rw [el_N_m, el_N_m, el_N_m, el_N_m]
    unfold fm_one at b2 c2
    dsimp only at b2 c2
    grind
  · rw [el_N_m, el_N_m]; exact Int.mul_ne_zero c3 (Int.mul_ne_zero b3 a4)
  · rw [el_N_m, el_N_m]; exact Int.mul_ne_zero a3 (Int.mul_ne_zero b4 c4)
theorem fm_cp_cancel {D w s n : Int} {f f' h X : fm_F} (ho : fm_ok D w) (hs : fm_sn D s n) (hf : fm_disc D f) (hf' : fm_disc D f') (hd : fm_disc D h) (hp : fm_pr h) (k : fm_cp s n f h X) (k' : fm_cp s n f' h X) : fm_eq s n f f' :=
  (fm_cp_back ho hs hf hd hp k).fn (fm_cp_back ho hs hf' hd hp k')
theorem la_q2 {s n B a a' c' B' e x y z w1 : Int} (hac' : B' * B' + s * B' - n = a' * c') (he : x * a + y * a' + z * (B + B' + s) = e) (hw : x * a * B' + y * a' * B + z * (n + B * B') = e * w1) : e * (B' - w1) = a' * (y * (B' - B) + z * c') := by
  have h1 : e * (B' - w1) = (x * a + y * a' + z * (B + B' + s)) * B' - (x * a * B' + y * a' * B + z * (n + B * B')) := by rw [he, hw, Int.mul_sub]
  have h2 : (x * a + y * a' + z * (B + B' + s)) * B' - (x * a * B' + y * a' * B + z * (n + B * B')) = y * a' * (B' - B) + z * (B' * B' + s * B' - n) := by
    clear h1 he hw hac'
    grind
  rw [h1, h2, hac']
  clear h1 h2 he hw hac'
  grind
theorem la_q3 {s n B a c a' B' e x y z w1 : Int} (hac : B * B + s * B - n = a * c) (he : x * a + y * a' + z * (B + B' + s) = e) (hw : x * a * B' + y * a' * B + z * (n + B * B') = e * w1) : e * (B - w1) = a * (x * (B - B') + z * c) := by
  have h1 : e * (B - w1) = (x * a + y * a' + z * (B + B' + s)) * B - (x * a * B' + y * a' * B + z * (n + B * B')) := by rw [he, hw, Int.mul_sub]
  have h2 : (x * a + y * a' + z * (B + B' + s)) * B - (x * a * B' + y * a' * B + z * (n + B * B')) = x * a * (B - B') + z * (B * B + s * B - n) := by
    clear h1 he hw hac
    grind
  rw [h1, h2, hac]
  clear h1 h2 he hw hac
  grind
theorem la_q4 {s n B a c a' c' B' e x y z w1 : Int} (hac : B * B + s * B - n = a * c) (hac' : B' * B' + s * B' - n = a' * c') (he : x * a + y * a' + z * (B + B' + s) = e) (hw : x * a * B' + y * a' * B + z * (n + B * B') = e * w1) : e * (B * B' + n) = (B + B' + s) * (e * w1) - a * a' * (x * c' + y * c) := by
  have h1 : e * (B * B' + n) = (x * a + y * a' + z * (B + B' + s)) * (B * B' + n) := by rw [he]
  have h2 : (x * a + y * a' + z * (B + B' + s)) * (B * B' + n) = (B + B' + s) * (x * a * B' + y * a' * B + z * (n + B * B')) - x * a * (B' * B' + s * B' - n) - y * a' * (B * B + s * B - n) := by
    clear h1 he hw hac hac'
    grind
  rw [h1, h2, hac, hac', hw]
  clear h1 h2 he hw hac hac'
  grind
/-- the set of the product by its formula: e goes into a, a' and the half sum S of b and b' -/
theorem la_prod {s n a c B a' c' B' e x y z a1 a1' S1 w1 i j k : Int} (hac : B * B + s * B - n = a * c) (hac' : B' * B' + s * B' - n = a' * c') (ha : a = e * a1) (ha' : a' = e * a1') (hS : B + B' + s = e * S1) (he0 : e ≠ 0) (he : x * a + y * a' + z * (B + B' + s) = e) (hw : x * a * B' + y * a' * B + z * (n + B * B') = e * w1) (hp : i * a + j * (2 * B + s) + k * c = 1) : la_s s n (e, 0) (la_f (a1 * a1') w1) = la_m s n (la_f a B) (la_f a' B') := by
  have hC := la_m_C s n (la_f a B) (la_f a' B')
  have p1 : la_m s n (la_f a B) (la_f a' B') (el_m s n (a, 0) (a', 0)) := la_m_in (la_f_a _ _) (la_f_a _ _)
  have p2 : la_m s n (la_f a B) (la_f a' B') (el_m s n (a, 0) (B', 1)) := la_m_in (la_f_a _ _) (la_f_t _ _)
  have p3 : la_m s n (la_f a B) (la_f a' B') (el_m s n (B, 1) (a', 0)) := la_m_in (la_f_t _ _) (la_f_a _ _)
  have p4 : la_m s n (la_f a B) (la_f a' B') (el_m s n (B, 1) (B', 1)) := la_m_in (la_f_t _ _) (la_f_t _ _)
  have P1 : el_m s n (a, 0) (a', 0) = (a * a', 0) := by unfold el_m; exact el_ext (by simp) (by simp)
  have P2 : el_m s n (a, 0) (B', 1) = (a * B', a) := by unfold el_m; exact el_ext (by simp) (by simp)
  have P3 : el_m s n (B, 1) (a', 0) = (a' * B, a') := by unfold el_m; exact el_ext (by simp [Int.mul_comm]) (by simp)
  have P4 : el_m s n (B, 1) (B', 1) = (B * B' + n, B + B' + s) := by unfold el_m; exact el_ext (by simp) (by simp)
  have E0 : ∀ u v : Int, el_m s n (e, 0) (u, v) = (e * u, e * v) := by
    intro u v
    unfold el_m
    exact el_ext (by simp) (by simp)
  refine la_eq ?_ ?_
  · rintro q ⟨l, hl, rfl⟩
    refine la_f_in (S := fun z => la_m s n (la_f a B) (la_f a' B') (el_m s n (e, 0) z)) ⟨?_, fun p q hp hq => ?_⟩ ?_ ?_ l hl
    · show la_m s n _ _ (el_m s n (e, 0) (0, 0))
      rw [el_m_0]
      exact hC.1
    · show la_m s n _ _ (el_m s n (e, 0) (el_s p q))
      rw [el_m_s]
      exact hC.2 _ _ hp hq
    · have q1 := la_comb hC p1 p2 p3 p4 (i * a1 + j * S1) (-(j * a1')) (j * a1 + k * S1) (-(k * a1'))
      rw [P1, P2, P3, P4] at q1
      dsimp only at q1
      have e1 : (((i * a1 + j * S1) * (a * a') + -(j * a1') * (a * B') + ((j * a1 + k * S1) * (a' * B) + -(k * a1') * (B * B' + n)), (i * a1 + j * S1) * 0 + -(j * a1') * a + ((j * a1 + k * S1) * a' + -(k * a1') * (B + B' + s))) : el_E) = el_m s n (e, 0) (a1 * a1', 0) := by
        rw [E0]
        have t1 : e * (a1 * a1') = e * (a1 * a1') * (i * a + j * (2 * B + s) + k * c) := by rw [hp, Int.mul_one]
        have hB' : B' = e * S1 - B - s := by omega
        have hn : n = B * B + s * B - e * a1 * c := by rw [← ha]; omega
        refine el_ext ?_ ?_
        · rw [t1]
          clear t1 hp hw he hac hac' q1 p1 p2 p3 p4 P1 P2 P3 P4 E0 hC hS
          subst ha
          subst ha'
          subst hB'
          subst hn
          grind
        · clear t1 hp hw he hac hac' q1 p1 p2 p3 p4 P1 P2 P3 P4 E0 hC hn
          rw [hS]
          subst ha
          subst ha'
          clear hS hB'
          grind
      rw [e1] at q1
      exact q1
    · have q1 := la_comb hC p1 p2 p3 p4 0 x y z
      rw [P1, P2, P3, P4] at q1
      dsimp only at q1
      have e1 : ((0 * (a * a') + x * (a * B') + (y * (a' * B) + z * (B * B' + n)), 0 * 0 + x * a + (y * a' + z * (B + B' + s))) : el_E) = el_m s n (e, 0) (w1, 1) := by
        rw [E0, ← hw]
        refine el_ext ?_ ?_
        · clear hp hw he hac hac' q1 p1 p2 p3 p4 P1 P2 P3 P4 E0 hC hS ha ha'
          grind
        · omega
      rw [e1] at q1
      exact q1
  · have w2 : B' - w1 = a1' * (y * (B' - B) + z * c') := fm_cancel he0 (by
      rw [la_q2 hac' he hw, ha', Int.mul_assoc])
    have w3 : B - w1 = a1 * (x * (B - B') + z * c) := fm_cancel he0 (by
      rw [la_q3 hac he hw, ha, Int.mul_assoc])
    have w4 : B * B' + n = e * (S1 * w1 - a1 * a1' * (x * c' + y * c)) := fm_cancel he0 (by
      rw [la_q4 hac hac' he hw, hS, ha, ha']
      clear hp hw he hac hac' p1 p2 p3 p4 P1 P2 P3 P4 E0 hC hS ha ha' w2 w3
      grind)
    refine la_m_f (la_s_C (e, 0) (la_f_C _ _)) ?_ ?_ ?_ ?_
    · rw [P1]
      refine ⟨(a1 * a1' * e, 0), ⟨e, by dsimp only; omega⟩, ?_⟩
      rw [E0, ha, ha']
      clear hp hw he hac hac' p1 p2 p3 p4 P1 P2 P3 P4 E0 hC hS ha ha' w2 w3 w4
      exact el_ext (by grind) (by grind)
    · rw [P2]
      refine ⟨(a1 * B', a1), ⟨y * (B' - B) + z * c', ?_⟩, ?_⟩
      · dsimp only
        have : B' = w1 + a1' * (y * (B' - B) + z * c') := by omega
        generalize y * (B' - B) + z * c' = q at this ⊢
        rw [this]
        clear hp hw he hac hac' p1 p2 p3 p4 P1 P2 P3 P4 E0 hC hS ha ha' w2 w3 w4 this
        grind
      · rw [E0, ha]
        clear hp hw he hac hac' p1 p2 p3 p4 P1 P2 P3 P4 E0 hC hS ha ha' w2 w3 w4
        exact el_ext (by grind) (by grind)
    · rw [P3]
      refine ⟨(a1' * B, a1'), ⟨x * (B - B') + z * c, ?_⟩, ?_⟩
      · dsimp only
        have : B = w1 + a1 * (x * (B - B') + z * c) := by omega
        generalize x * (B - B') + z * c = q at this ⊢
        rw [this]
        clear hp hw he hac hac' p1 p2 p3 p4 P1 P2 P3 P4 E0 hC hS ha ha' w2 w3 w4 this
        grind
      · rw [E0, ha']
        clear hp hw he hac hac' p1 p2 p3 p4 P1 P2 P3 P4 E0 hC hS ha ha' w2 w3 w4
        exact el_ext (by grind) (by grind)
    · rw [P4]
      refine ⟨(S1 * w1 - a1 * a1' * (x * c' + y * c), S1), ⟨-(x * c' + y * c), ?_⟩, ?_⟩
      · dsimp only
        clear hp hw he hac hac' p1 p2 p3 p4 P1 P2 P3 P4 E0 hC hS ha ha' w2 w3 w4
        grind
      · rw [E0, ← w4, ← hS]
/-- the third coefficient of the product is whole -/
theorem fm_prod_c {s n a c B a' c' B' e x y z a1 a1' w1 : Int} (hac : B * B + s * B - n = a * c) (hac' : B' * B' + s * B' - n = a' * c') (ha : a = e * a1) (ha' : a' = e * a1') (he0 : e ≠ 0) (he : x * a + y * a' + z * (B + B' + s) = e) (hw : x * a * B' + y * a' * B + z * (n + B * B') = e * w1) : w1 * w1 + s * w1 - n = a1 * a1' * (x * x * (a * c') + y * y * (a' * c) + z * z * (c * c') + x * y * (2 * (B * B') + s * (B + B') - 2 * n) + x * z * (c' * (2 * B + s)) + y * z * (c * (2 * B' + s))) := by
  have h1 : (e * w1) * (e * w1) + s * ((e * w1) * e) - n * (e * e) = a * a' * (x * x * (a * c') + y * y * (a' * c) + z * z * (c * c') + x * y * (2 * (B * B') + s * (B + B') - 2 * n) + x * z * (c' * (2 * B + s)) + y * z * (c * (2 * B' + s))) := by
    rw [← hw]
    have hn : n = B * B + s * B - a * c := by omega
    clear hw ha ha' he0
    subst hn
    subst he
    grind
  refine fm_cancel (Int.mul_ne_zero he0 he0) ?_
  rw [ha, ha'] at h1
  rw [ha, ha']
  grind
/-- a product of forms whose coefficients have only 1 in common is such a form -/
theorem fm_pr_cp {D w s n : Int} {f g F : fm_F} (ho : fm_ok D w) (hs : fm_sn D s n) (hf : fm_disc D f) (hg : fm_disc D g) (hF : fm_disc D F) (pf : fm_pr f) (pg : fm_pr g) {e : Int} (he0 : e ≠ 0) (hL : la_s s n (e, 0) (fm_L s F) = la_m s n (fm_L s f) (fm_L s g)) (hA : F.1 * (e * e) = f.1 * g.1) : fm_pr F := by
  have jL : ∀ {q : fm_F}, fm_disc D q → la_j s (fm_L s q) = fm_L s (fm_inv q) := by
    intro q hq
    rw [fm_inv_L hs hq]
    unfold fm_L
    refine la_eq ?_ ?_
    · rintro x ⟨k, hk⟩
      unfold el_j at hk
      dsimp only at hk
      exact ⟨k, by grind⟩
    · rintro x ⟨k, hk⟩
      refine ⟨k, ?_⟩
      unfold el_j
      dsimp only
      grind
  have jc := la_j_m s n (fm_L s f) (fm_L s g)
  rw [← hL, la_j_s, jL hf, jL hg, jL hF] at jc
  have je : el_j s (e, 0) = (e, 0) := by
    unfold el_j
    exact el_ext (by grind) (by grind)
  rw [je] at jc
  have inv : ∀ {q : fm_F}, fm_disc D q → fm_pr q → la_m s n (fm_L s q) (fm_L s (fm_inv q)) = la_s s n (q.1, 0) (fun _ => True) := by
    intro q hq pq
    rw [fm_inv_L hs hq]
    obtain ⟨a, b, c⟩ := q
    obtain ⟨hb, hac⟩ := fm_half hs hq
    obtain ⟨i, j, k, e⟩ := pq
    exact la_inv hb hac e
  -- e e L_F L_F' = a a' O
  have all : la_m s n (fun _ => True) (fun _ => True) = fun _ => True := la_eq (fun _ _ => trivial) (fun x _ => by
    have := la_m_in (s := s) (n := n) (L := fun _ => True) (M := fun _ => True) (l := (1, 0)) (m := x) trivial trivial
    rw [el_m_1] at this
    exact this)
  have h1 : la_s s n (e, 0) (la_s s n (e, 0) (la_m s n (fm_L s F) (fm_L s (fm_inv F)))) = la_s s n (f.1, 0) (la_s s n (g.1, 0) (fun _ => True)) := by
    rw [← la_s_m, ← la_s_r, hL, ← jc, la_m_a, ← la_m_a s n (fm_L s g), la_m_c s n (fm_L s g), la_m_a s n (fm_L s (fm_inv f)), ← la_m_a, inv hf pf, inv hg pg, la_s_m, la_s_r, all]
  have h2 : la_s s n (f.1, 0) (la_s s n (g.1, 0) (fun _ => True)) = la_s s n (e, 0) (la_s s n (e, 0) (la_s s n (F.1, 0) (fun _ => True))) := by
    rw [la_s_s, la_s_s, la_s_s]
    refine congrArg (fun v => la_s s n v (fun _ => True)) ?_
    unfold el_m
    dsimp only
    exact el_ext (by grind) (by grind)
  have h3 := la_s_i he0 (la_s_i he0 (h1.trans h2))
  have h4 : la_m s n (fm_L s F) (fm_L s (fm_inv F)) (F.1, 0) := by
    rw [h3]
    refine ⟨(1, 0), trivial, ?_⟩
    unfold el_m
    dsimp only
    exact el_ext (by grind) (by grind)
  rw [fm_inv_L hs hF] at h4
  obtain ⟨A, b, C⟩ := F
  obtain ⟨hA0, -⟩ := fm_ne ho hF
  obtain ⟨hb, hac⟩ := fm_half hs hF
  unfold fm_L at h4
  generalize fm_B s (A, b, C) = B at hb hac h4
  dsimp only at h4
  have h5 := la_m_f (S := fun x => ∃ i j k l : Int, x = (A * A * i + A * B * j + A * (-B - s) * k - A * C * l, A * j + A * k)) ⟨⟨0, 0, 0, 0, el_ext (by grind) (by grind)⟩, ?_⟩ ⟨1, 0, 0, 0, ?_⟩ ⟨0, 0, 1, 0, ?_⟩ ⟨0, 1, 0, 0, ?_⟩ ⟨0, 0, 0, 1, ?_⟩ _ h4
  · obtain ⟨i, j, k, l, h6⟩ := h5
    have h7 := congrArg Prod.fst h6
    have h8 := congrArg Prod.snd h6
    dsimp only at h7 h8
    have hk : k = -j := by
      have : A * (j + k) = A * 0 := by grind
      have := fm_cancel hA0 this
      omega
    subst hk
    refine ⟨i, j, -l, ?_⟩
    dsimp only
    exact fm_cancel hA0 (by grind)
  · rintro x y ⟨i, j, k, l, rfl⟩ ⟨i', j', k', l', rfl⟩
    refine ⟨i - i', j - j', k - k', l - l', ?_⟩
    unfold el_s
    dsimp only
    exact el_ext (by grind) (by grind)
  · unfold el_m
    dsimp only
    exact el_ext (by grind) (by grind)
  · unfold el_m
    dsimp only
    exact el_ext (by grind) (by grind)
  · unfold el_m
    dsimp only
    exact el_ext (by grind) (by grind)
  · unfold el_m
    dsimp only
    exact el_ext (by grind) (by grind)
