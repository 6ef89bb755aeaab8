/-! Numbers u + v t with t t = s t + n (the order of discriminant 4 n + s, s being 0 or 1), as pairs; their additive sets as predicates; the set of a form (a, b, c) with b = 2 B + s: all a k + v (t + B). Products of such sets are products of classes. -/
abbrev el_E : Type := Int × Int
def el_m (s n : Int) (x y : el_E) : el_E := (x.1 * y.1 + n * (x.2 * y.2), x.1 * y.2 + x.2 * y.1 + s * (x.2 * y.2))
def el_s (x y : el_E) : el_E := (x.1 - y.1, x.2 - y.2)
def el_N (s n : Int) (x : el_E) : Int := x.1 * x.1 + s * (x.1 * x.2) - n * (x.2 * x.2)
def el_j (s : Int) (x : el_E) : el_E := (x.1 + s * x.2, -x.2)
theorem el_ext {a b a' b' : Int} (h1 : a = a') (h2 : b = b') : ((a, b) : el_E) = (a', b') := by rw [h1, h2]
theorem el_m_c (s n : Int) (x y : el_E) : el_m s n x y = el_m s n y x := by
  unfold el_m
  exact el_ext (by grind) (by grind)
theorem el_m_a (s n : Int) (x y z : el_E) : el_m s n (el_m s n x y) z = el_m s n x (el_m s n y z) := by
  unfold el_m
  exact el_ext (by grind) (by grind)
theorem el_m_l (s n : Int) (x y z : el_E) : el_m s n x (el_m s n y z) = el_m s n y (el_m s n x z) := by
  rw [← el_m_a, el_m_c s n x y, el_m_a]
theorem el_m_s (s n : Int) (x y z : el_E) : el_m s n x (el_s y z) = el_s (el_m s n x y) (el_m s n x z) := by
  unfold el_m el_s
  exact el_ext (by grind) (by grind)
theorem el_m_sl (s n : Int) (x y z : el_E) : el_m s n (el_s x y) z = el_s (el_m s n x z) (el_m s n y z) := by
  rw [el_m_c, el_m_s, el_m_c s n z x, el_m_c s n z y]
theorem el_m_0 (s n : Int) (x : el_E) : el_m s n x (0, 0) = (0, 0) := by
  unfold el_m
  exact el_ext (by grind) (by grind)
theorem el_m_0l (s n : Int) (x : el_E) : el_m s n (0, 0) x = (0, 0) := by rw [el_m_c, el_m_0]
theorem el_m_1 (s n : Int) (x : el_E) : el_m s n (1, 0) x = x := by
  unfold el_m
  exact el_ext (by grind) (by grind)
theorem el_N_m (s n : Int) (x y : el_E) : el_N s n (el_m s n x y) = el_N s n x * el_N s n y := by
  unfold el_N el_m
  grind
theorem el_N_i (s n k : Int) : el_N s n (k, 0) = k * k := by
  unfold el_N
  grind
theorem el_j_m (s n : Int) (x y : el_E) : el_j s (el_m s n x y) = el_m s n (el_j s x) (el_j s y) := by
  unfold el_j el_m
  exact el_ext (by grind) (by grind)
theorem el_j_s (s : Int) (x y : el_E) : el_j s (el_s x y) = el_s (el_j s x) (el_j s y) := by
  unfold el_j el_s
  exact el_ext (by grind) (by grind)
theorem el_j_j (s : Int) (x : el_E) : el_j s (el_j s x) = x := by
  unfold el_j
  exact el_ext (by grind) (by grind)
/-- an additive set -/
def la_C (S : el_E → Prop) : Prop := S (0, 0) ∧ ∀ x y, S x → S y → S (el_s x y)
theorem la_C.neg {S : el_E → Prop} (h : la_C S) {x : el_E} (hx : S x) : S (-x.1, -x.2) := by
  have := h.2 (0, 0) x h.1 hx
  unfold el_s at this
  dsimp only at this
  rw [Int.zero_sub, Int.zero_sub] at this
  exact this
theorem la_C.add {S : el_E → Prop} (h : la_C S) {x y : el_E} (hx : S x) (hy : S y) : S (x.1 + y.1, x.2 + y.2) := by
  have := h.2 x (-y.1, -y.2) hx (h.neg hy)
  unfold el_s at this
  dsimp only at this
  rw [Int.sub_neg, Int.sub_neg] at this
  exact this
theorem la_C.nat {S : el_E → Prop} (h : la_C S) {x : el_E} (hx : S x) (n : Nat) : S ((n : Int) * x.1, (n : Int) * x.2) := by
  induction n with
  | zero =>
    have e : (((0 : Nat) : Int) * x.1, ((0 : Nat) : Int) * x.2) = ((0, 0) : el_E) := el_ext (by simp) (by simp)
    rw [e]
    exact h.1
  | succ n ih =>
    have := h.add ih hx
    have e : (((n + 1 : Nat) : Int) * x.1, ((n + 1 : Nat) : Int) * x.2) = (((n : Int) * x.1 + x.1, (n : Int) * x.2 + x.2) : el_E) := el_ext (by grind) (by grind)
    rw [e]
    exact this
theorem la_C.mul {S : el_E → Prop} (h : la_C S) {x : el_E} (hx : S x) (k : Int) : S (k * x.1, k * x.2) := by
  rcases Int.le_total 0 k with hk | hk
  · have := h.nat hx k.toNat
    rw [Int.toNat_of_nonneg hk] at this
    exact this
  · have := h.neg (h.nat hx (-k).toNat)
    dsimp only at this
    rw [Int.toNat_of_nonneg (by omega)] at this
    have e : ((k * x.1, k * x.2) : el_E) = (-(-k * x.1), -(-k * x.2)) := el_ext (by grind) (by grind)
    rw [e]
    exact this
def la_m (s n : Int) (L M : el_E → Prop) : el_E → Prop := fun x => ∀ S : el_E → Prop, la_C S → (∀ l m, L l → M m → S (el_m s n l m)) → S x
theorem la_m_C (s n : Int) (L M : el_E → Prop) : la_C (la_m s n L M) :=
  ⟨fun S hS _ => hS.1, fun x y hx hy S hS h => hS.2 x y (hx S hS h) (hy S hS h)⟩
theorem la_m_in {s n : Int} {L M : el_E → Prop} {l m : el_E} (hl : L l) (hm : M m) : la_m s n L M (el_m s n l m) := fun _ _ h => h l m hl hm
theorem la_eq {L M : el_E → Prop} (h1 : ∀ x, L x → M x) (h2 : ∀ x, M x → L x) : L = M := funext fun x => propext ⟨h1 x, h2 x⟩
theorem la_m_c (s n : Int) (L M : el_E → Prop) : la_m s n L M = la_m s n M L := by
  refine la_eq (fun x h => ?_) (fun x h => ?_)
  · exact h _ (la_m_C s n M L) (fun l m hl hm => by rw [el_m_c]; exact la_m_in hm hl)
  · exact h _ (la_m_C s n L M) (fun l m hl hm => by rw [el_m_c]; exact la_m_in hm hl)
theorem la_m_a1 (s n : Int) (L M K : el_E → Prop) (x : el_E) (h : la_m s n (la_m s n L M) K x) : la_m s n L (la_m s n M K) x := by
  refine h _ (la_m_C s n L (la_m s n M K)) (fun y k hy hk => ?_)
  refine hy (fun z => la_m s n L (la_m s n M K) (el_m s n z k)) ⟨?_, fun a b ha hb => ?_⟩ (fun l m hl hm => ?_)
  · show la_m s n L (la_m s n M K) (el_m s n (0, 0) k)
    rw [el_m_0l]
    exact (la_m_C s n _ _).1
  · show la_m s n L (la_m s n M K) (el_m s n (el_s a b) k)
    rw [el_m_sl]
    exact (la_m_C s n _ _).2 _ _ ha hb
  · show la_m s n L (la_m s n M K) (el_m s n (el_m s n l m) k)
    rw [el_m_a]
    exact la_m_in hl (la_m_in hm hk)
theorem la_m_a (s n : Int) (L M K : el_E → Prop) : la_m s n (la_m s n L M) K = la_m s n L (la_m s n M K) := by
  refine la_eq (la_m_a1 s n L M K) (fun x h => ?_)
  rw [la_m_c, la_m_c s n M K] at h
  rw [la_m_c, la_m_c s n L M]
  exact la_m_a1 s n K M L x h
def la_s (s n : Int) (a : el_E) (L : el_E → Prop) : el_E → Prop := fun x => ∃ l, L l ∧ x = el_m s n a l
theorem la_s_C {s n : Int} (a : el_E) {L : el_E → Prop} (h : la_C L) : la_C (la_s s n a L) := by
  refine ⟨⟨(0, 0), h.1, (el_m_0 s n a).symm⟩, ?_⟩
  rintro x y ⟨l, hl, rfl⟩ ⟨k, hk, rfl⟩
  exact ⟨el_s l k, h.2 l k hl hk, (el_m_s s n a l k).symm⟩
theorem la_s_m (s n : Int) (a : el_E) (L M : el_E → Prop) : la_m s n (la_s s n a L) M = la_s s n a (la_m s n L M) := by
  refine la_eq (fun x h => ?_) (fun x h => ?_)
  · refine h _ (la_s_C a (la_m_C s n L M)) ?_
    rintro y m ⟨l, hl, rfl⟩ hm
    exact ⟨el_m s n l m, la_m_in hl hm, el_m_a s n a l m⟩
  · obtain ⟨y, hy, rfl⟩ := h
    refine hy (fun z => la_m s n (la_s s n a L) M (el_m s n a z)) ⟨?_, fun p q hp hq => ?_⟩ (fun l m hl hm => ?_)
    · show la_m s n (la_s s n a L) M (el_m s n a (0, 0))
      rw [el_m_0]
      exact (la_m_C s n _ _).1
    · show la_m s n (la_s s n a L) M (el_m s n a (el_s p q))
      rw [el_m_s]
      exact (la_m_C s n _ _).2 _ _ hp hq
    · show la_m s n (la_s s n a L) M (el_m s n a (el_m s n l m))
      rw [← el_m_a]
      exact la_m_in ⟨l, hl, rfl⟩ hm
theorem la_s_r (s n : Int) (a : el_E) (L M : el_E → Prop) : la_m s n L (la_s s n a M) = la_s s n a (la_m s n L M) := by
  rw [la_m_c, la_s_m, la_m_c]
theorem la_s_s (s n : Int) (a b : el_E) (L : el_E → Prop) : la_s s n a (la_s s n b L) = la_s s n (el_m s n a b) L := by
  refine la_eq ?_ ?_
  · rintro x ⟨y, ⟨l, hl, rfl⟩, rfl⟩
    exact ⟨l, hl, (el_m_a s n a b l).symm⟩
  · rintro x ⟨l, hl, rfl⟩
    exact ⟨el_m s n b l, ⟨l, hl, rfl⟩, el_m_a s n a b l⟩
theorem la_s_x (s n : Int) (a b : el_E) (L : el_E → Prop) : la_s s n a (la_s s n b L) = la_s s n b (la_s s n a L) := by
  rw [la_s_s, la_s_s, el_m_c]
theorem la_s_1 (s n : Int) (L : el_E → Prop) : la_s s n (1, 0) L = L := by
  refine la_eq ?_ (fun x hx => ⟨x, hx, (el_m_1 s n x).symm⟩)
  rintro x ⟨l, hl, rfl⟩
  rw [el_m_1]
  exact hl
theorem la_s_i {s n k : Int} {L M : el_E → Prop} (hk : k ≠ 0) (h : la_s s n (k, 0) L = la_s s n (k, 0) M) : L = M := by
  have one : ∀ {L M : el_E → Prop}, la_s s n (k, 0) L = la_s s n (k, 0) M → ∀ x, L x → M x := by
    intro L M h x hx
    have h1 : la_s s n (k, 0) M (el_m s n (k, 0) x) := by rw [← h]; exact ⟨x, hx, rfl⟩
    obtain ⟨y, hy, e⟩ := h1
    unfold el_m at e
    dsimp only at e
    have e1 := congrArg Prod.fst e
    have e2 := congrArg Prod.snd e
    dsimp only at e1 e2
    have f1 : x.1 = y.1 := Int.eq_of_mul_eq_mul_left hk (by grind)
    have f2 : x.2 = y.2 := Int.eq_of_mul_eq_mul_left hk (by grind)
    have f : x = y := Prod.ext f1 f2
    rw [f]
    exact hy
  exact la_eq (one h) (one h.symm)
/-- conjugates -/
def la_j (s : Int) (L : el_E → Prop) : el_E → Prop := fun x => L (el_j s x)
theorem la_j_m1 (s n : Int) (L M : el_E → Prop) (x : el_E) (h : la_m s n (la_j s L) (la_j s M) x) : la_j s (la_m s n L M) x := by
  refine h _ ⟨?_, fun a b ha hb => ?_⟩ (fun l m hl hm => ?_)
  · show la_m s n L M (el_j s (0, 0))
    have e : el_j s (0, 0) = (0, 0) := by
      unfold el_j
      exact el_ext (by grind) (by grind)
    rw [e]
    exact (la_m_C s n L M).1
  · show la_m s n L M (el_j s (el_s a b))
    rw [el_j_s]
    exact (la_m_C s n L M).2 _ _ ha hb
  · show la_m s n L M (el_j s (el_m s n l m))
    rw [el_j_m]
    exact la_m_in hl hm
theorem la_j_j (s : Int) (L : el_E → Prop) : la_j s (la_j s L) = L := by
  funext x
  show L (el_j s (el_j s x)) = L x
  rw [el_j_j]
theorem la_j_m (s n : Int) (L M : el_E → Prop) : la_m s n (la_j s L) (la_j s M) = la_j s (la_m s n L M) := by
  refine la_eq (la_j_m1 s n L M) (fun x h => ?_)
  have h1 := la_j_m1 s n (la_j s L) (la_j s M) (el_j s x)
  rw [la_j_j, la_j_j] at h1
  have h2 := h1 h
  show la_m s n (la_j s L) (la_j s M) x
  have h3 : la_m s n (la_j s L) (la_j s M) (el_j s (el_j s x)) := h2
  rw [el_j_j] at h3
  exact h3
theorem la_j_s (s n : Int) (a : el_E) (L : el_E → Prop) : la_j s (la_s s n a L) = la_s s n (el_j s a) (la_j s L) := by
  refine la_eq ?_ ?_
  · rintro x ⟨l, hl, e⟩
    refine ⟨el_j s l, ?_, ?_⟩
    · show L (el_j s (el_j s l))
      rw [el_j_j]
      exact hl
    · rw [← el_j_m, ← e, el_j_j]
  · rintro x ⟨l, hl, rfl⟩
    refine ⟨el_j s l, hl, ?_⟩
    rw [el_j_m, el_j_j]
/-- the set of a form: a, and B out of b = 2 B + s -/
def la_f (a B : Int) : el_E → Prop := fun x => ∃ k : Int, x.1 = a * k + B * x.2
theorem la_f_C (a B : Int) : la_C (la_f a B) := by
  refine ⟨⟨0, by simp⟩, ?_⟩
  rintro x y ⟨k, hk⟩ ⟨j, hj⟩
  exact ⟨k - j, by unfold el_s; dsimp only; grind⟩
theorem la_f_a (a B : Int) : la_f a B (a, 0) := ⟨1, by simp⟩
theorem la_f_t (a B : Int) : la_f a B (B, 1) := ⟨0, by simp⟩
theorem la_f_T (a B k : Int) : la_f a (B + a * k) = la_f a B := by
  refine la_eq ?_ ?_
  · rintro x ⟨j, hj⟩
    exact ⟨j + k * x.2, by grind⟩
  · rintro x ⟨j, hj⟩
    exact ⟨j - k * x.2, by grind⟩
/-- what generates the set of a form lies in an additive set: so does the set -/
theorem la_f_in {a B : Int} {S : el_E → Prop} (h : la_C S) (h1 : S (a, 0)) (h2 : S (B, 1)) (x : el_E) (hx : la_f a B x) : S x := by
  obtain ⟨k, hk⟩ := hx
  have h3 := h.add (h.mul h1 k) (h.mul h2 x.2)
  dsimp only at h3
  have e : x = (k * a + x.2 * B, k * 0 + x.2 * 1) := Prod.ext (by dsimp only; grind) (by dsimp only; grind)
  rw [e]
  exact h3
/-- the product of two forms' sets lies in an additive set if the four products do -/
theorem la_m_f {s n a B a' B' : Int} {S : el_E → Prop} (h : la_C S) (h1 : S (el_m s n (a, 0) (a', 0))) (h2 : S (el_m s n (a, 0) (B', 1))) (h3 : S (el_m s n (B, 1) (a', 0))) (h4 : S (el_m s n (B, 1) (B', 1))) (x : el_E) (hx : la_m s n (la_f a B) (la_f a' B') x) : S x := by
  refine hx S h (fun l m hl hm => ?_)
  refine la_f_in (S := fun z => S (el_m s n z m)) ⟨?_, fun p q hp hq => ?_⟩ ?_ ?_ l hl
  · show S (el_m s n (0, 0) m)
    rw [el_m_0l]
    exact h.1
  · show S (el_m s n (el_s p q) m)
    rw [el_m_sl]
    exact h.2 _ _ hp hq
  · refine la_f_in (S := fun z => S (el_m s n (a, 0) z)) ⟨?_, fun p q hp hq => ?_⟩ h1 h2 m hm
    · show S (el_m s n (a, 0) (0, 0))
      rw [el_m_0]
      exact h.1
    · show S (el_m s n (a, 0) (el_s p q))
      rw [el_m_s]
      exact h.2 _ _ hp hq
  · refine la_f_in (S := fun z => S (el_m s n (B, 1) z)) ⟨?_, fun p q hp hq => ?_⟩ h3 h4 m hm
    · show S (el_m s n (B, 1) (0, 0))
      rw [el_m_0]
      exact h.1
    · show S (el_m s n (B, 1) (el_s p q))
      rw [el_m_s]
      exact h.2 _ _ hp hq
