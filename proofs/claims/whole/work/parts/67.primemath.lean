/-! The odd primes that go into a number. -/
theorem np_euc {p : Nat} (hp : fr_P p) {x y : Nat} (h : p ∣ x * y) : p ∣ x ∨ p ∣ y := by
  rcases hp.2 (Nat.gcd p y) (Nat.gcd_dvd_left _ _) with k | k
  · exact Or.inl (Nat.Coprime.dvd_of_dvd_mul_right k h)
  · right
    have := Nat.gcd_dvd_right p y
    rw [k] at this
    exact this
theorem np_2 : fr_P 2 := ⟨by decide, fun d hd => by
  have : d ≤ 2 := Nat.le_of_dvd (by decide) hd
  match d, this, hd with
  | 0, _, hd => exact absurd (Nat.eq_zero_of_zero_dvd hd) (by decide)
  | 1, _, _ => exact Or.inl rfl
  | 2, _, _ => exact Or.inr rfl⟩
theorem np_eq {p q : Nat} (hp : fr_P p) (hq : fr_P q) (h : q ∣ p) : q = p := by
  rcases hp.2 q h with e | e
  · have := hq.1; omega
  · exact e
/-- n without the prime p -/
def wo (p n m : Nat) : Prop := 0 < m ∧ m ∣ n ∧ ¬ p ∣ m ∧ ∀ q, fr_P q → q ≠ p → q ∣ n → q ∣ m
theorem wo_step {p r : Nat} (hp : fr_P p) (hr : 0 < r) (h : p ∣ r) : 0 < r / p ∧ r / p ∣ r ∧ 2 * (r / p) ≤ r ∧ ∀ q, fr_P q → q ≠ p → q ∣ r → q ∣ r / p := by
  obtain ⟨k, rfl⟩ := h
  have hp0 := hp.1
  rw [Nat.mul_div_cancel_left k (by omega)]
  have hk : 0 < k := by
    rcases Nat.eq_zero_or_pos k with z | z
    · rw [z, Nat.mul_zero] at hr; omega
    · exact z
  refine ⟨hk, Nat.dvd_mul_left k p, Nat.mul_le_mul_right k hp0, fun q hq hne hd => ?_⟩
  rcases np_euc hq hd with z | z
  · exact absurd (np_eq hp hq z) hne
  · exact z
/-- a divisor that isn't the whole has a factor beside it -/
theorem wo_le {p r m : Nat} (hp : fr_P p) (hr : 0 < r) (hd : p ∣ r) (hm : m ∣ r) (hn : ¬ p ∣ m) : p * m ≤ r := by
  obtain ⟨k, rfl⟩ := hm
  rcases np_euc hp hd with z | z
  · exact absurd z hn
  · have hk : 0 < k := by
      rcases Nat.eq_zero_or_pos k with y | y
      · rw [y, Nat.mul_zero] at hr; omega
      · exact y
    have := Nat.le_of_dvd hk z
    rw [Nat.mul_comm p m]
    exact Nat.mul_le_mul_left m this
/-- the list of the odd primes of n, rising -/
def oL (n : Nat) (l : List Nat) : Prop := l.Pairwise (fun x y => x < y) ∧ ∀ p, p ∈ l ↔ fr_P p ∧ 3 ≤ p ∧ p ∣ n
theorem oL.uniq {n : Nat} {l l' : List Nat} (h : oL n l) (h' : oL n l') : l = l' := by
  have gen : ∀ (l l' : List Nat), l.Pairwise (fun x y => x < y) → l'.Pairwise (fun x y => x < y) → (∀ p, p ∈ l ↔ p ∈ l') → l = l' := by
    intro l
    induction l with
    | nil =>
      intro l' _ _ hm
      cases l' with
      | nil => rfl
      | cons a t => exact absurd ((hm a).mpr List.mem_cons_self) (by simp)
    | cons a t ih =>
      intro l' h1 h2 hm
      cases l' with
      | nil => exact absurd ((hm a).mp List.mem_cons_self) (by simp)
      | cons b t' =>
        rw [List.pairwise_cons] at h1 h2
        have hab : a = b := by
          rcases List.mem_cons.mp ((hm a).mp List.mem_cons_self) with z | z
          · exact z
          · rcases List.mem_cons.mp ((hm b).mpr List.mem_cons_self) with y | y
            · exact y.symm
            · have := h2.1 a z
              have := h1.1 b y
              omega
        subst hab
        congr 1
        refine ih t' h1.2 h2.2 (fun p => ?_)
        constructor
        · intro hp
          have hlt := h1.1 p hp
          rcases List.mem_cons.mp ((hm p).mp (List.mem_cons_of_mem _ hp)) with z | z
          · omega
          · exact z
        · intro hp
          have hlt := h2.1 p hp
          rcases List.mem_cons.mp ((hm p).mpr (List.mem_cons_of_mem _ hp)) with z | z
          · omega
          · exact z
  exact gen l l' h.1 h'.1 (fun p => (h.2 p).trans (h'.2 p).symm)
def np_pr : List Nat → Nat
  | [] => 1
  | x :: l => x * np_pr l
theorem np_pr_app (l : List Nat) (p : Nat) : np_pr (l ++ [p]) = np_pr l * p := by
  induction l with
  | nil => show p * 1 = 1 * p; omega
  | cons a t ih =>
    show a * np_pr (t ++ [p]) = a * np_pr t * p
    rw [ih, Nat.mul_assoc]
/-- so large is a product of t different odd numbers at least -/
def np_df (t : Nat) : Nat := match t with
  | 0 => 1
  | 1 => 3
  | 2 => 15
  | 3 => 105
  | 4 => 945
  | 5 => 10395
  | _ => 135135
/-- the search at p: found l, left over r -/
def oI (n : Nat) (l : List Nat) (p r : Nat) : Prop :=
  (l.Pairwise (fun x y => x < y) ∧ (∀ q ∈ l, fr_P q ∧ 3 ≤ q ∧ q ∣ n ∧ q < p)) ∧ (∀ q, fr_P q → 3 ≤ q → q ∣ n → q ∈ l ∨ q ∣ r) ∧ (∀ q, fr_P q → 3 ≤ q → q ∣ r → p ≤ q) ∧
  (r ∣ n ∧ 0 < r) ∧ (p % 2 = 1 ∧ 2 * l.length + 3 ≤ p) ∧ (l.length ≤ 6 ∧ np_df l.length ≤ np_pr l ∧ np_pr l * r ≤ 1048576)
theorem oI.few {n : Nat} {l : List Nat} {p r : Nat} (h : oI n l p r) (hr : p ≤ r) : l.length ≤ 5 := by
  obtain ⟨-, -, -, -, ⟨-, h5⟩, h6, h7, h8⟩ := h
  rcases Nat.lt_or_ge l.length 6 with z | z
  · omega
  · exfalso
    have e : l.length = 6 := by omega
    rw [e] at h7 h5
    have h9 : np_df 6 = 135135 := rfl
    have := Nat.mul_le_mul (show 135135 ≤ np_pr l by omega) (show 15 ≤ r by omega)
    omega
theorem np_df_s {t p : Nat} (h : t ≤ 5) (hp : 2 * t + 3 ≤ p) {x : Nat} (hx : np_df t ≤ x) : np_df (t + 1) ≤ x * p := by
  have hm := Nat.mul_le_mul hx hp
  have : t = 0 ∨ t = 1 ∨ t = 2 ∨ t = 3 ∨ t = 4 ∨ t = 5 := by omega
  rcases this with rfl | rfl | rfl | rfl | rfl | rfl <;> exact Nat.le_trans (by decide) hm
/-- p goes into the rest: it is a prime -/
theorem oI.prime {n : Nat} {l : List Nat} {p r : Nat} (h : oI n l p r) (hd : p ∣ r) (h3 : 3 ≤ p) : fr_P p := by
  obtain ⟨q, hq, hqp⟩ := fr_pd _ p (Nat.le_refl _) (by omega)
  have q3 : 3 ≤ q := by
    have h2 := hq.1
    rcases Nat.lt_or_ge 2 q with z | z
    · omega
    · exfalso
      have e : q = 2 := by omega
      subst e
      have := Nat.mod_eq_zero_of_dvd hqp
      have := h.2.2.2.2.1.1
      omega
  have h1 := h.2.2.1 q hq q3 (Nat.dvd_trans hqp hd)
  have h2 := Nat.le_of_dvd (by omega) hqp
  have e : p = q := by omega
  rw [e]
  exact hq
theorem oI.add {n : Nat} {l : List Nat} {p r r' : Nat} (h : oI n l p r) (hd : p ∣ r) (h3 : 3 ≤ p) (hw : wo p r r') : oI n (l ++ [p]) (p + 2) r' := by
  have hp := h.prime hd h3
  obtain ⟨⟨h1, h2⟩, h4, h5, ⟨h6, h7⟩, ⟨h8, h9⟩, h10, h11, h12⟩ := id h
  have hlen := h.few (Nat.le_of_dvd h7 hd)
  obtain ⟨w1, w2, w3, w4⟩ := hw
  have hnd := Nat.dvd_trans hd h6
  refine ⟨⟨?_, ?_⟩, ?_, ?_, ⟨Nat.dvd_trans w2 h6, w1⟩, ⟨by omega, by rw [List.length_append]; show 2 * (l.length + 1) + 3 ≤ p + 2; omega⟩, by rw [List.length_append]; show l.length + 1 ≤ 6; omega, ?_, ?_⟩
  · rw [List.pairwise_append]
    exact ⟨h1, by simp, fun a ha b hb => by rw [List.mem_singleton.mp hb]; exact (h2 a ha).2.2.2⟩
  · intro q hq
    rcases List.mem_append.mp hq with z | z
    · obtain ⟨a, b, c, d⟩ := h2 q z
      exact ⟨a, b, c, by omega⟩
    · rw [List.mem_singleton.mp z]
      exact ⟨hp, h3, hnd, by omega⟩
  · intro q a b c
    rcases h4 q a b c with z | z
    · exact Or.inl (List.mem_append_left _ z)
    · by_cases e : q = p
      · left
        rw [e]
        exact List.mem_append_right _ (List.mem_singleton.mpr rfl)
      · exact Or.inr (w4 q a e z)
  · intro q a b c
    have z1 := h5 q a b (Nat.dvd_trans c w2)
    have z2 : q ≠ p := fun e => w3 (by rw [← e]; exact c)
    have z3 : q % 2 = 1 := by
      rcases Nat.mod_two_eq_zero_or_one q with y | y
      · rcases a.2 2 (Nat.dvd_of_mod_eq_zero y) with e | e <;> omega
      · exact y
    omega
  · rw [List.length_append, np_pr_app]
    exact np_df_s hlen h9 h11
  · rw [np_pr_app, Nat.mul_assoc]
    exact Nat.le_trans (Nat.mul_le_mul_left _ (wo_le hp h7 hd w2 w3)) h12
theorem oI.skip {n : Nat} {l : List Nat} {p r : Nat} (h : oI n l p r) (hd : ¬ p ∣ r) : oI n l (p + 2) r := by
  obtain ⟨⟨h1, h2⟩, h4, h5, h67, ⟨h8, h9⟩, h10⟩ := h
  refine ⟨⟨h1, fun q hq => ?_⟩, h4, fun q a b c => ?_, h67, ⟨by omega, by omega⟩, h10⟩
  · obtain ⟨a, b, c, d⟩ := h2 q hq
    exact ⟨a, b, c, by omega⟩
  · have z1 := h5 q a b c
    have z2 : q ≠ p := fun e => hd (by rw [← e]; exact c)
    have z3 : q % 2 = 1 := by
      rcases Nat.mod_two_eq_zero_or_one q with y | y
      · rcases a.2 2 (Nat.dvd_of_mod_eq_zero y) with e | e <;> omega
      · exact y
    omega
theorem oI_0 {n r : Nat} (h0 : 0 < n) (hn : n ≤ 1048576) (hw : wo 2 n r) : oI n [] 3 r := by
  obtain ⟨w1, w2, w3, w4⟩ := hw
  refine ⟨⟨List.Pairwise.nil, by simp⟩, fun q a b c => Or.inr (w4 q a (by omega) c), fun q a b c => b, ⟨w2, w1⟩, ⟨by decide, by decide⟩, by decide, by decide, ?_⟩
  have := Nat.le_of_dvd h0 w2
  show 1 * r ≤ 1048576
  omega
theorem oI_0' {n : Nat} (h0 : 0 < n) (hn : n ≤ 1048576) : oI n [] 3 n := by
  refine ⟨⟨List.Pairwise.nil, by simp⟩, fun q a b c => Or.inr c, fun q a b c => b, ⟨Nat.dvd_refl n, h0⟩, ⟨by decide, by decide⟩, by decide, by decide, ?_⟩
  show 1 * n ≤ 1048576
  omega
/-- nothing is left over -/
theorem oI.one {n : Nat} {l : List Nat} {p r : Nat} (h : oI n l p r) (hr : ∀ q, fr_P q → 3 ≤ q → ¬ q ∣ r) : oL n l := by
  obtain ⟨⟨h1, h2⟩, h4, -⟩ := h
  refine ⟨h1, fun q => ⟨fun hq => ⟨(h2 q hq).1, (h2 q hq).2.1, (h2 q hq).2.2.1⟩, fun hq => ?_⟩⟩
  rcases h4 q hq.1 hq.2.1 hq.2.2 with z | z
  · exact z
  · exact absurd z (hr q hq.1 hq.2.1)
theorem no_p1 (q : Nat) (hq : fr_P q) (_ : 3 ≤ q) : ¬ q ∣ 1 := by
  intro h
  have := Nat.le_of_dvd (by decide) h
  omega
/-- an odd rest without small primes is a prime -/
theorem oI.last {n : Nat} {l : List Nat} {p r : Nat} (h : oI n l p r) (h2 : ¬ 2 ∣ r) (hr : 1 < r) (hpp : r < p * p) : fr_P r ∧ p ≤ r := by
  have h5 := h.2.2.1
  have big : ∀ d, d ∣ r → d ≠ 1 → p ≤ d := by
    intro d hd h1
    have d0 : d ≠ 0 := by
      intro z
      rw [z] at hd
      have := Nat.eq_zero_of_zero_dvd hd
      omega
    obtain ⟨q, hq, hqd⟩ := fr_pd _ d (Nat.le_refl _) (by omega)
    have q3 : 3 ≤ q := by
      have h2' := hq.1
      rcases Nat.lt_or_ge 2 q with z | z
      · omega
      · exfalso
        have e : q = 2 := by omega
        rw [e] at hqd
        exact h2 (Nat.dvd_trans hqd hd)
    have := h5 q hq q3 (Nat.dvd_trans hqd hd)
    have := Nat.le_of_dvd (by omega) hqd
    omega
  refine ⟨⟨by omega, fun d hd => ?_⟩, big r (Nat.dvd_refl r) (by omega)⟩
  by_cases e1 : d = 1
  · exact Or.inl e1
  · right
    obtain ⟨k, hk⟩ := hd
    by_cases ek : k = 1
    · rw [ek, Nat.mul_one] at hk
      exact hk.symm
    · exfalso
      have b1 := big d ⟨k, hk⟩ e1
      have b2 := big k ⟨d, by rw [hk, Nat.mul_comm]⟩ ek
      have := Nat.mul_le_mul b1 b2
      omega
theorem oI.fin {n : Nat} {l : List Nat} {p r : Nat} (h : oI n l p r) (hr : fr_P r) (h3 : 3 ≤ r) (hpr : p ≤ r) : oL n (l ++ [r]) ∧ l.length ≤ 5 := by
  have hlen := h.few hpr
  obtain ⟨⟨h1, h2⟩, h4, h5, ⟨h6, h7⟩, -⟩ := h
  refine ⟨⟨?_, fun q => ⟨fun hq => ?_, fun hq => ?_⟩⟩, hlen⟩
  · rw [List.pairwise_append]
    exact ⟨h1, by simp, fun a ha b hb => by rw [List.mem_singleton.mp hb]; have := (h2 a ha).2.2.2; omega⟩
  · rcases List.mem_append.mp hq with z | z
    · exact ⟨(h2 q z).1, (h2 q z).2.1, (h2 q z).2.2.1⟩
    · rw [List.mem_singleton.mp z]
      exact ⟨hr, h3, h6⟩
  · rcases h4 q hq.1 hq.2.1 hq.2.2 with z | z
    · exact List.mem_append_left _ z
    · rw [np_eq hr hq.1 z]
      exact List.mem_append_right _ (List.mem_singleton.mpr rfl)
/-- a row of numbers holds a list -/
def lH (F : Nat → Int) (l : List Nat) : Prop := ∀ i : Nat, i < l.length → F i = (l.getD i 0 : Nat)
theorem lH_add {F : Nat → Int} {l : List Nat} (h : lH F l) (p : Nat) : lH (fU F l.length p) (l ++ [p]) := by
  intro i hi
  rw [List.length_append] at hi
  have hi' : i < l.length + 1 := hi
  by_cases e : i = l.length
  · subst e
    rw [fU_self]
    simp [List.getD]
  · rw [fU_ne _ _ e, h i (by omega)]
    simp [List.getD, List.getElem?_append_left (show i < l.length by omega)]
theorem lH_0 (F : Nat → Int) : lH F [] := fun i h => absurd h (by simp)
theorem np_i {i r : Nat} (hr : 0 < r) (h : 2 ^ i * r ≤ 1048576) : i ≤ 20 := by
  rcases Nat.lt_or_ge 20 i with z | z
  · exfalso
    have h1 := Nat.pow_le_pow_right (show 0 < 2 by decide) (show 21 ≤ i by omega)
    have h2 := Nat.mul_le_mul h1 (show 1 ≤ r by omega)
    have : (2 : Nat) ^ 21 = 2097152 := by decide
    omega
  · exact z
theorem np_is {i r q : Nat} (h : 2 ^ i * r ≤ 1048576) (hq : 2 * q ≤ r) : 2 ^ (i + 1) * q ≤ 1048576 := by
  rw [Nat.pow_succ, Nat.mul_assoc]
  exact Nat.le_trans (Nat.mul_le_mul_left _ hq) h
theorem np_md {r p : Nat} : ((r : Int) % (p : Int) = 0) ↔ p ∣ r := by
  rw [← Int.natCast_dvd_natCast]
  exact ⟨Int.dvd_of_emod_eq_zero, Int.emod_eq_zero_of_dvd⟩
