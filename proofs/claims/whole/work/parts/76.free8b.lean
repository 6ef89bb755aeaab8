/-! The search for even numbers, put together. -/
theorem q_tr {p : Nat} {t : Int} (hp : 210 = (p : Int) * t) (p0 : 0 < p) {a b c : Int} {x : Nat × Nat} (h : q_nr p (a % p).toNat (b % p).toNat (c % p).toNat x = true) : ¬ (p : Int) ∣ q_f a b c (q_P x) := by
  intro hd
  unfold q_nr at h
  have hp0 : (p : Int) ≠ 0 := by omega
  have ea := Int.emod_add_mul_ediv a p
  have eb := Int.emod_add_mul_ediv b p
  have ec := Int.emod_add_mul_ediv c p
  have na : ((a % p).toNat : Int) = a % p := Int.toNat_of_nonneg (Int.emod_nonneg _ hp0)
  have nb : ((b % p).toNat : Int) = b % p := Int.toNat_of_nonneg (Int.emod_nonneg _ hp0)
  have nc : ((c % p).toNat : Int) = c % p := Int.toNat_of_nonneg (Int.emod_nonneg _ hp0)
  generalize (a % p).toNat = a' at *
  generalize (b % p).toNat = b' at *
  generalize (c % p).toNat = c' at *
  rw [← na] at ea
  rw [← nb] at eb
  rw [← nc] at ec
  generalize a / (p : Int) = a2 at *
  generalize b / (p : Int) = b2 at *
  generalize c / (p : Int) = c2 at *
  obtain ⟨X, y⟩ := x
  unfold q_f q_P at hd
  dsimp only at h hd
  have e : a * (((X : Int) - 210) * ((X : Int) - 210)) + b * (((X : Int) - 210) * (y : Int)) + c * ((y : Int) * (y : Int)) = ((a' * (X * X) + b' * (X * y) + c' * (y * y) : Nat) : Int) + p * (a2 * (X * X) - 2 * (a * (X * t)) + a * (p * (t * t)) + b2 * (X * y) - b * (t * y) + c2 * (y * y)) := by
    rw [hp]
    push_cast
    clear hd h na nb nc hp
    generalize (a' : Int) = a3 at *
    generalize (b' : Int) = b3 at *
    generalize (c' : Int) = c3 at *
    generalize (X : Int) = x1 at *
    generalize (y : Int) = y1 at *
    generalize (p : Int) = p1 at *
    subst ea
    subst eb
    subst ec
    grind
  rw [e] at hd
  have h1 : (p : Int) ∣ ((a' * (X * X) + b' * (X * y) + c' * (y * y) : Nat) : Int) := (Int.dvd_add_left (Int.dvd_mul_right _ _)).mp hd
  have h2 := Nat.mod_eq_zero_of_dvd (Int.natCast_dvd_natCast.mp h1)
  rw [h2] at h
  exact absurd h (by decide)
theorem q_pp {p m : Nat} (hp : fr_P p) : ∀ k, p ∣ m ^ k → p ∣ m := by
  intro k
  induction k with
  | zero =>
    intro h
    rw [Nat.pow_zero] at h
    have := Nat.le_of_dvd (by decide) h
    have := hp.1
    omega
  | succ k ih =>
    intro h
    rw [Nat.pow_succ] at h
    rcases np_euc hp h with z | z
    · exact ih z
    · exact z
theorem q_smp {p m : Nat} (hp : fr_P p) (hm : ¬ p ∣ m) {x y : Nat × Nat} (h : q_sm m x y = true) : ¬ (p : Int) ∣ q_d (q_P x) (q_P y) := by
  intro hd
  unfold q_sm at h
  rw [Bool.and_eq_true] at h
  have h1 : p ∣ (q_d (q_P x) (q_P y)).natAbs := by
    have z := Int.natAbs_dvd_natAbs.mpr hd
    rwa [Int.natAbs_natCast] at z
  have h2 : (q_d (q_P x) (q_P y)).natAbs ∣ m ^ 10 := Nat.dvd_of_mod_eq_zero (by simpa using h.2)
  exact hm (q_pp hp 10 (Nat.dvd_trans h1 h2))
theorem q_30 {p : Nat} (hp : fr_P p) (h : 7 ≤ p) : ¬ p ∣ 30 := by
  intro hd
  rcases np_euc hp (show p ∣ 2 * 15 from hd) with z | z
  · have := Nat.le_of_dvd (by decide) z; omega
  · rcases np_euc hp (show p ∣ 3 * 5 from z) with z | z
    · have := Nat.le_of_dvd (by decide) z; omega
    · have := Nat.le_of_dvd (by decide) z; omega
theorem q_210 {p : Nat} (hp : fr_P p) (h : 8 ≤ p) : ¬ p ∣ 210 := by
  intro hd
  rcases np_euc hp (show p ∣ 7 * 30 from hd) with z | z
  · have := Nat.le_of_dvd (by decide) z; omega
  · exact q_30 hp (by omega) z
theorem q_pw_ok {m : Nat} {R : Nat × Nat → Nat × Nat → Prop} (hR : ∀ q r, q_sm m q r = true → R q r) : ∀ l, q_pw m l = true → l.Pairwise R
  | [], _ => List.Pairwise.nil
  | x :: l, h => by
    unfold q_pw at h
    rw [Bool.and_eq_true, List.all_eq_true] at h
    exact List.pairwise_cons.mpr ⟨fun y hy => hR _ _ (h.1 y hy), q_pw_ok hR l h.2⟩
theorem q_core {a b c : Int} {n par m k : Nat} {T : List Nat} {l : List (Nat × Nat)} (n1 : 1 ≤ n) (n2 : n ≤ 1024) (one : ∀ p, fr_P p → ¬ ((p : Int) ∣ a ∧ (p : Int) ∣ b ∧ (p : Int) ∣ c)) (hl : q_tb m k par l = true) (hT : ∀ q ∈ l, ∀ t ∈ T, ¬ (t : Int) ∣ q_f a b c (q_P q)) (hB : ∀ p, fr_P p → 3 ≤ p → p ∣ n → p ∉ T → ¬ p ∣ m) (hk : 2 * (q_S n T).length + 1 ≤ k) (ha : a % 2 = 0) (hb : b % 2 = 1) (hpar : (par : Int) = c % 2) : ∃ x, q_rg x = true ∧ q_f a b c (q_P x) % 2 = 1 ∧ ∀ p, fr_P p → 3 ≤ p → p ∣ n → ¬ (p : Int) ∣ q_f a b c (q_P x) := by
  unfold q_tb at hl
  rw [Bool.and_eq_true, Bool.and_eq_true, List.all_eq_true] at hl
  obtain ⟨⟨l1, l2⟩, l3⟩ := hl
  have l1 := Nat.le_of_ble_eq_true l1
  have hS : ∀ q ∈ q_S n T, fr_P q ∧ 3 ≤ q ∧ q ∣ n ∧ q ∉ T := by
    intro q hq
    unfold q_S at hq
    obtain ⟨h1, h2⟩ := List.mem_filter.mp hq
    rw [Bool.and_eq_true] at h2
    obtain ⟨h3, h4⟩ := fr_odds_ok h1
    exact ⟨h3, h4, Nat.dvd_of_mod_eq_zero (by simpa using h2.1), by simpa using h2.2⟩
  obtain ⟨x, hx, hu⟩ := q_surv (a := a) (b := b) (c := c) (q_S n T) l (fun q hq => by
    obtain ⟨s1, s2, s3, s4⟩ := hS q hq
    exact ⟨s1, one q s1, q_pw_ok (fun _ _ h => q_smp s1 (hB q s1 s2 s3 s4) h) l l2⟩) (by omega)
  have h3 := l3 x hx
  rw [Bool.and_eq_true, Bool.and_eq_true] at h3
  obtain ⟨⟨g1, g2⟩, g3⟩ := h3
  refine ⟨x, g1, ?_, fun p hp p3 hpn => ?_⟩
  · have y1 : x.2 % 2 = 1 := by simpa using g2
    have x1 : (x.1 + par) % 2 = 1 := by simpa using g3
    unfold q_f q_P
    dsimp only
    have y2 : (x.2 : Int) % 2 = 1 := by omega
    have e1 : (a * (((x.1 : Int) - 210) * ((x.1 : Int) - 210))) % 2 = 0 := by rw [Int.mul_emod, ha]; simp
    have e2 : (b * (((x.1 : Int) - 210) * (x.2 : Int))) % 2 = ((x.1 : Int) - 210) % 2 := by rw [Int.mul_emod, hb, Int.mul_emod _ (x.2 : Int), y2]; simp
    have e3 : (c * ((x.2 : Int) * (x.2 : Int))) % 2 = c % 2 := by rw [Int.mul_emod, Int.mul_emod (x.2 : Int) (x.2 : Int), y2]; simp
    omega
  · by_cases ht : p ∈ T
    · exact hT x hx p ht
    · refine hu p ?_
      unfold q_S
      rw [List.mem_filter, Bool.and_eq_true]
      exact ⟨fr_odds_in hp p3 (Nat.le_trans (Nat.le_of_dvd n1 hpn) n2), by simpa using Nat.mod_eq_zero_of_dvd hpn, by simpa using ht⟩
theorem q_not4 {q : Nat} (h : fr_P q) : q ≠ 4 := by
  intro e
  rw [e] at h
  exact absurd (h.2 2 (by decide)) (by decide)
theorem q_not6 {q : Nat} (h : fr_P q) : q ≠ 6 := by
  intro e
  rw [e] at h
  exact absurd (h.2 2 (by decide)) (by decide)
theorem q_all {n : Nat} {P : Nat → Bool} (h : ((List.range n).all P) = true) {k : Nat} (hk : k < n) : P k = true := (List.all_eq_true.mp h) k (List.mem_range.mpr hk)
theorem q_res {p : Nat} (hp : 0 < p) (a : Int) : (a % p).toNat < p := by
  have h1 := Int.emod_nonneg a (show (p : Int) ≠ 0 by omega)
  have h2 := Int.emod_lt_of_pos a (show (0 : Int) < p by omega)
  omega
theorem q_nz {p : Nat} (hp : 0 < p) {a b c : Int} (h : ¬ ((p : Int) ∣ a ∧ (p : Int) ∣ b ∧ (p : Int) ∣ c)) : ((a % p).toNat == 0 && (b % p).toNat == 0 && (c % p).toNat == 0) = false := by
  apply Bool.eq_false_iff.mpr
  intro q
  rw [Bool.and_eq_true, Bool.and_eq_true] at q
  have h0 : ∀ x : Int, ((x % p).toNat == 0) = true → (p : Int) ∣ x := by
    intro x hx
    have h1 := Int.emod_nonneg x (show (p : Int) ≠ 0 by omega)
    have h2 : (x % p).toNat = 0 := by simpa using hx
    exact Int.dvd_of_emod_eq_zero (by omega)
  exact h ⟨h0 a q.1.1, h0 b q.1.2, h0 c q.2⟩
theorem fr_P7 : fr_P 7 := ⟨by decide, fun d hd => by
  have h := Nat.le_of_dvd (by decide) hd
  match d, h with
  | 0, _ => exact absurd hd (by decide)
  | 1, _ => exact Or.inl rfl
  | 2, _ => exact absurd hd (by decide)
  | 3, _ => exact absurd hd (by decide)
  | 4, _ => exact absurd hd (by decide)
  | 5, _ => exact absurd hd (by decide)
  | 6, _ => exact absurd hd (by decide)
  | 7, _ => exact Or.inr rfl
  | d + 8, h => exact absurd h (by omega)⟩
theorem fr_eo {a b c : Int} {n : Nat} (n1 : 1 ≤ n) (n2 : n ≤ 1024) (he : n % 2 = 0) (ha : a % 2 = 0) (hb : b % 2 = 1) (one : ∀ p, fr_P p → ¬ ((p : Int) ∣ a ∧ (p : Int) ∣ b ∧ (p : Int) ∣ c)) : ∃ x, q_rg x = true ∧ q_f a b c (q_P x) % 2 = 1 ∧ ∀ p, fr_P p → 3 ≤ p → p ∣ n → ¬ (p : Int) ∣ q_f a b c (q_P x) := by
  obtain ⟨par, hpar⟩ : ∃ par : Nat, (par : Int) = c % 2 := ⟨(c % 2).toNat, by omega⟩
  have hp2 : par < 2 := by omega
  have hn := q_all q_S_n (k := n) (by omega)
  have z3 := q_nz (p := 3) (by decide) (one 3 fr_P3)
  have z5 := q_nz (p := 5) (by decide) (one 5 fr_P5)
  have z7 := q_nz (p := 7) (by decide) (one 7 fr_P7)
  rw [show (n == 0) = false from by simpa using (show n ≠ 0 by omega), show (n % 2 == 1) = false from by simpa using (show n % 2 ≠ 1 by omega), Bool.false_or, Bool.false_or] at hn
  have t3 : ∀ {x : Nat × Nat}, q_nr 3 (a % (3 : Nat)).toNat (b % (3 : Nat)).toNat (c % (3 : Nat)).toNat x = true → ¬ ((3 : Nat) : Int) ∣ q_f a b c (q_P x) := fun h => q_tr (t := 70) (by decide) (by decide) h
  have t5 : ∀ {x : Nat × Nat}, q_nr 5 (a % (5 : Nat)).toNat (b % (5 : Nat)).toNat (c % (5 : Nat)).toNat x = true → ¬ ((5 : Nat) : Int) ∣ q_f a b c (q_P x) := fun h => q_tr (t := 42) (by decide) (by decide) h
  have t7 : ∀ {x : Nat × Nat}, q_nr 7 (a % (7 : Nat)).toNat (b % (7 : Nat)).toNat (c % (7 : Nat)).toNat x = true → ¬ ((7 : Nat) : Int) ∣ q_f a b c (q_P x) := fun h => q_tr (t := 30) (by decide) (by decide) h
  have i3 := q_all (q_all (q_all (q_all q_t3_in hp2) (q_res (p := 3) (by decide) a)) (q_res (p := 3) (by decide) b)) (q_res (p := 3) (by decide) c)
  have i5 := q_all (q_all (q_all (q_all q_t5_in hp2) (q_res (p := 5) (by decide) a)) (q_res (p := 5) (by decide) b)) (q_res (p := 5) (by decide) c)
  have i35 := q_all (q_all (q_all (q_all q_t35_in hp2) (q_res (p := 3) (by decide) a)) (q_res (p := 3) (by decide) b)) (q_res (p := 3) (by decide) c)
  have is := q_all (q_all (q_all q_ts_in (q_res (p := 3) (by decide) a)) (q_res (p := 3) (by decide) b)) (q_res (p := 3) (by decide) c)
  have is7 := q_all (q_all (q_all q_ts7_in (q_res (p := 3) (by decide) a)) (q_res (p := 3) (by decide) b)) (q_res (p := 3) (by decide) c)
  rw [z3, Bool.false_or] at i3 i35 is is7
  rw [z5, Bool.false_or] at i5
  by_cases d3 : n % 3 = 0
  · rw [if_pos (by simpa using d3)] at hn
    by_cases d5 : n % 5 = 0
    · rw [if_pos (by simpa using d5)] at hn
      have j := q_all (q_all (q_all i35 (q_res (p := 5) (by decide) a)) (q_res (p := 5) (by decide) b)) (q_res (p := 5) (by decide) c)
      rw [z5, Bool.false_or, List.any_eq_true] at j
      obtain ⟨l, hl, hj⟩ := j
      rw [List.all_eq_true] at hj
      refine q_core (T := [3, 5]) n1 n2 one ((List.all_eq_true.mp (q_all q_t35_ok hp2)) l hl) (fun q hq t ht => ?_) (fun p hp p3 hpn hpT => ?_) (by have := Nat.le_of_ble_eq_true hn; omega) ha hb hpar
      · have := hj q hq
        rw [Bool.and_eq_true] at this
        simp only [List.mem_cons, List.not_mem_nil, or_false] at ht
        rcases ht with e | e
        · rw [e]; exact t3 this.1
        · rw [e]; exact t5 this.2
      · simp only [List.mem_cons, List.not_mem_nil, or_false, not_or] at hpT
        have := q_not4 hp
        have := q_not6 hp
        exact q_30 hp (by omega)
    · rw [if_neg (by simpa using d5), Bool.and_eq_true] at hn
      have no5 : ∀ p, p ∣ n → p ≠ 5 := fun p hp e => d5 (Nat.mod_eq_zero_of_dvd (e ▸ hp))
      cases hsp : q_sp par (a % (3 : Nat)).toNat (b % (3 : Nat)).toNat (c % (3 : Nat)).toNat with
      | false =>
        rw [hsp, Bool.false_or, List.any_eq_true] at i3
        obtain ⟨l, hl, hj⟩ := i3
        rw [List.all_eq_true] at hj
        refine q_core (T := [3]) n1 n2 one ((List.all_eq_true.mp (q_all q_t3_ok hp2)) l hl) (fun q hq t ht => ?_) (fun p hp p3 hpn hpT => ?_) (by have := Nat.le_of_ble_eq_true hn.1; omega) ha hb hpar
        · simp only [List.mem_cons, List.not_mem_nil, or_false] at ht
          rw [ht]
          exact t3 (hj q hq)
        · simp only [List.mem_cons, List.not_mem_nil, or_false] at hpT
          have := q_not4 hp
          have := q_not6 hp
          have := no5 p hpn
          exact q_30 hp (by omega)
      | true =>
        have hpe : par = 0 := by
          unfold q_sp at hsp
          rw [Bool.and_eq_true, Bool.and_eq_true] at hsp
          simpa using hsp.1.1
        subst hpe
        rw [hsp, Bool.not_true, Bool.false_or] at is is7
        by_cases d7 : n % 7 = 0
        · have j := q_all (q_all (q_all is7 (q_res (p := 7) (by decide) a)) (q_res (p := 7) (by decide) b)) (q_res (p := 7) (by decide) c)
          rw [z7, Bool.false_or, List.any_eq_true] at j
          obtain ⟨l, hl, hj⟩ := j
          rw [List.all_eq_true] at hj
          have h7 := hn.2
          rw [show (n % 7 != 0) = false from by simpa using d7, Bool.false_or] at h7
          refine q_core (T := [3, 7]) n1 n2 one ((List.all_eq_true.mp q_ts7_ok) l hl) (fun q hq t ht => ?_) (fun p hp p3 hpn hpT => ?_) (by have := Nat.le_of_ble_eq_true h7; omega) ha hb hpar
          · have := hj q hq
            rw [Bool.and_eq_true] at this
            simp only [List.mem_cons, List.not_mem_nil, or_false] at ht
            rcases ht with e | e
            · rw [e]; exact t3 this.1
            · rw [e]; exact t7 this.2
          · simp only [List.mem_cons, List.not_mem_nil, or_false, not_or] at hpT
            have := q_not4 hp
            have := q_not6 hp
            have := no5 p hpn
            exact q_210 hp (by omega)
        · rw [List.any_eq_true] at is
          obtain ⟨l, hl, hj⟩ := is
          rw [List.all_eq_true] at hj
          have no7 : ∀ p, p ∣ n → p ≠ 7 := fun p hp e => d7 (Nat.mod_eq_zero_of_dvd (e ▸ hp))
          refine q_core (T := [3]) n1 n2 one ((List.all_eq_true.mp q_ts_ok) l hl) (fun q hq t ht => ?_) (fun p hp p3 hpn hpT => ?_) (by have := Nat.le_of_ble_eq_true hn.1; omega) ha hb hpar
          · simp only [List.mem_cons, List.not_mem_nil, or_false] at ht
            rw [ht]
            exact t3 (hj q hq)
          · simp only [List.mem_cons, List.not_mem_nil, or_false] at hpT
            have := q_not4 hp
            have := q_not6 hp
            have := no5 p hpn
            have := no7 p hpn
            exact q_210 hp (by omega)
  · rw [if_neg (by simpa using d3)] at hn
    have no3 : ∀ p, p ∣ n → p ≠ 3 := fun p hp e => d3 (Nat.mod_eq_zero_of_dvd (e ▸ hp))
    by_cases d5 : n % 5 = 0
    · rw [if_pos (by simpa using d5)] at hn
      rw [List.any_eq_true] at i5
      obtain ⟨l, hl, hj⟩ := i5
      rw [List.all_eq_true] at hj
      refine q_core (T := [5]) n1 n2 one ((List.all_eq_true.mp (q_all q_t5_ok hp2)) l hl) (fun q hq t ht => ?_) (fun p hp p3 hpn hpT => ?_) (by have := Nat.le_of_ble_eq_true hn; omega) ha hb hpar
      · simp only [List.mem_cons, List.not_mem_nil, or_false] at ht
        rw [ht]
        exact t5 (hj q hq)
      · simp only [List.mem_cons, List.not_mem_nil, or_false] at hpT
        have := q_not4 hp
        have := q_not6 hp
        have := no3 p hpn
        exact q_30 hp (by omega)
    · rw [if_neg (by simpa using d5)] at hn
      have no5 : ∀ p, p ∣ n → p ≠ 5 := fun p hp e => d5 (Nat.mod_eq_zero_of_dvd (e ▸ hp))
      have h0 := q_all q_t0_ok hp2
      have : ∃ l, l ∈ q_t0 par := by
        match par, hp2 with
        | 0, _ => exact ⟨_, List.mem_cons_self⟩
        | 1, _ => exact ⟨_, List.mem_cons_self⟩
      obtain ⟨l, hl⟩ := this
      refine q_core (T := []) n1 n2 one ((List.all_eq_true.mp h0) l hl) (fun q hq t ht => absurd ht (by simp)) (fun p hp p3 hpn hpT => ?_) (by have := Nat.le_of_ble_eq_true hn; omega) ha hb hpar
      have := q_not4 hp
      have := q_not6 hp
      have := no3 p hpn
      have := no5 p hpn
      exact q_30 hp (by omega)
def fv1 (a b c k : Int) : Int := a * (k * k) + b * k + c
def fv2 (a b c k y : Int) : Int := a * ((k * y - 1) * (k * y - 1)) + b * ((k * y - 1) * y) + c * (y * y)
def fgd (a b c n y k : Int) : Prop := Int.gcd (fv1 a b c k) n = 1 ∨ Int.gcd (fv2 a b c k y) n = 1
/-- the reference's search ends at y = 8 at the latest -/
theorem fr_form8 {a b c n : Int} (hp : fm_pr (a, b, c)) (h0 : n ≠ 0) (hn : fm_ab n ≤ 1024) : ∃ y k : Int, 0 ≤ y ∧ y ≤ 8 ∧ -y ≤ k ∧ k ≤ y ∧ fgd a b c n y k := by
  obtain ⟨m, hm⟩ : ∃ m : Nat, m = n.natAbs := ⟨_, rfl⟩
  have m1 : 1 ≤ m := by omega
  have m2 : m ≤ 1024 := by rcases fm_ab_cases n with k | k <;> omega
  have hg : ∀ v : Int, Int.gcd v m = 1 → Int.gcd v n = 1 := by
    intro v hv
    rw [hm] at hv
    rw [← hv]
    unfold Int.gcd
    simp
  have one : ∀ p, fr_P p → ¬ ((p : Int) ∣ a ∧ (p : Int) ∣ b ∧ (p : Int) ∣ c) := by
    rintro p hp' ⟨d1, d2, d3⟩
    have := fm_pr_of hp d1 d2 d3
    exact fr_nd (p := p) (x := 1) (by decide) (by have := hp'.1; omega) (by have := hp'.1; omega) this
  unfold fgd fv1 fv2
  by_cases ev : m % 2 = 1
  · obtain ⟨x, x1, x2, x3⟩ := fr_main m1 m2 (A := a) (B := b) (C := c) (fun p hp' _ _ => one p hp')
    exact ⟨7, x, by decide, by decide, by omega, by omega, Or.inl (hg _ (fr_cop m1 (Or.inl ev) x3))⟩
  · by_cases a1 : a % 2 = 1
    · obtain ⟨x, x1, x2, x3⟩ := fr_main m1 m2 (A := 2 * (2 * (2 * (2 * (2 * (2 * a)))))) (B := 2 * (2 * (2 * (2 * (4 * b - a))))) (C := a - 8 * b + 64 * c) (fun p hp' h3 _ h => by
        have da := fr_dvd2 hp' h3 (fr_dvd2 hp' h3 (fr_dvd2 hp' h3 (fr_dvd2 hp' h3 (fr_dvd2 hp' h3 (fr_dvd2 hp' h3 h.1)))))
        have db : (p : Int) ∣ b := by
          have t := fr_dvd2 hp' h3 (fr_dvd2 hp' h3 (fr_dvd2 hp' h3 (fr_dvd2 hp' h3 h.2.1)))
          have := Int.dvd_add t da
          have e : 4 * b - a + a = 2 * (2 * b) := by omega
          rw [e] at this
          exact fr_dvd2 hp' h3 (fr_dvd2 hp' h3 this)
        have dc : (p : Int) ∣ c := by
          have := Int.dvd_add (Int.dvd_sub h.2.2 da) (Int.dvd_trans db (Int.dvd_mul_left 8 b))
          have e : a - 8 * b + 64 * c - a + 8 * b = 2 * (2 * (2 * (2 * (2 * (2 * c))))) := by omega
          rw [e] at this
          exact fr_dvd2 hp' h3 (fr_dvd2 hp' h3 (fr_dvd2 hp' h3 (fr_dvd2 hp' h3 (fr_dvd2 hp' h3 (fr_dvd2 hp' h3 this)))))
        exact one p hp' ⟨da, db, dc⟩)
      have e : a * ((x * 8 - 1) * (x * 8 - 1)) + b * ((x * 8 - 1) * 8) + c * (8 * 8) = fr_g (2 * (2 * (2 * (2 * (2 * (2 * a)))))) (2 * (2 * (2 * (2 * (4 * b - a))))) (a - 8 * b + 64 * c) x := by
        unfold fr_g
        grind
      refine ⟨8, x, by decide, by decide, by omega, by omega, Or.inr (hg _ (fr_cop m1 (Or.inr ?_) (by rw [e]; exact x3)))⟩
      have e2 : a * ((x * 8 - 1) * (x * 8 - 1)) + b * ((x * 8 - 1) * 8) + c * (8 * 8) = 2 * (32 * (a * (x * x)) - 8 * (a * x) + 4 * (b * (x * 8 - 1)) + 32 * c) + a := by grind
      omega
    · by_cases b1 : b % 2 = 1
      · obtain ⟨⟨X, y⟩, g1, g2, g3⟩ := fr_eo m1 m2 (by omega) (by omega) b1 one
        have hc := hg _ (fr_cop m1 (Or.inr g2) g3)
        unfold q_f q_P at hc
        dsimp only at hc
        unfold q_rg at g1
        rw [Bool.or_eq_true] at g1
        rcases g1 with g | g
        · rw [Bool.and_eq_true, Bool.and_eq_true] at g
          have y1 : y = 1 := by simpa using g.1.1
          have u1 := Nat.le_of_ble_eq_true g.1.2
          have u2 := Nat.le_of_ble_eq_true g.2
          dsimp only at u1 u2
          refine ⟨8, (X : Int) - 210, by decide, by decide, by omega, by omega, Or.inl ?_⟩
          rw [y1] at hc
          rw [← hc]
          congr 1
          have : ((1 : Nat) : Int) = 1 := rfl
          rw [this, Int.mul_one, Int.mul_one, Int.mul_one]
        · rw [Bool.and_eq_true, Bool.and_eq_true, List.any_eq_true] at g
          obtain ⟨⟨v1, v2⟩, j, -, hj⟩ := g
          rw [Bool.and_eq_true, Bool.and_eq_true] at hj
          have v1 := Nat.le_of_ble_eq_true v1
          have v2 := Nat.le_of_ble_eq_true v2
          have w1 := Nat.le_of_ble_eq_true hj.1.1
          have w2 := Nat.le_of_ble_eq_true hj.1.2
          have w3 : X + 1 + 8 * y = 210 + j * y := by simpa using hj.2
          dsimp only at v1 v2 w1 w2
          refine ⟨(y : Int), (j : Int) - 8, by omega, by omega, by omega, by omega, Or.inr ?_⟩
          have e : ((j : Int) - 8) * (y : Int) - 1 = (X : Int) - 210 := by
            have e6 : ((j * y : Nat) : Int) = (j : Int) * (y : Int) := Int.natCast_mul j y
            generalize j * y = z at w3 e6
            have e5 : ((j : Int) - 8) * (y : Int) = (j : Int) * y - 8 * y := Int.sub_mul _ _ _
            omega
          rw [e]
          exact hc
      · have c1 : c % 2 = 1 := by
          apply Classical.byContradiction
          intro c0
          have := fm_pr_of (e := 2) hp (by show (2 : Int) ∣ a; omega) (by show (2 : Int) ∣ b; omega) (by show (2 : Int) ∣ c; omega)
          omega
        obtain ⟨x, x1, x2, x3⟩ := fr_main m1 m2 (A := a) (B := b) (C := c) (fun p hp' _ _ => one p hp')
        refine ⟨7, x, by decide, by decide, by omega, by omega, Or.inl (hg _ (fr_cop m1 (Or.inr ?_) x3))⟩
        have e1 : (a * (x * x)) % 2 = 0 := by rw [Int.mul_emod, show a % 2 = 0 by omega]; simp
        have e2 : (b * x) % 2 = 0 := by rw [Int.mul_emod, show b % 2 = 0 by omega]; simp
        unfold fr_g at x3
        omega
