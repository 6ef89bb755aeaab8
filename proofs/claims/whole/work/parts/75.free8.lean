/-! The search again, for even numbers: points of at most 8, by the roots modulo 3, 5 and 7. -/
def q_f (a b c : Int) (p : Int × Int) : Int := a * (p.1 * p.1) + b * (p.1 * p.2) + c * (p.2 * p.2)
def q_d (p r : Int × Int) : Int := p.1 * r.2 - r.1 * p.2
theorem q_id1 (a b c x1 y1 x2 y2 x3 y3 : Int) : a * ((x1 * y2 - x2 * y1) * ((x1 * y3 - x3 * y1) * (x2 * y3 - x3 * y2))) = (a * (x1 * x1) + b * (x1 * y1) + c * (y1 * y1)) * (y2 * y3 * (x2 * y3 - x3 * y2)) - (a * (x2 * x2) + b * (x2 * y2) + c * (y2 * y2)) * (y1 * y3 * (x1 * y3 - x3 * y1)) + (a * (x3 * x3) + b * (x3 * y3) + c * (y3 * y3)) * (y1 * y2 * (x1 * y2 - x2 * y1)) := by grind
theorem q_id2 (a b c x1 y1 x2 y2 x3 y3 : Int) : b * ((x1 * y2 - x2 * y1) * ((x1 * y3 - x3 * y1) * (x2 * y3 - x3 * y2))) = -((a * (x1 * x1) + b * (x1 * y1) + c * (y1 * y1)) * ((y2 * x3 + x2 * y3) * (x2 * y3 - x3 * y2))) + (a * (x2 * x2) + b * (x2 * y2) + c * (y2 * y2)) * ((y1 * x3 + x1 * y3) * (x1 * y3 - x3 * y1)) - (a * (x3 * x3) + b * (x3 * y3) + c * (y3 * y3)) * ((y1 * x2 + x1 * y2) * (x1 * y2 - x2 * y1)) := by grind
theorem q_id3 (a b c x1 y1 x2 y2 x3 y3 : Int) : c * ((x1 * y2 - x2 * y1) * ((x1 * y3 - x3 * y1) * (x2 * y3 - x3 * y2))) = (a * (x1 * x1) + b * (x1 * y1) + c * (y1 * y1)) * (x2 * x3 * (x2 * y3 - x3 * y2)) - (a * (x2 * x2) + b * (x2 * y2) + c * (y2 * y2)) * (x1 * x3 * (x1 * y3 - x3 * y1)) + (a * (x3 * x3) + b * (x3 * y3) + c * (y3 * y3)) * (x1 * x2 * (x1 * y2 - x2 * y1)) := by grind
theorem q_three {p : Nat} (hp : fr_P p) {a b c : Int} (h0 : ¬ ((p : Int) ∣ a ∧ (p : Int) ∣ b ∧ (p : Int) ∣ c)) {P Q R : Int × Int} (d1 : ¬ (p : Int) ∣ q_d P Q) (d2 : ¬ (p : Int) ∣ q_d P R) (d3 : ¬ (p : Int) ∣ q_d Q R) (h1 : (p : Int) ∣ q_f a b c P) (h2 : (p : Int) ∣ q_f a b c Q) (h3 : (p : Int) ∣ q_f a b c R) : False := by
  obtain ⟨x1, y1⟩ := P
  obtain ⟨x2, y2⟩ := Q
  obtain ⟨x3, y3⟩ := R
  unfold q_f at h1 h2 h3
  unfold q_d at d1 d2 d3
  dsimp only at h1 h2 h3 d1 d2 d3
  have no : ∀ z : Int, (p : Int) ∣ z * ((x1 * y2 - x2 * y1) * ((x1 * y3 - x3 * y1) * (x2 * y3 - x3 * y2))) → (p : Int) ∣ z := by
    intro z hz
    rcases fr_euc hp hz with k | k
    · exact k
    · rcases fr_euc hp k with k | k
      · exact absurd k d1
      · rcases fr_euc hp k with k | k
        · exact absurd k d2
        · exact absurd k d3
  refine h0 ⟨no _ ?_, no _ ?_, no _ ?_⟩
  · rw [q_id1 a b c x1 y1 x2 y2 x3 y3]
    exact Int.dvd_add (Int.dvd_sub (Int.dvd_mul_of_dvd_left h1) (Int.dvd_mul_of_dvd_left h2)) (Int.dvd_mul_of_dvd_left h3)
  · rw [q_id2 a b c x1 y1 x2 y2 x3 y3]
    exact Int.dvd_sub (Int.dvd_add (Int.dvd_neg.mpr (Int.dvd_mul_of_dvd_left h1)) (Int.dvd_mul_of_dvd_left h2)) (Int.dvd_mul_of_dvd_left h3)
  · rw [q_id3 a b c x1 y1 x2 y2 x3 y3]
    exact Int.dvd_add (Int.dvd_sub (Int.dvd_mul_of_dvd_left h1) (Int.dvd_mul_of_dvd_left h2)) (Int.dvd_mul_of_dvd_left h3)
def q_P (q : Nat × Nat) : Int × Int := ((q.1 : Int) - 210, (q.2 : Int))
def q_b (a b c : Int) (p : Nat) : Nat × Nat → Bool := fun q => decide ((p : Int) ∣ q_f a b c (q_P q))
theorem q_two {p : Nat} (hp : fr_P p) {a b c : Int} (h0 : ¬ ((p : Int) ∣ a ∧ (p : Int) ∣ b ∧ (p : Int) ∣ c)) {l : List (Nat × Nat)} (hl : l.Pairwise (fun x y => ¬ (p : Int) ∣ q_d (q_P x) (q_P y))) : (l.filter (q_b a b c p)).length ≤ 2 := by
  have hs := hl.filter (q_b a b c p)
  have hm : ∀ x ∈ l.filter (q_b a b c p), (p : Int) ∣ q_f a b c (q_P x) := fun x hx => of_decide_eq_true (List.mem_filter.mp hx).2
  match l.filter (q_b a b c p), hs, hm with
  | [], _, _ => simp
  | [_], _, _ => simp
  | [_, _], _, _ => simp
  | x :: y :: z :: t, hs, hm =>
    exfalso
    rw [List.pairwise_cons, List.pairwise_cons] at hs
    exact q_three hp h0 (hs.1 y (by simp)) (hs.1 z (by simp)) (hs.2.1 z (by simp)) (hm x (by simp)) (hm y (by simp)) (hm z (by simp))
theorem q_split {α : Type} (P : α → Bool) : ∀ l : List α, l.length = (l.filter P).length + (l.filter (fun x => !P x)).length
  | [] => rfl
  | x :: l => by
    have := q_split P l
    cases h : P x <;> simp [List.filter_cons, h] <;> omega
theorem q_surv {a b c : Int} : ∀ (U : List Nat) (l : List (Nat × Nat)), (∀ q ∈ U, fr_P q ∧ ¬ ((q : Int) ∣ a ∧ (q : Int) ∣ b ∧ (q : Int) ∣ c) ∧ l.Pairwise (fun x y => ¬ (q : Int) ∣ q_d (q_P x) (q_P y))) → 2 * U.length + 1 ≤ l.length → ∃ x ∈ l, ∀ q ∈ U, ¬ (q : Int) ∣ q_f a b c (q_P x) := by
  intro U
  induction U with
  | nil =>
    intro l _ hl
    match l, hl with
    | x :: _, _ => exact ⟨x, by simp, fun q hq => absurd hq (by simp)⟩
  | cons p U ih =>
    intro l h hl
    obtain ⟨hp, h0, hw⟩ := h p (by simp)
    have h2 := q_two hp h0 hw
    have h3 := q_split (q_b a b c p) l
    rw [List.length_cons] at hl
    obtain ⟨x, hx, hu⟩ := ih (l.filter (fun x => !q_b a b c p x)) (fun q hq => ⟨(h q (by simp [hq])).1, (h q (by simp [hq])).2.1, (h q (by simp [hq])).2.2.filter _⟩) (by omega)
    obtain ⟨hx1, hx2⟩ := List.mem_filter.mp hx
    refine ⟨x, hx1, fun q hq => ?_⟩
    rcases List.mem_cons.mp hq with e | e
    · subst e
      intro hd
      unfold q_b at hx2
      rw [decide_eq_true hd] at hx2
      exact absurd hx2 (by decide)
    · exact hu q e
/-! the tables and their checks -/
def q_nr (p a b c : Nat) (q : Nat × Nat) : Bool := (a * (q.1 * q.1) + b * (q.1 * q.2) + c * (q.2 * q.2)) % p != 0
def q_sm (m : Nat) (q r : Nat × Nat) : Bool := (q_d (q_P q) (q_P r)).natAbs != 0 && m ^ 10 % (q_d (q_P q) (q_P r)).natAbs == 0
def q_pw (m : Nat) : List (Nat × Nat) → Bool
  | [] => true
  | x :: l => l.all (q_sm m x) && q_pw m l
def q_rg (q : Nat × Nat) : Bool := (q.2 == 1 && Nat.ble 202 q.1 && Nat.ble q.1 218) || (Nat.ble 1 q.2 && Nat.ble q.2 8 && (List.range 17).any fun j => Nat.ble j (8 + q.2) && Nat.ble 8 (j + q.2) && q.1 + 1 + 8 * q.2 == 210 + j * q.2)
def q_tb (m n par : Nat) (l : List (Nat × Nat)) : Bool := Nat.ble n l.length && q_pw m l && l.all fun q => q_rg q && q.2 % 2 == 1 && (q.1 + par) % 2 == 1

def q_t0 (par : Nat) : List (List (Nat × Nat)) := if par = 0 then [[(209, 1), (211, 1), (213, 1), (209, 3), (207, 1)]] else [[(210, 1), (208, 1), (212, 1), (206, 1), (214, 1)]]
def q_t3 (par : Nat) : List (List (Nat × Nat)) := if par = 0 then [[(211, 1), (213, 1), (207, 1), (205, 1), (217, 1)], [(209, 1), (213, 1), (207, 1), (215, 1), (203, 1)], [(209, 1), (211, 1), (215, 1), (205, 1), (217, 1)], [(211, 1), (205, 1), (209, 5), (217, 1), (223, 7)], [(209, 1), (209, 3), (215, 1), (209, 7), (203, 1)]] else [[(210, 1), (208, 1), (214, 1), (204, 1), (216, 1)], [(210, 1), (212, 1), (206, 1), (204, 1), (216, 1)], [(210, 1), (212, 3), (204, 1), (216, 1), (216, 7)], [(208, 1), (212, 1), (206, 1), (214, 1), (202, 1)], [(208, 1), (214, 1), (206, 3), (202, 1), (202, 7)], [(212, 1), (206, 1), (206, 3), (218, 3), (200, 3)]]
def q_t5 (par : Nat) : List (List (Nat × Nat)) := if par = 0 then [[(211, 1), (213, 1), (209, 3), (207, 1), (215, 1)], [(209, 1), (211, 1), (207, 1), (215, 1), (205, 1)], [(211, 1), (207, 1), (215, 1), (205, 1), (217, 1)], [(209, 1), (211, 1), (213, 1), (209, 3), (215, 1)], [(211, 1), (213, 1), (209, 3), (215, 1), (215, 3)], [(209, 1), (211, 1), (215, 1), (205, 1), (215, 3)], [(209, 1), (213, 1), (209, 3), (207, 1), (215, 1)], [(213, 1), (209, 3), (207, 1), (215, 1), (203, 1)], [(209, 1), (207, 1), (215, 1), (205, 1), (217, 1)], [(209, 1), (213, 1), (209, 3), (215, 1), (215, 3)], [(209, 1), (211, 1), (213, 1), (209, 3), (207, 1)], [(211, 1), (213, 1), (209, 3), (207, 1), (203, 1)], [(209, 1), (211, 1), (207, 1), (217, 1), (209, 7)], [(209, 1), (211, 1), (213, 1), (209, 3), (209, 5)], [(209, 1), (213, 1), (209, 3), (207, 1), (203, 1)]] else [[(210, 1), (208, 1), (212, 1), (206, 1), (216, 1)], [(210, 1), (212, 1), (206, 1), (214, 1), (204, 1)], [(210, 1), (212, 1), (206, 1), (216, 1), (218, 3)], [(210, 1), (208, 1), (206, 1), (214, 1), (204, 1)], [(210, 1), (208, 1), (206, 1), (216, 1), (218, 1)], [(210, 1), (206, 1), (214, 1), (204, 1), (216, 1)], [(210, 1), (208, 1), (212, 1), (214, 1), (212, 3)], [(210, 1), (208, 1), (212, 1), (206, 3), (202, 1)], [(210, 1), (212, 1), (214, 1), (212, 3), (204, 1)], [(210, 1), (208, 1), (214, 1), (212, 3), (204, 1)], [(208, 1), (212, 1), (206, 1), (214, 1), (204, 1)], [(208, 1), (212, 1), (206, 1), (216, 1), (218, 1)], [(212, 1), (206, 1), (214, 1), (204, 1), (216, 1)], [(208, 1), (206, 1), (214, 1), (204, 1), (216, 1)], [(208, 1), (212, 1), (214, 1), (212, 3), (204, 1)]]
def q_t35 (par : Nat) : List (List (Nat × Nat)) := if par = 0 then [[(211, 1), (213, 1), (207, 1)], [(211, 1), (207, 1), (205, 1)], [(211, 1), (213, 1), (205, 1)], [(211, 1), (205, 1), (209, 5)], [(213, 1), (207, 1), (205, 1)], [(207, 1), (205, 1), (217, 1)], [(213, 1), (205, 1), (209, 5)], [(211, 1), (207, 1), (217, 1)], [(211, 1), (213, 1), (209, 5)], [(213, 1), (207, 1), (217, 1)], [(213, 1), (207, 1), (215, 1)], [(209, 1), (207, 1), (215, 1)], [(207, 1), (215, 1), (209, 7)], [(209, 1), (213, 1), (215, 1)], [(213, 1), (215, 1), (203, 1)], [(209, 1), (215, 1), (199, 5)], [(209, 1), (213, 1), (207, 1)], [(213, 1), (207, 1), (203, 1)], [(209, 1), (207, 1), (209, 7)], [(209, 1), (213, 1), (203, 1)], [(213, 1), (209, 3), (207, 1)], [(207, 1), (203, 3), (195, 7)], [(213, 1), (209, 3), (215, 3)], [(215, 3), (203, 3), (195, 7)], [(207, 1), (219, 5), (189, 5)], [(213, 1), (209, 3), (203, 3)], [(211, 1), (215, 1), (205, 1)], [(209, 1), (215, 1), (205, 1)], [(215, 1), (205, 1), (217, 1)], [(209, 1), (211, 1), (217, 1)], [(211, 1), (209, 5), (217, 1)], [(209, 1), (211, 1), (209, 5)], [(209, 1), (209, 5), (217, 1)], [(211, 1), (209, 3), (215, 3)], [(211, 1), (205, 1), (217, 1)], [(205, 1), (217, 1), (215, 3)], [(205, 1), (209, 5), (223, 7)], [(211, 1), (209, 3), (203, 3)], [(209, 5), (217, 1), (223, 7)], [(209, 3), (215, 1), (209, 7)], [(209, 1), (215, 1), (209, 7)], [(215, 1), (209, 7), (199, 5)], [(209, 1), (209, 3), (215, 1)], [(209, 3), (215, 1), (215, 3)], [(209, 1), (209, 3), (209, 7)], [(209, 3), (209, 7), (203, 1)], [(209, 1), (209, 7), (199, 5)], [(209, 1), (209, 3), (203, 1)]] else [[(210, 1), (208, 1), (216, 1)], [(210, 1), (214, 1), (204, 1)], [(210, 1), (216, 1), (204, 5)], [(210, 1), (208, 1), (202, 1)], [(208, 1), (214, 1), (204, 1)], [(208, 1), (216, 1), (204, 5)], [(214, 1), (204, 1), (216, 1)], [(210, 1), (212, 1), (206, 1)], [(210, 1), (206, 1), (204, 1)], [(210, 1), (212, 1), (204, 1)], [(210, 1), (212, 1), (214, 5)], [(210, 1), (204, 1), (204, 5)], [(212, 1), (206, 1), (204, 1)], [(212, 1), (206, 1), (216, 1)], [(206, 1), (204, 1), (216, 1)], [(212, 1), (204, 1), (204, 5)], [(210, 1), (216, 1), (218, 3)], [(210, 1), (212, 3), (204, 1)], [(210, 1), (206, 3), (204, 5)], [(212, 3), (204, 1), (216, 1)], [(216, 1), (218, 3), (234, 5)], [(212, 3), (204, 1), (216, 7)], [(208, 1), (212, 1), (206, 1)], [(212, 1), (206, 1), (214, 1)], [(212, 1), (206, 1), (202, 1)], [(208, 1), (206, 1), (214, 1)], [(208, 1), (206, 1), (218, 1)], [(206, 1), (214, 1), (214, 5)], [(208, 1), (212, 1), (214, 1)], [(208, 1), (212, 1), (202, 1)], [(212, 1), (214, 1), (202, 1)], [(208, 1), (214, 1), (218, 1)], [(208, 1), (206, 3), (202, 1)], [(214, 1), (212, 3), (206, 3)], [(206, 3), (202, 1), (218, 3)], [(208, 1), (214, 1), (212, 3)], [(208, 1), (200, 3), (194, 5)], [(214, 1), (212, 3), (218, 3)], [(212, 1), (206, 1), (206, 3)], [(206, 1), (218, 1), (218, 3)], [(206, 1), (214, 5), (230, 7)], [(212, 1), (212, 3), (206, 3)], [(212, 1), (206, 3), (214, 5)], [(212, 3), (200, 3), (188, 7)]]
def q_ts : List (List (Nat × Nat)) := [[(213, 1), (209, 3), (207, 1), (215, 3), (203, 3)]]
def q_ts7 : List (List (Nat × Nat)) := [[(213, 1), (209, 3), (207, 1)], [(213, 1), (209, 3), (203, 3)], [(209, 3), (207, 1), (215, 3)], [(203, 3), (195, 7), (189, 5)], [(213, 1), (207, 1), (215, 3)], [(213, 1), (209, 3), (219, 5)]]
theorem q_t0_ok : ((List.range 2).all fun r => (q_t0 r).all (q_tb 30 5 r)) = true := by decide +kernel
theorem q_t3_ok : ((List.range 2).all fun r => (q_t3 r).all (q_tb 30 5 r)) = true := by decide +kernel
theorem q_t5_ok : ((List.range 2).all fun r => (q_t5 r).all (q_tb 30 5 r)) = true := by decide +kernel
theorem q_t35_ok : ((List.range 2).all fun r => (q_t35 r).all (q_tb 30 3 r)) = true := by decide +kernel
theorem q_ts_ok : (q_ts.all (q_tb 210 5 0)) = true := by decide +kernel
theorem q_ts7_ok : (q_ts7.all (q_tb 210 3 0)) = true := by decide +kernel
def q_sp (r a b c : Nat) : Bool := r == 0 && b == 0 && (a + c) % 3 == 0
theorem q_t3_in : ((List.range 2).all fun r => (List.range 3).all fun a => (List.range 3).all fun b => (List.range 3).all fun c => (a == 0 && b == 0 && c == 0) || q_sp r a b c || (q_t3 r).any fun l => l.all (q_nr 3 a b c)) = true := by decide +kernel
theorem q_t5_in : ((List.range 2).all fun r => (List.range 5).all fun a => (List.range 5).all fun b => (List.range 5).all fun c => (a == 0 && b == 0 && c == 0) || (q_t5 r).any fun l => l.all (q_nr 5 a b c)) = true := by decide +kernel
theorem q_t35_in : ((List.range 2).all fun r => (List.range 3).all fun a => (List.range 3).all fun b => (List.range 3).all fun c => (a == 0 && b == 0 && c == 0) || (List.range 5).all fun a' => (List.range 5).all fun b' => (List.range 5).all fun c' => (a' == 0 && b' == 0 && c' == 0) || (q_t35 r).any fun l => l.all fun q => q_nr 3 a b c q && q_nr 5 a' b' c' q) = true := by decide +kernel
theorem q_ts_in : ((List.range 3).all fun a => (List.range 3).all fun b => (List.range 3).all fun c => (a == 0 && b == 0 && c == 0) || !q_sp 0 a b c || q_ts.any fun l => l.all (q_nr 3 a b c)) = true := by decide +kernel
theorem q_ts7_in : ((List.range 3).all fun a => (List.range 3).all fun b => (List.range 3).all fun c => (a == 0 && b == 0 && c == 0) || !q_sp 0 a b c || (List.range 7).all fun a' => (List.range 7).all fun b' => (List.range 7).all fun c' => (a' == 0 && b' == 0 && c' == 0) || q_ts7.any fun l => l.all fun q => q_nr 3 a b c q && q_nr 7 a' b' c' q) = true := by decide +kernel
def q_S (n : Nat) (T : List Nat) : List Nat := fr_odds.filter fun p => n % p == 0 && !T.contains p
theorem q_S_n : ((List.range 1025).all fun n => n == 0 || n % 2 == 1 || (if n % 3 == 0 then (if n % 5 == 0 then Nat.ble (q_S n [3, 5]).length 1 else Nat.ble (q_S n [3]).length 2 && (n % 7 != 0 || Nat.ble (q_S n [3, 7]).length 1)) else (if n % 5 == 0 then Nat.ble (q_S n [5]).length 2 else Nat.ble (q_S n []).length 2))) = true := by decide +kernel
