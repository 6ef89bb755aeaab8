/-! Powers, orders and exponents as the class looks for them. -/
def fm_pz (D s n : Int) (f : fm_F) (k : Int) (u : fm_F) : Prop := (0 ≤ k → fm_pw D s n f k.toNat u) ∧ (k < 0 → fm_pw D s n (fm_inv f) (-k).toNat u)
/-- the order of the class of f -/
def fm_or (D s n : Int) (f : fm_F) (N : Int) : Prop := 0 < N ∧ fm_pw D s n f N.toNat (fm_one s n) ∧ ∀ j : Nat, 0 < j → (j : Int) < N → ¬ fm_pw D s n f j (fm_one s n)
theorem fm_or.uniq {D s n : Int} {f : fm_F} {N N' : Int} (h : fm_or D s n f N) (h' : fm_or D s n f N') : N = N' := by
  obtain ⟨a1, a2, a3⟩ := h
  obtain ⟨b1, b2, b3⟩ := h'
  rcases Int.lt_trichotomy N N' with k | k | k
  · exact absurd a2 (b3 N.toNat (by omega) (by omega))
  · exact k
  · exact absurd b2 (a3 N'.toNat (by omega) (by omega))
/-- the least exponent from 0 on, -1 if there is none -/
def fm_ex (D s n : Int) (f g : fm_F) (N : Int) : Prop := (0 ≤ N ∧ fm_pw D s n f N.toNat g ∧ ∀ j : Nat, (j : Int) < N → ¬ fm_pw D s n f j g) ∨ (N = -1 ∧ ∀ j : Nat, ¬ fm_pw D s n f j g)
theorem fm_ex.uniq {D s n : Int} {f g : fm_F} {N N' : Int} (h : fm_ex D s n f g N) (h' : fm_ex D s n f g N') : N = N' := by
  rcases h with ⟨a1, a2, a3⟩ | ⟨a1, a2⟩ <;> rcases h' with ⟨b1, b2, b3⟩ | ⟨b1, b2⟩
  · rcases Int.lt_trichotomy N N' with k | k | k
    · exact absurd a2 (b3 N.toNat (by omega))
    · exact k
    · exact absurd b2 (a3 N'.toNat (by omega))
  · exact absurd a2 (b2 _)
  · exact absurd b2 (a2 _)
  · omega
/-- names of one class are one form -/
theorem nm_eq {D w s n : Int} {x y : fm_F} (ho : fm_ok D w) (hs : fm_sn D s n) (hx : fm_nm D w x x) (hy : fm_nm D w y y) : x = y ↔ fm_eq s n x y := by
  constructor
  · intro e
    rw [e]
    exact fm_eq.rf _
  · intro e
    exact (hx.mg (fm_mg_eq ho hs hx.1 hy.1 e)).uniq ho hy
/-- the name of ONE and the powers that are ONE -/
theorem pw_one {D w s n : Int} {f x z : fm_F} (ho : fm_ok D w) (hs : fm_sn D s n) (hx : fm_nm D w x x) (hz : fm_nm D w z (fm_one s n)) {k : Nat} (hp : fm_pw D s n f k x) : x = z ↔ fm_pw D s n f k (fm_one s n) := by
  have h1 := fm_eq_mg ho hs hz.1 (fm_one_disc hs) hz.2.2.1
  rw [nm_eq ho hs hx hz.self]
  constructor
  · intro e
    exact hp.r (e.tr h1)
  · intro e
    exact (hp.fn e).tr h1.sy
theorem pw_goal {D w s n : Int} {f x z : fm_F} (ho : fm_ok D w) (hs : fm_sn D s n) (hx : fm_nm D w x x) (hz : fm_nm D w z z) {k : Nat} (hp : fm_pw D s n f k x) : x = z ↔ fm_pw D s n f k z := by
  rw [nm_eq ho hs hx hz]
  exact ⟨fun e => hp.r e, fun e => hp.fn e⟩
/-- if the m-th power is ONE and none of the first m is g, none is g -/
theorem pw_none {D w s n : Int} {f g : fm_F} (ho : fm_ok D w) (hs : fm_sn D s n) (hf : fm_v D f) {m : Nat} (hm : 0 < m) (h1 : fm_pw D s n f m (fm_one s n)) (h : ∀ j : Nat, j < m → ¬ fm_pw D s n f j g) (j : Nat) : ¬ fm_pw D s n f j g := by
  intro hj
  have e : j = j % m + m * (j / m) := by have := Nat.div_add_mod j m; omega
  obtain ⟨F, vF, pF⟩ := fm_pw.ex ho hs hf (j % m)
  have h2 := fm_pw.mod ho hs hf h1 (j / m) vF pF
  rw [← e] at h2
  exact h (j % m) (Nat.mod_lt _ hm) (pF.r (h2.fn hj))
/-- the class as one says it: D, the whole part of its root, its halves -/
theorem sn_of {d : Int} (h : d % 4 ≤ 1) : fm_sn d (d % 2) ((d - d % 2) / 4) := ⟨by omega, by omega⟩
theorem gD_of {d w : Int} (h : dV d) (hw : (d < 0 ∧ w = -1) ∨ (0 ≤ w ∧ w ≤ 1024 ∧ w * w ≤ d ∧ d < (w + 1) * (w + 1))) : gD d w := by
  obtain ⟨h1, h2, h3, h4⟩ := h
  refine ⟨?_, h1, h2, ?_⟩
  · rcases hw with z | z
    · exact Or.inl z
    · have := h4 w
      exact Or.inr ⟨z.1, by omega, z.2.2.2⟩
  · rcases hw with z | z
    · omega
    · rcases Int.lt_or_le w 1024 with q | q
      · omega
      · have e : w = 1024 := by omega
        subst e
        have := h4 1024
        omega
theorem pw_ar {RR k1 k2 R0 : Nat} (h : k1 + k2 * RR = R0) : (RR % 2 = 0 → k1 + (k2 + k2) * (RR / 2) = R0) ∧ (RR % 2 = 1 → k1 + k2 + (k2 + k2) * (RR / 2) = R0) := by
  have h1 : RR = 2 * (RR / 2) + RR % 2 := (Nat.div_add_mod RR 2).symm
  generalize RR / 2 = Q at h1 ⊢
  constructor
  · intro z
    rw [z, Nat.add_zero] at h1
    subst h1
    rw [← h]
    clear h z
    grind
  · intro z
    rw [z] at h1
    subst h1
    rw [← h]
    clear h z
    grind
