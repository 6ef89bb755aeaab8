/-! Which forms can be taken; ONE at the start. -/
def ftk (D a b c : Int) : Prop := (b30 a ∧ b30 b ∧ b30 c) ∧ fm_v D (a, b, c)
theorem pr_gcd {a b c g1 x y g2 u v : Int} (E1 : eP a b g1 x y) (E2 : eP g1 c g2 u v) : fm_pr (a, b, c) ↔ g2 = 1 := by
  obtain ⟨p1, p2, p3, p4, -, -, -⟩ := E1
  obtain ⟨q1, q2, q3, q4, -, -, -⟩ := E2
  constructor
  · intro h
    have := fm_pr_of (e := g2) h (Int.dvd_trans q3 p3) (Int.dvd_trans q3 p4) q4
    have := Int.le_of_dvd (by decide) this
    rcases Int.lt_or_le 0 g2 with z | z
    · omega
    · have e : g2 = 0 := by omega
      subst e
      have := Int.zero_dvd.mp (fm_pr_of (e := 0) h (Int.dvd_trans q3 p3) (Int.dvd_trans q3 p4) q4)
      omega
  · intro h
    refine ⟨u * x, u * y, v, ?_⟩
    dsimp only
    rw [← h, ← q1, ← p1]
    grind
theorem tk_no {D a b c : Int} (h : b * b - 4 * a * c ≠ D) : ¬ fm_disc D (a, b, c) := by
  intro z
  unfold fm_disc at z
  dsimp only at z
  have : 4 * a * c = 4 * (a * c) := Int.mul_assoc _ _ _
  omega
theorem tk_yes {D a b c : Int} (h : b * b - 4 * a * c = D) : fm_disc D (a, b, c) := by
  unfold fm_disc
  dsimp only
  have : 4 * a * c = 4 * (a * c) := Int.mul_assoc _ _ _
  omega
theorem tk_bd {a b c : Int} (ha : b30 a) (hb : b30 b) (hc : b30 c) : jL (b * b - 4 * a * c) := by
  have h1 := ab_range (ab_prod hb.ab.2 hb.ab.2)
  have h2 := ab_range (ab_prod ha.ab.2 hc.ab.2)
  have : 4 * a * c = 4 * (a * c) := Int.mul_assoc _ _ _
  exact ⟨by omega, by omega⟩
theorem one_q {d : Int} (h : d % 4 ≤ 1) : (d % 2 * (d % 2) - d).tdiv (4 * 1) = -((d - d % 2) / 4) := by
  rcases Int.emod_two_eq d with z | z <;> rw [z]
  · exact td_e (by omega) (by decide)
  · exact td_e (by omega) (by decide)
