/-! What the reference's calls answer, as statements on the registers. -/
def rKeep (F1 F2 F3 G1 G2 G3 : Nat → Int) : Prop := G1 = F1 ∧ G2 = F2 ∧ G3 = F3
def rPut (F1 F2 F3 G1 G2 G3 : Nat → Int) (k : Nat) (z : fm_F) : Prop := G1 = fU F1 k z.1 ∧ G2 = fU F2 k z.2.1 ∧ G3 = fU F3 k z.2.2
def chP (p : Nat) (a c : Int) : Prop := (p : Int) ∣ (if (p : Int) ∣ a then c else a) ^ ((p - 1) / 2) - 1
theorem ch_sq {p : Nat} (hp : fr_P p) (h3 : 3 ≤ p) {x : Int} (hx : ¬ (p : Int) ∣ x) : (∃ y : Int, 0 ≤ y ∧ y ≤ p / 2 ∧ (p : Int) ∣ y * y - x % p) ↔ (p : Int) ∣ x ^ ((p - 1) / 2) - 1 := by
  have h0 := Int.emod_nonneg x (show (p : Int) ≠ 0 by omega)
  have h1 := Int.emod_lt_of_pos x (show 0 < (p : Int) by omega)
  have h2 : x % p ≠ 0 := fun z => hx (Int.dvd_of_emod_eq_zero z)
  rw [← eu_test hp h3 (by omega) h1]
  have hc := cg_pow (cg_mod x (p := (p : Int))) ((p - 1) / 2)
  constructor
  · intro h
    have e : x ^ ((p - 1) / 2) - 1 = ((x % p) ^ ((p - 1) / 2) - 1) - ((x % p) ^ ((p - 1) / 2) - x ^ ((p - 1) / 2)) := by omega
    rw [e]
    exact Int.dvd_sub h hc
  · intro h
    have e : (x % p) ^ ((p - 1) / 2) - 1 = (x ^ ((p - 1) / 2) - 1) + ((x % p) ^ ((p - 1) / 2) - x ^ ((p - 1) / 2)) := by omega
    rw [e]
    exact Int.dvd_add h hc
theorem ch_x {D a b c : Int} {p : Nat} (hp : fr_P p) (hv : fm_v D (a, b, c)) (hD : (p : Int) ∣ D) : ¬ (p : Int) ∣ (if (p : Int) ∣ a then c else a) := by
  by_cases h : (p : Int) ∣ a
  · rw [if_pos h]
    exact ch_c hp hv hD h
  · rw [if_neg h]
    exact h
theorem ch_u {p : Nat} (hp : fr_P p) (a c : Int) : (if Int.gcd a p = 1 then a else c) = if (p : Int) ∣ a then c else a := by
  by_cases h : (p : Int) ∣ a
  · rw [if_pos h, if_neg (fun z => (gcd_p hp a).mp z h)]
  · rw [if_neg h, if_pos ((gcd_p hp a).mpr h)]
theorem rP.at {D np : Int} {PF : Nat → Int} (h : rP D np PF) (h0 : D ≠ 0) {k : Int} (k0 : 0 ≤ k) (k1 : k < np) : ∃ p : Nat, PF k.toNat = (p : Int) ∧ fr_P p ∧ 3 ≤ p ∧ (p : Int) ∣ D ∧ p ≤ D.natAbs := by
  obtain ⟨ol, o1, o2, o3, o4⟩ := h
  have hk : k.toNat < ol.length := by omega
  have h1 := o4 _ hk
  have hm : ol.getD k.toNat 0 ∈ ol := by
    rw [List.getD_eq_getElem?_getD, List.getElem?_eq_getElem hk]
    exact List.getElem_mem hk
  obtain ⟨p1, p2, p3⟩ := (o1.2 _).mp hm
  exact ⟨_, h1, p1, p2, Int.natAbs_dvd_natAbs.mp (by rw [Int.natAbs_natCast]; exact p3), Nat.le_of_dvd (by omega) p3⟩
theorem tk_iff {D a b c : Int} (h0 : D ≠ 0) : ftk D a b c ↔ (b30 a ∧ b30 b ∧ b30 c) ∧ b * b - 4 * a * c = D ∧ (0 < D ∨ 0 < a) ∧ Int.gcd (Int.gcd a b : Nat) c = 1 := by
  unfold ftk fm_v
  rw [pr_gcd2]
  constructor
  · rintro ⟨h1, h2, h3, h4⟩
    refine ⟨h1, ?_, ?_, h3⟩
    · apply Classical.byContradiction
      intro z
      exact tk_no z h2
    · rcases Int.lt_or_le D 0 with z | z
      · exact Or.inr (h4 z)
      · exact Or.inl (by omega)
  · rintro ⟨h1, h2, h3, h4⟩
    exact ⟨h1, tk_yes h2, h4, fun z => by omega⟩
