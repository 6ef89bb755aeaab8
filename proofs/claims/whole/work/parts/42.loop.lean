/-! Loops: an invariant with a number that falls. -/
section LPN
variable {p : Program} {l : Launch} {e : Env} {R : Room} {s : State} {m : MethodId} {args : Array Value} {below : List Frame} {meth : Method} {c : Code} {cells slots : Nat} {Q : State → Prop} {pc : Nat} {st : List Value}
theorem lpn (I : Nat → Heap → List Loc → Array Slot → Prop) (step : ∀ (n : Nat) (H : Heap) (locs : List Loc) (ls : Array Slot), I n H locs ls → (∀ (n' : Nat) (H' : Heap) (locs' : List Loc) (ls' : Array Slot), n' < n → I n' H' locs' ls' → W p l e R s m args below meth c H' locs' cells slots Q (F0 m pc ls' st)) → W p l e R s m args below meth c H locs cells slots Q (F0 m pc ls st)) : ∀ (n : Nat) (H : Heap) (locs : List Loc) (ls : Array Slot), I n H locs ls → W p l e R s m args below meth c H locs cells slots Q (F0 m pc ls st) := by
  have all : ∀ (k n : Nat), n < k → ∀ (H : Heap) (locs : List Loc) (ls : Array Slot), I n H locs ls → W p l e R s m args below meth c H locs cells slots Q (F0 m pc ls st) := by
    intro k
    induction k with
    | zero => intro n h; omega
    | succ k ih =>
      intro n _ H locs ls hi
      exact step n H locs ls hi (fun n' H' locs' ls' h hi' => ih n' (by omega) H' locs' ls' hi')
  exact fun n => all (n + 1) n (by omega)
end LPN
theorem jl_xor {x y : Int} (hx : jL x) (hy : jL y) (h : 0 ≤ y) : ∃ v : Int, jL v ∧ jl x ^^^ jl y = jl v ∧ (v < 0 ↔ x < 0) := by
  obtain ⟨v, hv, ev⟩ := jl_of (jl x ^^^ jl y)
  refine ⟨v, hv, ev, ?_⟩
  have m : ∀ z : Int64, z.toInt < 0 ↔ z.toBitVec.msb = true := by
    intro z
    rw [BitVec.msb_eq_toInt]
    simp
  have h1 := m (jl x ^^^ jl y)
  rw [Int64.toBitVec_xor, BitVec.msb_xor] at h1
  have h2 := m (jl x)
  have h3 := m (jl y)
  rw [ev, jl_int hv] at h1
  rw [jl_int hx] at h2
  rw [jl_int hy] at h3
  have h4 : (jl y).toBitVec.msb = false := by
    cases hb : (jl y).toBitVec.msb
    · rfl
    · have := h3.mpr hb
      omega
  rw [h4, Bool.xor_false] at h1
  rw [h1, h2]
theorem ji_xor {x y : Int} (hx : jI x) (hy : jI y) (h : 0 ≤ y) : ∃ v : Int, jI v ∧ ji x ^^^ ji y = ji v ∧ (v < 0 ↔ x < 0) := by
  obtain ⟨v, hv, ev⟩ := ji_of (ji x ^^^ ji y)
  refine ⟨v, hv, ev, ?_⟩
  have m : ∀ z : Int32, z.toInt < 0 ↔ z.toBitVec.msb = true := by
    intro z
    rw [BitVec.msb_eq_toInt]
    simp
  have h1 := m (ji x ^^^ ji y)
  rw [Int32.toBitVec_xor, BitVec.msb_xor] at h1
  have h2 := m (ji x)
  have h3 := m (ji y)
  rw [ev, ji_int hv] at h1
  rw [ji_int hx] at h2
  rw [ji_int hy] at h3
  have h4 : (ji y).toBitVec.msb = false := by
    cases hb : (ji y).toBitVec.msb
    · rfl
    · have := h3.mpr hb
      omega
  rw [h4, Bool.xor_false] at h1
  rw [h1, h2]
/-- the remainder from 0 on out of Java's -/
theorem jf_mod {x y : Int} (hy : 0 < y) : (x < 0 ∧ x.tmod y ≠ 0 → x.tmod y + y = x % y) ∧ (¬ (x < 0 ∧ x.tmod y ≠ 0) → x.tmod y = x % y) := by
  have h1 := Int.emod_nonneg x (show y ≠ 0 by omega)
  have h2 := Int.emod_lt_of_pos x hy
  have e := Int.tmod_eq_emod (a := x) (b := y)
  by_cases hx : 0 ≤ x
  · rw [if_pos (Or.inl hx)] at e
    omega
  · by_cases hd : y ∣ x
    · rw [if_pos (Or.inr hd)] at e
      have := Int.emod_eq_zero_of_dvd hd
      omega
    · rw [if_neg (fun q => q.elim hx hd)] at e
      have h3 : x % y ≠ 0 := fun q => hd (Int.dvd_of_emod_eq_zero q)
      omega
