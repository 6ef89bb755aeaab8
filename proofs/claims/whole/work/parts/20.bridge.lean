/-! Whole numbers as longs and ints: sums and products need no bound; comparisons and quotients do. -/
def jl (x : Int) : Int64 := Int64.ofInt x
def ji (x : Int) : Int32 := Int32.ofInt x
theorem jl_add (x y : Int) : jl x + jl y = jl (x + y) := (Int64.ofInt_add x y).symm
theorem jl_sub (x y : Int) : jl x - jl y = jl (x - y) := (Int64.ofInt_sub x y).symm
theorem jl_mul (x y : Int) : jl x * jl y = jl (x * y) := (Int64.ofInt_mul x y).symm
theorem jl_neg (x : Int) : -jl x = jl (-x) := (Int64.ofInt_neg x).symm
theorem ji_add (x y : Int) : ji x + ji y = ji (x + y) := (Int32.ofInt_add x y).symm
theorem ji_sub (x y : Int) : ji x - ji y = ji (x - y) := (Int32.ofInt_sub x y).symm
theorem ji_mul (x y : Int) : ji x * ji y = ji (x * y) := (Int32.ofInt_mul x y).symm
theorem ji_neg (x : Int) : -ji x = ji (-x) := (Int32.ofInt_neg x).symm
/-- in the range of a long, of an int -/
def jL (x : Int) : Prop := -9223372036854775808 ≤ x ∧ x ≤ 9223372036854775807
def jI (x : Int) : Prop := -2147483648 ≤ x ∧ x ≤ 2147483647
theorem jl_int {x : Int} (h : jL x) : (jl x).toInt = x := Int64.toInt_ofInt_of_le (by have := h.1; omega) (by have := h.2; omega)
theorem ji_int {x : Int} (h : jI x) : (ji x).toInt = x := Int32.toInt_ofInt_of_le (by have := h.1; omega) (by have := h.2; omega)
theorem jl_lt {x y : Int} (hx : jL x) (hy : jL y) : jl x < jl y ↔ x < y := by rw [Int64.lt_iff_toInt_lt, jl_int hx, jl_int hy]
theorem jl_le {x y : Int} (hx : jL x) (hy : jL y) : jl x ≤ jl y ↔ x ≤ y := by rw [Int64.le_iff_toInt_le, jl_int hx, jl_int hy]
theorem jl_eq {x y : Int} (hx : jL x) (hy : jL y) : jl x = jl y ↔ x = y := by rw [← Int64.toInt_inj, jl_int hx, jl_int hy]
theorem ji_lt {x y : Int} (hx : jI x) (hy : jI y) : ji x < ji y ↔ x < y := by rw [Int32.lt_iff_toInt_lt, ji_int hx, ji_int hy]
theorem ji_le {x y : Int} (hx : jI x) (hy : jI y) : ji x ≤ ji y ↔ x ≤ y := by rw [Int32.le_iff_toInt_le, ji_int hx, ji_int hy]
theorem ji_eq {x y : Int} (hx : jI x) (hy : jI y) : ji x = ji y ↔ x = y := by rw [← Int32.toInt_inj, ji_int hx, ji_int hy]
theorem ji_of (x : Int32) : ∃ y : Int, jI y ∧ x = ji y := ⟨x.toInt, ⟨by have := Int32.le_toInt x; omega, by have := Int32.toInt_lt x; omega⟩, (Int32.ofInt_toInt x).symm⟩
theorem jl_of (x : Int64) : ∃ y : Int, jL y ∧ x = jl y := ⟨x.toInt, ⟨by have := Int64.le_toInt x; omega, by have := Int64.toInt_lt x; omega⟩, (Int64.ofInt_toInt x).symm⟩
theorem ji_l {x : Int} (h : jI x) : (ji x).toInt64 = jl x := by
  rw [← Int64.ofInt_int32ToInt, ji_int h]
  rfl
theorem jl_i (x : Int) : (jl x).toInt32 = ji x := Int64.toInt32_ofInt
theorem jl_div {x y : Int} (hx : jL x) (hy : jL y) : jl x / jl y = jl (x.tdiv y) := by
  unfold jl
  refine (Int64.ofInt_tdiv ?_ ?_ ?_ ?_).symm
  · rw [Int64.toInt_minValue]; have := hx.1; omega
  · rw [Int64.toInt_maxValue]; have := hx.2; omega
  · rw [Int64.toInt_minValue]; have := hy.1; omega
  · rw [Int64.toInt_maxValue]; have := hy.2; omega
theorem ji_div {x y : Int} (hx : jI x) (hy : jI y) : ji x / ji y = ji (x.tdiv y) := by
  unfold ji
  refine (Int32.ofInt_tdiv ?_ ?_ ?_ ?_).symm
  · rw [Int32.toInt_minValue]; have := hx.1; omega
  · rw [Int32.toInt_maxValue]; have := hx.2; omega
  · rw [Int32.toInt_minValue]; have := hy.1; omega
  · rw [Int32.toInt_maxValue]; have := hy.2; omega
theorem jl_rem {x y : Int} (hx : jL x) (hy : jL y) : jl x - jl x / jl y * jl y = jl (x.tmod y) := by
  rw [jl_div hx hy, jl_mul, jl_sub]
  congr 1
  have := Int.mul_tdiv_add_tmod x y
  have e : x.tdiv y * y = y * x.tdiv y := Int.mul_comm _ _
  omega
theorem ji_rem {x y : Int} (hx : jI x) (hy : jI y) : ji x - ji x / ji y * ji y = ji (x.tmod y) := by
  rw [ji_div hx hy, ji_mul, ji_sub]
  congr 1
  have := Int.mul_tdiv_add_tmod x y
  have e : x.tdiv y * y = y * x.tdiv y := Int.mul_comm _ _
  omega
