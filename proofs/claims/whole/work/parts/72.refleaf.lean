set_option maxHeartbeats 4000000 in
set_option maxRecDepth 100000 in
theorem c_M_in (l : Launch) (D : va_G) (cI cJ cF : ClassId) {v lo hi : Int} (h1 : jL v) (h2 : jL lo) (h3 : jL hi) : ∀ sz, Met l y_M_in (Cond.code y_M_in b_M_in 6 (some .boolean) :: wb) { frames := 0, cells := 0, slots := 0, locals := 0 } (va_Pc [.long (jl (v)), .long (jl (lo)), .long (jl (hi))] (cpre D cI cJ cF [] sz)) (va_Qi (fun r (u : Unit) => ∃ t : Int, r = ji t ∧ ((t = 1 ∧ (lo ≤ v ∧ v ≤ hi)) ∨ (t = 0 ∧ ¬ (lo ≤ v ∧ v ≤ hi)))) (fun (u : Unit) tS => va_P D classes [] tS.heap) (va_A [] sz)) 0 0 (va_A [] sz) := by
  refine c_of (Qc := fun sz => va_Qi (fun r (u : Unit) => ∃ t : Int, r = ji t ∧ ((t = 1 ∧ (lo ≤ v ∧ v ≤ hi)) ∨ (t = 0 ∧ ¬ (lo ≤ v ∧ v ≤ hi)))) (fun (u : Unit) tS => va_P D classes [] tS.heap) (va_A [] sz)) (by decide +kernel) co_M_in (Nat.le_of_ble_eq_true rfl) ?_
  intro pq eq s mq below meth cq A X hK hP hD hS hA hAe ls hl
  obtain ⟨hx, hb, hml, hown, hr, hlocks, hts⟩ := id X
  have hl : lv_has ls 6 [(0, .long (jl (v))), (2, .long (jl (lo))), (4, .long (jl (hi)))] := hl
  refine lv_lload_n hx hb d_M_in_0 rfl (lv_at hl 0 rfl) ?_
  refine lv_lload_n hx hb d_M_in_1 rfl (lv_at hl 1 rfl) ?_
  refine wl_clt hx hb h1 h2 d_M_in_2 d_M_in_3 (tgt := 17) (by decide) (fun h_1 => ?_) (fun h_1 => ?_)
  · refine w_iconst hx hb d_M_in_17 ?_
    exact rt_z X hAe hS () rfl ⟨0, rfl, Or.inr ⟨rfl, by omega⟩⟩ hP d_M_in_18
  · refine lv_lload_n hx hb d_M_in_6 rfl (lv_at hl 0 rfl) ?_
    refine lv_lload hx hb d_M_in_7 (lv_at hl 2 rfl) ?_
    refine wl_cgt hx hb h1 h3 d_M_in_9 d_M_in_10 (tgt := 17) (by decide) (fun h_2 => ?_) (fun h_2 => ?_)
    · refine w_iconst hx hb d_M_in_17 ?_
      exact rt_z X hAe hS () rfl ⟨0, rfl, Or.inr ⟨rfl, by omega⟩⟩ hP d_M_in_18
    · refine w_iconst hx hb d_M_in_13 ?_
      refine lv_goto (tgt := 18) hx hb d_M_in_14 (by decide) ?_
      exact rt_z X hAe hS () rfl ⟨1, rfl, Or.inl ⟨rfl, by omega, by omega⟩⟩ hP d_M_in_18

set_option maxHeartbeats 4000000 in
set_option maxRecDepth 100000 in
theorem c_M_size (l : Launch) (D : va_G) (cI cJ cF : ClassId) {v : Int} (h1 : jL v) : ∀ sz, Met l y_M_size (Cond.code y_M_size b_M_size 2 (some .long) :: wb) { frames := 0, cells := 0, slots := 0, locals := 0 } (va_Pc [.long (jl (v))] (cpre D cI cJ cF [] sz)) (va_Ql (fun r (u : Unit) => r = jl (fm_ab (v))) (fun (u : Unit) tS => va_P D classes [] tS.heap) (va_A [] sz)) 0 0 (va_A [] sz) := by
  refine c_of (Qc := fun sz => va_Ql (fun r (u : Unit) => r = jl (fm_ab (v))) (fun (u : Unit) tS => va_P D classes [] tS.heap) (va_A [] sz)) (by decide +kernel) co_M_size (Nat.le_of_ble_eq_true rfl) ?_
  intro pq eq s mq below meth cq A X hK hP hD hS hA hAe ls hl
  obtain ⟨hx, hb, hml, hown, hr, hlocks, hts⟩ := id X
  have hl : lv_has ls 2 [(0, .long (jl (v)))] := hl
  refine lv_lload_n hx hb d_M_size_0 rfl (lv_at hl 0 rfl) ?_
  refine w_lconst (v := 0) hx hb rfl d_M_size_1 ?_
  refine wl_cge hx hb h1 ⟨by decide, by decide⟩ d_M_size_2 d_M_size_3 (tgt := 11) (by decide) (fun h_1 => ?_) (fun h_1 => ?_)
  · refine lv_lload_n hx hb d_M_size_11 rfl (lv_at hl 0 rfl) ?_
    exact rt_l X hAe hS () (by rcases fm_ab_cases v with z | z <;> first | (exfalso; omega) | rw [z.2]) hP d_M_size_12
  · refine lv_lload_n hx hb d_M_size_6 rfl (lv_at hl 0 rfl) ?_
    refine wl_neg hx hb d_M_size_7 ?_
    refine lv_goto (tgt := 12) hx hb d_M_size_8 (by decide) ?_
    exact rt_l X hAe hS () (by rcases fm_ab_cases v with z | z <;> first | (exfalso; omega) | rw [z.2]) hP d_M_size_12

set_option maxHeartbeats 4000000 in
set_option maxRecDepth 100000 in
theorem c_M_rest (l : Launch) (D : va_G) (cI cJ cF : ClassId) {v mo : Int} (h1 : jL v) (h2 : jL mo) (h0 : 0 < mo) : ∀ sz, Met l y_M_rest (Cond.code y_M_rest b_M_rest 6 (some .long) :: wb) { frames := 0, cells := 0, slots := 0, locals := 0 } (va_Pc [.long (jl (v)), .long (jl (mo))] (cpre D cI cJ cF [] sz)) (va_Ql (fun r (u : Unit) => r = jl ((v) % (mo))) (fun (u : Unit) tS => va_P D classes [] tS.heap) (va_A [] sz)) 0 0 (va_A [] sz) := by
  refine c_of (Qc := fun sz => va_Ql (fun r (u : Unit) => r = jl ((v) % (mo))) (fun (u : Unit) tS => va_P D classes [] tS.heap) (va_A [] sz)) (by decide +kernel) co_M_rest (Nat.le_of_ble_eq_true rfl) ?_
  intro pq eq s mq below meth cq A X hK hP hD hS hA hAe ls hl
  obtain ⟨hx, hb, hml, hown, hr, hlocks, hts⟩ := id X
  have hl : lv_has ls 6 [(0, .long (jl (v))), (2, .long (jl (mo)))] := hl
  have t1 := Int.tmod_lt_of_pos v h0
  have t2 := Int.lt_tmod_of_pos v h0
  have z2 := h2.2
  refine lv_lload_n hx hb d_M_rest_0 rfl (lv_at hl 0 rfl) ?_
  refine lv_lload_n hx hb d_M_rest_1 rfl (lv_at hl 1 rfl) ?_
  refine wl_rem hx hb h1 h2 (by omega) d_M_rest_2 ?_
  refine lv_lstore (lv' := [(4, .long (jl ((v).tmod (mo)))), (0, .long (jl (v))), (2, .long (jl (mo)))]) hx hb d_M_rest_3 hl (by decide) rfl (fun ls hl => ?_)
  refine lv_lload hx hb d_M_rest_5 (lv_at hl 0 rfl) ?_
  refine w_lconst (v := 0) hx hb rfl d_M_rest_7 ?_
  refine wl_cge hx hb ⟨by omega, by omega⟩ ⟨by decide, by decide⟩ d_M_rest_8 d_M_rest_9 (tgt := 19) (by decide) (fun h_1 => ?_) (fun h_1 => ?_)
  · refine lv_lload hx hb d_M_rest_19 (lv_at hl 0 rfl) ?_
    exact rt_l X hAe hS () (by first | rw [(rf_rest h0).1 (by omega)] | rw [(rf_rest h0).2 (by omega)]) hP d_M_rest_21
  · refine lv_lload hx hb d_M_rest_12 (lv_at hl 0 rfl) ?_
    refine lv_lload_n hx hb d_M_rest_14 rfl (lv_at hl 2 rfl) ?_
    refine wl_add hx hb d_M_rest_15 ?_
    refine lv_goto (tgt := 21) hx hb d_M_rest_16 (by decide) ?_
    exact rt_l X hAe hS () (by first | rw [(rf_rest h0).1 (by omega)] | rw [(rf_rest h0).2 (by omega)]) hP d_M_rest_21

set_option maxHeartbeats 4000000 in
set_option maxRecDepth 100000 in
theorem c_M_common (l : Launch) (D : va_G) (cI cJ cF : ClassId) {x y : Int} (h1 : jL x) (h2 : jL y) (h3 : x ≠ -9223372036854775808) (h4 : y ≠ -9223372036854775808) : ∀ sz, Met l y_M_common (Cond.code y_M_common b_M_common 10 (some .long) :: wb) { frames := 1, cells := 0, slots := 0, locals := 21 } (va_Pc [.long (jl (x)), .long (jl (y))] (cpre D cI cJ cF [] sz)) (va_Ql (fun r (u : Unit) => r = jl ((Int.gcd x y : Nat))) (fun (u : Unit) tS => va_P D classes [] tS.heap) (va_A [] sz)) 0 0 (va_A [] sz) := by
  refine c_of (Qc := fun sz => va_Ql (fun r (u : Unit) => r = jl ((Int.gcd x y : Nat))) (fun (u : Unit) tS => va_P D classes [] tS.heap) (va_A [] sz)) (by decide +kernel) co_M_common (Nat.le_of_ble_eq_true rfl) ?_
  intro pq eq s mq below meth cq A X hK hP hD hS hA hAe ls hl
  obtain ⟨hx, hb, hml, hown, hr, hlocks, hts⟩ := id X
  have hl : lv_has ls 10 [(0, .long (jl (x))), (2, .long (jl (y)))] := hl
  refine lv_lload_n hx hb d_M_common_0 rfl (lv_at hl 0 rfl) ?_
  refine cl_l (rn_S (wc := []) (As := [.long (jl (x))]) (rest := []) X hK (c_M_size l D cI cJ cF h1 _) co_M_size in_M ml_M_41 st_M_size 1 rfl (by decide +kernel) ⟨Nat.le_of_ble_eq_true rfl, Nat.le_of_ble_eq_true rfl⟩ hP hD [] rfl (by decide) hl.1 rfl (Nat.le_of_ble_eq_true rfl) d_M_common_1 ⟨Nat.zero_le _, Nat.zero_le _⟩) hP hD hS hA [] rfl (by decide) (fun _ => rfl) (fun r_1 u_2 H locs hp hP hD hS => ?_)
  have hp : r_1 = jl ((x.natAbs : Int)) := by rw [show r_1 = _ from hp, ab_nat]
  have hP : va_P D classes [] H := hP
  have hD : va_D A [] := hD
  obtain rfl : r_1 = jl ((x.natAbs : Int)) := hp
  refine lv_lstore (lv' := [(4, .long (jl ((x.natAbs : Int)))), (0, .long (jl (x))), (2, .long (jl (y)))]) hx hb d_M_common_4 hl (by decide) rfl (fun ls hl => ?_)
  refine lv_lload_n hx hb d_M_common_6 rfl (lv_at hl 2 rfl) ?_
  refine cl_l (rn_S (wc := []) (As := [.long (jl (y))]) (rest := []) X hK (c_M_size l D cI cJ cF h2 _) co_M_size in_M ml_M_41 st_M_size 1 rfl (by decide +kernel) ⟨Nat.le_of_ble_eq_true rfl, Nat.le_of_ble_eq_true rfl⟩ hP hD [] rfl (by decide) hl.1 rfl (Nat.le_of_ble_eq_true rfl) d_M_common_7 ⟨Nat.zero_le _, Nat.zero_le _⟩) hP hD hS hA [] rfl (by decide) (fun _ => rfl) (fun r_3 u_4 H locs hp hP hD hS => ?_)
  have hp : r_3 = jl ((y.natAbs : Int)) := by rw [show r_3 = _ from hp, ab_nat]
  have hP : va_P D classes [] H := hP
  have hD : va_D A [] := hD
  obtain rfl : r_3 = jl ((y.natAbs : Int)) := hp
  refine lv_lstore (lv' := [(6, .long (jl ((y.natAbs : Int)))), (4, .long (jl ((x.natAbs : Int)))), (0, .long (jl (x))), (2, .long (jl (y)))]) hx hb d_M_common_10 hl (by decide) rfl (fun ls hl => ?_)
  refine lpn (I := fun nlp H locs ls => ∃ (uu : Nat) (vv : Nat), vv = nlp ∧ (Nat.gcd uu vv = Int.gcd x y ∧ uu ≤ 9223372036854775807 ∧ vv ≤ 9223372036854775807) ∧ va_P D classes [] H ∧ va_D A [] ∧ va_S A s.heap H locs ∧ lv_has ls 10 [(0, .long (jl (x))), (2, .long (jl (y))), (4, .long (jl (uu))), (6, .long (jl (vv)))]) ?_ _ _ _ _ ⟨x.natAbs, y.natAbs, rfl, ⟨rfl, by have := h1.1; have := h1.2; omega, by have := h2.1; have := h2.2; omega⟩, hP, hD, hS, lv_sub hl [2, 3, 1, 0] rfl⟩
  rintro nlp H locs ls ⟨uu, vv, rfl, hi, hP, hD, hS, hl⟩ ih
  have i2 := hi.2.1
  have i3 := hi.2.2
  refine lv_lload hx hb d_M_common_12 (lv_at hl 3 rfl) ?_
  refine w_lconst (v := 0) hx hb rfl d_M_common_14 ?_
  refine wl_cle hx hb ⟨by omega, by omega⟩ ⟨by decide, by decide⟩ d_M_common_15 d_M_common_16 (tgt := 37) (by decide) (fun h_5 => ?_) (fun h_5 => ?_)
  · refine lv_lload hx hb d_M_common_37 (lv_at hl 2 rfl) ?_
    exact rt_l X hAe hS () (by rw [← hi.1, show vv = 0 by omega, Nat.gcd_zero_right]) hP d_M_common_39
  · refine lv_lload hx hb d_M_common_19 (lv_at hl 2 rfl) ?_
    refine lv_lload hx hb d_M_common_21 (lv_at hl 3 rfl) ?_
    refine wl_rem hx hb ⟨by omega, by omega⟩ ⟨by omega, by omega⟩ (by omega) d_M_common_23 ?_
    refine lv_lstore (lv' := [(8, .long (jl ((uu % vv : Nat)))), (0, .long (jl (x))), (2, .long (jl (y))), (4, .long (jl (uu))), (6, .long (jl (vv)))]) hx hb d_M_common_24 hl (by decide) rfl (fun ls hl => ?_)
    refine lv_lload hx hb d_M_common_26 (lv_at hl 4 rfl) ?_
    refine lv_lstore (lv' := [(4, .long (jl (vv))), (8, .long (jl ((uu % vv : Nat)))), (0, .long (jl (x))), (2, .long (jl (y))), (6, .long (jl (vv)))]) hx hb d_M_common_28 hl (by decide) rfl (fun ls hl => ?_)
    refine lv_lload hx hb d_M_common_30 (lv_at hl 1 rfl) ?_
    refine lv_lstore (lv' := [(6, .long (jl ((uu % vv : Nat)))), (4, .long (jl (vv))), (8, .long (jl ((uu % vv : Nat)))), (0, .long (jl (x))), (2, .long (jl (y)))]) hx hb d_M_common_32 hl (by decide) rfl (fun ls hl => ?_)
    refine lv_goto (tgt := 12) hx hb d_M_common_34 (by decide) ?_
    exact ih _ _ _ _ (Nat.mod_lt uu (by omega)) ⟨vv, uu % vv, rfl, ⟨by rw [← hi.1, Nat.gcd_comm uu vv, Nat.gcd_rec vv uu, Nat.gcd_comm], hi.2.2, Nat.le_trans (Nat.le_of_lt (Nat.mod_lt uu (by omega))) hi.2.2⟩, hP, hD, hS, lv_sub hl [3, 4, 1, 0] rfl⟩

set_option maxHeartbeats 4000000 in
set_option maxRecDepth 100000 in
theorem c_M_rootOf (l : Launch) (D : va_G) (cI cJ cF : ClassId) {v : Int} (h0 : 0 ≤ v) (h1 : v ≤ 2147483647) : ∀ sz, Met l y_M_rootOf (Cond.code y_M_rootOf b_M_rootOf 4 (some .long) :: wb) { frames := 0, cells := 0, slots := 0, locals := 0 } (va_Pc [.long (jl (v))] (cpre D cI cJ cF [] sz)) (va_Ql (fun r (u : Unit) => ∃ ww : Int, r = jl ww ∧ 0 ≤ ww ∧ ww ≤ 65536 ∧ ww * ww ≤ v ∧ v < (ww + 1) * (ww + 1)) (fun (u : Unit) tS => va_P D classes [] tS.heap) (va_A [] sz)) 0 0 (va_A [] sz) := by
  refine c_of (Qc := fun sz => va_Ql (fun r (u : Unit) => ∃ ww : Int, r = jl ww ∧ 0 ≤ ww ∧ ww ≤ 65536 ∧ ww * ww ≤ v ∧ v < (ww + 1) * (ww + 1)) (fun (u : Unit) tS => va_P D classes [] tS.heap) (va_A [] sz)) (by decide +kernel) co_M_rootOf (Nat.le_of_ble_eq_true rfl) ?_
  intro pq eq s mq below meth cq A X hK hP hD hS hA hAe ls hl
  obtain ⟨hx, hb, hml, hown, hr, hlocks, hts⟩ := id X
  have hl : lv_has ls 4 [(0, .long (jl (v)))] := hl
  refine w_lconst (v := 0) hx hb rfl d_M_rootOf_0 ?_
  refine lv_lstore_n (lv' := [(2, .long (jl (0))), (0, .long (jl (v)))]) hx hb d_M_rootOf_1 rfl hl (by decide) rfl (fun ls hl => ?_)
  refine lpn (I := fun nlp H locs ls => ∃ (ww : Int), (v + 1 - ww).toNat = nlp ∧ (0 ≤ ww ∧ ww ≤ v ∧ ww * ww ≤ v) ∧ va_P D classes [] H ∧ va_D A [] ∧ va_S A s.heap H locs ∧ lv_has ls 4 [(0, .long (jl (v))), (2, .long (jl (ww)))]) ?_ _ _ _ _ ⟨0, rfl, ⟨by decide, h0, by omega⟩, hP, hD, hS, lv_sub hl [1, 0] rfl⟩
  rintro nlp H locs ls ⟨ww, rfl, hi, hP, hD, hS, hl⟩ ih
  obtain ⟨i1, i2, i3⟩ := hi
  have i4 : ww ≤ 65536 := by
    rcases Int.lt_or_le 65536 ww with z | z
    · have := fm_sq_le (show (0 : Int) ≤ 65537 by decide) (show 65537 ≤ ww by omega); omega
    · exact z
  have i5 := Int.mul_le_mul (show ww + 1 ≤ 65537 by omega) (show ww + 1 ≤ 65537 by omega) (by omega) (by decide)
  have i6 := Int.mul_nonneg (show 0 ≤ ww + 1 by omega) (show 0 ≤ ww + 1 by omega)
  refine lv_lload_n hx hb d_M_rootOf_2 rfl (lv_at hl 1 rfl) ?_
  refine w_lconst (v := 1) hx hb rfl d_M_rootOf_3 ?_
  refine wl_add hx hb d_M_rootOf_4 ?_
  refine lv_lload_n hx hb d_M_rootOf_5 rfl (lv_at hl 1 rfl) ?_
  refine w_lconst (v := 1) hx hb rfl d_M_rootOf_6 ?_
  refine wl_add hx hb d_M_rootOf_7 ?_
  refine wl_mul hx hb d_M_rootOf_8 ?_
  refine lv_lload_n hx hb d_M_rootOf_9 rfl (lv_at hl 0 rfl) ?_
  refine wl_cgt hx hb ⟨by omega, by omega⟩ ⟨by omega, by omega⟩ d_M_rootOf_10 d_M_rootOf_11 (tgt := 21) (by decide) (fun h_1 => ?_) (fun h_1 => ?_)
  · refine lv_lload_n hx hb d_M_rootOf_21 rfl (lv_at hl 1 rfl) ?_
    exact rt_l X hAe hS () ⟨ww, rfl, i1, i4, i3, by omega⟩ hP d_M_rootOf_22
  · refine lv_lload_n hx hb d_M_rootOf_14 rfl (lv_at hl 1 rfl) ?_
    refine w_lconst (v := 1) hx hb rfl d_M_rootOf_15 ?_
    refine wl_add hx hb d_M_rootOf_16 ?_
    refine lv_lstore_n (lv' := [(2, .long (jl ((ww) + (1)))), (0, .long (jl (v)))]) hx hb d_M_rootOf_17 rfl hl (by decide) rfl (fun ls hl => ?_)
    refine lv_goto (tgt := 2) hx hb d_M_rootOf_18 (by decide) ?_
    exact ih _ _ _ _ (by omega) ⟨ww + 1, rfl, ⟨by omega, by have := Int.mul_le_mul_of_nonneg_left (show 1 ≤ ww + 1 by omega) (show 0 ≤ ww + 1 by omega); omega, by omega⟩, hP, hD, hS, lv_sub hl [1, 0] rfl⟩
